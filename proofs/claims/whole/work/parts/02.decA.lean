theorem dX0_init_0 : decode cX0_init 0 = .ok (.aload_n 0, 1) := by decide +kernel
theorem dX0_init_1 : decode cX0_init 1 = .ok (.invokespecial 3, 3) := by decide +kernel
theorem dX0_init_4 : decode cX0_init 4 = .ok (.aload_n 0, 1) := by decide +kernel
theorem dX0_init_5 : decode cX0_init 5 = .ok (.sipush 160, 3) := by decide +kernel
theorem dX0_init_8 : decode cX0_init 8 = .ok (.newarray .int, 2) := by decide +kernel
theorem dX0_init_10 : decode cX0_init 10 = .ok (.putfield 9, 3) := by decide +kernel
theorem dX0_init_13 : decode cX0_init 13 = .ok (.return_, 1) := by decide +kernel
theorem dX0_takes_0 : decode cX0_takes 0 = .ok (.aload_n 0, 1) := by decide +kernel
theorem dX0_takes_1 : decode cX0_takes 1 = .ok (.getfield 15, 3) := by decide +kernel
theorem dX0_takes_4 : decode cX0_takes 4 = .ok (.sipush 160, 3) := by decide +kernel
theorem dX0_takes_7 : decode cX0_takes 7 = .ok (.if_icmp .lt 5, 3) := by decide +kernel
theorem dX0_takes_10 : decode cX0_takes 10 = .ok (.iconst 0, 1) := by decide +kernel
theorem dX0_takes_11 : decode cX0_takes 11 = .ok (.ireturn, 1) := by decide +kernel
theorem dX0_takes_12 : decode cX0_takes 12 = .ok (.aload_n 0, 1) := by decide +kernel
theorem dX0_takes_13 : decode cX0_takes 13 = .ok (.getfield 9, 3) := by decide +kernel
theorem dX0_takes_16 : decode cX0_takes 16 = .ok (.aload_n 0, 1) := by decide +kernel
theorem dX0_takes_17 : decode cX0_takes 17 = .ok (.getfield 15, 3) := by decide +kernel
theorem dX0_takes_20 : decode cX0_takes 20 = .ok (.iload_n 1, 1) := by decide +kernel
theorem dX0_takes_21 : decode cX0_takes 21 = .ok (.iastore, 1) := by decide +kernel
theorem dX0_takes_22 : decode cX0_takes 22 = .ok (.aload_n 0, 1) := by decide +kernel
theorem dX0_takes_23 : decode cX0_takes 23 = .ok (.dup, 1) := by decide +kernel
theorem dX0_takes_24 : decode cX0_takes 24 = .ok (.getfield 15, 3) := by decide +kernel
theorem dX0_takes_27 : decode cX0_takes 27 = .ok (.iconst 1, 1) := by decide +kernel
theorem dX0_takes_28 : decode cX0_takes 28 = .ok (.iadd, 1) := by decide +kernel
theorem dX0_takes_29 : decode cX0_takes 29 = .ok (.putfield 15, 3) := by decide +kernel
theorem dX0_takes_32 : decode cX0_takes 32 = .ok (.iconst 1, 1) := by decide +kernel
theorem dX0_takes_33 : decode cX0_takes 33 = .ok (.ireturn, 1) := by decide +kernel
theorem dX0_reads_0 : decode cX0_reads 0 = .ok (.aload_n 0, 1) := by decide +kernel
theorem dX0_reads_1 : decode cX0_reads 1 = .ok (.aload_n 1, 1) := by decide +kernel
theorem dX0_reads_2 : decode cX0_reads 2 = .ok (.putfield 19, 3) := by decide +kernel
theorem dX0_reads_5 : decode cX0_reads 5 = .ok (.aload_n 0, 1) := by decide +kernel
theorem dX0_reads_6 : decode cX0_reads 6 = .ok (.getfield 19, 3) := by decide +kernel
theorem dX0_reads_9 : decode cX0_reads 9 = .ok (.invokevirtual 23, 3) := by decide +kernel
theorem dX0_reads_12 : decode cX0_reads 12 = .ok (.aload_n 0, 1) := by decide +kernel
theorem dX0_reads_13 : decode cX0_reads 13 = .ok (.iconst 0, 1) := by decide +kernel
theorem dX0_reads_14 : decode cX0_reads 14 = .ok (.putfield 28, 3) := by decide +kernel
theorem dX0_reads_17 : decode cX0_reads 17 = .ok (.aload_n 0, 1) := by decide +kernel
theorem dX0_reads_18 : decode cX0_reads 18 = .ok (.iconst 0, 1) := by decide +kernel
theorem dX0_reads_19 : decode cX0_reads 19 = .ok (.putfield 31, 3) := by decide +kernel
theorem dX0_reads_22 : decode cX0_reads 22 = .ok (.aload_n 0, 1) := by decide +kernel
theorem dX0_reads_23 : decode cX0_reads 23 = .ok (.iconst (-1), 1) := by decide +kernel
theorem dX0_reads_24 : decode cX0_reads 24 = .ok (.putfield 34, 3) := by decide +kernel
theorem dX0_reads_27 : decode cX0_reads 27 = .ok (.aload_n 0, 1) := by decide +kernel
theorem dX0_reads_28 : decode cX0_reads 28 = .ok (.invokevirtual 37, 3) := by decide +kernel
theorem dX0_reads_31 : decode cX0_reads 31 = .ok (.iconst 0, 1) := by decide +kernel
theorem dX0_reads_32 : decode cX0_reads 32 = .ok (.istore_n 2, 1) := by decide +kernel
theorem dX0_reads_33 : decode cX0_reads 33 = .ok (.iload_n 2, 1) := by decide +kernel
theorem dX0_reads_34 : decode cX0_reads 34 = .ok (.iconst 2, 1) := by decide +kernel
theorem dX0_reads_35 : decode cX0_reads 35 = .ok (.if_icmp .gt 35, 3) := by decide +kernel
theorem dX0_reads_38 : decode cX0_reads 38 = .ok (.aload_n 0, 1) := by decide +kernel
theorem dX0_reads_39 : decode cX0_reads 39 = .ok (.bipush 6, 2) := by decide +kernel
theorem dX0_reads_41 : decode cX0_reads 41 = .ok (.iload_n 2, 1) := by decide +kernel
theorem dX0_reads_42 : decode cX0_reads 42 = .ok (.iadd, 1) := by decide +kernel
theorem dX0_reads_43 : decode cX0_reads 43 = .ok (.invokevirtual 40, 3) := by decide +kernel
theorem dX0_reads_46 : decode cX0_reads 46 = .ok (.aload_n 0, 1) := by decide +kernel
theorem dX0_reads_47 : decode cX0_reads 47 = .ok (.invokevirtual 44, 3) := by decide +kernel
theorem dX0_reads_50 : decode cX0_reads 50 = .ok (.aload_n 0, 1) := by decide +kernel
theorem dX0_reads_51 : decode cX0_reads 51 = .ok (.bipush 59, 2) := by decide +kernel
theorem dX0_reads_53 : decode cX0_reads 53 = .ok (.invokevirtual 40, 3) := by decide +kernel
theorem dX0_reads_56 : decode cX0_reads 56 = .ok (.aload_n 0, 1) := by decide +kernel
theorem dX0_reads_57 : decode cX0_reads 57 = .ok (.getfield 19, 3) := by decide +kernel
theorem dX0_reads_60 : decode cX0_reads 60 = .ok (.iload_n 2, 1) := by decide +kernel
theorem dX0_reads_61 : decode cX0_reads 61 = .ok (.invokevirtual 47, 3) := by decide +kernel
theorem dX0_reads_64 : decode cX0_reads 64 = .ok (.iinc 2 1, 3) := by decide +kernel
theorem dX0_reads_67 : decode cX0_reads 67 = .ok (.goto (-34), 3) := by decide +kernel
theorem dX0_reads_70 : decode cX0_reads 70 = .ok (.aload_n 0, 1) := by decide +kernel
theorem dX0_reads_71 : decode cX0_reads 71 = .ok (.getfield 50, 3) := by decide +kernel
theorem dX0_reads_74 : decode cX0_reads 74 = .ok (.bipush 13, 2) := by decide +kernel
theorem dX0_reads_76 : decode cX0_reads 76 = .ok (.if_icmp .eq 7, 3) := by decide +kernel
theorem dX0_reads_79 : decode cX0_reads 79 = .ok (.aload_n 0, 1) := by decide +kernel
theorem dX0_reads_80 : decode cX0_reads 80 = .ok (.invokevirtual 53, 3) := by decide +kernel
theorem dX0_reads_83 : decode cX0_reads 83 = .ok (.aload_n 0, 1) := by decide +kernel
theorem dX0_reads_84 : decode cX0_reads 84 = .ok (.getfield 34, 3) := by decide +kernel
theorem dX0_reads_87 : decode cX0_reads 87 = .ok (.ireturn, 1) := by decide +kernel
theorem dX0_fails_0 : decode cX0_fails 0 = .ok (.aload_n 0, 1) := by decide +kernel
theorem dX0_fails_1 : decode cX0_fails 1 = .ok (.getfield 34, 3) := by decide +kernel
theorem dX0_fails_4 : decode cX0_fails 4 = .ok (.iconst (-1), 1) := by decide +kernel
theorem dX0_fails_5 : decode cX0_fails 5 = .ok (.if_icmp .ne 11, 3) := by decide +kernel
theorem dX0_fails_8 : decode cX0_fails 8 = .ok (.aload_n 0, 1) := by decide +kernel
theorem dX0_fails_9 : decode cX0_fails 9 = .ok (.aload_n 0, 1) := by decide +kernel
theorem dX0_fails_10 : decode cX0_fails 10 = .ok (.getfield 56, 3) := by decide +kernel
theorem dX0_fails_13 : decode cX0_fails 13 = .ok (.putfield 34, 3) := by decide +kernel
theorem dX0_fails_16 : decode cX0_fails 16 = .ok (.aload_n 0, 1) := by decide +kernel
theorem dX0_fails_17 : decode cX0_fails 17 = .ok (.bipush 14, 2) := by decide +kernel
theorem dX0_fails_19 : decode cX0_fails 19 = .ok (.putfield 50, 3) := by decide +kernel
theorem dX0_fails_22 : decode cX0_fails 22 = .ok (.return_, 1) := by decide +kernel
theorem dX0_needs_0 : decode cX0_needs 0 = .ok (.aload_n 0, 1) := by decide +kernel
theorem dX0_needs_1 : decode cX0_needs 1 = .ok (.getfield 50, 3) := by decide +kernel
theorem dX0_needs_4 : decode cX0_needs 4 = .ok (.iload_n 1, 1) := by decide +kernel
theorem dX0_needs_5 : decode cX0_needs 5 = .ok (.if_icmp .ne 10, 3) := by decide +kernel
theorem dX0_needs_8 : decode cX0_needs 8 = .ok (.aload_n 0, 1) := by decide +kernel
theorem dX0_needs_9 : decode cX0_needs 9 = .ok (.invokevirtual 37, 3) := by decide +kernel
theorem dX0_needs_12 : decode cX0_needs 12 = .ok (.goto 7, 3) := by decide +kernel
theorem dX0_needs_15 : decode cX0_needs 15 = .ok (.aload_n 0, 1) := by decide +kernel
theorem dX0_needs_16 : decode cX0_needs 16 = .ok (.invokevirtual 53, 3) := by decide +kernel
theorem dX0_needs_19 : decode cX0_needs 19 = .ok (.return_, 1) := by decide +kernel
theorem dX0_readOr_0 : decode cX0_readOr 0 = .ok (.aload_n 0, 1) := by decide +kernel
theorem dX0_readOr_1 : decode cX0_readOr 1 = .ok (.invokevirtual 59, 3) := by decide +kernel
theorem dX0_readOr_4 : decode cX0_readOr 4 = .ok (.iconst 0, 1) := by decide +kernel
theorem dX0_readOr_5 : decode cX0_readOr 5 = .ok (.istore_n 1, 1) := by decide +kernel
theorem dX0_readOr_6 : decode cX0_readOr 6 = .ok (.iload_n 1, 1) := by decide +kernel
theorem dX0_readOr_7 : decode cX0_readOr 7 = .ok (.sipush 160, 3) := by decide +kernel
theorem dX0_readOr_10 : decode cX0_readOr 10 = .ok (.if_icmp .ge 35, 3) := by decide +kernel
theorem dX0_readOr_13 : decode cX0_readOr 13 = .ok (.aload_n 0, 1) := by decide +kernel
theorem dX0_readOr_14 : decode cX0_readOr 14 = .ok (.getfield 50, 3) := by decide +kernel
theorem dX0_readOr_17 : decode cX0_readOr 17 = .ok (.bipush 9, 2) := by decide +kernel
theorem dX0_readOr_19 : decode cX0_readOr 19 = .ok (.if_icmp .ne 26, 3) := by decide +kernel
theorem dX0_readOr_22 : decode cX0_readOr 22 = .ok (.aload_n 0, 1) := by decide +kernel
theorem dX0_readOr_23 : decode cX0_readOr 23 = .ok (.invokevirtual 37, 3) := by decide +kernel
theorem dX0_readOr_26 : decode cX0_readOr 26 = .ok (.aload_n 0, 1) := by decide +kernel
theorem dX0_readOr_27 : decode cX0_readOr 27 = .ok (.invokevirtual 59, 3) := by decide +kernel
theorem dX0_readOr_30 : decode cX0_readOr 30 = .ok (.aload_n 0, 1) := by decide +kernel
theorem dX0_readOr_31 : decode cX0_readOr 31 = .ok (.getfield 19, 3) := by decide +kernel
theorem dX0_readOr_34 : decode cX0_readOr 34 = .ok (.bipush (-7), 2) := by decide +kernel
theorem dX0_readOr_36 : decode cX0_readOr 36 = .ok (.invokevirtual 62, 3) := by decide +kernel
theorem dX0_readOr_39 : decode cX0_readOr 39 = .ok (.iinc 1 1, 3) := by decide +kernel
theorem dX0_readOr_42 : decode cX0_readOr 42 = .ok (.goto (-36), 3) := by decide +kernel
theorem dX0_readOr_45 : decode cX0_readOr 45 = .ok (.return_, 1) := by decide +kernel
theorem dX0_readAnd_0 : decode cX0_readAnd 0 = .ok (.aload_n 0, 1) := by decide +kernel
theorem dX0_readAnd_1 : decode cX0_readAnd 1 = .ok (.invokevirtual 65, 3) := by decide +kernel
theorem dX0_readAnd_4 : decode cX0_readAnd 4 = .ok (.iconst 0, 1) := by decide +kernel
theorem dX0_readAnd_5 : decode cX0_readAnd 5 = .ok (.istore_n 1, 1) := by decide +kernel
theorem dX0_readAnd_6 : decode cX0_readAnd 6 = .ok (.iload_n 1, 1) := by decide +kernel
theorem dX0_readAnd_7 : decode cX0_readAnd 7 = .ok (.sipush 160, 3) := by decide +kernel
theorem dX0_readAnd_10 : decode cX0_readAnd 10 = .ok (.if_icmp .ge 35, 3) := by decide +kernel
theorem dX0_readAnd_13 : decode cX0_readAnd 13 = .ok (.aload_n 0, 1) := by decide +kernel
theorem dX0_readAnd_14 : decode cX0_readAnd 14 = .ok (.getfield 50, 3) := by decide +kernel
theorem dX0_readAnd_17 : decode cX0_readAnd 17 = .ok (.bipush 10, 2) := by decide +kernel
theorem dX0_readAnd_19 : decode cX0_readAnd 19 = .ok (.if_icmp .ne 26, 3) := by decide +kernel
theorem dX0_readAnd_22 : decode cX0_readAnd 22 = .ok (.aload_n 0, 1) := by decide +kernel
theorem dX0_readAnd_23 : decode cX0_readAnd 23 = .ok (.invokevirtual 37, 3) := by decide +kernel
theorem dX0_readAnd_26 : decode cX0_readAnd 26 = .ok (.aload_n 0, 1) := by decide +kernel
theorem dX0_readAnd_27 : decode cX0_readAnd 27 = .ok (.invokevirtual 65, 3) := by decide +kernel
theorem dX0_readAnd_30 : decode cX0_readAnd 30 = .ok (.aload_n 0, 1) := by decide +kernel
theorem dX0_readAnd_31 : decode cX0_readAnd 31 = .ok (.getfield 19, 3) := by decide +kernel
theorem dX0_readAnd_34 : decode cX0_readAnd 34 = .ok (.bipush (-8), 2) := by decide +kernel
theorem dX0_readAnd_36 : decode cX0_readAnd 36 = .ok (.invokevirtual 62, 3) := by decide +kernel
theorem dX0_readAnd_39 : decode cX0_readAnd 39 = .ok (.iinc 1 1, 3) := by decide +kernel
theorem dX0_readAnd_42 : decode cX0_readAnd 42 = .ok (.goto (-36), 3) := by decide +kernel
theorem dX0_readAnd_45 : decode cX0_readAnd 45 = .ok (.return_, 1) := by decide +kernel
theorem dX0_readNot_0 : decode cX0_readNot 0 = .ok (.aload_n 0, 1) := by decide +kernel
theorem dX0_readNot_1 : decode cX0_readNot 1 = .ok (.getfield 50, 3) := by decide +kernel
theorem dX0_readNot_4 : decode cX0_readNot 4 = .ok (.bipush 11, 2) := by decide +kernel
theorem dX0_readNot_6 : decode cX0_readNot 6 = .ok (.if_icmp .eq 10, 3) := by decide +kernel
theorem dX0_readNot_9 : decode cX0_readNot 9 = .ok (.aload_n 0, 1) := by decide +kernel
theorem dX0_readNot_10 : decode cX0_readNot 10 = .ok (.invokevirtual 68, 3) := by decide +kernel
theorem dX0_readNot_13 : decode cX0_readNot 13 = .ok (.goto 41, 3) := by decide +kernel
theorem dX0_readNot_16 : decode cX0_readNot 16 = .ok (.aload_n 0, 1) := by decide +kernel
theorem dX0_readNot_17 : decode cX0_readNot 17 = .ok (.invokevirtual 71, 3) := by decide +kernel
theorem dX0_readNot_20 : decode cX0_readNot 20 = .ok (.ifCond .eq 34, 3) := by decide +kernel
theorem dX0_readNot_23 : decode cX0_readNot 23 = .ok (.aload_n 0, 1) := by decide +kernel
theorem dX0_readNot_24 : decode cX0_readNot 24 = .ok (.invokevirtual 65, 3) := by decide +kernel
theorem dX0_readNot_27 : decode cX0_readNot 27 = .ok (.aload_n 0, 1) := by decide +kernel
theorem dX0_readNot_28 : decode cX0_readNot 28 = .ok (.getfield 19, 3) := by decide +kernel
theorem dX0_readNot_31 : decode cX0_readNot 31 = .ok (.iconst 0, 1) := by decide +kernel
theorem dX0_readNot_32 : decode cX0_readNot 32 = .ok (.invokevirtual 62, 3) := by decide +kernel
theorem dX0_readNot_35 : decode cX0_readNot 35 = .ok (.aload_n 0, 1) := by decide +kernel
theorem dX0_readNot_36 : decode cX0_readNot 36 = .ok (.getfield 19, 3) := by decide +kernel
theorem dX0_readNot_39 : decode cX0_readNot 39 = .ok (.bipush (-10), 2) := by decide +kernel
theorem dX0_readNot_41 : decode cX0_readNot 41 = .ok (.invokevirtual 62, 3) := by decide +kernel
theorem dX0_readNot_44 : decode cX0_readNot 44 = .ok (.aload_n 0, 1) := by decide +kernel
theorem dX0_readNot_45 : decode cX0_readNot 45 = .ok (.dup, 1) := by decide +kernel
theorem dX0_readNot_46 : decode cX0_readNot 46 = .ok (.getfield 31, 3) := by decide +kernel
theorem dX0_readNot_49 : decode cX0_readNot 49 = .ok (.iconst 1, 1) := by decide +kernel
theorem dX0_readNot_50 : decode cX0_readNot 50 = .ok (.isub, 1) := by decide +kernel
theorem dX0_readNot_51 : decode cX0_readNot 51 = .ok (.putfield 31, 3) := by decide +kernel
theorem dX0_readNot_54 : decode cX0_readNot 54 = .ok (.return_, 1) := by decide +kernel
theorem dX0_readCompared_0 : decode cX0_readCompared 0 = .ok (.aload_n 0, 1) := by decide +kernel
theorem dX0_readCompared_1 : decode cX0_readCompared 1 = .ok (.invokevirtual 75, 3) := by decide +kernel
theorem dX0_readCompared_4 : decode cX0_readCompared 4 = .ok (.aload_n 0, 1) := by decide +kernel
theorem dX0_readCompared_5 : decode cX0_readCompared 5 = .ok (.getfield 50, 3) := by decide +kernel
theorem dX0_readCompared_8 : decode cX0_readCompared 8 = .ok (.bipush 60, 2) := by decide +kernel
theorem dX0_readCompared_10 : decode cX0_readCompared 10 = .ok (.if_icmp .eq 12, 3) := by decide +kernel
theorem dX0_readCompared_13 : decode cX0_readCompared 13 = .ok (.aload_n 0, 1) := by decide +kernel
theorem dX0_readCompared_14 : decode cX0_readCompared 14 = .ok (.getfield 50, 3) := by decide +kernel
theorem dX0_readCompared_17 : decode cX0_readCompared 17 = .ok (.bipush 61, 2) := by decide +kernel
theorem dX0_readCompared_19 : decode cX0_readCompared 19 = .ok (.if_icmp .ne 36, 3) := by decide +kernel
theorem dX0_readCompared_22 : decode cX0_readCompared 22 = .ok (.aload_n 0, 1) := by decide +kernel
theorem dX0_readCompared_23 : decode cX0_readCompared 23 = .ok (.getfield 50, 3) := by decide +kernel
theorem dX0_readCompared_26 : decode cX0_readCompared 26 = .ok (.bipush 60, 2) := by decide +kernel
theorem dX0_readCompared_28 : decode cX0_readCompared 28 = .ok (.if_icmp .ne 8, 3) := by decide +kernel
theorem dX0_readCompared_31 : decode cX0_readCompared 31 = .ok (.bipush (-9), 2) := by decide +kernel
theorem dX0_readCompared_33 : decode cX0_readCompared 33 = .ok (.goto 5, 3) := by decide +kernel
theorem dX0_readCompared_36 : decode cX0_readCompared 36 = .ok (.bipush (-10), 2) := by decide +kernel
theorem dX0_readCompared_38 : decode cX0_readCompared 38 = .ok (.istore_n 1, 1) := by decide +kernel
theorem dX0_readCompared_39 : decode cX0_readCompared 39 = .ok (.aload_n 0, 1) := by decide +kernel
theorem dX0_readCompared_40 : decode cX0_readCompared 40 = .ok (.invokevirtual 37, 3) := by decide +kernel
theorem dX0_readCompared_43 : decode cX0_readCompared 43 = .ok (.aload_n 0, 1) := by decide +kernel
theorem dX0_readCompared_44 : decode cX0_readCompared 44 = .ok (.invokevirtual 75, 3) := by decide +kernel
theorem dX0_readCompared_47 : decode cX0_readCompared 47 = .ok (.aload_n 0, 1) := by decide +kernel
theorem dX0_readCompared_48 : decode cX0_readCompared 48 = .ok (.getfield 19, 3) := by decide +kernel
theorem dX0_readCompared_51 : decode cX0_readCompared 51 = .ok (.iload_n 1, 1) := by decide +kernel
theorem dX0_readCompared_52 : decode cX0_readCompared 52 = .ok (.invokevirtual 62, 3) := by decide +kernel
theorem dX0_readCompared_55 : decode cX0_readCompared 55 = .ok (.return_, 1) := by decide +kernel
theorem dX0_readSum_0 : decode cX0_readSum 0 = .ok (.aload_n 0, 1) := by decide +kernel
theorem dX0_readSum_1 : decode cX0_readSum 1 = .ok (.invokevirtual 78, 3) := by decide +kernel
theorem dX0_readSum_4 : decode cX0_readSum 4 = .ok (.iconst 0, 1) := by decide +kernel
theorem dX0_readSum_5 : decode cX0_readSum 5 = .ok (.istore_n 1, 1) := by decide +kernel
theorem dX0_readSum_6 : decode cX0_readSum 6 = .ok (.iload_n 1, 1) := by decide +kernel
theorem dX0_readSum_7 : decode cX0_readSum 7 = .ok (.sipush 160, 3) := by decide +kernel
theorem dX0_readSum_10 : decode cX0_readSum 10 = .ok (.if_icmp .ge 60, 3) := by decide +kernel
theorem dX0_readSum_13 : decode cX0_readSum 13 = .ok (.aload_n 0, 1) := by decide +kernel
theorem dX0_readSum_14 : decode cX0_readSum 14 = .ok (.getfield 50, 3) := by decide +kernel
theorem dX0_readSum_17 : decode cX0_readSum 17 = .ok (.bipush 43, 2) := by decide +kernel
theorem dX0_readSum_19 : decode cX0_readSum 19 = .ok (.if_icmp .eq 12, 3) := by decide +kernel
theorem dX0_readSum_22 : decode cX0_readSum 22 = .ok (.aload_n 0, 1) := by decide +kernel
theorem dX0_readSum_23 : decode cX0_readSum 23 = .ok (.getfield 50, 3) := by decide +kernel
theorem dX0_readSum_26 : decode cX0_readSum 26 = .ok (.bipush 45, 2) := by decide +kernel
theorem dX0_readSum_28 : decode cX0_readSum 28 = .ok (.if_icmp .ne 42, 3) := by decide +kernel
theorem dX0_readSum_31 : decode cX0_readSum 31 = .ok (.aload_n 0, 1) := by decide +kernel
theorem dX0_readSum_32 : decode cX0_readSum 32 = .ok (.getfield 50, 3) := by decide +kernel
theorem dX0_readSum_35 : decode cX0_readSum 35 = .ok (.bipush 43, 2) := by decide +kernel
theorem dX0_readSum_37 : decode cX0_readSum 37 = .ok (.if_icmp .ne 8, 3) := by decide +kernel
theorem dX0_readSum_40 : decode cX0_readSum 40 = .ok (.bipush (-11), 2) := by decide +kernel
theorem dX0_readSum_42 : decode cX0_readSum 42 = .ok (.goto 5, 3) := by decide +kernel
theorem dX0_readSum_45 : decode cX0_readSum 45 = .ok (.bipush (-12), 2) := by decide +kernel
theorem dX0_readSum_47 : decode cX0_readSum 47 = .ok (.istore_n 2, 1) := by decide +kernel
theorem dX0_readSum_48 : decode cX0_readSum 48 = .ok (.aload_n 0, 1) := by decide +kernel
theorem dX0_readSum_49 : decode cX0_readSum 49 = .ok (.invokevirtual 37, 3) := by decide +kernel
theorem dX0_readSum_52 : decode cX0_readSum 52 = .ok (.aload_n 0, 1) := by decide +kernel
theorem dX0_readSum_53 : decode cX0_readSum 53 = .ok (.invokevirtual 78, 3) := by decide +kernel
theorem dX0_readSum_56 : decode cX0_readSum 56 = .ok (.aload_n 0, 1) := by decide +kernel
theorem dX0_readSum_57 : decode cX0_readSum 57 = .ok (.getfield 19, 3) := by decide +kernel
theorem dX0_readSum_60 : decode cX0_readSum 60 = .ok (.iload_n 2, 1) := by decide +kernel
theorem dX0_readSum_61 : decode cX0_readSum 61 = .ok (.invokevirtual 62, 3) := by decide +kernel
theorem dX0_readSum_64 : decode cX0_readSum 64 = .ok (.iinc 1 1, 3) := by decide +kernel
theorem dX0_readSum_67 : decode cX0_readSum 67 = .ok (.goto (-61), 3) := by decide +kernel
theorem dX0_readSum_70 : decode cX0_readSum 70 = .ok (.return_, 1) := by decide +kernel
theorem dX0_readTerm_0 : decode cX0_readTerm 0 = .ok (.aload_n 0, 1) := by decide +kernel
theorem dX0_readTerm_1 : decode cX0_readTerm 1 = .ok (.invokevirtual 81, 3) := by decide +kernel
theorem dX0_readTerm_4 : decode cX0_readTerm 4 = .ok (.iconst 0, 1) := by decide +kernel
theorem dX0_readTerm_5 : decode cX0_readTerm 5 = .ok (.istore_n 1, 1) := by decide +kernel
theorem dX0_readTerm_6 : decode cX0_readTerm 6 = .ok (.iload_n 1, 1) := by decide +kernel
theorem dX0_readTerm_7 : decode cX0_readTerm 7 = .ok (.sipush 160, 3) := by decide +kernel
theorem dX0_readTerm_10 : decode cX0_readTerm 10 = .ok (.if_icmp .ge 35, 3) := by decide +kernel
theorem dX0_readTerm_13 : decode cX0_readTerm 13 = .ok (.aload_n 0, 1) := by decide +kernel
theorem dX0_readTerm_14 : decode cX0_readTerm 14 = .ok (.getfield 50, 3) := by decide +kernel
theorem dX0_readTerm_17 : decode cX0_readTerm 17 = .ok (.bipush 42, 2) := by decide +kernel
theorem dX0_readTerm_19 : decode cX0_readTerm 19 = .ok (.if_icmp .ne 26, 3) := by decide +kernel
theorem dX0_readTerm_22 : decode cX0_readTerm 22 = .ok (.aload_n 0, 1) := by decide +kernel
theorem dX0_readTerm_23 : decode cX0_readTerm 23 = .ok (.invokevirtual 37, 3) := by decide +kernel
theorem dX0_readTerm_26 : decode cX0_readTerm 26 = .ok (.aload_n 0, 1) := by decide +kernel
theorem dX0_readTerm_27 : decode cX0_readTerm 27 = .ok (.invokevirtual 81, 3) := by decide +kernel
theorem dX0_readTerm_30 : decode cX0_readTerm 30 = .ok (.aload_n 0, 1) := by decide +kernel
theorem dX0_readTerm_31 : decode cX0_readTerm 31 = .ok (.getfield 19, 3) := by decide +kernel
theorem dX0_readTerm_34 : decode cX0_readTerm 34 = .ok (.bipush (-13), 2) := by decide +kernel
theorem dX0_readTerm_36 : decode cX0_readTerm 36 = .ok (.invokevirtual 62, 3) := by decide +kernel
theorem dX0_readTerm_39 : decode cX0_readTerm 39 = .ok (.iinc 1 1, 3) := by decide +kernel
theorem dX0_readTerm_42 : decode cX0_readTerm 42 = .ok (.goto (-36), 3) := by decide +kernel
theorem dX0_readTerm_45 : decode cX0_readTerm 45 = .ok (.return_, 1) := by decide +kernel
theorem dX0_readOne_0 : decode cX0_readOne 0 = .ok (.aload_n 0, 1) := by decide +kernel
theorem dX0_readOne_1 : decode cX0_readOne 1 = .ok (.getfield 50, 3) := by decide +kernel
theorem dX0_readOne_4 : decode cX0_readOne 4 = .ok (.bipush 12, 2) := by decide +kernel
theorem dX0_readOne_6 : decode cX0_readOne 6 = .ok (.if_icmp .ne 21, 3) := by decide +kernel
theorem dX0_readOne_9 : decode cX0_readOne 9 = .ok (.aload_n 0, 1) := by decide +kernel
theorem dX0_readOne_10 : decode cX0_readOne 10 = .ok (.getfield 19, 3) := by decide +kernel
theorem dX0_readOne_13 : decode cX0_readOne 13 = .ok (.aload_n 0, 1) := by decide +kernel
theorem dX0_readOne_14 : decode cX0_readOne 14 = .ok (.getfield 84, 3) := by decide +kernel
theorem dX0_readOne_17 : decode cX0_readOne 17 = .ok (.invokevirtual 62, 3) := by decide +kernel
theorem dX0_readOne_20 : decode cX0_readOne 20 = .ok (.aload_n 0, 1) := by decide +kernel
theorem dX0_readOne_21 : decode cX0_readOne 21 = .ok (.invokevirtual 37, 3) := by decide +kernel
theorem dX0_readOne_24 : decode cX0_readOne 24 = .ok (.goto 71, 3) := by decide +kernel
theorem dX0_readOne_27 : decode cX0_readOne 27 = .ok (.aload_n 0, 1) := by decide +kernel
theorem dX0_readOne_28 : decode cX0_readOne 28 = .ok (.getfield 50, 3) := by decide +kernel
theorem dX0_readOne_31 : decode cX0_readOne 31 = .ok (.iconst 0, 1) := by decide +kernel
theorem dX0_readOne_32 : decode cX0_readOne 32 = .ok (.iconst 5, 1) := by decide +kernel
theorem dX0_readOne_33 : decode cX0_readOne 33 = .ok (.invokestatic 87, 3) := by decide +kernel
theorem dX0_readOne_36 : decode cX0_readOne 36 = .ok (.ifCond .eq 23, 3) := by decide +kernel
theorem dX0_readOne_39 : decode cX0_readOne 39 = .ok (.aload_n 0, 1) := by decide +kernel
theorem dX0_readOne_40 : decode cX0_readOne 40 = .ok (.getfield 19, 3) := by decide +kernel
theorem dX0_readOne_43 : decode cX0_readOne 43 = .ok (.iconst (-1), 1) := by decide +kernel
theorem dX0_readOne_44 : decode cX0_readOne 44 = .ok (.aload_n 0, 1) := by decide +kernel
theorem dX0_readOne_45 : decode cX0_readOne 45 = .ok (.getfield 50, 3) := by decide +kernel
theorem dX0_readOne_48 : decode cX0_readOne 48 = .ok (.isub, 1) := by decide +kernel
theorem dX0_readOne_49 : decode cX0_readOne 49 = .ok (.invokevirtual 62, 3) := by decide +kernel
theorem dX0_readOne_52 : decode cX0_readOne 52 = .ok (.aload_n 0, 1) := by decide +kernel
theorem dX0_readOne_53 : decode cX0_readOne 53 = .ok (.invokevirtual 37, 3) := by decide +kernel
theorem dX0_readOne_56 : decode cX0_readOne 56 = .ok (.goto 39, 3) := by decide +kernel
theorem dX0_readOne_59 : decode cX0_readOne 59 = .ok (.aload_n 0, 1) := by decide +kernel
theorem dX0_readOne_60 : decode cX0_readOne 60 = .ok (.getfield 50, 3) := by decide +kernel
theorem dX0_readOne_63 : decode cX0_readOne 63 = .ok (.bipush 45, 2) := by decide +kernel
theorem dX0_readOne_65 : decode cX0_readOne 65 = .ok (.if_icmp .ne 10, 3) := by decide +kernel
theorem dX0_readOne_68 : decode cX0_readOne 68 = .ok (.aload_n 0, 1) := by decide +kernel
theorem dX0_readOne_69 : decode cX0_readOne 69 = .ok (.invokevirtual 91, 3) := by decide +kernel
theorem dX0_readOne_72 : decode cX0_readOne 72 = .ok (.goto 23, 3) := by decide +kernel
theorem dX0_readOne_75 : decode cX0_readOne 75 = .ok (.aload_n 0, 1) := by decide +kernel
theorem dX0_readOne_76 : decode cX0_readOne 76 = .ok (.getfield 50, 3) := by decide +kernel
theorem dX0_readOne_79 : decode cX0_readOne 79 = .ok (.bipush 40, 2) := by decide +kernel
theorem dX0_readOne_81 : decode cX0_readOne 81 = .ok (.if_icmp .ne 10, 3) := by decide +kernel
theorem dX0_readOne_84 : decode cX0_readOne 84 = .ok (.aload_n 0, 1) := by decide +kernel
theorem dX0_readOne_85 : decode cX0_readOne 85 = .ok (.invokevirtual 94, 3) := by decide +kernel
theorem dX0_readOne_88 : decode cX0_readOne 88 = .ok (.goto 7, 3) := by decide +kernel
theorem dX0_readOne_91 : decode cX0_readOne 91 = .ok (.aload_n 0, 1) := by decide +kernel
theorem dX0_readOne_92 : decode cX0_readOne 92 = .ok (.invokevirtual 53, 3) := by decide +kernel
theorem dX0_readOne_95 : decode cX0_readOne 95 = .ok (.return_, 1) := by decide +kernel
theorem dX0_readMinus_0 : decode cX0_readMinus 0 = .ok (.aload_n 0, 1) := by decide +kernel
theorem dX0_readMinus_1 : decode cX0_readMinus 1 = .ok (.invokevirtual 71, 3) := by decide +kernel
theorem dX0_readMinus_4 : decode cX0_readMinus 4 = .ok (.ifCond .eq 34, 3) := by decide +kernel
theorem dX0_readMinus_7 : decode cX0_readMinus 7 = .ok (.aload_n 0, 1) := by decide +kernel
theorem dX0_readMinus_8 : decode cX0_readMinus 8 = .ok (.getfield 19, 3) := by decide +kernel
theorem dX0_readMinus_11 : decode cX0_readMinus 11 = .ok (.iconst 0, 1) := by decide +kernel
theorem dX0_readMinus_12 : decode cX0_readMinus 12 = .ok (.invokevirtual 62, 3) := by decide +kernel
theorem dX0_readMinus_15 : decode cX0_readMinus 15 = .ok (.aload_n 0, 1) := by decide +kernel
theorem dX0_readMinus_16 : decode cX0_readMinus 16 = .ok (.invokevirtual 81, 3) := by decide +kernel
theorem dX0_readMinus_19 : decode cX0_readMinus 19 = .ok (.aload_n 0, 1) := by decide +kernel
theorem dX0_readMinus_20 : decode cX0_readMinus 20 = .ok (.getfield 19, 3) := by decide +kernel
theorem dX0_readMinus_23 : decode cX0_readMinus 23 = .ok (.bipush (-12), 2) := by decide +kernel
theorem dX0_readMinus_25 : decode cX0_readMinus 25 = .ok (.invokevirtual 62, 3) := by decide +kernel
theorem dX0_readMinus_28 : decode cX0_readMinus 28 = .ok (.aload_n 0, 1) := by decide +kernel
theorem dX0_readMinus_29 : decode cX0_readMinus 29 = .ok (.dup, 1) := by decide +kernel
theorem dX0_readMinus_30 : decode cX0_readMinus 30 = .ok (.getfield 31, 3) := by decide +kernel
theorem dX0_readMinus_33 : decode cX0_readMinus 33 = .ok (.iconst 1, 1) := by decide +kernel
theorem dX0_readMinus_34 : decode cX0_readMinus 34 = .ok (.isub, 1) := by decide +kernel
theorem dX0_readMinus_35 : decode cX0_readMinus 35 = .ok (.putfield 31, 3) := by decide +kernel
theorem dX0_readMinus_38 : decode cX0_readMinus 38 = .ok (.return_, 1) := by decide +kernel
theorem dX0_readBracket_0 : decode cX0_readBracket 0 = .ok (.aload_n 0, 1) := by decide +kernel
theorem dX0_readBracket_1 : decode cX0_readBracket 1 = .ok (.invokevirtual 71, 3) := by decide +kernel
theorem dX0_readBracket_4 : decode cX0_readBracket 4 = .ok (.ifCond .eq 23, 3) := by decide +kernel
theorem dX0_readBracket_7 : decode cX0_readBracket 7 = .ok (.aload_n 0, 1) := by decide +kernel
theorem dX0_readBracket_8 : decode cX0_readBracket 8 = .ok (.invokevirtual 44, 3) := by decide +kernel
theorem dX0_readBracket_11 : decode cX0_readBracket 11 = .ok (.aload_n 0, 1) := by decide +kernel
theorem dX0_readBracket_12 : decode cX0_readBracket 12 = .ok (.bipush 41, 2) := by decide +kernel
theorem dX0_readBracket_14 : decode cX0_readBracket 14 = .ok (.invokevirtual 40, 3) := by decide +kernel
theorem dX0_readBracket_17 : decode cX0_readBracket 17 = .ok (.aload_n 0, 1) := by decide +kernel
theorem dX0_readBracket_18 : decode cX0_readBracket 18 = .ok (.dup, 1) := by decide +kernel
theorem dX0_readBracket_19 : decode cX0_readBracket 19 = .ok (.getfield 31, 3) := by decide +kernel
theorem dX0_readBracket_22 : decode cX0_readBracket 22 = .ok (.iconst 1, 1) := by decide +kernel
theorem dX0_readBracket_23 : decode cX0_readBracket 23 = .ok (.isub, 1) := by decide +kernel
theorem dX0_readBracket_24 : decode cX0_readBracket 24 = .ok (.putfield 31, 3) := by decide +kernel
theorem dX0_readBracket_27 : decode cX0_readBracket 27 = .ok (.return_, 1) := by decide +kernel
theorem dX0_opens_0 : decode cX0_opens 0 = .ok (.aload_n 0, 1) := by decide +kernel
theorem dX0_opens_1 : decode cX0_opens 1 = .ok (.getfield 31, 3) := by decide +kernel
theorem dX0_opens_4 : decode cX0_opens 4 = .ok (.iconst 5, 1) := by decide +kernel
theorem dX0_opens_5 : decode cX0_opens 5 = .ok (.if_icmp .lt 9, 3) := by decide +kernel
theorem dX0_opens_8 : decode cX0_opens 8 = .ok (.aload_n 0, 1) := by decide +kernel
theorem dX0_opens_9 : decode cX0_opens 9 = .ok (.invokevirtual 53, 3) := by decide +kernel
theorem dX0_opens_12 : decode cX0_opens 12 = .ok (.iconst 0, 1) := by decide +kernel
theorem dX0_opens_13 : decode cX0_opens 13 = .ok (.ireturn, 1) := by decide +kernel
theorem dX0_opens_14 : decode cX0_opens 14 = .ok (.aload_n 0, 1) := by decide +kernel
theorem dX0_opens_15 : decode cX0_opens 15 = .ok (.dup, 1) := by decide +kernel
theorem dX0_opens_16 : decode cX0_opens 16 = .ok (.getfield 31, 3) := by decide +kernel
theorem dX0_opens_19 : decode cX0_opens 19 = .ok (.iconst 1, 1) := by decide +kernel
theorem dX0_opens_20 : decode cX0_opens 20 = .ok (.iadd, 1) := by decide +kernel
theorem dX0_opens_21 : decode cX0_opens 21 = .ok (.putfield 31, 3) := by decide +kernel
theorem dX0_opens_24 : decode cX0_opens 24 = .ok (.aload_n 0, 1) := by decide +kernel
theorem dX0_opens_25 : decode cX0_opens 25 = .ok (.invokevirtual 37, 3) := by decide +kernel
theorem dX0_opens_28 : decode cX0_opens 28 = .ok (.iconst 1, 1) := by decide +kernel
theorem dX0_opens_29 : decode cX0_opens 29 = .ok (.ireturn, 1) := by decide +kernel
theorem dX0_next_0 : decode cX0_next 0 = .ok (.aload_n 0, 1) := by decide +kernel
theorem dX0_next_1 : decode cX0_next 1 = .ok (.getfield 28, 3) := by decide +kernel
theorem dX0_next_4 : decode cX0_next 4 = .ok (.aload_n 0, 1) := by decide +kernel
theorem dX0_next_5 : decode cX0_next 5 = .ok (.getfield 15, 3) := by decide +kernel
theorem dX0_next_8 : decode cX0_next 8 = .ok (.if_icmp .ge 44, 3) := by decide +kernel
theorem dX0_next_11 : decode cX0_next 11 = .ok (.aload_n 0, 1) := by decide +kernel
theorem dX0_next_12 : decode cX0_next 12 = .ok (.getfield 9, 3) := by decide +kernel
theorem dX0_next_15 : decode cX0_next 15 = .ok (.aload_n 0, 1) := by decide +kernel
theorem dX0_next_16 : decode cX0_next 16 = .ok (.getfield 28, 3) := by decide +kernel
theorem dX0_next_19 : decode cX0_next 19 = .ok (.iaload, 1) := by decide +kernel
theorem dX0_next_20 : decode cX0_next 20 = .ok (.bipush 32, 2) := by decide +kernel
theorem dX0_next_22 : decode cX0_next 22 = .ok (.if_icmp .eq 17, 3) := by decide +kernel
theorem dX0_next_25 : decode cX0_next 25 = .ok (.aload_n 0, 1) := by decide +kernel
theorem dX0_next_26 : decode cX0_next 26 = .ok (.getfield 9, 3) := by decide +kernel
theorem dX0_next_29 : decode cX0_next 29 = .ok (.aload_n 0, 1) := by decide +kernel
theorem dX0_next_30 : decode cX0_next 30 = .ok (.getfield 28, 3) := by decide +kernel
theorem dX0_next_33 : decode cX0_next 33 = .ok (.iaload, 1) := by decide +kernel
theorem dX0_next_34 : decode cX0_next 34 = .ok (.bipush 10, 2) := by decide +kernel
theorem dX0_next_36 : decode cX0_next 36 = .ok (.if_icmp .ne 16, 3) := by decide +kernel
theorem dX0_next_39 : decode cX0_next 39 = .ok (.aload_n 0, 1) := by decide +kernel
theorem dX0_next_40 : decode cX0_next 40 = .ok (.dup, 1) := by decide +kernel
theorem dX0_next_41 : decode cX0_next 41 = .ok (.getfield 28, 3) := by decide +kernel
theorem dX0_next_44 : decode cX0_next 44 = .ok (.iconst 1, 1) := by decide +kernel
theorem dX0_next_45 : decode cX0_next 45 = .ok (.iadd, 1) := by decide +kernel
theorem dX0_next_46 : decode cX0_next 46 = .ok (.putfield 28, 3) := by decide +kernel
theorem dX0_next_49 : decode cX0_next 49 = .ok (.goto (-49), 3) := by decide +kernel
theorem dX0_next_52 : decode cX0_next 52 = .ok (.aload_n 0, 1) := by decide +kernel
theorem dX0_next_53 : decode cX0_next 53 = .ok (.aload_n 0, 1) := by decide +kernel
theorem dX0_next_54 : decode cX0_next 54 = .ok (.getfield 28, 3) := by decide +kernel
theorem dX0_next_57 : decode cX0_next 57 = .ok (.putfield 56, 3) := by decide +kernel
theorem dX0_next_60 : decode cX0_next 60 = .ok (.aload_n 0, 1) := by decide +kernel
theorem dX0_next_61 : decode cX0_next 61 = .ok (.getfield 28, 3) := by decide +kernel
theorem dX0_next_64 : decode cX0_next 64 = .ok (.aload_n 0, 1) := by decide +kernel
theorem dX0_next_65 : decode cX0_next 65 = .ok (.getfield 15, 3) := by decide +kernel
theorem dX0_next_68 : decode cX0_next 68 = .ok (.if_icmp .lt 12, 3) := by decide +kernel
theorem dX0_next_71 : decode cX0_next 71 = .ok (.aload_n 0, 1) := by decide +kernel
theorem dX0_next_72 : decode cX0_next 72 = .ok (.bipush 13, 2) := by decide +kernel
theorem dX0_next_74 : decode cX0_next 74 = .ok (.putfield 50, 3) := by decide +kernel
theorem dX0_next_77 : decode cX0_next 77 = .ok (.goto 98, 3) := by decide +kernel
theorem dX0_next_80 : decode cX0_next 80 = .ok (.aload_n 0, 1) := by decide +kernel
theorem dX0_next_81 : decode cX0_next 81 = .ok (.getfield 9, 3) := by decide +kernel
theorem dX0_next_84 : decode cX0_next 84 = .ok (.aload_n 0, 1) := by decide +kernel
theorem dX0_next_85 : decode cX0_next 85 = .ok (.getfield 28, 3) := by decide +kernel
theorem dX0_next_88 : decode cX0_next 88 = .ok (.iaload, 1) := by decide +kernel
theorem dX0_next_89 : decode cX0_next 89 = .ok (.bipush 97, 2) := by decide +kernel
theorem dX0_next_91 : decode cX0_next 91 = .ok (.bipush 122, 2) := by decide +kernel
theorem dX0_next_93 : decode cX0_next 93 = .ok (.invokestatic 87, 3) := by decide +kernel
theorem dX0_next_96 : decode cX0_next 96 = .ok (.ifCond .eq 10, 3) := by decide +kernel
theorem dX0_next_99 : decode cX0_next 99 = .ok (.aload_n 0, 1) := by decide +kernel
theorem dX0_next_100 : decode cX0_next 100 = .ok (.invokevirtual 97, 3) := by decide +kernel
theorem dX0_next_103 : decode cX0_next 103 = .ok (.goto 72, 3) := by decide +kernel
theorem dX0_next_106 : decode cX0_next 106 = .ok (.aload_n 0, 1) := by decide +kernel
theorem dX0_next_107 : decode cX0_next 107 = .ok (.getfield 9, 3) := by decide +kernel
theorem dX0_next_110 : decode cX0_next 110 = .ok (.aload_n 0, 1) := by decide +kernel
theorem dX0_next_111 : decode cX0_next 111 = .ok (.getfield 28, 3) := by decide +kernel
theorem dX0_next_114 : decode cX0_next 114 = .ok (.iaload, 1) := by decide +kernel
theorem dX0_next_115 : decode cX0_next 115 = .ok (.bipush 48, 2) := by decide +kernel
theorem dX0_next_117 : decode cX0_next 117 = .ok (.bipush 57, 2) := by decide +kernel
theorem dX0_next_119 : decode cX0_next 119 = .ok (.invokestatic 87, 3) := by decide +kernel
theorem dX0_next_122 : decode cX0_next 122 = .ok (.ifCond .eq 10, 3) := by decide +kernel
theorem dX0_next_125 : decode cX0_next 125 = .ok (.aload_n 0, 1) := by decide +kernel
theorem dX0_next_126 : decode cX0_next 126 = .ok (.invokevirtual 100, 3) := by decide +kernel
theorem dX0_next_129 : decode cX0_next 129 = .ok (.goto 46, 3) := by decide +kernel
theorem dX0_next_132 : decode cX0_next 132 = .ok (.aload_n 0, 1) := by decide +kernel
theorem dX0_next_133 : decode cX0_next 133 = .ok (.aload_n 0, 1) := by decide +kernel
theorem dX0_next_134 : decode cX0_next 134 = .ok (.getfield 9, 3) := by decide +kernel
theorem dX0_next_137 : decode cX0_next 137 = .ok (.aload_n 0, 1) := by decide +kernel
theorem dX0_next_138 : decode cX0_next 138 = .ok (.getfield 28, 3) := by decide +kernel
theorem dX0_next_141 : decode cX0_next 141 = .ok (.iaload, 1) := by decide +kernel
theorem dX0_next_142 : decode cX0_next 142 = .ok (.invokestatic 103, 3) := by decide +kernel
theorem dX0_next_145 : decode cX0_next 145 = .ok (.ifCond .eq 15, 3) := by decide +kernel
theorem dX0_next_148 : decode cX0_next 148 = .ok (.aload_n 0, 1) := by decide +kernel
theorem dX0_next_149 : decode cX0_next 149 = .ok (.getfield 9, 3) := by decide +kernel
theorem dX0_next_152 : decode cX0_next 152 = .ok (.aload_n 0, 1) := by decide +kernel
theorem dX0_next_153 : decode cX0_next 153 = .ok (.getfield 28, 3) := by decide +kernel
theorem dX0_next_156 : decode cX0_next 156 = .ok (.iaload, 1) := by decide +kernel
theorem dX0_next_157 : decode cX0_next 157 = .ok (.goto 5, 3) := by decide +kernel
theorem dX0_next_160 : decode cX0_next 160 = .ok (.bipush 14, 2) := by decide +kernel
theorem dX0_next_162 : decode cX0_next 162 = .ok (.putfield 50, 3) := by decide +kernel
theorem dX0_next_165 : decode cX0_next 165 = .ok (.aload_n 0, 1) := by decide +kernel
theorem dX0_next_166 : decode cX0_next 166 = .ok (.dup, 1) := by decide +kernel
theorem dX0_next_167 : decode cX0_next 167 = .ok (.getfield 28, 3) := by decide +kernel
theorem dX0_next_170 : decode cX0_next 170 = .ok (.iconst 1, 1) := by decide +kernel
theorem dX0_next_171 : decode cX0_next 171 = .ok (.iadd, 1) := by decide +kernel
theorem dX0_next_172 : decode cX0_next 172 = .ok (.putfield 28, 3) := by decide +kernel
theorem dX0_next_175 : decode cX0_next 175 = .ok (.return_, 1) := by decide +kernel
theorem dX0_isSign_0 : decode cX0_isSign 0 = .ok (.iload_n 0, 1) := by decide +kernel
theorem dX0_isSign_1 : decode cX0_isSign 1 = .ok (.bipush 40, 2) := by decide +kernel
theorem dX0_isSign_3 : decode cX0_isSign 3 = .ok (.bipush 43, 2) := by decide +kernel
theorem dX0_isSign_5 : decode cX0_isSign 5 = .ok (.invokestatic 87, 3) := by decide +kernel
theorem dX0_isSign_8 : decode cX0_isSign 8 = .ok (.ifCond .ne 20, 3) := by decide +kernel
theorem dX0_isSign_11 : decode cX0_isSign 11 = .ok (.iload_n 0, 1) := by decide +kernel
theorem dX0_isSign_12 : decode cX0_isSign 12 = .ok (.bipush 45, 2) := by decide +kernel
theorem dX0_isSign_14 : decode cX0_isSign 14 = .ok (.if_icmp .eq 14, 3) := by decide +kernel
theorem dX0_isSign_17 : decode cX0_isSign 17 = .ok (.iload_n 0, 1) := by decide +kernel
theorem dX0_isSign_18 : decode cX0_isSign 18 = .ok (.bipush 59, 2) := by decide +kernel
theorem dX0_isSign_20 : decode cX0_isSign 20 = .ok (.bipush 61, 2) := by decide +kernel
theorem dX0_isSign_22 : decode cX0_isSign 22 = .ok (.invokestatic 87, 3) := by decide +kernel
theorem dX0_isSign_25 : decode cX0_isSign 25 = .ok (.ifCond .eq 7, 3) := by decide +kernel
theorem dX0_isSign_28 : decode cX0_isSign 28 = .ok (.iconst 1, 1) := by decide +kernel
theorem dX0_isSign_29 : decode cX0_isSign 29 = .ok (.goto 4, 3) := by decide +kernel
theorem dX0_isSign_32 : decode cX0_isSign 32 = .ok (.iconst 0, 1) := by decide +kernel
theorem dX0_isSign_33 : decode cX0_isSign 33 = .ok (.ireturn, 1) := by decide +kernel
theorem dX0_nextNumber_0 : decode cX0_nextNumber 0 = .ok (.aload_n 0, 1) := by decide +kernel
theorem dX0_nextNumber_1 : decode cX0_nextNumber 1 = .ok (.iconst 0, 1) := by decide +kernel
theorem dX0_nextNumber_2 : decode cX0_nextNumber 2 = .ok (.putfield 84, 3) := by decide +kernel
theorem dX0_nextNumber_5 : decode cX0_nextNumber 5 = .ok (.aload_n 0, 1) := by decide +kernel
theorem dX0_nextNumber_6 : decode cX0_nextNumber 6 = .ok (.getfield 28, 3) := by decide +kernel
theorem dX0_nextNumber_9 : decode cX0_nextNumber 9 = .ok (.aload_n 0, 1) := by decide +kernel
theorem dX0_nextNumber_10 : decode cX0_nextNumber 10 = .ok (.getfield 15, 3) := by decide +kernel
theorem dX0_nextNumber_13 : decode cX0_nextNumber 13 = .ok (.if_icmp .ge 72, 3) := by decide +kernel
theorem dX0_nextNumber_16 : decode cX0_nextNumber 16 = .ok (.aload_n 0, 1) := by decide +kernel
theorem dX0_nextNumber_17 : decode cX0_nextNumber 17 = .ok (.getfield 9, 3) := by decide +kernel
theorem dX0_nextNumber_20 : decode cX0_nextNumber 20 = .ok (.aload_n 0, 1) := by decide +kernel
theorem dX0_nextNumber_21 : decode cX0_nextNumber 21 = .ok (.getfield 28, 3) := by decide +kernel
theorem dX0_nextNumber_24 : decode cX0_nextNumber 24 = .ok (.iaload, 1) := by decide +kernel
theorem dX0_nextNumber_25 : decode cX0_nextNumber 25 = .ok (.bipush 48, 2) := by decide +kernel
theorem dX0_nextNumber_27 : decode cX0_nextNumber 27 = .ok (.bipush 57, 2) := by decide +kernel
theorem dX0_nextNumber_29 : decode cX0_nextNumber 29 = .ok (.invokestatic 87, 3) := by decide +kernel
theorem dX0_nextNumber_32 : decode cX0_nextNumber 32 = .ok (.ifCond .eq 53, 3) := by decide +kernel
theorem dX0_nextNumber_35 : decode cX0_nextNumber 35 = .ok (.aload_n 0, 1) := by decide +kernel
theorem dX0_nextNumber_36 : decode cX0_nextNumber 36 = .ok (.getfield 28, 3) := by decide +kernel
theorem dX0_nextNumber_39 : decode cX0_nextNumber 39 = .ok (.aload_n 0, 1) := by decide +kernel
theorem dX0_nextNumber_40 : decode cX0_nextNumber 40 = .ok (.getfield 56, 3) := by decide +kernel
theorem dX0_nextNumber_43 : decode cX0_nextNumber 43 = .ok (.isub, 1) := by decide +kernel
theorem dX0_nextNumber_44 : decode cX0_nextNumber 44 = .ok (.iconst 4, 1) := by decide +kernel
theorem dX0_nextNumber_45 : decode cX0_nextNumber 45 = .ok (.if_icmp .ge 27, 3) := by decide +kernel
theorem dX0_nextNumber_48 : decode cX0_nextNumber 48 = .ok (.aload_n 0, 1) := by decide +kernel
theorem dX0_nextNumber_49 : decode cX0_nextNumber 49 = .ok (.aload_n 0, 1) := by decide +kernel
theorem dX0_nextNumber_50 : decode cX0_nextNumber 50 = .ok (.getfield 84, 3) := by decide +kernel
theorem dX0_nextNumber_53 : decode cX0_nextNumber 53 = .ok (.bipush 10, 2) := by decide +kernel
theorem dX0_nextNumber_55 : decode cX0_nextNumber 55 = .ok (.imul, 1) := by decide +kernel
theorem dX0_nextNumber_56 : decode cX0_nextNumber 56 = .ok (.aload_n 0, 1) := by decide +kernel
theorem dX0_nextNumber_57 : decode cX0_nextNumber 57 = .ok (.getfield 9, 3) := by decide +kernel
theorem dX0_nextNumber_60 : decode cX0_nextNumber 60 = .ok (.aload_n 0, 1) := by decide +kernel
theorem dX0_nextNumber_61 : decode cX0_nextNumber 61 = .ok (.getfield 28, 3) := by decide +kernel
theorem dX0_nextNumber_64 : decode cX0_nextNumber 64 = .ok (.iaload, 1) := by decide +kernel
theorem dX0_nextNumber_65 : decode cX0_nextNumber 65 = .ok (.iadd, 1) := by decide +kernel
theorem dX0_nextNumber_66 : decode cX0_nextNumber 66 = .ok (.bipush 48, 2) := by decide +kernel
theorem dX0_nextNumber_68 : decode cX0_nextNumber 68 = .ok (.isub, 1) := by decide +kernel
theorem dX0_nextNumber_69 : decode cX0_nextNumber 69 = .ok (.putfield 84, 3) := by decide +kernel
theorem dX0_nextNumber_72 : decode cX0_nextNumber 72 = .ok (.aload_n 0, 1) := by decide +kernel
theorem dX0_nextNumber_73 : decode cX0_nextNumber 73 = .ok (.dup, 1) := by decide +kernel
theorem dX0_nextNumber_74 : decode cX0_nextNumber 74 = .ok (.getfield 28, 3) := by decide +kernel
theorem dX0_nextNumber_77 : decode cX0_nextNumber 77 = .ok (.iconst 1, 1) := by decide +kernel
theorem dX0_nextNumber_78 : decode cX0_nextNumber 78 = .ok (.iadd, 1) := by decide +kernel
theorem dX0_nextNumber_79 : decode cX0_nextNumber 79 = .ok (.putfield 28, 3) := by decide +kernel
theorem dX0_nextNumber_82 : decode cX0_nextNumber 82 = .ok (.goto (-77), 3) := by decide +kernel
theorem dX0_nextNumber_85 : decode cX0_nextNumber 85 = .ok (.aload_n 0, 1) := by decide +kernel
theorem dX0_nextNumber_86 : decode cX0_nextNumber 86 = .ok (.aload_n 0, 1) := by decide +kernel
theorem dX0_nextNumber_87 : decode cX0_nextNumber 87 = .ok (.getfield 28, 3) := by decide +kernel
theorem dX0_nextNumber_90 : decode cX0_nextNumber 90 = .ok (.aload_n 0, 1) := by decide +kernel
theorem dX0_nextNumber_91 : decode cX0_nextNumber 91 = .ok (.getfield 56, 3) := by decide +kernel
theorem dX0_nextNumber_94 : decode cX0_nextNumber 94 = .ok (.isub, 1) := by decide +kernel
theorem dX0_nextNumber_95 : decode cX0_nextNumber 95 = .ok (.iconst 4, 1) := by decide +kernel
theorem dX0_nextNumber_96 : decode cX0_nextNumber 96 = .ok (.if_icmp .le 8, 3) := by decide +kernel
theorem dX0_nextNumber_99 : decode cX0_nextNumber 99 = .ok (.bipush 14, 2) := by decide +kernel
theorem dX0_nextNumber_101 : decode cX0_nextNumber 101 = .ok (.goto 5, 3) := by decide +kernel
theorem dX0_nextNumber_104 : decode cX0_nextNumber 104 = .ok (.bipush 12, 2) := by decide +kernel
theorem dX0_nextNumber_106 : decode cX0_nextNumber 106 = .ok (.putfield 50, 3) := by decide +kernel
theorem dX0_nextNumber_109 : decode cX0_nextNumber 109 = .ok (.return_, 1) := by decide +kernel
theorem dX0_nextWord_0 : decode cX0_nextWord 0 = .ok (.aload_n 0, 1) := by decide +kernel
theorem dX0_nextWord_1 : decode cX0_nextWord 1 = .ok (.getfield 28, 3) := by decide +kernel
theorem dX0_nextWord_4 : decode cX0_nextWord 4 = .ok (.aload_n 0, 1) := by decide +kernel
theorem dX0_nextWord_5 : decode cX0_nextWord 5 = .ok (.getfield 15, 3) := by decide +kernel
theorem dX0_nextWord_8 : decode cX0_nextWord 8 = .ok (.if_icmp .ge 35, 3) := by decide +kernel
theorem dX0_nextWord_11 : decode cX0_nextWord 11 = .ok (.aload_n 0, 1) := by decide +kernel
theorem dX0_nextWord_12 : decode cX0_nextWord 12 = .ok (.getfield 9, 3) := by decide +kernel
theorem dX0_nextWord_15 : decode cX0_nextWord 15 = .ok (.aload_n 0, 1) := by decide +kernel
theorem dX0_nextWord_16 : decode cX0_nextWord 16 = .ok (.getfield 28, 3) := by decide +kernel
theorem dX0_nextWord_19 : decode cX0_nextWord 19 = .ok (.iaload, 1) := by decide +kernel
theorem dX0_nextWord_20 : decode cX0_nextWord 20 = .ok (.bipush 97, 2) := by decide +kernel
theorem dX0_nextWord_22 : decode cX0_nextWord 22 = .ok (.bipush 122, 2) := by decide +kernel
theorem dX0_nextWord_24 : decode cX0_nextWord 24 = .ok (.invokestatic 87, 3) := by decide +kernel
theorem dX0_nextWord_27 : decode cX0_nextWord 27 = .ok (.ifCond .eq 16, 3) := by decide +kernel
theorem dX0_nextWord_30 : decode cX0_nextWord 30 = .ok (.aload_n 0, 1) := by decide +kernel
theorem dX0_nextWord_31 : decode cX0_nextWord 31 = .ok (.dup, 1) := by decide +kernel
theorem dX0_nextWord_32 : decode cX0_nextWord 32 = .ok (.getfield 28, 3) := by decide +kernel
theorem dX0_nextWord_35 : decode cX0_nextWord 35 = .ok (.iconst 1, 1) := by decide +kernel
theorem dX0_nextWord_36 : decode cX0_nextWord 36 = .ok (.iadd, 1) := by decide +kernel
theorem dX0_nextWord_37 : decode cX0_nextWord 37 = .ok (.putfield 28, 3) := by decide +kernel
theorem dX0_nextWord_40 : decode cX0_nextWord 40 = .ok (.goto (-40), 3) := by decide +kernel
theorem dX0_nextWord_43 : decode cX0_nextWord 43 = .ok (.aload_n 0, 1) := by decide +kernel
theorem dX0_nextWord_44 : decode cX0_nextWord 44 = .ok (.bipush 14, 2) := by decide +kernel
theorem dX0_nextWord_46 : decode cX0_nextWord 46 = .ok (.putfield 50, 3) := by decide +kernel
theorem dX0_nextWord_49 : decode cX0_nextWord 49 = .ok (.iconst 0, 1) := by decide +kernel
theorem dX0_nextWord_50 : decode cX0_nextWord 50 = .ok (.istore_n 1, 1) := by decide +kernel
theorem dX0_nextWord_51 : decode cX0_nextWord 51 = .ok (.aload_n 0, 1) := by decide +kernel
theorem dX0_nextWord_52 : decode cX0_nextWord 52 = .ok (.getfield 56, 3) := by decide +kernel
theorem dX0_nextWord_55 : decode cX0_nextWord 55 = .ok (.istore_n 2, 1) := by decide +kernel
theorem dX0_nextWord_56 : decode cX0_nextWord 56 = .ok (.iconst 1, 1) := by decide +kernel
theorem dX0_nextWord_57 : decode cX0_nextWord 57 = .ok (.istore_n 3, 1) := by decide +kernel
theorem dX0_nextWord_58 : decode cX0_nextWord 58 = .ok (.iconst 0, 1) := by decide +kernel
theorem dX0_nextWord_59 : decode cX0_nextWord 59 = .ok (.istore 4, 2) := by decide +kernel
theorem dX0_nextWord_61 : decode cX0_nextWord 61 = .ok (.iload 4, 2) := by decide +kernel
theorem dX0_nextWord_63 : decode cX0_nextWord 63 = .ok (.ldc 107, 2) := by decide +kernel
theorem dX0_nextWord_65 : decode cX0_nextWord 65 = .ok (.invokevirtual 109, 3) := by decide +kernel
theorem dX0_nextWord_68 : decode cX0_nextWord 68 = .ok (.if_icmp .ge 88, 3) := by decide +kernel
theorem dX0_nextWord_71 : decode cX0_nextWord 71 = .ok (.ldc 107, 2) := by decide +kernel
theorem dX0_nextWord_73 : decode cX0_nextWord 73 = .ok (.iload 4, 2) := by decide +kernel
theorem dX0_nextWord_75 : decode cX0_nextWord 75 = .ok (.invokevirtual 115, 3) := by decide +kernel
theorem dX0_nextWord_78 : decode cX0_nextWord 78 = .ok (.bipush 32, 2) := by decide +kernel
theorem dX0_nextWord_80 : decode cX0_nextWord 80 = .ok (.if_icmp .eq 43, 3) := by decide +kernel
theorem dX0_nextWord_83 : decode cX0_nextWord 83 = .ok (.iload_n 3, 1) := by decide +kernel
theorem dX0_nextWord_84 : decode cX0_nextWord 84 = .ok (.ifCond .eq 31, 3) := by decide +kernel
theorem dX0_nextWord_87 : decode cX0_nextWord 87 = .ok (.iload_n 2, 1) := by decide +kernel
theorem dX0_nextWord_88 : decode cX0_nextWord 88 = .ok (.aload_n 0, 1) := by decide +kernel
theorem dX0_nextWord_89 : decode cX0_nextWord 89 = .ok (.getfield 28, 3) := by decide +kernel
theorem dX0_nextWord_92 : decode cX0_nextWord 92 = .ok (.if_icmp .ge 23, 3) := by decide +kernel
theorem dX0_nextWord_95 : decode cX0_nextWord 95 = .ok (.aload_n 0, 1) := by decide +kernel
theorem dX0_nextWord_96 : decode cX0_nextWord 96 = .ok (.getfield 9, 3) := by decide +kernel
theorem dX0_nextWord_99 : decode cX0_nextWord 99 = .ok (.iload_n 2, 1) := by decide +kernel
theorem dX0_nextWord_100 : decode cX0_nextWord 100 = .ok (.iaload, 1) := by decide +kernel
theorem dX0_nextWord_101 : decode cX0_nextWord 101 = .ok (.ldc 107, 2) := by decide +kernel
theorem dX0_nextWord_103 : decode cX0_nextWord 103 = .ok (.iload 4, 2) := by decide +kernel
theorem dX0_nextWord_105 : decode cX0_nextWord 105 = .ok (.invokevirtual 115, 3) := by decide +kernel
theorem dX0_nextWord_108 : decode cX0_nextWord 108 = .ok (.if_icmp .ne 7, 3) := by decide +kernel
theorem dX0_nextWord_111 : decode cX0_nextWord 111 = .ok (.iconst 1, 1) := by decide +kernel
theorem dX0_nextWord_112 : decode cX0_nextWord 112 = .ok (.goto 4, 3) := by decide +kernel
theorem dX0_nextWord_115 : decode cX0_nextWord 115 = .ok (.iconst 0, 1) := by decide +kernel
theorem dX0_nextWord_116 : decode cX0_nextWord 116 = .ok (.istore_n 3, 1) := by decide +kernel
theorem dX0_nextWord_117 : decode cX0_nextWord 117 = .ok (.iinc 2 1, 3) := by decide +kernel
theorem dX0_nextWord_120 : decode cX0_nextWord 120 = .ok (.goto 30, 3) := by decide +kernel
theorem dX0_nextWord_123 : decode cX0_nextWord 123 = .ok (.iload_n 3, 1) := by decide +kernel
theorem dX0_nextWord_124 : decode cX0_nextWord 124 = .ok (.ifCond .eq 16, 3) := by decide +kernel
theorem dX0_nextWord_127 : decode cX0_nextWord 127 = .ok (.iload_n 2, 1) := by decide +kernel
theorem dX0_nextWord_128 : decode cX0_nextWord 128 = .ok (.aload_n 0, 1) := by decide +kernel
theorem dX0_nextWord_129 : decode cX0_nextWord 129 = .ok (.getfield 28, 3) := by decide +kernel
theorem dX0_nextWord_132 : decode cX0_nextWord 132 = .ok (.if_icmp .ne 8, 3) := by decide +kernel
theorem dX0_nextWord_135 : decode cX0_nextWord 135 = .ok (.aload_n 0, 1) := by decide +kernel
theorem dX0_nextWord_136 : decode cX0_nextWord 136 = .ok (.iload_n 1, 1) := by decide +kernel
theorem dX0_nextWord_137 : decode cX0_nextWord 137 = .ok (.putfield 50, 3) := by decide +kernel
theorem dX0_nextWord_140 : decode cX0_nextWord 140 = .ok (.iinc 1 1, 3) := by decide +kernel
theorem dX0_nextWord_143 : decode cX0_nextWord 143 = .ok (.aload_n 0, 1) := by decide +kernel
theorem dX0_nextWord_144 : decode cX0_nextWord 144 = .ok (.getfield 56, 3) := by decide +kernel
theorem dX0_nextWord_147 : decode cX0_nextWord 147 = .ok (.istore_n 2, 1) := by decide +kernel
theorem dX0_nextWord_148 : decode cX0_nextWord 148 = .ok (.iconst 1, 1) := by decide +kernel
theorem dX0_nextWord_149 : decode cX0_nextWord 149 = .ok (.istore_n 3, 1) := by decide +kernel
theorem dX0_nextWord_150 : decode cX0_nextWord 150 = .ok (.iinc 4 1, 3) := by decide +kernel
theorem dX0_nextWord_153 : decode cX0_nextWord 153 = .ok (.goto (-92), 3) := by decide +kernel
theorem dX0_nextWord_156 : decode cX0_nextWord 156 = .ok (.return_, 1) := by decide +kernel
theorem dX1_init_0 : decode cX1_init 0 = .ok (.aload_n 0, 1) := by decide +kernel
theorem dX1_init_1 : decode cX1_init 1 = .ok (.invokespecial 3, 3) := by decide +kernel
theorem dX1_init_4 : decode cX1_init 4 = .ok (.aload_n 0, 1) := by decide +kernel
theorem dX1_init_5 : decode cX1_init 5 = .ok (.iconst (-1), 1) := by decide +kernel
theorem dX1_init_6 : decode cX1_init 6 = .ok (.putfield 9, 3) := by decide +kernel
theorem dX1_init_9 : decode cX1_init 9 = .ok (.aload_n 0, 1) := by decide +kernel
theorem dX1_init_10 : decode cX1_init 10 = .ok (.bipush 40, 2) := by decide +kernel
theorem dX1_init_12 : decode cX1_init 12 = .ok (.newarray .int, 2) := by decide +kernel
theorem dX1_init_14 : decode cX1_init 14 = .ok (.putfield 15, 3) := by decide +kernel
theorem dX1_init_17 : decode cX1_init 17 = .ok (.return_, 1) := by decide +kernel
theorem dX1_isMissing_0 : decode cX1_isMissing 0 = .ok (.aload_n 0, 1) := by decide +kernel
theorem dX1_isMissing_1 : decode cX1_isMissing 1 = .ok (.getfield 9, 3) := by decide +kernel
theorem dX1_isMissing_4 : decode cX1_isMissing 4 = .ok (.iconst (-1), 1) := by decide +kernel
theorem dX1_isMissing_5 : decode cX1_isMissing 5 = .ok (.if_icmp .ne 7, 3) := by decide +kernel
theorem dX1_isMissing_8 : decode cX1_isMissing 8 = .ok (.iconst 1, 1) := by decide +kernel
theorem dX1_isMissing_9 : decode cX1_isMissing 9 = .ok (.goto 4, 3) := by decide +kernel
theorem dX1_isMissing_12 : decode cX1_isMissing 12 = .ok (.iconst 0, 1) := by decide +kernel
theorem dX1_isMissing_13 : decode cX1_isMissing 13 = .ok (.ireturn, 1) := by decide +kernel
theorem dX1_becomes_0 : decode cX1_becomes 0 = .ok (.aload_n 0, 1) := by decide +kernel
theorem dX1_becomes_1 : decode cX1_becomes 1 = .ok (.iload_n 1, 1) := by decide +kernel
theorem dX1_becomes_2 : decode cX1_becomes 2 = .ok (.putfield 9, 3) := by decide +kernel
theorem dX1_becomes_5 : decode cX1_becomes 5 = .ok (.aload_n 0, 1) := by decide +kernel
theorem dX1_becomes_6 : decode cX1_becomes 6 = .ok (.iconst 0, 1) := by decide +kernel
theorem dX1_becomes_7 : decode cX1_becomes 7 = .ok (.bipush 40, 2) := by decide +kernel
theorem dX1_becomes_9 : decode cX1_becomes 9 = .ok (.iload_n 2, 1) := by decide +kernel
theorem dX1_becomes_10 : decode cX1_becomes 10 = .ok (.invokestatic 19, 3) := by decide +kernel
theorem dX1_becomes_13 : decode cX1_becomes 13 = .ok (.invokestatic 25, 3) := by decide +kernel
theorem dX1_becomes_16 : decode cX1_becomes 16 = .ok (.putfield 28, 3) := by decide +kernel
theorem dX1_becomes_19 : decode cX1_becomes 19 = .ok (.iconst 0, 1) := by decide +kernel
theorem dX1_becomes_20 : decode cX1_becomes 20 = .ok (.istore_n 3, 1) := by decide +kernel
theorem dX1_becomes_21 : decode cX1_becomes 21 = .ok (.iload_n 3, 1) := by decide +kernel
theorem dX1_becomes_22 : decode cX1_becomes 22 = .ok (.bipush 40, 2) := by decide +kernel
theorem dX1_becomes_24 : decode cX1_becomes 24 = .ok (.if_icmp .ge 16, 3) := by decide +kernel
theorem dX1_becomes_27 : decode cX1_becomes 27 = .ok (.aload_n 0, 1) := by decide +kernel
theorem dX1_becomes_28 : decode cX1_becomes 28 = .ok (.getfield 15, 3) := by decide +kernel
theorem dX1_becomes_31 : decode cX1_becomes 31 = .ok (.iload_n 3, 1) := by decide +kernel
theorem dX1_becomes_32 : decode cX1_becomes 32 = .ok (.iconst 0, 1) := by decide +kernel
theorem dX1_becomes_33 : decode cX1_becomes 33 = .ok (.iastore, 1) := by decide +kernel
theorem dX1_becomes_34 : decode cX1_becomes 34 = .ok (.iinc 3 1, 3) := by decide +kernel
theorem dX1_becomes_37 : decode cX1_becomes 37 = .ok (.goto (-16), 3) := by decide +kernel
theorem dX1_becomes_40 : decode cX1_becomes 40 = .ok (.return_, 1) := by decide +kernel
theorem dX1_holds_0 : decode cX1_holds 0 = .ok (.iload_n 2, 1) := by decide +kernel
theorem dX1_holds_1 : decode cX1_holds 1 = .ok (.iconst 0, 1) := by decide +kernel
theorem dX1_holds_2 : decode cX1_holds 2 = .ok (.aload_n 0, 1) := by decide +kernel
theorem dX1_holds_3 : decode cX1_holds 3 = .ok (.getfield 28, 3) := by decide +kernel
theorem dX1_holds_6 : decode cX1_holds 6 = .ok (.invokestatic 31, 3) := by decide +kernel
theorem dX1_holds_9 : decode cX1_holds 9 = .ok (.ifCond .eq 21, 3) := by decide +kernel
theorem dX1_holds_12 : decode cX1_holds 12 = .ok (.iload_n 1, 1) := by decide +kernel
theorem dX1_holds_13 : decode cX1_holds 13 = .ok (.iconst 0, 1) := by decide +kernel
theorem dX1_holds_14 : decode cX1_holds 14 = .ok (.aload_n 0, 1) := by decide +kernel
theorem dX1_holds_15 : decode cX1_holds 15 = .ok (.getfield 28, 3) := by decide +kernel
theorem dX1_holds_18 : decode cX1_holds 18 = .ok (.iload_n 2, 1) := by decide +kernel
theorem dX1_holds_19 : decode cX1_holds 19 = .ok (.isub, 1) := by decide +kernel
theorem dX1_holds_20 : decode cX1_holds 20 = .ok (.invokestatic 31, 3) := by decide +kernel
theorem dX1_holds_23 : decode cX1_holds 23 = .ok (.ifCond .eq 7, 3) := by decide +kernel
theorem dX1_holds_26 : decode cX1_holds 26 = .ok (.iconst 1, 1) := by decide +kernel
theorem dX1_holds_27 : decode cX1_holds 27 = .ok (.goto 4, 3) := by decide +kernel
theorem dX1_holds_30 : decode cX1_holds 30 = .ok (.iconst 0, 1) := by decide +kernel
theorem dX1_holds_31 : decode cX1_holds 31 = .ok (.ireturn, 1) := by decide +kernel
theorem dX1_put_0 : decode cX1_put 0 = .ok (.aload_n 0, 1) := by decide +kernel
theorem dX1_put_1 : decode cX1_put 1 = .ok (.iload_n 1, 1) := by decide +kernel
theorem dX1_put_2 : decode cX1_put 2 = .ok (.iconst 1, 1) := by decide +kernel
theorem dX1_put_3 : decode cX1_put 3 = .ok (.invokevirtual 35, 3) := by decide +kernel
theorem dX1_put_6 : decode cX1_put 6 = .ok (.ifCond .eq 35, 3) := by decide +kernel
theorem dX1_put_9 : decode cX1_put 9 = .ok (.aload_n 0, 1) := by decide +kernel
theorem dX1_put_10 : decode cX1_put 10 = .ok (.getfield 15, 3) := by decide +kernel
theorem dX1_put_13 : decode cX1_put 13 = .ok (.iload_n 1, 1) := by decide +kernel
theorem dX1_put_14 : decode cX1_put 14 = .ok (.aload_n 0, 1) := by decide +kernel
theorem dX1_put_15 : decode cX1_put 15 = .ok (.getfield 9, 3) := by decide +kernel
theorem dX1_put_18 : decode cX1_put 18 = .ok (.ifCond .ne 8, 3) := by decide +kernel
theorem dX1_put_21 : decode cX1_put 21 = .ok (.iload_n 2, 1) := by decide +kernel
theorem dX1_put_22 : decode cX1_put 22 = .ok (.i2b, 1) := by decide +kernel
theorem dX1_put_23 : decode cX1_put 23 = .ok (.goto 17, 3) := by decide +kernel
theorem dX1_put_26 : decode cX1_put 26 = .ok (.aload_n 0, 1) := by decide +kernel
theorem dX1_put_27 : decode cX1_put 27 = .ok (.getfield 9, 3) := by decide +kernel
theorem dX1_put_30 : decode cX1_put 30 = .ok (.iconst 1, 1) := by decide +kernel
theorem dX1_put_31 : decode cX1_put 31 = .ok (.if_icmp .ne 8, 3) := by decide +kernel
theorem dX1_put_34 : decode cX1_put 34 = .ok (.iload_n 2, 1) := by decide +kernel
theorem dX1_put_35 : decode cX1_put 35 = .ok (.i2s, 1) := by decide +kernel
theorem dX1_put_36 : decode cX1_put 36 = .ok (.goto 4, 3) := by decide +kernel
theorem dX1_put_39 : decode cX1_put 39 = .ok (.iload_n 2, 1) := by decide +kernel
theorem dX1_put_40 : decode cX1_put 40 = .ok (.iastore, 1) := by decide +kernel
theorem dX1_put_41 : decode cX1_put 41 = .ok (.return_, 1) := by decide +kernel
theorem dX2_init_0 : decode cX2_init 0 = .ok (.aload_n 0, 1) := by decide +kernel
theorem dX2_init_1 : decode cX2_init 1 = .ok (.invokespecial 3, 3) := by decide +kernel
theorem dX2_init_4 : decode cX2_init 4 = .ok (.aload_n 0, 1) := by decide +kernel
theorem dX2_init_5 : decode cX2_init 5 = .ok (.bipush 10, 2) := by decide +kernel
theorem dX2_init_7 : decode cX2_init 7 = .ok (.newarray .int, 2) := by decide +kernel
theorem dX2_init_9 : decode cX2_init 9 = .ok (.putfield 9, 3) := by decide +kernel
theorem dX2_init_12 : decode cX2_init 12 = .ok (.aload_n 0, 1) := by decide +kernel
theorem dX2_init_13 : decode cX2_init 13 = .ok (.bipush 10, 2) := by decide +kernel
theorem dX2_init_15 : decode cX2_init 15 = .ok (.newarray .int, 2) := by decide +kernel
theorem dX2_init_17 : decode cX2_init 17 = .ok (.putfield 15, 3) := by decide +kernel
theorem dX2_init_20 : decode cX2_init 20 = .ok (.aload_n 0, 1) := by decide +kernel
theorem dX2_init_21 : decode cX2_init 21 = .ok (.iconst 5, 1) := by decide +kernel
theorem dX2_init_22 : decode cX2_init 22 = .ok (.newarray .int, 2) := by decide +kernel
theorem dX2_init_24 : decode cX2_init 24 = .ok (.putfield 18, 3) := by decide +kernel
theorem dX2_init_27 : decode cX2_init 27 = .ok (.aload_n 0, 1) := by decide +kernel
theorem dX2_init_28 : decode cX2_init 28 = .ok (.iconst 5, 1) := by decide +kernel
theorem dX2_init_29 : decode cX2_init 29 = .ok (.newarray .int, 2) := by decide +kernel
theorem dX2_init_31 : decode cX2_init 31 = .ok (.putfield 21, 3) := by decide +kernel
theorem dX2_init_34 : decode cX2_init 34 = .ok (.aload_n 0, 1) := by decide +kernel
theorem dX2_init_35 : decode cX2_init 35 = .ok (.iconst 5, 1) := by decide +kernel
theorem dX2_init_36 : decode cX2_init 36 = .ok (.newarray .int, 2) := by decide +kernel
theorem dX2_init_38 : decode cX2_init 38 = .ok (.putfield 24, 3) := by decide +kernel
theorem dX2_init_41 : decode cX2_init 41 = .ok (.aload_n 0, 1) := by decide +kernel
theorem dX2_init_42 : decode cX2_init 42 = .ok (.iconst 5, 1) := by decide +kernel
theorem dX2_init_43 : decode cX2_init 43 = .ok (.newarray .int, 2) := by decide +kernel
theorem dX2_init_45 : decode cX2_init 45 = .ok (.putfield 27, 3) := by decide +kernel
theorem dX2_init_48 : decode cX2_init 48 = .ok (.aload_n 0, 1) := by decide +kernel
theorem dX2_init_49 : decode cX2_init 49 = .ok (.bipush 20, 2) := by decide +kernel
theorem dX2_init_51 : decode cX2_init 51 = .ok (.putfield 30, 3) := by decide +kernel
theorem dX2_init_54 : decode cX2_init 54 = .ok (.aload_n 0, 1) := by decide +kernel
theorem dX2_init_55 : decode cX2_init 55 = .ok (.bipush 6, 2) := by decide +kernel
theorem dX2_init_57 : decode cX2_init 57 = .ok (.newarray .int, 2) := by decide +kernel
theorem dX2_init_59 : decode cX2_init 59 = .ok (.putfield 34, 3) := by decide +kernel
theorem dX2_init_62 : decode cX2_init 62 = .ok (.aload_n 0, 1) := by decide +kernel
theorem dX2_init_63 : decode cX2_init 63 = .ok (.aload_n 1, 1) := by decide +kernel
theorem dX2_init_64 : decode cX2_init 64 = .ok (.putfield 37, 3) := by decide +kernel
theorem dX2_init_67 : decode cX2_init 67 = .ok (.iconst 0, 1) := by decide +kernel
theorem dX2_init_68 : decode cX2_init 68 = .ok (.istore_n 2, 1) := by decide +kernel
theorem dX2_init_69 : decode cX2_init 69 = .ok (.iload_n 2, 1) := by decide +kernel
theorem dX2_init_70 : decode cX2_init 70 = .ok (.bipush 10, 2) := by decide +kernel
theorem dX2_init_72 : decode cX2_init 72 = .ok (.if_icmp .ge 16, 3) := by decide +kernel
theorem dX2_init_75 : decode cX2_init 75 = .ok (.aload_n 0, 1) := by decide +kernel
theorem dX2_init_76 : decode cX2_init 76 = .ok (.getfield 9, 3) := by decide +kernel
theorem dX2_init_79 : decode cX2_init 79 = .ok (.iload_n 2, 1) := by decide +kernel
theorem dX2_init_80 : decode cX2_init 80 = .ok (.iconst (-1), 1) := by decide +kernel
theorem dX2_init_81 : decode cX2_init 81 = .ok (.iastore, 1) := by decide +kernel
theorem dX2_init_82 : decode cX2_init 82 = .ok (.iinc 2 1, 3) := by decide +kernel
theorem dX2_init_85 : decode cX2_init 85 = .ok (.goto (-16), 3) := by decide +kernel
theorem dX2_init_88 : decode cX2_init 88 = .ok (.return_, 1) := by decide +kernel
theorem dX2_becomes_0 : decode cX2_becomes 0 = .ok (.aload_n 1, 1) := by decide +kernel
theorem dX2_becomes_1 : decode cX2_becomes 1 = .ok (.getfield 9, 3) := by decide +kernel
theorem dX2_becomes_4 : decode cX2_becomes 4 = .ok (.iconst 0, 1) := by decide +kernel
theorem dX2_becomes_5 : decode cX2_becomes 5 = .ok (.aload_n 0, 1) := by decide +kernel
theorem dX2_becomes_6 : decode cX2_becomes 6 = .ok (.getfield 9, 3) := by decide +kernel
theorem dX2_becomes_9 : decode cX2_becomes 9 = .ok (.iconst 0, 1) := by decide +kernel
theorem dX2_becomes_10 : decode cX2_becomes 10 = .ok (.bipush 10, 2) := by decide +kernel
theorem dX2_becomes_12 : decode cX2_becomes 12 = .ok (.invokestatic 41, 3) := by decide +kernel
theorem dX2_becomes_15 : decode cX2_becomes 15 = .ok (.aload_n 1, 1) := by decide +kernel
theorem dX2_becomes_16 : decode cX2_becomes 16 = .ok (.getfield 15, 3) := by decide +kernel
theorem dX2_becomes_19 : decode cX2_becomes 19 = .ok (.iconst 0, 1) := by decide +kernel
theorem dX2_becomes_20 : decode cX2_becomes 20 = .ok (.aload_n 0, 1) := by decide +kernel
theorem dX2_becomes_21 : decode cX2_becomes 21 = .ok (.getfield 15, 3) := by decide +kernel
theorem dX2_becomes_24 : decode cX2_becomes 24 = .ok (.iconst 0, 1) := by decide +kernel
theorem dX2_becomes_25 : decode cX2_becomes 25 = .ok (.bipush 10, 2) := by decide +kernel
theorem dX2_becomes_27 : decode cX2_becomes 27 = .ok (.invokestatic 41, 3) := by decide +kernel
theorem dX2_becomes_30 : decode cX2_becomes 30 = .ok (.aload_n 0, 1) := by decide +kernel
theorem dX2_becomes_31 : decode cX2_becomes 31 = .ok (.aload_n 1, 1) := by decide +kernel
theorem dX2_becomes_32 : decode cX2_becomes 32 = .ok (.getfield 47, 3) := by decide +kernel
theorem dX2_becomes_35 : decode cX2_becomes 35 = .ok (.putfield 47, 3) := by decide +kernel
theorem dX2_becomes_38 : decode cX2_becomes 38 = .ok (.aload_n 1, 1) := by decide +kernel
theorem dX2_becomes_39 : decode cX2_becomes 39 = .ok (.getfield 18, 3) := by decide +kernel
theorem dX2_becomes_42 : decode cX2_becomes 42 = .ok (.iconst 0, 1) := by decide +kernel
theorem dX2_becomes_43 : decode cX2_becomes 43 = .ok (.aload_n 0, 1) := by decide +kernel
theorem dX2_becomes_44 : decode cX2_becomes 44 = .ok (.getfield 18, 3) := by decide +kernel
theorem dX2_becomes_47 : decode cX2_becomes 47 = .ok (.iconst 0, 1) := by decide +kernel
theorem dX2_becomes_48 : decode cX2_becomes 48 = .ok (.iconst 5, 1) := by decide +kernel
theorem dX2_becomes_49 : decode cX2_becomes 49 = .ok (.invokestatic 41, 3) := by decide +kernel
theorem dX2_becomes_52 : decode cX2_becomes 52 = .ok (.aload_n 1, 1) := by decide +kernel
theorem dX2_becomes_53 : decode cX2_becomes 53 = .ok (.getfield 21, 3) := by decide +kernel
theorem dX2_becomes_56 : decode cX2_becomes 56 = .ok (.iconst 0, 1) := by decide +kernel
theorem dX2_becomes_57 : decode cX2_becomes 57 = .ok (.aload_n 0, 1) := by decide +kernel
theorem dX2_becomes_58 : decode cX2_becomes 58 = .ok (.getfield 21, 3) := by decide +kernel
theorem dX2_becomes_61 : decode cX2_becomes 61 = .ok (.iconst 0, 1) := by decide +kernel
theorem dX2_becomes_62 : decode cX2_becomes 62 = .ok (.iconst 5, 1) := by decide +kernel
theorem dX2_becomes_63 : decode cX2_becomes 63 = .ok (.invokestatic 41, 3) := by decide +kernel
theorem dX2_becomes_66 : decode cX2_becomes 66 = .ok (.aload_n 1, 1) := by decide +kernel
theorem dX2_becomes_67 : decode cX2_becomes 67 = .ok (.getfield 24, 3) := by decide +kernel
theorem dX2_becomes_70 : decode cX2_becomes 70 = .ok (.iconst 0, 1) := by decide +kernel
theorem dX2_becomes_71 : decode cX2_becomes 71 = .ok (.aload_n 0, 1) := by decide +kernel
theorem dX2_becomes_72 : decode cX2_becomes 72 = .ok (.getfield 24, 3) := by decide +kernel
theorem dX2_becomes_75 : decode cX2_becomes 75 = .ok (.iconst 0, 1) := by decide +kernel
theorem dX2_becomes_76 : decode cX2_becomes 76 = .ok (.iconst 5, 1) := by decide +kernel
theorem dX2_becomes_77 : decode cX2_becomes 77 = .ok (.invokestatic 41, 3) := by decide +kernel
theorem dX2_becomes_80 : decode cX2_becomes 80 = .ok (.aload_n 1, 1) := by decide +kernel
theorem dX2_becomes_81 : decode cX2_becomes 81 = .ok (.getfield 27, 3) := by decide +kernel
theorem dX2_becomes_84 : decode cX2_becomes 84 = .ok (.iconst 0, 1) := by decide +kernel
theorem dX2_becomes_85 : decode cX2_becomes 85 = .ok (.aload_n 0, 1) := by decide +kernel
theorem dX2_becomes_86 : decode cX2_becomes 86 = .ok (.getfield 27, 3) := by decide +kernel
theorem dX2_becomes_89 : decode cX2_becomes 89 = .ok (.iconst 0, 1) := by decide +kernel
theorem dX2_becomes_90 : decode cX2_becomes 90 = .ok (.iconst 5, 1) := by decide +kernel
theorem dX2_becomes_91 : decode cX2_becomes 91 = .ok (.invokestatic 41, 3) := by decide +kernel
theorem dX2_becomes_94 : decode cX2_becomes 94 = .ok (.aload_n 0, 1) := by decide +kernel
theorem dX2_becomes_95 : decode cX2_becomes 95 = .ok (.aload_n 1, 1) := by decide +kernel
theorem dX2_becomes_96 : decode cX2_becomes 96 = .ok (.getfield 50, 3) := by decide +kernel
theorem dX2_becomes_99 : decode cX2_becomes 99 = .ok (.putfield 50, 3) := by decide +kernel
theorem dX2_becomes_102 : decode cX2_becomes 102 = .ok (.aload_n 0, 1) := by decide +kernel
theorem dX2_becomes_103 : decode cX2_becomes 103 = .ok (.aload_n 1, 1) := by decide +kernel
theorem dX2_becomes_104 : decode cX2_becomes 104 = .ok (.getfield 30, 3) := by decide +kernel
theorem dX2_becomes_107 : decode cX2_becomes 107 = .ok (.putfield 30, 3) := by decide +kernel
theorem dX2_becomes_110 : decode cX2_becomes 110 = .ok (.aload_n 0, 1) := by decide +kernel
theorem dX2_becomes_111 : decode cX2_becomes 111 = .ok (.aload_n 1, 1) := by decide +kernel
theorem dX2_becomes_112 : decode cX2_becomes 112 = .ok (.getfield 53, 3) := by decide +kernel
theorem dX2_becomes_115 : decode cX2_becomes 115 = .ok (.putfield 53, 3) := by decide +kernel
theorem dX2_becomes_118 : decode cX2_becomes 118 = .ok (.aload_n 0, 1) := by decide +kernel
theorem dX2_becomes_119 : decode cX2_becomes 119 = .ok (.aload_n 1, 1) := by decide +kernel
theorem dX2_becomes_120 : decode cX2_becomes 120 = .ok (.getfield 37, 3) := by decide +kernel
theorem dX2_becomes_123 : decode cX2_becomes 123 = .ok (.putfield 37, 3) := by decide +kernel
theorem dX2_becomes_126 : decode cX2_becomes 126 = .ok (.return_, 1) := by decide +kernel
theorem dX2_has_0 : decode cX2_has 0 = .ok (.iload_n 1, 1) := by decide +kernel
theorem dX2_has_1 : decode cX2_has 1 = .ok (.iconst 0, 1) := by decide +kernel
theorem dX2_has_2 : decode cX2_has 2 = .ok (.aload_n 0, 1) := by decide +kernel
theorem dX2_has_3 : decode cX2_has 3 = .ok (.getfield 47, 3) := by decide +kernel
theorem dX2_has_6 : decode cX2_has 6 = .ok (.iconst 1, 1) := by decide +kernel
theorem dX2_has_7 : decode cX2_has 7 = .ok (.isub, 1) := by decide +kernel
theorem dX2_has_8 : decode cX2_has 8 = .ok (.invokestatic 56, 3) := by decide +kernel
theorem dX2_has_11 : decode cX2_has 11 = .ok (.ireturn, 1) := by decide +kernel
theorem dX2_isDown_0 : decode cX2_isDown 0 = .ok (.aload_n 0, 1) := by decide +kernel
theorem dX2_isDown_1 : decode cX2_isDown 1 = .ok (.getfield 53, 3) := by decide +kernel
theorem dX2_isDown_4 : decode cX2_isDown 4 = .ok (.bipush 100, 2) := by decide +kernel
theorem dX2_isDown_6 : decode cX2_isDown 6 = .ok (.if_icmp .lt 7, 3) := by decide +kernel
theorem dX2_isDown_9 : decode cX2_isDown 9 = .ok (.iconst 1, 1) := by decide +kernel
theorem dX2_isDown_10 : decode cX2_isDown 10 = .ok (.goto 4, 3) := by decide +kernel
theorem dX2_isDown_13 : decode cX2_isDown 13 = .ok (.iconst 0, 1) := by decide +kernel
theorem dX2_isDown_14 : decode cX2_isDown 14 = .ok (.ireturn, 1) := by decide +kernel
theorem dX2_comes_0 : decode cX2_comes 0 = .ok (.aload_n 0, 1) := by decide +kernel
theorem dX2_comes_1 : decode cX2_comes 1 = .ok (.getfield 47, 3) := by decide +kernel
theorem dX2_comes_4 : decode cX2_comes 4 = .ok (.iconst 0, 1) := by decide +kernel
theorem dX2_comes_5 : decode cX2_comes 5 = .ok (.iconst 4, 1) := by decide +kernel
theorem dX2_comes_6 : decode cX2_comes 6 = .ok (.invokestatic 56, 3) := by decide +kernel
theorem dX2_comes_9 : decode cX2_comes 9 = .ok (.ifCond .ne 6, 3) := by decide +kernel
theorem dX2_comes_12 : decode cX2_comes 12 = .ok (.bipush (-4), 2) := by decide +kernel
theorem dX2_comes_14 : decode cX2_comes 14 = .ok (.ireturn, 1) := by decide +kernel
theorem dX2_comes_15 : decode cX2_comes 15 = .ok (.aload_n 0, 1) := by decide +kernel
theorem dX2_comes_16 : decode cX2_comes 16 = .ok (.getfield 18, 3) := by decide +kernel
theorem dX2_comes_19 : decode cX2_comes 19 = .ok (.aload_n 0, 1) := by decide +kernel
theorem dX2_comes_20 : decode cX2_comes 20 = .ok (.getfield 47, 3) := by decide +kernel
theorem dX2_comes_23 : decode cX2_comes 23 = .ok (.iload_n 1, 1) := by decide +kernel
theorem dX2_comes_24 : decode cX2_comes 24 = .ok (.iastore, 1) := by decide +kernel
theorem dX2_comes_25 : decode cX2_comes 25 = .ok (.aload_n 0, 1) := by decide +kernel
theorem dX2_comes_26 : decode cX2_comes 26 = .ok (.getfield 21, 3) := by decide +kernel
theorem dX2_comes_29 : decode cX2_comes 29 = .ok (.aload_n 0, 1) := by decide +kernel
theorem dX2_comes_30 : decode cX2_comes 30 = .ok (.getfield 47, 3) := by decide +kernel
theorem dX2_comes_33 : decode cX2_comes 33 = .ok (.iload_n 2, 1) := by decide +kernel
theorem dX2_comes_34 : decode cX2_comes 34 = .ok (.iastore, 1) := by decide +kernel
theorem dX2_comes_35 : decode cX2_comes 35 = .ok (.aload_n 0, 1) := by decide +kernel
theorem dX2_comes_36 : decode cX2_comes 36 = .ok (.getfield 24, 3) := by decide +kernel
theorem dX2_comes_39 : decode cX2_comes 39 = .ok (.aload_n 0, 1) := by decide +kernel
theorem dX2_comes_40 : decode cX2_comes 40 = .ok (.getfield 47, 3) := by decide +kernel
theorem dX2_comes_43 : decode cX2_comes 43 = .ok (.iload_n 3, 1) := by decide +kernel
theorem dX2_comes_44 : decode cX2_comes 44 = .ok (.iastore, 1) := by decide +kernel
theorem dX2_comes_45 : decode cX2_comes 45 = .ok (.aload_n 0, 1) := by decide +kernel
theorem dX2_comes_46 : decode cX2_comes 46 = .ok (.getfield 27, 3) := by decide +kernel
theorem dX2_comes_49 : decode cX2_comes 49 = .ok (.aload_n 0, 1) := by decide +kernel
theorem dX2_comes_50 : decode cX2_comes 50 = .ok (.getfield 47, 3) := by decide +kernel
theorem dX2_comes_53 : decode cX2_comes 53 = .ok (.iconst 0, 1) := by decide +kernel
theorem dX2_comes_54 : decode cX2_comes 54 = .ok (.iastore, 1) := by decide +kernel
theorem dX2_comes_55 : decode cX2_comes 55 = .ok (.aload_n 0, 1) := by decide +kernel
theorem dX2_comes_56 : decode cX2_comes 56 = .ok (.dup, 1) := by decide +kernel
theorem dX2_comes_57 : decode cX2_comes 57 = .ok (.getfield 47, 3) := by decide +kernel
theorem dX2_comes_60 : decode cX2_comes 60 = .ok (.iconst 1, 1) := by decide +kernel
theorem dX2_comes_61 : decode cX2_comes 61 = .ok (.iadd, 1) := by decide +kernel
theorem dX2_comes_62 : decode cX2_comes 62 = .ok (.putfield 47, 3) := by decide +kernel
theorem dX2_comes_65 : decode cX2_comes 65 = .ok (.aload_n 0, 1) := by decide +kernel
theorem dX2_comes_66 : decode cX2_comes 66 = .ok (.getfield 47, 3) := by decide +kernel
theorem dX2_comes_69 : decode cX2_comes 69 = .ok (.iconst 1, 1) := by decide +kernel
theorem dX2_comes_70 : decode cX2_comes 70 = .ok (.isub, 1) := by decide +kernel
theorem dX2_comes_71 : decode cX2_comes 71 = .ok (.ireturn, 1) := by decide +kernel
theorem dX2_who_0 : decode cX2_who 0 = .ok (.iconst 0, 1) := by decide +kernel
theorem dX2_who_1 : decode cX2_who 1 = .ok (.istore_n 2, 1) := by decide +kernel
theorem dX2_who_2 : decode cX2_who 2 = .ok (.iconst 0, 1) := by decide +kernel
theorem dX2_who_3 : decode cX2_who 3 = .ok (.istore_n 3, 1) := by decide +kernel
theorem dX2_who_4 : decode cX2_who 4 = .ok (.iload_n 3, 1) := by decide +kernel
theorem dX2_who_5 : decode cX2_who 5 = .ok (.aload_n 0, 1) := by decide +kernel
theorem dX2_who_6 : decode cX2_who 6 = .ok (.getfield 47, 3) := by decide +kernel
theorem dX2_who_9 : decode cX2_who 9 = .ok (.if_icmp .ge 25, 3) := by decide +kernel
theorem dX2_who_12 : decode cX2_who 12 = .ok (.aload_n 0, 1) := by decide +kernel
theorem dX2_who_13 : decode cX2_who 13 = .ok (.getfield 27, 3) := by decide +kernel
theorem dX2_who_16 : decode cX2_who 16 = .ok (.iload_n 3, 1) := by decide +kernel
theorem dX2_who_17 : decode cX2_who 17 = .ok (.iaload, 1) := by decide +kernel
theorem dX2_who_18 : decode cX2_who 18 = .ok (.iload_n 1, 1) := by decide +kernel
theorem dX2_who_19 : decode cX2_who 19 = .ok (.if_icmp .ne 9, 3) := by decide +kernel
theorem dX2_who_22 : decode cX2_who 22 = .ok (.iload_n 2, 1) := by decide +kernel
theorem dX2_who_23 : decode cX2_who 23 = .ok (.iconst 1, 1) := by decide +kernel
theorem dX2_who_24 : decode cX2_who 24 = .ok (.iload_n 3, 1) := by decide +kernel
theorem dX2_who_25 : decode cX2_who 25 = .ok (.ishl, 1) := by decide +kernel
theorem dX2_who_26 : decode cX2_who 26 = .ok (.ior, 1) := by decide +kernel
theorem dX2_who_27 : decode cX2_who 27 = .ok (.istore_n 2, 1) := by decide +kernel
theorem dX2_who_28 : decode cX2_who 28 = .ok (.iinc 3 1, 3) := by decide +kernel
theorem dX2_who_31 : decode cX2_who 31 = .ok (.goto (-27), 3) := by decide +kernel
theorem dX2_who_34 : decode cX2_who 34 = .ok (.iload_n 2, 1) := by decide +kernel
theorem dX2_who_35 : decode cX2_who 35 = .ok (.ireturn, 1) := by decide +kernel
theorem dX2_allMove_0 : decode cX2_allMove 0 = .ok (.iconst 0, 1) := by decide +kernel
theorem dX2_allMove_1 : decode cX2_allMove 1 = .ok (.istore_n 3, 1) := by decide +kernel
theorem dX2_allMove_2 : decode cX2_allMove 2 = .ok (.iload_n 3, 1) := by decide +kernel
theorem dX2_allMove_3 : decode cX2_allMove 3 = .ok (.aload_n 0, 1) := by decide +kernel
theorem dX2_allMove_4 : decode cX2_allMove 4 = .ok (.getfield 47, 3) := by decide +kernel
theorem dX2_allMove_7 : decode cX2_allMove 7 = .ok (.if_icmp .ge 26, 3) := by decide +kernel
theorem dX2_allMove_10 : decode cX2_allMove 10 = .ok (.aload_n 0, 1) := by decide +kernel
theorem dX2_allMove_11 : decode cX2_allMove 11 = .ok (.getfield 27, 3) := by decide +kernel
theorem dX2_allMove_14 : decode cX2_allMove 14 = .ok (.iload_n 3, 1) := by decide +kernel
theorem dX2_allMove_15 : decode cX2_allMove 15 = .ok (.iaload, 1) := by decide +kernel
theorem dX2_allMove_16 : decode cX2_allMove 16 = .ok (.iload_n 1, 1) := by decide +kernel
theorem dX2_allMove_17 : decode cX2_allMove 17 = .ok (.if_icmp .ne 10, 3) := by decide +kernel
theorem dX2_allMove_20 : decode cX2_allMove 20 = .ok (.aload_n 0, 1) := by decide +kernel
theorem dX2_allMove_21 : decode cX2_allMove 21 = .ok (.getfield 27, 3) := by decide +kernel
theorem dX2_allMove_24 : decode cX2_allMove 24 = .ok (.iload_n 3, 1) := by decide +kernel
theorem dX2_allMove_25 : decode cX2_allMove 25 = .ok (.iload_n 2, 1) := by decide +kernel
theorem dX2_allMove_26 : decode cX2_allMove 26 = .ok (.iastore, 1) := by decide +kernel
theorem dX2_allMove_27 : decode cX2_allMove 27 = .ok (.iinc 3 1, 3) := by decide +kernel
theorem dX2_allMove_30 : decode cX2_allMove 30 = .ok (.goto (-28), 3) := by decide +kernel
theorem dX2_allMove_33 : decode cX2_allMove 33 = .ok (.return_, 1) := by decide +kernel
theorem dX2_madeBy_0 : decode cX2_madeBy 0 = .ok (.iconst 0, 1) := by decide +kernel
theorem dX2_madeBy_1 : decode cX2_madeBy 1 = .ok (.istore_n 2, 1) := by decide +kernel
theorem dX2_madeBy_2 : decode cX2_madeBy 2 = .ok (.iconst 0, 1) := by decide +kernel
theorem dX2_madeBy_3 : decode cX2_madeBy 3 = .ok (.istore_n 3, 1) := by decide +kernel
theorem dX2_madeBy_4 : decode cX2_madeBy 4 = .ok (.iload_n 3, 1) := by decide +kernel
theorem dX2_madeBy_5 : decode cX2_madeBy 5 = .ok (.bipush 10, 2) := by decide +kernel
theorem dX2_madeBy_7 : decode cX2_madeBy 7 = .ok (.if_icmp .ge 25, 3) := by decide +kernel
theorem dX2_madeBy_10 : decode cX2_madeBy 10 = .ok (.aload_n 0, 1) := by decide +kernel
theorem dX2_madeBy_11 : decode cX2_madeBy 11 = .ok (.getfield 9, 3) := by decide +kernel
theorem dX2_madeBy_14 : decode cX2_madeBy 14 = .ok (.iload_n 3, 1) := by decide +kernel
theorem dX2_madeBy_15 : decode cX2_madeBy 15 = .ok (.iaload, 1) := by decide +kernel
theorem dX2_madeBy_16 : decode cX2_madeBy 16 = .ok (.iload_n 1, 1) := by decide +kernel
theorem dX2_madeBy_17 : decode cX2_madeBy 17 = .ok (.if_icmp .ne 9, 3) := by decide +kernel
theorem dX2_madeBy_20 : decode cX2_madeBy 20 = .ok (.iload_n 2, 1) := by decide +kernel
theorem dX2_madeBy_21 : decode cX2_madeBy 21 = .ok (.iconst 1, 1) := by decide +kernel
theorem dX2_madeBy_22 : decode cX2_madeBy 22 = .ok (.iload_n 3, 1) := by decide +kernel
theorem dX2_madeBy_23 : decode cX2_madeBy 23 = .ok (.ishl, 1) := by decide +kernel
theorem dX2_madeBy_24 : decode cX2_madeBy 24 = .ok (.ior, 1) := by decide +kernel
theorem dX2_madeBy_25 : decode cX2_madeBy 25 = .ok (.istore_n 2, 1) := by decide +kernel
theorem dX2_madeBy_26 : decode cX2_madeBy 26 = .ok (.iinc 3 1, 3) := by decide +kernel
theorem dX2_madeBy_29 : decode cX2_madeBy 29 = .ok (.goto (-25), 3) := by decide +kernel
theorem dX2_madeBy_32 : decode cX2_madeBy 32 = .ok (.iload_n 2, 1) := by decide +kernel
theorem dX2_madeBy_33 : decode cX2_madeBy 33 = .ok (.ireturn, 1) := by decide +kernel
theorem dX2_partsMade_0 : decode cX2_partsMade 0 = .ok (.bipush 10, 2) := by decide +kernel
theorem dX2_partsMade_2 : decode cX2_partsMade 2 = .ok (.aload_n 0, 1) := by decide +kernel
theorem dX2_partsMade_3 : decode cX2_partsMade 3 = .ok (.iconst (-1), 1) := by decide +kernel
theorem dX2_partsMade_4 : decode cX2_partsMade 4 = .ok (.invokevirtual 60, 3) := by decide +kernel
theorem dX2_partsMade_7 : decode cX2_partsMade 7 = .ok (.invokestatic 64, 3) := by decide +kernel
theorem dX2_partsMade_10 : decode cX2_partsMade 10 = .ok (.isub, 1) := by decide +kernel
theorem dX2_partsMade_11 : decode cX2_partsMade 11 = .ok (.ireturn, 1) := by decide +kernel
theorem dX2_nextUnmade_0 : decode cX2_nextUnmade 0 = .ok (.iconst 0, 1) := by decide +kernel
theorem dX2_nextUnmade_1 : decode cX2_nextUnmade 1 = .ok (.iload_n 1, 1) := by decide +kernel
theorem dX2_nextUnmade_2 : decode cX2_nextUnmade 2 = .ok (.invokestatic 69, 3) := by decide +kernel
theorem dX2_nextUnmade_5 : decode cX2_nextUnmade 5 = .ok (.istore_n 2, 1) := by decide +kernel
theorem dX2_nextUnmade_6 : decode cX2_nextUnmade 6 = .ok (.iload_n 2, 1) := by decide +kernel
theorem dX2_nextUnmade_7 : decode cX2_nextUnmade 7 = .ok (.bipush 10, 2) := by decide +kernel
theorem dX2_nextUnmade_9 : decode cX2_nextUnmade 9 = .ok (.if_icmp .ge 21, 3) := by decide +kernel
theorem dX2_nextUnmade_12 : decode cX2_nextUnmade 12 = .ok (.aload_n 0, 1) := by decide +kernel
theorem dX2_nextUnmade_13 : decode cX2_nextUnmade 13 = .ok (.getfield 9, 3) := by decide +kernel
theorem dX2_nextUnmade_16 : decode cX2_nextUnmade 16 = .ok (.iload_n 2, 1) := by decide +kernel
theorem dX2_nextUnmade_17 : decode cX2_nextUnmade 17 = .ok (.iaload, 1) := by decide +kernel
theorem dX2_nextUnmade_18 : decode cX2_nextUnmade 18 = .ok (.iconst (-1), 1) := by decide +kernel
theorem dX2_nextUnmade_19 : decode cX2_nextUnmade 19 = .ok (.if_icmp .ne 5, 3) := by decide +kernel
theorem dX2_nextUnmade_22 : decode cX2_nextUnmade 22 = .ok (.iload_n 2, 1) := by decide +kernel
theorem dX2_nextUnmade_23 : decode cX2_nextUnmade 23 = .ok (.ireturn, 1) := by decide +kernel
theorem dX2_nextUnmade_24 : decode cX2_nextUnmade 24 = .ok (.iinc 2 1, 3) := by decide +kernel
theorem dX2_nextUnmade_27 : decode cX2_nextUnmade 27 = .ok (.goto (-21), 3) := by decide +kernel
theorem dX2_nextUnmade_30 : decode cX2_nextUnmade 30 = .ok (.iconst (-1), 1) := by decide +kernel
theorem dX2_nextUnmade_31 : decode cX2_nextUnmade 31 = .ok (.ireturn, 1) := by decide +kernel
theorem dX2_leastSound_0 : decode cX2_leastSound 0 = .ok (.iconst (-1), 1) := by decide +kernel
theorem dX2_leastSound_1 : decode cX2_leastSound 1 = .ok (.istore_n 2, 1) := by decide +kernel
theorem dX2_leastSound_2 : decode cX2_leastSound 2 = .ok (.bipush 100, 2) := by decide +kernel
theorem dX2_leastSound_4 : decode cX2_leastSound 4 = .ok (.istore_n 3, 1) := by decide +kernel
theorem dX2_leastSound_5 : decode cX2_leastSound 5 = .ok (.iconst 0, 1) := by decide +kernel
theorem dX2_leastSound_6 : decode cX2_leastSound 6 = .ok (.istore 4, 2) := by decide +kernel
theorem dX2_leastSound_8 : decode cX2_leastSound 8 = .ok (.iload 4, 2) := by decide +kernel
theorem dX2_leastSound_10 : decode cX2_leastSound 10 = .ok (.bipush 10, 2) := by decide +kernel
theorem dX2_leastSound_12 : decode cX2_leastSound 12 = .ok (.if_icmp .ge 42, 3) := by decide +kernel
theorem dX2_leastSound_15 : decode cX2_leastSound 15 = .ok (.aload_n 0, 1) := by decide +kernel
theorem dX2_leastSound_16 : decode cX2_leastSound 16 = .ok (.getfield 9, 3) := by decide +kernel
theorem dX2_leastSound_19 : decode cX2_leastSound 19 = .ok (.iload 4, 2) := by decide +kernel
theorem dX2_leastSound_21 : decode cX2_leastSound 21 = .ok (.iaload, 1) := by decide +kernel
theorem dX2_leastSound_22 : decode cX2_leastSound 22 = .ok (.iload_n 1, 1) := by decide +kernel
theorem dX2_leastSound_23 : decode cX2_leastSound 23 = .ok (.if_icmp .ne 25, 3) := by decide +kernel
theorem dX2_leastSound_26 : decode cX2_leastSound 26 = .ok (.aload_n 0, 1) := by decide +kernel
theorem dX2_leastSound_27 : decode cX2_leastSound 27 = .ok (.getfield 15, 3) := by decide +kernel
theorem dX2_leastSound_30 : decode cX2_leastSound 30 = .ok (.iload 4, 2) := by decide +kernel
theorem dX2_leastSound_32 : decode cX2_leastSound 32 = .ok (.iaload, 1) := by decide +kernel
theorem dX2_leastSound_33 : decode cX2_leastSound 33 = .ok (.iload_n 3, 1) := by decide +kernel
theorem dX2_leastSound_34 : decode cX2_leastSound 34 = .ok (.if_icmp .ge 14, 3) := by decide +kernel
theorem dX2_leastSound_37 : decode cX2_leastSound 37 = .ok (.iload 4, 2) := by decide +kernel
theorem dX2_leastSound_39 : decode cX2_leastSound 39 = .ok (.istore_n 2, 1) := by decide +kernel
theorem dX2_leastSound_40 : decode cX2_leastSound 40 = .ok (.aload_n 0, 1) := by decide +kernel
theorem dX2_leastSound_41 : decode cX2_leastSound 41 = .ok (.getfield 15, 3) := by decide +kernel
theorem dX2_leastSound_44 : decode cX2_leastSound 44 = .ok (.iload 4, 2) := by decide +kernel
theorem dX2_leastSound_46 : decode cX2_leastSound 46 = .ok (.iaload, 1) := by decide +kernel
theorem dX2_leastSound_47 : decode cX2_leastSound 47 = .ok (.istore_n 3, 1) := by decide +kernel
theorem dX2_leastSound_48 : decode cX2_leastSound 48 = .ok (.iinc 4 1, 3) := by decide +kernel
theorem dX2_leastSound_51 : decode cX2_leastSound 51 = .ok (.goto (-43), 3) := by decide +kernel
theorem dX2_leastSound_54 : decode cX2_leastSound 54 = .ok (.iload_n 2, 1) := by decide +kernel
theorem dX2_leastSound_55 : decode cX2_leastSound 55 = .ok (.ireturn, 1) := by decide +kernel
theorem dX2_leaks_0 : decode cX2_leaks 0 = .ok (.iconst 0, 1) := by decide +kernel
theorem dX2_leaks_1 : decode cX2_leaks 1 = .ok (.aload_n 0, 1) := by decide +kernel
theorem dX2_leaks_2 : decode cX2_leaks 2 = .ok (.getfield 30, 3) := by decide +kernel
theorem dX2_leaks_5 : decode cX2_leaks 5 = .ok (.aload_n 0, 1) := by decide +kernel
theorem dX2_leaks_6 : decode cX2_leaks 6 = .ok (.getfield 15, 3) := by decide +kernel
theorem dX2_leaks_9 : decode cX2_leaks 9 = .ok (.iload_n 1, 1) := by decide +kernel
theorem dX2_leaks_10 : decode cX2_leaks 10 = .ok (.iaload, 1) := by decide +kernel
theorem dX2_leaks_11 : decode cX2_leaks 11 = .ok (.isub, 1) := by decide +kernel
theorem dX2_leaks_12 : decode cX2_leaks 12 = .ok (.invokestatic 69, 3) := by decide +kernel
theorem dX2_leaks_15 : decode cX2_leaks 15 = .ok (.istore_n 2, 1) := by decide +kernel
theorem dX2_leaks_16 : decode cX2_leaks 16 = .ok (.iload_n 1, 1) := by decide +kernel
theorem dX2_leaks_17 : decode cX2_leaks 17 = .ok (.invokestatic 75, 3) := by decide +kernel
theorem dX2_leaks_20 : decode cX2_leaks 20 = .ok (.ifCond .eq 7, 3) := by decide +kernel
theorem dX2_leaks_23 : decode cX2_leaks 23 = .ok (.iload_n 2, 1) := by decide +kernel
theorem dX2_leaks_24 : decode cX2_leaks 24 = .ok (.goto 6, 3) := by decide +kernel
theorem dX2_leaks_27 : decode cX2_leaks 27 = .ok (.iload_n 2, 1) := by decide +kernel
theorem dX2_leaks_28 : decode cX2_leaks 28 = .ok (.iconst 2, 1) := by decide +kernel
theorem dX2_leaks_29 : decode cX2_leaks 29 = .ok (.idiv, 1) := by decide +kernel
theorem dX2_leaks_30 : decode cX2_leaks 30 = .ok (.ireturn, 1) := by decide +kernel
theorem dX2_allLeak_0 : decode cX2_allLeak 0 = .ok (.iconst 0, 1) := by decide +kernel
theorem dX2_allLeak_1 : decode cX2_allLeak 1 = .ok (.istore_n 1, 1) := by decide +kernel
theorem dX2_allLeak_2 : decode cX2_allLeak 2 = .ok (.iconst 0, 1) := by decide +kernel
theorem dX2_allLeak_3 : decode cX2_allLeak 3 = .ok (.istore_n 2, 1) := by decide +kernel
theorem dX2_allLeak_4 : decode cX2_allLeak 4 = .ok (.iload_n 2, 1) := by decide +kernel
theorem dX2_allLeak_5 : decode cX2_allLeak 5 = .ok (.bipush 10, 2) := by decide +kernel
theorem dX2_allLeak_7 : decode cX2_allLeak 7 = .ok (.if_icmp .ge 17, 3) := by decide +kernel
theorem dX2_allLeak_10 : decode cX2_allLeak 10 = .ok (.iload_n 1, 1) := by decide +kernel
theorem dX2_allLeak_11 : decode cX2_allLeak 11 = .ok (.aload_n 0, 1) := by decide +kernel
theorem dX2_allLeak_12 : decode cX2_allLeak 12 = .ok (.iload_n 2, 1) := by decide +kernel
theorem dX2_allLeak_13 : decode cX2_allLeak 13 = .ok (.invokevirtual 79, 3) := by decide +kernel
theorem dX2_allLeak_16 : decode cX2_allLeak 16 = .ok (.iadd, 1) := by decide +kernel
theorem dX2_allLeak_17 : decode cX2_allLeak 17 = .ok (.istore_n 1, 1) := by decide +kernel
theorem dX2_allLeak_18 : decode cX2_allLeak 18 = .ok (.iinc 2 1, 3) := by decide +kernel
theorem dX2_allLeak_21 : decode cX2_allLeak 21 = .ok (.goto (-17), 3) := by decide +kernel
theorem dX2_allLeak_24 : decode cX2_allLeak 24 = .ok (.iload_n 1, 1) := by decide +kernel
theorem dX2_allLeak_25 : decode cX2_allLeak 25 = .ok (.ireturn, 1) := by decide +kernel
theorem dX2_telling_0 : decode cX2_telling 0 = .ok (.iload_n 3, 1) := by decide +kernel
theorem dX2_telling_1 : decode cX2_telling 1 = .ok (.invokestatic 82, 3) := by decide +kernel
theorem dX2_telling_4 : decode cX2_telling 4 = .ok (.istore 4, 2) := by decide +kernel
theorem dX2_telling_6 : decode cX2_telling 6 = .ok (.aload_n 0, 1) := by decide +kernel
theorem dX2_telling_7 : decode cX2_telling 7 = .ok (.getfield 34, 3) := by decide +kernel
theorem dX2_telling_10 : decode cX2_telling 10 = .ok (.iconst 0, 1) := by decide +kernel
theorem dX2_telling_11 : decode cX2_telling 11 = .ok (.aload_n 0, 1) := by decide +kernel
theorem dX2_telling_12 : decode cX2_telling 12 = .ok (.getfield 24, 3) := by decide +kernel
theorem dX2_telling_15 : decode cX2_telling 15 = .ok (.iload_n 2, 1) := by decide +kernel
theorem dX2_telling_16 : decode cX2_telling 16 = .ok (.iaload, 1) := by decide +kernel
theorem dX2_telling_17 : decode cX2_telling 17 = .ok (.iastore, 1) := by decide +kernel
theorem dX2_telling_18 : decode cX2_telling 18 = .ok (.aload_n 0, 1) := by decide +kernel
theorem dX2_telling_19 : decode cX2_telling 19 = .ok (.getfield 34, 3) := by decide +kernel
theorem dX2_telling_22 : decode cX2_telling 22 = .ok (.iconst 1, 1) := by decide +kernel
theorem dX2_telling_23 : decode cX2_telling 23 = .ok (.iload 4, 2) := by decide +kernel
theorem dX2_telling_25 : decode cX2_telling 25 = .ok (.ifCond .eq 12, 3) := by decide +kernel
theorem dX2_telling_28 : decode cX2_telling 28 = .ok (.aload_n 0, 1) := by decide +kernel
theorem dX2_telling_29 : decode cX2_telling 29 = .ok (.getfield 15, 3) := by decide +kernel
theorem dX2_telling_32 : decode cX2_telling 32 = .ok (.iload_n 3, 1) := by decide +kernel
theorem dX2_telling_33 : decode cX2_telling 33 = .ok (.iaload, 1) := by decide +kernel
theorem dX2_telling_34 : decode cX2_telling 34 = .ok (.goto 4, 3) := by decide +kernel
theorem dX2_telling_37 : decode cX2_telling 37 = .ok (.iconst 0, 1) := by decide +kernel
theorem dX2_telling_38 : decode cX2_telling 38 = .ok (.iastore, 1) := by decide +kernel
theorem dX2_telling_39 : decode cX2_telling 39 = .ok (.aload_n 0, 1) := by decide +kernel
theorem dX2_telling_40 : decode cX2_telling 40 = .ok (.getfield 34, 3) := by decide +kernel
theorem dX2_telling_43 : decode cX2_telling 43 = .ok (.iconst 2, 1) := by decide +kernel
theorem dX2_telling_44 : decode cX2_telling 44 = .ok (.aload_n 0, 1) := by decide +kernel
theorem dX2_telling_45 : decode cX2_telling 45 = .ok (.getfield 21, 3) := by decide +kernel
theorem dX2_telling_48 : decode cX2_telling 48 = .ok (.iload_n 2, 1) := by decide +kernel
theorem dX2_telling_49 : decode cX2_telling 49 = .ok (.iaload, 1) := by decide +kernel
theorem dX2_telling_50 : decode cX2_telling 50 = .ok (.iastore, 1) := by decide +kernel
theorem dX2_telling_51 : decode cX2_telling 51 = .ok (.aload_n 0, 1) := by decide +kernel
theorem dX2_telling_52 : decode cX2_telling 52 = .ok (.getfield 34, 3) := by decide +kernel
theorem dX2_telling_55 : decode cX2_telling 55 = .ok (.iconst 3, 1) := by decide +kernel
theorem dX2_telling_56 : decode cX2_telling 56 = .ok (.aload_n 0, 1) := by decide +kernel
theorem dX2_telling_57 : decode cX2_telling 57 = .ok (.getfield 50, 3) := by decide +kernel
theorem dX2_telling_60 : decode cX2_telling 60 = .ok (.iastore, 1) := by decide +kernel
theorem dX2_telling_61 : decode cX2_telling 61 = .ok (.aload_n 0, 1) := by decide +kernel
theorem dX2_telling_62 : decode cX2_telling 62 = .ok (.getfield 34, 3) := by decide +kernel
theorem dX2_telling_65 : decode cX2_telling 65 = .ok (.iconst 4, 1) := by decide +kernel
theorem dX2_telling_66 : decode cX2_telling 66 = .ok (.aload_n 0, 1) := by decide +kernel
theorem dX2_telling_67 : decode cX2_telling 67 = .ok (.getfield 53, 3) := by decide +kernel
theorem dX2_telling_70 : decode cX2_telling 70 = .ok (.iastore, 1) := by decide +kernel
theorem dX2_telling_71 : decode cX2_telling 71 = .ok (.aload_n 0, 1) := by decide +kernel
theorem dX2_telling_72 : decode cX2_telling 72 = .ok (.getfield 34, 3) := by decide +kernel
theorem dX2_telling_75 : decode cX2_telling 75 = .ok (.iconst 5, 1) := by decide +kernel
theorem dX2_telling_76 : decode cX2_telling 76 = .ok (.iload 4, 2) := by decide +kernel
theorem dX2_telling_78 : decode cX2_telling 78 = .ok (.ifCond .eq 7, 3) := by decide +kernel
theorem dX2_telling_81 : decode cX2_telling 81 = .ok (.iload_n 3, 1) := by decide +kernel
theorem dX2_telling_82 : decode cX2_telling 82 = .ok (.goto 4, 3) := by decide +kernel
theorem dX2_telling_85 : decode cX2_telling 85 = .ok (.iconst 0, 1) := by decide +kernel
theorem dX2_telling_86 : decode cX2_telling 86 = .ok (.iastore, 1) := by decide +kernel
theorem dX2_telling_87 : decode cX2_telling 87 = .ok (.aload_n 0, 1) := by decide +kernel
theorem dX2_telling_88 : decode cX2_telling 88 = .ok (.getfield 37, 3) := by decide +kernel
theorem dX2_telling_91 : decode cX2_telling 91 = .ok (.iload_n 1, 1) := by decide +kernel
theorem dX2_telling_92 : decode cX2_telling 92 = .ok (.aload_n 0, 1) := by decide +kernel
theorem dX2_telling_93 : decode cX2_telling 93 = .ok (.getfield 34, 3) := by decide +kernel
theorem dX2_telling_96 : decode cX2_telling 96 = .ok (.invokevirtual 85, 3) := by decide +kernel
theorem dX2_telling_99 : decode cX2_telling 99 = .ok (.invokestatic 91, 3) := by decide +kernel
theorem dX2_telling_102 : decode cX2_telling 102 = .ok (.ireturn, 1) := by decide +kernel
theorem dX2_makes_0 : decode cX2_makes 0 = .ok (.aload_n 0, 1) := by decide +kernel
theorem dX2_makes_1 : decode cX2_makes 1 = .ok (.iconst 0, 1) := by decide +kernel
theorem dX2_makes_2 : decode cX2_makes 2 = .ok (.iload_n 1, 1) := by decide +kernel
theorem dX2_makes_3 : decode cX2_makes 3 = .ok (.iload_n 2, 1) := by decide +kernel
theorem dX2_makes_4 : decode cX2_makes 4 = .ok (.invokevirtual 94, 3) := by decide +kernel
theorem dX2_makes_7 : decode cX2_makes 7 = .ok (.istore_n 3, 1) := by decide +kernel
theorem dX2_makes_8 : decode cX2_makes 8 = .ok (.aload_n 0, 1) := by decide +kernel
theorem dX2_makes_9 : decode cX2_makes 9 = .ok (.iload_n 1, 1) := by decide +kernel
theorem dX2_makes_10 : decode cX2_makes 10 = .ok (.invokevirtual 60, 3) := by decide +kernel
theorem dX2_makes_13 : decode cX2_makes 13 = .ok (.iconst 1, 1) := by decide +kernel
theorem dX2_makes_14 : decode cX2_makes 14 = .ok (.iload_n 2, 1) := by decide +kernel
theorem dX2_makes_15 : decode cX2_makes 15 = .ok (.ishl, 1) := by decide +kernel
theorem dX2_makes_16 : decode cX2_makes 16 = .ok (.iconst (-1), 1) := by decide +kernel
theorem dX2_makes_17 : decode cX2_makes 17 = .ok (.ixor, 1) := by decide +kernel
theorem dX2_makes_18 : decode cX2_makes 18 = .ok (.iand, 1) := by decide +kernel
theorem dX2_makes_19 : decode cX2_makes 19 = .ok (.invokestatic 64, 3) := by decide +kernel
theorem dX2_makes_22 : decode cX2_makes 22 = .ok (.istore 4, 2) := by decide +kernel
theorem dX2_makes_24 : decode cX2_makes 24 = .ok (.iload_n 2, 1) := by decide +kernel
theorem dX2_makes_25 : decode cX2_makes 25 = .ok (.invokestatic 75, 3) := by decide +kernel
theorem dX2_makes_28 : decode cX2_makes 28 = .ok (.ifCond .eq 14, 3) := by decide +kernel
theorem dX2_makes_31 : decode cX2_makes 31 = .ok (.iload_n 3, 1) := by decide +kernel
theorem dX2_makes_32 : decode cX2_makes 32 = .ok (.aload_n 0, 1) := by decide +kernel
theorem dX2_makes_33 : decode cX2_makes 33 = .ok (.getfield 21, 3) := by decide +kernel
theorem dX2_makes_36 : decode cX2_makes 36 = .ok (.iload_n 1, 1) := by decide +kernel
theorem dX2_makes_37 : decode cX2_makes 37 = .ok (.iaload, 1) := by decide +kernel
theorem dX2_makes_38 : decode cX2_makes 38 = .ok (.iadd, 1) := by decide +kernel
theorem dX2_makes_39 : decode cX2_makes 39 = .ok (.goto 4, 3) := by decide +kernel
theorem dX2_makes_42 : decode cX2_makes 42 = .ok (.iload_n 3, 1) := by decide +kernel
theorem dX2_makes_43 : decode cX2_makes 43 = .ok (.istore 5, 2) := by decide +kernel
theorem dX2_makes_45 : decode cX2_makes 45 = .ok (.iload 4, 2) := by decide +kernel
theorem dX2_makes_47 : decode cX2_makes 47 = .ok (.ifCond .ne 9, 3) := by decide +kernel
theorem dX2_makes_50 : decode cX2_makes 50 = .ok (.iload_n 3, 1) := by decide +kernel
theorem dX2_makes_51 : decode cX2_makes 51 = .ok (.iconst 2, 1) := by decide +kernel
theorem dX2_makes_52 : decode cX2_makes 52 = .ok (.idiv, 1) := by decide +kernel
theorem dX2_makes_53 : decode cX2_makes 53 = .ok (.goto 4, 3) := by decide +kernel
theorem dX2_makes_56 : decode cX2_makes 56 = .ok (.iload_n 3, 1) := by decide +kernel
theorem dX2_makes_57 : decode cX2_makes 57 = .ok (.istore 6, 2) := by decide +kernel
theorem dX2_makes_59 : decode cX2_makes 59 = .ok (.aload_n 0, 1) := by decide +kernel
theorem dX2_makes_60 : decode cX2_makes 60 = .ok (.getfield 18, 3) := by decide +kernel
theorem dX2_makes_63 : decode cX2_makes 63 = .ok (.iload_n 1, 1) := by decide +kernel
theorem dX2_makes_64 : decode cX2_makes 64 = .ok (.iaload, 1) := by decide +kernel
theorem dX2_makes_65 : decode cX2_makes 65 = .ok (.tableswitch 79 1 5 #[35, 41, 47, 56, 65], 35) := by decide +kernel
theorem dX2_makes_100 : decode cX2_makes 100 = .ok (.iload 5, 2) := by decide +kernel
theorem dX2_makes_102 : decode cX2_makes 102 = .ok (.invokestatic 91, 3) := by decide +kernel
theorem dX2_makes_105 : decode cX2_makes 105 = .ok (.ireturn, 1) := by decide +kernel
theorem dX2_makes_106 : decode cX2_makes 106 = .ok (.iload 6, 2) := by decide +kernel
theorem dX2_makes_108 : decode cX2_makes 108 = .ok (.invokestatic 91, 3) := by decide +kernel
theorem dX2_makes_111 : decode cX2_makes 111 = .ok (.ireturn, 1) := by decide +kernel
theorem dX2_makes_112 : decode cX2_makes 112 = .ok (.iload 5, 2) := by decide +kernel
theorem dX2_makes_114 : decode cX2_makes 114 = .ok (.iload 4, 2) := by decide +kernel
theorem dX2_makes_116 : decode cX2_makes 116 = .ok (.iadd, 1) := by decide +kernel
theorem dX2_makes_117 : decode cX2_makes 117 = .ok (.invokestatic 91, 3) := by decide +kernel
theorem dX2_makes_120 : decode cX2_makes 120 = .ok (.ireturn, 1) := by decide +kernel
theorem dX2_makes_121 : decode cX2_makes 121 = .ok (.iload 6, 2) := by decide +kernel
theorem dX2_makes_123 : decode cX2_makes 123 = .ok (.bipush 10, 2) := by decide +kernel
theorem dX2_makes_125 : decode cX2_makes 125 = .ok (.iadd, 1) := by decide +kernel
theorem dX2_makes_126 : decode cX2_makes 126 = .ok (.invokestatic 91, 3) := by decide +kernel
theorem dX2_makes_129 : decode cX2_makes 129 = .ok (.ireturn, 1) := by decide +kernel
theorem dX2_makes_130 : decode cX2_makes 130 = .ok (.iload_n 2, 1) := by decide +kernel
theorem dX2_makes_131 : decode cX2_makes 131 = .ok (.invokestatic 75, 3) := by decide +kernel
theorem dX2_makes_134 : decode cX2_makes 134 = .ok (.ifCond .eq 7, 3) := by decide +kernel
theorem dX2_makes_137 : decode cX2_makes 137 = .ok (.iconst 0, 1) := by decide +kernel
theorem dX2_makes_138 : decode cX2_makes 138 = .ok (.goto 5, 3) := by decide +kernel
theorem dX2_makes_141 : decode cX2_makes 141 = .ok (.bipush 99, 2) := by decide +kernel
theorem dX2_makes_143 : decode cX2_makes 143 = .ok (.ireturn, 1) := by decide +kernel
theorem dX2_makes_144 : decode cX2_makes 144 = .ok (.iload_n 3, 1) := by decide +kernel
theorem dX2_makes_145 : decode cX2_makes 145 = .ok (.invokestatic 91, 3) := by decide +kernel
theorem dX2_makes_148 : decode cX2_makes 148 = .ok (.ireturn, 1) := by decide +kernel
theorem dX2_mends_0 : decode cX2_mends 0 = .ok (.aload_n 0, 1) := by decide +kernel
theorem dX2_mends_1 : decode cX2_mends 1 = .ok (.iconst 1, 1) := by decide +kernel
theorem dX2_mends_2 : decode cX2_mends 2 = .ok (.iload_n 1, 1) := by decide +kernel
theorem dX2_mends_3 : decode cX2_mends 3 = .ok (.iload_n 2, 1) := by decide +kernel
theorem dX2_mends_4 : decode cX2_mends 4 = .ok (.invokevirtual 94, 3) := by decide +kernel
theorem dX2_mends_7 : decode cX2_mends 7 = .ok (.istore_n 3, 1) := by decide +kernel
theorem dX2_mends_8 : decode cX2_mends 8 = .ok (.iload_n 2, 1) := by decide +kernel
theorem dX2_mends_9 : decode cX2_mends 9 = .ok (.invokestatic 75, 3) := by decide +kernel
theorem dX2_mends_12 : decode cX2_mends 12 = .ok (.ifCond .eq 9, 3) := by decide +kernel
theorem dX2_mends_15 : decode cX2_mends 15 = .ok (.iload_n 3, 1) := by decide +kernel
theorem dX2_mends_16 : decode cX2_mends 16 = .ok (.iconst 2, 1) := by decide +kernel
theorem dX2_mends_17 : decode cX2_mends 17 = .ok (.imul, 1) := by decide +kernel
theorem dX2_mends_18 : decode cX2_mends 18 = .ok (.goto 4, 3) := by decide +kernel
theorem dX2_mends_21 : decode cX2_mends 21 = .ok (.iload_n 3, 1) := by decide +kernel
theorem dX2_mends_22 : decode cX2_mends 22 = .ok (.istore 4, 2) := by decide +kernel
theorem dX2_mends_24 : decode cX2_mends 24 = .ok (.aload_n 0, 1) := by decide +kernel
theorem dX2_mends_25 : decode cX2_mends 25 = .ok (.getfield 18, 3) := by decide +kernel
theorem dX2_mends_28 : decode cX2_mends 28 = .ok (.iload_n 1, 1) := by decide +kernel
theorem dX2_mends_29 : decode cX2_mends 29 = .ok (.iaload, 1) := by decide +kernel
theorem dX2_mends_30 : decode cX2_mends 30 = .ok (.tableswitch 70 1 5 #[34, 70, 40, 48, 68], 34) := by decide +kernel
theorem dX2_mends_64 : decode cX2_mends 64 = .ok (.iload 4, 2) := by decide +kernel
theorem dX2_mends_66 : decode cX2_mends 66 = .ok (.invokestatic 91, 3) := by decide +kernel
theorem dX2_mends_69 : decode cX2_mends 69 = .ok (.ireturn, 1) := by decide +kernel
theorem dX2_mends_70 : decode cX2_mends 70 = .ok (.iload 4, 2) := by decide +kernel
theorem dX2_mends_72 : decode cX2_mends 72 = .ok (.iconst 1, 1) := by decide +kernel
theorem dX2_mends_73 : decode cX2_mends 73 = .ok (.iadd, 1) := by decide +kernel
theorem dX2_mends_74 : decode cX2_mends 74 = .ok (.invokestatic 91, 3) := by decide +kernel
theorem dX2_mends_77 : decode cX2_mends 77 = .ok (.ireturn, 1) := by decide +kernel
theorem dX2_mends_78 : decode cX2_mends 78 = .ok (.aload_n 0, 1) := by decide +kernel
theorem dX2_mends_79 : decode cX2_mends 79 = .ok (.getfield 15, 3) := by decide +kernel
theorem dX2_mends_82 : decode cX2_mends 82 = .ok (.iload_n 2, 1) := by decide +kernel
theorem dX2_mends_83 : decode cX2_mends 83 = .ok (.iaload, 1) := by decide +kernel
theorem dX2_mends_84 : decode cX2_mends 84 = .ok (.bipush 50, 2) := by decide +kernel
theorem dX2_mends_86 : decode cX2_mends 86 = .ok (.if_icmp .lt 7, 3) := by decide +kernel
theorem dX2_mends_89 : decode cX2_mends 89 = .ok (.iconst 0, 1) := by decide +kernel
theorem dX2_mends_90 : decode cX2_mends 90 = .ok (.goto 7, 3) := by decide +kernel
theorem dX2_mends_93 : decode cX2_mends 93 = .ok (.iload_n 3, 1) := by decide +kernel
theorem dX2_mends_94 : decode cX2_mends 94 = .ok (.invokestatic 91, 3) := by decide +kernel
theorem dX2_mends_97 : decode cX2_mends 97 = .ok (.ireturn, 1) := by decide +kernel
theorem dX2_mends_98 : decode cX2_mends 98 = .ok (.iconst 0, 1) := by decide +kernel
theorem dX2_mends_99 : decode cX2_mends 99 = .ok (.ireturn, 1) := by decide +kernel
theorem dX2_mends_100 : decode cX2_mends 100 = .ok (.iload_n 3, 1) := by decide +kernel
theorem dX2_mends_101 : decode cX2_mends 101 = .ok (.invokestatic 91, 3) := by decide +kernel
theorem dX2_mends_104 : decode cX2_mends 104 = .ok (.ireturn, 1) := by decide +kernel
theorem dX2_pumps_0 : decode cX2_pumps 0 = .ok (.aload_n 0, 1) := by decide +kernel
theorem dX2_pumps_1 : decode cX2_pumps 1 = .ok (.iconst 2, 1) := by decide +kernel
theorem dX2_pumps_2 : decode cX2_pumps 2 = .ok (.iload_n 1, 1) := by decide +kernel
theorem dX2_pumps_3 : decode cX2_pumps 3 = .ok (.iconst (-1), 1) := by decide +kernel
theorem dX2_pumps_4 : decode cX2_pumps 4 = .ok (.invokevirtual 94, 3) := by decide +kernel
theorem dX2_pumps_7 : decode cX2_pumps 7 = .ok (.istore_n 2, 1) := by decide +kernel
theorem dX2_pumps_8 : decode cX2_pumps 8 = .ok (.iload_n 2, 1) := by decide +kernel
theorem dX2_pumps_9 : decode cX2_pumps 9 = .ok (.aload_n 0, 1) := by decide +kernel
theorem dX2_pumps_10 : decode cX2_pumps 10 = .ok (.iconst 1, 1) := by decide +kernel
theorem dX2_pumps_11 : decode cX2_pumps 11 = .ok (.invokevirtual 98, 3) := by decide +kernel
theorem dX2_pumps_14 : decode cX2_pumps 14 = .ok (.iconst 1, 1) := by decide +kernel
theorem dX2_pumps_15 : decode cX2_pumps 15 = .ok (.iload_n 1, 1) := by decide +kernel
theorem dX2_pumps_16 : decode cX2_pumps 16 = .ok (.ishl, 1) := by decide +kernel
theorem dX2_pumps_17 : decode cX2_pumps 17 = .ok (.iconst (-1), 1) := by decide +kernel
theorem dX2_pumps_18 : decode cX2_pumps 18 = .ok (.ixor, 1) := by decide +kernel
theorem dX2_pumps_19 : decode cX2_pumps 19 = .ok (.iand, 1) := by decide +kernel
theorem dX2_pumps_20 : decode cX2_pumps 20 = .ok (.invokestatic 64, 3) := by decide +kernel
theorem dX2_pumps_23 : decode cX2_pumps 23 = .ok (.iadd, 1) := by decide +kernel
theorem dX2_pumps_24 : decode cX2_pumps 24 = .ok (.istore_n 3, 1) := by decide +kernel
theorem dX2_pumps_25 : decode cX2_pumps 25 = .ok (.aload_n 0, 1) := by decide +kernel
theorem dX2_pumps_26 : decode cX2_pumps 26 = .ok (.getfield 18, 3) := by decide +kernel
theorem dX2_pumps_29 : decode cX2_pumps 29 = .ok (.iload_n 1, 1) := by decide +kernel
theorem dX2_pumps_30 : decode cX2_pumps 30 = .ok (.iaload, 1) := by decide +kernel
theorem dX2_pumps_31 : decode cX2_pumps 31 = .ok (.tableswitch 70 1 5 #[33, 40, 33, 45, 63], 33) := by decide +kernel
theorem dX2_pumps_64 : decode cX2_pumps 64 = .ok (.iload_n 2, 1) := by decide +kernel
theorem dX2_pumps_65 : decode cX2_pumps 65 = .ok (.iconst 2, 1) := by decide +kernel
theorem dX2_pumps_66 : decode cX2_pumps 66 = .ok (.idiv, 1) := by decide +kernel
theorem dX2_pumps_67 : decode cX2_pumps 67 = .ok (.invokestatic 91, 3) := by decide +kernel
theorem dX2_pumps_70 : decode cX2_pumps 70 = .ok (.ireturn, 1) := by decide +kernel
theorem dX2_pumps_71 : decode cX2_pumps 71 = .ok (.iload_n 3, 1) := by decide +kernel
theorem dX2_pumps_72 : decode cX2_pumps 72 = .ok (.invokestatic 91, 3) := by decide +kernel
theorem dX2_pumps_75 : decode cX2_pumps 75 = .ok (.ireturn, 1) := by decide +kernel
theorem dX2_pumps_76 : decode cX2_pumps 76 = .ok (.aload_n 0, 1) := by decide +kernel
theorem dX2_pumps_77 : decode cX2_pumps 77 = .ok (.getfield 53, 3) := by decide +kernel
theorem dX2_pumps_80 : decode cX2_pumps 80 = .ok (.bipush 30, 2) := by decide +kernel
theorem dX2_pumps_82 : decode cX2_pumps 82 = .ok (.if_icmp .lt 10, 3) := by decide +kernel
theorem dX2_pumps_85 : decode cX2_pumps 85 = .ok (.iload_n 3, 1) := by decide +kernel
theorem dX2_pumps_86 : decode cX2_pumps 86 = .ok (.invokestatic 91, 3) := by decide +kernel
theorem dX2_pumps_89 : decode cX2_pumps 89 = .ok (.goto 4, 3) := by decide +kernel
theorem dX2_pumps_92 : decode cX2_pumps 92 = .ok (.iconst 0, 1) := by decide +kernel
theorem dX2_pumps_93 : decode cX2_pumps 93 = .ok (.ireturn, 1) := by decide +kernel
theorem dX2_pumps_94 : decode cX2_pumps 94 = .ok (.aload_n 0, 1) := by decide +kernel
theorem dX2_pumps_95 : decode cX2_pumps 95 = .ok (.getfield 21, 3) := by decide +kernel
theorem dX2_pumps_98 : decode cX2_pumps 98 = .ok (.iload_n 1, 1) := by decide +kernel
theorem dX2_pumps_99 : decode cX2_pumps 99 = .ok (.iaload, 1) := by decide +kernel
theorem dX2_pumps_100 : decode cX2_pumps 100 = .ok (.ireturn, 1) := by decide +kernel
theorem dX2_pumps_101 : decode cX2_pumps 101 = .ok (.iload_n 2, 1) := by decide +kernel
theorem dX2_pumps_102 : decode cX2_pumps 102 = .ok (.invokestatic 91, 3) := by decide +kernel
theorem dX2_pumps_105 : decode cX2_pumps 105 = .ok (.ireturn, 1) := by decide +kernel
theorem dX2_bounded_0 : decode cX2_bounded 0 = .ok (.iconst 0, 1) := by decide +kernel
theorem dX2_bounded_1 : decode cX2_bounded 1 = .ok (.bipush 99, 2) := by decide +kernel
theorem dX2_bounded_3 : decode cX2_bounded 3 = .ok (.iload_n 0, 1) := by decide +kernel
theorem dX2_bounded_4 : decode cX2_bounded 4 = .ok (.invokestatic 101, 3) := by decide +kernel
theorem dX2_bounded_7 : decode cX2_bounded 7 = .ok (.invokestatic 69, 3) := by decide +kernel
theorem dX2_bounded_10 : decode cX2_bounded 10 = .ok (.ireturn, 1) := by decide +kernel
theorem dX2_build_0 : decode cX2_build 0 = .ok (.aload_n 0, 1) := by decide +kernel
theorem dX2_build_1 : decode cX2_build 1 = .ok (.getfield 15, 3) := by decide +kernel
theorem dX2_build_4 : decode cX2_build 4 = .ok (.iload_n 2, 1) := by decide +kernel
theorem dX2_build_5 : decode cX2_build 5 = .ok (.aload_n 0, 1) := by decide +kernel
theorem dX2_build_6 : decode cX2_build 6 = .ok (.iload_n 1, 1) := by decide +kernel
theorem dX2_build_7 : decode cX2_build 7 = .ok (.iload_n 2, 1) := by decide +kernel
theorem dX2_build_8 : decode cX2_build 8 = .ok (.invokevirtual 104, 3) := by decide +kernel
theorem dX2_build_11 : decode cX2_build 11 = .ok (.iastore, 1) := by decide +kernel
theorem dX2_build_12 : decode cX2_build 12 = .ok (.aload_n 0, 1) := by decide +kernel
theorem dX2_build_13 : decode cX2_build 13 = .ok (.getfield 9, 3) := by decide +kernel
theorem dX2_build_16 : decode cX2_build 16 = .ok (.iload_n 2, 1) := by decide +kernel
theorem dX2_build_17 : decode cX2_build 17 = .ok (.iload_n 1, 1) := by decide +kernel
theorem dX2_build_18 : decode cX2_build 18 = .ok (.iastore, 1) := by decide +kernel
theorem dX2_build_19 : decode cX2_build 19 = .ok (.return_, 1) := by decide +kernel
theorem dX2_bind_0 : decode cX2_bind 0 = .ok (.iconst 0, 1) := by decide +kernel
theorem dX2_bind_1 : decode cX2_bind 1 = .ok (.istore_n 1, 1) := by decide +kernel
theorem dX2_bind_2 : decode cX2_bind 2 = .ok (.iload_n 1, 1) := by decide +kernel
theorem dX2_bind_3 : decode cX2_bind 3 = .ok (.aload_n 0, 1) := by decide +kernel
theorem dX2_bind_4 : decode cX2_bind 4 = .ok (.getfield 47, 3) := by decide +kernel
theorem dX2_bind_7 : decode cX2_bind 7 = .ok (.if_icmp .ge 33, 3) := by decide +kernel
theorem dX2_bind_10 : decode cX2_bind 10 = .ok (.aload_n 0, 1) := by decide +kernel
theorem dX2_bind_11 : decode cX2_bind 11 = .ok (.getfield 27, 3) := by decide +kernel
theorem dX2_bind_14 : decode cX2_bind 14 = .ok (.iload_n 1, 1) := by decide +kernel
theorem dX2_bind_15 : decode cX2_bind 15 = .ok (.iaload, 1) := by decide +kernel
theorem dX2_bind_16 : decode cX2_bind 16 = .ok (.ifCond .ne 18, 3) := by decide +kernel
theorem dX2_bind_19 : decode cX2_bind 19 = .ok (.aload_n 0, 1) := by decide +kernel
theorem dX2_bind_20 : decode cX2_bind 20 = .ok (.iload_n 1, 1) := by decide +kernel
theorem dX2_bind_21 : decode cX2_bind 21 = .ok (.invokevirtual 60, 3) := by decide +kernel
theorem dX2_bind_24 : decode cX2_bind 24 = .ok (.ifCond .eq 10, 3) := by decide +kernel
theorem dX2_bind_27 : decode cX2_bind 27 = .ok (.aload_n 0, 1) := by decide +kernel
theorem dX2_bind_28 : decode cX2_bind 28 = .ok (.getfield 27, 3) := by decide +kernel
theorem dX2_bind_31 : decode cX2_bind 31 = .ok (.iload_n 1, 1) := by decide +kernel
theorem dX2_bind_32 : decode cX2_bind 32 = .ok (.iconst 1, 1) := by decide +kernel
theorem dX2_bind_33 : decode cX2_bind 33 = .ok (.iastore, 1) := by decide +kernel
theorem dX2_bind_34 : decode cX2_bind 34 = .ok (.iinc 1 1, 3) := by decide +kernel
theorem dX2_bind_37 : decode cX2_bind 37 = .ok (.goto (-35), 3) := by decide +kernel
theorem dX2_bind_40 : decode cX2_bind 40 = .ok (.return_, 1) := by decide +kernel
theorem dX2_passDay_0 : decode cX2_passDay 0 = .ok (.aload_n 0, 1) := by decide +kernel
theorem dX2_passDay_1 : decode cX2_passDay 1 = .ok (.invokevirtual 107, 3) := by decide +kernel
theorem dX2_passDay_4 : decode cX2_passDay 4 = .ok (.ifCond .ne 123, 3) := by decide +kernel
theorem dX2_passDay_7 : decode cX2_passDay 7 = .ok (.aload_n 0, 1) := by decide +kernel
theorem dX2_passDay_8 : decode cX2_passDay 8 = .ok (.bipush 100, 2) := by decide +kernel
theorem dX2_passDay_10 : decode cX2_passDay 10 = .ok (.aload_n 0, 1) := by decide +kernel
theorem dX2_passDay_11 : decode cX2_passDay 11 = .ok (.getfield 53, 3) := by decide +kernel
theorem dX2_passDay_14 : decode cX2_passDay 14 = .ok (.aload_n 0, 1) := by decide +kernel
theorem dX2_passDay_15 : decode cX2_passDay 15 = .ok (.invokevirtual 111, 3) := by decide +kernel
theorem dX2_passDay_18 : decode cX2_passDay 18 = .ok (.bipush 10, 2) := by decide +kernel
theorem dX2_passDay_20 : decode cX2_passDay 20 = .ok (.idiv, 1) := by decide +kernel
theorem dX2_passDay_21 : decode cX2_passDay 21 = .ok (.iadd, 1) := by decide +kernel
theorem dX2_passDay_22 : decode cX2_passDay 22 = .ok (.invokestatic 101, 3) := by decide +kernel
theorem dX2_passDay_25 : decode cX2_passDay 25 = .ok (.putfield 53, 3) := by decide +kernel
theorem dX2_passDay_28 : decode cX2_passDay 28 = .ok (.iconst 0, 1) := by decide +kernel
theorem dX2_passDay_29 : decode cX2_passDay 29 = .ok (.istore_n 1, 1) := by decide +kernel
theorem dX2_passDay_30 : decode cX2_passDay 30 = .ok (.iload_n 1, 1) := by decide +kernel
theorem dX2_passDay_31 : decode cX2_passDay 31 = .ok (.aload_n 0, 1) := by decide +kernel
theorem dX2_passDay_32 : decode cX2_passDay 32 = .ok (.getfield 47, 3) := by decide +kernel
theorem dX2_passDay_35 : decode cX2_passDay 35 = .ok (.if_icmp .ge 79, 3) := by decide +kernel
theorem dX2_passDay_38 : decode cX2_passDay 38 = .ok (.aload_n 0, 1) := by decide +kernel
theorem dX2_passDay_39 : decode cX2_passDay 39 = .ok (.invokevirtual 107, 3) := by decide +kernel
theorem dX2_passDay_42 : decode cX2_passDay 42 = .ok (.ifCond .ne 72, 3) := by decide +kernel
theorem dX2_passDay_45 : decode cX2_passDay 45 = .ok (.aload_n 0, 1) := by decide +kernel
theorem dX2_passDay_46 : decode cX2_passDay 46 = .ok (.getfield 27, 3) := by decide +kernel
theorem dX2_passDay_49 : decode cX2_passDay 49 = .ok (.iload_n 1, 1) := by decide +kernel
theorem dX2_passDay_50 : decode cX2_passDay 50 = .ok (.iaload, 1) := by decide +kernel
theorem dX2_passDay_51 : decode cX2_passDay 51 = .ok (.iconst 1, 1) := by decide +kernel
theorem dX2_passDay_52 : decode cX2_passDay 52 = .ok (.if_icmp .ne 56, 3) := by decide +kernel
theorem dX2_passDay_55 : decode cX2_passDay 55 = .ok (.aload_n 0, 1) := by decide +kernel
theorem dX2_passDay_56 : decode cX2_passDay 56 = .ok (.iconst 0, 1) := by decide +kernel
theorem dX2_passDay_57 : decode cX2_passDay 57 = .ok (.aload_n 0, 1) := by decide +kernel
theorem dX2_passDay_58 : decode cX2_passDay 58 = .ok (.getfield 53, 3) := by decide +kernel
theorem dX2_passDay_61 : decode cX2_passDay 61 = .ok (.aload_n 0, 1) := by decide +kernel
theorem dX2_passDay_62 : decode cX2_passDay 62 = .ok (.iload_n 1, 1) := by decide +kernel
theorem dX2_passDay_63 : decode cX2_passDay 63 = .ok (.invokevirtual 115, 3) := by decide +kernel
theorem dX2_passDay_66 : decode cX2_passDay 66 = .ok (.isub, 1) := by decide +kernel
theorem dX2_passDay_67 : decode cX2_passDay 67 = .ok (.invokestatic 69, 3) := by decide +kernel
theorem dX2_passDay_70 : decode cX2_passDay 70 = .ok (.putfield 53, 3) := by decide +kernel
theorem dX2_passDay_73 : decode cX2_passDay 73 = .ok (.aload_n 0, 1) := by decide +kernel
theorem dX2_passDay_74 : decode cX2_passDay 74 = .ok (.iload_n 1, 1) := by decide +kernel
theorem dX2_passDay_75 : decode cX2_passDay 75 = .ok (.invokevirtual 118, 3) := by decide +kernel
theorem dX2_passDay_78 : decode cX2_passDay 78 = .ok (.istore_n 2, 1) := by decide +kernel
theorem dX2_passDay_79 : decode cX2_passDay 79 = .ok (.iload_n 2, 1) := by decide +kernel
theorem dX2_passDay_80 : decode cX2_passDay 80 = .ok (.iconst (-1), 1) := by decide +kernel
theorem dX2_passDay_81 : decode cX2_passDay 81 = .ok (.if_icmp .eq 27, 3) := by decide +kernel
theorem dX2_passDay_84 : decode cX2_passDay 84 = .ok (.aload_n 0, 1) := by decide +kernel
theorem dX2_passDay_85 : decode cX2_passDay 85 = .ok (.getfield 15, 3) := by decide +kernel
theorem dX2_passDay_88 : decode cX2_passDay 88 = .ok (.iload_n 2, 1) := by decide +kernel
theorem dX2_passDay_89 : decode cX2_passDay 89 = .ok (.bipush 99, 2) := by decide +kernel
theorem dX2_passDay_91 : decode cX2_passDay 91 = .ok (.aload_n 0, 1) := by decide +kernel
theorem dX2_passDay_92 : decode cX2_passDay 92 = .ok (.getfield 15, 3) := by decide +kernel
theorem dX2_passDay_95 : decode cX2_passDay 95 = .ok (.iload_n 2, 1) := by decide +kernel
theorem dX2_passDay_96 : decode cX2_passDay 96 = .ok (.iaload, 1) := by decide +kernel
theorem dX2_passDay_97 : decode cX2_passDay 97 = .ok (.aload_n 0, 1) := by decide +kernel
theorem dX2_passDay_98 : decode cX2_passDay 98 = .ok (.iload_n 1, 1) := by decide +kernel
theorem dX2_passDay_99 : decode cX2_passDay 99 = .ok (.iload_n 2, 1) := by decide +kernel
theorem dX2_passDay_100 : decode cX2_passDay 100 = .ok (.invokevirtual 121, 3) := by decide +kernel
theorem dX2_passDay_103 : decode cX2_passDay 103 = .ok (.iadd, 1) := by decide +kernel
theorem dX2_passDay_104 : decode cX2_passDay 104 = .ok (.invokestatic 101, 3) := by decide +kernel
theorem dX2_passDay_107 : decode cX2_passDay 107 = .ok (.iastore, 1) := by decide +kernel
theorem dX2_passDay_108 : decode cX2_passDay 108 = .ok (.iinc 1 1, 3) := by decide +kernel
theorem dX2_passDay_111 : decode cX2_passDay 111 = .ok (.goto (-81), 3) := by decide +kernel
theorem dX2_passDay_114 : decode cX2_passDay 114 = .ok (.aload_n 0, 1) := by decide +kernel
theorem dX2_passDay_115 : decode cX2_passDay 115 = .ok (.invokevirtual 107, 3) := by decide +kernel
theorem dX2_passDay_118 : decode cX2_passDay 118 = .ok (.ifCond .eq 9, 3) := by decide +kernel
theorem dX2_passDay_121 : decode cX2_passDay 121 = .ok (.aload_n 0, 1) := by decide +kernel
theorem dX2_passDay_122 : decode cX2_passDay 122 = .ok (.iconst 1, 1) := by decide +kernel
theorem dX2_passDay_123 : decode cX2_passDay 123 = .ok (.iconst 2, 1) := by decide +kernel
theorem dX2_passDay_124 : decode cX2_passDay 124 = .ok (.invokevirtual 124, 3) := by decide +kernel
theorem dX2_passDay_127 : decode cX2_passDay 127 = .ok (.aload_n 0, 1) := by decide +kernel
theorem dX2_passDay_128 : decode cX2_passDay 128 = .ok (.dup, 1) := by decide +kernel
theorem dX2_passDay_129 : decode cX2_passDay 129 = .ok (.getfield 50, 3) := by decide +kernel
theorem dX2_passDay_132 : decode cX2_passDay 132 = .ok (.iconst 1, 1) := by decide +kernel
theorem dX2_passDay_133 : decode cX2_passDay 133 = .ok (.iadd, 1) := by decide +kernel
theorem dX2_passDay_134 : decode cX2_passDay 134 = .ok (.putfield 50, 3) := by decide +kernel
theorem dX2_passDay_137 : decode cX2_passDay 137 = .ok (.return_, 1) := by decide +kernel
theorem dX2_pass_0 : decode cX2_pass 0 = .ok (.iconst 0, 1) := by decide +kernel
theorem dX2_pass_1 : decode cX2_pass 1 = .ok (.istore_n 2, 1) := by decide +kernel
theorem dX2_pass_2 : decode cX2_pass 2 = .ok (.iload_n 2, 1) := by decide +kernel
theorem dX2_pass_3 : decode cX2_pass 3 = .ok (.iload_n 1, 1) := by decide +kernel
theorem dX2_pass_4 : decode cX2_pass 4 = .ok (.if_icmp .ge 13, 3) := by decide +kernel
theorem dX2_pass_7 : decode cX2_pass 7 = .ok (.aload_n 0, 1) := by decide +kernel
theorem dX2_pass_8 : decode cX2_pass 8 = .ok (.invokevirtual 128, 3) := by decide +kernel
theorem dX2_pass_11 : decode cX2_pass 11 = .ok (.iinc 2 1, 3) := by decide +kernel
theorem dX2_pass_14 : decode cX2_pass 14 = .ok (.goto (-12), 3) := by decide +kernel
theorem dX2_pass_17 : decode cX2_pass 17 = .ok (.return_, 1) := by decide +kernel
theorem dX3_init_0 : decode cX3_init 0 = .ok (.aload_n 0, 1) := by decide +kernel
theorem dX3_init_1 : decode cX3_init 1 = .ok (.invokespecial 3, 3) := by decide +kernel
theorem dX3_init_4 : decode cX3_init 4 = .ok (.aload_n 0, 1) := by decide +kernel
theorem dX3_init_5 : decode cX3_init 5 = .ok (.sipush 320, 3) := by decide +kernel
theorem dX3_init_8 : decode cX3_init 8 = .ok (.newarray .int, 2) := by decide +kernel
theorem dX3_init_10 : decode cX3_init 10 = .ok (.putfield 9, 3) := by decide +kernel
theorem dX3_init_13 : decode cX3_init 13 = .ok (.aload_n 0, 1) := by decide +kernel
theorem dX3_init_14 : decode cX3_init 14 = .ok (.iconst 3, 1) := by decide +kernel
theorem dX3_init_15 : decode cX3_init 15 = .ok (.newarray .int, 2) := by decide +kernel
theorem dX3_init_17 : decode cX3_init 17 = .ok (.putfield 15, 3) := by decide +kernel
theorem dX3_init_20 : decode cX3_init 20 = .ok (.aload_n 0, 1) := by decide +kernel
theorem dX3_init_21 : decode cX3_init 21 = .ok (.bipush 64, 2) := by decide +kernel
theorem dX3_init_23 : decode cX3_init 23 = .ok (.newarray .int, 2) := by decide +kernel
theorem dX3_init_25 : decode cX3_init 25 = .ok (.putfield 18, 3) := by decide +kernel
theorem dX3_init_28 : decode cX3_init 28 = .ok (.aload_n 0, 1) := by decide +kernel
theorem dX3_init_29 : decode cX3_init 29 = .ok (.iload_n 1, 1) := by decide +kernel
theorem dX3_init_30 : decode cX3_init 30 = .ok (.putfield 21, 3) := by decide +kernel
theorem dX3_init_33 : decode cX3_init 33 = .ok (.aload_n 0, 1) := by decide +kernel
theorem dX3_init_34 : decode cX3_init 34 = .ok (.getfield 9, 3) := by decide +kernel
theorem dX3_init_37 : decode cX3_init 37 = .ok (.iconst 0, 1) := by decide +kernel
theorem dX3_init_38 : decode cX3_init 38 = .ok (.iconst (-1), 1) := by decide +kernel
theorem dX3_init_39 : decode cX3_init 39 = .ok (.iastore, 1) := by decide +kernel
theorem dX3_init_40 : decode cX3_init 40 = .ok (.aload_n 0, 1) := by decide +kernel
theorem dX3_init_41 : decode cX3_init 41 = .ok (.getfield 9, 3) := by decide +kernel
theorem dX3_init_44 : decode cX3_init 44 = .ok (.iconst 1, 1) := by decide +kernel
theorem dX3_init_45 : decode cX3_init 45 = .ok (.iconst 1, 1) := by decide +kernel
theorem dX3_init_46 : decode cX3_init 46 = .ok (.iastore, 1) := by decide +kernel
theorem dX3_init_47 : decode cX3_init 47 = .ok (.aload_n 0, 1) := by decide +kernel
theorem dX3_init_48 : decode cX3_init 48 = .ok (.getfield 9, 3) := by decide +kernel
theorem dX3_init_51 : decode cX3_init 51 = .ok (.iconst 2, 1) := by decide +kernel
theorem dX3_init_52 : decode cX3_init 52 = .ok (.iconst 3, 1) := by decide +kernel
theorem dX3_init_53 : decode cX3_init 53 = .ok (.iastore, 1) := by decide +kernel
theorem dX3_init_54 : decode cX3_init 54 = .ok (.aload_n 0, 1) := by decide +kernel
theorem dX3_init_55 : decode cX3_init 55 = .ok (.getfield 15, 3) := by decide +kernel
theorem dX3_init_58 : decode cX3_init 58 = .ok (.iconst 0, 1) := by decide +kernel
theorem dX3_init_59 : decode cX3_init 59 = .ok (.iconst 1, 1) := by decide +kernel
theorem dX3_init_60 : decode cX3_init 60 = .ok (.iastore, 1) := by decide +kernel
theorem dX3_init_61 : decode cX3_init 61 = .ok (.aload_n 0, 1) := by decide +kernel
theorem dX3_init_62 : decode cX3_init 62 = .ok (.getfield 15, 3) := by decide +kernel
theorem dX3_init_65 : decode cX3_init 65 = .ok (.iconst 1, 1) := by decide +kernel
theorem dX3_init_66 : decode cX3_init 66 = .ok (.iconst 2, 1) := by decide +kernel
theorem dX3_init_67 : decode cX3_init 67 = .ok (.iastore, 1) := by decide +kernel
theorem dX3_init_68 : decode cX3_init 68 = .ok (.aload_n 0, 1) := by decide +kernel
theorem dX3_init_69 : decode cX3_init 69 = .ok (.getfield 15, 3) := by decide +kernel
theorem dX3_init_72 : decode cX3_init 72 = .ok (.iconst 2, 1) := by decide +kernel
theorem dX3_init_73 : decode cX3_init 73 = .ok (.iconst 3, 1) := by decide +kernel
theorem dX3_init_74 : decode cX3_init 74 = .ok (.iastore, 1) := by decide +kernel
theorem dX3_init_75 : decode cX3_init 75 = .ok (.aload_n 0, 1) := by decide +kernel
theorem dX3_init_76 : decode cX3_init 76 = .ok (.iconst 3, 1) := by decide +kernel
theorem dX3_init_77 : decode cX3_init 77 = .ok (.putfield 25, 3) := by decide +kernel
theorem dX3_init_80 : decode cX3_init 80 = .ok (.return_, 1) := by decide +kernel
theorem dX3_clear_0 : decode cX3_clear 0 = .ok (.aload_n 0, 1) := by decide +kernel
theorem dX3_clear_1 : decode cX3_clear 1 = .ok (.iconst 0, 1) := by decide +kernel
theorem dX3_clear_2 : decode cX3_clear 2 = .ok (.putfield 25, 3) := by decide +kernel
theorem dX3_clear_5 : decode cX3_clear 5 = .ok (.return_, 1) := by decide +kernel
theorem dX3_add_0 : decode cX3_add 0 = .ok (.aload_n 0, 1) := by decide +kernel
theorem dX3_add_1 : decode cX3_add 1 = .ok (.getfield 25, 3) := by decide +kernel
theorem dX3_add_4 : decode cX3_add 4 = .ok (.sipush 320, 3) := by decide +kernel
theorem dX3_add_7 : decode cX3_add 7 = .ok (.if_icmp .ge 23, 3) := by decide +kernel
theorem dX3_add_10 : decode cX3_add 10 = .ok (.aload_n 0, 1) := by decide +kernel
theorem dX3_add_11 : decode cX3_add 11 = .ok (.getfield 9, 3) := by decide +kernel
theorem dX3_add_14 : decode cX3_add 14 = .ok (.aload_n 0, 1) := by decide +kernel
theorem dX3_add_15 : decode cX3_add 15 = .ok (.getfield 25, 3) := by decide +kernel
theorem dX3_add_18 : decode cX3_add 18 = .ok (.iload_n 1, 1) := by decide +kernel
theorem dX3_add_19 : decode cX3_add 19 = .ok (.iastore, 1) := by decide +kernel
theorem dX3_add_20 : decode cX3_add 20 = .ok (.aload_n 0, 1) := by decide +kernel
theorem dX3_add_21 : decode cX3_add 21 = .ok (.dup, 1) := by decide +kernel
theorem dX3_add_22 : decode cX3_add 22 = .ok (.getfield 25, 3) := by decide +kernel
theorem dX3_add_25 : decode cX3_add 25 = .ok (.iconst 1, 1) := by decide +kernel
theorem dX3_add_26 : decode cX3_add 26 = .ok (.iadd, 1) := by decide +kernel
theorem dX3_add_27 : decode cX3_add 27 = .ok (.putfield 25, 3) := by decide +kernel
theorem dX3_add_30 : decode cX3_add 30 = .ok (.return_, 1) := by decide +kernel
theorem dX3_endHere_0 : decode cX3_endHere 0 = .ok (.iload_n 1, 1) := by decide +kernel
theorem dX3_endHere_1 : decode cX3_endHere 1 = .ok (.iconst 0, 1) := by decide +kernel
theorem dX3_endHere_2 : decode cX3_endHere 2 = .ok (.aload_n 0, 1) := by decide +kernel
theorem dX3_endHere_3 : decode cX3_endHere 3 = .ok (.getfield 15, 3) := by decide +kernel
theorem dX3_endHere_6 : decode cX3_endHere 6 = .ok (.arraylength, 1) := by decide +kernel
theorem dX3_endHere_7 : decode cX3_endHere 7 = .ok (.iconst 1, 1) := by decide +kernel
theorem dX3_endHere_8 : decode cX3_endHere 8 = .ok (.isub, 1) := by decide +kernel
theorem dX3_endHere_9 : decode cX3_endHere 9 = .ok (.invokestatic 28, 3) := by decide +kernel
theorem dX3_endHere_12 : decode cX3_endHere 12 = .ok (.ifCond .eq 13, 3) := by decide +kernel
theorem dX3_endHere_15 : decode cX3_endHere 15 = .ok (.aload_n 0, 1) := by decide +kernel
theorem dX3_endHere_16 : decode cX3_endHere 16 = .ok (.getfield 15, 3) := by decide +kernel
theorem dX3_endHere_19 : decode cX3_endHere 19 = .ok (.iload_n 1, 1) := by decide +kernel
theorem dX3_endHere_20 : decode cX3_endHere 20 = .ok (.aload_n 0, 1) := by decide +kernel
theorem dX3_endHere_21 : decode cX3_endHere 21 = .ok (.getfield 25, 3) := by decide +kernel
theorem dX3_endHere_24 : decode cX3_endHere 24 = .ok (.iastore, 1) := by decide +kernel
theorem dX3_endHere_25 : decode cX3_endHere 25 = .ok (.return_, 1) := by decide +kernel
theorem dX3_value_0 : decode cX3_value 0 = .ok (.iload_n 1, 1) := by decide +kernel
theorem dX3_value_1 : decode cX3_value 1 = .ok (.iconst 0, 1) := by decide +kernel
theorem dX3_value_2 : decode cX3_value 2 = .ok (.aload_n 0, 1) := by decide +kernel
theorem dX3_value_3 : decode cX3_value 3 = .ok (.getfield 15, 3) := by decide +kernel
theorem dX3_value_6 : decode cX3_value 6 = .ok (.arraylength, 1) := by decide +kernel
theorem dX3_value_7 : decode cX3_value 7 = .ok (.iconst 1, 1) := by decide +kernel
theorem dX3_value_8 : decode cX3_value 8 = .ok (.isub, 1) := by decide +kernel
theorem dX3_value_9 : decode cX3_value 9 = .ok (.invokestatic 28, 3) := by decide +kernel
theorem dX3_value_12 : decode cX3_value 12 = .ok (.ifCond .ne 5, 3) := by decide +kernel
theorem dX3_value_15 : decode cX3_value 15 = .ok (.iconst 0, 1) := by decide +kernel
theorem dX3_value_16 : decode cX3_value 16 = .ok (.ireturn, 1) := by decide +kernel
theorem dX3_value_17 : decode cX3_value 17 = .ok (.iconst 0, 1) := by decide +kernel
theorem dX3_value_18 : decode cX3_value 18 = .ok (.istore_n 3, 1) := by decide +kernel
theorem dX3_value_19 : decode cX3_value 19 = .ok (.iload_n 1, 1) := by decide +kernel
theorem dX3_value_20 : decode cX3_value 20 = .ok (.ifCond .ne 7, 3) := by decide +kernel
theorem dX3_value_23 : decode cX3_value 23 = .ok (.iconst 0, 1) := by decide +kernel
theorem dX3_value_24 : decode cX3_value 24 = .ok (.goto 11, 3) := by decide +kernel
theorem dX3_value_27 : decode cX3_value 27 = .ok (.aload_n 0, 1) := by decide +kernel
theorem dX3_value_28 : decode cX3_value 28 = .ok (.getfield 15, 3) := by decide +kernel
theorem dX3_value_31 : decode cX3_value 31 = .ok (.iload_n 1, 1) := by decide +kernel
theorem dX3_value_32 : decode cX3_value 32 = .ok (.iconst 1, 1) := by decide +kernel
theorem dX3_value_33 : decode cX3_value 33 = .ok (.isub, 1) := by decide +kernel
theorem dX3_value_34 : decode cX3_value 34 = .ok (.iaload, 1) := by decide +kernel
theorem dX3_value_35 : decode cX3_value 35 = .ok (.istore 4, 2) := by decide +kernel
theorem dX3_value_37 : decode cX3_value 37 = .ok (.iload 4, 2) := by decide +kernel
theorem dX3_value_39 : decode cX3_value 39 = .ok (.aload_n 0, 1) := by decide +kernel
theorem dX3_value_40 : decode cX3_value 40 = .ok (.getfield 15, 3) := by decide +kernel
theorem dX3_value_43 : decode cX3_value 43 = .ok (.iload_n 1, 1) := by decide +kernel
theorem dX3_value_44 : decode cX3_value 44 = .ok (.iaload, 1) := by decide +kernel
theorem dX3_value_45 : decode cX3_value 45 = .ok (.if_icmp .ge 114, 3) := by decide +kernel
theorem dX3_value_48 : decode cX3_value 48 = .ok (.iload 4, 2) := by decide +kernel
theorem dX3_value_50 : decode cX3_value 50 = .ok (.sipush 320, 3) := by decide +kernel
theorem dX3_value_53 : decode cX3_value 53 = .ok (.if_icmp .ge 106, 3) := by decide +kernel
theorem dX3_value_56 : decode cX3_value 56 = .ok (.aload_n 0, 1) := by decide +kernel
theorem dX3_value_57 : decode cX3_value 57 = .ok (.getfield 9, 3) := by decide +kernel
theorem dX3_value_60 : decode cX3_value 60 = .ok (.iload 4, 2) := by decide +kernel
theorem dX3_value_62 : decode cX3_value 62 = .ok (.iaload, 1) := by decide +kernel
theorem dX3_value_63 : decode cX3_value 63 = .ok (.istore 5, 2) := by decide +kernel
theorem dX3_value_65 : decode cX3_value 65 = .ok (.iload 5, 2) := by decide +kernel
theorem dX3_value_67 : decode cX3_value 67 = .ok (.bipush (-7), 2) := by decide +kernel
theorem dX3_value_69 : decode cX3_value 69 = .ok (.if_icmp .gt 43, 3) := by decide +kernel
theorem dX3_value_72 : decode cX3_value 72 = .ok (.iload_n 3, 1) := by decide +kernel
theorem dX3_value_73 : decode cX3_value 73 = .ok (.iconst 2, 1) := by decide +kernel
theorem dX3_value_74 : decode cX3_value 74 = .ok (.if_icmp .ge 5, 3) := by decide +kernel
theorem dX3_value_77 : decode cX3_value 77 = .ok (.iconst 0, 1) := by decide +kernel
theorem dX3_value_78 : decode cX3_value 78 = .ok (.ireturn, 1) := by decide +kernel
theorem dX3_value_79 : decode cX3_value 79 = .ok (.iinc 3 (-1), 3) := by decide +kernel
theorem dX3_value_82 : decode cX3_value 82 = .ok (.aload_n 0, 1) := by decide +kernel
theorem dX3_value_83 : decode cX3_value 83 = .ok (.getfield 18, 3) := by decide +kernel
theorem dX3_value_86 : decode cX3_value 86 = .ok (.iload_n 3, 1) := by decide +kernel
theorem dX3_value_87 : decode cX3_value 87 = .ok (.iconst 1, 1) := by decide +kernel
theorem dX3_value_88 : decode cX3_value 88 = .ok (.isub, 1) := by decide +kernel
theorem dX3_value_89 : decode cX3_value 89 = .ok (.iload 5, 2) := by decide +kernel
theorem dX3_value_91 : decode cX3_value 91 = .ok (.aload_n 0, 1) := by decide +kernel
theorem dX3_value_92 : decode cX3_value 92 = .ok (.getfield 18, 3) := by decide +kernel
theorem dX3_value_95 : decode cX3_value 95 = .ok (.iload_n 3, 1) := by decide +kernel
theorem dX3_value_96 : decode cX3_value 96 = .ok (.iconst 1, 1) := by decide +kernel
theorem dX3_value_97 : decode cX3_value 97 = .ok (.isub, 1) := by decide +kernel
theorem dX3_value_98 : decode cX3_value 98 = .ok (.iaload, 1) := by decide +kernel
theorem dX3_value_99 : decode cX3_value 99 = .ok (.aload_n 0, 1) := by decide +kernel
theorem dX3_value_100 : decode cX3_value 100 = .ok (.getfield 18, 3) := by decide +kernel
theorem dX3_value_103 : decode cX3_value 103 = .ok (.iload_n 3, 1) := by decide +kernel
theorem dX3_value_104 : decode cX3_value 104 = .ok (.iaload, 1) := by decide +kernel
theorem dX3_value_105 : decode cX3_value 105 = .ok (.invokestatic 32, 3) := by decide +kernel
theorem dX3_value_108 : decode cX3_value 108 = .ok (.iastore, 1) := by decide +kernel
theorem dX3_value_109 : decode cX3_value 109 = .ok (.goto 44, 3) := by decide +kernel
theorem dX3_value_112 : decode cX3_value 112 = .ok (.iload_n 3, 1) := by decide +kernel
theorem dX3_value_113 : decode cX3_value 113 = .ok (.bipush 64, 2) := by decide +kernel
theorem dX3_value_115 : decode cX3_value 115 = .ok (.if_icmp .ge 11, 3) := by decide +kernel
theorem dX3_value_118 : decode cX3_value 118 = .ok (.iload 5, 2) := by decide +kernel
theorem dX3_value_120 : decode cX3_value 120 = .ok (.aload_n 2, 1) := by decide +kernel
theorem dX3_value_121 : decode cX3_value 121 = .ok (.arraylength, 1) := by decide +kernel
theorem dX3_value_122 : decode cX3_value 122 = .ok (.ineg, 1) := by decide +kernel
theorem dX3_value_123 : decode cX3_value 123 = .ok (.if_icmp .ge 5, 3) := by decide +kernel
theorem dX3_value_126 : decode cX3_value 126 = .ok (.iconst 0, 1) := by decide +kernel
theorem dX3_value_127 : decode cX3_value 127 = .ok (.ireturn, 1) := by decide +kernel
theorem dX3_value_128 : decode cX3_value 128 = .ok (.aload_n 0, 1) := by decide +kernel
theorem dX3_value_129 : decode cX3_value 129 = .ok (.getfield 18, 3) := by decide +kernel
theorem dX3_value_132 : decode cX3_value 132 = .ok (.iload_n 3, 1) := by decide +kernel
theorem dX3_value_133 : decode cX3_value 133 = .ok (.iload 5, 2) := by decide +kernel
theorem dX3_value_135 : decode cX3_value 135 = .ok (.ifCond .lt 8, 3) := by decide +kernel
theorem dX3_value_138 : decode cX3_value 138 = .ok (.iload 5, 2) := by decide +kernel
theorem dX3_value_140 : decode cX3_value 140 = .ok (.goto 9, 3) := by decide +kernel
theorem dX3_value_143 : decode cX3_value 143 = .ok (.aload_n 2, 1) := by decide +kernel
theorem dX3_value_144 : decode cX3_value 144 = .ok (.iconst (-1), 1) := by decide +kernel
theorem dX3_value_145 : decode cX3_value 145 = .ok (.iload 5, 2) := by decide +kernel
theorem dX3_value_147 : decode cX3_value 147 = .ok (.isub, 1) := by decide +kernel
theorem dX3_value_148 : decode cX3_value 148 = .ok (.iaload, 1) := by decide +kernel
theorem dX3_value_149 : decode cX3_value 149 = .ok (.iastore, 1) := by decide +kernel
theorem dX3_value_150 : decode cX3_value 150 = .ok (.iinc 3 1, 3) := by decide +kernel
theorem dX3_value_153 : decode cX3_value 153 = .ok (.iinc 4 1, 3) := by decide +kernel
theorem dX3_value_156 : decode cX3_value 156 = .ok (.goto (-119), 3) := by decide +kernel
theorem dX3_value_159 : decode cX3_value 159 = .ok (.iload_n 3, 1) := by decide +kernel
theorem dX3_value_160 : decode cX3_value 160 = .ok (.iconst 1, 1) := by decide +kernel
theorem dX3_value_161 : decode cX3_value 161 = .ok (.if_icmp .ne 12, 3) := by decide +kernel
theorem dX3_value_164 : decode cX3_value 164 = .ok (.aload_n 0, 1) := by decide +kernel
theorem dX3_value_165 : decode cX3_value 165 = .ok (.getfield 18, 3) := by decide +kernel
theorem dX3_value_168 : decode cX3_value 168 = .ok (.iconst 0, 1) := by decide +kernel
theorem dX3_value_169 : decode cX3_value 169 = .ok (.iaload, 1) := by decide +kernel
theorem dX3_value_170 : decode cX3_value 170 = .ok (.goto 4, 3) := by decide +kernel
theorem dX3_value_173 : decode cX3_value 173 = .ok (.iconst 0, 1) := by decide +kernel
theorem dX3_value_174 : decode cX3_value 174 = .ok (.ireturn, 1) := by decide +kernel
theorem dX3_joined_0 : decode cX3_joined 0 = .ok (.iload_n 0, 1) := by decide +kernel
theorem dX3_joined_1 : decode cX3_joined 1 = .ok (.tableswitch 97 (-12) (-7) #[93, 89, 78, 67, 53, 39], 39) := by decide +kernel
theorem dX3_joined_40 : decode cX3_joined 40 = .ok (.iload_n 1, 1) := by decide +kernel
theorem dX3_joined_41 : decode cX3_joined 41 = .ok (.ifCond .ne 7, 3) := by decide +kernel
theorem dX3_joined_44 : decode cX3_joined 44 = .ok (.iload_n 2, 1) := by decide +kernel
theorem dX3_joined_45 : decode cX3_joined 45 = .ok (.ifCond .eq 7, 3) := by decide +kernel
theorem dX3_joined_48 : decode cX3_joined 48 = .ok (.iconst 1, 1) := by decide +kernel
theorem dX3_joined_49 : decode cX3_joined 49 = .ok (.goto 4, 3) := by decide +kernel
theorem dX3_joined_52 : decode cX3_joined 52 = .ok (.iconst 0, 1) := by decide +kernel
theorem dX3_joined_53 : decode cX3_joined 53 = .ok (.ireturn, 1) := by decide +kernel
theorem dX3_joined_54 : decode cX3_joined 54 = .ok (.iload_n 1, 1) := by decide +kernel
theorem dX3_joined_55 : decode cX3_joined 55 = .ok (.ifCond .eq 11, 3) := by decide +kernel
theorem dX3_joined_58 : decode cX3_joined 58 = .ok (.iload_n 2, 1) := by decide +kernel
theorem dX3_joined_59 : decode cX3_joined 59 = .ok (.ifCond .eq 7, 3) := by decide +kernel
theorem dX3_joined_62 : decode cX3_joined 62 = .ok (.iconst 1, 1) := by decide +kernel
theorem dX3_joined_63 : decode cX3_joined 63 = .ok (.goto 4, 3) := by decide +kernel
theorem dX3_joined_66 : decode cX3_joined 66 = .ok (.iconst 0, 1) := by decide +kernel
theorem dX3_joined_67 : decode cX3_joined 67 = .ok (.ireturn, 1) := by decide +kernel
theorem dX3_joined_68 : decode cX3_joined 68 = .ok (.iload_n 1, 1) := by decide +kernel
theorem dX3_joined_69 : decode cX3_joined 69 = .ok (.iload_n 2, 1) := by decide +kernel
theorem dX3_joined_70 : decode cX3_joined 70 = .ok (.if_icmp .ge 7, 3) := by decide +kernel
theorem dX3_joined_73 : decode cX3_joined 73 = .ok (.iconst 1, 1) := by decide +kernel
theorem dX3_joined_74 : decode cX3_joined 74 = .ok (.goto 4, 3) := by decide +kernel
theorem dX3_joined_77 : decode cX3_joined 77 = .ok (.iconst 0, 1) := by decide +kernel
theorem dX3_joined_78 : decode cX3_joined 78 = .ok (.ireturn, 1) := by decide +kernel
theorem dX3_joined_79 : decode cX3_joined 79 = .ok (.iload_n 1, 1) := by decide +kernel
theorem dX3_joined_80 : decode cX3_joined 80 = .ok (.iload_n 2, 1) := by decide +kernel
theorem dX3_joined_81 : decode cX3_joined 81 = .ok (.if_icmp .ne 7, 3) := by decide +kernel
theorem dX3_joined_84 : decode cX3_joined 84 = .ok (.iconst 1, 1) := by decide +kernel
theorem dX3_joined_85 : decode cX3_joined 85 = .ok (.goto 4, 3) := by decide +kernel
theorem dX3_joined_88 : decode cX3_joined 88 = .ok (.iconst 0, 1) := by decide +kernel
theorem dX3_joined_89 : decode cX3_joined 89 = .ok (.ireturn, 1) := by decide +kernel
theorem dX3_joined_90 : decode cX3_joined 90 = .ok (.iload_n 1, 1) := by decide +kernel
theorem dX3_joined_91 : decode cX3_joined 91 = .ok (.iload_n 2, 1) := by decide +kernel
theorem dX3_joined_92 : decode cX3_joined 92 = .ok (.iadd, 1) := by decide +kernel
theorem dX3_joined_93 : decode cX3_joined 93 = .ok (.ireturn, 1) := by decide +kernel
theorem dX3_joined_94 : decode cX3_joined 94 = .ok (.iload_n 1, 1) := by decide +kernel
theorem dX3_joined_95 : decode cX3_joined 95 = .ok (.iload_n 2, 1) := by decide +kernel
theorem dX3_joined_96 : decode cX3_joined 96 = .ok (.isub, 1) := by decide +kernel
theorem dX3_joined_97 : decode cX3_joined 97 = .ok (.ireturn, 1) := by decide +kernel
theorem dX3_joined_98 : decode cX3_joined 98 = .ok (.iload_n 1, 1) := by decide +kernel
theorem dX3_joined_99 : decode cX3_joined 99 = .ok (.iload_n 2, 1) := by decide +kernel
theorem dX3_joined_100 : decode cX3_joined 100 = .ok (.imul, 1) := by decide +kernel
theorem dX3_joined_101 : decode cX3_joined 101 = .ok (.ireturn, 1) := by decide +kernel
theorem dX4_init_0 : decode cX4_init 0 = .ok (.aload_n 0, 1) := by decide +kernel
theorem dX4_init_1 : decode cX4_init 1 = .ok (.invokespecial 3, 3) := by decide +kernel
theorem dX4_init_4 : decode cX4_init 4 = .ok (.aload_n 0, 1) := by decide +kernel
theorem dX4_init_5 : decode cX4_init 5 = .ok (.bipush 6, 2) := by decide +kernel
theorem dX4_init_7 : decode cX4_init 7 = .ok (.anewarray 9, 3) := by decide +kernel
theorem dX4_init_10 : decode cX4_init 10 = .ok (.putfield 11, 3) := by decide +kernel
theorem dX4_init_13 : decode cX4_init 13 = .ok (.iconst 0, 1) := by decide +kernel
theorem dX4_init_14 : decode cX4_init 14 = .ok (.istore_n 1, 1) := by decide +kernel
theorem dX4_init_15 : decode cX4_init 15 = .ok (.iload_n 1, 1) := by decide +kernel
theorem dX4_init_16 : decode cX4_init 16 = .ok (.bipush 6, 2) := by decide +kernel
theorem dX4_init_18 : decode cX4_init 18 = .ok (.if_icmp .ge 23, 3) := by decide +kernel
theorem dX4_init_21 : decode cX4_init 21 = .ok (.aload_n 0, 1) := by decide +kernel
theorem dX4_init_22 : decode cX4_init 22 = .ok (.getfield 11, 3) := by decide +kernel
theorem dX4_init_25 : decode cX4_init 25 = .ok (.iload_n 1, 1) := by decide +kernel
theorem dX4_init_26 : decode cX4_init 26 = .ok (.new 9, 3) := by decide +kernel
theorem dX4_init_29 : decode cX4_init 29 = .ok (.dup, 1) := by decide +kernel
theorem dX4_init_30 : decode cX4_init 30 = .ok (.iload_n 1, 1) := by decide +kernel
theorem dX4_init_31 : decode cX4_init 31 = .ok (.invokespecial 15, 3) := by decide +kernel
theorem dX4_init_34 : decode cX4_init 34 = .ok (.aastore, 1) := by decide +kernel
theorem dX4_init_35 : decode cX4_init 35 = .ok (.iinc 1 1, 3) := by decide +kernel
theorem dX4_init_38 : decode cX4_init 38 = .ok (.goto (-23), 3) := by decide +kernel
theorem dX4_init_41 : decode cX4_init 41 = .ok (.aload_n 0, 1) := by decide +kernel
theorem dX4_init_42 : decode cX4_init 42 = .ok (.iconst 1, 1) := by decide +kernel
theorem dX4_init_43 : decode cX4_init 43 = .ok (.putfield 18, 3) := by decide +kernel
theorem dX4_init_46 : decode cX4_init 46 = .ok (.aload_n 0, 1) := by decide +kernel
theorem dX4_init_47 : decode cX4_init 47 = .ok (.new 22, 3) := by decide +kernel
theorem dX4_init_50 : decode cX4_init 50 = .ok (.dup, 1) := by decide +kernel
theorem dX4_init_51 : decode cX4_init 51 = .ok (.invokespecial 24, 3) := by decide +kernel
theorem dX4_init_54 : decode cX4_init 54 = .ok (.putfield 25, 3) := by decide +kernel
theorem dX4_init_57 : decode cX4_init 57 = .ok (.aload_n 0, 1) := by decide +kernel
theorem dX4_init_58 : decode cX4_init 58 = .ok (.new 29, 3) := by decide +kernel
theorem dX4_init_61 : decode cX4_init 61 = .ok (.dup, 1) := by decide +kernel
theorem dX4_init_62 : decode cX4_init 62 = .ok (.aload_n 0, 1) := by decide +kernel
theorem dX4_init_63 : decode cX4_init 63 = .ok (.getfield 11, 3) := by decide +kernel
theorem dX4_init_66 : decode cX4_init 66 = .ok (.iconst 0, 1) := by decide +kernel
theorem dX4_init_67 : decode cX4_init 67 = .ok (.aaload, 1) := by decide +kernel
theorem dX4_init_68 : decode cX4_init 68 = .ok (.invokespecial 31, 3) := by decide +kernel
theorem dX4_init_71 : decode cX4_init 71 = .ok (.putfield 34, 3) := by decide +kernel
theorem dX4_init_74 : decode cX4_init 74 = .ok (.aload_n 0, 1) := by decide +kernel
theorem dX4_init_75 : decode cX4_init 75 = .ok (.new 29, 3) := by decide +kernel
theorem dX4_init_78 : decode cX4_init 78 = .ok (.dup, 1) := by decide +kernel
theorem dX4_init_79 : decode cX4_init 79 = .ok (.aload_n 0, 1) := by decide +kernel
theorem dX4_init_80 : decode cX4_init 80 = .ok (.getfield 11, 3) := by decide +kernel
theorem dX4_init_83 : decode cX4_init 83 = .ok (.iconst 0, 1) := by decide +kernel
theorem dX4_init_84 : decode cX4_init 84 = .ok (.aaload, 1) := by decide +kernel
theorem dX4_init_85 : decode cX4_init 85 = .ok (.invokespecial 31, 3) := by decide +kernel
theorem dX4_init_88 : decode cX4_init 88 = .ok (.putfield 38, 3) := by decide +kernel
theorem dX4_init_91 : decode cX4_init 91 = .ok (.aload_n 0, 1) := by decide +kernel
theorem dX4_init_92 : decode cX4_init 92 = .ok (.new 29, 3) := by decide +kernel
theorem dX4_init_95 : decode cX4_init 95 = .ok (.dup, 1) := by decide +kernel
theorem dX4_init_96 : decode cX4_init 96 = .ok (.aload_n 0, 1) := by decide +kernel
theorem dX4_init_97 : decode cX4_init 97 = .ok (.getfield 11, 3) := by decide +kernel
theorem dX4_init_100 : decode cX4_init 100 = .ok (.iconst 0, 1) := by decide +kernel
theorem dX4_init_101 : decode cX4_init 101 = .ok (.aaload, 1) := by decide +kernel
theorem dX4_init_102 : decode cX4_init 102 = .ok (.invokespecial 31, 3) := by decide +kernel
theorem dX4_init_105 : decode cX4_init 105 = .ok (.putfield 41, 3) := by decide +kernel
theorem dX4_init_108 : decode cX4_init 108 = .ok (.aload_n 0, 1) := by decide +kernel
theorem dX4_init_109 : decode cX4_init 109 = .ok (.iconst 4, 1) := by decide +kernel
theorem dX4_init_110 : decode cX4_init 110 = .ok (.anewarray 44, 3) := by decide +kernel
theorem dX4_init_113 : decode cX4_init 113 = .ok (.putfield 46, 3) := by decide +kernel
theorem dX4_init_116 : decode cX4_init 116 = .ok (.iconst 0, 1) := by decide +kernel
theorem dX4_init_117 : decode cX4_init 117 = .ok (.istore_n 1, 1) := by decide +kernel
theorem dX4_init_118 : decode cX4_init 118 = .ok (.iload_n 1, 1) := by decide +kernel
theorem dX4_init_119 : decode cX4_init 119 = .ok (.iconst 4, 1) := by decide +kernel
theorem dX4_init_120 : decode cX4_init 120 = .ok (.if_icmp .ge 22, 3) := by decide +kernel
theorem dX4_init_123 : decode cX4_init 123 = .ok (.aload_n 0, 1) := by decide +kernel
theorem dX4_init_124 : decode cX4_init 124 = .ok (.getfield 46, 3) := by decide +kernel
theorem dX4_init_127 : decode cX4_init 127 = .ok (.iload_n 1, 1) := by decide +kernel
theorem dX4_init_128 : decode cX4_init 128 = .ok (.new 44, 3) := by decide +kernel
theorem dX4_init_131 : decode cX4_init 131 = .ok (.dup, 1) := by decide +kernel
theorem dX4_init_132 : decode cX4_init 132 = .ok (.invokespecial 50, 3) := by decide +kernel
theorem dX4_init_135 : decode cX4_init 135 = .ok (.aastore, 1) := by decide +kernel
theorem dX4_init_136 : decode cX4_init 136 = .ok (.iinc 1 1, 3) := by decide +kernel
theorem dX4_init_139 : decode cX4_init 139 = .ok (.goto (-21), 3) := by decide +kernel
theorem dX4_init_142 : decode cX4_init 142 = .ok (.return_, 1) := by decide +kernel
theorem dX4_set_0 : decode cX4_set 0 = .ok (.iload_n 1, 1) := by decide +kernel
theorem dX4_set_1 : decode cX4_set 1 = .ok (.iconst 0, 1) := by decide +kernel
theorem dX4_set_2 : decode cX4_set 2 = .ok (.getstatic 51, 3) := by decide +kernel
theorem dX4_set_5 : decode cX4_set 5 = .ok (.arraylength, 1) := by decide +kernel
theorem dX4_set_6 : decode cX4_set 6 = .ok (.iconst 1, 1) := by decide +kernel
theorem dX4_set_7 : decode cX4_set 7 = .ok (.isub, 1) := by decide +kernel
theorem dX4_set_8 : decode cX4_set 8 = .ok (.invokestatic 55, 3) := by decide +kernel
theorem dX4_set_11 : decode cX4_set 11 = .ok (.ifCond .eq 16, 3) := by decide +kernel
theorem dX4_set_14 : decode cX4_set 14 = .ok (.iload_n 3, 1) := by decide +kernel
theorem dX4_set_15 : decode cX4_set 15 = .ok (.iconst 0, 1) := by decide +kernel
theorem dX4_set_16 : decode cX4_set 16 = .ok (.getstatic 51, 3) := by decide +kernel
theorem dX4_set_19 : decode cX4_set 19 = .ok (.iload_n 1, 1) := by decide +kernel
theorem dX4_set_20 : decode cX4_set 20 = .ok (.iaload, 1) := by decide +kernel
theorem dX4_set_21 : decode cX4_set 21 = .ok (.invokestatic 55, 3) := by decide +kernel
theorem dX4_set_24 : decode cX4_set 24 = .ok (.ifCond .ne 6, 3) := by decide +kernel
theorem dX4_set_27 : decode cX4_set 27 = .ok (.bipush (-2), 2) := by decide +kernel
theorem dX4_set_29 : decode cX4_set 29 = .ok (.ireturn, 1) := by decide +kernel
theorem dX4_set_30 : decode cX4_set 30 = .ok (.aload_n 0, 1) := by decide +kernel
theorem dX4_set_31 : decode cX4_set 31 = .ok (.iload_n 2, 1) := by decide +kernel
theorem dX4_set_32 : decode cX4_set 32 = .ok (.iload_n 1, 1) := by decide +kernel
theorem dX4_set_33 : decode cX4_set 33 = .ok (.invokevirtual 59, 3) := by decide +kernel
theorem dX4_set_36 : decode cX4_set 36 = .ok (.istore 4, 2) := by decide +kernel
theorem dX4_set_38 : decode cX4_set 38 = .ok (.iload 4, 2) := by decide +kernel
theorem dX4_set_40 : decode cX4_set 40 = .ok (.sipush (-1000), 3) := by decide +kernel
theorem dX4_set_43 : decode cX4_set 43 = .ok (.if_icmp .ne 6, 3) := by decide +kernel
theorem dX4_set_46 : decode cX4_set 46 = .ok (.bipush (-2), 2) := by decide +kernel
theorem dX4_set_48 : decode cX4_set 48 = .ok (.ireturn, 1) := by decide +kernel
theorem dX4_set_49 : decode cX4_set 49 = .ok (.iload_n 1, 1) := by decide +kernel
theorem dX4_set_50 : decode cX4_set 50 = .ok (.tableswitch 93 0 4 #[34, 45, 56, 67, 80], 34) := by decide +kernel
theorem dX4_set_84 : decode cX4_set 84 = .ok (.aload_n 0, 1) := by decide +kernel
theorem dX4_set_85 : decode cX4_set 85 = .ok (.getfield 34, 3) := by decide +kernel
theorem dX4_set_88 : decode cX4_set 88 = .ok (.iload_n 3, 1) := by decide +kernel
theorem dX4_set_89 : decode cX4_set 89 = .ok (.putfield 63, 3) := by decide +kernel
theorem dX4_set_92 : decode cX4_set 92 = .ok (.goto 61, 3) := by decide +kernel
theorem dX4_set_95 : decode cX4_set 95 = .ok (.aload_n 0, 1) := by decide +kernel
theorem dX4_set_96 : decode cX4_set 96 = .ok (.getfield 34, 3) := by decide +kernel
theorem dX4_set_99 : decode cX4_set 99 = .ok (.iload_n 3, 1) := by decide +kernel
theorem dX4_set_100 : decode cX4_set 100 = .ok (.putfield 66, 3) := by decide +kernel
theorem dX4_set_103 : decode cX4_set 103 = .ok (.goto 50, 3) := by decide +kernel
theorem dX4_set_106 : decode cX4_set 106 = .ok (.aload_n 0, 1) := by decide +kernel
theorem dX4_set_107 : decode cX4_set 107 = .ok (.getfield 34, 3) := by decide +kernel
theorem dX4_set_110 : decode cX4_set 110 = .ok (.iload_n 3, 1) := by decide +kernel
theorem dX4_set_111 : decode cX4_set 111 = .ok (.putfield 69, 3) := by decide +kernel
theorem dX4_set_114 : decode cX4_set 114 = .ok (.goto 39, 3) := by decide +kernel
theorem dX4_set_117 : decode cX4_set 117 = .ok (.aload_n 0, 1) := by decide +kernel
theorem dX4_set_118 : decode cX4_set 118 = .ok (.getfield 34, 3) := by decide +kernel
theorem dX4_set_121 : decode cX4_set 121 = .ok (.getfield 72, 3) := by decide +kernel
theorem dX4_set_124 : decode cX4_set 124 = .ok (.iload_n 2, 1) := by decide +kernel
theorem dX4_set_125 : decode cX4_set 125 = .ok (.iload_n 3, 1) := by decide +kernel
theorem dX4_set_126 : decode cX4_set 126 = .ok (.iastore, 1) := by decide +kernel
theorem dX4_set_127 : decode cX4_set 127 = .ok (.goto 26, 3) := by decide +kernel
theorem dX4_set_130 : decode cX4_set 130 = .ok (.aload_n 0, 1) := by decide +kernel
theorem dX4_set_131 : decode cX4_set 131 = .ok (.getfield 34, 3) := by decide +kernel
theorem dX4_set_134 : decode cX4_set 134 = .ok (.getfield 75, 3) := by decide +kernel
theorem dX4_set_137 : decode cX4_set 137 = .ok (.iload_n 2, 1) := by decide +kernel
theorem dX4_set_138 : decode cX4_set 138 = .ok (.iload_n 3, 1) := by decide +kernel
theorem dX4_set_139 : decode cX4_set 139 = .ok (.iastore, 1) := by decide +kernel
theorem dX4_set_140 : decode cX4_set 140 = .ok (.goto 13, 3) := by decide +kernel
theorem dX4_set_143 : decode cX4_set 143 = .ok (.aload_n 0, 1) := by decide +kernel
theorem dX4_set_144 : decode cX4_set 144 = .ok (.getfield 34, 3) := by decide +kernel
theorem dX4_set_147 : decode cX4_set 147 = .ok (.getfield 78, 3) := by decide +kernel
theorem dX4_set_150 : decode cX4_set 150 = .ok (.iload_n 2, 1) := by decide +kernel
theorem dX4_set_151 : decode cX4_set 151 = .ok (.iload_n 3, 1) := by decide +kernel
theorem dX4_set_152 : decode cX4_set 152 = .ok (.iastore, 1) := by decide +kernel
theorem dX4_set_153 : decode cX4_set 153 = .ok (.iload 4, 2) := by decide +kernel
theorem dX4_set_155 : decode cX4_set 155 = .ok (.ireturn, 1) := by decide +kernel
theorem dX4_wright_0 : decode cX4_wright 0 = .ok (.iload_n 1, 1) := by decide +kernel
theorem dX4_wright_1 : decode cX4_wright 1 = .ok (.iconst 0, 1) := by decide +kernel
theorem dX4_wright_2 : decode cX4_wright 2 = .ok (.iconst 5, 1) := by decide +kernel
theorem dX4_wright_3 : decode cX4_wright 3 = .ok (.invokestatic 55, 3) := by decide +kernel
theorem dX4_wright_6 : decode cX4_wright 6 = .ok (.ifCond .eq 23, 3) := by decide +kernel
theorem dX4_wright_9 : decode cX4_wright 9 = .ok (.iload_n 2, 1) := by decide +kernel
theorem dX4_wright_10 : decode cX4_wright 10 = .ok (.iconst 0, 1) := by decide +kernel
theorem dX4_wright_11 : decode cX4_wright 11 = .ok (.bipush 9, 2) := by decide +kernel
theorem dX4_wright_13 : decode cX4_wright 13 = .ok (.invokestatic 55, 3) := by decide +kernel
theorem dX4_wright_16 : decode cX4_wright 16 = .ok (.ifCond .eq 13, 3) := by decide +kernel
theorem dX4_wright_19 : decode cX4_wright 19 = .ok (.iload_n 3, 1) := by decide +kernel
theorem dX4_wright_20 : decode cX4_wright 20 = .ok (.iconst 0, 1) := by decide +kernel
theorem dX4_wright_21 : decode cX4_wright 21 = .ok (.bipush 99, 2) := by decide +kernel
theorem dX4_wright_23 : decode cX4_wright 23 = .ok (.invokestatic 55, 3) := by decide +kernel
theorem dX4_wright_26 : decode cX4_wright 26 = .ok (.ifCond .ne 6, 3) := by decide +kernel
theorem dX4_wright_29 : decode cX4_wright 29 = .ok (.bipush (-2), 2) := by decide +kernel
theorem dX4_wright_31 : decode cX4_wright 31 = .ok (.ireturn, 1) := by decide +kernel
theorem dX4_wright_32 : decode cX4_wright 32 = .ok (.aload_n 0, 1) := by decide +kernel
theorem dX4_wright_33 : decode cX4_wright 33 = .ok (.getfield 34, 3) := by decide +kernel
theorem dX4_wright_36 : decode cX4_wright 36 = .ok (.iload_n 1, 1) := by decide +kernel
theorem dX4_wright_37 : decode cX4_wright 37 = .ok (.iload_n 2, 1) := by decide +kernel
theorem dX4_wright_38 : decode cX4_wright 38 = .ok (.iload_n 3, 1) := by decide +kernel
theorem dX4_wright_39 : decode cX4_wright 39 = .ok (.invokevirtual 81, 3) := by decide +kernel
theorem dX4_wright_42 : decode cX4_wright 42 = .ok (.ireturn, 1) := by decide +kernel
theorem dX4_told_0 : decode cX4_told 0 = .ok (.iload_n 2, 1) := by decide +kernel
theorem dX4_told_1 : decode cX4_told 1 = .ok (.tableswitch 107 0 11 #[63, 71, 79, 87, 107, 107, 107, 107, 107, 107, 87, 87], 63) := by decide +kernel
theorem dX4_told_64 : decode cX4_told 64 = .ok (.aload_n 0, 1) := by decide +kernel
theorem dX4_told_65 : decode cX4_told 65 = .ok (.getfield 34, 3) := by decide +kernel
theorem dX4_told_68 : decode cX4_told 68 = .ok (.getfield 63, 3) := by decide +kernel
theorem dX4_told_71 : decode cX4_told 71 = .ok (.ireturn, 1) := by decide +kernel
theorem dX4_told_72 : decode cX4_told 72 = .ok (.aload_n 0, 1) := by decide +kernel
theorem dX4_told_73 : decode cX4_told 73 = .ok (.getfield 34, 3) := by decide +kernel
theorem dX4_told_76 : decode cX4_told 76 = .ok (.getfield 66, 3) := by decide +kernel
theorem dX4_told_79 : decode cX4_told 79 = .ok (.ireturn, 1) := by decide +kernel
theorem dX4_told_80 : decode cX4_told 80 = .ok (.aload_n 0, 1) := by decide +kernel
theorem dX4_told_81 : decode cX4_told 81 = .ok (.getfield 34, 3) := by decide +kernel
theorem dX4_told_84 : decode cX4_told 84 = .ok (.getfield 69, 3) := by decide +kernel
theorem dX4_told_87 : decode cX4_told 87 = .ok (.ireturn, 1) := by decide +kernel
theorem dX4_told_88 : decode cX4_told 88 = .ok (.iload_n 1, 1) := by decide +kernel
theorem dX4_told_89 : decode cX4_told 89 = .ok (.invokestatic 85, 3) := by decide +kernel
theorem dX4_told_92 : decode cX4_told 92 = .ok (.ifCond .eq 12, 3) := by decide +kernel
theorem dX4_told_95 : decode cX4_told 95 = .ok (.aload_n 0, 1) := by decide +kernel
theorem dX4_told_96 : decode cX4_told 96 = .ok (.iload_n 1, 1) := by decide +kernel
theorem dX4_told_97 : decode cX4_told 97 = .ok (.iload_n 2, 1) := by decide +kernel
theorem dX4_told_98 : decode cX4_told 98 = .ok (.invokevirtual 89, 3) := by decide +kernel
theorem dX4_told_101 : decode cX4_told 101 = .ok (.goto 6, 3) := by decide +kernel
theorem dX4_told_104 : decode cX4_told 104 = .ok (.sipush (-1000), 3) := by decide +kernel
theorem dX4_told_107 : decode cX4_told 107 = .ok (.ireturn, 1) := by decide +kernel
theorem dX4_told_108 : decode cX4_told 108 = .ok (.aload_n 0, 1) := by decide +kernel
theorem dX4_told_109 : decode cX4_told 109 = .ok (.getfield 34, 3) := by decide +kernel
theorem dX4_told_112 : decode cX4_told 112 = .ok (.iload_n 1, 1) := by decide +kernel
theorem dX4_told_113 : decode cX4_told 113 = .ok (.invokevirtual 92, 3) := by decide +kernel
theorem dX4_told_116 : decode cX4_told 116 = .ok (.ifCond .eq 12, 3) := by decide +kernel
theorem dX4_told_119 : decode cX4_told 119 = .ok (.aload_n 0, 1) := by decide +kernel
theorem dX4_told_120 : decode cX4_told 120 = .ok (.iload_n 1, 1) := by decide +kernel
theorem dX4_told_121 : decode cX4_told 121 = .ok (.iload_n 2, 1) := by decide +kernel
theorem dX4_told_122 : decode cX4_told 122 = .ok (.invokevirtual 95, 3) := by decide +kernel
theorem dX4_told_125 : decode cX4_told 125 = .ok (.goto 6, 3) := by decide +kernel
theorem dX4_told_128 : decode cX4_told 128 = .ok (.sipush (-1000), 3) := by decide +kernel
theorem dX4_told_131 : decode cX4_told 131 = .ok (.ireturn, 1) := by decide +kernel
theorem dX4_toldOfPart_0 : decode cX4_toldOfPart 0 = .ok (.iload_n 2, 1) := by decide +kernel
theorem dX4_toldOfPart_1 : decode cX4_toldOfPart 1 = .ok (.lookupswitch 47 #[(3, 27), (10, 37)], 27) := by decide +kernel
theorem dX4_toldOfPart_28 : decode cX4_toldOfPart 28 = .ok (.aload_n 0, 1) := by decide +kernel
theorem dX4_toldOfPart_29 : decode cX4_toldOfPart 29 = .ok (.getfield 34, 3) := by decide +kernel
theorem dX4_toldOfPart_32 : decode cX4_toldOfPart 32 = .ok (.getfield 72, 3) := by decide +kernel
theorem dX4_toldOfPart_35 : decode cX4_toldOfPart 35 = .ok (.iload_n 1, 1) := by decide +kernel
theorem dX4_toldOfPart_36 : decode cX4_toldOfPart 36 = .ok (.iaload, 1) := by decide +kernel
theorem dX4_toldOfPart_37 : decode cX4_toldOfPart 37 = .ok (.ireturn, 1) := by decide +kernel
theorem dX4_toldOfPart_38 : decode cX4_toldOfPart 38 = .ok (.aload_n 0, 1) := by decide +kernel
theorem dX4_toldOfPart_39 : decode cX4_toldOfPart 39 = .ok (.getfield 34, 3) := by decide +kernel
theorem dX4_toldOfPart_42 : decode cX4_toldOfPart 42 = .ok (.getfield 98, 3) := by decide +kernel
theorem dX4_toldOfPart_45 : decode cX4_toldOfPart 45 = .ok (.iload_n 1, 1) := by decide +kernel
theorem dX4_toldOfPart_46 : decode cX4_toldOfPart 46 = .ok (.iaload, 1) := by decide +kernel
theorem dX4_toldOfPart_47 : decode cX4_toldOfPart 47 = .ok (.ireturn, 1) := by decide +kernel
theorem dX4_toldOfPart_48 : decode cX4_toldOfPart 48 = .ok (.aload_n 0, 1) := by decide +kernel
theorem dX4_toldOfPart_49 : decode cX4_toldOfPart 49 = .ok (.getfield 34, 3) := by decide +kernel
theorem dX4_toldOfPart_52 : decode cX4_toldOfPart 52 = .ok (.iload_n 1, 1) := by decide +kernel
theorem dX4_toldOfPart_53 : decode cX4_toldOfPart 53 = .ok (.invokevirtual 101, 3) := by decide +kernel
theorem dX4_toldOfPart_56 : decode cX4_toldOfPart 56 = .ok (.ireturn, 1) := by decide +kernel
theorem dX4_toldOfWright_0 : decode cX4_toldOfWright 0 = .ok (.iload_n 2, 1) := by decide +kernel
theorem dX4_toldOfWright_1 : decode cX4_toldOfWright 1 = .ok (.tableswitch 97 4 9 #[39, 49, 59, 69, 79, 88], 39) := by decide +kernel
theorem dX4_toldOfWright_40 : decode cX4_toldOfWright 40 = .ok (.aload_n 0, 1) := by decide +kernel
theorem dX4_toldOfWright_41 : decode cX4_toldOfWright 41 = .ok (.getfield 34, 3) := by decide +kernel
theorem dX4_toldOfWright_44 : decode cX4_toldOfWright 44 = .ok (.getfield 75, 3) := by decide +kernel
theorem dX4_toldOfWright_47 : decode cX4_toldOfWright 47 = .ok (.iload_n 1, 1) := by decide +kernel
theorem dX4_toldOfWright_48 : decode cX4_toldOfWright 48 = .ok (.iaload, 1) := by decide +kernel
theorem dX4_toldOfWright_49 : decode cX4_toldOfWright 49 = .ok (.ireturn, 1) := by decide +kernel
theorem dX4_toldOfWright_50 : decode cX4_toldOfWright 50 = .ok (.aload_n 0, 1) := by decide +kernel
theorem dX4_toldOfWright_51 : decode cX4_toldOfWright 51 = .ok (.getfield 34, 3) := by decide +kernel
theorem dX4_toldOfWright_54 : decode cX4_toldOfWright 54 = .ok (.getfield 78, 3) := by decide +kernel
theorem dX4_toldOfWright_57 : decode cX4_toldOfWright 57 = .ok (.iload_n 1, 1) := by decide +kernel
theorem dX4_toldOfWright_58 : decode cX4_toldOfWright 58 = .ok (.iaload, 1) := by decide +kernel
theorem dX4_toldOfWright_59 : decode cX4_toldOfWright 59 = .ok (.ireturn, 1) := by decide +kernel
theorem dX4_toldOfWright_60 : decode cX4_toldOfWright 60 = .ok (.aload_n 0, 1) := by decide +kernel
theorem dX4_toldOfWright_61 : decode cX4_toldOfWright 61 = .ok (.getfield 34, 3) := by decide +kernel
theorem dX4_toldOfWright_64 : decode cX4_toldOfWright 64 = .ok (.getfield 105, 3) := by decide +kernel
theorem dX4_toldOfWright_67 : decode cX4_toldOfWright 67 = .ok (.iload_n 1, 1) := by decide +kernel
theorem dX4_toldOfWright_68 : decode cX4_toldOfWright 68 = .ok (.iaload, 1) := by decide +kernel
theorem dX4_toldOfWright_69 : decode cX4_toldOfWright 69 = .ok (.ireturn, 1) := by decide +kernel
theorem dX4_toldOfWright_70 : decode cX4_toldOfWright 70 = .ok (.aload_n 0, 1) := by decide +kernel
theorem dX4_toldOfWright_71 : decode cX4_toldOfWright 71 = .ok (.getfield 34, 3) := by decide +kernel
theorem dX4_toldOfWright_74 : decode cX4_toldOfWright 74 = .ok (.getfield 108, 3) := by decide +kernel
theorem dX4_toldOfWright_77 : decode cX4_toldOfWright 77 = .ok (.iload_n 1, 1) := by decide +kernel
theorem dX4_toldOfWright_78 : decode cX4_toldOfWright 78 = .ok (.iaload, 1) := by decide +kernel
theorem dX4_toldOfWright_79 : decode cX4_toldOfWright 79 = .ok (.ireturn, 1) := by decide +kernel
theorem dX4_toldOfWright_80 : decode cX4_toldOfWright 80 = .ok (.aload_n 0, 1) := by decide +kernel
theorem dX4_toldOfWright_81 : decode cX4_toldOfWright 81 = .ok (.getfield 34, 3) := by decide +kernel
theorem dX4_toldOfWright_84 : decode cX4_toldOfWright 84 = .ok (.iload_n 1, 1) := by decide +kernel
theorem dX4_toldOfWright_85 : decode cX4_toldOfWright 85 = .ok (.invokevirtual 111, 3) := by decide +kernel
theorem dX4_toldOfWright_88 : decode cX4_toldOfWright 88 = .ok (.ireturn, 1) := by decide +kernel
theorem dX4_toldOfWright_89 : decode cX4_toldOfWright 89 = .ok (.aload_n 0, 1) := by decide +kernel
theorem dX4_toldOfWright_90 : decode cX4_toldOfWright 90 = .ok (.getfield 34, 3) := by decide +kernel
theorem dX4_toldOfWright_93 : decode cX4_toldOfWright 93 = .ok (.iload_n 1, 1) := by decide +kernel
theorem dX4_toldOfWright_94 : decode cX4_toldOfWright 94 = .ok (.invokevirtual 114, 3) := by decide +kernel
theorem dX4_toldOfWright_97 : decode cX4_toldOfWright 97 = .ok (.ireturn, 1) := by decide +kernel
theorem dX4_toldOfWright_98 : decode cX4_toldOfWright 98 = .ok (.sipush (-1000), 3) := by decide +kernel
theorem dX4_toldOfWright_101 : decode cX4_toldOfWright 101 = .ok (.ireturn, 1) := by decide +kernel
theorem dX4_asks_0 : decode cX4_asks 0 = .ok (.aload_n 0, 1) := by decide +kernel
theorem dX4_asks_1 : decode cX4_asks 1 = .ok (.getfield 34, 3) := by decide +kernel
theorem dX4_asks_4 : decode cX4_asks 4 = .ok (.iload_n 1, 1) := by decide +kernel
theorem dX4_asks_5 : decode cX4_asks 5 = .ok (.invokevirtual 92, 3) := by decide +kernel
theorem dX4_asks_8 : decode cX4_asks 8 = .ok (.ifCond .eq 19, 3) := by decide +kernel
theorem dX4_asks_11 : decode cX4_asks 11 = .ok (.iload_n 2, 1) := by decide +kernel
theorem dX4_asks_12 : decode cX4_asks 12 = .ok (.invokestatic 85, 3) := by decide +kernel
theorem dX4_asks_15 : decode cX4_asks 15 = .ok (.ifCond .eq 12, 3) := by decide +kernel
theorem dX4_asks_18 : decode cX4_asks 18 = .ok (.iload_n 3, 1) := by decide +kernel
theorem dX4_asks_19 : decode cX4_asks 19 = .ok (.iconst 0, 1) := by decide +kernel
theorem dX4_asks_20 : decode cX4_asks 20 = .ok (.iconst 1, 1) := by decide +kernel
theorem dX4_asks_21 : decode cX4_asks 21 = .ok (.invokestatic 55, 3) := by decide +kernel
theorem dX4_asks_24 : decode cX4_asks 24 = .ok (.ifCond .ne 6, 3) := by decide +kernel
theorem dX4_asks_27 : decode cX4_asks 27 = .ok (.bipush (-2), 2) := by decide +kernel
theorem dX4_asks_29 : decode cX4_asks 29 = .ok (.ireturn, 1) := by decide +kernel
theorem dX4_asks_30 : decode cX4_asks 30 = .ok (.iload_n 3, 1) := by decide +kernel
theorem dX4_asks_31 : decode cX4_asks 31 = .ok (.ifCond .ne 15, 3) := by decide +kernel
theorem dX4_asks_34 : decode cX4_asks 34 = .ok (.aload_n 0, 1) := by decide +kernel
theorem dX4_asks_35 : decode cX4_asks 35 = .ok (.getfield 34, 3) := by decide +kernel
theorem dX4_asks_38 : decode cX4_asks 38 = .ok (.iload_n 1, 1) := by decide +kernel
theorem dX4_asks_39 : decode cX4_asks 39 = .ok (.iload_n 2, 1) := by decide +kernel
theorem dX4_asks_40 : decode cX4_asks 40 = .ok (.invokevirtual 117, 3) := by decide +kernel
theorem dX4_asks_43 : decode cX4_asks 43 = .ok (.goto 12, 3) := by decide +kernel
theorem dX4_asks_46 : decode cX4_asks 46 = .ok (.aload_n 0, 1) := by decide +kernel
theorem dX4_asks_47 : decode cX4_asks 47 = .ok (.getfield 34, 3) := by decide +kernel
theorem dX4_asks_50 : decode cX4_asks 50 = .ok (.iload_n 1, 1) := by decide +kernel
theorem dX4_asks_51 : decode cX4_asks 51 = .ok (.iload_n 2, 1) := by decide +kernel
theorem dX4_asks_52 : decode cX4_asks 52 = .ok (.invokevirtual 120, 3) := by decide +kernel
theorem dX4_asks_55 : decode cX4_asks 55 = .ok (.ireturn, 1) := by decide +kernel
theorem dX4_feed_0 : decode cX4_feed 0 = .ok (.iload_n 1, 1) := by decide +kernel
theorem dX4_feed_1 : decode cX4_feed 1 = .ok (.iconst 0, 1) := by decide +kernel
theorem dX4_feed_2 : decode cX4_feed 2 = .ok (.sipush 255, 3) := by decide +kernel
theorem dX4_feed_5 : decode cX4_feed 5 = .ok (.invokestatic 55, 3) := by decide +kernel
theorem dX4_feed_8 : decode cX4_feed 8 = .ok (.ifCond .ne 6, 3) := by decide +kernel
theorem dX4_feed_11 : decode cX4_feed 11 = .ok (.bipush (-2), 2) := by decide +kernel
theorem dX4_feed_13 : decode cX4_feed 13 = .ok (.ireturn, 1) := by decide +kernel
theorem dX4_feed_14 : decode cX4_feed 14 = .ok (.aload_n 0, 1) := by decide +kernel
theorem dX4_feed_15 : decode cX4_feed 15 = .ok (.getfield 25, 3) := by decide +kernel
theorem dX4_feed_18 : decode cX4_feed 18 = .ok (.iload_n 1, 1) := by decide +kernel
theorem dX4_feed_19 : decode cX4_feed 19 = .ok (.invokevirtual 123, 3) := by decide +kernel
theorem dX4_feed_22 : decode cX4_feed 22 = .ok (.ifCond .eq 13, 3) := by decide +kernel
theorem dX4_feed_25 : decode cX4_feed 25 = .ok (.aload_n 0, 1) := by decide +kernel
theorem dX4_feed_26 : decode cX4_feed 26 = .ok (.getfield 25, 3) := by decide +kernel
theorem dX4_feed_29 : decode cX4_feed 29 = .ok (.getfield 126, 3) := by decide +kernel
theorem dX4_feed_32 : decode cX4_feed 32 = .ok (.goto 5, 3) := by decide +kernel
theorem dX4_feed_35 : decode cX4_feed 35 = .ok (.bipush (-4), 2) := by decide +kernel
theorem dX4_feed_37 : decode cX4_feed 37 = .ok (.ireturn, 1) := by decide +kernel
theorem dX4_text_0 : decode cX4_text 0 = .ok (.aload_n 0, 1) := by decide +kernel
theorem dX4_text_1 : decode cX4_text 1 = .ok (.getfield 18, 3) := by decide +kernel
theorem dX4_text_4 : decode cX4_text 4 = .ok (.iconst 0, 1) := by decide +kernel
theorem dX4_text_5 : decode cX4_text 5 = .ok (.iconst 5, 1) := by decide +kernel
theorem dX4_text_6 : decode cX4_text 6 = .ok (.invokestatic 55, 3) := by decide +kernel
theorem dX4_text_9 : decode cX4_text 9 = .ok (.ifCond .ne 6, 3) := by decide +kernel
theorem dX4_text_12 : decode cX4_text 12 = .ok (.bipush (-4), 2) := by decide +kernel
theorem dX4_text_14 : decode cX4_text 14 = .ok (.ireturn, 1) := by decide +kernel
theorem dX4_text_15 : decode cX4_text 15 = .ok (.aload_n 0, 1) := by decide +kernel
theorem dX4_text_16 : decode cX4_text 16 = .ok (.getfield 25, 3) := by decide +kernel
theorem dX4_text_19 : decode cX4_text 19 = .ok (.aload_n 0, 1) := by decide +kernel
theorem dX4_text_20 : decode cX4_text 20 = .ok (.getfield 11, 3) := by decide +kernel
theorem dX4_text_23 : decode cX4_text 23 = .ok (.aload_n 0, 1) := by decide +kernel
theorem dX4_text_24 : decode cX4_text 24 = .ok (.getfield 18, 3) := by decide +kernel
theorem dX4_text_27 : decode cX4_text 27 = .ok (.aaload, 1) := by decide +kernel
theorem dX4_text_28 : decode cX4_text 28 = .ok (.invokevirtual 129, 3) := by decide +kernel
theorem dX4_text_31 : decode cX4_text 31 = .ok (.istore_n 1, 1) := by decide +kernel
theorem dX4_text_32 : decode cX4_text 32 = .ok (.aload_n 0, 1) := by decide +kernel
theorem dX4_text_33 : decode cX4_text 33 = .ok (.getfield 25, 3) := by decide +kernel
theorem dX4_text_36 : decode cX4_text 36 = .ok (.iconst 0, 1) := by decide +kernel
theorem dX4_text_37 : decode cX4_text 37 = .ok (.putfield 126, 3) := by decide +kernel
theorem dX4_text_40 : decode cX4_text 40 = .ok (.iload_n 1, 1) := by decide +kernel
theorem dX4_text_41 : decode cX4_text 41 = .ok (.iconst (-1), 1) := by decide +kernel
theorem dX4_text_42 : decode cX4_text 42 = .ok (.if_icmp .eq 8, 3) := by decide +kernel
theorem dX4_text_45 : decode cX4_text 45 = .ok (.bipush (-100), 2) := by decide +kernel
theorem dX4_text_47 : decode cX4_text 47 = .ok (.iload_n 1, 1) := by decide +kernel
theorem dX4_text_48 : decode cX4_text 48 = .ok (.isub, 1) := by decide +kernel
theorem dX4_text_49 : decode cX4_text 49 = .ok (.ireturn, 1) := by decide +kernel
theorem dX4_text_50 : decode cX4_text 50 = .ok (.aload_n 0, 1) := by decide +kernel
theorem dX4_text_51 : decode cX4_text 51 = .ok (.dup, 1) := by decide +kernel
theorem dX4_text_52 : decode cX4_text 52 = .ok (.getfield 18, 3) := by decide +kernel
theorem dX4_text_55 : decode cX4_text 55 = .ok (.iconst 1, 1) := by decide +kernel
theorem dX4_text_56 : decode cX4_text 56 = .ok (.iadd, 1) := by decide +kernel
theorem dX4_text_57 : decode cX4_text 57 = .ok (.putfield 18, 3) := by decide +kernel
theorem dX4_text_60 : decode cX4_text 60 = .ok (.aload_n 0, 1) := by decide +kernel
theorem dX4_text_61 : decode cX4_text 61 = .ok (.getfield 18, 3) := by decide +kernel
theorem dX4_text_64 : decode cX4_text 64 = .ok (.iconst 1, 1) := by decide +kernel
theorem dX4_text_65 : decode cX4_text 65 = .ok (.isub, 1) := by decide +kernel
theorem dX4_text_66 : decode cX4_text 66 = .ok (.ireturn, 1) := by decide +kernel
theorem dX4_force_0 : decode cX4_force 0 = .ok (.aload_n 0, 1) := by decide +kernel
theorem dX4_force_1 : decode cX4_force 1 = .ok (.iload_n 1, 1) := by decide +kernel
theorem dX4_force_2 : decode cX4_force 2 = .ok (.invokevirtual 133, 3) := by decide +kernel
theorem dX4_force_5 : decode cX4_force 5 = .ok (.ifCond .ne 6, 3) := by decide +kernel
theorem dX4_force_8 : decode cX4_force 8 = .ok (.bipush (-2), 2) := by decide +kernel
theorem dX4_force_10 : decode cX4_force 10 = .ok (.ireturn, 1) := by decide +kernel
theorem dX4_force_11 : decode cX4_force 11 = .ok (.aload_n 0, 1) := by decide +kernel
theorem dX4_force_12 : decode cX4_force 12 = .ok (.getfield 34, 3) := by decide +kernel
theorem dX4_force_15 : decode cX4_force 15 = .ok (.getfield 136, 3) := by decide +kernel
theorem dX4_force_18 : decode cX4_force 18 = .ok (.getfield 140, 3) := by decide +kernel
theorem dX4_force_21 : decode cX4_force 21 = .ok (.istore_n 2, 1) := by decide +kernel
theorem dX4_force_22 : decode cX4_force 22 = .ok (.aload_n 0, 1) := by decide +kernel
theorem dX4_force_23 : decode cX4_force 23 = .ok (.getfield 34, 3) := by decide +kernel
theorem dX4_force_26 : decode cX4_force 26 = .ok (.aload_n 0, 1) := by decide +kernel
theorem dX4_force_27 : decode cX4_force 27 = .ok (.getfield 11, 3) := by decide +kernel
theorem dX4_force_30 : decode cX4_force 30 = .ok (.iload_n 1, 1) := by decide +kernel
theorem dX4_force_31 : decode cX4_force 31 = .ok (.aaload, 1) := by decide +kernel
theorem dX4_force_32 : decode cX4_force 32 = .ok (.putfield 136, 3) := by decide +kernel
theorem dX4_force_35 : decode cX4_force 35 = .ok (.iload_n 2, 1) := by decide +kernel
theorem dX4_force_36 : decode cX4_force 36 = .ok (.ireturn, 1) := by decide +kernel
theorem dX4_builds_0 : decode cX4_builds 0 = .ok (.aload_n 0, 1) := by decide +kernel
theorem dX4_builds_1 : decode cX4_builds 1 = .ok (.getfield 34, 3) := by decide +kernel
theorem dX4_builds_4 : decode cX4_builds 4 = .ok (.iload_n 1, 1) := by decide +kernel
theorem dX4_builds_5 : decode cX4_builds 5 = .ok (.invokevirtual 92, 3) := by decide +kernel
theorem dX4_builds_8 : decode cX4_builds 8 = .ok (.ifCond .eq 10, 3) := by decide +kernel
theorem dX4_builds_11 : decode cX4_builds 11 = .ok (.iload_n 2, 1) := by decide +kernel
theorem dX4_builds_12 : decode cX4_builds 12 = .ok (.invokestatic 85, 3) := by decide +kernel
theorem dX4_builds_15 : decode cX4_builds 15 = .ok (.ifCond .ne 6, 3) := by decide +kernel
theorem dX4_builds_18 : decode cX4_builds 18 = .ok (.bipush (-2), 2) := by decide +kernel
theorem dX4_builds_20 : decode cX4_builds 20 = .ok (.ireturn, 1) := by decide +kernel
theorem dX4_builds_21 : decode cX4_builds 21 = .ok (.aload_n 0, 1) := by decide +kernel
theorem dX4_builds_22 : decode cX4_builds 22 = .ok (.getfield 34, 3) := by decide +kernel
theorem dX4_builds_25 : decode cX4_builds 25 = .ok (.getfield 108, 3) := by decide +kernel
theorem dX4_builds_28 : decode cX4_builds 28 = .ok (.iload_n 1, 1) := by decide +kernel
theorem dX4_builds_29 : decode cX4_builds 29 = .ok (.iaload, 1) := by decide +kernel
theorem dX4_builds_30 : decode cX4_builds 30 = .ok (.ifCond .eq 6, 3) := by decide +kernel
theorem dX4_builds_33 : decode cX4_builds 33 = .ok (.bipush (-3), 2) := by decide +kernel
theorem dX4_builds_35 : decode cX4_builds 35 = .ok (.ireturn, 1) := by decide +kernel
theorem dX4_builds_36 : decode cX4_builds 36 = .ok (.aload_n 0, 1) := by decide +kernel
theorem dX4_builds_37 : decode cX4_builds 37 = .ok (.getfield 34, 3) := by decide +kernel
theorem dX4_builds_40 : decode cX4_builds 40 = .ok (.iload_n 1, 1) := by decide +kernel
theorem dX4_builds_41 : decode cX4_builds 41 = .ok (.iload_n 2, 1) := by decide +kernel
theorem dX4_builds_42 : decode cX4_builds 42 = .ok (.invokevirtual 143, 3) := by decide +kernel
theorem dX4_builds_45 : decode cX4_builds 45 = .ok (.aload_n 0, 1) := by decide +kernel
theorem dX4_builds_46 : decode cX4_builds 46 = .ok (.getfield 34, 3) := by decide +kernel
theorem dX4_builds_49 : decode cX4_builds 49 = .ok (.getfield 72, 3) := by decide +kernel
theorem dX4_builds_52 : decode cX4_builds 52 = .ok (.iload_n 2, 1) := by decide +kernel
theorem dX4_builds_53 : decode cX4_builds 53 = .ok (.iaload, 1) := by decide +kernel
theorem dX4_builds_54 : decode cX4_builds 54 = .ok (.ireturn, 1) := by decide +kernel
theorem dX4_bound_0 : decode cX4_bound 0 = .ok (.aload_n 0, 1) := by decide +kernel
theorem dX4_bound_1 : decode cX4_bound 1 = .ok (.getfield 34, 3) := by decide +kernel
theorem dX4_bound_4 : decode cX4_bound 4 = .ok (.invokevirtual 147, 3) := by decide +kernel
theorem dX4_bound_7 : decode cX4_bound 7 = .ok (.aload_n 0, 1) := by decide +kernel
theorem dX4_bound_8 : decode cX4_bound 8 = .ok (.getfield 34, 3) := by decide +kernel
theorem dX4_bound_11 : decode cX4_bound 11 = .ok (.iconst 1, 1) := by decide +kernel
theorem dX4_bound_12 : decode cX4_bound 12 = .ok (.invokevirtual 150, 3) := by decide +kernel
theorem dX4_bound_15 : decode cX4_bound 15 = .ok (.ireturn, 1) := by decide +kernel
theorem dX4_home_0 : decode cX4_home 0 = .ok (.aload_n 0, 1) := by decide +kernel
theorem dX4_home_1 : decode cX4_home 1 = .ok (.getfield 34, 3) := by decide +kernel
theorem dX4_home_4 : decode cX4_home 4 = .ok (.invokevirtual 153, 3) := by decide +kernel
theorem dX4_home_7 : decode cX4_home 7 = .ok (.ifCond .eq 6, 3) := by decide +kernel
theorem dX4_home_10 : decode cX4_home 10 = .ok (.bipush (-3), 2) := by decide +kernel
theorem dX4_home_12 : decode cX4_home 12 = .ok (.ireturn, 1) := by decide +kernel
theorem dX4_home_13 : decode cX4_home 13 = .ok (.aload_n 0, 1) := by decide +kernel
theorem dX4_home_14 : decode cX4_home 14 = .ok (.getfield 34, 3) := by decide +kernel
theorem dX4_home_17 : decode cX4_home 17 = .ok (.iconst 1, 1) := by decide +kernel
theorem dX4_home_18 : decode cX4_home 18 = .ok (.invokevirtual 150, 3) := by decide +kernel
theorem dX4_home_21 : decode cX4_home 21 = .ok (.istore_n 1, 1) := by decide +kernel
theorem dX4_home_22 : decode cX4_home 22 = .ok (.aload_n 0, 1) := by decide +kernel
theorem dX4_home_23 : decode cX4_home 23 = .ok (.getfield 34, 3) := by decide +kernel
theorem dX4_home_26 : decode cX4_home 26 = .ok (.iconst 1, 1) := by decide +kernel
theorem dX4_home_27 : decode cX4_home 27 = .ok (.iconst 0, 1) := by decide +kernel
theorem dX4_home_28 : decode cX4_home 28 = .ok (.invokevirtual 157, 3) := by decide +kernel
theorem dX4_home_31 : decode cX4_home 31 = .ok (.iload_n 1, 1) := by decide +kernel
theorem dX4_home_32 : decode cX4_home 32 = .ok (.ireturn, 1) := by decide +kernel
theorem dX4_day_0 : decode cX4_day 0 = .ok (.aload_n 0, 1) := by decide +kernel
theorem dX4_day_1 : decode cX4_day 1 = .ok (.getfield 34, 3) := by decide +kernel
theorem dX4_day_4 : decode cX4_day 4 = .ok (.getfield 63, 3) := by decide +kernel
theorem dX4_day_7 : decode cX4_day 7 = .ok (.sipush 999, 3) := by decide +kernel
theorem dX4_day_10 : decode cX4_day 10 = .ok (.if_icmp .ge 13, 3) := by decide +kernel
theorem dX4_day_13 : decode cX4_day 13 = .ok (.aload_n 0, 1) := by decide +kernel
theorem dX4_day_14 : decode cX4_day 14 = .ok (.getfield 34, 3) := by decide +kernel
theorem dX4_day_17 : decode cX4_day 17 = .ok (.invokevirtual 153, 3) := by decide +kernel
theorem dX4_day_20 : decode cX4_day 20 = .ok (.ifCond .eq 6, 3) := by decide +kernel
theorem dX4_day_23 : decode cX4_day 23 = .ok (.bipush (-3), 2) := by decide +kernel
theorem dX4_day_25 : decode cX4_day 25 = .ok (.ireturn, 1) := by decide +kernel
theorem dX4_day_26 : decode cX4_day 26 = .ok (.aload_n 0, 1) := by decide +kernel
theorem dX4_day_27 : decode cX4_day 27 = .ok (.getfield 34, 3) := by decide +kernel
theorem dX4_day_30 : decode cX4_day 30 = .ok (.invokevirtual 160, 3) := by decide +kernel
theorem dX4_day_33 : decode cX4_day 33 = .ok (.aload_n 0, 1) := by decide +kernel
theorem dX4_day_34 : decode cX4_day 34 = .ok (.getfield 34, 3) := by decide +kernel
theorem dX4_day_37 : decode cX4_day 37 = .ok (.getfield 69, 3) := by decide +kernel
theorem dX4_day_40 : decode cX4_day 40 = .ok (.ireturn, 1) := by decide +kernel
theorem dX4_run_0 : decode cX4_run 0 = .ok (.iload_n 1, 1) := by decide +kernel
theorem dX4_run_1 : decode cX4_run 1 = .ok (.iconst 0, 1) := by decide +kernel
theorem dX4_run_2 : decode cX4_run 2 = .ok (.bipush 40, 2) := by decide +kernel
theorem dX4_run_4 : decode cX4_run 4 = .ok (.invokestatic 55, 3) := by decide +kernel
theorem dX4_run_7 : decode cX4_run 7 = .ok (.ifCond .eq 22, 3) := by decide +kernel
theorem dX4_run_10 : decode cX4_run 10 = .ok (.iload_n 2, 1) := by decide +kernel
theorem dX4_run_11 : decode cX4_run 11 = .ok (.iconst 0, 1) := by decide +kernel
theorem dX4_run_12 : decode cX4_run 12 = .ok (.iconst 2, 1) := by decide +kernel
theorem dX4_run_13 : decode cX4_run 13 = .ok (.invokestatic 55, 3) := by decide +kernel
theorem dX4_run_16 : decode cX4_run 16 = .ok (.ifCond .ne 16, 3) := by decide +kernel
theorem dX4_run_19 : decode cX4_run 19 = .ok (.iload_n 2, 1) := by decide +kernel
theorem dX4_run_20 : decode cX4_run 20 = .ok (.bipush 10, 2) := by decide +kernel
theorem dX4_run_22 : decode cX4_run 22 = .ok (.isub, 1) := by decide +kernel
theorem dX4_run_23 : decode cX4_run 23 = .ok (.invokestatic 85, 3) := by decide +kernel
theorem dX4_run_26 : decode cX4_run 26 = .ok (.ifCond .ne 6, 3) := by decide +kernel
theorem dX4_run_29 : decode cX4_run 29 = .ok (.bipush (-2), 2) := by decide +kernel
theorem dX4_run_31 : decode cX4_run 31 = .ok (.ireturn, 1) := by decide +kernel
theorem dX4_run_32 : decode cX4_run 32 = .ok (.aload_n 0, 1) := by decide +kernel
theorem dX4_run_33 : decode cX4_run 33 = .ok (.getfield 38, 3) := by decide +kernel
theorem dX4_run_36 : decode cX4_run 36 = .ok (.aload_n 0, 1) := by decide +kernel
theorem dX4_run_37 : decode cX4_run 37 = .ok (.getfield 34, 3) := by decide +kernel
theorem dX4_run_40 : decode cX4_run 40 = .ok (.invokevirtual 163, 3) := by decide +kernel
theorem dX4_run_43 : decode cX4_run 43 = .ok (.aload_n 0, 1) := by decide +kernel
theorem dX4_run_44 : decode cX4_run 44 = .ok (.getfield 38, 3) := by decide +kernel
theorem dX4_run_47 : decode cX4_run 47 = .ok (.iload_n 1, 1) := by decide +kernel
theorem dX4_run_48 : decode cX4_run 48 = .ok (.invokevirtual 167, 3) := by decide +kernel
theorem dX4_run_51 : decode cX4_run 51 = .ok (.iload_n 2, 1) := by decide +kernel
theorem dX4_run_52 : decode cX4_run 52 = .ok (.tableswitch 53 0 2 #[28, 36, 45], 28) := by decide +kernel
theorem dX4_run_80 : decode cX4_run 80 = .ok (.aload_n 0, 1) := by decide +kernel
theorem dX4_run_81 : decode cX4_run 81 = .ok (.getfield 38, 3) := by decide +kernel
theorem dX4_run_84 : decode cX4_run 84 = .ok (.getfield 69, 3) := by decide +kernel
theorem dX4_run_87 : decode cX4_run 87 = .ok (.ireturn, 1) := by decide +kernel
theorem dX4_run_88 : decode cX4_run 88 = .ok (.aload_n 0, 1) := by decide +kernel
theorem dX4_run_89 : decode cX4_run 89 = .ok (.getfield 38, 3) := by decide +kernel
theorem dX4_run_92 : decode cX4_run 92 = .ok (.iconst 2, 1) := by decide +kernel
theorem dX4_run_93 : decode cX4_run 93 = .ok (.invokevirtual 150, 3) := by decide +kernel
theorem dX4_run_96 : decode cX4_run 96 = .ok (.ireturn, 1) := by decide +kernel
theorem dX4_run_97 : decode cX4_run 97 = .ok (.aload_n 0, 1) := by decide +kernel
theorem dX4_run_98 : decode cX4_run 98 = .ok (.getfield 38, 3) := by decide +kernel
theorem dX4_run_101 : decode cX4_run 101 = .ok (.invokevirtual 170, 3) := by decide +kernel
theorem dX4_run_104 : decode cX4_run 104 = .ok (.ireturn, 1) := by decide +kernel
theorem dX4_run_105 : decode cX4_run 105 = .ok (.aload_n 0, 1) := by decide +kernel
theorem dX4_run_106 : decode cX4_run 106 = .ok (.getfield 38, 3) := by decide +kernel
theorem dX4_run_109 : decode cX4_run 109 = .ok (.getfield 72, 3) := by decide +kernel
theorem dX4_run_112 : decode cX4_run 112 = .ok (.iload_n 2, 1) := by decide +kernel
theorem dX4_run_113 : decode cX4_run 113 = .ok (.bipush 10, 2) := by decide +kernel
theorem dX4_run_115 : decode cX4_run 115 = .ok (.isub, 1) := by decide +kernel
theorem dX4_run_116 : decode cX4_run 116 = .ok (.iaload, 1) := by decide +kernel
theorem dX4_run_117 : decode cX4_run 117 = .ok (.ireturn, 1) := by decide +kernel
theorem dX4_down_0 : decode cX4_down 0 = .ok (.aload_n 0, 1) := by decide +kernel
theorem dX4_down_1 : decode cX4_down 1 = .ok (.getfield 38, 3) := by decide +kernel
theorem dX4_down_4 : decode cX4_down 4 = .ok (.aload_n 0, 1) := by decide +kernel
theorem dX4_down_5 : decode cX4_down 5 = .ok (.getfield 34, 3) := by decide +kernel
theorem dX4_down_8 : decode cX4_down 8 = .ok (.invokevirtual 163, 3) := by decide +kernel
theorem dX4_down_11 : decode cX4_down 11 = .ok (.iconst 0, 1) := by decide +kernel
theorem dX4_down_12 : decode cX4_down 12 = .ok (.istore_n 1, 1) := by decide +kernel
theorem dX4_down_13 : decode cX4_down 13 = .ok (.iload_n 1, 1) := by decide +kernel
theorem dX4_down_14 : decode cX4_down 14 = .ok (.bipush 60, 2) := by decide +kernel
theorem dX4_down_16 : decode cX4_down 16 = .ok (.if_icmp .gt 28, 3) := by decide +kernel
theorem dX4_down_19 : decode cX4_down 19 = .ok (.aload_n 0, 1) := by decide +kernel
theorem dX4_down_20 : decode cX4_down 20 = .ok (.getfield 38, 3) := by decide +kernel
theorem dX4_down_23 : decode cX4_down 23 = .ok (.invokevirtual 153, 3) := by decide +kernel
theorem dX4_down_26 : decode cX4_down 26 = .ok (.ifCond .eq 5, 3) := by decide +kernel
theorem dX4_down_29 : decode cX4_down 29 = .ok (.iload_n 1, 1) := by decide +kernel
theorem dX4_down_30 : decode cX4_down 30 = .ok (.ireturn, 1) := by decide +kernel
theorem dX4_down_31 : decode cX4_down 31 = .ok (.aload_n 0, 1) := by decide +kernel
theorem dX4_down_32 : decode cX4_down 32 = .ok (.getfield 38, 3) := by decide +kernel
theorem dX4_down_35 : decode cX4_down 35 = .ok (.invokevirtual 160, 3) := by decide +kernel
theorem dX4_down_38 : decode cX4_down 38 = .ok (.iinc 1 1, 3) := by decide +kernel
theorem dX4_down_41 : decode cX4_down 41 = .ok (.goto (-28), 3) := by decide +kernel
theorem dX4_down_44 : decode cX4_down 44 = .ok (.iconst (-1), 1) := by decide +kernel
theorem dX4_down_45 : decode cX4_down 45 = .ok (.ireturn, 1) := by decide +kernel
theorem dX4_yard_0 : decode cX4_yard 0 = .ok (.iload_n 1, 1) := by decide +kernel
theorem dX4_yard_1 : decode cX4_yard 1 = .ok (.iconst 0, 1) := by decide +kernel
theorem dX4_yard_2 : decode cX4_yard 2 = .ok (.bipush 20, 2) := by decide +kernel
theorem dX4_yard_4 : decode cX4_yard 4 = .ok (.invokestatic 55, 3) := by decide +kernel
theorem dX4_yard_7 : decode cX4_yard 7 = .ok (.ifCond .eq 12, 3) := by decide +kernel
theorem dX4_yard_10 : decode cX4_yard 10 = .ok (.iload_n 2, 1) := by decide +kernel
theorem dX4_yard_11 : decode cX4_yard 11 = .ok (.iconst 0, 1) := by decide +kernel
theorem dX4_yard_12 : decode cX4_yard 12 = .ok (.iconst 1, 1) := by decide +kernel
theorem dX4_yard_13 : decode cX4_yard 13 = .ok (.invokestatic 55, 3) := by decide +kernel
theorem dX4_yard_16 : decode cX4_yard 16 = .ok (.ifCond .ne 6, 3) := by decide +kernel
theorem dX4_yard_19 : decode cX4_yard 19 = .ok (.bipush (-2), 2) := by decide +kernel
theorem dX4_yard_21 : decode cX4_yard 21 = .ok (.ireturn, 1) := by decide +kernel
theorem dX4_yard_22 : decode cX4_yard 22 = .ok (.aload_n 0, 1) := by decide +kernel
theorem dX4_yard_23 : decode cX4_yard 23 = .ok (.getfield 34, 3) := by decide +kernel
theorem dX4_yard_26 : decode cX4_yard 26 = .ok (.iconst 0, 1) := by decide +kernel
theorem dX4_yard_27 : decode cX4_yard 27 = .ok (.invokevirtual 150, 3) := by decide +kernel
theorem dX4_yard_30 : decode cX4_yard 30 = .ok (.ifCond .ne 7, 3) := by decide +kernel
theorem dX4_yard_33 : decode cX4_yard 33 = .ok (.iconst 0, 1) := by decide +kernel
theorem dX4_yard_34 : decode cX4_yard 34 = .ok (.goto 17, 3) := by decide +kernel
theorem dX4_yard_37 : decode cX4_yard 37 = .ok (.iconst 3, 1) := by decide +kernel
theorem dX4_yard_38 : decode cX4_yard 38 = .ok (.bipush 10, 2) := by decide +kernel
theorem dX4_yard_40 : decode cX4_yard 40 = .ok (.aload_n 0, 1) := by decide +kernel
theorem dX4_yard_41 : decode cX4_yard 41 = .ok (.getfield 34, 3) := by decide +kernel
theorem dX4_yard_44 : decode cX4_yard 44 = .ok (.invokevirtual 174, 3) := by decide +kernel
theorem dX4_yard_47 : decode cX4_yard 47 = .ok (.isub, 1) := by decide +kernel
theorem dX4_yard_48 : decode cX4_yard 48 = .ok (.invokestatic 177, 3) := by decide +kernel
theorem dX4_yard_51 : decode cX4_yard 51 = .ok (.istore_n 3, 1) := by decide +kernel
theorem dX4_yard_52 : decode cX4_yard 52 = .ok (.iconst 0, 1) := by decide +kernel
theorem dX4_yard_53 : decode cX4_yard 53 = .ok (.istore 4, 2) := by decide +kernel
theorem dX4_yard_55 : decode cX4_yard 55 = .ok (.bipush 101, 2) := by decide +kernel
theorem dX4_yard_57 : decode cX4_yard 57 = .ok (.istore 5, 2) := by decide +kernel
theorem dX4_yard_59 : decode cX4_yard 59 = .ok (.iconst 0, 1) := by decide +kernel
theorem dX4_yard_60 : decode cX4_yard 60 = .ok (.istore 6, 2) := by decide +kernel
theorem dX4_yard_62 : decode cX4_yard 62 = .ok (.iload 6, 2) := by decide +kernel
theorem dX4_yard_64 : decode cX4_yard 64 = .ok (.getstatic 182, 3) := by decide +kernel
theorem dX4_yard_67 : decode cX4_yard 67 = .ok (.iload_n 3, 1) := by decide +kernel
theorem dX4_yard_68 : decode cX4_yard 68 = .ok (.iaload, 1) := by decide +kernel
theorem dX4_yard_69 : decode cX4_yard 69 = .ok (.if_icmp .ge 39, 3) := by decide +kernel
theorem dX4_yard_72 : decode cX4_yard 72 = .ok (.iload 5, 2) := by decide +kernel
theorem dX4_yard_74 : decode cX4_yard 74 = .ok (.ifCond .le 34, 3) := by decide +kernel
theorem dX4_yard_77 : decode cX4_yard 77 = .ok (.aload_n 0, 1) := by decide +kernel
theorem dX4_yard_78 : decode cX4_yard 78 = .ok (.iload 6, 2) := by decide +kernel
theorem dX4_yard_80 : decode cX4_yard 80 = .ok (.iload_n 3, 1) := by decide +kernel
theorem dX4_yard_81 : decode cX4_yard 81 = .ok (.iload_n 1, 1) := by decide +kernel
theorem dX4_yard_82 : decode cX4_yard 82 = .ok (.invokevirtual 185, 3) := by decide +kernel
theorem dX4_yard_85 : decode cX4_yard 85 = .ok (.istore 7, 2) := by decide +kernel
theorem dX4_yard_87 : decode cX4_yard 87 = .ok (.iload 7, 2) := by decide +kernel
theorem dX4_yard_89 : decode cX4_yard 89 = .ok (.iload 5, 2) := by decide +kernel
theorem dX4_yard_91 : decode cX4_yard 91 = .ok (.if_icmp .ge 11, 3) := by decide +kernel
theorem dX4_yard_94 : decode cX4_yard 94 = .ok (.iload 6, 2) := by decide +kernel
theorem dX4_yard_96 : decode cX4_yard 96 = .ok (.istore 4, 2) := by decide +kernel
theorem dX4_yard_98 : decode cX4_yard 98 = .ok (.iload 7, 2) := by decide +kernel
theorem dX4_yard_100 : decode cX4_yard 100 = .ok (.istore 5, 2) := by decide +kernel
theorem dX4_yard_102 : decode cX4_yard 102 = .ok (.iinc 6 1, 3) := by decide +kernel
theorem dX4_yard_105 : decode cX4_yard 105 = .ok (.goto (-43), 3) := by decide +kernel
theorem dX4_yard_108 : decode cX4_yard 108 = .ok (.iload_n 2, 1) := by decide +kernel
theorem dX4_yard_109 : decode cX4_yard 109 = .ok (.ifCond .ne 8, 3) := by decide +kernel
theorem dX4_yard_112 : decode cX4_yard 112 = .ok (.iload 4, 2) := by decide +kernel
theorem dX4_yard_114 : decode cX4_yard 114 = .ok (.goto 5, 3) := by decide +kernel
theorem dX4_yard_117 : decode cX4_yard 117 = .ok (.iload 5, 2) := by decide +kernel
theorem dX4_yard_119 : decode cX4_yard 119 = .ok (.ireturn, 1) := by decide +kernel
theorem dX4_waterBy_0 : decode cX4_waterBy 0 = .ok (.aload_n 0, 1) := by decide +kernel
theorem dX4_waterBy_1 : decode cX4_waterBy 1 = .ok (.getfield 38, 3) := by decide +kernel
theorem dX4_waterBy_4 : decode cX4_waterBy 4 = .ok (.aload_n 0, 1) := by decide +kernel
theorem dX4_waterBy_5 : decode cX4_waterBy 5 = .ok (.getfield 34, 3) := by decide +kernel
theorem dX4_waterBy_8 : decode cX4_waterBy 8 = .ok (.invokevirtual 163, 3) := by decide +kernel
theorem dX4_waterBy_11 : decode cX4_waterBy 11 = .ok (.iconst (-1), 1) := by decide +kernel
theorem dX4_waterBy_12 : decode cX4_waterBy 12 = .ok (.istore 4, 2) := by decide +kernel
theorem dX4_waterBy_14 : decode cX4_waterBy 14 = .ok (.iload_n 2, 1) := by decide +kernel
theorem dX4_waterBy_15 : decode cX4_waterBy 15 = .ok (.iconst 1, 1) := by decide +kernel
theorem dX4_waterBy_16 : decode cX4_waterBy 16 = .ok (.isub, 1) := by decide +kernel
theorem dX4_waterBy_17 : decode cX4_waterBy 17 = .ok (.istore 5, 2) := by decide +kernel
theorem dX4_waterBy_19 : decode cX4_waterBy 19 = .ok (.iload 5, 2) := by decide +kernel
theorem dX4_waterBy_21 : decode cX4_waterBy 21 = .ok (.ifCond .lt 82, 3) := by decide +kernel
theorem dX4_waterBy_24 : decode cX4_waterBy 24 = .ok (.iload_n 1, 1) := by decide +kernel
theorem dX4_waterBy_25 : decode cX4_waterBy 25 = .ok (.getstatic 182, 3) := by decide +kernel
theorem dX4_waterBy_28 : decode cX4_waterBy 28 = .ok (.iload 5, 2) := by decide +kernel
theorem dX4_waterBy_30 : decode cX4_waterBy 30 = .ok (.iaload, 1) := by decide +kernel
theorem dX4_waterBy_31 : decode cX4_waterBy 31 = .ok (.idiv, 1) := by decide +kernel
theorem dX4_waterBy_32 : decode cX4_waterBy 32 = .ok (.bipush 6, 2) := by decide +kernel
theorem dX4_waterBy_34 : decode cX4_waterBy 34 = .ok (.irem, 1) := by decide +kernel
theorem dX4_waterBy_35 : decode cX4_waterBy 35 = .ok (.iconst 1, 1) := by decide +kernel
theorem dX4_waterBy_36 : decode cX4_waterBy 36 = .ok (.isub, 1) := by decide +kernel
theorem dX4_waterBy_37 : decode cX4_waterBy 37 = .ok (.istore 6, 2) := by decide +kernel
theorem dX4_waterBy_39 : decode cX4_waterBy 39 = .ok (.aload_n 0, 1) := by decide +kernel
theorem dX4_waterBy_40 : decode cX4_waterBy 40 = .ok (.getfield 38, 3) := by decide +kernel
theorem dX4_waterBy_43 : decode cX4_waterBy 43 = .ok (.iload 4, 2) := by decide +kernel
theorem dX4_waterBy_45 : decode cX4_waterBy 45 = .ok (.iconst 1, 1) := by decide +kernel
theorem dX4_waterBy_46 : decode cX4_waterBy 46 = .ok (.iadd, 1) := by decide +kernel
theorem dX4_waterBy_47 : decode cX4_waterBy 47 = .ok (.invokevirtual 188, 3) := by decide +kernel
theorem dX4_waterBy_50 : decode cX4_waterBy 50 = .ok (.istore 4, 2) := by decide +kernel
theorem dX4_waterBy_52 : decode cX4_waterBy 52 = .ok (.iload 4, 2) := by decide +kernel
theorem dX4_waterBy_54 : decode cX4_waterBy 54 = .ok (.iconst (-1), 1) := by decide +kernel
theorem dX4_waterBy_55 : decode cX4_waterBy 55 = .ok (.if_icmp .eq 28, 3) := by decide +kernel
theorem dX4_waterBy_58 : decode cX4_waterBy 58 = .ok (.aload_n 0, 1) := by decide +kernel
theorem dX4_waterBy_59 : decode cX4_waterBy 59 = .ok (.getfield 38, 3) := by decide +kernel
theorem dX4_waterBy_62 : decode cX4_waterBy 62 = .ok (.iload 6, 2) := by decide +kernel
theorem dX4_waterBy_64 : decode cX4_waterBy 64 = .ok (.invokevirtual 92, 3) := by decide +kernel
theorem dX4_waterBy_67 : decode cX4_waterBy 67 = .ok (.ifCond .eq 16, 3) := by decide +kernel
theorem dX4_waterBy_70 : decode cX4_waterBy 70 = .ok (.aload_n 0, 1) := by decide +kernel
theorem dX4_waterBy_71 : decode cX4_waterBy 71 = .ok (.getfield 38, 3) := by decide +kernel
theorem dX4_waterBy_74 : decode cX4_waterBy 74 = .ok (.getfield 108, 3) := by decide +kernel
theorem dX4_waterBy_77 : decode cX4_waterBy 77 = .ok (.iload 6, 2) := by decide +kernel
theorem dX4_waterBy_79 : decode cX4_waterBy 79 = .ok (.iaload, 1) := by decide +kernel
theorem dX4_waterBy_80 : decode cX4_waterBy 80 = .ok (.ifCond .eq 6, 3) := by decide +kernel
theorem dX4_waterBy_83 : decode cX4_waterBy 83 = .ok (.bipush 101, 2) := by decide +kernel
theorem dX4_waterBy_85 : decode cX4_waterBy 85 = .ok (.ireturn, 1) := by decide +kernel
theorem dX4_waterBy_86 : decode cX4_waterBy 86 = .ok (.aload_n 0, 1) := by decide +kernel
theorem dX4_waterBy_87 : decode cX4_waterBy 87 = .ok (.getfield 38, 3) := by decide +kernel
theorem dX4_waterBy_90 : decode cX4_waterBy 90 = .ok (.iload 6, 2) := by decide +kernel
theorem dX4_waterBy_92 : decode cX4_waterBy 92 = .ok (.iload 4, 2) := by decide +kernel
theorem dX4_waterBy_94 : decode cX4_waterBy 94 = .ok (.invokevirtual 143, 3) := by decide +kernel
theorem dX4_waterBy_97 : decode cX4_waterBy 97 = .ok (.iinc 5 (-1), 3) := by decide +kernel
theorem dX4_waterBy_100 : decode cX4_waterBy 100 = .ok (.goto (-81), 3) := by decide +kernel
theorem dX4_waterBy_103 : decode cX4_waterBy 103 = .ok (.aload_n 0, 1) := by decide +kernel
theorem dX4_waterBy_104 : decode cX4_waterBy 104 = .ok (.getfield 38, 3) := by decide +kernel
theorem dX4_waterBy_107 : decode cX4_waterBy 107 = .ok (.invokevirtual 147, 3) := by decide +kernel
theorem dX4_waterBy_110 : decode cX4_waterBy 110 = .ok (.aload_n 0, 1) := by decide +kernel
theorem dX4_waterBy_111 : decode cX4_waterBy 111 = .ok (.getfield 38, 3) := by decide +kernel
theorem dX4_waterBy_114 : decode cX4_waterBy 114 = .ok (.iload_n 3, 1) := by decide +kernel
theorem dX4_waterBy_115 : decode cX4_waterBy 115 = .ok (.invokevirtual 167, 3) := by decide +kernel
theorem dX4_waterBy_118 : decode cX4_waterBy 118 = .ok (.aload_n 0, 1) := by decide +kernel
theorem dX4_waterBy_119 : decode cX4_waterBy 119 = .ok (.getfield 38, 3) := by decide +kernel
theorem dX4_waterBy_122 : decode cX4_waterBy 122 = .ok (.getfield 69, 3) := by decide +kernel
theorem dX4_waterBy_125 : decode cX4_waterBy 125 = .ok (.ireturn, 1) := by decide +kernel
theorem dX4_stands_0 : decode cX4_stands 0 = .ok (.iload_n 1, 1) := by decide +kernel
theorem dX4_stands_1 : decode cX4_stands 1 = .ok (.iconst 1, 1) := by decide +kernel
theorem dX4_stands_2 : decode cX4_stands 2 = .ok (.bipush 40, 2) := by decide +kernel
theorem dX4_stands_4 : decode cX4_stands 4 = .ok (.invokestatic 55, 3) := by decide +kernel
theorem dX4_stands_7 : decode cX4_stands 7 = .ok (.ifCond .ne 6, 3) := by decide +kernel
theorem dX4_stands_10 : decode cX4_stands 10 = .ok (.bipush (-2), 2) := by decide +kernel
theorem dX4_stands_12 : decode cX4_stands 12 = .ok (.ireturn, 1) := by decide +kernel
theorem dX4_stands_13 : decode cX4_stands 13 = .ok (.bipush 99, 2) := by decide +kernel
theorem dX4_stands_15 : decode cX4_stands 15 = .ok (.istore_n 2, 1) := by decide +kernel
theorem dX4_stands_16 : decode cX4_stands 16 = .ok (.iload_n 2, 1) := by decide +kernel
theorem dX4_stands_17 : decode cX4_stands 17 = .ok (.ifCond .lt 48, 3) := by decide +kernel
theorem dX4_stands_20 : decode cX4_stands 20 = .ok (.aload_n 0, 1) := by decide +kernel
theorem dX4_stands_21 : decode cX4_stands 21 = .ok (.getfield 38, 3) := by decide +kernel
theorem dX4_stands_24 : decode cX4_stands 24 = .ok (.aload_n 0, 1) := by decide +kernel
theorem dX4_stands_25 : decode cX4_stands 25 = .ok (.getfield 34, 3) := by decide +kernel
theorem dX4_stands_28 : decode cX4_stands 28 = .ok (.invokevirtual 163, 3) := by decide +kernel
theorem dX4_stands_31 : decode cX4_stands 31 = .ok (.aload_n 0, 1) := by decide +kernel
theorem dX4_stands_32 : decode cX4_stands 32 = .ok (.getfield 38, 3) := by decide +kernel
theorem dX4_stands_35 : decode cX4_stands 35 = .ok (.iload_n 2, 1) := by decide +kernel
theorem dX4_stands_36 : decode cX4_stands 36 = .ok (.putfield 66, 3) := by decide +kernel
theorem dX4_stands_39 : decode cX4_stands 39 = .ok (.aload_n 0, 1) := by decide +kernel
theorem dX4_stands_40 : decode cX4_stands 40 = .ok (.getfield 38, 3) := by decide +kernel
theorem dX4_stands_43 : decode cX4_stands 43 = .ok (.iload_n 1, 1) := by decide +kernel
theorem dX4_stands_44 : decode cX4_stands 44 = .ok (.invokevirtual 167, 3) := by decide +kernel
theorem dX4_stands_47 : decode cX4_stands 47 = .ok (.aload_n 0, 1) := by decide +kernel
theorem dX4_stands_48 : decode cX4_stands 48 = .ok (.getfield 38, 3) := by decide +kernel
theorem dX4_stands_51 : decode cX4_stands 51 = .ok (.invokevirtual 153, 3) := by decide +kernel
theorem dX4_stands_54 : decode cX4_stands 54 = .ok (.ifCond .ne 5, 3) := by decide +kernel
theorem dX4_stands_57 : decode cX4_stands 57 = .ok (.iload_n 2, 1) := by decide +kernel
theorem dX4_stands_58 : decode cX4_stands 58 = .ok (.ireturn, 1) := by decide +kernel
theorem dX4_stands_59 : decode cX4_stands 59 = .ok (.iinc 2 (-1), 3) := by decide +kernel
theorem dX4_stands_62 : decode cX4_stands 62 = .ok (.goto (-46), 3) := by decide +kernel
theorem dX4_stands_65 : decode cX4_stands 65 = .ok (.iconst (-1), 1) := by decide +kernel
theorem dX4_stands_66 : decode cX4_stands 66 = .ok (.ireturn, 1) := by decide +kernel
theorem dX4_go_0 : decode cX4_go 0 = .ok (.iload_n 1, 1) := by decide +kernel
theorem dX4_go_1 : decode cX4_go 1 = .ok (.iconst 0, 1) := by decide +kernel
theorem dX4_go_2 : decode cX4_go 2 = .ok (.bipush 40, 2) := by decide +kernel
theorem dX4_go_4 : decode cX4_go 4 = .ok (.invokestatic 55, 3) := by decide +kernel
theorem dX4_go_7 : decode cX4_go 7 = .ok (.ifCond .eq 12, 3) := by decide +kernel
theorem dX4_go_10 : decode cX4_go 10 = .ok (.iload_n 2, 1) := by decide +kernel
theorem dX4_go_11 : decode cX4_go 11 = .ok (.iconst 0, 1) := by decide +kernel
theorem dX4_go_12 : decode cX4_go 12 = .ok (.iconst 1, 1) := by decide +kernel
theorem dX4_go_13 : decode cX4_go 13 = .ok (.invokestatic 55, 3) := by decide +kernel
theorem dX4_go_16 : decode cX4_go 16 = .ok (.ifCond .ne 6, 3) := by decide +kernel
theorem dX4_go_19 : decode cX4_go 19 = .ok (.bipush (-2), 2) := by decide +kernel
theorem dX4_go_21 : decode cX4_go 21 = .ok (.ireturn, 1) := by decide +kernel
theorem dX4_go_22 : decode cX4_go 22 = .ok (.iconst (-1), 1) := by decide +kernel
theorem dX4_go_23 : decode cX4_go 23 = .ok (.istore_n 3, 1) := by decide +kernel
theorem dX4_go_24 : decode cX4_go 24 = .ok (.bipush 6, 2) := by decide +kernel
theorem dX4_go_26 : decode cX4_go 26 = .ok (.istore 4, 2) := by decide +kernel
theorem dX4_go_28 : decode cX4_go 28 = .ok (.iconst 0, 1) := by decide +kernel
theorem dX4_go_29 : decode cX4_go 29 = .ok (.istore 5, 2) := by decide +kernel
theorem dX4_go_31 : decode cX4_go 31 = .ok (.iload 5, 2) := by decide +kernel
theorem dX4_go_33 : decode cX4_go 33 = .ok (.iconst 1, 1) := by decide +kernel
theorem dX4_go_34 : decode cX4_go 34 = .ok (.aload_n 0, 1) := by decide +kernel
theorem dX4_go_35 : decode cX4_go 35 = .ok (.getfield 34, 3) := by decide +kernel
theorem dX4_go_38 : decode cX4_go 38 = .ok (.getfield 191, 3) := by decide +kernel
theorem dX4_go_41 : decode cX4_go 41 = .ok (.ishl, 1) := by decide +kernel
theorem dX4_go_42 : decode cX4_go 42 = .ok (.if_icmp .ge 40, 3) := by decide +kernel
theorem dX4_go_45 : decode cX4_go 45 = .ok (.iload 5, 2) := by decide +kernel
theorem dX4_go_47 : decode cX4_go 47 = .ok (.invokestatic 194, 3) := by decide +kernel
theorem dX4_go_50 : decode cX4_go 50 = .ok (.istore 6, 2) := by decide +kernel
theorem dX4_go_52 : decode cX4_go 52 = .ok (.iload 6, 2) := by decide +kernel
theorem dX4_go_54 : decode cX4_go 54 = .ok (.iload 4, 2) := by decide +kernel
theorem dX4_go_56 : decode cX4_go 56 = .ok (.if_icmp .ge 20, 3) := by decide +kernel
theorem dX4_go_59 : decode cX4_go 59 = .ok (.aload_n 0, 1) := by decide +kernel
theorem dX4_go_60 : decode cX4_go 60 = .ok (.iload 5, 2) := by decide +kernel
theorem dX4_go_62 : decode cX4_go 62 = .ok (.iload_n 1, 1) := by decide +kernel
theorem dX4_go_63 : decode cX4_go 63 = .ok (.invokevirtual 199, 3) := by decide +kernel
theorem dX4_go_66 : decode cX4_go 66 = .ok (.ifCond .eq 10, 3) := by decide +kernel
theorem dX4_go_69 : decode cX4_go 69 = .ok (.iload 5, 2) := by decide +kernel
theorem dX4_go_71 : decode cX4_go 71 = .ok (.istore_n 3, 1) := by decide +kernel
theorem dX4_go_72 : decode cX4_go 72 = .ok (.iload 6, 2) := by decide +kernel
theorem dX4_go_74 : decode cX4_go 74 = .ok (.istore 4, 2) := by decide +kernel
theorem dX4_go_76 : decode cX4_go 76 = .ok (.iinc 5 1, 3) := by decide +kernel
theorem dX4_go_79 : decode cX4_go 79 = .ok (.goto (-48), 3) := by decide +kernel
theorem dX4_go_82 : decode cX4_go 82 = .ok (.iload_n 2, 1) := by decide +kernel
theorem dX4_go_83 : decode cX4_go 83 = .ok (.ifCond .eq 8, 3) := by decide +kernel
theorem dX4_go_86 : decode cX4_go 86 = .ok (.iload_n 3, 1) := by decide +kernel
theorem dX4_go_87 : decode cX4_go 87 = .ok (.iconst (-1), 1) := by decide +kernel
theorem dX4_go_88 : decode cX4_go 88 = .ok (.if_icmp .ne 7, 3) := by decide +kernel
theorem dX4_go_91 : decode cX4_go 91 = .ok (.iload_n 3, 1) := by decide +kernel
theorem dX4_go_92 : decode cX4_go 92 = .ok (.goto 5, 3) := by decide +kernel
theorem dX4_go_95 : decode cX4_go 95 = .ok (.iload 4, 2) := by decide +kernel
theorem dX4_go_97 : decode cX4_go 97 = .ok (.ireturn, 1) := by decide +kernel
theorem dX4_comesHomeWith_0 : decode cX4_comesHomeWith 0 = .ok (.iload_n 1, 1) := by decide +kernel
theorem dX4_comesHomeWith_1 : decode cX4_comesHomeWith 1 = .ok (.aload_n 0, 1) := by decide +kernel
theorem dX4_comesHomeWith_2 : decode cX4_comesHomeWith 2 = .ok (.getfield 34, 3) := by decide +kernel
theorem dX4_comesHomeWith_5 : decode cX4_comesHomeWith 5 = .ok (.iconst 2, 1) := by decide +kernel
theorem dX4_comesHomeWith_6 : decode cX4_comesHomeWith 6 = .ok (.invokevirtual 150, 3) := by decide +kernel
theorem dX4_comesHomeWith_9 : decode cX4_comesHomeWith 9 = .ok (.iand, 1) := by decide +kernel
theorem dX4_comesHomeWith_10 : decode cX4_comesHomeWith 10 = .ok (.ifCond .eq 5, 3) := by decide +kernel
theorem dX4_comesHomeWith_13 : decode cX4_comesHomeWith 13 = .ok (.iconst 0, 1) := by decide +kernel
theorem dX4_comesHomeWith_14 : decode cX4_comesHomeWith 14 = .ok (.ireturn, 1) := by decide +kernel
theorem dX4_comesHomeWith_15 : decode cX4_comesHomeWith 15 = .ok (.aload_n 0, 1) := by decide +kernel
theorem dX4_comesHomeWith_16 : decode cX4_comesHomeWith 16 = .ok (.getfield 38, 3) := by decide +kernel
theorem dX4_comesHomeWith_19 : decode cX4_comesHomeWith 19 = .ok (.aload_n 0, 1) := by decide +kernel
theorem dX4_comesHomeWith_20 : decode cX4_comesHomeWith 20 = .ok (.getfield 34, 3) := by decide +kernel
theorem dX4_comesHomeWith_23 : decode cX4_comesHomeWith 23 = .ok (.invokevirtual 163, 3) := by decide +kernel
theorem dX4_comesHomeWith_26 : decode cX4_comesHomeWith 26 = .ok (.aload_n 0, 1) := by decide +kernel
theorem dX4_comesHomeWith_27 : decode cX4_comesHomeWith 27 = .ok (.getfield 38, 3) := by decide +kernel
theorem dX4_comesHomeWith_30 : decode cX4_comesHomeWith 30 = .ok (.iconst 1, 1) := by decide +kernel
theorem dX4_comesHomeWith_31 : decode cX4_comesHomeWith 31 = .ok (.iconst 0, 1) := by decide +kernel
theorem dX4_comesHomeWith_32 : decode cX4_comesHomeWith 32 = .ok (.invokevirtual 157, 3) := by decide +kernel
theorem dX4_comesHomeWith_35 : decode cX4_comesHomeWith 35 = .ok (.iconst 0, 1) := by decide +kernel
theorem dX4_comesHomeWith_36 : decode cX4_comesHomeWith 36 = .ok (.istore_n 3, 1) := by decide +kernel
theorem dX4_comesHomeWith_37 : decode cX4_comesHomeWith 37 = .ok (.iload_n 3, 1) := by decide +kernel
theorem dX4_comesHomeWith_38 : decode cX4_comesHomeWith 38 = .ok (.aload_n 0, 1) := by decide +kernel
theorem dX4_comesHomeWith_39 : decode cX4_comesHomeWith 39 = .ok (.getfield 38, 3) := by decide +kernel
theorem dX4_comesHomeWith_42 : decode cX4_comesHomeWith 42 = .ok (.getfield 191, 3) := by decide +kernel
theorem dX4_comesHomeWith_45 : decode cX4_comesHomeWith 45 = .ok (.if_icmp .ge 28, 3) := by decide +kernel
theorem dX4_comesHomeWith_48 : decode cX4_comesHomeWith 48 = .ok (.iload_n 1, 1) := by decide +kernel
theorem dX4_comesHomeWith_49 : decode cX4_comesHomeWith 49 = .ok (.iload_n 3, 1) := by decide +kernel
theorem dX4_comesHomeWith_50 : decode cX4_comesHomeWith 50 = .ok (.ishr, 1) := by decide +kernel
theorem dX4_comesHomeWith_51 : decode cX4_comesHomeWith 51 = .ok (.iconst 1, 1) := by decide +kernel
theorem dX4_comesHomeWith_52 : decode cX4_comesHomeWith 52 = .ok (.iand, 1) := by decide +kernel
theorem dX4_comesHomeWith_53 : decode cX4_comesHomeWith 53 = .ok (.iconst 1, 1) := by decide +kernel
theorem dX4_comesHomeWith_54 : decode cX4_comesHomeWith 54 = .ok (.if_icmp .ne 13, 3) := by decide +kernel
theorem dX4_comesHomeWith_57 : decode cX4_comesHomeWith 57 = .ok (.aload_n 0, 1) := by decide +kernel
theorem dX4_comesHomeWith_58 : decode cX4_comesHomeWith 58 = .ok (.getfield 38, 3) := by decide +kernel
theorem dX4_comesHomeWith_61 : decode cX4_comesHomeWith 61 = .ok (.getfield 108, 3) := by decide +kernel
theorem dX4_comesHomeWith_64 : decode cX4_comesHomeWith 64 = .ok (.iload_n 3, 1) := by decide +kernel
theorem dX4_comesHomeWith_65 : decode cX4_comesHomeWith 65 = .ok (.iconst 1, 1) := by decide +kernel
theorem dX4_comesHomeWith_66 : decode cX4_comesHomeWith 66 = .ok (.iastore, 1) := by decide +kernel
theorem dX4_comesHomeWith_67 : decode cX4_comesHomeWith 67 = .ok (.iinc 3 1, 3) := by decide +kernel
theorem dX4_comesHomeWith_70 : decode cX4_comesHomeWith 70 = .ok (.goto (-33), 3) := by decide +kernel
theorem dX4_comesHomeWith_73 : decode cX4_comesHomeWith 73 = .ok (.aload_n 0, 1) := by decide +kernel
theorem dX4_comesHomeWith_74 : decode cX4_comesHomeWith 74 = .ok (.getfield 38, 3) := by decide +kernel
theorem dX4_comesHomeWith_77 : decode cX4_comesHomeWith 77 = .ok (.iload_n 2, 1) := by decide +kernel
theorem dX4_comesHomeWith_78 : decode cX4_comesHomeWith 78 = .ok (.invokevirtual 167, 3) := by decide +kernel
theorem dX4_comesHomeWith_81 : decode cX4_comesHomeWith 81 = .ok (.aload_n 0, 1) := by decide +kernel
theorem dX4_comesHomeWith_82 : decode cX4_comesHomeWith 82 = .ok (.getfield 38, 3) := by decide +kernel
theorem dX4_comesHomeWith_85 : decode cX4_comesHomeWith 85 = .ok (.invokevirtual 153, 3) := by decide +kernel
theorem dX4_comesHomeWith_88 : decode cX4_comesHomeWith 88 = .ok (.ifCond .ne 7, 3) := by decide +kernel
theorem dX4_comesHomeWith_91 : decode cX4_comesHomeWith 91 = .ok (.iconst 1, 1) := by decide +kernel
theorem dX4_comesHomeWith_92 : decode cX4_comesHomeWith 92 = .ok (.goto 4, 3) := by decide +kernel
theorem dX4_comesHomeWith_95 : decode cX4_comesHomeWith 95 = .ok (.iconst 0, 1) := by decide +kernel
theorem dX4_comesHomeWith_96 : decode cX4_comesHomeWith 96 = .ok (.ireturn, 1) := by decide +kernel
theorem dX4_worst_0 : decode cX4_worst 0 = .ok (.iconst (-1), 1) := by decide +kernel
theorem dX4_worst_1 : decode cX4_worst 1 = .ok (.istore_n 1, 1) := by decide +kernel
theorem dX4_worst_2 : decode cX4_worst 2 = .ok (.iconst 0, 1) := by decide +kernel
theorem dX4_worst_3 : decode cX4_worst 3 = .ok (.istore_n 2, 1) := by decide +kernel
theorem dX4_worst_4 : decode cX4_worst 4 = .ok (.iconst 0, 1) := by decide +kernel
theorem dX4_worst_5 : decode cX4_worst 5 = .ok (.istore_n 3, 1) := by decide +kernel
theorem dX4_worst_6 : decode cX4_worst 6 = .ok (.iload_n 3, 1) := by decide +kernel
theorem dX4_worst_7 : decode cX4_worst 7 = .ok (.bipush 10, 2) := by decide +kernel
theorem dX4_worst_9 : decode cX4_worst 9 = .ok (.if_icmp .ge 30, 3) := by decide +kernel
theorem dX4_worst_12 : decode cX4_worst 12 = .ok (.aload_n 0, 1) := by decide +kernel
theorem dX4_worst_13 : decode cX4_worst 13 = .ok (.getfield 34, 3) := by decide +kernel
theorem dX4_worst_16 : decode cX4_worst 16 = .ok (.iload_n 3, 1) := by decide +kernel
theorem dX4_worst_17 : decode cX4_worst 17 = .ok (.invokevirtual 101, 3) := by decide +kernel
theorem dX4_worst_20 : decode cX4_worst 20 = .ok (.istore 4, 2) := by decide +kernel
theorem dX4_worst_22 : decode cX4_worst 22 = .ok (.iload 4, 2) := by decide +kernel
theorem dX4_worst_24 : decode cX4_worst 24 = .ok (.iload_n 2, 1) := by decide +kernel
theorem dX4_worst_25 : decode cX4_worst 25 = .ok (.if_icmp .le 8, 3) := by decide +kernel
theorem dX4_worst_28 : decode cX4_worst 28 = .ok (.iload_n 3, 1) := by decide +kernel
theorem dX4_worst_29 : decode cX4_worst 29 = .ok (.istore_n 1, 1) := by decide +kernel
theorem dX4_worst_30 : decode cX4_worst 30 = .ok (.iload 4, 2) := by decide +kernel
theorem dX4_worst_32 : decode cX4_worst 32 = .ok (.istore_n 2, 1) := by decide +kernel
theorem dX4_worst_33 : decode cX4_worst 33 = .ok (.iinc 3 1, 3) := by decide +kernel
theorem dX4_worst_36 : decode cX4_worst 36 = .ok (.goto (-30), 3) := by decide +kernel
theorem dX4_worst_39 : decode cX4_worst 39 = .ok (.iload_n 1, 1) := by decide +kernel
theorem dX4_worst_40 : decode cX4_worst 40 = .ok (.ireturn, 1) := by decide +kernel
theorem dX4_mean_0 : decode cX4_mean 0 = .ok (.iload_n 1, 1) := by decide +kernel
theorem dX4_mean_1 : decode cX4_mean 1 = .ok (.iconst 0, 1) := by decide +kernel
theorem dX4_mean_2 : decode cX4_mean 2 = .ok (.iconst 1, 1) := by decide +kernel
theorem dX4_mean_3 : decode cX4_mean 3 = .ok (.invokestatic 55, 3) := by decide +kernel
theorem dX4_mean_6 : decode cX4_mean 6 = .ok (.ifCond .ne 7, 3) := by decide +kernel
theorem dX4_mean_9 : decode cX4_mean 9 = .ok (.ldc2_w 203, 3) := by decide +kernel
theorem dX4_mean_12 : decode cX4_mean 12 = .ok (.lreturn, 1) := by decide +kernel
theorem dX4_mean_13 : decode cX4_mean 13 = .ok (.iconst 0, 1) := by decide +kernel
theorem dX4_mean_14 : decode cX4_mean 14 = .ok (.istore_n 2, 1) := by decide +kernel
theorem dX4_mean_15 : decode cX4_mean 15 = .ok (.iconst 0, 1) := by decide +kernel
theorem dX4_mean_16 : decode cX4_mean 16 = .ok (.istore_n 3, 1) := by decide +kernel
theorem dX4_mean_17 : decode cX4_mean 17 = .ok (.iload_n 3, 1) := by decide +kernel
theorem dX4_mean_18 : decode cX4_mean 18 = .ok (.bipush 10, 2) := by decide +kernel
theorem dX4_mean_20 : decode cX4_mean 20 = .ok (.if_icmp .ge 21, 3) := by decide +kernel
theorem dX4_mean_23 : decode cX4_mean 23 = .ok (.iload_n 2, 1) := by decide +kernel
theorem dX4_mean_24 : decode cX4_mean 24 = .ok (.aload_n 0, 1) := by decide +kernel
theorem dX4_mean_25 : decode cX4_mean 25 = .ok (.getfield 34, 3) := by decide +kernel
theorem dX4_mean_28 : decode cX4_mean 28 = .ok (.getfield 72, 3) := by decide +kernel
theorem dX4_mean_31 : decode cX4_mean 31 = .ok (.iload_n 3, 1) := by decide +kernel
theorem dX4_mean_32 : decode cX4_mean 32 = .ok (.iaload, 1) := by decide +kernel
theorem dX4_mean_33 : decode cX4_mean 33 = .ok (.iadd, 1) := by decide +kernel
theorem dX4_mean_34 : decode cX4_mean 34 = .ok (.istore_n 2, 1) := by decide +kernel
theorem dX4_mean_35 : decode cX4_mean 35 = .ok (.iinc 3 1, 3) := by decide +kernel
theorem dX4_mean_38 : decode cX4_mean 38 = .ok (.goto (-21), 3) := by decide +kernel
theorem dX4_mean_41 : decode cX4_mean 41 = .ok (.iload_n 2, 1) := by decide +kernel
theorem dX4_mean_42 : decode cX4_mean 42 = .ok (.bipush 10, 2) := by decide +kernel
theorem dX4_mean_44 : decode cX4_mean 44 = .ok (.iload_n 1, 1) := by decide +kernel
theorem dX4_mean_45 : decode cX4_mean 45 = .ok (.invokestatic 205, 3) := by decide +kernel
theorem dX4_mean_48 : decode cX4_mean 48 = .ok (.lreturn, 1) := by decide +kernel
theorem dX4_tells_0 : decode cX4_tells 0 = .ok (.iload_n 1, 1) := by decide +kernel
theorem dX4_tells_1 : decode cX4_tells 1 = .ok (.invokestatic 209, 3) := by decide +kernel
theorem dX4_tells_4 : decode cX4_tells 4 = .ok (.ifCond .eq 24, 3) := by decide +kernel
theorem dX4_tells_7 : decode cX4_tells 7 = .ok (.aload_n 0, 1) := by decide +kernel
theorem dX4_tells_8 : decode cX4_tells 8 = .ok (.getfield 34, 3) := by decide +kernel
theorem dX4_tells_11 : decode cX4_tells 11 = .ok (.iload_n 2, 1) := by decide +kernel
theorem dX4_tells_12 : decode cX4_tells 12 = .ok (.invokevirtual 92, 3) := by decide +kernel
theorem dX4_tells_15 : decode cX4_tells 15 = .ok (.ifCond .eq 13, 3) := by decide +kernel
theorem dX4_tells_18 : decode cX4_tells 18 = .ok (.iload_n 3, 1) := by decide +kernel
theorem dX4_tells_19 : decode cX4_tells 19 = .ok (.iconst 0, 1) := by decide +kernel
theorem dX4_tells_20 : decode cX4_tells 20 = .ok (.bipush 8, 2) := by decide +kernel
theorem dX4_tells_22 : decode cX4_tells 22 = .ok (.invokestatic 55, 3) := by decide +kernel
theorem dX4_tells_25 : decode cX4_tells 25 = .ok (.ifCond .ne 6, 3) := by decide +kernel
theorem dX4_tells_28 : decode cX4_tells 28 = .ok (.bipush (-2), 2) := by decide +kernel
theorem dX4_tells_30 : decode cX4_tells 30 = .ok (.ireturn, 1) := by decide +kernel
theorem dX4_tells_31 : decode cX4_tells 31 = .ok (.aload_n 0, 1) := by decide +kernel
theorem dX4_tells_32 : decode cX4_tells 32 = .ok (.getfield 46, 3) := by decide +kernel
theorem dX4_tells_35 : decode cX4_tells 35 = .ok (.iload_n 1, 1) := by decide +kernel
theorem dX4_tells_36 : decode cX4_tells 36 = .ok (.aaload, 1) := by decide +kernel
theorem dX4_tells_37 : decode cX4_tells 37 = .ok (.astore 4, 2) := by decide +kernel
theorem dX4_tells_39 : decode cX4_tells 39 = .ok (.aload 4, 2) := by decide +kernel
theorem dX4_tells_41 : decode cX4_tells 41 = .ok (.invokevirtual 212, 3) := by decide +kernel
theorem dX4_tells_44 : decode cX4_tells 44 = .ok (.ifCond .eq 6, 3) := by decide +kernel
theorem dX4_tells_47 : decode cX4_tells 47 = .ok (.bipush (-11), 2) := by decide +kernel
theorem dX4_tells_49 : decode cX4_tells 49 = .ok (.ireturn, 1) := by decide +kernel
theorem dX4_tells_50 : decode cX4_tells 50 = .ok (.aload 4, 2) := by decide +kernel
theorem dX4_tells_52 : decode cX4_tells 52 = .ok (.getfield 215, 3) := by decide +kernel
theorem dX4_tells_55 : decode cX4_tells 55 = .ok (.bipush 20, 2) := by decide +kernel
theorem dX4_tells_57 : decode cX4_tells 57 = .ok (.if_icmp .le 6, 3) := by decide +kernel
theorem dX4_tells_60 : decode cX4_tells 60 = .ok (.bipush (-2), 2) := by decide +kernel
theorem dX4_tells_62 : decode cX4_tells 62 = .ok (.ireturn, 1) := by decide +kernel
theorem dX4_tells_63 : decode cX4_tells 63 = .ok (.iload_n 3, 1) := by decide +kernel
theorem dX4_tells_64 : decode cX4_tells 64 = .ok (.tableswitch 120 0 7 #[48, 58, 69, 80, 89, 80, 98, 107], 48) := by decide +kernel
theorem dX4_tells_112 : decode cX4_tells 112 = .ok (.aload_n 0, 1) := by decide +kernel
theorem dX4_tells_113 : decode cX4_tells 113 = .ok (.aload 4, 2) := by decide +kernel
theorem dX4_tells_115 : decode cX4_tells 115 = .ok (.iload_n 2, 1) := by decide +kernel
theorem dX4_tells_116 : decode cX4_tells 116 = .ok (.iconst 0, 1) := by decide +kernel
theorem dX4_tells_117 : decode cX4_tells 117 = .ok (.iconst 0, 1) := by decide +kernel
theorem dX4_tells_118 : decode cX4_tells 118 = .ok (.invokevirtual 216, 3) := by decide +kernel
theorem dX4_tells_121 : decode cX4_tells 121 = .ok (.ireturn, 1) := by decide +kernel
theorem dX4_tells_122 : decode cX4_tells 122 = .ok (.aload_n 0, 1) := by decide +kernel
theorem dX4_tells_123 : decode cX4_tells 123 = .ok (.aload 4, 2) := by decide +kernel
theorem dX4_tells_125 : decode cX4_tells 125 = .ok (.iload_n 2, 1) := by decide +kernel
theorem dX4_tells_126 : decode cX4_tells 126 = .ok (.iload_n 3, 1) := by decide +kernel
theorem dX4_tells_127 : decode cX4_tells 127 = .ok (.bipush 6, 2) := by decide +kernel
theorem dX4_tells_129 : decode cX4_tells 129 = .ok (.invokevirtual 220, 3) := by decide +kernel
theorem dX4_tells_132 : decode cX4_tells 132 = .ok (.ireturn, 1) := by decide +kernel
theorem dX4_tells_133 : decode cX4_tells 133 = .ok (.aload_n 0, 1) := by decide +kernel
theorem dX4_tells_134 : decode cX4_tells 134 = .ok (.aload 4, 2) := by decide +kernel
theorem dX4_tells_136 : decode cX4_tells 136 = .ok (.iload_n 2, 1) := by decide +kernel
theorem dX4_tells_137 : decode cX4_tells 137 = .ok (.iload_n 3, 1) := by decide +kernel
theorem dX4_tells_138 : decode cX4_tells 138 = .ok (.bipush 10, 2) := by decide +kernel
theorem dX4_tells_140 : decode cX4_tells 140 = .ok (.invokevirtual 220, 3) := by decide +kernel
theorem dX4_tells_143 : decode cX4_tells 143 = .ok (.ireturn, 1) := by decide +kernel
theorem dX4_tells_144 : decode cX4_tells 144 = .ok (.aload_n 0, 1) := by decide +kernel
theorem dX4_tells_145 : decode cX4_tells 145 = .ok (.aload 4, 2) := by decide +kernel
theorem dX4_tells_147 : decode cX4_tells 147 = .ok (.iload_n 2, 1) := by decide +kernel
theorem dX4_tells_148 : decode cX4_tells 148 = .ok (.iload_n 3, 1) := by decide +kernel
theorem dX4_tells_149 : decode cX4_tells 149 = .ok (.invokevirtual 223, 3) := by decide +kernel
theorem dX4_tells_152 : decode cX4_tells 152 = .ok (.ireturn, 1) := by decide +kernel
theorem dX4_tells_153 : decode cX4_tells 153 = .ok (.aload_n 0, 1) := by decide +kernel
theorem dX4_tells_154 : decode cX4_tells 154 = .ok (.aload 4, 2) := by decide +kernel
theorem dX4_tells_156 : decode cX4_tells 156 = .ok (.iload_n 2, 1) := by decide +kernel
theorem dX4_tells_157 : decode cX4_tells 157 = .ok (.iconst 3, 1) := by decide +kernel
theorem dX4_tells_158 : decode cX4_tells 158 = .ok (.invokevirtual 227, 3) := by decide +kernel
theorem dX4_tells_161 : decode cX4_tells 161 = .ok (.ireturn, 1) := by decide +kernel
theorem dX4_tells_162 : decode cX4_tells 162 = .ok (.aload_n 0, 1) := by decide +kernel
theorem dX4_tells_163 : decode cX4_tells 163 = .ok (.aload 4, 2) := by decide +kernel
theorem dX4_tells_165 : decode cX4_tells 165 = .ok (.iload_n 2, 1) := by decide +kernel
theorem dX4_tells_166 : decode cX4_tells 166 = .ok (.iconst 5, 1) := by decide +kernel
theorem dX4_tells_167 : decode cX4_tells 167 = .ok (.invokevirtual 227, 3) := by decide +kernel
theorem dX4_tells_170 : decode cX4_tells 170 = .ok (.ireturn, 1) := by decide +kernel
theorem dX4_tells_171 : decode cX4_tells 171 = .ok (.aload_n 0, 1) := by decide +kernel
theorem dX4_tells_172 : decode cX4_tells 172 = .ok (.aload 4, 2) := by decide +kernel
theorem dX4_tells_174 : decode cX4_tells 174 = .ok (.iload_n 2, 1) := by decide +kernel
theorem dX4_tells_175 : decode cX4_tells 175 = .ok (.iload_n 3, 1) := by decide +kernel
theorem dX4_tells_176 : decode cX4_tells 176 = .ok (.aload_n 0, 1) := by decide +kernel
theorem dX4_tells_177 : decode cX4_tells 177 = .ok (.getfield 18, 3) := by decide +kernel
theorem dX4_tells_180 : decode cX4_tells 180 = .ok (.invokevirtual 220, 3) := by decide +kernel
theorem dX4_tells_183 : decode cX4_tells 183 = .ok (.ireturn, 1) := by decide +kernel
theorem dX4_tells_184 : decode cX4_tells 184 = .ok (.aload_n 0, 1) := by decide +kernel
theorem dX4_tells_185 : decode cX4_tells 185 = .ok (.aload 4, 2) := by decide +kernel
theorem dX4_tells_187 : decode cX4_tells 187 = .ok (.iload_n 2, 1) := by decide +kernel
theorem dX4_tells_188 : decode cX4_tells 188 = .ok (.iload_n 3, 1) := by decide +kernel
theorem dX4_tells_189 : decode cX4_tells 189 = .ok (.bipush 10, 2) := by decide +kernel
theorem dX4_tells_191 : decode cX4_tells 191 = .ok (.invokevirtual 220, 3) := by decide +kernel
theorem dX4_tells_194 : decode cX4_tells 194 = .ok (.ireturn, 1) := by decide +kernel
theorem dX4_firstOtherwise_0 : decode cX4_firstOtherwise 0 = .ok (.aload_n 0, 1) := by decide +kernel
theorem dX4_firstOtherwise_1 : decode cX4_firstOtherwise 1 = .ok (.getfield 38, 3) := by decide +kernel
theorem dX4_firstOtherwise_4 : decode cX4_firstOtherwise 4 = .ok (.aload_n 0, 1) := by decide +kernel
theorem dX4_firstOtherwise_5 : decode cX4_firstOtherwise 5 = .ok (.getfield 34, 3) := by decide +kernel
theorem dX4_firstOtherwise_8 : decode cX4_firstOtherwise 8 = .ok (.invokevirtual 163, 3) := by decide +kernel
theorem dX4_firstOtherwise_11 : decode cX4_firstOtherwise 11 = .ok (.iload_n 3, 1) := by decide +kernel
theorem dX4_firstOtherwise_12 : decode cX4_firstOtherwise 12 = .ok (.tableswitch 134 1 8 #[48, 62, 76, 134, 90, 134, 102, 119], 48) := by decide +kernel
theorem dX4_firstOtherwise_60 : decode cX4_firstOtherwise 60 = .ok (.aload_n 0, 1) := by decide +kernel
theorem dX4_firstOtherwise_61 : decode cX4_firstOtherwise 61 = .ok (.getfield 38, 3) := by decide +kernel
theorem dX4_firstOtherwise_64 : decode cX4_firstOtherwise 64 = .ok (.getfield 105, 3) := by decide +kernel
theorem dX4_firstOtherwise_67 : decode cX4_firstOtherwise 67 = .ok (.iload_n 2, 1) := by decide +kernel
theorem dX4_firstOtherwise_68 : decode cX4_firstOtherwise 68 = .ok (.iload 4, 2) := by decide +kernel
theorem dX4_firstOtherwise_70 : decode cX4_firstOtherwise 70 = .ok (.iastore, 1) := by decide +kernel
theorem dX4_firstOtherwise_71 : decode cX4_firstOtherwise 71 = .ok (.goto 75, 3) := by decide +kernel
theorem dX4_firstOtherwise_74 : decode cX4_firstOtherwise 74 = .ok (.aload_n 0, 1) := by decide +kernel
theorem dX4_firstOtherwise_75 : decode cX4_firstOtherwise 75 = .ok (.getfield 38, 3) := by decide +kernel
theorem dX4_firstOtherwise_78 : decode cX4_firstOtherwise 78 = .ok (.getfield 75, 3) := by decide +kernel
theorem dX4_firstOtherwise_81 : decode cX4_firstOtherwise 81 = .ok (.iload_n 2, 1) := by decide +kernel
theorem dX4_firstOtherwise_82 : decode cX4_firstOtherwise 82 = .ok (.iload 4, 2) := by decide +kernel
theorem dX4_firstOtherwise_84 : decode cX4_firstOtherwise 84 = .ok (.iastore, 1) := by decide +kernel
theorem dX4_firstOtherwise_85 : decode cX4_firstOtherwise 85 = .ok (.goto 61, 3) := by decide +kernel
theorem dX4_firstOtherwise_88 : decode cX4_firstOtherwise 88 = .ok (.aload_n 0, 1) := by decide +kernel
theorem dX4_firstOtherwise_89 : decode cX4_firstOtherwise 89 = .ok (.getfield 38, 3) := by decide +kernel
theorem dX4_firstOtherwise_92 : decode cX4_firstOtherwise 92 = .ok (.getfield 78, 3) := by decide +kernel
theorem dX4_firstOtherwise_95 : decode cX4_firstOtherwise 95 = .ok (.iload_n 2, 1) := by decide +kernel
theorem dX4_firstOtherwise_96 : decode cX4_firstOtherwise 96 = .ok (.iload 4, 2) := by decide +kernel
theorem dX4_firstOtherwise_98 : decode cX4_firstOtherwise 98 = .ok (.iastore, 1) := by decide +kernel
theorem dX4_firstOtherwise_99 : decode cX4_firstOtherwise 99 = .ok (.goto 47, 3) := by decide +kernel
theorem dX4_firstOtherwise_102 : decode cX4_firstOtherwise 102 = .ok (.aload_n 0, 1) := by decide +kernel
theorem dX4_firstOtherwise_103 : decode cX4_firstOtherwise 103 = .ok (.getfield 38, 3) := by decide +kernel
theorem dX4_firstOtherwise_106 : decode cX4_firstOtherwise 106 = .ok (.iload 4, 2) := by decide +kernel
theorem dX4_firstOtherwise_108 : decode cX4_firstOtherwise 108 = .ok (.putfield 66, 3) := by decide +kernel
theorem dX4_firstOtherwise_111 : decode cX4_firstOtherwise 111 = .ok (.goto 35, 3) := by decide +kernel
theorem dX4_firstOtherwise_114 : decode cX4_firstOtherwise 114 = .ok (.aload_n 0, 1) := by decide +kernel
theorem dX4_firstOtherwise_115 : decode cX4_firstOtherwise 115 = .ok (.getfield 38, 3) := by decide +kernel
theorem dX4_firstOtherwise_118 : decode cX4_firstOtherwise 118 = .ok (.aload_n 0, 1) := by decide +kernel
theorem dX4_firstOtherwise_119 : decode cX4_firstOtherwise 119 = .ok (.getfield 11, 3) := by decide +kernel
theorem dX4_firstOtherwise_122 : decode cX4_firstOtherwise 122 = .ok (.iload 4, 2) := by decide +kernel
theorem dX4_firstOtherwise_124 : decode cX4_firstOtherwise 124 = .ok (.aaload, 1) := by decide +kernel
theorem dX4_firstOtherwise_125 : decode cX4_firstOtherwise 125 = .ok (.putfield 136, 3) := by decide +kernel
theorem dX4_firstOtherwise_128 : decode cX4_firstOtherwise 128 = .ok (.goto 18, 3) := by decide +kernel
theorem dX4_firstOtherwise_131 : decode cX4_firstOtherwise 131 = .ok (.aload_n 0, 1) := by decide +kernel
theorem dX4_firstOtherwise_132 : decode cX4_firstOtherwise 132 = .ok (.getfield 38, 3) := by decide +kernel
theorem dX4_firstOtherwise_135 : decode cX4_firstOtherwise 135 = .ok (.getfield 72, 3) := by decide +kernel
theorem dX4_firstOtherwise_138 : decode cX4_firstOtherwise 138 = .ok (.iload 4, 2) := by decide +kernel
theorem dX4_firstOtherwise_140 : decode cX4_firstOtherwise 140 = .ok (.bipush 99, 2) := by decide +kernel
theorem dX4_firstOtherwise_142 : decode cX4_firstOtherwise 142 = .ok (.iastore, 1) := by decide +kernel
theorem dX4_firstOtherwise_143 : decode cX4_firstOtherwise 143 = .ok (.goto 3, 3) := by decide +kernel
theorem dX4_firstOtherwise_146 : decode cX4_firstOtherwise 146 = .ok (.iconst 0, 1) := by decide +kernel
theorem dX4_firstOtherwise_147 : decode cX4_firstOtherwise 147 = .ok (.istore 5, 2) := by decide +kernel
theorem dX4_firstOtherwise_149 : decode cX4_firstOtherwise 149 = .ok (.iload 5, 2) := by decide +kernel
theorem dX4_firstOtherwise_151 : decode cX4_firstOtherwise 151 = .ok (.aload_n 1, 1) := by decide +kernel
theorem dX4_firstOtherwise_152 : decode cX4_firstOtherwise 152 = .ok (.getfield 215, 3) := by decide +kernel
theorem dX4_firstOtherwise_155 : decode cX4_firstOtherwise 155 = .ok (.if_icmp .ge 36, 3) := by decide +kernel
theorem dX4_firstOtherwise_158 : decode cX4_firstOtherwise 158 = .ok (.aload_n 0, 1) := by decide +kernel
theorem dX4_firstOtherwise_159 : decode cX4_firstOtherwise 159 = .ok (.getfield 38, 3) := by decide +kernel
theorem dX4_firstOtherwise_162 : decode cX4_firstOtherwise 162 = .ok (.invokevirtual 160, 3) := by decide +kernel
theorem dX4_firstOtherwise_165 : decode cX4_firstOtherwise 165 = .ok (.aload_n 0, 1) := by decide +kernel
theorem dX4_firstOtherwise_166 : decode cX4_firstOtherwise 166 = .ok (.getfield 38, 3) := by decide +kernel
theorem dX4_firstOtherwise_169 : decode cX4_firstOtherwise 169 = .ok (.getfield 69, 3) := by decide +kernel
theorem dX4_firstOtherwise_172 : decode cX4_firstOtherwise 172 = .ok (.aload_n 1, 1) := by decide +kernel
theorem dX4_firstOtherwise_173 : decode cX4_firstOtherwise 173 = .ok (.getfield 230, 3) := by decide +kernel
theorem dX4_firstOtherwise_176 : decode cX4_firstOtherwise 176 = .ok (.iload 5, 2) := by decide +kernel
theorem dX4_firstOtherwise_178 : decode cX4_firstOtherwise 178 = .ok (.iaload, 1) := by decide +kernel
theorem dX4_firstOtherwise_179 : decode cX4_firstOtherwise 179 = .ok (.if_icmp .eq 6, 3) := by decide +kernel
theorem dX4_firstOtherwise_182 : decode cX4_firstOtherwise 182 = .ok (.iload 5, 2) := by decide +kernel
theorem dX4_firstOtherwise_184 : decode cX4_firstOtherwise 184 = .ok (.ireturn, 1) := by decide +kernel
theorem dX4_firstOtherwise_185 : decode cX4_firstOtherwise 185 = .ok (.iinc 5 1, 3) := by decide +kernel
theorem dX4_firstOtherwise_188 : decode cX4_firstOtherwise 188 = .ok (.goto (-39), 3) := by decide +kernel
theorem dX4_firstOtherwise_191 : decode cX4_firstOtherwise 191 = .ok (.iconst (-1), 1) := by decide +kernel
theorem dX4_firstOtherwise_192 : decode cX4_firstOtherwise 192 = .ok (.ireturn, 1) := by decide +kernel
theorem dX4_bitsThatFit_0 : decode cX4_bitsThatFit 0 = .ok (.iconst 0, 1) := by decide +kernel
theorem dX4_bitsThatFit_1 : decode cX4_bitsThatFit 1 = .ok (.istore 5, 2) := by decide +kernel
theorem dX4_bitsThatFit_3 : decode cX4_bitsThatFit 3 = .ok (.iconst 0, 1) := by decide +kernel
theorem dX4_bitsThatFit_4 : decode cX4_bitsThatFit 4 = .ok (.istore 6, 2) := by decide +kernel
theorem dX4_bitsThatFit_6 : decode cX4_bitsThatFit 6 = .ok (.iload 6, 2) := by decide +kernel
theorem dX4_bitsThatFit_8 : decode cX4_bitsThatFit 8 = .ok (.iload 4, 2) := by decide +kernel
theorem dX4_bitsThatFit_10 : decode cX4_bitsThatFit 10 = .ok (.if_icmp .ge 31, 3) := by decide +kernel
theorem dX4_bitsThatFit_13 : decode cX4_bitsThatFit 13 = .ok (.aload_n 0, 1) := by decide +kernel
theorem dX4_bitsThatFit_14 : decode cX4_bitsThatFit 14 = .ok (.aload_n 1, 1) := by decide +kernel
theorem dX4_bitsThatFit_15 : decode cX4_bitsThatFit 15 = .ok (.iload_n 2, 1) := by decide +kernel
theorem dX4_bitsThatFit_16 : decode cX4_bitsThatFit 16 = .ok (.iload_n 3, 1) := by decide +kernel
theorem dX4_bitsThatFit_17 : decode cX4_bitsThatFit 17 = .ok (.iload 6, 2) := by decide +kernel
theorem dX4_bitsThatFit_19 : decode cX4_bitsThatFit 19 = .ok (.invokevirtual 216, 3) := by decide +kernel
theorem dX4_bitsThatFit_22 : decode cX4_bitsThatFit 22 = .ok (.iconst (-1), 1) := by decide +kernel
theorem dX4_bitsThatFit_23 : decode cX4_bitsThatFit 23 = .ok (.if_icmp .ne 12, 3) := by decide +kernel
theorem dX4_bitsThatFit_26 : decode cX4_bitsThatFit 26 = .ok (.iload 5, 2) := by decide +kernel
theorem dX4_bitsThatFit_28 : decode cX4_bitsThatFit 28 = .ok (.iconst 1, 1) := by decide +kernel
theorem dX4_bitsThatFit_29 : decode cX4_bitsThatFit 29 = .ok (.iload 6, 2) := by decide +kernel
theorem dX4_bitsThatFit_31 : decode cX4_bitsThatFit 31 = .ok (.ishl, 1) := by decide +kernel
theorem dX4_bitsThatFit_32 : decode cX4_bitsThatFit 32 = .ok (.ior, 1) := by decide +kernel
theorem dX4_bitsThatFit_33 : decode cX4_bitsThatFit 33 = .ok (.istore 5, 2) := by decide +kernel
theorem dX4_bitsThatFit_35 : decode cX4_bitsThatFit 35 = .ok (.iinc 6 1, 3) := by decide +kernel
theorem dX4_bitsThatFit_38 : decode cX4_bitsThatFit 38 = .ok (.goto (-32), 3) := by decide +kernel
theorem dX4_bitsThatFit_41 : decode cX4_bitsThatFit 41 = .ok (.iload 5, 2) := by decide +kernel
theorem dX4_bitsThatFit_43 : decode cX4_bitsThatFit 43 = .ok (.ireturn, 1) := by decide +kernel
theorem dX4_howManyFit_0 : decode cX4_howManyFit 0 = .ok (.iconst 0, 1) := by decide +kernel
theorem dX4_howManyFit_1 : decode cX4_howManyFit 1 = .ok (.istore 4, 2) := by decide +kernel
theorem dX4_howManyFit_3 : decode cX4_howManyFit 3 = .ok (.iconst 0, 1) := by decide +kernel
theorem dX4_howManyFit_4 : decode cX4_howManyFit 4 = .ok (.istore 5, 2) := by decide +kernel
theorem dX4_howManyFit_6 : decode cX4_howManyFit 6 = .ok (.iload 5, 2) := by decide +kernel
theorem dX4_howManyFit_8 : decode cX4_howManyFit 8 = .ok (.bipush 99, 2) := by decide +kernel
theorem dX4_howManyFit_10 : decode cX4_howManyFit 10 = .ok (.if_icmp .gt 25, 3) := by decide +kernel
theorem dX4_howManyFit_13 : decode cX4_howManyFit 13 = .ok (.aload_n 0, 1) := by decide +kernel
theorem dX4_howManyFit_14 : decode cX4_howManyFit 14 = .ok (.aload_n 1, 1) := by decide +kernel
theorem dX4_howManyFit_15 : decode cX4_howManyFit 15 = .ok (.iload_n 2, 1) := by decide +kernel
theorem dX4_howManyFit_16 : decode cX4_howManyFit 16 = .ok (.iload_n 3, 1) := by decide +kernel
theorem dX4_howManyFit_17 : decode cX4_howManyFit 17 = .ok (.iload 5, 2) := by decide +kernel
theorem dX4_howManyFit_19 : decode cX4_howManyFit 19 = .ok (.invokevirtual 216, 3) := by decide +kernel
theorem dX4_howManyFit_22 : decode cX4_howManyFit 22 = .ok (.iconst (-1), 1) := by decide +kernel
theorem dX4_howManyFit_23 : decode cX4_howManyFit 23 = .ok (.if_icmp .ne 6, 3) := by decide +kernel
theorem dX4_howManyFit_26 : decode cX4_howManyFit 26 = .ok (.iinc 4 1, 3) := by decide +kernel
theorem dX4_howManyFit_29 : decode cX4_howManyFit 29 = .ok (.iinc 5 1, 3) := by decide +kernel
theorem dX4_howManyFit_32 : decode cX4_howManyFit 32 = .ok (.goto (-26), 3) := by decide +kernel
theorem dX4_howManyFit_35 : decode cX4_howManyFit 35 = .ok (.iload 4, 2) := by decide +kernel
theorem dX4_howManyFit_37 : decode cX4_howManyFit 37 = .ok (.ireturn, 1) := by decide +kernel
theorem dX4_leastThatFits_0 : decode cX4_leastThatFits 0 = .ok (.iconst 0, 1) := by decide +kernel
theorem dX4_leastThatFits_1 : decode cX4_leastThatFits 1 = .ok (.istore 4, 2) := by decide +kernel
theorem dX4_leastThatFits_3 : decode cX4_leastThatFits 3 = .ok (.iload 4, 2) := by decide +kernel
theorem dX4_leastThatFits_5 : decode cX4_leastThatFits 5 = .ok (.bipush 99, 2) := by decide +kernel
theorem dX4_leastThatFits_7 : decode cX4_leastThatFits 7 = .ok (.if_icmp .gt 25, 3) := by decide +kernel
theorem dX4_leastThatFits_10 : decode cX4_leastThatFits 10 = .ok (.aload_n 0, 1) := by decide +kernel
theorem dX4_leastThatFits_11 : decode cX4_leastThatFits 11 = .ok (.aload_n 1, 1) := by decide +kernel
theorem dX4_leastThatFits_12 : decode cX4_leastThatFits 12 = .ok (.iload_n 2, 1) := by decide +kernel
theorem dX4_leastThatFits_13 : decode cX4_leastThatFits 13 = .ok (.iload_n 3, 1) := by decide +kernel
theorem dX4_leastThatFits_14 : decode cX4_leastThatFits 14 = .ok (.iload 4, 2) := by decide +kernel
theorem dX4_leastThatFits_16 : decode cX4_leastThatFits 16 = .ok (.invokevirtual 216, 3) := by decide +kernel
theorem dX4_leastThatFits_19 : decode cX4_leastThatFits 19 = .ok (.iconst (-1), 1) := by decide +kernel
theorem dX4_leastThatFits_20 : decode cX4_leastThatFits 20 = .ok (.if_icmp .ne 6, 3) := by decide +kernel
theorem dX4_leastThatFits_23 : decode cX4_leastThatFits 23 = .ok (.iload 4, 2) := by decide +kernel
theorem dX4_leastThatFits_25 : decode cX4_leastThatFits 25 = .ok (.ireturn, 1) := by decide +kernel
theorem dX4_leastThatFits_26 : decode cX4_leastThatFits 26 = .ok (.iinc 4 1, 3) := by decide +kernel
theorem dX4_leastThatFits_29 : decode cX4_leastThatFits 29 = .ok (.goto (-26), 3) := by decide +kernel
theorem dX4_leastThatFits_32 : decode cX4_leastThatFits 32 = .ok (.iconst (-1), 1) := by decide +kernel
theorem dX4_leastThatFits_33 : decode cX4_leastThatFits 33 = .ok (.ireturn, 1) := by decide +kernel
theorem dX4_film_0 : decode cX4_film 0 = .ok (.iload_n 1, 1) := by decide +kernel
theorem dX4_film_1 : decode cX4_film 1 = .ok (.invokestatic 209, 3) := by decide +kernel
theorem dX4_film_4 : decode cX4_film 4 = .ok (.ifCond .eq 13, 3) := by decide +kernel
theorem dX4_film_7 : decode cX4_film 7 = .ok (.iload_n 2, 1) := by decide +kernel
theorem dX4_film_8 : decode cX4_film 8 = .ok (.iconst 0, 1) := by decide +kernel
theorem dX4_film_9 : decode cX4_film 9 = .ok (.bipush 20, 2) := by decide +kernel
theorem dX4_film_11 : decode cX4_film 11 = .ok (.invokestatic 55, 3) := by decide +kernel
theorem dX4_film_14 : decode cX4_film 14 = .ok (.ifCond .ne 6, 3) := by decide +kernel
theorem dX4_film_17 : decode cX4_film 17 = .ok (.bipush (-2), 2) := by decide +kernel
theorem dX4_film_19 : decode cX4_film 19 = .ok (.ireturn, 1) := by decide +kernel
theorem dX4_film_20 : decode cX4_film 20 = .ok (.aload_n 0, 1) := by decide +kernel
theorem dX4_film_21 : decode cX4_film 21 = .ok (.getfield 46, 3) := by decide +kernel
theorem dX4_film_24 : decode cX4_film 24 = .ok (.iload_n 1, 1) := by decide +kernel
theorem dX4_film_25 : decode cX4_film 25 = .ok (.aaload, 1) := by decide +kernel
theorem dX4_film_26 : decode cX4_film 26 = .ok (.astore_n 3, 1) := by decide +kernel
theorem dX4_film_27 : decode cX4_film 27 = .ok (.aload_n 3, 1) := by decide +kernel
theorem dX4_film_28 : decode cX4_film 28 = .ok (.iconst 0, 1) := by decide +kernel
theorem dX4_film_29 : decode cX4_film 29 = .ok (.iload_n 2, 1) := by decide +kernel
theorem dX4_film_30 : decode cX4_film 30 = .ok (.invokevirtual 233, 3) := by decide +kernel
theorem dX4_film_33 : decode cX4_film 33 = .ok (.aload_n 0, 1) := by decide +kernel
theorem dX4_film_34 : decode cX4_film 34 = .ok (.getfield 38, 3) := by decide +kernel
theorem dX4_film_37 : decode cX4_film 37 = .ok (.aload_n 0, 1) := by decide +kernel
theorem dX4_film_38 : decode cX4_film 38 = .ok (.getfield 34, 3) := by decide +kernel
theorem dX4_film_41 : decode cX4_film 41 = .ok (.invokevirtual 163, 3) := by decide +kernel
theorem dX4_film_44 : decode cX4_film 44 = .ok (.iconst 0, 1) := by decide +kernel
theorem dX4_film_45 : decode cX4_film 45 = .ok (.istore 4, 2) := by decide +kernel
theorem dX4_film_47 : decode cX4_film 47 = .ok (.iload 4, 2) := by decide +kernel
theorem dX4_film_49 : decode cX4_film 49 = .ok (.iload_n 2, 1) := by decide +kernel
theorem dX4_film_50 : decode cX4_film 50 = .ok (.if_icmp .ge 29, 3) := by decide +kernel
theorem dX4_film_53 : decode cX4_film 53 = .ok (.aload_n 0, 1) := by decide +kernel
theorem dX4_film_54 : decode cX4_film 54 = .ok (.getfield 38, 3) := by decide +kernel
theorem dX4_film_57 : decode cX4_film 57 = .ok (.invokevirtual 160, 3) := by decide +kernel
theorem dX4_film_60 : decode cX4_film 60 = .ok (.aload_n 3, 1) := by decide +kernel
theorem dX4_film_61 : decode cX4_film 61 = .ok (.iload 4, 2) := by decide +kernel
theorem dX4_film_63 : decode cX4_film 63 = .ok (.aload_n 0, 1) := by decide +kernel
theorem dX4_film_64 : decode cX4_film 64 = .ok (.getfield 38, 3) := by decide +kernel
theorem dX4_film_67 : decode cX4_film 67 = .ok (.getfield 69, 3) := by decide +kernel
theorem dX4_film_70 : decode cX4_film 70 = .ok (.invokevirtual 235, 3) := by decide +kernel
theorem dX4_film_73 : decode cX4_film 73 = .ok (.iinc 4 1, 3) := by decide +kernel
theorem dX4_film_76 : decode cX4_film 76 = .ok (.goto (-29), 3) := by decide +kernel
theorem dX4_film_79 : decode cX4_film 79 = .ok (.iload_n 2, 1) := by decide +kernel
theorem dX4_film_80 : decode cX4_film 80 = .ok (.ireturn, 1) := by decide +kernel
theorem dX4_drawn_0 : decode cX4_drawn 0 = .ok (.iload_n 2, 1) := by decide +kernel
theorem dX4_drawn_1 : decode cX4_drawn 1 = .ok (.iconst 0, 1) := by decide +kernel
theorem dX4_drawn_2 : decode cX4_drawn 2 = .ok (.bipush 40, 2) := by decide +kernel
theorem dX4_drawn_4 : decode cX4_drawn 4 = .ok (.invokestatic 55, 3) := by decide +kernel
theorem dX4_drawn_7 : decode cX4_drawn 7 = .ok (.ifCond .ne 6, 3) := by decide +kernel
theorem dX4_drawn_10 : decode cX4_drawn 10 = .ok (.bipush (-2), 2) := by decide +kernel
theorem dX4_drawn_12 : decode cX4_drawn 12 = .ok (.ireturn, 1) := by decide +kernel
theorem dX4_drawn_13 : decode cX4_drawn 13 = .ok (.aload_n 0, 1) := by decide +kernel
theorem dX4_drawn_14 : decode cX4_drawn 14 = .ok (.iload_n 1, 1) := by decide +kernel
theorem dX4_drawn_15 : decode cX4_drawn 15 = .ok (.iload_n 2, 1) := by decide +kernel
theorem dX4_drawn_16 : decode cX4_drawn 16 = .ok (.invokevirtual 238, 3) := by decide +kernel
theorem dX4_drawn_19 : decode cX4_drawn 19 = .ok (.ireturn, 1) := by decide +kernel
theorem dX4_waterDrawn_0 : decode cX4_waterDrawn 0 = .ok (.aload_n 0, 1) := by decide +kernel
theorem dX4_waterDrawn_1 : decode cX4_waterDrawn 1 = .ok (.getfield 38, 3) := by decide +kernel
theorem dX4_waterDrawn_4 : decode cX4_waterDrawn 4 = .ok (.aload_n 0, 1) := by decide +kernel
theorem dX4_waterDrawn_5 : decode cX4_waterDrawn 5 = .ok (.getfield 34, 3) := by decide +kernel
theorem dX4_waterDrawn_8 : decode cX4_waterDrawn 8 = .ok (.invokevirtual 163, 3) := by decide +kernel
theorem dX4_waterDrawn_11 : decode cX4_waterDrawn 11 = .ok (.iload_n 1, 1) := by decide +kernel
theorem dX4_waterDrawn_12 : decode cX4_waterDrawn 12 = .ok (.istore_n 3, 1) := by decide +kernel
theorem dX4_waterDrawn_13 : decode cX4_waterDrawn 13 = .ok (.iconst 0, 1) := by decide +kernel
theorem dX4_waterDrawn_14 : decode cX4_waterDrawn 14 = .ok (.istore 4, 2) := by decide +kernel
theorem dX4_waterDrawn_16 : decode cX4_waterDrawn 16 = .ok (.iload 4, 2) := by decide +kernel
theorem dX4_waterDrawn_18 : decode cX4_waterDrawn 18 = .ok (.iload_n 2, 1) := by decide +kernel
theorem dX4_waterDrawn_19 : decode cX4_waterDrawn 19 = .ok (.if_icmp .ge 39, 3) := by decide +kernel
theorem dX4_waterDrawn_22 : decode cX4_waterDrawn 22 = .ok (.iload_n 3, 1) := by decide +kernel
theorem dX4_waterDrawn_23 : decode cX4_waterDrawn 23 = .ok (.ldc 241, 2) := by decide +kernel
theorem dX4_waterDrawn_25 : decode cX4_waterDrawn 25 = .ok (.imul, 1) := by decide +kernel
theorem dX4_waterDrawn_26 : decode cX4_waterDrawn 26 = .ok (.sipush 12345, 3) := by decide +kernel
theorem dX4_waterDrawn_29 : decode cX4_waterDrawn 29 = .ok (.iadd, 1) := by decide +kernel
theorem dX4_waterDrawn_30 : decode cX4_waterDrawn 30 = .ok (.istore_n 3, 1) := by decide +kernel
theorem dX4_waterDrawn_31 : decode cX4_waterDrawn 31 = .ok (.aload_n 0, 1) := by decide +kernel
theorem dX4_waterDrawn_32 : decode cX4_waterDrawn 32 = .ok (.getfield 38, 3) := by decide +kernel
theorem dX4_waterDrawn_35 : decode cX4_waterDrawn 35 = .ok (.iload_n 3, 1) := by decide +kernel
theorem dX4_waterDrawn_36 : decode cX4_waterDrawn 36 = .ok (.bipush 9, 2) := by decide +kernel
theorem dX4_waterDrawn_38 : decode cX4_waterDrawn 38 = .ok (.iushr, 1) := by decide +kernel
theorem dX4_waterDrawn_39 : decode cX4_waterDrawn 39 = .ok (.bipush 100, 2) := by decide +kernel
theorem dX4_waterDrawn_41 : decode cX4_waterDrawn 41 = .ok (.irem, 1) := by decide +kernel
theorem dX4_waterDrawn_42 : decode cX4_waterDrawn 42 = .ok (.putfield 66, 3) := by decide +kernel
theorem dX4_waterDrawn_45 : decode cX4_waterDrawn 45 = .ok (.aload_n 0, 1) := by decide +kernel
theorem dX4_waterDrawn_46 : decode cX4_waterDrawn 46 = .ok (.getfield 38, 3) := by decide +kernel
theorem dX4_waterDrawn_49 : decode cX4_waterDrawn 49 = .ok (.invokevirtual 160, 3) := by decide +kernel
theorem dX4_waterDrawn_52 : decode cX4_waterDrawn 52 = .ok (.iinc 4 1, 3) := by decide +kernel
theorem dX4_waterDrawn_55 : decode cX4_waterDrawn 55 = .ok (.goto (-39), 3) := by decide +kernel
theorem dX4_waterDrawn_58 : decode cX4_waterDrawn 58 = .ok (.aload_n 0, 1) := by decide +kernel
theorem dX4_waterDrawn_59 : decode cX4_waterDrawn 59 = .ok (.getfield 38, 3) := by decide +kernel
theorem dX4_waterDrawn_62 : decode cX4_waterDrawn 62 = .ok (.getfield 69, 3) := by decide +kernel
theorem dX4_waterDrawn_65 : decode cX4_waterDrawn 65 = .ok (.ireturn, 1) := by decide +kernel
theorem dX4_chance_0 : decode cX4_chance 0 = .ok (.iload_n 2, 1) := by decide +kernel
theorem dX4_chance_1 : decode cX4_chance 1 = .ok (.iconst 1, 1) := by decide +kernel
theorem dX4_chance_2 : decode cX4_chance 2 = .ok (.bipush 20, 2) := by decide +kernel
theorem dX4_chance_4 : decode cX4_chance 4 = .ok (.invokestatic 55, 3) := by decide +kernel
theorem dX4_chance_7 : decode cX4_chance 7 = .ok (.ifCond .eq 12, 3) := by decide +kernel
theorem dX4_chance_10 : decode cX4_chance 10 = .ok (.iload_n 3, 1) := by decide +kernel
theorem dX4_chance_11 : decode cX4_chance 11 = .ok (.iconst 0, 1) := by decide +kernel
theorem dX4_chance_12 : decode cX4_chance 12 = .ok (.iconst 1, 1) := by decide +kernel
theorem dX4_chance_13 : decode cX4_chance 13 = .ok (.invokestatic 55, 3) := by decide +kernel
theorem dX4_chance_16 : decode cX4_chance 16 = .ok (.ifCond .ne 7, 3) := by decide +kernel
theorem dX4_chance_19 : decode cX4_chance 19 = .ok (.ldc2_w 203, 3) := by decide +kernel
theorem dX4_chance_22 : decode cX4_chance 22 = .ok (.lreturn, 1) := by decide +kernel
theorem dX4_chance_23 : decode cX4_chance 23 = .ok (.iconst 0, 1) := by decide +kernel
theorem dX4_chance_24 : decode cX4_chance 24 = .ok (.istore 4, 2) := by decide +kernel
theorem dX4_chance_26 : decode cX4_chance 26 = .ok (.iconst 0, 1) := by decide +kernel
theorem dX4_chance_27 : decode cX4_chance 27 = .ok (.istore 5, 2) := by decide +kernel
theorem dX4_chance_29 : decode cX4_chance 29 = .ok (.iload 5, 2) := by decide +kernel
theorem dX4_chance_31 : decode cX4_chance 31 = .ok (.iload_n 2, 1) := by decide +kernel
theorem dX4_chance_32 : decode cX4_chance 32 = .ok (.if_icmp .ge 27, 3) := by decide +kernel
theorem dX4_chance_35 : decode cX4_chance 35 = .ok (.aload_n 0, 1) := by decide +kernel
theorem dX4_chance_36 : decode cX4_chance 36 = .ok (.iload_n 1, 1) := by decide +kernel
theorem dX4_chance_37 : decode cX4_chance 37 = .ok (.iload 5, 2) := by decide +kernel
theorem dX4_chance_39 : decode cX4_chance 39 = .ok (.iadd, 1) := by decide +kernel
theorem dX4_chance_40 : decode cX4_chance 40 = .ok (.bipush 10, 2) := by decide +kernel
theorem dX4_chance_42 : decode cX4_chance 42 = .ok (.invokevirtual 238, 3) := by decide +kernel
theorem dX4_chance_45 : decode cX4_chance 45 = .ok (.bipush 100, 2) := by decide +kernel
theorem dX4_chance_47 : decode cX4_chance 47 = .ok (.if_icmp .lt 6, 3) := by decide +kernel
theorem dX4_chance_50 : decode cX4_chance 50 = .ok (.iinc 4 1, 3) := by decide +kernel
theorem dX4_chance_53 : decode cX4_chance 53 = .ok (.iinc 5 1, 3) := by decide +kernel
theorem dX4_chance_56 : decode cX4_chance 56 = .ok (.goto (-27), 3) := by decide +kernel
theorem dX4_chance_59 : decode cX4_chance 59 = .ok (.iload 4, 2) := by decide +kernel
theorem dX4_chance_61 : decode cX4_chance 61 = .ok (.iload_n 2, 1) := by decide +kernel
theorem dX4_chance_62 : decode cX4_chance 62 = .ok (.iload_n 3, 1) := by decide +kernel
theorem dX4_chance_63 : decode cX4_chance 63 = .ok (.invokestatic 205, 3) := by decide +kernel
theorem dX4_chance_66 : decode cX4_chance 66 = .ok (.lreturn, 1) := by decide +kernel
theorem dX4_image_0 : decode cX4_image 0 = .ok (.aload_n 0, 1) := by decide +kernel
theorem dX4_image_1 : decode cX4_image 1 = .ok (.getfield 41, 3) := by decide +kernel
theorem dX4_image_4 : decode cX4_image 4 = .ok (.aload_n 0, 1) := by decide +kernel
theorem dX4_image_5 : decode cX4_image 5 = .ok (.getfield 34, 3) := by decide +kernel
theorem dX4_image_8 : decode cX4_image 8 = .ok (.invokevirtual 163, 3) := by decide +kernel
theorem dX4_image_11 : decode cX4_image 11 = .ok (.aload_n 0, 1) := by decide +kernel
theorem dX4_image_12 : decode cX4_image 12 = .ok (.iconst 1, 1) := by decide +kernel
theorem dX4_image_13 : decode cX4_image 13 = .ok (.putfield 242, 3) := by decide +kernel
theorem dX4_image_16 : decode cX4_image 16 = .ok (.aload_n 0, 1) := by decide +kernel
theorem dX4_image_17 : decode cX4_image 17 = .ok (.getfield 41, 3) := by decide +kernel
theorem dX4_image_20 : decode cX4_image 20 = .ok (.getfield 191, 3) := by decide +kernel
theorem dX4_image_23 : decode cX4_image 23 = .ok (.ireturn, 1) := by decide +kernel
theorem dX4_back_0 : decode cX4_back 0 = .ok (.aload_n 0, 1) := by decide +kernel
theorem dX4_back_1 : decode cX4_back 1 = .ok (.getfield 242, 3) := by decide +kernel
theorem dX4_back_4 : decode cX4_back 4 = .ok (.ifCond .ne 6, 3) := by decide +kernel
theorem dX4_back_7 : decode cX4_back 7 = .ok (.bipush (-3), 2) := by decide +kernel
theorem dX4_back_9 : decode cX4_back 9 = .ok (.ireturn, 1) := by decide +kernel
theorem dX4_back_10 : decode cX4_back 10 = .ok (.aload_n 0, 1) := by decide +kernel
theorem dX4_back_11 : decode cX4_back 11 = .ok (.getfield 34, 3) := by decide +kernel
theorem dX4_back_14 : decode cX4_back 14 = .ok (.aload_n 0, 1) := by decide +kernel
theorem dX4_back_15 : decode cX4_back 15 = .ok (.getfield 41, 3) := by decide +kernel
theorem dX4_back_18 : decode cX4_back 18 = .ok (.invokevirtual 163, 3) := by decide +kernel
theorem dX4_back_21 : decode cX4_back 21 = .ok (.aload_n 0, 1) := by decide +kernel
theorem dX4_back_22 : decode cX4_back 22 = .ok (.getfield 34, 3) := by decide +kernel
theorem dX4_back_25 : decode cX4_back 25 = .ok (.getfield 191, 3) := by decide +kernel
theorem dX4_back_28 : decode cX4_back 28 = .ok (.ireturn, 1) := by decide +kernel
theorem dX4_count_0 : decode cX4_count 0 = .ok (.iload_n 1, 1) := by decide +kernel
theorem dX4_count_1 : decode cX4_count 1 = .ok (.tableswitch 91 0 5 #[39, 47, 55, 67, 72, 80], 39) := by decide +kernel
theorem dX4_count_40 : decode cX4_count 40 = .ok (.aload_n 0, 1) := by decide +kernel
theorem dX4_count_41 : decode cX4_count 41 = .ok (.getfield 34, 3) := by decide +kernel
theorem dX4_count_44 : decode cX4_count 44 = .ok (.getfield 191, 3) := by decide +kernel
theorem dX4_count_47 : decode cX4_count 47 = .ok (.ireturn, 1) := by decide +kernel
theorem dX4_count_48 : decode cX4_count 48 = .ok (.aload_n 0, 1) := by decide +kernel
theorem dX4_count_49 : decode cX4_count 49 = .ok (.getfield 34, 3) := by decide +kernel
theorem dX4_count_52 : decode cX4_count 52 = .ok (.invokevirtual 174, 3) := by decide +kernel
theorem dX4_count_55 : decode cX4_count 55 = .ok (.ireturn, 1) := by decide +kernel
theorem dX4_count_56 : decode cX4_count 56 = .ok (.aload_n 0, 1) := by decide +kernel
theorem dX4_count_57 : decode cX4_count 57 = .ok (.getfield 34, 3) := by decide +kernel
theorem dX4_count_60 : decode cX4_count 60 = .ok (.iconst 1, 1) := by decide +kernel
theorem dX4_count_61 : decode cX4_count 61 = .ok (.invokevirtual 150, 3) := by decide +kernel
theorem dX4_count_64 : decode cX4_count 64 = .ok (.invokestatic 194, 3) := by decide +kernel
theorem dX4_count_67 : decode cX4_count 67 = .ok (.ireturn, 1) := by decide +kernel
theorem dX4_count_68 : decode cX4_count 68 = .ok (.aload_n 0, 1) := by decide +kernel
theorem dX4_count_69 : decode cX4_count 69 = .ok (.getfield 18, 3) := by decide +kernel
theorem dX4_count_72 : decode cX4_count 72 = .ok (.ireturn, 1) := by decide +kernel
theorem dX4_count_73 : decode cX4_count 73 = .ok (.aload_n 0, 1) := by decide +kernel
theorem dX4_count_74 : decode cX4_count 74 = .ok (.getfield 25, 3) := by decide +kernel
theorem dX4_count_77 : decode cX4_count 77 = .ok (.getfield 126, 3) := by decide +kernel
theorem dX4_count_80 : decode cX4_count 80 = .ok (.ireturn, 1) := by decide +kernel
theorem dX4_count_81 : decode cX4_count 81 = .ok (.aload_n 0, 1) := by decide +kernel
theorem dX4_count_82 : decode cX4_count 82 = .ok (.getfield 34, 3) := by decide +kernel
theorem dX4_count_85 : decode cX4_count 85 = .ok (.getfield 136, 3) := by decide +kernel
theorem dX4_count_88 : decode cX4_count 88 = .ok (.getfield 140, 3) := by decide +kernel
theorem dX4_count_91 : decode cX4_count 91 = .ok (.ireturn, 1) := by decide +kernel
theorem dX4_count_92 : decode cX4_count 92 = .ok (.bipush (-2), 2) := by decide +kernel
theorem dX4_count_94 : decode cX4_count 94 = .ok (.ireturn, 1) := by decide +kernel
theorem dX4_sheet_0 : decode cX4_sheet 0 = .ok (.iload_n 1, 1) := by decide +kernel
theorem dX4_sheet_1 : decode cX4_sheet 1 = .ok (.invokestatic 209, 3) := by decide +kernel
theorem dX4_sheet_4 : decode cX4_sheet 4 = .ok (.ifCond .eq 12, 3) := by decide +kernel
theorem dX4_sheet_7 : decode cX4_sheet 7 = .ok (.iload_n 2, 1) := by decide +kernel
theorem dX4_sheet_8 : decode cX4_sheet 8 = .ok (.iconst (-1), 1) := by decide +kernel
theorem dX4_sheet_9 : decode cX4_sheet 9 = .ok (.iconst 2, 1) := by decide +kernel
theorem dX4_sheet_10 : decode cX4_sheet 10 = .ok (.invokestatic 55, 3) := by decide +kernel
theorem dX4_sheet_13 : decode cX4_sheet 13 = .ok (.ifCond .ne 6, 3) := by decide +kernel
theorem dX4_sheet_16 : decode cX4_sheet 16 = .ok (.bipush (-2), 2) := by decide +kernel
theorem dX4_sheet_18 : decode cX4_sheet 18 = .ok (.ireturn, 1) := by decide +kernel
theorem dX4_sheet_19 : decode cX4_sheet 19 = .ok (.iload_n 2, 1) := by decide +kernel
theorem dX4_sheet_20 : decode cX4_sheet 20 = .ok (.iconst (-1), 1) := by decide +kernel
theorem dX4_sheet_21 : decode cX4_sheet 21 = .ok (.if_icmp .ne 16, 3) := by decide +kernel
theorem dX4_sheet_24 : decode cX4_sheet 24 = .ok (.aload_n 0, 1) := by decide +kernel
theorem dX4_sheet_25 : decode cX4_sheet 25 = .ok (.getfield 46, 3) := by decide +kernel
theorem dX4_sheet_28 : decode cX4_sheet 28 = .ok (.iload_n 1, 1) := by decide +kernel
theorem dX4_sheet_29 : decode cX4_sheet 29 = .ok (.aaload, 1) := by decide +kernel
theorem dX4_sheet_30 : decode cX4_sheet 30 = .ok (.iconst (-1), 1) := by decide +kernel
theorem dX4_sheet_31 : decode cX4_sheet 31 = .ok (.iconst 0, 1) := by decide +kernel
theorem dX4_sheet_32 : decode cX4_sheet 32 = .ok (.invokevirtual 233, 3) := by decide +kernel
theorem dX4_sheet_35 : decode cX4_sheet 35 = .ok (.iconst 1, 1) := by decide +kernel
theorem dX4_sheet_36 : decode cX4_sheet 36 = .ok (.ireturn, 1) := by decide +kernel
theorem dX4_sheet_37 : decode cX4_sheet 37 = .ok (.iload_n 3, 1) := by decide +kernel
theorem dX4_sheet_38 : decode cX4_sheet 38 = .ok (.bipush 40, 2) := by decide +kernel
theorem dX4_sheet_40 : decode cX4_sheet 40 = .ok (.if_icmp .le 6, 3) := by decide +kernel
theorem dX4_sheet_43 : decode cX4_sheet 43 = .ok (.bipush (-2), 2) := by decide +kernel
theorem dX4_sheet_45 : decode cX4_sheet 45 = .ok (.ireturn, 1) := by decide +kernel
theorem dX4_sheet_46 : decode cX4_sheet 46 = .ok (.iload_n 3, 1) := by decide +kernel
theorem dX4_sheet_47 : decode cX4_sheet 47 = .ok (.ifCond .ge 6, 3) := by decide +kernel
theorem dX4_sheet_50 : decode cX4_sheet 50 = .ok (.bipush (-14), 2) := by decide +kernel
theorem dX4_sheet_52 : decode cX4_sheet 52 = .ok (.ireturn, 1) := by decide +kernel
theorem dX4_sheet_53 : decode cX4_sheet 53 = .ok (.aload_n 0, 1) := by decide +kernel
theorem dX4_sheet_54 : decode cX4_sheet 54 = .ok (.getfield 46, 3) := by decide +kernel
theorem dX4_sheet_57 : decode cX4_sheet 57 = .ok (.iload_n 1, 1) := by decide +kernel
theorem dX4_sheet_58 : decode cX4_sheet 58 = .ok (.aaload, 1) := by decide +kernel
theorem dX4_sheet_59 : decode cX4_sheet 59 = .ok (.iload_n 2, 1) := by decide +kernel
theorem dX4_sheet_60 : decode cX4_sheet 60 = .ok (.iload_n 3, 1) := by decide +kernel
theorem dX4_sheet_61 : decode cX4_sheet 61 = .ok (.invokevirtual 233, 3) := by decide +kernel
theorem dX4_sheet_64 : decode cX4_sheet 64 = .ok (.iconst 1, 1) := by decide +kernel
theorem dX4_sheet_65 : decode cX4_sheet 65 = .ok (.ireturn, 1) := by decide +kernel
theorem dX4_cell_0 : decode cX4_cell 0 = .ok (.iload_n 1, 1) := by decide +kernel
theorem dX4_cell_1 : decode cX4_cell 1 = .ok (.invokestatic 209, 3) := by decide +kernel
theorem dX4_cell_4 : decode cX4_cell 4 = .ok (.ifCond .ne 6, 3) := by decide +kernel
theorem dX4_cell_7 : decode cX4_cell 7 = .ok (.bipush (-2), 2) := by decide +kernel
theorem dX4_cell_9 : decode cX4_cell 9 = .ok (.ireturn, 1) := by decide +kernel
theorem dX4_cell_10 : decode cX4_cell 10 = .ok (.aload_n 0, 1) := by decide +kernel
theorem dX4_cell_11 : decode cX4_cell 11 = .ok (.getfield 46, 3) := by decide +kernel
theorem dX4_cell_14 : decode cX4_cell 14 = .ok (.iload_n 1, 1) := by decide +kernel
theorem dX4_cell_15 : decode cX4_cell 15 = .ok (.aaload, 1) := by decide +kernel
theorem dX4_cell_16 : decode cX4_cell 16 = .ok (.astore 4, 2) := by decide +kernel
theorem dX4_cell_18 : decode cX4_cell 18 = .ok (.aload 4, 2) := by decide +kernel
theorem dX4_cell_20 : decode cX4_cell 20 = .ok (.invokevirtual 212, 3) := by decide +kernel
theorem dX4_cell_23 : decode cX4_cell 23 = .ok (.ifCond .eq 6, 3) := by decide +kernel
theorem dX4_cell_26 : decode cX4_cell 26 = .ok (.bipush (-11), 2) := by decide +kernel
theorem dX4_cell_28 : decode cX4_cell 28 = .ok (.ireturn, 1) := by decide +kernel
theorem dX4_cell_29 : decode cX4_cell 29 = .ok (.aload 4, 2) := by decide +kernel
theorem dX4_cell_31 : decode cX4_cell 31 = .ok (.iload_n 2, 1) := by decide +kernel
theorem dX4_cell_32 : decode cX4_cell 32 = .ok (.iconst 1, 1) := by decide +kernel
theorem dX4_cell_33 : decode cX4_cell 33 = .ok (.invokevirtual 246, 3) := by decide +kernel
theorem dX4_cell_36 : decode cX4_cell 36 = .ok (.ifCond .ne 6, 3) := by decide +kernel
theorem dX4_cell_39 : decode cX4_cell 39 = .ok (.bipush (-12), 2) := by decide +kernel
theorem dX4_cell_41 : decode cX4_cell 41 = .ok (.ireturn, 1) := by decide +kernel
theorem dX4_cell_42 : decode cX4_cell 42 = .ok (.aload 4, 2) := by decide +kernel
theorem dX4_cell_44 : decode cX4_cell 44 = .ok (.iload_n 2, 1) := by decide +kernel
theorem dX4_cell_45 : decode cX4_cell 45 = .ok (.iload_n 3, 1) := by decide +kernel
theorem dX4_cell_46 : decode cX4_cell 46 = .ok (.invokevirtual 235, 3) := by decide +kernel
theorem dX4_cell_49 : decode cX4_cell 49 = .ok (.iconst 1, 1) := by decide +kernel
theorem dX4_cell_50 : decode cX4_cell 50 = .ok (.ireturn, 1) := by decide +kernel
theorem dX4_copy_0 : decode cX4_copy 0 = .ok (.iload_n 1, 1) := by decide +kernel
theorem dX4_copy_1 : decode cX4_copy 1 = .ok (.invokestatic 209, 3) := by decide +kernel
theorem dX4_copy_4 : decode cX4_copy 4 = .ok (.ifCond .eq 10, 3) := by decide +kernel
theorem dX4_copy_7 : decode cX4_copy 7 = .ok (.iload_n 3, 1) := by decide +kernel
theorem dX4_copy_8 : decode cX4_copy 8 = .ok (.invokestatic 209, 3) := by decide +kernel
theorem dX4_copy_11 : decode cX4_copy 11 = .ok (.ifCond .ne 6, 3) := by decide +kernel
theorem dX4_copy_14 : decode cX4_copy 14 = .ok (.bipush (-2), 2) := by decide +kernel
theorem dX4_copy_16 : decode cX4_copy 16 = .ok (.ireturn, 1) := by decide +kernel
theorem dX4_copy_17 : decode cX4_copy 17 = .ok (.aload_n 0, 1) := by decide +kernel
theorem dX4_copy_18 : decode cX4_copy 18 = .ok (.getfield 46, 3) := by decide +kernel
theorem dX4_copy_21 : decode cX4_copy 21 = .ok (.iload_n 1, 1) := by decide +kernel
theorem dX4_copy_22 : decode cX4_copy 22 = .ok (.aaload, 1) := by decide +kernel
theorem dX4_copy_23 : decode cX4_copy 23 = .ok (.astore 6, 2) := by decide +kernel
theorem dX4_copy_25 : decode cX4_copy 25 = .ok (.aload_n 0, 1) := by decide +kernel
theorem dX4_copy_26 : decode cX4_copy 26 = .ok (.getfield 46, 3) := by decide +kernel
theorem dX4_copy_29 : decode cX4_copy 29 = .ok (.iload_n 3, 1) := by decide +kernel
theorem dX4_copy_30 : decode cX4_copy 30 = .ok (.aaload, 1) := by decide +kernel
theorem dX4_copy_31 : decode cX4_copy 31 = .ok (.astore 7, 2) := by decide +kernel
theorem dX4_copy_33 : decode cX4_copy 33 = .ok (.aload 6, 2) := by decide +kernel
theorem dX4_copy_35 : decode cX4_copy 35 = .ok (.invokevirtual 212, 3) := by decide +kernel
theorem dX4_copy_38 : decode cX4_copy 38 = .ok (.ifCond .ne 11, 3) := by decide +kernel
theorem dX4_copy_41 : decode cX4_copy 41 = .ok (.aload 7, 2) := by decide +kernel
theorem dX4_copy_43 : decode cX4_copy 43 = .ok (.invokevirtual 212, 3) := by decide +kernel
theorem dX4_copy_46 : decode cX4_copy 46 = .ok (.ifCond .eq 6, 3) := by decide +kernel
theorem dX4_copy_49 : decode cX4_copy 49 = .ok (.bipush (-11), 2) := by decide +kernel
theorem dX4_copy_51 : decode cX4_copy 51 = .ok (.ireturn, 1) := by decide +kernel
theorem dX4_copy_52 : decode cX4_copy 52 = .ok (.aload 6, 2) := by decide +kernel
theorem dX4_copy_54 : decode cX4_copy 54 = .ok (.getfield 249, 3) := by decide +kernel
theorem dX4_copy_57 : decode cX4_copy 57 = .ok (.aload 7, 2) := by decide +kernel
theorem dX4_copy_59 : decode cX4_copy 59 = .ok (.getfield 249, 3) := by decide +kernel
theorem dX4_copy_62 : decode cX4_copy 62 = .ok (.if_icmp .eq 6, 3) := by decide +kernel
theorem dX4_copy_65 : decode cX4_copy 65 = .ok (.bipush (-13), 2) := by decide +kernel
theorem dX4_copy_67 : decode cX4_copy 67 = .ok (.ireturn, 1) := by decide +kernel
theorem dX4_copy_68 : decode cX4_copy 68 = .ok (.aload 6, 2) := by decide +kernel
theorem dX4_copy_70 : decode cX4_copy 70 = .ok (.iload_n 2, 1) := by decide +kernel
theorem dX4_copy_71 : decode cX4_copy 71 = .ok (.iload 5, 2) := by decide +kernel
theorem dX4_copy_73 : decode cX4_copy 73 = .ok (.invokevirtual 246, 3) := by decide +kernel
theorem dX4_copy_76 : decode cX4_copy 76 = .ok (.ifCond .eq 15, 3) := by decide +kernel
theorem dX4_copy_79 : decode cX4_copy 79 = .ok (.aload 7, 2) := by decide +kernel
theorem dX4_copy_81 : decode cX4_copy 81 = .ok (.iload 4, 2) := by decide +kernel
theorem dX4_copy_83 : decode cX4_copy 83 = .ok (.iload 5, 2) := by decide +kernel
theorem dX4_copy_85 : decode cX4_copy 85 = .ok (.invokevirtual 246, 3) := by decide +kernel
theorem dX4_copy_88 : decode cX4_copy 88 = .ok (.ifCond .ne 6, 3) := by decide +kernel
theorem dX4_copy_91 : decode cX4_copy 91 = .ok (.bipush (-12), 2) := by decide +kernel
theorem dX4_copy_93 : decode cX4_copy 93 = .ok (.ireturn, 1) := by decide +kernel
theorem dX4_copy_94 : decode cX4_copy 94 = .ok (.aload 6, 2) := by decide +kernel
theorem dX4_copy_96 : decode cX4_copy 96 = .ok (.getfield 230, 3) := by decide +kernel
theorem dX4_copy_99 : decode cX4_copy 99 = .ok (.iload_n 2, 1) := by decide +kernel
theorem dX4_copy_100 : decode cX4_copy 100 = .ok (.aload 7, 2) := by decide +kernel
theorem dX4_copy_102 : decode cX4_copy 102 = .ok (.getfield 230, 3) := by decide +kernel
theorem dX4_copy_105 : decode cX4_copy 105 = .ok (.iload 4, 2) := by decide +kernel
theorem dX4_copy_107 : decode cX4_copy 107 = .ok (.iload 5, 2) := by decide +kernel
theorem dX4_copy_109 : decode cX4_copy 109 = .ok (.invokestatic 252, 3) := by decide +kernel
theorem dX4_copy_112 : decode cX4_copy 112 = .ok (.iload 5, 2) := by decide +kernel
theorem dX4_copy_114 : decode cX4_copy 114 = .ok (.ireturn, 1) := by decide +kernel
theorem dX4_gang_0 : decode cX4_gang 0 = .ok (.iload_n 1, 1) := by decide +kernel
theorem dX4_gang_1 : decode cX4_gang 1 = .ok (.invokestatic 209, 3) := by decide +kernel
theorem dX4_gang_4 : decode cX4_gang 4 = .ok (.ifCond .eq 22, 3) := by decide +kernel
theorem dX4_gang_7 : decode cX4_gang 7 = .ok (.iload_n 2, 1) := by decide +kernel
theorem dX4_gang_8 : decode cX4_gang 8 = .ok (.iconst 0, 1) := by decide +kernel
theorem dX4_gang_9 : decode cX4_gang 9 = .ok (.iconst 2, 1) := by decide +kernel
theorem dX4_gang_10 : decode cX4_gang 10 = .ok (.invokestatic 55, 3) := by decide +kernel
theorem dX4_gang_13 : decode cX4_gang 13 = .ok (.ifCond .eq 13, 3) := by decide +kernel
theorem dX4_gang_16 : decode cX4_gang 16 = .ok (.iload 4, 2) := by decide +kernel
theorem dX4_gang_18 : decode cX4_gang 18 = .ok (.iconst 0, 1) := by decide +kernel
theorem dX4_gang_19 : decode cX4_gang 19 = .ok (.iconst 5, 1) := by decide +kernel
theorem dX4_gang_20 : decode cX4_gang 20 = .ok (.invokestatic 55, 3) := by decide +kernel
theorem dX4_gang_23 : decode cX4_gang 23 = .ok (.ifCond .ne 6, 3) := by decide +kernel
theorem dX4_gang_26 : decode cX4_gang 26 = .ok (.bipush (-2), 2) := by decide +kernel
theorem dX4_gang_28 : decode cX4_gang 28 = .ok (.ireturn, 1) := by decide +kernel
theorem dX4_gang_29 : decode cX4_gang 29 = .ok (.aload_n 0, 1) := by decide +kernel
theorem dX4_gang_30 : decode cX4_gang 30 = .ok (.getfield 46, 3) := by decide +kernel
theorem dX4_gang_33 : decode cX4_gang 33 = .ok (.iload_n 1, 1) := by decide +kernel
theorem dX4_gang_34 : decode cX4_gang 34 = .ok (.aaload, 1) := by decide +kernel
theorem dX4_gang_35 : decode cX4_gang 35 = .ok (.astore 5, 2) := by decide +kernel
theorem dX4_gang_37 : decode cX4_gang 37 = .ok (.aload 5, 2) := by decide +kernel
theorem dX4_gang_39 : decode cX4_gang 39 = .ok (.invokevirtual 212, 3) := by decide +kernel
theorem dX4_gang_42 : decode cX4_gang 42 = .ok (.ifCond .eq 6, 3) := by decide +kernel
theorem dX4_gang_45 : decode cX4_gang 45 = .ok (.bipush (-11), 2) := by decide +kernel
theorem dX4_gang_47 : decode cX4_gang 47 = .ok (.ireturn, 1) := by decide +kernel
theorem dX4_gang_48 : decode cX4_gang 48 = .ok (.aload 5, 2) := by decide +kernel
theorem dX4_gang_50 : decode cX4_gang 50 = .ok (.getfield 249, 3) := by decide +kernel
theorem dX4_gang_53 : decode cX4_gang 53 = .ok (.iload_n 2, 1) := by decide +kernel
theorem dX4_gang_54 : decode cX4_gang 54 = .ok (.if_icmp .eq 6, 3) := by decide +kernel
theorem dX4_gang_57 : decode cX4_gang 57 = .ok (.bipush (-13), 2) := by decide +kernel
theorem dX4_gang_59 : decode cX4_gang 59 = .ok (.ireturn, 1) := by decide +kernel
theorem dX4_gang_60 : decode cX4_gang 60 = .ok (.iconst 0, 1) := by decide +kernel
theorem dX4_gang_61 : decode cX4_gang 61 = .ok (.istore 6, 2) := by decide +kernel
theorem dX4_gang_63 : decode cX4_gang 63 = .ok (.iload_n 3, 1) := by decide +kernel
theorem dX4_gang_64 : decode cX4_gang 64 = .ok (.istore 7, 2) := by decide +kernel
theorem dX4_gang_66 : decode cX4_gang 66 = .ok (.iconst 0, 1) := by decide +kernel
theorem dX4_gang_67 : decode cX4_gang 67 = .ok (.istore 8, 2) := by decide +kernel
theorem dX4_gang_69 : decode cX4_gang 69 = .ok (.iload 8, 2) := by decide +kernel
theorem dX4_gang_71 : decode cX4_gang 71 = .ok (.iload 4, 2) := by decide +kernel
theorem dX4_gang_73 : decode cX4_gang 73 = .ok (.if_icmp .ge 64, 3) := by decide +kernel
theorem dX4_gang_76 : decode cX4_gang 76 = .ok (.aload 5, 2) := by decide +kernel
theorem dX4_gang_78 : decode cX4_gang 78 = .ok (.iload 7, 2) := by decide +kernel
theorem dX4_gang_80 : decode cX4_gang 80 = .ok (.iconst 3, 1) := by decide +kernel
theorem dX4_gang_81 : decode cX4_gang 81 = .ok (.invokevirtual 246, 3) := by decide +kernel
theorem dX4_gang_84 : decode cX4_gang 84 = .ok (.ifCond .ne 6, 3) := by decide +kernel
theorem dX4_gang_87 : decode cX4_gang 87 = .ok (.bipush (-12), 2) := by decide +kernel
theorem dX4_gang_89 : decode cX4_gang 89 = .ok (.ireturn, 1) := by decide +kernel
theorem dX4_gang_90 : decode cX4_gang 90 = .ok (.aload_n 0, 1) := by decide +kernel
theorem dX4_gang_91 : decode cX4_gang 91 = .ok (.aload 5, 2) := by decide +kernel
theorem dX4_gang_93 : decode cX4_gang 93 = .ok (.getfield 230, 3) := by decide +kernel
theorem dX4_gang_96 : decode cX4_gang 96 = .ok (.iload 7, 2) := by decide +kernel
theorem dX4_gang_98 : decode cX4_gang 98 = .ok (.iaload, 1) := by decide +kernel
theorem dX4_gang_99 : decode cX4_gang 99 = .ok (.aload 5, 2) := by decide +kernel
theorem dX4_gang_101 : decode cX4_gang 101 = .ok (.getfield 230, 3) := by decide +kernel
theorem dX4_gang_104 : decode cX4_gang 104 = .ok (.iload 7, 2) := by decide +kernel
theorem dX4_gang_106 : decode cX4_gang 106 = .ok (.iconst 1, 1) := by decide +kernel
theorem dX4_gang_107 : decode cX4_gang 107 = .ok (.iadd, 1) := by decide +kernel
theorem dX4_gang_108 : decode cX4_gang 108 = .ok (.iaload, 1) := by decide +kernel
theorem dX4_gang_109 : decode cX4_gang 109 = .ok (.aload 5, 2) := by decide +kernel
theorem dX4_gang_111 : decode cX4_gang 111 = .ok (.getfield 230, 3) := by decide +kernel
theorem dX4_gang_114 : decode cX4_gang 114 = .ok (.iload 7, 2) := by decide +kernel
theorem dX4_gang_116 : decode cX4_gang 116 = .ok (.iconst 2, 1) := by decide +kernel
theorem dX4_gang_117 : decode cX4_gang 117 = .ok (.iadd, 1) := by decide +kernel
theorem dX4_gang_118 : decode cX4_gang 118 = .ok (.iaload, 1) := by decide +kernel
theorem dX4_gang_119 : decode cX4_gang 119 = .ok (.invokevirtual 258, 3) := by decide +kernel
theorem dX4_gang_122 : decode cX4_gang 122 = .ok (.ifCond .lt 6, 3) := by decide +kernel
theorem dX4_gang_125 : decode cX4_gang 125 = .ok (.iinc 6 1, 3) := by decide +kernel
theorem dX4_gang_128 : decode cX4_gang 128 = .ok (.iinc 7 3, 3) := by decide +kernel
theorem dX4_gang_131 : decode cX4_gang 131 = .ok (.iinc 8 1, 3) := by decide +kernel
theorem dX4_gang_134 : decode cX4_gang 134 = .ok (.goto (-65), 3) := by decide +kernel
theorem dX4_gang_137 : decode cX4_gang 137 = .ok (.iload 6, 2) := by decide +kernel
theorem dX4_gang_139 : decode cX4_gang 139 = .ok (.ireturn, 1) := by decide +kernel
theorem dX4_taken_0 : decode cX4_taken 0 = .ok (.iload_n 2, 1) := by decide +kernel
theorem dX4_taken_1 : decode cX4_taken 1 = .ok (.iconst 0, 1) := by decide +kernel
theorem dX4_taken_2 : decode cX4_taken 2 = .ok (.iconst 5, 1) := by decide +kernel
theorem dX4_taken_3 : decode cX4_taken 3 = .ok (.invokestatic 55, 3) := by decide +kernel
theorem dX4_taken_6 : decode cX4_taken 6 = .ok (.ifCond .ne 6, 3) := by decide +kernel
theorem dX4_taken_9 : decode cX4_taken 9 = .ok (.bipush (-2), 2) := by decide +kernel
theorem dX4_taken_11 : decode cX4_taken 11 = .ok (.ireturn, 1) := by decide +kernel
theorem dX4_taken_12 : decode cX4_taken 12 = .ok (.aload_n 0, 1) := by decide +kernel
theorem dX4_taken_13 : decode cX4_taken 13 = .ok (.getfield 34, 3) := by decide +kernel
theorem dX4_taken_16 : decode cX4_taken 16 = .ok (.iload_n 1, 1) := by decide +kernel
theorem dX4_taken_17 : decode cX4_taken 17 = .ok (.invokevirtual 92, 3) := by decide +kernel
theorem dX4_taken_20 : decode cX4_taken 20 = .ok (.ifCond .ne 6, 3) := by decide +kernel
theorem dX4_taken_23 : decode cX4_taken 23 = .ok (.bipush (-11), 2) := by decide +kernel
theorem dX4_taken_25 : decode cX4_taken 25 = .ok (.ireturn, 1) := by decide +kernel
theorem dX4_taken_26 : decode cX4_taken 26 = .ok (.aload_n 0, 1) := by decide +kernel
theorem dX4_taken_27 : decode cX4_taken 27 = .ok (.getfield 34, 3) := by decide +kernel
theorem dX4_taken_30 : decode cX4_taken 30 = .ok (.getfield 105, 3) := by decide +kernel
theorem dX4_taken_33 : decode cX4_taken 33 = .ok (.iload_n 1, 1) := by decide +kernel
theorem dX4_taken_34 : decode cX4_taken 34 = .ok (.iaload, 1) := by decide +kernel
theorem dX4_taken_35 : decode cX4_taken 35 = .ok (.istore_n 3, 1) := by decide +kernel
theorem dX4_taken_36 : decode cX4_taken 36 = .ok (.iconst 0, 1) := by decide +kernel
theorem dX4_taken_37 : decode cX4_taken 37 = .ok (.istore 4, 2) := by decide +kernel
theorem dX4_taken_39 : decode cX4_taken 39 = .ok (.iload 4, 2) := by decide +kernel
theorem dX4_taken_41 : decode cX4_taken 41 = .ok (.bipush 6, 2) := by decide +kernel
theorem dX4_taken_43 : decode cX4_taken 43 = .ok (.if_icmp .ge 39, 3) := by decide +kernel
theorem dX4_taken_46 : decode cX4_taken 46 = .ok (.iload_n 3, 1) := by decide +kernel
theorem dX4_taken_47 : decode cX4_taken 47 = .ok (.iconst 0, 1) := by decide +kernel
theorem dX4_taken_48 : decode cX4_taken 48 = .ok (.iconst 5, 1) := by decide +kernel
theorem dX4_taken_49 : decode cX4_taken 49 = .ok (.invokestatic 55, 3) := by decide +kernel
theorem dX4_taken_52 : decode cX4_taken 52 = .ok (.ifCond .eq 30, 3) := by decide +kernel
theorem dX4_taken_55 : decode cX4_taken 55 = .ok (.iload_n 3, 1) := by decide +kernel
theorem dX4_taken_56 : decode cX4_taken 56 = .ok (.iload_n 2, 1) := by decide +kernel
theorem dX4_taken_57 : decode cX4_taken 57 = .ok (.if_icmp .ne 13, 3) := by decide +kernel
theorem dX4_taken_60 : decode cX4_taken 60 = .ok (.aload_n 0, 1) := by decide +kernel
theorem dX4_taken_61 : decode cX4_taken 61 = .ok (.getfield 34, 3) := by decide +kernel
theorem dX4_taken_64 : decode cX4_taken 64 = .ok (.getfield 75, 3) := by decide +kernel
theorem dX4_taken_67 : decode cX4_taken 67 = .ok (.iload_n 1, 1) := by decide +kernel
theorem dX4_taken_68 : decode cX4_taken 68 = .ok (.iaload, 1) := by decide +kernel
theorem dX4_taken_69 : decode cX4_taken 69 = .ok (.ireturn, 1) := by decide +kernel
theorem dX4_taken_70 : decode cX4_taken 70 = .ok (.getstatic 261, 3) := by decide +kernel
theorem dX4_taken_73 : decode cX4_taken 73 = .ok (.iload_n 3, 1) := by decide +kernel
theorem dX4_taken_74 : decode cX4_taken 74 = .ok (.iaload, 1) := by decide +kernel
theorem dX4_taken_75 : decode cX4_taken 75 = .ok (.istore_n 3, 1) := by decide +kernel
theorem dX4_taken_76 : decode cX4_taken 76 = .ok (.iinc 4 1, 3) := by decide +kernel
theorem dX4_taken_79 : decode cX4_taken 79 = .ok (.goto (-40), 3) := by decide +kernel
theorem dX4_taken_82 : decode cX4_taken 82 = .ok (.bipush (-13), 2) := by decide +kernel
theorem dX4_taken_84 : decode cX4_taken 84 = .ok (.ireturn, 1) := by decide +kernel
theorem dX4_within_0 : decode cX4_within 0 = .ok (.iload_n 0, 1) := by decide +kernel
theorem dX4_within_1 : decode cX4_within 1 = .ok (.iload_n 1, 1) := by decide +kernel
theorem dX4_within_2 : decode cX4_within 2 = .ok (.if_icmp .lt 12, 3) := by decide +kernel
theorem dX4_within_5 : decode cX4_within 5 = .ok (.iload_n 0, 1) := by decide +kernel
theorem dX4_within_6 : decode cX4_within 6 = .ok (.iload_n 2, 1) := by decide +kernel
theorem dX4_within_7 : decode cX4_within 7 = .ok (.if_icmp .gt 7, 3) := by decide +kernel
theorem dX4_within_10 : decode cX4_within 10 = .ok (.iconst 1, 1) := by decide +kernel
theorem dX4_within_11 : decode cX4_within 11 = .ok (.goto 4, 3) := by decide +kernel
theorem dX4_within_14 : decode cX4_within 14 = .ok (.iconst 0, 1) := by decide +kernel
theorem dX4_within_15 : decode cX4_within 15 = .ok (.ireturn, 1) := by decide +kernel
theorem dX4_isPart_0 : decode cX4_isPart 0 = .ok (.iload_n 0, 1) := by decide +kernel
theorem dX4_isPart_1 : decode cX4_isPart 1 = .ok (.iconst 0, 1) := by decide +kernel
theorem dX4_isPart_2 : decode cX4_isPart 2 = .ok (.bipush 9, 2) := by decide +kernel
theorem dX4_isPart_4 : decode cX4_isPart 4 = .ok (.invokestatic 55, 3) := by decide +kernel
theorem dX4_isPart_7 : decode cX4_isPart 7 = .ok (.ireturn, 1) := by decide +kernel
theorem dX4_isUnder_0 : decode cX4_isUnder 0 = .ok (.iload_n 0, 1) := by decide +kernel
theorem dX4_isUnder_1 : decode cX4_isUnder 1 = .ok (.iconst 2, 1) := by decide +kernel
theorem dX4_isUnder_2 : decode cX4_isUnder 2 = .ok (.irem, 1) := by decide +kernel
theorem dX4_isUnder_3 : decode cX4_isUnder 3 = .ok (.ifCond .ne 7, 3) := by decide +kernel
theorem dX4_isUnder_6 : decode cX4_isUnder 6 = .ok (.iconst 1, 1) := by decide +kernel
theorem dX4_isUnder_7 : decode cX4_isUnder 7 = .ok (.goto 4, 3) := by decide +kernel
theorem dX4_isUnder_10 : decode cX4_isUnder 10 = .ok (.iconst 0, 1) := by decide +kernel
theorem dX4_isUnder_11 : decode cX4_isUnder 11 = .ok (.ireturn, 1) := by decide +kernel
theorem dX4_isSheet_0 : decode cX4_isSheet 0 = .ok (.iload_n 0, 1) := by decide +kernel
theorem dX4_isSheet_1 : decode cX4_isSheet 1 = .ok (.iconst 0, 1) := by decide +kernel
theorem dX4_isSheet_2 : decode cX4_isSheet 2 = .ok (.iconst 3, 1) := by decide +kernel
theorem dX4_isSheet_3 : decode cX4_isSheet 3 = .ok (.invokestatic 55, 3) := by decide +kernel
theorem dX4_isSheet_6 : decode cX4_isSheet 6 = .ok (.ireturn, 1) := by decide +kernel
theorem dX4_isText_0 : decode cX4_isText 0 = .ok (.iload_n 1, 1) := by decide +kernel
theorem dX4_isText_1 : decode cX4_isText 1 = .ok (.iconst 0, 1) := by decide +kernel
theorem dX4_isText_2 : decode cX4_isText 2 = .ok (.aload_n 0, 1) := by decide +kernel
theorem dX4_isText_3 : decode cX4_isText 3 = .ok (.getfield 18, 3) := by decide +kernel
theorem dX4_isText_6 : decode cX4_isText 6 = .ok (.iconst 1, 1) := by decide +kernel
theorem dX4_isText_7 : decode cX4_isText 7 = .ok (.isub, 1) := by decide +kernel
theorem dX4_isText_8 : decode cX4_isText 8 = .ok (.invokestatic 55, 3) := by decide +kernel
theorem dX4_isText_11 : decode cX4_isText 11 = .ok (.ireturn, 1) := by decide +kernel
theorem dX4_lowestTerms_0 : decode cX4_lowestTerms 0 = .ok (.iconst 1, 1) := by decide +kernel
theorem dX4_lowestTerms_1 : decode cX4_lowestTerms 1 = .ok (.istore_n 3, 1) := by decide +kernel
theorem dX4_lowestTerms_2 : decode cX4_lowestTerms 2 = .ok (.iconst 2, 1) := by decide +kernel
theorem dX4_lowestTerms_3 : decode cX4_lowestTerms 3 = .ok (.istore 4, 2) := by decide +kernel
theorem dX4_lowestTerms_5 : decode cX4_lowestTerms 5 = .ok (.iload 4, 2) := by decide +kernel
theorem dX4_lowestTerms_7 : decode cX4_lowestTerms 7 = .ok (.iload_n 1, 1) := by decide +kernel
theorem dX4_lowestTerms_8 : decode cX4_lowestTerms 8 = .ok (.if_icmp .gt 26, 3) := by decide +kernel
theorem dX4_lowestTerms_11 : decode cX4_lowestTerms 11 = .ok (.iload_n 0, 1) := by decide +kernel
theorem dX4_lowestTerms_12 : decode cX4_lowestTerms 12 = .ok (.iload 4, 2) := by decide +kernel
theorem dX4_lowestTerms_14 : decode cX4_lowestTerms 14 = .ok (.irem, 1) := by decide +kernel
theorem dX4_lowestTerms_15 : decode cX4_lowestTerms 15 = .ok (.ifCond .ne 13, 3) := by decide +kernel
theorem dX4_lowestTerms_18 : decode cX4_lowestTerms 18 = .ok (.iload_n 1, 1) := by decide +kernel
theorem dX4_lowestTerms_19 : decode cX4_lowestTerms 19 = .ok (.iload 4, 2) := by decide +kernel
theorem dX4_lowestTerms_21 : decode cX4_lowestTerms 21 = .ok (.irem, 1) := by decide +kernel
theorem dX4_lowestTerms_22 : decode cX4_lowestTerms 22 = .ok (.ifCond .ne 6, 3) := by decide +kernel
theorem dX4_lowestTerms_25 : decode cX4_lowestTerms 25 = .ok (.iload 4, 2) := by decide +kernel
theorem dX4_lowestTerms_27 : decode cX4_lowestTerms 27 = .ok (.istore_n 3, 1) := by decide +kernel
theorem dX4_lowestTerms_28 : decode cX4_lowestTerms 28 = .ok (.iinc 4 1, 3) := by decide +kernel
theorem dX4_lowestTerms_31 : decode cX4_lowestTerms 31 = .ok (.goto (-26), 3) := by decide +kernel
theorem dX4_lowestTerms_34 : decode cX4_lowestTerms 34 = .ok (.iload_n 2, 1) := by decide +kernel
theorem dX4_lowestTerms_35 : decode cX4_lowestTerms 35 = .ok (.ifCond .ne 10, 3) := by decide +kernel
theorem dX4_lowestTerms_38 : decode cX4_lowestTerms 38 = .ok (.iload_n 0, 1) := by decide +kernel
theorem dX4_lowestTerms_39 : decode cX4_lowestTerms 39 = .ok (.iload_n 3, 1) := by decide +kernel
theorem dX4_lowestTerms_40 : decode cX4_lowestTerms 40 = .ok (.idiv, 1) := by decide +kernel
theorem dX4_lowestTerms_41 : decode cX4_lowestTerms 41 = .ok (.i2l, 1) := by decide +kernel
theorem dX4_lowestTerms_42 : decode cX4_lowestTerms 42 = .ok (.goto 7, 3) := by decide +kernel
theorem dX4_lowestTerms_45 : decode cX4_lowestTerms 45 = .ok (.iload_n 1, 1) := by decide +kernel
theorem dX4_lowestTerms_46 : decode cX4_lowestTerms 46 = .ok (.iload_n 3, 1) := by decide +kernel
theorem dX4_lowestTerms_47 : decode cX4_lowestTerms 47 = .ok (.idiv, 1) := by decide +kernel
theorem dX4_lowestTerms_48 : decode cX4_lowestTerms 48 = .ok (.i2l, 1) := by decide +kernel
theorem dX4_lowestTerms_49 : decode cX4_lowestTerms 49 = .ok (.lreturn, 1) := by decide +kernel
theorem dJ6_bitCount_0f7a4_0 : decode cJ6_bitCount_0f7a4 0 = .ok (.iload_n 0, 1) := by decide +kernel
theorem dJ6_bitCount_0f7a4_1 : decode cJ6_bitCount_0f7a4 1 = .ok (.iload_n 0, 1) := by decide +kernel
theorem dJ6_bitCount_0f7a4_2 : decode cJ6_bitCount_0f7a4 2 = .ok (.iconst 1, 1) := by decide +kernel
theorem dJ6_bitCount_0f7a4_3 : decode cJ6_bitCount_0f7a4 3 = .ok (.iushr, 1) := by decide +kernel
theorem dJ6_bitCount_0f7a4_4 : decode cJ6_bitCount_0f7a4 4 = .ok (.ldc_w 265, 3) := by decide +kernel
theorem dJ6_bitCount_0f7a4_7 : decode cJ6_bitCount_0f7a4 7 = .ok (.iand, 1) := by decide +kernel
theorem dJ6_bitCount_0f7a4_8 : decode cJ6_bitCount_0f7a4 8 = .ok (.isub, 1) := by decide +kernel
theorem dJ6_bitCount_0f7a4_9 : decode cJ6_bitCount_0f7a4 9 = .ok (.istore_n 0, 1) := by decide +kernel
theorem dJ6_bitCount_0f7a4_10 : decode cJ6_bitCount_0f7a4 10 = .ok (.iload_n 0, 1) := by decide +kernel
theorem dJ6_bitCount_0f7a4_11 : decode cJ6_bitCount_0f7a4 11 = .ok (.ldc_w 266, 3) := by decide +kernel
theorem dJ6_bitCount_0f7a4_14 : decode cJ6_bitCount_0f7a4 14 = .ok (.iand, 1) := by decide +kernel
theorem dJ6_bitCount_0f7a4_15 : decode cJ6_bitCount_0f7a4 15 = .ok (.iload_n 0, 1) := by decide +kernel
theorem dJ6_bitCount_0f7a4_16 : decode cJ6_bitCount_0f7a4 16 = .ok (.iconst 2, 1) := by decide +kernel
theorem dJ6_bitCount_0f7a4_17 : decode cJ6_bitCount_0f7a4 17 = .ok (.iushr, 1) := by decide +kernel
theorem dJ6_bitCount_0f7a4_18 : decode cJ6_bitCount_0f7a4 18 = .ok (.ldc_w 266, 3) := by decide +kernel
theorem dJ6_bitCount_0f7a4_21 : decode cJ6_bitCount_0f7a4 21 = .ok (.iand, 1) := by decide +kernel
theorem dJ6_bitCount_0f7a4_22 : decode cJ6_bitCount_0f7a4 22 = .ok (.iadd, 1) := by decide +kernel
theorem dJ6_bitCount_0f7a4_23 : decode cJ6_bitCount_0f7a4 23 = .ok (.istore_n 0, 1) := by decide +kernel
theorem dJ6_bitCount_0f7a4_24 : decode cJ6_bitCount_0f7a4 24 = .ok (.iload_n 0, 1) := by decide +kernel
theorem dJ6_bitCount_0f7a4_25 : decode cJ6_bitCount_0f7a4 25 = .ok (.iload_n 0, 1) := by decide +kernel
theorem dJ6_bitCount_0f7a4_26 : decode cJ6_bitCount_0f7a4 26 = .ok (.iconst 4, 1) := by decide +kernel
theorem dJ6_bitCount_0f7a4_27 : decode cJ6_bitCount_0f7a4 27 = .ok (.iushr, 1) := by decide +kernel
theorem dJ6_bitCount_0f7a4_28 : decode cJ6_bitCount_0f7a4 28 = .ok (.iadd, 1) := by decide +kernel
theorem dJ6_bitCount_0f7a4_29 : decode cJ6_bitCount_0f7a4 29 = .ok (.ldc_w 267, 3) := by decide +kernel
theorem dJ6_bitCount_0f7a4_32 : decode cJ6_bitCount_0f7a4 32 = .ok (.iand, 1) := by decide +kernel
theorem dJ6_bitCount_0f7a4_33 : decode cJ6_bitCount_0f7a4 33 = .ok (.istore_n 0, 1) := by decide +kernel
theorem dJ6_bitCount_0f7a4_34 : decode cJ6_bitCount_0f7a4 34 = .ok (.iload_n 0, 1) := by decide +kernel
theorem dJ6_bitCount_0f7a4_35 : decode cJ6_bitCount_0f7a4 35 = .ok (.iload_n 0, 1) := by decide +kernel
theorem dJ6_bitCount_0f7a4_36 : decode cJ6_bitCount_0f7a4 36 = .ok (.bipush 8, 2) := by decide +kernel
theorem dJ6_bitCount_0f7a4_38 : decode cJ6_bitCount_0f7a4 38 = .ok (.iushr, 1) := by decide +kernel
theorem dJ6_bitCount_0f7a4_39 : decode cJ6_bitCount_0f7a4 39 = .ok (.iadd, 1) := by decide +kernel
theorem dJ6_bitCount_0f7a4_40 : decode cJ6_bitCount_0f7a4 40 = .ok (.istore_n 0, 1) := by decide +kernel
theorem dJ6_bitCount_0f7a4_41 : decode cJ6_bitCount_0f7a4 41 = .ok (.iload_n 0, 1) := by decide +kernel
theorem dJ6_bitCount_0f7a4_42 : decode cJ6_bitCount_0f7a4 42 = .ok (.iload_n 0, 1) := by decide +kernel
theorem dJ6_bitCount_0f7a4_43 : decode cJ6_bitCount_0f7a4 43 = .ok (.bipush 16, 2) := by decide +kernel
theorem dJ6_bitCount_0f7a4_45 : decode cJ6_bitCount_0f7a4 45 = .ok (.iushr, 1) := by decide +kernel
theorem dJ6_bitCount_0f7a4_46 : decode cJ6_bitCount_0f7a4 46 = .ok (.iadd, 1) := by decide +kernel
theorem dJ6_bitCount_0f7a4_47 : decode cJ6_bitCount_0f7a4 47 = .ok (.istore_n 0, 1) := by decide +kernel
theorem dJ6_bitCount_0f7a4_48 : decode cJ6_bitCount_0f7a4 48 = .ok (.iload_n 0, 1) := by decide +kernel
theorem dJ6_bitCount_0f7a4_49 : decode cJ6_bitCount_0f7a4 49 = .ok (.bipush 63, 2) := by decide +kernel
theorem dJ6_bitCount_0f7a4_51 : decode cJ6_bitCount_0f7a4 51 = .ok (.iand, 1) := by decide +kernel
theorem dJ6_bitCount_0f7a4_52 : decode cJ6_bitCount_0f7a4 52 = .ok (.ireturn, 1) := by decide +kernel
theorem dJ9_max_7cf53_0 : decode cJ9_max_7cf53 0 = .ok (.iload_n 0, 1) := by decide +kernel
theorem dJ9_max_7cf53_1 : decode cJ9_max_7cf53 1 = .ok (.iload_n 1, 1) := by decide +kernel
theorem dJ9_max_7cf53_2 : decode cJ9_max_7cf53 2 = .ok (.if_icmp .lt 7, 3) := by decide +kernel
theorem dJ9_max_7cf53_5 : decode cJ9_max_7cf53 5 = .ok (.iload_n 0, 1) := by decide +kernel
theorem dJ9_max_7cf53_6 : decode cJ9_max_7cf53 6 = .ok (.goto 4, 3) := by decide +kernel
theorem dJ9_max_7cf53_9 : decode cJ9_max_7cf53 9 = .ok (.iload_n 1, 1) := by decide +kernel
theorem dJ9_max_7cf53_10 : decode cJ9_max_7cf53 10 = .ok (.ireturn, 1) := by decide +kernel
theorem dJ9_min_7cf53_0 : decode cJ9_min_7cf53 0 = .ok (.iload_n 0, 1) := by decide +kernel
theorem dJ9_min_7cf53_1 : decode cJ9_min_7cf53 1 = .ok (.iload_n 1, 1) := by decide +kernel
theorem dJ9_min_7cf53_2 : decode cJ9_min_7cf53 2 = .ok (.if_icmp .gt 7, 3) := by decide +kernel
theorem dJ9_min_7cf53_5 : decode cJ9_min_7cf53 5 = .ok (.iload_n 0, 1) := by decide +kernel
theorem dJ9_min_7cf53_6 : decode cJ9_min_7cf53 6 = .ok (.goto 4, 3) := by decide +kernel
theorem dJ9_min_7cf53_9 : decode cJ9_min_7cf53 9 = .ok (.iload_n 1, 1) := by decide +kernel
theorem dJ9_min_7cf53_10 : decode cJ9_min_7cf53 10 = .ok (.ireturn, 1) := by decide +kernel
theorem dJ0_length_8abf5_0 : decode cJ0_length_8abf5 0 = .ok (.aload_n 0, 1) := by decide +kernel
theorem dJ0_length_8abf5_1 : decode cJ0_length_8abf5 1 = .ok (.getfield 9, 3) := by decide +kernel
theorem dJ0_length_8abf5_4 : decode cJ0_length_8abf5 4 = .ok (.arraylength, 1) := by decide +kernel
theorem dJ0_length_8abf5_5 : decode cJ0_length_8abf5 5 = .ok (.aload_n 0, 1) := by decide +kernel
theorem dJ0_length_8abf5_6 : decode cJ0_length_8abf5 6 = .ok (.invokevirtual 335, 3) := by decide +kernel
theorem dJ0_length_8abf5_9 : decode cJ0_length_8abf5 9 = .ok (.ishr, 1) := by decide +kernel
theorem dJ0_length_8abf5_10 : decode cJ0_length_8abf5 10 = .ok (.ireturn, 1) := by decide +kernel
theorem dJ0_charAt_5068e_0 : decode cJ0_charAt_5068e 0 = .ok (.aload_n 0, 1) := by decide +kernel
theorem dJ0_charAt_5068e_1 : decode cJ0_charAt_5068e 1 = .ok (.invokevirtual 492, 3) := by decide +kernel
theorem dJ0_charAt_5068e_4 : decode cJ0_charAt_5068e 4 = .ok (.ifCond .eq 12, 3) := by decide +kernel
theorem dJ0_charAt_5068e_7 : decode cJ0_charAt_5068e 7 = .ok (.aload_n 0, 1) := by decide +kernel
theorem dJ0_charAt_5068e_8 : decode cJ0_charAt_5068e 8 = .ok (.getfield 9, 3) := by decide +kernel
theorem dJ0_charAt_5068e_11 : decode cJ0_charAt_5068e 11 = .ok (.iload_n 1, 1) := by decide +kernel
theorem dJ0_charAt_5068e_12 : decode cJ0_charAt_5068e 12 = .ok (.invokestatic 495, 3) := by decide +kernel
theorem dJ0_charAt_5068e_15 : decode cJ0_charAt_5068e 15 = .ok (.ireturn, 1) := by decide +kernel
theorem dJ0_charAt_5068e_16 : decode cJ0_charAt_5068e 16 = .ok (.aload_n 0, 1) := by decide +kernel
theorem dJ0_charAt_5068e_17 : decode cJ0_charAt_5068e 17 = .ok (.getfield 9, 3) := by decide +kernel
theorem dJ0_charAt_5068e_20 : decode cJ0_charAt_5068e 20 = .ok (.iload_n 1, 1) := by decide +kernel
theorem dJ0_charAt_5068e_21 : decode cJ0_charAt_5068e 21 = .ok (.invokestatic 498, 3) := by decide +kernel
theorem dJ0_charAt_5068e_24 : decode cJ0_charAt_5068e 24 = .ok (.ireturn, 1) := by decide +kernel
theorem dJ0_coder_7d493_0 : decode cJ0_coder_7d493 0 = .ok (.getstatic 38, 3) := by decide +kernel
theorem dJ0_coder_7d493_3 : decode cJ0_coder_7d493 3 = .ok (.ifCond .eq 10, 3) := by decide +kernel
theorem dJ0_coder_7d493_6 : decode cJ0_coder_7d493 6 = .ok (.aload_n 0, 1) := by decide +kernel
theorem dJ0_coder_7d493_7 : decode cJ0_coder_7d493 7 = .ok (.getfield 15, 3) := by decide +kernel
theorem dJ0_coder_7d493_10 : decode cJ0_coder_7d493 10 = .ok (.goto 4, 3) := by decide +kernel
theorem dJ0_coder_7d493_13 : decode cJ0_coder_7d493 13 = .ok (.iconst 1, 1) := by decide +kernel
theorem dJ0_coder_7d493_14 : decode cJ0_coder_7d493 14 = .ok (.ireturn, 1) := by decide +kernel
theorem dJ0_isLatin1_aae02_0 : decode cJ0_isLatin1_aae02 0 = .ok (.getstatic 38, 3) := by decide +kernel
theorem dJ0_isLatin1_aae02_3 : decode cJ0_isLatin1_aae02 3 = .ok (.ifCond .eq 14, 3) := by decide +kernel
theorem dJ0_isLatin1_aae02_6 : decode cJ0_isLatin1_aae02 6 = .ok (.aload_n 0, 1) := by decide +kernel
theorem dJ0_isLatin1_aae02_7 : decode cJ0_isLatin1_aae02 7 = .ok (.getfield 15, 3) := by decide +kernel
theorem dJ0_isLatin1_aae02_10 : decode cJ0_isLatin1_aae02 10 = .ok (.ifCond .ne 7, 3) := by decide +kernel
theorem dJ0_isLatin1_aae02_13 : decode cJ0_isLatin1_aae02 13 = .ok (.iconst 1, 1) := by decide +kernel
theorem dJ0_isLatin1_aae02_14 : decode cJ0_isLatin1_aae02 14 = .ok (.goto 4, 3) := by decide +kernel
theorem dJ0_isLatin1_aae02_17 : decode cJ0_isLatin1_aae02 17 = .ok (.iconst 0, 1) := by decide +kernel
theorem dJ0_isLatin1_aae02_18 : decode cJ0_isLatin1_aae02 18 = .ok (.ireturn, 1) := by decide +kernel
theorem dJ0_checkIndex_df160_0 : decode cJ0_checkIndex_df160 0 = .ok (.iload_n 0, 1) := by decide +kernel
theorem dJ0_checkIndex_df160_1 : decode cJ0_checkIndex_df160 1 = .ok (.iload_n 1, 1) := by decide +kernel
theorem dJ0_checkIndex_df160_2 : decode cJ0_checkIndex_df160 2 = .ok (.getstatic 1053, 3) := by decide +kernel
theorem dJ0_checkIndex_df160_5 : decode cJ0_checkIndex_df160 5 = .ok (.invokestatic 1059, 3) := by decide +kernel
theorem dJ0_checkIndex_df160_8 : decode cJ0_checkIndex_df160 8 = .ok (.pop, 1) := by decide +kernel
theorem dJ0_checkIndex_df160_9 : decode cJ0_checkIndex_df160 9 = .ok (.return_, 1) := by decide +kernel
theorem dJ1_charAt_3b067_0 : decode cJ1_charAt_3b067 0 = .ok (.iload_n 1, 1) := by decide +kernel
theorem dJ1_charAt_3b067_1 : decode cJ1_charAt_3b067 1 = .ok (.aload_n 0, 1) := by decide +kernel
theorem dJ1_charAt_3b067_2 : decode cJ1_charAt_3b067 2 = .ok (.arraylength, 1) := by decide +kernel
theorem dJ1_charAt_3b067_3 : decode cJ1_charAt_3b067 3 = .ok (.invokestatic 9, 3) := by decide +kernel
theorem dJ1_charAt_3b067_6 : decode cJ1_charAt_3b067 6 = .ok (.aload_n 0, 1) := by decide +kernel
theorem dJ1_charAt_3b067_7 : decode cJ1_charAt_3b067 7 = .ok (.iload_n 1, 1) := by decide +kernel
theorem dJ1_charAt_3b067_8 : decode cJ1_charAt_3b067 8 = .ok (.baload, 1) := by decide +kernel
theorem dJ1_charAt_3b067_9 : decode cJ1_charAt_3b067 9 = .ok (.sipush 255, 3) := by decide +kernel
theorem dJ1_charAt_3b067_12 : decode cJ1_charAt_3b067 12 = .ok (.iand, 1) := by decide +kernel
theorem dJ1_charAt_3b067_13 : decode cJ1_charAt_3b067 13 = .ok (.i2c, 1) := by decide +kernel
theorem dJ1_charAt_3b067_14 : decode cJ1_charAt_3b067 14 = .ok (.ireturn, 1) := by decide +kernel
theorem dJ2_getChar_3b067_0 : decode cJ2_getChar_3b067 0 = .ok (.getstatic 44, 3) := by decide +kernel
theorem dJ2_getChar_3b067_3 : decode cJ2_getChar_3b067 3 = .ok (.ifCond .ne 25, 3) := by decide +kernel
theorem dJ2_getChar_3b067_6 : decode cJ2_getChar_3b067 6 = .ok (.iload_n 1, 1) := by decide +kernel
theorem dJ2_getChar_3b067_7 : decode cJ2_getChar_3b067 7 = .ok (.ifCond .lt 11, 3) := by decide +kernel
theorem dJ2_getChar_3b067_10 : decode cJ2_getChar_3b067 10 = .ok (.iload_n 1, 1) := by decide +kernel
theorem dJ2_getChar_3b067_11 : decode cJ2_getChar_3b067 11 = .ok (.aload_n 0, 1) := by decide +kernel
theorem dJ2_getChar_3b067_12 : decode cJ2_getChar_3b067 12 = .ok (.invokestatic 48, 3) := by decide +kernel
theorem dJ2_getChar_3b067_15 : decode cJ2_getChar_3b067 15 = .ok (.if_icmp .lt 13, 3) := by decide +kernel
theorem dJ2_getChar_3b067_18 : decode cJ2_getChar_3b067 18 = .ok (.new 52, 3) := by decide +kernel
theorem dJ2_getChar_3b067_21 : decode cJ2_getChar_3b067 21 = .ok (.dup, 1) := by decide +kernel
theorem dJ2_getChar_3b067_22 : decode cJ2_getChar_3b067 22 = .ok (.ldc 54, 2) := by decide +kernel
theorem dJ2_getChar_3b067_24 : decode cJ2_getChar_3b067 24 = .ok (.invokespecial 56, 3) := by decide +kernel
theorem dJ2_getChar_3b067_27 : decode cJ2_getChar_3b067 27 = .ok (.athrow, 1) := by decide +kernel
theorem dJ2_getChar_3b067_28 : decode cJ2_getChar_3b067 28 = .ok (.iload_n 1, 1) := by decide +kernel
theorem dJ2_getChar_3b067_29 : decode cJ2_getChar_3b067 29 = .ok (.iconst 1, 1) := by decide +kernel
theorem dJ2_getChar_3b067_30 : decode cJ2_getChar_3b067 30 = .ok (.ishl, 1) := by decide +kernel
theorem dJ2_getChar_3b067_31 : decode cJ2_getChar_3b067 31 = .ok (.istore_n 1, 1) := by decide +kernel
theorem dJ2_getChar_3b067_32 : decode cJ2_getChar_3b067 32 = .ok (.aload_n 0, 1) := by decide +kernel
theorem dJ2_getChar_3b067_33 : decode cJ2_getChar_3b067 33 = .ok (.iload_n 1, 1) := by decide +kernel
theorem dJ2_getChar_3b067_34 : decode cJ2_getChar_3b067 34 = .ok (.iinc 1 1, 3) := by decide +kernel
theorem dJ2_getChar_3b067_37 : decode cJ2_getChar_3b067 37 = .ok (.baload, 1) := by decide +kernel
theorem dJ2_getChar_3b067_38 : decode cJ2_getChar_3b067 38 = .ok (.sipush 255, 3) := by decide +kernel
theorem dJ2_getChar_3b067_41 : decode cJ2_getChar_3b067 41 = .ok (.iand, 1) := by decide +kernel
theorem dJ2_getChar_3b067_42 : decode cJ2_getChar_3b067 42 = .ok (.getstatic 59, 3) := by decide +kernel
theorem dJ2_getChar_3b067_45 : decode cJ2_getChar_3b067 45 = .ok (.ishl, 1) := by decide +kernel
theorem dJ2_getChar_3b067_46 : decode cJ2_getChar_3b067 46 = .ok (.aload_n 0, 1) := by decide +kernel
theorem dJ2_getChar_3b067_47 : decode cJ2_getChar_3b067 47 = .ok (.iload_n 1, 1) := by decide +kernel
theorem dJ2_getChar_3b067_48 : decode cJ2_getChar_3b067 48 = .ok (.baload, 1) := by decide +kernel
theorem dJ2_getChar_3b067_49 : decode cJ2_getChar_3b067 49 = .ok (.sipush 255, 3) := by decide +kernel
theorem dJ2_getChar_3b067_52 : decode cJ2_getChar_3b067 52 = .ok (.iand, 1) := by decide +kernel
theorem dJ2_getChar_3b067_53 : decode cJ2_getChar_3b067 53 = .ok (.getstatic 63, 3) := by decide +kernel
theorem dJ2_getChar_3b067_56 : decode cJ2_getChar_3b067 56 = .ok (.ishl, 1) := by decide +kernel
theorem dJ2_getChar_3b067_57 : decode cJ2_getChar_3b067 57 = .ok (.ior, 1) := by decide +kernel
theorem dJ2_getChar_3b067_58 : decode cJ2_getChar_3b067 58 = .ok (.i2c, 1) := by decide +kernel
theorem dJ2_getChar_3b067_59 : decode cJ2_getChar_3b067 59 = .ok (.ireturn, 1) := by decide +kernel
theorem dJ2_length_9d52b_0 : decode cJ2_length_9d52b 0 = .ok (.aload_n 0, 1) := by decide +kernel
theorem dJ2_length_9d52b_1 : decode cJ2_length_9d52b 1 = .ok (.arraylength, 1) := by decide +kernel
theorem dJ2_length_9d52b_2 : decode cJ2_length_9d52b 2 = .ok (.iconst 1, 1) := by decide +kernel
theorem dJ2_length_9d52b_3 : decode cJ2_length_9d52b 3 = .ok (.ishr, 1) := by decide +kernel
theorem dJ2_length_9d52b_4 : decode cJ2_length_9d52b 4 = .ok (.ireturn, 1) := by decide +kernel
theorem dJ2_charAt_3b067_0 : decode cJ2_charAt_3b067 0 = .ok (.iload_n 1, 1) := by decide +kernel
theorem dJ2_charAt_3b067_1 : decode cJ2_charAt_3b067 1 = .ok (.aload_n 0, 1) := by decide +kernel
theorem dJ2_charAt_3b067_2 : decode cJ2_charAt_3b067 2 = .ok (.invokestatic 67, 3) := by decide +kernel
theorem dJ2_charAt_3b067_5 : decode cJ2_charAt_3b067 5 = .ok (.aload_n 0, 1) := by decide +kernel
theorem dJ2_charAt_3b067_6 : decode cJ2_charAt_3b067 6 = .ok (.iload_n 1, 1) := by decide +kernel
theorem dJ2_charAt_3b067_7 : decode cJ2_charAt_3b067 7 = .ok (.invokestatic 71, 3) := by decide +kernel
theorem dJ2_charAt_3b067_10 : decode cJ2_charAt_3b067 10 = .ok (.ireturn, 1) := by decide +kernel
theorem dJ2_checkIndex_2214a_0 : decode cJ2_checkIndex_2214a 0 = .ok (.iload_n 0, 1) := by decide +kernel
theorem dJ2_checkIndex_2214a_1 : decode cJ2_checkIndex_2214a 1 = .ok (.aload_n 1, 1) := by decide +kernel
theorem dJ2_checkIndex_2214a_2 : decode cJ2_checkIndex_2214a 2 = .ok (.invokestatic 48, 3) := by decide +kernel
theorem dJ2_checkIndex_2214a_5 : decode cJ2_checkIndex_2214a 5 = .ok (.invokestatic 414, 3) := by decide +kernel
theorem dJ2_checkIndex_2214a_8 : decode cJ2_checkIndex_2214a 8 = .ok (.return_, 1) := by decide +kernel
theorem dJ3_checkIndex_8e157_0 : decode cJ3_checkIndex_8e157 0 = .ok (.iload_n 0, 1) := by decide +kernel
theorem dJ3_checkIndex_8e157_1 : decode cJ3_checkIndex_8e157 1 = .ok (.ifCond .lt 8, 3) := by decide +kernel
theorem dJ3_checkIndex_8e157_4 : decode cJ3_checkIndex_8e157 4 = .ok (.iload_n 0, 1) := by decide +kernel
theorem dJ3_checkIndex_8e157_5 : decode cJ3_checkIndex_8e157 5 = .ok (.iload_n 1, 1) := by decide +kernel
theorem dJ3_checkIndex_8e157_6 : decode cJ3_checkIndex_8e157 6 = .ok (.if_icmp .lt 10, 3) := by decide +kernel
theorem dJ3_checkIndex_8e157_9 : decode cJ3_checkIndex_8e157 9 = .ok (.aload_n 2, 1) := by decide +kernel
theorem dJ3_checkIndex_8e157_10 : decode cJ3_checkIndex_8e157 10 = .ok (.iload_n 0, 1) := by decide +kernel
theorem dJ3_checkIndex_8e157_11 : decode cJ3_checkIndex_8e157 11 = .ok (.iload_n 1, 1) := by decide +kernel
theorem dJ3_checkIndex_8e157_12 : decode cJ3_checkIndex_8e157 12 = .ok (.invokestatic 95, 3) := by decide +kernel
theorem dJ3_checkIndex_8e157_15 : decode cJ3_checkIndex_8e157 15 = .ok (.athrow, 1) := by decide +kernel
theorem dJ3_checkIndex_8e157_16 : decode cJ3_checkIndex_8e157 16 = .ok (.iload_n 0, 1) := by decide +kernel
theorem dJ3_checkIndex_8e157_17 : decode cJ3_checkIndex_8e157 17 = .ok (.ireturn, 1) := by decide +kernel
