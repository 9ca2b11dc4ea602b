theorem dX12_worst_50 : decode cX12_worst 50 = .ok (.lload_n 3, 1) := by decide +kernel
theorem dX12_worst_51 : decode cX12_worst 51 = .ok (.goto 21, 3) := by decide +kernel
theorem dX12_worst_54 : decode cX12_worst 54 = .ok (.iload_n 2, 1) := by decide +kernel
theorem dX12_worst_55 : decode cX12_worst 55 = .ok (.iconst 1, 1) := by decide +kernel
theorem dX12_worst_56 : decode cX12_worst 56 = .ok (.if_icmp .ne 11, 3) := by decide +kernel
theorem dX12_worst_59 : decode cX12_worst 59 = .ok (.aload_n 0, 1) := by decide +kernel
theorem dX12_worst_60 : decode cX12_worst 60 = .ok (.getfield 434, 3) := by decide +kernel
theorem dX12_worst_63 : decode cX12_worst 63 = .ok (.i2l, 1) := by decide +kernel
theorem dX12_worst_64 : decode cX12_worst 64 = .ok (.goto 8, 3) := by decide +kernel
theorem dX12_worst_67 : decode cX12_worst 67 = .ok (.aload_n 0, 1) := by decide +kernel
theorem dX12_worst_68 : decode cX12_worst 68 = .ok (.getfield 437, 3) := by decide +kernel
theorem dX12_worst_71 : decode cX12_worst 71 = .ok (.i2l, 1) := by decide +kernel
theorem dX12_worst_72 : decode cX12_worst 72 = .ok (.lreturn, 1) := by decide +kernel
theorem dX12_burstOf_0 : decode cX12_burstOf 0 = .ok (.aload_n 0, 1) := by decide +kernel
theorem dX12_burstOf_1 : decode cX12_burstOf 1 = .ok (.iload_n 1, 1) := by decide +kernel
theorem dX12_burstOf_2 : decode cX12_burstOf 2 = .ok (.invokevirtual 467, 3) := by decide +kernel
theorem dX12_burstOf_5 : decode cX12_burstOf 5 = .ok (.lstore_n 2, 1) := by decide +kernel
theorem dX12_burstOf_6 : decode cX12_burstOf 6 = .ok (.lload_n 2, 1) := by decide +kernel
theorem dX12_burstOf_7 : decode cX12_burstOf 7 = .ok (.lconst 0, 1) := by decide +kernel
theorem dX12_burstOf_8 : decode cX12_burstOf 8 = .ok (.lcmp, 1) := by decide +kernel
theorem dX12_burstOf_9 : decode cX12_burstOf 9 = .ok (.ifCond .ne 7, 3) := by decide +kernel
theorem dX12_burstOf_12 : decode cX12_burstOf 12 = .ok (.sipush 9999, 3) := by decide +kernel
theorem dX12_burstOf_15 : decode cX12_burstOf 15 = .ok (.ireturn, 1) := by decide +kernel
theorem dX12_burstOf_16 : decode cX12_burstOf 16 = .ok (.aload_n 0, 1) := by decide +kernel
theorem dX12_burstOf_17 : decode cX12_burstOf 17 = .ok (.iload_n 1, 1) := by decide +kernel
theorem dX12_burstOf_18 : decode cX12_burstOf 18 = .ok (.invokevirtual 419, 3) := by decide +kernel
theorem dX12_burstOf_21 : decode cX12_burstOf 21 = .ok (.ldc2_w 492, 3) := by decide +kernel
theorem dX12_burstOf_24 : decode cX12_burstOf 24 = .ok (.lmul, 1) := by decide +kernel
theorem dX12_burstOf_25 : decode cX12_burstOf 25 = .ok (.lload_n 2, 1) := by decide +kernel
theorem dX12_burstOf_26 : decode cX12_burstOf 26 = .ok (.ldiv, 1) := by decide +kernel
theorem dX12_burstOf_27 : decode cX12_burstOf 27 = .ok (.lconst 1, 1) := by decide +kernel
theorem dX12_burstOf_28 : decode cX12_burstOf 28 = .ok (.ladd, 1) := by decide +kernel
theorem dX12_burstOf_29 : decode cX12_burstOf 29 = .ok (.lstore 4, 2) := by decide +kernel
theorem dX12_burstOf_31 : decode cX12_burstOf 31 = .ok (.ldc2_w 369, 3) := by decide +kernel
theorem dX12_burstOf_34 : decode cX12_burstOf 34 = .ok (.lload 4, 2) := by decide +kernel
theorem dX12_burstOf_36 : decode cX12_burstOf 36 = .ok (.invokestatic 429, 3) := by decide +kernel
theorem dX12_burstOf_39 : decode cX12_burstOf 39 = .ok (.l2i, 1) := by decide +kernel
theorem dX12_burstOf_40 : decode cX12_burstOf 40 = .ok (.ireturn, 1) := by decide +kernel
theorem dX12_burst_0 : decode cX12_burst 0 = .ok (.aload_n 0, 1) := by decide +kernel
theorem dX12_burst_1 : decode cX12_burst 1 = .ok (.iconst 0, 1) := by decide +kernel
theorem dX12_burst_2 : decode cX12_burst 2 = .ok (.putfield 153, 3) := by decide +kernel
theorem dX12_burst_5 : decode cX12_burst 5 = .ok (.aload_n 0, 1) := by decide +kernel
theorem dX12_burst_6 : decode cX12_burst 6 = .ok (.iload_n 1, 1) := by decide +kernel
theorem dX12_burst_7 : decode cX12_burst 7 = .ok (.invokevirtual 450, 3) := by decide +kernel
theorem dX12_burst_10 : decode cX12_burst 10 = .ok (.ifCond .ne 5, 3) := by decide +kernel
theorem dX12_burst_13 : decode cX12_burst 13 = .ok (.iconst (-1), 1) := by decide +kernel
theorem dX12_burst_14 : decode cX12_burst 14 = .ok (.ireturn, 1) := by decide +kernel
theorem dX12_burst_15 : decode cX12_burst 15 = .ok (.aload_n 0, 1) := by decide +kernel
theorem dX12_burst_16 : decode cX12_burst 16 = .ok (.iconst 0, 1) := by decide +kernel
theorem dX12_burst_17 : decode cX12_burst 17 = .ok (.invokevirtual 457, 3) := by decide +kernel
theorem dX12_burst_20 : decode cX12_burst 20 = .ok (.aload_n 0, 1) := by decide +kernel
theorem dX12_burst_21 : decode cX12_burst 21 = .ok (.iload_n 1, 1) := by decide +kernel
theorem dX12_burst_22 : decode cX12_burst 22 = .ok (.invokevirtual 494, 3) := by decide +kernel
theorem dX12_burst_25 : decode cX12_burst 25 = .ok (.ireturn, 1) := by decide +kernel
theorem dX12_bursts_0 : decode cX12_bursts 0 = .ok (.aload_n 0, 1) := by decide +kernel
theorem dX12_bursts_1 : decode cX12_bursts 1 = .ok (.iconst 0, 1) := by decide +kernel
theorem dX12_bursts_2 : decode cX12_bursts 2 = .ok (.putfield 153, 3) := by decide +kernel
theorem dX12_bursts_5 : decode cX12_bursts 5 = .ok (.aload_n 0, 1) := by decide +kernel
theorem dX12_bursts_6 : decode cX12_bursts 6 = .ok (.iconst 0, 1) := by decide +kernel
theorem dX12_bursts_7 : decode cX12_bursts 7 = .ok (.putfield 371, 3) := by decide +kernel
theorem dX12_bursts_10 : decode cX12_bursts 10 = .ok (.aload_n 0, 1) := by decide +kernel
theorem dX12_bursts_11 : decode cX12_bursts 11 = .ok (.iconst 0, 1) := by decide +kernel
theorem dX12_bursts_12 : decode cX12_bursts 12 = .ok (.invokevirtual 457, 3) := by decide +kernel
theorem dX12_bursts_15 : decode cX12_bursts 15 = .ok (.iconst (-1), 1) := by decide +kernel
theorem dX12_bursts_16 : decode cX12_bursts 16 = .ok (.istore_n 1, 1) := by decide +kernel
theorem dX12_bursts_17 : decode cX12_bursts 17 = .ok (.iconst 0, 1) := by decide +kernel
theorem dX12_bursts_18 : decode cX12_bursts 18 = .ok (.istore_n 2, 1) := by decide +kernel
theorem dX12_bursts_19 : decode cX12_bursts 19 = .ok (.iload_n 2, 1) := by decide +kernel
theorem dX12_bursts_20 : decode cX12_bursts 20 = .ok (.aload_n 0, 1) := by decide +kernel
theorem dX12_bursts_21 : decode cX12_bursts 21 = .ok (.getfield 15, 3) := by decide +kernel
theorem dX12_bursts_24 : decode cX12_bursts 24 = .ok (.iconst 0, 1) := by decide +kernel
theorem dX12_bursts_25 : decode cX12_bursts 25 = .ok (.iaload, 1) := by decide +kernel
theorem dX12_bursts_26 : decode cX12_bursts 26 = .ok (.if_icmp .ge 37, 3) := by decide +kernel
theorem dX12_bursts_29 : decode cX12_bursts 29 = .ok (.aload_n 0, 1) := by decide +kernel
theorem dX12_bursts_30 : decode cX12_bursts 30 = .ok (.iload_n 2, 1) := by decide +kernel
theorem dX12_bursts_31 : decode cX12_bursts 31 = .ok (.invokevirtual 380, 3) := by decide +kernel
theorem dX12_bursts_34 : decode cX12_bursts 34 = .ok (.ifCond .eq 23, 3) := by decide +kernel
theorem dX12_bursts_37 : decode cX12_bursts 37 = .ok (.iload_n 1, 1) := by decide +kernel
theorem dX12_bursts_38 : decode cX12_bursts 38 = .ok (.iconst (-1), 1) := by decide +kernel
theorem dX12_bursts_39 : decode cX12_bursts 39 = .ok (.if_icmp .eq 16, 3) := by decide +kernel
theorem dX12_bursts_42 : decode cX12_bursts 42 = .ok (.aload_n 0, 1) := by decide +kernel
theorem dX12_bursts_43 : decode cX12_bursts 43 = .ok (.iload_n 2, 1) := by decide +kernel
theorem dX12_bursts_44 : decode cX12_bursts 44 = .ok (.invokevirtual 494, 3) := by decide +kernel
theorem dX12_bursts_47 : decode cX12_bursts 47 = .ok (.aload_n 0, 1) := by decide +kernel
theorem dX12_bursts_48 : decode cX12_bursts 48 = .ok (.iload_n 1, 1) := by decide +kernel
theorem dX12_bursts_49 : decode cX12_bursts 49 = .ok (.invokevirtual 494, 3) := by decide +kernel
theorem dX12_bursts_52 : decode cX12_bursts 52 = .ok (.if_icmp .ge 5, 3) := by decide +kernel
theorem dX12_bursts_55 : decode cX12_bursts 55 = .ok (.iload_n 2, 1) := by decide +kernel
theorem dX12_bursts_56 : decode cX12_bursts 56 = .ok (.istore_n 1, 1) := by decide +kernel
theorem dX12_bursts_57 : decode cX12_bursts 57 = .ok (.iinc 2 1, 3) := by decide +kernel
theorem dX12_bursts_60 : decode cX12_bursts 60 = .ok (.goto (-41), 3) := by decide +kernel
theorem dX12_bursts_63 : decode cX12_bursts 63 = .ok (.iload_n 1, 1) := by decide +kernel
theorem dX12_bursts_64 : decode cX12_bursts 64 = .ok (.ireturn, 1) := by decide +kernel
theorem dX12_bitsOf_0 : decode cX12_bitsOf 0 = .ok (.iconst 0, 1) := by decide +kernel
theorem dX12_bitsOf_1 : decode cX12_bitsOf 1 = .ok (.istore_n 1, 1) := by decide +kernel
theorem dX12_bitsOf_2 : decode cX12_bitsOf 2 = .ok (.iconst 0, 1) := by decide +kernel
theorem dX12_bitsOf_3 : decode cX12_bitsOf 3 = .ok (.istore_n 2, 1) := by decide +kernel
theorem dX12_bitsOf_4 : decode cX12_bitsOf 4 = .ok (.iload_n 2, 1) := by decide +kernel
theorem dX12_bitsOf_5 : decode cX12_bitsOf 5 = .ok (.bipush 31, 2) := by decide +kernel
theorem dX12_bitsOf_7 : decode cX12_bitsOf 7 = .ok (.if_icmp .ge 17, 3) := by decide +kernel
theorem dX12_bitsOf_10 : decode cX12_bitsOf 10 = .ok (.iload_n 1, 1) := by decide +kernel
theorem dX12_bitsOf_11 : decode cX12_bitsOf 11 = .ok (.iload_n 0, 1) := by decide +kernel
theorem dX12_bitsOf_12 : decode cX12_bitsOf 12 = .ok (.iload_n 2, 1) := by decide +kernel
theorem dX12_bitsOf_13 : decode cX12_bitsOf 13 = .ok (.ishr, 1) := by decide +kernel
theorem dX12_bitsOf_14 : decode cX12_bitsOf 14 = .ok (.iconst 1, 1) := by decide +kernel
theorem dX12_bitsOf_15 : decode cX12_bitsOf 15 = .ok (.iand, 1) := by decide +kernel
theorem dX12_bitsOf_16 : decode cX12_bitsOf 16 = .ok (.iadd, 1) := by decide +kernel
theorem dX12_bitsOf_17 : decode cX12_bitsOf 17 = .ok (.istore_n 1, 1) := by decide +kernel
theorem dX12_bitsOf_18 : decode cX12_bitsOf 18 = .ok (.iinc 2 1, 3) := by decide +kernel
theorem dX12_bitsOf_21 : decode cX12_bitsOf 21 = .ok (.goto (-17), 3) := by decide +kernel
theorem dX12_bitsOf_24 : decode cX12_bitsOf 24 = .ok (.iload_n 1, 1) := by decide +kernel
theorem dX12_bitsOf_25 : decode cX12_bitsOf 25 = .ok (.ireturn, 1) := by decide +kernel
theorem dX12_isTree_0 : decode cX12_isTree 0 = .ok (.aload_n 0, 1) := by decide +kernel
theorem dX12_isTree_1 : decode cX12_isTree 1 = .ok (.getfield 15, 3) := by decide +kernel
theorem dX12_isTree_4 : decode cX12_isTree 4 = .ok (.iconst 0, 1) := by decide +kernel
theorem dX12_isTree_5 : decode cX12_isTree 5 = .ok (.iaload, 1) := by decide +kernel
theorem dX12_isTree_6 : decode cX12_isTree 6 = .ok (.istore_n 2, 1) := by decide +kernel
theorem dX12_isTree_7 : decode cX12_isTree 7 = .ok (.iload_n 1, 1) := by decide +kernel
theorem dX12_isTree_8 : decode cX12_isTree 8 = .ok (.ifCond .lt 29, 3) := by decide +kernel
theorem dX12_isTree_11 : decode cX12_isTree 11 = .ok (.iload_n 1, 1) := by decide +kernel
theorem dX12_isTree_12 : decode cX12_isTree 12 = .ok (.iconst 1, 1) := by decide +kernel
theorem dX12_isTree_13 : decode cX12_isTree 13 = .ok (.aload_n 0, 1) := by decide +kernel
theorem dX12_isTree_14 : decode cX12_isTree 14 = .ok (.getfield 15, 3) := by decide +kernel
theorem dX12_isTree_17 : decode cX12_isTree 17 = .ok (.iconst 1, 1) := by decide +kernel
theorem dX12_isTree_18 : decode cX12_isTree 18 = .ok (.iaload, 1) := by decide +kernel
theorem dX12_isTree_19 : decode cX12_isTree 19 = .ok (.ishl, 1) := by decide +kernel
theorem dX12_isTree_20 : decode cX12_isTree 20 = .ok (.if_icmp .ge 17, 3) := by decide +kernel
theorem dX12_isTree_23 : decode cX12_isTree 23 = .ok (.iload_n 2, 1) := by decide +kernel
theorem dX12_isTree_24 : decode cX12_isTree 24 = .ok (.ifCond .eq 13, 3) := by decide +kernel
theorem dX12_isTree_27 : decode cX12_isTree 27 = .ok (.iload_n 1, 1) := by decide +kernel
theorem dX12_isTree_28 : decode cX12_isTree 28 = .ok (.invokestatic 497, 3) := by decide +kernel
theorem dX12_isTree_31 : decode cX12_isTree 31 = .ok (.iload_n 2, 1) := by decide +kernel
theorem dX12_isTree_32 : decode cX12_isTree 32 = .ok (.iconst 1, 1) := by decide +kernel
theorem dX12_isTree_33 : decode cX12_isTree 33 = .ok (.isub, 1) := by decide +kernel
theorem dX12_isTree_34 : decode cX12_isTree 34 = .ok (.if_icmp .eq 5, 3) := by decide +kernel
theorem dX12_isTree_37 : decode cX12_isTree 37 = .ok (.iconst 0, 1) := by decide +kernel
theorem dX12_isTree_38 : decode cX12_isTree 38 = .ok (.ireturn, 1) := by decide +kernel
theorem dX12_isTree_39 : decode cX12_isTree 39 = .ok (.aload_n 0, 1) := by decide +kernel
theorem dX12_isTree_40 : decode cX12_isTree 40 = .ok (.iload_n 1, 1) := by decide +kernel
theorem dX12_isTree_41 : decode cX12_isTree 41 = .ok (.iconst 0, 1) := by decide +kernel
theorem dX12_isTree_42 : decode cX12_isTree 42 = .ok (.invokevirtual 500, 3) := by decide +kernel
theorem dX12_isTree_45 : decode cX12_isTree 45 = .ok (.ireturn, 1) := by decide +kernel
theorem dX12_joinsFrom_0 : decode cX12_joinsFrom 0 = .ok (.aload_n 0, 1) := by decide +kernel
theorem dX12_joinsFrom_1 : decode cX12_joinsFrom 1 = .ok (.getfield 15, 3) := by decide +kernel
theorem dX12_joinsFrom_4 : decode cX12_joinsFrom 4 = .ok (.iconst 0, 1) := by decide +kernel
theorem dX12_joinsFrom_5 : decode cX12_joinsFrom 5 = .ok (.iaload, 1) := by decide +kernel
theorem dX12_joinsFrom_6 : decode cX12_joinsFrom 6 = .ok (.istore_n 3, 1) := by decide +kernel
theorem dX12_joinsFrom_7 : decode cX12_joinsFrom 7 = .ok (.iconst 0, 1) := by decide +kernel
theorem dX12_joinsFrom_8 : decode cX12_joinsFrom 8 = .ok (.istore 4, 2) := by decide +kernel
theorem dX12_joinsFrom_10 : decode cX12_joinsFrom 10 = .ok (.iload 4, 2) := by decide +kernel
theorem dX12_joinsFrom_12 : decode cX12_joinsFrom 12 = .ok (.iload_n 3, 1) := by decide +kernel
theorem dX12_joinsFrom_13 : decode cX12_joinsFrom 13 = .ok (.if_icmp .ge 27, 3) := by decide +kernel
theorem dX12_joinsFrom_16 : decode cX12_joinsFrom 16 = .ok (.aload_n 0, 1) := by decide +kernel
theorem dX12_joinsFrom_17 : decode cX12_joinsFrom 17 = .ok (.getfield 129, 3) := by decide +kernel
theorem dX12_joinsFrom_20 : decode cX12_joinsFrom 20 = .ok (.iload 4, 2) := by decide +kernel
theorem dX12_joinsFrom_22 : decode cX12_joinsFrom 22 = .ok (.iload 4, 2) := by decide +kernel
theorem dX12_joinsFrom_24 : decode cX12_joinsFrom 24 = .ok (.iload_n 2, 1) := by decide +kernel
theorem dX12_joinsFrom_25 : decode cX12_joinsFrom 25 = .ok (.if_icmp .ne 7, 3) := by decide +kernel
theorem dX12_joinsFrom_28 : decode cX12_joinsFrom 28 = .ok (.iconst 0, 1) := by decide +kernel
theorem dX12_joinsFrom_29 : decode cX12_joinsFrom 29 = .ok (.goto 4, 3) := by decide +kernel
theorem dX12_joinsFrom_32 : decode cX12_joinsFrom 32 = .ok (.iconst (-1), 1) := by decide +kernel
theorem dX12_joinsFrom_33 : decode cX12_joinsFrom 33 = .ok (.iastore, 1) := by decide +kernel
theorem dX12_joinsFrom_34 : decode cX12_joinsFrom 34 = .ok (.iinc 4 1, 3) := by decide +kernel
theorem dX12_joinsFrom_37 : decode cX12_joinsFrom 37 = .ok (.goto (-27), 3) := by decide +kernel
theorem dX12_joinsFrom_40 : decode cX12_joinsFrom 40 = .ok (.iconst 1, 1) := by decide +kernel
theorem dX12_joinsFrom_41 : decode cX12_joinsFrom 41 = .ok (.istore 4, 2) := by decide +kernel
theorem dX12_joinsFrom_43 : decode cX12_joinsFrom 43 = .ok (.iconst 1, 1) := by decide +kernel
theorem dX12_joinsFrom_44 : decode cX12_joinsFrom 44 = .ok (.istore 5, 2) := by decide +kernel
theorem dX12_joinsFrom_46 : decode cX12_joinsFrom 46 = .ok (.iload 5, 2) := by decide +kernel
theorem dX12_joinsFrom_48 : decode cX12_joinsFrom 48 = .ok (.ifCond .eq 161, 3) := by decide +kernel
theorem dX12_joinsFrom_51 : decode cX12_joinsFrom 51 = .ok (.iconst 0, 1) := by decide +kernel
theorem dX12_joinsFrom_52 : decode cX12_joinsFrom 52 = .ok (.istore 5, 2) := by decide +kernel
theorem dX12_joinsFrom_54 : decode cX12_joinsFrom 54 = .ok (.iconst 0, 1) := by decide +kernel
theorem dX12_joinsFrom_55 : decode cX12_joinsFrom 55 = .ok (.istore 6, 2) := by decide +kernel
theorem dX12_joinsFrom_57 : decode cX12_joinsFrom 57 = .ok (.iload 6, 2) := by decide +kernel
theorem dX12_joinsFrom_59 : decode cX12_joinsFrom 59 = .ok (.aload_n 0, 1) := by decide +kernel
theorem dX12_joinsFrom_60 : decode cX12_joinsFrom 60 = .ok (.getfield 15, 3) := by decide +kernel
theorem dX12_joinsFrom_63 : decode cX12_joinsFrom 63 = .ok (.iconst 1, 1) := by decide +kernel
theorem dX12_joinsFrom_64 : decode cX12_joinsFrom 64 = .ok (.iaload, 1) := by decide +kernel
theorem dX12_joinsFrom_65 : decode cX12_joinsFrom 65 = .ok (.if_icmp .ge 141, 3) := by decide +kernel
theorem dX12_joinsFrom_68 : decode cX12_joinsFrom 68 = .ok (.iload_n 1, 1) := by decide +kernel
theorem dX12_joinsFrom_69 : decode cX12_joinsFrom 69 = .ok (.iload 6, 2) := by decide +kernel
theorem dX12_joinsFrom_71 : decode cX12_joinsFrom 71 = .ok (.ishr, 1) := by decide +kernel
theorem dX12_joinsFrom_72 : decode cX12_joinsFrom 72 = .ok (.iconst 1, 1) := by decide +kernel
theorem dX12_joinsFrom_73 : decode cX12_joinsFrom 73 = .ok (.iand, 1) := by decide +kernel
theorem dX12_joinsFrom_74 : decode cX12_joinsFrom 74 = .ok (.ifCond .eq 126, 3) := by decide +kernel
theorem dX12_joinsFrom_77 : decode cX12_joinsFrom 77 = .ok (.aload_n 0, 1) := by decide +kernel
theorem dX12_joinsFrom_78 : decode cX12_joinsFrom 78 = .ok (.getfield 129, 3) := by decide +kernel
theorem dX12_joinsFrom_81 : decode cX12_joinsFrom 81 = .ok (.aload_n 0, 1) := by decide +kernel
theorem dX12_joinsFrom_82 : decode cX12_joinsFrom 82 = .ok (.getfield 30, 3) := by decide +kernel
theorem dX12_joinsFrom_85 : decode cX12_joinsFrom 85 = .ok (.iload 6, 2) := by decide +kernel
theorem dX12_joinsFrom_87 : decode cX12_joinsFrom 87 = .ok (.iaload, 1) := by decide +kernel
theorem dX12_joinsFrom_88 : decode cX12_joinsFrom 88 = .ok (.iaload, 1) := by decide +kernel
theorem dX12_joinsFrom_89 : decode cX12_joinsFrom 89 = .ok (.iconst (-1), 1) := by decide +kernel
theorem dX12_joinsFrom_90 : decode cX12_joinsFrom 90 = .ok (.if_icmp .ne 7, 3) := by decide +kernel
theorem dX12_joinsFrom_93 : decode cX12_joinsFrom 93 = .ok (.iconst 1, 1) := by decide +kernel
theorem dX12_joinsFrom_94 : decode cX12_joinsFrom 94 = .ok (.goto 4, 3) := by decide +kernel
theorem dX12_joinsFrom_97 : decode cX12_joinsFrom 97 = .ok (.iconst 0, 1) := by decide +kernel
theorem dX12_joinsFrom_98 : decode cX12_joinsFrom 98 = .ok (.aload_n 0, 1) := by decide +kernel
theorem dX12_joinsFrom_99 : decode cX12_joinsFrom 99 = .ok (.getfield 129, 3) := by decide +kernel
theorem dX12_joinsFrom_102 : decode cX12_joinsFrom 102 = .ok (.aload_n 0, 1) := by decide +kernel
theorem dX12_joinsFrom_103 : decode cX12_joinsFrom 103 = .ok (.getfield 33, 3) := by decide +kernel
theorem dX12_joinsFrom_106 : decode cX12_joinsFrom 106 = .ok (.iload 6, 2) := by decide +kernel
theorem dX12_joinsFrom_108 : decode cX12_joinsFrom 108 = .ok (.iaload, 1) := by decide +kernel
theorem dX12_joinsFrom_109 : decode cX12_joinsFrom 109 = .ok (.iaload, 1) := by decide +kernel
theorem dX12_joinsFrom_110 : decode cX12_joinsFrom 110 = .ok (.iconst (-1), 1) := by decide +kernel
theorem dX12_joinsFrom_111 : decode cX12_joinsFrom 111 = .ok (.if_icmp .ne 7, 3) := by decide +kernel
theorem dX12_joinsFrom_114 : decode cX12_joinsFrom 114 = .ok (.iconst 1, 1) := by decide +kernel
theorem dX12_joinsFrom_115 : decode cX12_joinsFrom 115 = .ok (.goto 4, 3) := by decide +kernel
theorem dX12_joinsFrom_118 : decode cX12_joinsFrom 118 = .ok (.iconst 0, 1) := by decide +kernel
theorem dX12_joinsFrom_119 : decode cX12_joinsFrom 119 = .ok (.if_icmp .ne 6, 3) := by decide +kernel
theorem dX12_joinsFrom_122 : decode cX12_joinsFrom 122 = .ok (.goto 78, 3) := by decide +kernel
theorem dX12_joinsFrom_125 : decode cX12_joinsFrom 125 = .ok (.aload_n 0, 1) := by decide +kernel
theorem dX12_joinsFrom_126 : decode cX12_joinsFrom 126 = .ok (.getfield 129, 3) := by decide +kernel
theorem dX12_joinsFrom_129 : decode cX12_joinsFrom 129 = .ok (.aload_n 0, 1) := by decide +kernel
theorem dX12_joinsFrom_130 : decode cX12_joinsFrom 130 = .ok (.getfield 30, 3) := by decide +kernel
theorem dX12_joinsFrom_133 : decode cX12_joinsFrom 133 = .ok (.iload 6, 2) := by decide +kernel
theorem dX12_joinsFrom_135 : decode cX12_joinsFrom 135 = .ok (.iaload, 1) := by decide +kernel
theorem dX12_joinsFrom_136 : decode cX12_joinsFrom 136 = .ok (.iaload, 1) := by decide +kernel
theorem dX12_joinsFrom_137 : decode cX12_joinsFrom 137 = .ok (.iconst (-1), 1) := by decide +kernel
theorem dX12_joinsFrom_138 : decode cX12_joinsFrom 138 = .ok (.if_icmp .ne 13, 3) := by decide +kernel
theorem dX12_joinsFrom_141 : decode cX12_joinsFrom 141 = .ok (.aload_n 0, 1) := by decide +kernel
theorem dX12_joinsFrom_142 : decode cX12_joinsFrom 142 = .ok (.getfield 30, 3) := by decide +kernel
theorem dX12_joinsFrom_145 : decode cX12_joinsFrom 145 = .ok (.iload 6, 2) := by decide +kernel
theorem dX12_joinsFrom_147 : decode cX12_joinsFrom 147 = .ok (.iaload, 1) := by decide +kernel
theorem dX12_joinsFrom_148 : decode cX12_joinsFrom 148 = .ok (.goto 10, 3) := by decide +kernel
theorem dX12_joinsFrom_151 : decode cX12_joinsFrom 151 = .ok (.aload_n 0, 1) := by decide +kernel
theorem dX12_joinsFrom_152 : decode cX12_joinsFrom 152 = .ok (.getfield 33, 3) := by decide +kernel
theorem dX12_joinsFrom_155 : decode cX12_joinsFrom 155 = .ok (.iload 6, 2) := by decide +kernel
theorem dX12_joinsFrom_157 : decode cX12_joinsFrom 157 = .ok (.iaload, 1) := by decide +kernel
theorem dX12_joinsFrom_158 : decode cX12_joinsFrom 158 = .ok (.istore 7, 2) := by decide +kernel
theorem dX12_joinsFrom_160 : decode cX12_joinsFrom 160 = .ok (.aload_n 0, 1) := by decide +kernel
theorem dX12_joinsFrom_161 : decode cX12_joinsFrom 161 = .ok (.getfield 129, 3) := by decide +kernel
theorem dX12_joinsFrom_164 : decode cX12_joinsFrom 164 = .ok (.iload 7, 2) := by decide +kernel
theorem dX12_joinsFrom_166 : decode cX12_joinsFrom 166 = .ok (.aload_n 0, 1) := by decide +kernel
theorem dX12_joinsFrom_167 : decode cX12_joinsFrom 167 = .ok (.getfield 129, 3) := by decide +kernel
theorem dX12_joinsFrom_170 : decode cX12_joinsFrom 170 = .ok (.aload_n 0, 1) := by decide +kernel
theorem dX12_joinsFrom_171 : decode cX12_joinsFrom 171 = .ok (.iload 6, 2) := by decide +kernel
theorem dX12_joinsFrom_173 : decode cX12_joinsFrom 173 = .ok (.iload 7, 2) := by decide +kernel
theorem dX12_joinsFrom_175 : decode cX12_joinsFrom 175 = .ok (.invokevirtual 377, 3) := by decide +kernel
theorem dX12_joinsFrom_178 : decode cX12_joinsFrom 178 = .ok (.iaload, 1) := by decide +kernel
theorem dX12_joinsFrom_179 : decode cX12_joinsFrom 179 = .ok (.iconst 1, 1) := by decide +kernel
theorem dX12_joinsFrom_180 : decode cX12_joinsFrom 180 = .ok (.iadd, 1) := by decide +kernel
theorem dX12_joinsFrom_181 : decode cX12_joinsFrom 181 = .ok (.iastore, 1) := by decide +kernel
theorem dX12_joinsFrom_182 : decode cX12_joinsFrom 182 = .ok (.aload_n 0, 1) := by decide +kernel
theorem dX12_joinsFrom_183 : decode cX12_joinsFrom 183 = .ok (.getfield 83, 3) := by decide +kernel
theorem dX12_joinsFrom_186 : decode cX12_joinsFrom 186 = .ok (.bipush 7, 2) := by decide +kernel
theorem dX12_joinsFrom_188 : decode cX12_joinsFrom 188 = .ok (.iload 7, 2) := by decide +kernel
theorem dX12_joinsFrom_190 : decode cX12_joinsFrom 190 = .ok (.iadd, 1) := by decide +kernel
theorem dX12_joinsFrom_191 : decode cX12_joinsFrom 191 = .ok (.iload 6, 2) := by decide +kernel
theorem dX12_joinsFrom_193 : decode cX12_joinsFrom 193 = .ok (.iastore, 1) := by decide +kernel
theorem dX12_joinsFrom_194 : decode cX12_joinsFrom 194 = .ok (.iinc 4 1, 3) := by decide +kernel
theorem dX12_joinsFrom_197 : decode cX12_joinsFrom 197 = .ok (.iconst 1, 1) := by decide +kernel
theorem dX12_joinsFrom_198 : decode cX12_joinsFrom 198 = .ok (.istore 5, 2) := by decide +kernel
theorem dX12_joinsFrom_200 : decode cX12_joinsFrom 200 = .ok (.iinc 6 1, 3) := by decide +kernel
theorem dX12_joinsFrom_203 : decode cX12_joinsFrom 203 = .ok (.goto (-146), 3) := by decide +kernel
theorem dX12_joinsFrom_206 : decode cX12_joinsFrom 206 = .ok (.goto (-160), 3) := by decide +kernel
theorem dX12_joinsFrom_209 : decode cX12_joinsFrom 209 = .ok (.iload 4, 2) := by decide +kernel
theorem dX12_joinsFrom_211 : decode cX12_joinsFrom 211 = .ok (.iload_n 3, 1) := by decide +kernel
theorem dX12_joinsFrom_212 : decode cX12_joinsFrom 212 = .ok (.if_icmp .ne 7, 3) := by decide +kernel
theorem dX12_joinsFrom_215 : decode cX12_joinsFrom 215 = .ok (.iconst 1, 1) := by decide +kernel
theorem dX12_joinsFrom_216 : decode cX12_joinsFrom 216 = .ok (.goto 4, 3) := by decide +kernel
theorem dX12_joinsFrom_219 : decode cX12_joinsFrom 219 = .ok (.iconst 0, 1) := by decide +kernel
theorem dX12_joinsFrom_220 : decode cX12_joinsFrom 220 = .ok (.ireturn, 1) := by decide +kernel
theorem dX12_atLeast_0 : decode cX12_atLeast 0 = .ok (.iload_n 0, 1) := by decide +kernel
theorem dX12_atLeast_1 : decode cX12_atLeast 1 = .ok (.iconst 4, 1) := by decide +kernel
theorem dX12_atLeast_2 : decode cX12_atLeast 2 = .ok (.imul, 1) := by decide +kernel
theorem dX12_atLeast_3 : decode cX12_atLeast 3 = .ok (.iload_n 1, 1) := by decide +kernel
theorem dX12_atLeast_4 : decode cX12_atLeast 4 = .ok (.iadd, 1) := by decide +kernel
theorem dX12_atLeast_5 : decode cX12_atLeast 5 = .ok (.bipush 13, 2) := by decide +kernel
theorem dX12_atLeast_7 : decode cX12_atLeast 7 = .ok (.imul, 1) := by decide +kernel
theorem dX12_atLeast_8 : decode cX12_atLeast 8 = .ok (.iload_n 2, 1) := by decide +kernel
theorem dX12_atLeast_9 : decode cX12_atLeast 9 = .ok (.iadd, 1) := by decide +kernel
theorem dX12_atLeast_10 : decode cX12_atLeast 10 = .ok (.ireturn, 1) := by decide +kernel
theorem dX12_plus_0 : decode cX12_plus 0 = .ok (.lload_n 0, 1) := by decide +kernel
theorem dX12_plus_1 : decode cX12_plus 1 = .ok (.ldc2_w 423, 3) := by decide +kernel
theorem dX12_plus_4 : decode cX12_plus 4 = .ok (.lcmp, 1) := by decide +kernel
theorem dX12_plus_5 : decode cX12_plus 5 = .ok (.ifCond .ge 11, 3) := by decide +kernel
theorem dX12_plus_8 : decode cX12_plus 8 = .ok (.lload_n 2, 1) := by decide +kernel
theorem dX12_plus_9 : decode cX12_plus 9 = .ok (.ldc2_w 423, 3) := by decide +kernel
theorem dX12_plus_12 : decode cX12_plus 12 = .ok (.lcmp, 1) := by decide +kernel
theorem dX12_plus_13 : decode cX12_plus 13 = .ok (.ifCond .lt 9, 3) := by decide +kernel
theorem dX12_plus_16 : decode cX12_plus 16 = .ok (.ldc2_w 423, 3) := by decide +kernel
theorem dX12_plus_19 : decode cX12_plus 19 = .ok (.goto 6, 3) := by decide +kernel
theorem dX12_plus_22 : decode cX12_plus 22 = .ok (.lload_n 0, 1) := by decide +kernel
theorem dX12_plus_23 : decode cX12_plus 23 = .ok (.lload_n 2, 1) := by decide +kernel
theorem dX12_plus_24 : decode cX12_plus 24 = .ok (.ladd, 1) := by decide +kernel
theorem dX12_plus_25 : decode cX12_plus 25 = .ok (.lreturn, 1) := by decide +kernel
theorem dX12_comes_0 : decode cX12_comes 0 = .ok (.ldc2_w 423, 3) := by decide +kernel
theorem dX12_comes_3 : decode cX12_comes 3 = .ok (.lstore 5, 2) := by decide +kernel
theorem dX12_comes_5 : decode cX12_comes 5 = .ok (.iconst 0, 1) := by decide +kernel
theorem dX12_comes_6 : decode cX12_comes 6 = .ok (.istore 7, 2) := by decide +kernel
theorem dX12_comes_8 : decode cX12_comes 8 = .ok (.iload 7, 2) := by decide +kernel
theorem dX12_comes_10 : decode cX12_comes 10 = .ok (.iload_n 2, 1) := by decide +kernel
theorem dX12_comes_11 : decode cX12_comes 11 = .ok (.if_icmp .gt 53, 3) := by decide +kernel
theorem dX12_comes_14 : decode cX12_comes 14 = .ok (.iload 4, 2) := by decide +kernel
theorem dX12_comes_16 : decode cX12_comes 16 = .ok (.ifCond .eq 7, 3) := by decide +kernel
theorem dX12_comes_19 : decode cX12_comes 19 = .ok (.iload_n 3, 1) := by decide +kernel
theorem dX12_comes_20 : decode cX12_comes 20 = .ok (.goto 4, 3) := by decide +kernel
theorem dX12_comes_23 : decode cX12_comes 23 = .ok (.iconst 0, 1) := by decide +kernel
theorem dX12_comes_24 : decode cX12_comes 24 = .ok (.istore 8, 2) := by decide +kernel
theorem dX12_comes_26 : decode cX12_comes 26 = .ok (.iload 8, 2) := by decide +kernel
theorem dX12_comes_28 : decode cX12_comes 28 = .ok (.iload_n 3, 1) := by decide +kernel
theorem dX12_comes_29 : decode cX12_comes 29 = .ok (.if_icmp .gt 29, 3) := by decide +kernel
theorem dX12_comes_32 : decode cX12_comes 32 = .ok (.lload 5, 2) := by decide +kernel
theorem dX12_comes_34 : decode cX12_comes 34 = .ok (.aload_n 0, 1) := by decide +kernel
theorem dX12_comes_35 : decode cX12_comes 35 = .ok (.getfield 132, 3) := by decide +kernel
theorem dX12_comes_38 : decode cX12_comes 38 = .ok (.iload_n 1, 1) := by decide +kernel
theorem dX12_comes_39 : decode cX12_comes 39 = .ok (.iload 7, 2) := by decide +kernel
theorem dX12_comes_41 : decode cX12_comes 41 = .ok (.iload 8, 2) := by decide +kernel
theorem dX12_comes_43 : decode cX12_comes 43 = .ok (.invokestatic 503, 3) := by decide +kernel
theorem dX12_comes_46 : decode cX12_comes 46 = .ok (.laload, 1) := by decide +kernel
theorem dX12_comes_47 : decode cX12_comes 47 = .ok (.invokestatic 429, 3) := by decide +kernel
theorem dX12_comes_50 : decode cX12_comes 50 = .ok (.lstore 5, 2) := by decide +kernel
theorem dX12_comes_52 : decode cX12_comes 52 = .ok (.iinc 8 1, 3) := by decide +kernel
theorem dX12_comes_55 : decode cX12_comes 55 = .ok (.goto (-29), 3) := by decide +kernel
theorem dX12_comes_58 : decode cX12_comes 58 = .ok (.iinc 7 1, 3) := by decide +kernel
theorem dX12_comes_61 : decode cX12_comes 61 = .ok (.goto (-53), 3) := by decide +kernel
theorem dX12_comes_64 : decode cX12_comes 64 = .ok (.lload 5, 2) := by decide +kernel
theorem dX12_comes_66 : decode cX12_comes 66 = .ok (.lreturn, 1) := by decide +kernel
theorem dX12_allCome_0 : decode cX12_allCome 0 = .ok (.lconst 0, 1) := by decide +kernel
theorem dX12_allCome_1 : decode cX12_allCome 1 = .ok (.lstore 5, 2) := by decide +kernel
theorem dX12_allCome_3 : decode cX12_allCome 3 = .ok (.iconst 0, 1) := by decide +kernel
theorem dX12_allCome_4 : decode cX12_allCome 4 = .ok (.istore 7, 2) := by decide +kernel
theorem dX12_allCome_6 : decode cX12_allCome 6 = .ok (.iload 7, 2) := by decide +kernel
theorem dX12_allCome_8 : decode cX12_allCome 8 = .ok (.aload_n 0, 1) := by decide +kernel
theorem dX12_allCome_9 : decode cX12_allCome 9 = .ok (.getfield 15, 3) := by decide +kernel
theorem dX12_allCome_12 : decode cX12_allCome 12 = .ok (.iconst 0, 1) := by decide +kernel
theorem dX12_allCome_13 : decode cX12_allCome 13 = .ok (.iaload, 1) := by decide +kernel
theorem dX12_allCome_14 : decode cX12_allCome 14 = .ok (.if_icmp .ge 35, 3) := by decide +kernel
theorem dX12_allCome_17 : decode cX12_allCome 17 = .ok (.aload_n 0, 1) := by decide +kernel
theorem dX12_allCome_18 : decode cX12_allCome 18 = .ok (.iload 7, 2) := by decide +kernel
theorem dX12_allCome_20 : decode cX12_allCome 20 = .ok (.iload_n 1, 1) := by decide +kernel
theorem dX12_allCome_21 : decode cX12_allCome 21 = .ok (.invokevirtual 416, 3) := by decide +kernel
theorem dX12_allCome_24 : decode cX12_allCome 24 = .ok (.ifCond .eq 19, 3) := by decide +kernel
theorem dX12_allCome_27 : decode cX12_allCome 27 = .ok (.lload 5, 2) := by decide +kernel
theorem dX12_allCome_29 : decode cX12_allCome 29 = .ok (.aload_n 0, 1) := by decide +kernel
theorem dX12_allCome_30 : decode cX12_allCome 30 = .ok (.iload 7, 2) := by decide +kernel
theorem dX12_allCome_32 : decode cX12_allCome 32 = .ok (.iload_n 2, 1) := by decide +kernel
theorem dX12_allCome_33 : decode cX12_allCome 33 = .ok (.iload_n 3, 1) := by decide +kernel
theorem dX12_allCome_34 : decode cX12_allCome 34 = .ok (.iconst 0, 1) := by decide +kernel
theorem dX12_allCome_35 : decode cX12_allCome 35 = .ok (.invokevirtual 506, 3) := by decide +kernel
theorem dX12_allCome_38 : decode cX12_allCome 38 = .ok (.invokestatic 510, 3) := by decide +kernel
theorem dX12_allCome_41 : decode cX12_allCome 41 = .ok (.lstore 5, 2) := by decide +kernel
theorem dX12_allCome_43 : decode cX12_allCome 43 = .ok (.iinc 7 1, 3) := by decide +kernel
theorem dX12_allCome_46 : decode cX12_allCome 46 = .ok (.goto (-40), 3) := by decide +kernel
theorem dX12_allCome_49 : decode cX12_allCome 49 = .ok (.iload 4, 2) := by decide +kernel
theorem dX12_allCome_51 : decode cX12_allCome 51 = .ok (.ifCond .ne 6, 3) := by decide +kernel
theorem dX12_allCome_54 : decode cX12_allCome 54 = .ok (.lload 5, 2) := by decide +kernel
theorem dX12_allCome_56 : decode cX12_allCome 56 = .ok (.lreturn, 1) := by decide +kernel
theorem dX12_allCome_57 : decode cX12_allCome 57 = .ok (.ldc2_w 423, 3) := by decide +kernel
theorem dX12_allCome_60 : decode cX12_allCome 60 = .ok (.lstore 7, 2) := by decide +kernel
theorem dX12_allCome_62 : decode cX12_allCome 62 = .ok (.iconst 0, 1) := by decide +kernel
theorem dX12_allCome_63 : decode cX12_allCome 63 = .ok (.istore 9, 2) := by decide +kernel
theorem dX12_allCome_65 : decode cX12_allCome 65 = .ok (.iload 9, 2) := by decide +kernel
theorem dX12_allCome_67 : decode cX12_allCome 67 = .ok (.aload_n 0, 1) := by decide +kernel
theorem dX12_allCome_68 : decode cX12_allCome 68 = .ok (.getfield 15, 3) := by decide +kernel
theorem dX12_allCome_71 : decode cX12_allCome 71 = .ok (.iconst 0, 1) := by decide +kernel
theorem dX12_allCome_72 : decode cX12_allCome 72 = .ok (.iaload, 1) := by decide +kernel
theorem dX12_allCome_73 : decode cX12_allCome 73 = .ok (.if_icmp .ge 95, 3) := by decide +kernel
theorem dX12_allCome_76 : decode cX12_allCome 76 = .ok (.aload_n 0, 1) := by decide +kernel
theorem dX12_allCome_77 : decode cX12_allCome 77 = .ok (.iload 9, 2) := by decide +kernel
theorem dX12_allCome_79 : decode cX12_allCome 79 = .ok (.iload_n 1, 1) := by decide +kernel
theorem dX12_allCome_80 : decode cX12_allCome 80 = .ok (.invokevirtual 416, 3) := by decide +kernel
theorem dX12_allCome_83 : decode cX12_allCome 83 = .ok (.ifCond .ne 6, 3) := by decide +kernel
theorem dX12_allCome_86 : decode cX12_allCome 86 = .ok (.goto 76, 3) := by decide +kernel
theorem dX12_allCome_89 : decode cX12_allCome 89 = .ok (.aload_n 0, 1) := by decide +kernel
theorem dX12_allCome_90 : decode cX12_allCome 90 = .ok (.iload 9, 2) := by decide +kernel
theorem dX12_allCome_92 : decode cX12_allCome 92 = .ok (.iload_n 2, 1) := by decide +kernel
theorem dX12_allCome_93 : decode cX12_allCome 93 = .ok (.iload_n 3, 1) := by decide +kernel
theorem dX12_allCome_94 : decode cX12_allCome 94 = .ok (.iconst 1, 1) := by decide +kernel
theorem dX12_allCome_95 : decode cX12_allCome 95 = .ok (.invokevirtual 506, 3) := by decide +kernel
theorem dX12_allCome_98 : decode cX12_allCome 98 = .ok (.lstore 10, 2) := by decide +kernel
theorem dX12_allCome_100 : decode cX12_allCome 100 = .ok (.iconst 0, 1) := by decide +kernel
theorem dX12_allCome_101 : decode cX12_allCome 101 = .ok (.istore 12, 2) := by decide +kernel
theorem dX12_allCome_103 : decode cX12_allCome 103 = .ok (.iload 12, 2) := by decide +kernel
theorem dX12_allCome_105 : decode cX12_allCome 105 = .ok (.aload_n 0, 1) := by decide +kernel
theorem dX12_allCome_106 : decode cX12_allCome 106 = .ok (.getfield 15, 3) := by decide +kernel
theorem dX12_allCome_109 : decode cX12_allCome 109 = .ok (.iconst 0, 1) := by decide +kernel
theorem dX12_allCome_110 : decode cX12_allCome 110 = .ok (.iaload, 1) := by decide +kernel
theorem dX12_allCome_111 : decode cX12_allCome 111 = .ok (.if_icmp .ge 42, 3) := by decide +kernel
theorem dX12_allCome_114 : decode cX12_allCome 114 = .ok (.iload 12, 2) := by decide +kernel
theorem dX12_allCome_116 : decode cX12_allCome 116 = .ok (.iload 9, 2) := by decide +kernel
theorem dX12_allCome_118 : decode cX12_allCome 118 = .ok (.if_icmp .eq 29, 3) := by decide +kernel
theorem dX12_allCome_121 : decode cX12_allCome 121 = .ok (.aload_n 0, 1) := by decide +kernel
theorem dX12_allCome_122 : decode cX12_allCome 122 = .ok (.iload 12, 2) := by decide +kernel
theorem dX12_allCome_124 : decode cX12_allCome 124 = .ok (.iload_n 1, 1) := by decide +kernel
theorem dX12_allCome_125 : decode cX12_allCome 125 = .ok (.invokevirtual 416, 3) := by decide +kernel
theorem dX12_allCome_128 : decode cX12_allCome 128 = .ok (.ifCond .eq 19, 3) := by decide +kernel
theorem dX12_allCome_131 : decode cX12_allCome 131 = .ok (.lload 10, 2) := by decide +kernel
theorem dX12_allCome_133 : decode cX12_allCome 133 = .ok (.aload_n 0, 1) := by decide +kernel
theorem dX12_allCome_134 : decode cX12_allCome 134 = .ok (.iload 12, 2) := by decide +kernel
theorem dX12_allCome_136 : decode cX12_allCome 136 = .ok (.iload_n 2, 1) := by decide +kernel
theorem dX12_allCome_137 : decode cX12_allCome 137 = .ok (.iload_n 3, 1) := by decide +kernel
theorem dX12_allCome_138 : decode cX12_allCome 138 = .ok (.iconst 0, 1) := by decide +kernel
theorem dX12_allCome_139 : decode cX12_allCome 139 = .ok (.invokevirtual 506, 3) := by decide +kernel
theorem dX12_allCome_142 : decode cX12_allCome 142 = .ok (.invokestatic 510, 3) := by decide +kernel
theorem dX12_allCome_145 : decode cX12_allCome 145 = .ok (.lstore 10, 2) := by decide +kernel
theorem dX12_allCome_147 : decode cX12_allCome 147 = .ok (.iinc 12 1, 3) := by decide +kernel
theorem dX12_allCome_150 : decode cX12_allCome 150 = .ok (.goto (-47), 3) := by decide +kernel
theorem dX12_allCome_153 : decode cX12_allCome 153 = .ok (.lload 7, 2) := by decide +kernel
theorem dX12_allCome_155 : decode cX12_allCome 155 = .ok (.lload 10, 2) := by decide +kernel
theorem dX12_allCome_157 : decode cX12_allCome 157 = .ok (.invokestatic 429, 3) := by decide +kernel
theorem dX12_allCome_160 : decode cX12_allCome 160 = .ok (.lstore 7, 2) := by decide +kernel
theorem dX12_allCome_162 : decode cX12_allCome 162 = .ok (.iinc 9 1, 3) := by decide +kernel
theorem dX12_allCome_165 : decode cX12_allCome 165 = .ok (.goto (-100), 3) := by decide +kernel
theorem dX12_allCome_168 : decode cX12_allCome 168 = .ok (.lload 7, 2) := by decide +kernel
theorem dX12_allCome_170 : decode cX12_allCome 170 = .ok (.lreturn, 1) := by decide +kernel
theorem dX12_behind_0 : decode cX12_behind 0 = .ok (.aload_n 0, 1) := by decide +kernel
theorem dX12_behind_1 : decode cX12_behind 1 = .ok (.iload_n 1, 1) := by decide +kernel
theorem dX12_behind_2 : decode cX12_behind 2 = .ok (.iload_n 2, 1) := by decide +kernel
theorem dX12_behind_3 : decode cX12_behind 3 = .ok (.iload_n 3, 1) := by decide +kernel
theorem dX12_behind_4 : decode cX12_behind 4 = .ok (.iconst 0, 1) := by decide +kernel
theorem dX12_behind_5 : decode cX12_behind 5 = .ok (.invokevirtual 513, 3) := by decide +kernel
theorem dX12_behind_8 : decode cX12_behind 8 = .ok (.lstore 4, 2) := by decide +kernel
theorem dX12_behind_10 : decode cX12_behind 10 = .ok (.iload_n 3, 1) := by decide +kernel
theorem dX12_behind_11 : decode cX12_behind 11 = .ok (.iconst 1, 1) := by decide +kernel
theorem dX12_behind_12 : decode cX12_behind 12 = .ok (.iadd, 1) := by decide +kernel
theorem dX12_behind_13 : decode cX12_behind 13 = .ok (.istore 6, 2) := by decide +kernel
theorem dX12_behind_15 : decode cX12_behind 15 = .ok (.iload 6, 2) := by decide +kernel
theorem dX12_behind_17 : decode cX12_behind 17 = .ok (.aload_n 0, 1) := by decide +kernel
theorem dX12_behind_18 : decode cX12_behind 18 = .ok (.getfield 15, 3) := by decide +kernel
theorem dX12_behind_21 : decode cX12_behind 21 = .ok (.bipush 9, 2) := by decide +kernel
theorem dX12_behind_23 : decode cX12_behind 23 = .ok (.iaload, 1) := by decide +kernel
theorem dX12_behind_24 : decode cX12_behind 24 = .ok (.if_icmp .gt 50, 3) := by decide +kernel
theorem dX12_behind_27 : decode cX12_behind 27 = .ok (.aload_n 0, 1) := by decide +kernel
theorem dX12_behind_28 : decode cX12_behind 28 = .ok (.iconst 2, 1) := by decide +kernel
theorem dX12_behind_29 : decode cX12_behind 29 = .ok (.invokevirtual 360, 3) := by decide +kernel
theorem dX12_behind_32 : decode cX12_behind 32 = .ok (.ifCond .eq 42, 3) := by decide +kernel
theorem dX12_behind_35 : decode cX12_behind 35 = .ok (.lload 4, 2) := by decide +kernel
theorem dX12_behind_37 : decode cX12_behind 37 = .ok (.aload_n 0, 1) := by decide +kernel
theorem dX12_behind_38 : decode cX12_behind 38 = .ok (.iload 6, 2) := by decide +kernel
theorem dX12_behind_40 : decode cX12_behind 40 = .ok (.iload_n 3, 1) := by decide +kernel
theorem dX12_behind_41 : decode cX12_behind 41 = .ok (.isub, 1) := by decide +kernel
theorem dX12_behind_42 : decode cX12_behind 42 = .ok (.aload_n 0, 1) := by decide +kernel
theorem dX12_behind_43 : decode cX12_behind 43 = .ok (.getfield 135, 3) := by decide +kernel
theorem dX12_behind_46 : decode cX12_behind 46 = .ok (.iload_n 1, 1) := by decide +kernel
theorem dX12_behind_47 : decode cX12_behind 47 = .ok (.laload, 1) := by decide +kernel
theorem dX12_behind_48 : decode cX12_behind 48 = .ok (.invokevirtual 470, 3) := by decide +kernel
theorem dX12_behind_51 : decode cX12_behind 51 = .ok (.aload_n 0, 1) := by decide +kernel
theorem dX12_behind_52 : decode cX12_behind 52 = .ok (.iload_n 1, 1) := by decide +kernel
theorem dX12_behind_53 : decode cX12_behind 53 = .ok (.iload_n 2, 1) := by decide +kernel
theorem dX12_behind_54 : decode cX12_behind 54 = .ok (.iload 6, 2) := by decide +kernel
theorem dX12_behind_56 : decode cX12_behind 56 = .ok (.iconst 1, 1) := by decide +kernel
theorem dX12_behind_57 : decode cX12_behind 57 = .ok (.invokevirtual 513, 3) := by decide +kernel
theorem dX12_behind_60 : decode cX12_behind 60 = .ok (.invokestatic 510, 3) := by decide +kernel
theorem dX12_behind_63 : decode cX12_behind 63 = .ok (.invokestatic 429, 3) := by decide +kernel
theorem dX12_behind_66 : decode cX12_behind 66 = .ok (.lstore 4, 2) := by decide +kernel
theorem dX12_behind_68 : decode cX12_behind 68 = .ok (.iinc 6 1, 3) := by decide +kernel
theorem dX12_behind_71 : decode cX12_behind 71 = .ok (.goto (-56), 3) := by decide +kernel
theorem dX12_behind_74 : decode cX12_behind 74 = .ok (.lload 4, 2) := by decide +kernel
theorem dX12_behind_76 : decode cX12_behind 76 = .ok (.lreturn, 1) := by decide +kernel
theorem dX12_isFixed_0 : decode cX12_isFixed 0 = .ok (.iload_n 0, 1) := by decide +kernel
theorem dX12_isFixed_1 : decode cX12_isFixed 1 = .ok (.iconst (-1), 1) := by decide +kernel
theorem dX12_isFixed_2 : decode cX12_isFixed 2 = .ok (.if_icmp .eq 8, 3) := by decide +kernel
theorem dX12_isFixed_5 : decode cX12_isFixed 5 = .ok (.iload_n 0, 1) := by decide +kernel
theorem dX12_isFixed_6 : decode cX12_isFixed 6 = .ok (.iload_n 1, 1) := by decide +kernel
theorem dX12_isFixed_7 : decode cX12_isFixed 7 = .ok (.if_icmp .ne 7, 3) := by decide +kernel
theorem dX12_isFixed_10 : decode cX12_isFixed 10 = .ok (.iconst 1, 1) := by decide +kernel
theorem dX12_isFixed_11 : decode cX12_isFixed 11 = .ok (.goto 4, 3) := by decide +kernel
theorem dX12_isFixed_14 : decode cX12_isFixed 14 = .ok (.iconst 0, 1) := by decide +kernel
theorem dX12_isFixed_15 : decode cX12_isFixed 15 = .ok (.ireturn, 1) := by decide +kernel
theorem dX12_layCorner_0 : decode cX12_layCorner 0 = .ok (.iconst 0, 1) := by decide +kernel
theorem dX12_layCorner_1 : decode cX12_layCorner 1 = .ok (.istore_n 2, 1) := by decide +kernel
theorem dX12_layCorner_2 : decode cX12_layCorner 2 = .ok (.iload_n 2, 1) := by decide +kernel
theorem dX12_layCorner_3 : decode cX12_layCorner 3 = .ok (.bipush 52, 2) := by decide +kernel
theorem dX12_layCorner_5 : decode cX12_layCorner 5 = .ok (.if_icmp .ge 25, 3) := by decide +kernel
theorem dX12_layCorner_8 : decode cX12_layCorner 8 = .ok (.aload_n 0, 1) := by decide +kernel
theorem dX12_layCorner_9 : decode cX12_layCorner 9 = .ok (.getfield 132, 3) := by decide +kernel
theorem dX12_layCorner_12 : decode cX12_layCorner 12 = .ok (.iload_n 1, 1) := by decide +kernel
theorem dX12_layCorner_13 : decode cX12_layCorner 13 = .ok (.iconst 0, 1) := by decide +kernel
theorem dX12_layCorner_14 : decode cX12_layCorner 14 = .ok (.iconst 0, 1) := by decide +kernel
theorem dX12_layCorner_15 : decode cX12_layCorner 15 = .ok (.invokestatic 503, 3) := by decide +kernel
theorem dX12_layCorner_18 : decode cX12_layCorner 18 = .ok (.iload_n 2, 1) := by decide +kernel
theorem dX12_layCorner_19 : decode cX12_layCorner 19 = .ok (.iadd, 1) := by decide +kernel
theorem dX12_layCorner_20 : decode cX12_layCorner 20 = .ok (.ldc2_w 423, 3) := by decide +kernel
theorem dX12_layCorner_23 : decode cX12_layCorner 23 = .ok (.lastore, 1) := by decide +kernel
theorem dX12_layCorner_24 : decode cX12_layCorner 24 = .ok (.iinc 2 1, 3) := by decide +kernel
theorem dX12_layCorner_27 : decode cX12_layCorner 27 = .ok (.goto (-25), 3) := by decide +kernel
theorem dX12_layCorner_30 : decode cX12_layCorner 30 = .ok (.aload_n 0, 1) := by decide +kernel
theorem dX12_layCorner_31 : decode cX12_layCorner 31 = .ok (.iload_n 1, 1) := by decide +kernel
theorem dX12_layCorner_32 : decode cX12_layCorner 32 = .ok (.invokevirtual 374, 3) := by decide +kernel
theorem dX12_layCorner_35 : decode cX12_layCorner 35 = .ok (.istore_n 2, 1) := by decide +kernel
theorem dX12_layCorner_36 : decode cX12_layCorner 36 = .ok (.iconst 0, 1) := by decide +kernel
theorem dX12_layCorner_37 : decode cX12_layCorner 37 = .ok (.istore_n 3, 1) := by decide +kernel
theorem dX12_layCorner_38 : decode cX12_layCorner 38 = .ok (.iload_n 3, 1) := by decide +kernel
theorem dX12_layCorner_39 : decode cX12_layCorner 39 = .ok (.aload_n 0, 1) := by decide +kernel
theorem dX12_layCorner_40 : decode cX12_layCorner 40 = .ok (.getfield 15, 3) := by decide +kernel
theorem dX12_layCorner_43 : decode cX12_layCorner 43 = .ok (.iconst 2, 1) := by decide +kernel
theorem dX12_layCorner_44 : decode cX12_layCorner 44 = .ok (.iaload, 1) := by decide +kernel
theorem dX12_layCorner_45 : decode cX12_layCorner 45 = .ok (.if_icmp .ge 238, 3) := by decide +kernel
theorem dX12_layCorner_48 : decode cX12_layCorner 48 = .ok (.aload_n 0, 1) := by decide +kernel
theorem dX12_layCorner_49 : decode cX12_layCorner 49 = .ok (.getfield 15, 3) := by decide +kernel
theorem dX12_layCorner_52 : decode cX12_layCorner 52 = .ok (.bipush 8, 2) := by decide +kernel
theorem dX12_layCorner_54 : decode cX12_layCorner 54 = .ok (.iaload, 1) := by decide +kernel
theorem dX12_layCorner_55 : decode cX12_layCorner 55 = .ok (.istore 4, 2) := by decide +kernel
theorem dX12_layCorner_57 : decode cX12_layCorner 57 = .ok (.iload 4, 2) := by decide +kernel
theorem dX12_layCorner_59 : decode cX12_layCorner 59 = .ok (.aload_n 0, 1) := by decide +kernel
theorem dX12_layCorner_60 : decode cX12_layCorner 60 = .ok (.getfield 15, 3) := by decide +kernel
theorem dX12_layCorner_63 : decode cX12_layCorner 63 = .ok (.bipush 9, 2) := by decide +kernel
theorem dX12_layCorner_65 : decode cX12_layCorner 65 = .ok (.iaload, 1) := by decide +kernel
theorem dX12_layCorner_66 : decode cX12_layCorner 66 = .ok (.if_icmp .gt 211, 3) := by decide +kernel
theorem dX12_layCorner_69 : decode cX12_layCorner 69 = .ok (.aload_n 0, 1) := by decide +kernel
theorem dX12_layCorner_70 : decode cX12_layCorner 70 = .ok (.getfield 138, 3) := by decide +kernel
theorem dX12_layCorner_73 : decode cX12_layCorner 73 = .ok (.iload_n 1, 1) := by decide +kernel
theorem dX12_layCorner_74 : decode cX12_layCorner 74 = .ok (.iaload, 1) := by decide +kernel
theorem dX12_layCorner_75 : decode cX12_layCorner 75 = .ok (.iload_n 3, 1) := by decide +kernel
theorem dX12_layCorner_76 : decode cX12_layCorner 76 = .ok (.invokestatic 516, 3) := by decide +kernel
theorem dX12_layCorner_79 : decode cX12_layCorner 79 = .ok (.ifCond .eq 198, 3) := by decide +kernel
theorem dX12_layCorner_82 : decode cX12_layCorner 82 = .ok (.aload_n 0, 1) := by decide +kernel
theorem dX12_layCorner_83 : decode cX12_layCorner 83 = .ok (.getfield 141, 3) := by decide +kernel
theorem dX12_layCorner_86 : decode cX12_layCorner 86 = .ok (.iload_n 1, 1) := by decide +kernel
theorem dX12_layCorner_87 : decode cX12_layCorner 87 = .ok (.iaload, 1) := by decide +kernel
theorem dX12_layCorner_88 : decode cX12_layCorner 88 = .ok (.iload 4, 2) := by decide +kernel
theorem dX12_layCorner_90 : decode cX12_layCorner 90 = .ok (.invokestatic 516, 3) := by decide +kernel
theorem dX12_layCorner_93 : decode cX12_layCorner 93 = .ok (.ifCond .ne 6, 3) := by decide +kernel
theorem dX12_layCorner_96 : decode cX12_layCorner 96 = .ok (.goto 175, 3) := by decide +kernel
theorem dX12_layCorner_99 : decode cX12_layCorner 99 = .ok (.aload_n 0, 1) := by decide +kernel
theorem dX12_layCorner_100 : decode cX12_layCorner 100 = .ok (.iload_n 1, 1) := by decide +kernel
theorem dX12_layCorner_101 : decode cX12_layCorner 101 = .ok (.iload_n 3, 1) := by decide +kernel
theorem dX12_layCorner_102 : decode cX12_layCorner 102 = .ok (.iload 4, 2) := by decide +kernel
theorem dX12_layCorner_104 : decode cX12_layCorner 104 = .ok (.invokevirtual 519, 3) := by decide +kernel
theorem dX12_layCorner_107 : decode cX12_layCorner 107 = .ok (.lstore 5, 2) := by decide +kernel
theorem dX12_layCorner_109 : decode cX12_layCorner 109 = .ok (.aload_n 0, 1) := by decide +kernel
theorem dX12_layCorner_110 : decode cX12_layCorner 110 = .ok (.getfield 15, 3) := by decide +kernel
theorem dX12_layCorner_113 : decode cX12_layCorner 113 = .ok (.bipush 8, 2) := by decide +kernel
theorem dX12_layCorner_115 : decode cX12_layCorner 115 = .ok (.iaload, 1) := by decide +kernel
theorem dX12_layCorner_116 : decode cX12_layCorner 116 = .ok (.istore 7, 2) := by decide +kernel
theorem dX12_layCorner_118 : decode cX12_layCorner 118 = .ok (.iload 7, 2) := by decide +kernel
theorem dX12_layCorner_120 : decode cX12_layCorner 120 = .ok (.aload_n 0, 1) := by decide +kernel
theorem dX12_layCorner_121 : decode cX12_layCorner 121 = .ok (.getfield 15, 3) := by decide +kernel
theorem dX12_layCorner_124 : decode cX12_layCorner 124 = .ok (.bipush 9, 2) := by decide +kernel
theorem dX12_layCorner_126 : decode cX12_layCorner 126 = .ok (.iaload, 1) := by decide +kernel
theorem dX12_layCorner_127 : decode cX12_layCorner 127 = .ok (.if_icmp .gt 144, 3) := by decide +kernel
theorem dX12_layCorner_130 : decode cX12_layCorner 130 = .ok (.lload 5, 2) := by decide +kernel
theorem dX12_layCorner_132 : decode cX12_layCorner 132 = .ok (.ldc2_w 423, 3) := by decide +kernel
theorem dX12_layCorner_135 : decode cX12_layCorner 135 = .ok (.lcmp, 1) := by decide +kernel
theorem dX12_layCorner_136 : decode cX12_layCorner 136 = .ok (.ifCond .ge 135, 3) := by decide +kernel
theorem dX12_layCorner_139 : decode cX12_layCorner 139 = .ok (.aload_n 0, 1) := by decide +kernel
theorem dX12_layCorner_140 : decode cX12_layCorner 140 = .ok (.iload_n 1, 1) := by decide +kernel
theorem dX12_layCorner_141 : decode cX12_layCorner 141 = .ok (.iload_n 2, 1) := by decide +kernel
theorem dX12_layCorner_142 : decode cX12_layCorner 142 = .ok (.iload 4, 2) := by decide +kernel
theorem dX12_layCorner_144 : decode cX12_layCorner 144 = .ok (.iload 7, 2) := by decide +kernel
theorem dX12_layCorner_146 : decode cX12_layCorner 146 = .ok (.invokevirtual 392, 3) := by decide +kernel
theorem dX12_layCorner_149 : decode cX12_layCorner 149 = .ok (.istore 8, 2) := by decide +kernel
theorem dX12_layCorner_151 : decode cX12_layCorner 151 = .ok (.aload_n 0, 1) := by decide +kernel
theorem dX12_layCorner_152 : decode cX12_layCorner 152 = .ok (.getfield 144, 3) := by decide +kernel
theorem dX12_layCorner_155 : decode cX12_layCorner 155 = .ok (.iload_n 1, 1) := by decide +kernel
theorem dX12_layCorner_156 : decode cX12_layCorner 156 = .ok (.iaload, 1) := by decide +kernel
theorem dX12_layCorner_157 : decode cX12_layCorner 157 = .ok (.iload 7, 2) := by decide +kernel
theorem dX12_layCorner_159 : decode cX12_layCorner 159 = .ok (.invokestatic 516, 3) := by decide +kernel
theorem dX12_layCorner_162 : decode cX12_layCorner 162 = .ok (.ifCond .eq 103, 3) := by decide +kernel
theorem dX12_layCorner_165 : decode cX12_layCorner 165 = .ok (.iload 8, 2) := by decide +kernel
theorem dX12_layCorner_167 : decode cX12_layCorner 167 = .ok (.aload_n 0, 1) := by decide +kernel
theorem dX12_layCorner_168 : decode cX12_layCorner 168 = .ok (.getfield 36, 3) := by decide +kernel
theorem dX12_layCorner_171 : decode cX12_layCorner 171 = .ok (.iload_n 2, 1) := by decide +kernel
theorem dX12_layCorner_172 : decode cX12_layCorner 172 = .ok (.iaload, 1) := by decide +kernel
theorem dX12_layCorner_173 : decode cX12_layCorner 173 = .ok (.aload_n 0, 1) := by decide +kernel
theorem dX12_layCorner_174 : decode cX12_layCorner 174 = .ok (.getfield 15, 3) := by decide +kernel
theorem dX12_layCorner_177 : decode cX12_layCorner 177 = .ok (.bipush 6, 2) := by decide +kernel
theorem dX12_layCorner_179 : decode cX12_layCorner 179 = .ok (.iaload, 1) := by decide +kernel
theorem dX12_layCorner_180 : decode cX12_layCorner 180 = .ok (.imul, 1) := by decide +kernel
theorem dX12_layCorner_181 : decode cX12_layCorner 181 = .ok (.if_icmp .lt 84, 3) := by decide +kernel
theorem dX12_layCorner_184 : decode cX12_layCorner 184 = .ok (.iload 8, 2) := by decide +kernel
theorem dX12_layCorner_186 : decode cX12_layCorner 186 = .ok (.aload_n 0, 1) := by decide +kernel
theorem dX12_layCorner_187 : decode cX12_layCorner 187 = .ok (.getfield 36, 3) := by decide +kernel
theorem dX12_layCorner_190 : decode cX12_layCorner 190 = .ok (.iload_n 2, 1) := by decide +kernel
theorem dX12_layCorner_191 : decode cX12_layCorner 191 = .ok (.iaload, 1) := by decide +kernel
theorem dX12_layCorner_192 : decode cX12_layCorner 192 = .ok (.aload_n 0, 1) := by decide +kernel
theorem dX12_layCorner_193 : decode cX12_layCorner 193 = .ok (.getfield 15, 3) := by decide +kernel
theorem dX12_layCorner_196 : decode cX12_layCorner 196 = .ok (.bipush 7, 2) := by decide +kernel
theorem dX12_layCorner_198 : decode cX12_layCorner 198 = .ok (.iaload, 1) := by decide +kernel
theorem dX12_layCorner_199 : decode cX12_layCorner 199 = .ok (.imul, 1) := by decide +kernel
theorem dX12_layCorner_200 : decode cX12_layCorner 200 = .ok (.if_icmp .gt 65, 3) := by decide +kernel
theorem dX12_layCorner_203 : decode cX12_layCorner 203 = .ok (.aload_n 0, 1) := by decide +kernel
theorem dX12_layCorner_204 : decode cX12_layCorner 204 = .ok (.iload_n 3, 1) := by decide +kernel
theorem dX12_layCorner_205 : decode cX12_layCorner 205 = .ok (.iload_n 2, 1) := by decide +kernel
theorem dX12_layCorner_206 : decode cX12_layCorner 206 = .ok (.iload 8, 2) := by decide +kernel
theorem dX12_layCorner_208 : decode cX12_layCorner 208 = .ok (.invokevirtual 402, 3) := by decide +kernel
theorem dX12_layCorner_211 : decode cX12_layCorner 211 = .ok (.aload_n 0, 1) := by decide +kernel
theorem dX12_layCorner_212 : decode cX12_layCorner 212 = .ok (.getfield 135, 3) := by decide +kernel
theorem dX12_layCorner_215 : decode cX12_layCorner 215 = .ok (.iload_n 1, 1) := by decide +kernel
theorem dX12_layCorner_216 : decode cX12_layCorner 216 = .ok (.laload, 1) := by decide +kernel
theorem dX12_layCorner_217 : decode cX12_layCorner 217 = .ok (.lcmp, 1) := by decide +kernel
theorem dX12_layCorner_218 : decode cX12_layCorner 218 = .ok (.ifCond .ge 6, 3) := by decide +kernel
theorem dX12_layCorner_221 : decode cX12_layCorner 221 = .ok (.goto 44, 3) := by decide +kernel
theorem dX12_layCorner_224 : decode cX12_layCorner 224 = .ok (.aload_n 0, 1) := by decide +kernel
theorem dX12_layCorner_225 : decode cX12_layCorner 225 = .ok (.getfield 132, 3) := by decide +kernel
theorem dX12_layCorner_228 : decode cX12_layCorner 228 = .ok (.iload_n 1, 1) := by decide +kernel
theorem dX12_layCorner_229 : decode cX12_layCorner 229 = .ok (.iload_n 3, 1) := by decide +kernel
theorem dX12_layCorner_230 : decode cX12_layCorner 230 = .ok (.iload 7, 2) := by decide +kernel
theorem dX12_layCorner_232 : decode cX12_layCorner 232 = .ok (.invokestatic 503, 3) := by decide +kernel
theorem dX12_layCorner_235 : decode cX12_layCorner 235 = .ok (.aload_n 0, 1) := by decide +kernel
theorem dX12_layCorner_236 : decode cX12_layCorner 236 = .ok (.getfield 132, 3) := by decide +kernel
theorem dX12_layCorner_239 : decode cX12_layCorner 239 = .ok (.iload_n 1, 1) := by decide +kernel
theorem dX12_layCorner_240 : decode cX12_layCorner 240 = .ok (.iload_n 3, 1) := by decide +kernel
theorem dX12_layCorner_241 : decode cX12_layCorner 241 = .ok (.iload 7, 2) := by decide +kernel
theorem dX12_layCorner_243 : decode cX12_layCorner 243 = .ok (.invokestatic 503, 3) := by decide +kernel
theorem dX12_layCorner_246 : decode cX12_layCorner 246 = .ok (.laload, 1) := by decide +kernel
theorem dX12_layCorner_247 : decode cX12_layCorner 247 = .ok (.lload 5, 2) := by decide +kernel
theorem dX12_layCorner_249 : decode cX12_layCorner 249 = .ok (.aload_n 0, 1) := by decide +kernel
theorem dX12_layCorner_250 : decode cX12_layCorner 250 = .ok (.iload_n 1, 1) := by decide +kernel
theorem dX12_layCorner_251 : decode cX12_layCorner 251 = .ok (.iload_n 3, 1) := by decide +kernel
theorem dX12_layCorner_252 : decode cX12_layCorner 252 = .ok (.iload_n 2, 1) := by decide +kernel
theorem dX12_layCorner_253 : decode cX12_layCorner 253 = .ok (.iload 4, 2) := by decide +kernel
theorem dX12_layCorner_255 : decode cX12_layCorner 255 = .ok (.iload 7, 2) := by decide +kernel
theorem dX12_layCorner_257 : decode cX12_layCorner 257 = .ok (.invokevirtual 453, 3) := by decide +kernel
theorem dX12_layCorner_260 : decode cX12_layCorner 260 = .ok (.ladd, 1) := by decide +kernel
theorem dX12_layCorner_261 : decode cX12_layCorner 261 = .ok (.invokestatic 429, 3) := by decide +kernel
theorem dX12_layCorner_264 : decode cX12_layCorner 264 = .ok (.lastore, 1) := by decide +kernel
theorem dX12_layCorner_265 : decode cX12_layCorner 265 = .ok (.iinc 7 1, 3) := by decide +kernel
theorem dX12_layCorner_268 : decode cX12_layCorner 268 = .ok (.goto (-150), 3) := by decide +kernel
theorem dX12_layCorner_271 : decode cX12_layCorner 271 = .ok (.iinc 4 1, 3) := by decide +kernel
theorem dX12_layCorner_274 : decode cX12_layCorner 274 = .ok (.goto (-217), 3) := by decide +kernel
theorem dX12_layCorner_277 : decode cX12_layCorner 277 = .ok (.iinc 3 1, 3) := by decide +kernel
theorem dX12_layCorner_280 : decode cX12_layCorner 280 = .ok (.goto (-242), 3) := by decide +kernel
theorem dX12_layCorner_283 : decode cX12_layCorner 283 = .ok (.return_, 1) := by decide +kernel
theorem dX12_leastOf_0 : decode cX12_leastOf 0 = .ok (.aload_n 0, 1) := by decide +kernel
theorem dX12_leastOf_1 : decode cX12_leastOf 1 = .ok (.getfield 15, 3) := by decide +kernel
theorem dX12_leastOf_4 : decode cX12_leastOf 4 = .ok (.iconst 0, 1) := by decide +kernel
theorem dX12_leastOf_5 : decode cX12_leastOf 5 = .ok (.iaload, 1) := by decide +kernel
theorem dX12_leastOf_6 : decode cX12_leastOf 6 = .ok (.istore_n 1, 1) := by decide +kernel
theorem dX12_leastOf_7 : decode cX12_leastOf 7 = .ok (.iload_n 1, 1) := by decide +kernel
theorem dX12_leastOf_8 : decode cX12_leastOf 8 = .ok (.istore_n 2, 1) := by decide +kernel
theorem dX12_leastOf_9 : decode cX12_leastOf 9 = .ok (.iload_n 2, 1) := by decide +kernel
theorem dX12_leastOf_10 : decode cX12_leastOf 10 = .ok (.ifCond .le 37, 3) := by decide +kernel
theorem dX12_leastOf_13 : decode cX12_leastOf 13 = .ok (.iconst 0, 1) := by decide +kernel
theorem dX12_leastOf_14 : decode cX12_leastOf 14 = .ok (.istore_n 3, 1) := by decide +kernel
theorem dX12_leastOf_15 : decode cX12_leastOf 15 = .ok (.iload_n 3, 1) := by decide +kernel
theorem dX12_leastOf_16 : decode cX12_leastOf 16 = .ok (.iload_n 1, 1) := by decide +kernel
theorem dX12_leastOf_17 : decode cX12_leastOf 17 = .ok (.if_icmp .ge 24, 3) := by decide +kernel
theorem dX12_leastOf_20 : decode cX12_leastOf 20 = .ok (.aload_n 0, 1) := by decide +kernel
theorem dX12_leastOf_21 : decode cX12_leastOf 21 = .ok (.getfield 129, 3) := by decide +kernel
theorem dX12_leastOf_24 : decode cX12_leastOf 24 = .ok (.iload_n 3, 1) := by decide +kernel
theorem dX12_leastOf_25 : decode cX12_leastOf 25 = .ok (.iaload, 1) := by decide +kernel
theorem dX12_leastOf_26 : decode cX12_leastOf 26 = .ok (.iload_n 2, 1) := by decide +kernel
theorem dX12_leastOf_27 : decode cX12_leastOf 27 = .ok (.if_icmp .ne 8, 3) := by decide +kernel
theorem dX12_leastOf_30 : decode cX12_leastOf 30 = .ok (.aload_n 0, 1) := by decide +kernel
theorem dX12_leastOf_31 : decode cX12_leastOf 31 = .ok (.iload_n 3, 1) := by decide +kernel
theorem dX12_leastOf_32 : decode cX12_leastOf 32 = .ok (.invokevirtual 522, 3) := by decide +kernel
theorem dX12_leastOf_35 : decode cX12_leastOf 35 = .ok (.iinc 3 1, 3) := by decide +kernel
theorem dX12_leastOf_38 : decode cX12_leastOf 38 = .ok (.goto (-23), 3) := by decide +kernel
theorem dX12_leastOf_41 : decode cX12_leastOf 41 = .ok (.iinc 2 (-1), 3) := by decide +kernel
theorem dX12_leastOf_44 : decode cX12_leastOf 44 = .ok (.goto (-35), 3) := by decide +kernel
theorem dX12_leastOf_47 : decode cX12_leastOf 47 = .ok (.aload_n 0, 1) := by decide +kernel
theorem dX12_leastOf_48 : decode cX12_leastOf 48 = .ok (.getfield 15, 3) := by decide +kernel
theorem dX12_leastOf_51 : decode cX12_leastOf 51 = .ok (.iconst 4, 1) := by decide +kernel
theorem dX12_leastOf_52 : decode cX12_leastOf 52 = .ok (.iaload, 1) := by decide +kernel
theorem dX12_leastOf_53 : decode cX12_leastOf 53 = .ok (.istore_n 2, 1) := by decide +kernel
theorem dX12_leastOf_54 : decode cX12_leastOf 54 = .ok (.aload_n 0, 1) := by decide +kernel
theorem dX12_leastOf_55 : decode cX12_leastOf 55 = .ok (.getfield 15, 3) := by decide +kernel
theorem dX12_leastOf_58 : decode cX12_leastOf 58 = .ok (.bipush 9, 2) := by decide +kernel
theorem dX12_leastOf_60 : decode cX12_leastOf 60 = .ok (.iaload, 1) := by decide +kernel
theorem dX12_leastOf_61 : decode cX12_leastOf 61 = .ok (.aload_n 0, 1) := by decide +kernel
theorem dX12_leastOf_62 : decode cX12_leastOf 62 = .ok (.getfield 21, 3) := by decide +kernel
theorem dX12_leastOf_65 : decode cX12_leastOf 65 = .ok (.iload_n 2, 1) := by decide +kernel
theorem dX12_leastOf_66 : decode cX12_leastOf 66 = .ok (.iaload, 1) := by decide +kernel
theorem dX12_leastOf_67 : decode cX12_leastOf 67 = .ok (.aload_n 0, 1) := by decide +kernel
theorem dX12_leastOf_68 : decode cX12_leastOf 68 = .ok (.getfield 15, 3) := by decide +kernel
theorem dX12_leastOf_71 : decode cX12_leastOf 71 = .ok (.iconst 5, 1) := by decide +kernel
theorem dX12_leastOf_72 : decode cX12_leastOf 72 = .ok (.iaload, 1) := by decide +kernel
theorem dX12_leastOf_73 : decode cX12_leastOf 73 = .ok (.isub, 1) := by decide +kernel
theorem dX12_leastOf_74 : decode cX12_leastOf 74 = .ok (.invokestatic 525, 3) := by decide +kernel
theorem dX12_leastOf_77 : decode cX12_leastOf 77 = .ok (.istore_n 3, 1) := by decide +kernel
theorem dX12_leastOf_78 : decode cX12_leastOf 78 = .ok (.iload_n 1, 1) := by decide +kernel
theorem dX12_leastOf_79 : decode cX12_leastOf 79 = .ok (.iconst 1, 1) := by decide +kernel
theorem dX12_leastOf_80 : decode cX12_leastOf 80 = .ok (.if_icmp .ne 7, 3) := by decide +kernel
theorem dX12_leastOf_83 : decode cX12_leastOf 83 = .ok (.lconst 0, 1) := by decide +kernel
theorem dX12_leastOf_84 : decode cX12_leastOf 84 = .ok (.goto 21, 3) := by decide +kernel
theorem dX12_leastOf_87 : decode cX12_leastOf 87 = .ok (.iload_n 3, 1) := by decide +kernel
theorem dX12_leastOf_88 : decode cX12_leastOf 88 = .ok (.ifCond .ge 9, 3) := by decide +kernel
theorem dX12_leastOf_91 : decode cX12_leastOf 91 = .ok (.ldc2_w 423, 3) := by decide +kernel
theorem dX12_leastOf_94 : decode cX12_leastOf 94 = .ok (.goto 11, 3) := by decide +kernel
theorem dX12_leastOf_97 : decode cX12_leastOf 97 = .ok (.aload_n 0, 1) := by decide +kernel
theorem dX12_leastOf_98 : decode cX12_leastOf 98 = .ok (.iload_n 2, 1) := by decide +kernel
theorem dX12_leastOf_99 : decode cX12_leastOf 99 = .ok (.iconst 3, 1) := by decide +kernel
theorem dX12_leastOf_100 : decode cX12_leastOf 100 = .ok (.iload_n 3, 1) := by decide +kernel
theorem dX12_leastOf_101 : decode cX12_leastOf 101 = .ok (.iconst 0, 1) := by decide +kernel
theorem dX12_leastOf_102 : decode cX12_leastOf 102 = .ok (.invokevirtual 513, 3) := by decide +kernel
theorem dX12_leastOf_105 : decode cX12_leastOf 105 = .ok (.lreturn, 1) := by decide +kernel
theorem dX12_free_0 : decode cX12_free 0 = .ok (.iconst 0, 1) := by decide +kernel
theorem dX12_free_1 : decode cX12_free 1 = .ok (.istore_n 1, 1) := by decide +kernel
theorem dX12_free_2 : decode cX12_free 2 = .ok (.iload_n 1, 1) := by decide +kernel
theorem dX12_free_3 : decode cX12_free 3 = .ok (.bipush 7, 2) := by decide +kernel
theorem dX12_free_5 : decode cX12_free 5 = .ok (.if_icmp .ge 30, 3) := by decide +kernel
theorem dX12_free_8 : decode cX12_free 8 = .ok (.aload_n 0, 1) := by decide +kernel
theorem dX12_free_9 : decode cX12_free 9 = .ok (.getfield 138, 3) := by decide +kernel
theorem dX12_free_12 : decode cX12_free 12 = .ok (.iload_n 1, 1) := by decide +kernel
theorem dX12_free_13 : decode cX12_free 13 = .ok (.iconst (-1), 1) := by decide +kernel
theorem dX12_free_14 : decode cX12_free 14 = .ok (.iastore, 1) := by decide +kernel
theorem dX12_free_15 : decode cX12_free 15 = .ok (.aload_n 0, 1) := by decide +kernel
theorem dX12_free_16 : decode cX12_free 16 = .ok (.getfield 141, 3) := by decide +kernel
theorem dX12_free_19 : decode cX12_free 19 = .ok (.iload_n 1, 1) := by decide +kernel
theorem dX12_free_20 : decode cX12_free 20 = .ok (.iconst (-1), 1) := by decide +kernel
theorem dX12_free_21 : decode cX12_free 21 = .ok (.iastore, 1) := by decide +kernel
theorem dX12_free_22 : decode cX12_free 22 = .ok (.aload_n 0, 1) := by decide +kernel
theorem dX12_free_23 : decode cX12_free 23 = .ok (.getfield 144, 3) := by decide +kernel
theorem dX12_free_26 : decode cX12_free 26 = .ok (.iload_n 1, 1) := by decide +kernel
theorem dX12_free_27 : decode cX12_free 27 = .ok (.iconst (-1), 1) := by decide +kernel
theorem dX12_free_28 : decode cX12_free 28 = .ok (.iastore, 1) := by decide +kernel
theorem dX12_free_29 : decode cX12_free 29 = .ok (.iinc 1 1, 3) := by decide +kernel
theorem dX12_free_32 : decode cX12_free 32 = .ok (.goto (-30), 3) := by decide +kernel
theorem dX12_free_35 : decode cX12_free 35 = .ok (.return_, 1) := by decide +kernel
theorem dX12_cheapestOf_0 : decode cX12_cheapestOf 0 = .ok (.aload_n 0, 1) := by decide +kernel
theorem dX12_cheapestOf_1 : decode cX12_cheapestOf 1 = .ok (.getfield 15, 3) := by decide +kernel
theorem dX12_cheapestOf_4 : decode cX12_cheapestOf 4 = .ok (.iconst 4, 1) := by decide +kernel
theorem dX12_cheapestOf_5 : decode cX12_cheapestOf 5 = .ok (.iaload, 1) := by decide +kernel
theorem dX12_cheapestOf_6 : decode cX12_cheapestOf 6 = .ok (.istore_n 2, 1) := by decide +kernel
theorem dX12_cheapestOf_7 : decode cX12_cheapestOf 7 = .ok (.iload_n 2, 1) := by decide +kernel
theorem dX12_cheapestOf_8 : decode cX12_cheapestOf 8 = .ok (.iconst (-1), 1) := by decide +kernel
theorem dX12_cheapestOf_9 : decode cX12_cheapestOf 9 = .ok (.if_icmp .ne 7, 3) := by decide +kernel
theorem dX12_cheapestOf_12 : decode cX12_cheapestOf 12 = .ok (.ldc2_w 423, 3) := by decide +kernel
theorem dX12_cheapestOf_15 : decode cX12_cheapestOf 15 = .ok (.lreturn, 1) := by decide +kernel
theorem dX12_cheapestOf_16 : decode cX12_cheapestOf 16 = .ok (.aload_n 0, 1) := by decide +kernel
theorem dX12_cheapestOf_17 : decode cX12_cheapestOf 17 = .ok (.iconst 1, 1) := by decide +kernel
theorem dX12_cheapestOf_18 : decode cX12_cheapestOf 18 = .ok (.putfield 371, 3) := by decide +kernel
theorem dX12_cheapestOf_21 : decode cX12_cheapestOf 21 = .ok (.iconst 0, 1) := by decide +kernel
theorem dX12_cheapestOf_22 : decode cX12_cheapestOf 22 = .ok (.istore_n 3, 1) := by decide +kernel
theorem dX12_cheapestOf_23 : decode cX12_cheapestOf 23 = .ok (.iload_n 3, 1) := by decide +kernel
theorem dX12_cheapestOf_24 : decode cX12_cheapestOf 24 = .ok (.bipush 7, 2) := by decide +kernel
theorem dX12_cheapestOf_26 : decode cX12_cheapestOf 26 = .ok (.if_icmp .ge 19, 3) := by decide +kernel
theorem dX12_cheapestOf_29 : decode cX12_cheapestOf 29 = .ok (.aload_n 0, 1) := by decide +kernel
theorem dX12_cheapestOf_30 : decode cX12_cheapestOf 30 = .ok (.getfield 83, 3) := by decide +kernel
theorem dX12_cheapestOf_33 : decode cX12_cheapestOf 33 = .ok (.bipush 7, 2) := by decide +kernel
theorem dX12_cheapestOf_35 : decode cX12_cheapestOf 35 = .ok (.iload_n 3, 1) := by decide +kernel
theorem dX12_cheapestOf_36 : decode cX12_cheapestOf 36 = .ok (.iadd, 1) := by decide +kernel
theorem dX12_cheapestOf_37 : decode cX12_cheapestOf 37 = .ok (.iconst (-1), 1) := by decide +kernel
theorem dX12_cheapestOf_38 : decode cX12_cheapestOf 38 = .ok (.iastore, 1) := by decide +kernel
theorem dX12_cheapestOf_39 : decode cX12_cheapestOf 39 = .ok (.iinc 3 1, 3) := by decide +kernel
theorem dX12_cheapestOf_42 : decode cX12_cheapestOf 42 = .ok (.goto (-19), 3) := by decide +kernel
theorem dX12_cheapestOf_45 : decode cX12_cheapestOf 45 = .ok (.aload_n 0, 1) := by decide +kernel
theorem dX12_cheapestOf_46 : decode cX12_cheapestOf 46 = .ok (.iload_n 1, 1) := by decide +kernel
theorem dX12_cheapestOf_47 : decode cX12_cheapestOf 47 = .ok (.iload_n 2, 1) := by decide +kernel
theorem dX12_cheapestOf_48 : decode cX12_cheapestOf 48 = .ok (.invokevirtual 500, 3) := by decide +kernel
theorem dX12_cheapestOf_51 : decode cX12_cheapestOf 51 = .ok (.pop, 1) := by decide +kernel
theorem dX12_cheapestOf_52 : decode cX12_cheapestOf 52 = .ok (.aload_n 0, 1) := by decide +kernel
theorem dX12_cheapestOf_53 : decode cX12_cheapestOf 53 = .ok (.iconst 0, 1) := by decide +kernel
theorem dX12_cheapestOf_54 : decode cX12_cheapestOf 54 = .ok (.invokevirtual 457, 3) := by decide +kernel
theorem dX12_cheapestOf_57 : decode cX12_cheapestOf 57 = .ok (.iconst 0, 1) := by decide +kernel
theorem dX12_cheapestOf_58 : decode cX12_cheapestOf 58 = .ok (.istore_n 3, 1) := by decide +kernel
theorem dX12_cheapestOf_59 : decode cX12_cheapestOf 59 = .ok (.iload_n 3, 1) := by decide +kernel
theorem dX12_cheapestOf_60 : decode cX12_cheapestOf 60 = .ok (.aload_n 0, 1) := by decide +kernel
theorem dX12_cheapestOf_61 : decode cX12_cheapestOf 61 = .ok (.getfield 15, 3) := by decide +kernel
theorem dX12_cheapestOf_64 : decode cX12_cheapestOf 64 = .ok (.iconst 0, 1) := by decide +kernel
theorem dX12_cheapestOf_65 : decode cX12_cheapestOf 65 = .ok (.iaload, 1) := by decide +kernel
theorem dX12_cheapestOf_66 : decode cX12_cheapestOf 66 = .ok (.if_icmp .ge 20, 3) := by decide +kernel
theorem dX12_cheapestOf_69 : decode cX12_cheapestOf 69 = .ok (.aload_n 0, 1) := by decide +kernel
theorem dX12_cheapestOf_70 : decode cX12_cheapestOf 70 = .ok (.getfield 135, 3) := by decide +kernel
theorem dX12_cheapestOf_73 : decode cX12_cheapestOf 73 = .ok (.iload_n 3, 1) := by decide +kernel
theorem dX12_cheapestOf_74 : decode cX12_cheapestOf 74 = .ok (.aload_n 0, 1) := by decide +kernel
theorem dX12_cheapestOf_75 : decode cX12_cheapestOf 75 = .ok (.iload_n 3, 1) := by decide +kernel
theorem dX12_cheapestOf_76 : decode cX12_cheapestOf 76 = .ok (.invokevirtual 467, 3) := by decide +kernel
theorem dX12_cheapestOf_79 : decode cX12_cheapestOf 79 = .ok (.lastore, 1) := by decide +kernel
theorem dX12_cheapestOf_80 : decode cX12_cheapestOf 80 = .ok (.iinc 3 1, 3) := by decide +kernel
theorem dX12_cheapestOf_83 : decode cX12_cheapestOf 83 = .ok (.goto (-24), 3) := by decide +kernel
theorem dX12_cheapestOf_86 : decode cX12_cheapestOf 86 = .ok (.iconst 0, 1) := by decide +kernel
theorem dX12_cheapestOf_87 : decode cX12_cheapestOf 87 = .ok (.istore_n 3, 1) := by decide +kernel
theorem dX12_cheapestOf_88 : decode cX12_cheapestOf 88 = .ok (.iload_n 3, 1) := by decide +kernel
theorem dX12_cheapestOf_89 : decode cX12_cheapestOf 89 = .ok (.aload_n 0, 1) := by decide +kernel
theorem dX12_cheapestOf_90 : decode cX12_cheapestOf 90 = .ok (.getfield 132, 3) := by decide +kernel
theorem dX12_cheapestOf_93 : decode cX12_cheapestOf 93 = .ok (.arraylength, 1) := by decide +kernel
theorem dX12_cheapestOf_94 : decode cX12_cheapestOf 94 = .ok (.if_icmp .ge 18, 3) := by decide +kernel
theorem dX12_cheapestOf_97 : decode cX12_cheapestOf 97 = .ok (.aload_n 0, 1) := by decide +kernel
theorem dX12_cheapestOf_98 : decode cX12_cheapestOf 98 = .ok (.getfield 132, 3) := by decide +kernel
theorem dX12_cheapestOf_101 : decode cX12_cheapestOf 101 = .ok (.iload_n 3, 1) := by decide +kernel
theorem dX12_cheapestOf_102 : decode cX12_cheapestOf 102 = .ok (.ldc2_w 423, 3) := by decide +kernel
theorem dX12_cheapestOf_105 : decode cX12_cheapestOf 105 = .ok (.lastore, 1) := by decide +kernel
theorem dX12_cheapestOf_106 : decode cX12_cheapestOf 106 = .ok (.iinc 3 1, 3) := by decide +kernel
theorem dX12_cheapestOf_109 : decode cX12_cheapestOf 109 = .ok (.goto (-21), 3) := by decide +kernel
theorem dX12_cheapestOf_112 : decode cX12_cheapestOf 112 = .ok (.aload_n 0, 1) := by decide +kernel
theorem dX12_cheapestOf_113 : decode cX12_cheapestOf 113 = .ok (.invokevirtual 527, 3) := by decide +kernel
theorem dX12_cheapestOf_116 : decode cX12_cheapestOf 116 = .ok (.aload_n 0, 1) := by decide +kernel
theorem dX12_cheapestOf_117 : decode cX12_cheapestOf 117 = .ok (.invokevirtual 530, 3) := by decide +kernel
theorem dX12_cheapestOf_120 : decode cX12_cheapestOf 120 = .ok (.lreturn, 1) := by decide +kernel
theorem dX12_cheapest_0 : decode cX12_cheapest 0 = .ok (.aload_n 0, 1) := by decide +kernel
theorem dX12_cheapest_1 : decode cX12_cheapest 1 = .ok (.iconst 0, 1) := by decide +kernel
theorem dX12_cheapest_2 : decode cX12_cheapest 2 = .ok (.putfield 153, 3) := by decide +kernel
theorem dX12_cheapest_5 : decode cX12_cheapest 5 = .ok (.aload_n 0, 1) := by decide +kernel
theorem dX12_cheapest_6 : decode cX12_cheapest 6 = .ok (.iload_n 1, 1) := by decide +kernel
theorem dX12_cheapest_7 : decode cX12_cheapest 7 = .ok (.invokevirtual 534, 3) := by decide +kernel
theorem dX12_cheapest_10 : decode cX12_cheapest 10 = .ok (.ifCond .ne 7, 3) := by decide +kernel
theorem dX12_cheapest_13 : decode cX12_cheapest 13 = .ok (.ldc2_w 432, 3) := by decide +kernel
theorem dX12_cheapest_16 : decode cX12_cheapest 16 = .ok (.lreturn, 1) := by decide +kernel
theorem dX12_cheapest_17 : decode cX12_cheapest 17 = .ok (.aload_n 0, 1) := by decide +kernel
theorem dX12_cheapest_18 : decode cX12_cheapest 18 = .ok (.iload_n 1, 1) := by decide +kernel
theorem dX12_cheapest_19 : decode cX12_cheapest 19 = .ok (.invokevirtual 537, 3) := by decide +kernel
theorem dX12_cheapest_22 : decode cX12_cheapest 22 = .ok (.lstore_n 2, 1) := by decide +kernel
theorem dX12_cheapest_23 : decode cX12_cheapest 23 = .ok (.lload_n 2, 1) := by decide +kernel
theorem dX12_cheapest_24 : decode cX12_cheapest 24 = .ok (.ldc2_w 423, 3) := by decide +kernel
theorem dX12_cheapest_27 : decode cX12_cheapest 27 = .ok (.lcmp, 1) := by decide +kernel
theorem dX12_cheapest_28 : decode cX12_cheapest 28 = .ok (.ifCond .lt 9, 3) := by decide +kernel
theorem dX12_cheapest_31 : decode cX12_cheapest 31 = .ok (.ldc2_w 540, 3) := by decide +kernel
theorem dX12_cheapest_34 : decode cX12_cheapest 34 = .ok (.goto 4, 3) := by decide +kernel
theorem dX12_cheapest_37 : decode cX12_cheapest 37 = .ok (.lload_n 2, 1) := by decide +kernel
theorem dX12_cheapest_38 : decode cX12_cheapest 38 = .ok (.lreturn, 1) := by decide +kernel
theorem dX12_laid_0 : decode cX12_laid 0 = .ok (.aload_n 0, 1) := by decide +kernel
theorem dX12_laid_1 : decode cX12_laid 1 = .ok (.iconst 0, 1) := by decide +kernel
theorem dX12_laid_2 : decode cX12_laid 2 = .ok (.putfield 153, 3) := by decide +kernel
theorem dX12_laid_5 : decode cX12_laid 5 = .ok (.aload_n 0, 1) := by decide +kernel
theorem dX12_laid_6 : decode cX12_laid 6 = .ok (.iload_n 1, 1) := by decide +kernel
theorem dX12_laid_7 : decode cX12_laid 7 = .ok (.invokevirtual 534, 3) := by decide +kernel
theorem dX12_laid_10 : decode cX12_laid 10 = .ok (.ifCond .ne 5, 3) := by decide +kernel
theorem dX12_laid_13 : decode cX12_laid 13 = .ok (.iconst 0, 1) := by decide +kernel
theorem dX12_laid_14 : decode cX12_laid 14 = .ok (.ireturn, 1) := by decide +kernel
theorem dX12_laid_15 : decode cX12_laid 15 = .ok (.aload_n 0, 1) := by decide +kernel
theorem dX12_laid_16 : decode cX12_laid 16 = .ok (.iload_n 1, 1) := by decide +kernel
theorem dX12_laid_17 : decode cX12_laid 17 = .ok (.invokevirtual 537, 3) := by decide +kernel
theorem dX12_laid_20 : decode cX12_laid 20 = .ok (.lstore_n 2, 1) := by decide +kernel
theorem dX12_laid_21 : decode cX12_laid 21 = .ok (.lload_n 2, 1) := by decide +kernel
theorem dX12_laid_22 : decode cX12_laid 22 = .ok (.ldc2_w 423, 3) := by decide +kernel
theorem dX12_laid_25 : decode cX12_laid 25 = .ok (.lcmp, 1) := by decide +kernel
theorem dX12_laid_26 : decode cX12_laid 26 = .ok (.ifCond .lt 5, 3) := by decide +kernel
theorem dX12_laid_29 : decode cX12_laid 29 = .ok (.iconst 0, 1) := by decide +kernel
theorem dX12_laid_30 : decode cX12_laid 30 = .ok (.ireturn, 1) := by decide +kernel
theorem dX12_laid_31 : decode cX12_laid 31 = .ok (.iconst 0, 1) := by decide +kernel
theorem dX12_laid_32 : decode cX12_laid 32 = .ok (.istore 4, 2) := by decide +kernel
theorem dX12_laid_34 : decode cX12_laid 34 = .ok (.iload 4, 2) := by decide +kernel
theorem dX12_laid_36 : decode cX12_laid 36 = .ok (.aload_n 0, 1) := by decide +kernel
theorem dX12_laid_37 : decode cX12_laid 37 = .ok (.getfield 15, 3) := by decide +kernel
theorem dX12_laid_40 : decode cX12_laid 40 = .ok (.iconst 0, 1) := by decide +kernel
theorem dX12_laid_41 : decode cX12_laid 41 = .ok (.iaload, 1) := by decide +kernel
theorem dX12_laid_42 : decode cX12_laid 42 = .ok (.if_icmp .ge 27, 3) := by decide +kernel
theorem dX12_laid_45 : decode cX12_laid 45 = .ok (.iload 4, 2) := by decide +kernel
theorem dX12_laid_47 : decode cX12_laid 47 = .ok (.aload_n 0, 1) := by decide +kernel
theorem dX12_laid_48 : decode cX12_laid 48 = .ok (.getfield 15, 3) := by decide +kernel
theorem dX12_laid_51 : decode cX12_laid 51 = .ok (.iconst 4, 1) := by decide +kernel
theorem dX12_laid_52 : decode cX12_laid 52 = .ok (.iaload, 1) := by decide +kernel
theorem dX12_laid_53 : decode cX12_laid 53 = .ok (.if_icmp .eq 10, 3) := by decide +kernel
theorem dX12_laid_56 : decode cX12_laid 56 = .ok (.aload_n 0, 1) := by decide +kernel
theorem dX12_laid_57 : decode cX12_laid 57 = .ok (.iload 4, 2) := by decide +kernel
theorem dX12_laid_59 : decode cX12_laid 59 = .ok (.lload_n 2, 1) := by decide +kernel
theorem dX12_laid_60 : decode cX12_laid 60 = .ok (.invokevirtual 542, 3) := by decide +kernel
theorem dX12_laid_63 : decode cX12_laid 63 = .ok (.iinc 4 1, 3) := by decide +kernel
theorem dX12_laid_66 : decode cX12_laid 66 = .ok (.goto (-32), 3) := by decide +kernel
theorem dX12_laid_69 : decode cX12_laid 69 = .ok (.aload_n 0, 1) := by decide +kernel
theorem dX12_laid_70 : decode cX12_laid 70 = .ok (.invokevirtual 446, 3) := by decide +kernel
theorem dX12_laid_73 : decode cX12_laid 73 = .ok (.iconst 0, 1) := by decide +kernel
theorem dX12_laid_74 : decode cX12_laid 74 = .ok (.istore 4, 2) := by decide +kernel
theorem dX12_laid_76 : decode cX12_laid 76 = .ok (.iload 4, 2) := by decide +kernel
theorem dX12_laid_78 : decode cX12_laid 78 = .ok (.bipush 7, 2) := by decide +kernel
theorem dX12_laid_80 : decode cX12_laid 80 = .ok (.if_icmp .ge 68, 3) := by decide +kernel
theorem dX12_laid_83 : decode cX12_laid 83 = .ok (.aload_n 0, 1) := by decide +kernel
theorem dX12_laid_84 : decode cX12_laid 84 = .ok (.getfield 83, 3) := by decide +kernel
theorem dX12_laid_87 : decode cX12_laid 87 = .ok (.iload 4, 2) := by decide +kernel
theorem dX12_laid_89 : decode cX12_laid 89 = .ok (.aload_n 0, 1) := by decide +kernel
theorem dX12_laid_90 : decode cX12_laid 90 = .ok (.getfield 83, 3) := by decide +kernel
theorem dX12_laid_93 : decode cX12_laid 93 = .ok (.bipush 7, 2) := by decide +kernel
theorem dX12_laid_95 : decode cX12_laid 95 = .ok (.iload 4, 2) := by decide +kernel
theorem dX12_laid_97 : decode cX12_laid 97 = .ok (.iadd, 1) := by decide +kernel
theorem dX12_laid_98 : decode cX12_laid 98 = .ok (.iaload, 1) := by decide +kernel
theorem dX12_laid_99 : decode cX12_laid 99 = .ok (.iastore, 1) := by decide +kernel
theorem dX12_laid_100 : decode cX12_laid 100 = .ok (.aload_n 0, 1) := by decide +kernel
theorem dX12_laid_101 : decode cX12_laid 101 = .ok (.getfield 86, 3) := by decide +kernel
theorem dX12_laid_104 : decode cX12_laid 104 = .ok (.iload 4, 2) := by decide +kernel
theorem dX12_laid_106 : decode cX12_laid 106 = .ok (.aload_n 0, 1) := by decide +kernel
theorem dX12_laid_107 : decode cX12_laid 107 = .ok (.getfield 138, 3) := by decide +kernel
theorem dX12_laid_110 : decode cX12_laid 110 = .ok (.iload 4, 2) := by decide +kernel
theorem dX12_laid_112 : decode cX12_laid 112 = .ok (.iaload, 1) := by decide +kernel
theorem dX12_laid_113 : decode cX12_laid 113 = .ok (.iastore, 1) := by decide +kernel
theorem dX12_laid_114 : decode cX12_laid 114 = .ok (.aload_n 0, 1) := by decide +kernel
theorem dX12_laid_115 : decode cX12_laid 115 = .ok (.getfield 89, 3) := by decide +kernel
theorem dX12_laid_118 : decode cX12_laid 118 = .ok (.iload 4, 2) := by decide +kernel
theorem dX12_laid_120 : decode cX12_laid 120 = .ok (.aload_n 0, 1) := by decide +kernel
theorem dX12_laid_121 : decode cX12_laid 121 = .ok (.getfield 141, 3) := by decide +kernel
theorem dX12_laid_124 : decode cX12_laid 124 = .ok (.iload 4, 2) := by decide +kernel
theorem dX12_laid_126 : decode cX12_laid 126 = .ok (.iaload, 1) := by decide +kernel
theorem dX12_laid_127 : decode cX12_laid 127 = .ok (.iastore, 1) := by decide +kernel
theorem dX12_laid_128 : decode cX12_laid 128 = .ok (.aload_n 0, 1) := by decide +kernel
theorem dX12_laid_129 : decode cX12_laid 129 = .ok (.getfield 92, 3) := by decide +kernel
theorem dX12_laid_132 : decode cX12_laid 132 = .ok (.iload 4, 2) := by decide +kernel
theorem dX12_laid_134 : decode cX12_laid 134 = .ok (.aload_n 0, 1) := by decide +kernel
theorem dX12_laid_135 : decode cX12_laid 135 = .ok (.getfield 144, 3) := by decide +kernel
theorem dX12_laid_138 : decode cX12_laid 138 = .ok (.iload 4, 2) := by decide +kernel
theorem dX12_laid_140 : decode cX12_laid 140 = .ok (.iaload, 1) := by decide +kernel
theorem dX12_laid_141 : decode cX12_laid 141 = .ok (.iastore, 1) := by decide +kernel
theorem dX12_laid_142 : decode cX12_laid 142 = .ok (.iinc 4 1, 3) := by decide +kernel
theorem dX12_laid_145 : decode cX12_laid 145 = .ok (.goto (-69), 3) := by decide +kernel
theorem dX12_laid_148 : decode cX12_laid 148 = .ok (.iconst 1, 1) := by decide +kernel
theorem dX12_laid_149 : decode cX12_laid 149 = .ok (.ireturn, 1) := by decide +kernel
theorem dX12_fixes_0 : decode cX12_fixes 0 = .ok (.aload_n 0, 1) := by decide +kernel
theorem dX12_fixes_1 : decode cX12_fixes 1 = .ok (.getfield 138, 3) := by decide +kernel
theorem dX12_fixes_4 : decode cX12_fixes 4 = .ok (.iload_n 1, 1) := by decide +kernel
theorem dX12_fixes_5 : decode cX12_fixes 5 = .ok (.iconst 0, 1) := by decide +kernel
theorem dX12_fixes_6 : decode cX12_fixes 6 = .ok (.iastore, 1) := by decide +kernel
theorem dX12_fixes_7 : decode cX12_fixes 7 = .ok (.aload_n 0, 1) := by decide +kernel
theorem dX12_fixes_8 : decode cX12_fixes 8 = .ok (.invokevirtual 530, 3) := by decide +kernel
theorem dX12_fixes_11 : decode cX12_fixes 11 = .ok (.lload_n 2, 1) := by decide +kernel
theorem dX12_fixes_12 : decode cX12_fixes 12 = .ok (.lcmp, 1) := by decide +kernel
theorem dX12_fixes_13 : decode cX12_fixes 13 = .ok (.ifCond .eq 16, 3) := by decide +kernel
theorem dX12_fixes_16 : decode cX12_fixes 16 = .ok (.aload_n 0, 1) := by decide +kernel
theorem dX12_fixes_17 : decode cX12_fixes 17 = .ok (.getfield 138, 3) := by decide +kernel
theorem dX12_fixes_20 : decode cX12_fixes 20 = .ok (.iload_n 1, 1) := by decide +kernel
theorem dX12_fixes_21 : decode cX12_fixes 21 = .ok (.dup2, 1) := by decide +kernel
theorem dX12_fixes_22 : decode cX12_fixes 22 = .ok (.iaload, 1) := by decide +kernel
theorem dX12_fixes_23 : decode cX12_fixes 23 = .ok (.iconst 1, 1) := by decide +kernel
theorem dX12_fixes_24 : decode cX12_fixes 24 = .ok (.iadd, 1) := by decide +kernel
theorem dX12_fixes_25 : decode cX12_fixes 25 = .ok (.iastore, 1) := by decide +kernel
theorem dX12_fixes_26 : decode cX12_fixes 26 = .ok (.goto (-19), 3) := by decide +kernel
theorem dX12_fixes_29 : decode cX12_fixes 29 = .ok (.aload_n 0, 1) := by decide +kernel
theorem dX12_fixes_30 : decode cX12_fixes 30 = .ok (.getfield 141, 3) := by decide +kernel
theorem dX12_fixes_33 : decode cX12_fixes 33 = .ok (.iload_n 1, 1) := by decide +kernel
theorem dX12_fixes_34 : decode cX12_fixes 34 = .ok (.iconst 0, 1) := by decide +kernel
theorem dX12_fixes_35 : decode cX12_fixes 35 = .ok (.iastore, 1) := by decide +kernel
theorem dX12_fixes_36 : decode cX12_fixes 36 = .ok (.aload_n 0, 1) := by decide +kernel
theorem dX12_fixes_37 : decode cX12_fixes 37 = .ok (.invokevirtual 530, 3) := by decide +kernel
theorem dX12_fixes_40 : decode cX12_fixes 40 = .ok (.lload_n 2, 1) := by decide +kernel
theorem dX12_fixes_41 : decode cX12_fixes 41 = .ok (.lcmp, 1) := by decide +kernel
theorem dX12_fixes_42 : decode cX12_fixes 42 = .ok (.ifCond .eq 16, 3) := by decide +kernel
theorem dX12_fixes_45 : decode cX12_fixes 45 = .ok (.aload_n 0, 1) := by decide +kernel
theorem dX12_fixes_46 : decode cX12_fixes 46 = .ok (.getfield 141, 3) := by decide +kernel
theorem dX12_fixes_49 : decode cX12_fixes 49 = .ok (.iload_n 1, 1) := by decide +kernel
theorem dX12_fixes_50 : decode cX12_fixes 50 = .ok (.dup2, 1) := by decide +kernel
theorem dX12_fixes_51 : decode cX12_fixes 51 = .ok (.iaload, 1) := by decide +kernel
theorem dX12_fixes_52 : decode cX12_fixes 52 = .ok (.iconst 1, 1) := by decide +kernel
theorem dX12_fixes_53 : decode cX12_fixes 53 = .ok (.iadd, 1) := by decide +kernel
theorem dX12_fixes_54 : decode cX12_fixes 54 = .ok (.iastore, 1) := by decide +kernel
theorem dX12_fixes_55 : decode cX12_fixes 55 = .ok (.goto (-19), 3) := by decide +kernel
theorem dX12_fixes_58 : decode cX12_fixes 58 = .ok (.aload_n 0, 1) := by decide +kernel
theorem dX12_fixes_59 : decode cX12_fixes 59 = .ok (.getfield 144, 3) := by decide +kernel
theorem dX12_fixes_62 : decode cX12_fixes 62 = .ok (.iload_n 1, 1) := by decide +kernel
theorem dX12_fixes_63 : decode cX12_fixes 63 = .ok (.iconst 0, 1) := by decide +kernel
theorem dX12_fixes_64 : decode cX12_fixes 64 = .ok (.iastore, 1) := by decide +kernel
theorem dX12_fixes_65 : decode cX12_fixes 65 = .ok (.aload_n 0, 1) := by decide +kernel
theorem dX12_fixes_66 : decode cX12_fixes 66 = .ok (.invokevirtual 530, 3) := by decide +kernel
theorem dX12_fixes_69 : decode cX12_fixes 69 = .ok (.lload_n 2, 1) := by decide +kernel
theorem dX12_fixes_70 : decode cX12_fixes 70 = .ok (.lcmp, 1) := by decide +kernel
theorem dX12_fixes_71 : decode cX12_fixes 71 = .ok (.ifCond .eq 16, 3) := by decide +kernel
theorem dX12_fixes_74 : decode cX12_fixes 74 = .ok (.aload_n 0, 1) := by decide +kernel
theorem dX12_fixes_75 : decode cX12_fixes 75 = .ok (.getfield 144, 3) := by decide +kernel
theorem dX12_fixes_78 : decode cX12_fixes 78 = .ok (.iload_n 1, 1) := by decide +kernel
theorem dX12_fixes_79 : decode cX12_fixes 79 = .ok (.dup2, 1) := by decide +kernel
theorem dX12_fixes_80 : decode cX12_fixes 80 = .ok (.iaload, 1) := by decide +kernel
theorem dX12_fixes_81 : decode cX12_fixes 81 = .ok (.iconst 1, 1) := by decide +kernel
theorem dX12_fixes_82 : decode cX12_fixes 82 = .ok (.iadd, 1) := by decide +kernel
theorem dX12_fixes_83 : decode cX12_fixes 83 = .ok (.iastore, 1) := by decide +kernel
theorem dX12_fixes_84 : decode cX12_fixes 84 = .ok (.goto (-19), 3) := by decide +kernel
theorem dX12_fixes_87 : decode cX12_fixes 87 = .ok (.return_, 1) := by decide +kernel
theorem dX12_leastTree_0 : decode cX12_leastTree 0 = .ok (.ldc2_w 423, 3) := by decide +kernel
theorem dX12_leastTree_3 : decode cX12_leastTree 3 = .ok (.lstore_n 2, 1) := by decide +kernel
theorem dX12_leastTree_4 : decode cX12_leastTree 4 = .ok (.aload_n 0, 1) := by decide +kernel
theorem dX12_leastTree_5 : decode cX12_leastTree 5 = .ok (.iconst 0, 1) := by decide +kernel
theorem dX12_leastTree_6 : decode cX12_leastTree 6 = .ok (.putfield 546, 3) := by decide +kernel
theorem dX12_leastTree_9 : decode cX12_leastTree 9 = .ok (.aload_n 0, 1) := by decide +kernel
theorem dX12_leastTree_10 : decode cX12_leastTree 10 = .ok (.iconst (-1), 1) := by decide +kernel
theorem dX12_leastTree_11 : decode cX12_leastTree 11 = .ok (.putfield 549, 3) := by decide +kernel
theorem dX12_leastTree_14 : decode cX12_leastTree 14 = .ok (.iconst 0, 1) := by decide +kernel
theorem dX12_leastTree_15 : decode cX12_leastTree 15 = .ok (.istore 4, 2) := by decide +kernel
theorem dX12_leastTree_17 : decode cX12_leastTree 17 = .ok (.iload 4, 2) := by decide +kernel
theorem dX12_leastTree_19 : decode cX12_leastTree 19 = .ok (.iconst 1, 1) := by decide +kernel
theorem dX12_leastTree_20 : decode cX12_leastTree 20 = .ok (.aload_n 0, 1) := by decide +kernel
theorem dX12_leastTree_21 : decode cX12_leastTree 21 = .ok (.getfield 15, 3) := by decide +kernel
theorem dX12_leastTree_24 : decode cX12_leastTree 24 = .ok (.iconst 1, 1) := by decide +kernel
theorem dX12_leastTree_25 : decode cX12_leastTree 25 = .ok (.iaload, 1) := by decide +kernel
theorem dX12_leastTree_26 : decode cX12_leastTree 26 = .ok (.ishl, 1) := by decide +kernel
theorem dX12_leastTree_27 : decode cX12_leastTree 27 = .ok (.if_icmp .ge 65, 3) := by decide +kernel
theorem dX12_leastTree_30 : decode cX12_leastTree 30 = .ok (.iload 4, 2) := by decide +kernel
theorem dX12_leastTree_32 : decode cX12_leastTree 32 = .ok (.iload_n 1, 1) := by decide +kernel
theorem dX12_leastTree_33 : decode cX12_leastTree 33 = .ok (.iand, 1) := by decide +kernel
theorem dX12_leastTree_34 : decode cX12_leastTree 34 = .ok (.ifCond .ne 52, 3) := by decide +kernel
theorem dX12_leastTree_37 : decode cX12_leastTree 37 = .ok (.aload_n 0, 1) := by decide +kernel
theorem dX12_leastTree_38 : decode cX12_leastTree 38 = .ok (.iload 4, 2) := by decide +kernel
theorem dX12_leastTree_40 : decode cX12_leastTree 40 = .ok (.invokevirtual 534, 3) := by decide +kernel
theorem dX12_leastTree_43 : decode cX12_leastTree 43 = .ok (.ifCond .ne 6, 3) := by decide +kernel
theorem dX12_leastTree_46 : decode cX12_leastTree 46 = .ok (.goto 40, 3) := by decide +kernel
theorem dX12_leastTree_49 : decode cX12_leastTree 49 = .ok (.aload_n 0, 1) := by decide +kernel
theorem dX12_leastTree_50 : decode cX12_leastTree 50 = .ok (.dup, 1) := by decide +kernel
theorem dX12_leastTree_51 : decode cX12_leastTree 51 = .ok (.getfield 546, 3) := by decide +kernel
theorem dX12_leastTree_54 : decode cX12_leastTree 54 = .ok (.iconst 1, 1) := by decide +kernel
theorem dX12_leastTree_55 : decode cX12_leastTree 55 = .ok (.iadd, 1) := by decide +kernel
theorem dX12_leastTree_56 : decode cX12_leastTree 56 = .ok (.putfield 546, 3) := by decide +kernel
theorem dX12_leastTree_59 : decode cX12_leastTree 59 = .ok (.aload_n 0, 1) := by decide +kernel
theorem dX12_leastTree_60 : decode cX12_leastTree 60 = .ok (.iload 4, 2) := by decide +kernel
theorem dX12_leastTree_62 : decode cX12_leastTree 62 = .ok (.invokevirtual 537, 3) := by decide +kernel
theorem dX12_leastTree_65 : decode cX12_leastTree 65 = .ok (.lstore 5, 2) := by decide +kernel
theorem dX12_leastTree_67 : decode cX12_leastTree 67 = .ok (.lload 5, 2) := by decide +kernel
theorem dX12_leastTree_69 : decode cX12_leastTree 69 = .ok (.lload_n 2, 1) := by decide +kernel
theorem dX12_leastTree_70 : decode cX12_leastTree 70 = .ok (.lcmp, 1) := by decide +kernel
theorem dX12_leastTree_71 : decode cX12_leastTree 71 = .ok (.ifCond .lt 6, 3) := by decide +kernel
theorem dX12_leastTree_74 : decode cX12_leastTree 74 = .ok (.goto 12, 3) := by decide +kernel
theorem dX12_leastTree_77 : decode cX12_leastTree 77 = .ok (.lload 5, 2) := by decide +kernel
theorem dX12_leastTree_79 : decode cX12_leastTree 79 = .ok (.lstore_n 2, 1) := by decide +kernel
theorem dX12_leastTree_80 : decode cX12_leastTree 80 = .ok (.aload_n 0, 1) := by decide +kernel
theorem dX12_leastTree_81 : decode cX12_leastTree 81 = .ok (.iload 4, 2) := by decide +kernel
theorem dX12_leastTree_83 : decode cX12_leastTree 83 = .ok (.putfield 549, 3) := by decide +kernel
theorem dX12_leastTree_86 : decode cX12_leastTree 86 = .ok (.iinc 4 1, 3) := by decide +kernel
theorem dX12_leastTree_89 : decode cX12_leastTree 89 = .ok (.goto (-72), 3) := by decide +kernel
theorem dX12_leastTree_92 : decode cX12_leastTree 92 = .ok (.lload_n 2, 1) := by decide +kernel
theorem dX12_leastTree_93 : decode cX12_leastTree 93 = .ok (.lreturn, 1) := by decide +kernel
theorem dX12_tree_0 : decode cX12_tree 0 = .ok (.aload_n 0, 1) := by decide +kernel
theorem dX12_tree_1 : decode cX12_tree 1 = .ok (.iconst 0, 1) := by decide +kernel
theorem dX12_tree_2 : decode cX12_tree 2 = .ok (.putfield 153, 3) := by decide +kernel
theorem dX12_tree_5 : decode cX12_tree 5 = .ok (.iload_n 1, 1) := by decide +kernel
theorem dX12_tree_6 : decode cX12_tree 6 = .ok (.ifCond .lt 8, 3) := by decide +kernel
theorem dX12_tree_9 : decode cX12_tree 9 = .ok (.iload_n 1, 1) := by decide +kernel
theorem dX12_tree_10 : decode cX12_tree 10 = .ok (.iconst 2, 1) := by decide +kernel
theorem dX12_tree_11 : decode cX12_tree 11 = .ok (.if_icmp .le 7, 3) := by decide +kernel
theorem dX12_tree_14 : decode cX12_tree 14 = .ok (.ldc2_w 432, 3) := by decide +kernel
theorem dX12_tree_17 : decode cX12_tree 17 = .ok (.lreturn, 1) := by decide +kernel
theorem dX12_tree_18 : decode cX12_tree 18 = .ok (.aload_n 0, 1) := by decide +kernel
theorem dX12_tree_19 : decode cX12_tree 19 = .ok (.iconst 0, 1) := by decide +kernel
theorem dX12_tree_20 : decode cX12_tree 20 = .ok (.invokevirtual 552, 3) := by decide +kernel
theorem dX12_tree_23 : decode cX12_tree 23 = .ok (.lstore_n 2, 1) := by decide +kernel
theorem dX12_tree_24 : decode cX12_tree 24 = .ok (.iload_n 1, 1) := by decide +kernel
theorem dX12_tree_25 : decode cX12_tree 25 = .ok (.iconst 2, 1) := by decide +kernel
theorem dX12_tree_26 : decode cX12_tree 26 = .ok (.if_icmp .ne 9, 3) := by decide +kernel
theorem dX12_tree_29 : decode cX12_tree 29 = .ok (.aload_n 0, 1) := by decide +kernel
theorem dX12_tree_30 : decode cX12_tree 30 = .ok (.getfield 546, 3) := by decide +kernel
theorem dX12_tree_33 : decode cX12_tree 33 = .ok (.i2l, 1) := by decide +kernel
theorem dX12_tree_34 : decode cX12_tree 34 = .ok (.lreturn, 1) := by decide +kernel
theorem dX12_tree_35 : decode cX12_tree 35 = .ok (.lload_n 2, 1) := by decide +kernel
theorem dX12_tree_36 : decode cX12_tree 36 = .ok (.ldc2_w 423, 3) := by decide +kernel
theorem dX12_tree_39 : decode cX12_tree 39 = .ok (.lcmp, 1) := by decide +kernel
theorem dX12_tree_40 : decode cX12_tree 40 = .ok (.ifCond .lt 9, 3) := by decide +kernel
theorem dX12_tree_43 : decode cX12_tree 43 = .ok (.ldc2_w 540, 3) := by decide +kernel
theorem dX12_tree_46 : decode cX12_tree 46 = .ok (.goto 16, 3) := by decide +kernel
theorem dX12_tree_49 : decode cX12_tree 49 = .ok (.iload_n 1, 1) := by decide +kernel
theorem dX12_tree_50 : decode cX12_tree 50 = .ok (.ifCond .ne 7, 3) := by decide +kernel
theorem dX12_tree_53 : decode cX12_tree 53 = .ok (.lload_n 2, 1) := by decide +kernel
theorem dX12_tree_54 : decode cX12_tree 54 = .ok (.goto 8, 3) := by decide +kernel
theorem dX12_tree_57 : decode cX12_tree 57 = .ok (.aload_n 0, 1) := by decide +kernel
theorem dX12_tree_58 : decode cX12_tree 58 = .ok (.getfield 549, 3) := by decide +kernel
theorem dX12_tree_61 : decode cX12_tree 61 = .ok (.i2l, 1) := by decide +kernel
theorem dX12_tree_62 : decode cX12_tree 62 = .ok (.lreturn, 1) := by decide +kernel
theorem dX12_without_0 : decode cX12_without 0 = .ok (.aload_n 0, 1) := by decide +kernel
theorem dX12_without_1 : decode cX12_without 1 = .ok (.iconst 0, 1) := by decide +kernel
theorem dX12_without_2 : decode cX12_without 2 = .ok (.putfield 153, 3) := by decide +kernel
theorem dX12_without_5 : decode cX12_without 5 = .ok (.aload_n 0, 1) := by decide +kernel
theorem dX12_without_6 : decode cX12_without 6 = .ok (.iload_n 1, 1) := by decide +kernel
theorem dX12_without_7 : decode cX12_without 7 = .ok (.invokevirtual 330, 3) := by decide +kernel
theorem dX12_without_10 : decode cX12_without 10 = .ok (.ifCond .eq 11, 3) := by decide +kernel
theorem dX12_without_13 : decode cX12_without 13 = .ok (.aload_n 0, 1) := by decide +kernel
theorem dX12_without_14 : decode cX12_without 14 = .ok (.iload_n 2, 1) := by decide +kernel
theorem dX12_without_15 : decode cX12_without 15 = .ok (.invokevirtual 330, 3) := by decide +kernel
theorem dX12_without_18 : decode cX12_without 18 = .ok (.ifCond .ne 7, 3) := by decide +kernel
theorem dX12_without_21 : decode cX12_without 21 = .ok (.ldc2_w 432, 3) := by decide +kernel
theorem dX12_without_24 : decode cX12_without 24 = .ok (.lreturn, 1) := by decide +kernel
theorem dX12_without_25 : decode cX12_without 25 = .ok (.aload_n 0, 1) := by decide +kernel
theorem dX12_without_26 : decode cX12_without 26 = .ok (.iconst 0, 1) := by decide +kernel
theorem dX12_without_27 : decode cX12_without 27 = .ok (.invokevirtual 552, 3) := by decide +kernel
theorem dX12_without_30 : decode cX12_without 30 = .ok (.lstore_n 3, 1) := by decide +kernel
theorem dX12_without_31 : decode cX12_without 31 = .ok (.lload_n 3, 1) := by decide +kernel
theorem dX12_without_32 : decode cX12_without 32 = .ok (.ldc2_w 423, 3) := by decide +kernel
theorem dX12_without_35 : decode cX12_without 35 = .ok (.lcmp, 1) := by decide +kernel
theorem dX12_without_36 : decode cX12_without 36 = .ok (.ifCond .lt 7, 3) := by decide +kernel
theorem dX12_without_39 : decode cX12_without 39 = .ok (.ldc2_w 432, 3) := by decide +kernel
theorem dX12_without_42 : decode cX12_without 42 = .ok (.lreturn, 1) := by decide +kernel
theorem dX12_without_43 : decode cX12_without 43 = .ok (.aload_n 0, 1) := by decide +kernel
theorem dX12_without_44 : decode cX12_without 44 = .ok (.iconst 1, 1) := by decide +kernel
theorem dX12_without_45 : decode cX12_without 45 = .ok (.iload_n 1, 1) := by decide +kernel
theorem dX12_without_46 : decode cX12_without 46 = .ok (.ishl, 1) := by decide +kernel
theorem dX12_without_47 : decode cX12_without 47 = .ok (.iconst 1, 1) := by decide +kernel
theorem dX12_without_48 : decode cX12_without 48 = .ok (.iload_n 2, 1) := by decide +kernel
theorem dX12_without_49 : decode cX12_without 49 = .ok (.ishl, 1) := by decide +kernel
theorem dX12_without_50 : decode cX12_without 50 = .ok (.ior, 1) := by decide +kernel
theorem dX12_without_51 : decode cX12_without 51 = .ok (.invokevirtual 552, 3) := by decide +kernel
theorem dX12_without_54 : decode cX12_without 54 = .ok (.lstore 5, 2) := by decide +kernel
theorem dX12_without_56 : decode cX12_without 56 = .ok (.lload 5, 2) := by decide +kernel
theorem dX12_without_58 : decode cX12_without 58 = .ok (.ldc2_w 423, 3) := by decide +kernel
theorem dX12_without_61 : decode cX12_without 61 = .ok (.lcmp, 1) := by decide +kernel
theorem dX12_without_62 : decode cX12_without 62 = .ok (.ifCond .lt 9, 3) := by decide +kernel
theorem dX12_without_65 : decode cX12_without 65 = .ok (.ldc2_w 540, 3) := by decide +kernel
theorem dX12_without_68 : decode cX12_without 68 = .ok (.goto 7, 3) := by decide +kernel
theorem dX12_without_71 : decode cX12_without 71 = .ok (.lload 5, 2) := by decide +kernel
theorem dX12_without_73 : decode cX12_without 73 = .ok (.lload_n 3, 1) := by decide +kernel
theorem dX12_without_74 : decode cX12_without 74 = .ok (.lsub, 1) := by decide +kernel
theorem dX12_without_75 : decode cX12_without 75 = .ok (.lreturn, 1) := by decide +kernel
theorem dX12_joinedBy_0 : decode cX12_joinedBy 0 = .ok (.iconst 1, 1) := by decide +kernel
theorem dX12_joinedBy_1 : decode cX12_joinedBy 1 = .ok (.aload_n 0, 1) := by decide +kernel
theorem dX12_joinedBy_2 : decode cX12_joinedBy 2 = .ok (.getfield 15, 3) := by decide +kernel
theorem dX12_joinedBy_5 : decode cX12_joinedBy 5 = .ok (.iconst 4, 1) := by decide +kernel
theorem dX12_joinedBy_6 : decode cX12_joinedBy 6 = .ok (.iaload, 1) := by decide +kernel
theorem dX12_joinedBy_7 : decode cX12_joinedBy 7 = .ok (.ishl, 1) := by decide +kernel
theorem dX12_joinedBy_8 : decode cX12_joinedBy 8 = .ok (.istore_n 2, 1) := by decide +kernel
theorem dX12_joinedBy_9 : decode cX12_joinedBy 9 = .ok (.iconst 1, 1) := by decide +kernel
theorem dX12_joinedBy_10 : decode cX12_joinedBy 10 = .ok (.istore_n 3, 1) := by decide +kernel
theorem dX12_joinedBy_11 : decode cX12_joinedBy 11 = .ok (.iload_n 3, 1) := by decide +kernel
theorem dX12_joinedBy_12 : decode cX12_joinedBy 12 = .ok (.ifCond .eq 72, 3) := by decide +kernel
theorem dX12_joinedBy_15 : decode cX12_joinedBy 15 = .ok (.iconst 0, 1) := by decide +kernel
theorem dX12_joinedBy_16 : decode cX12_joinedBy 16 = .ok (.istore_n 3, 1) := by decide +kernel
theorem dX12_joinedBy_17 : decode cX12_joinedBy 17 = .ok (.iconst 0, 1) := by decide +kernel
theorem dX12_joinedBy_18 : decode cX12_joinedBy 18 = .ok (.istore 4, 2) := by decide +kernel
theorem dX12_joinedBy_20 : decode cX12_joinedBy 20 = .ok (.iload 4, 2) := by decide +kernel
theorem dX12_joinedBy_22 : decode cX12_joinedBy 22 = .ok (.aload_n 0, 1) := by decide +kernel
theorem dX12_joinedBy_23 : decode cX12_joinedBy 23 = .ok (.getfield 15, 3) := by decide +kernel
theorem dX12_joinedBy_26 : decode cX12_joinedBy 26 = .ok (.iconst 0, 1) := by decide +kernel
theorem dX12_joinedBy_27 : decode cX12_joinedBy 27 = .ok (.iaload, 1) := by decide +kernel
theorem dX12_joinedBy_28 : decode cX12_joinedBy 28 = .ok (.if_icmp .ge 53, 3) := by decide +kernel
theorem dX12_joinedBy_31 : decode cX12_joinedBy 31 = .ok (.iload_n 1, 1) := by decide +kernel
theorem dX12_joinedBy_32 : decode cX12_joinedBy 32 = .ok (.iload 4, 2) := by decide +kernel
theorem dX12_joinedBy_34 : decode cX12_joinedBy 34 = .ok (.ishr, 1) := by decide +kernel
theorem dX12_joinedBy_35 : decode cX12_joinedBy 35 = .ok (.iconst 1, 1) := by decide +kernel
theorem dX12_joinedBy_36 : decode cX12_joinedBy 36 = .ok (.iand, 1) := by decide +kernel
theorem dX12_joinedBy_37 : decode cX12_joinedBy 37 = .ok (.ifCond .eq 38, 3) := by decide +kernel
theorem dX12_joinedBy_40 : decode cX12_joinedBy 40 = .ok (.iload_n 2, 1) := by decide +kernel
theorem dX12_joinedBy_41 : decode cX12_joinedBy 41 = .ok (.iload 4, 2) := by decide +kernel
theorem dX12_joinedBy_43 : decode cX12_joinedBy 43 = .ok (.ishr, 1) := by decide +kernel
theorem dX12_joinedBy_44 : decode cX12_joinedBy 44 = .ok (.iconst 1, 1) := by decide +kernel
theorem dX12_joinedBy_45 : decode cX12_joinedBy 45 = .ok (.iand, 1) := by decide +kernel
theorem dX12_joinedBy_46 : decode cX12_joinedBy 46 = .ok (.iconst 1, 1) := by decide +kernel
theorem dX12_joinedBy_47 : decode cX12_joinedBy 47 = .ok (.if_icmp .eq 28, 3) := by decide +kernel
theorem dX12_joinedBy_50 : decode cX12_joinedBy 50 = .ok (.iload_n 2, 1) := by decide +kernel
theorem dX12_joinedBy_51 : decode cX12_joinedBy 51 = .ok (.aload_n 0, 1) := by decide +kernel
theorem dX12_joinedBy_52 : decode cX12_joinedBy 52 = .ok (.iload 4, 2) := by decide +kernel
theorem dX12_joinedBy_54 : decode cX12_joinedBy 54 = .ok (.invokevirtual 383, 3) := by decide +kernel
theorem dX12_joinedBy_57 : decode cX12_joinedBy 57 = .ok (.ishr, 1) := by decide +kernel
theorem dX12_joinedBy_58 : decode cX12_joinedBy 58 = .ok (.iconst 1, 1) := by decide +kernel
theorem dX12_joinedBy_59 : decode cX12_joinedBy 59 = .ok (.iand, 1) := by decide +kernel
theorem dX12_joinedBy_60 : decode cX12_joinedBy 60 = .ok (.ifCond .ne 6, 3) := by decide +kernel
theorem dX12_joinedBy_63 : decode cX12_joinedBy 63 = .ok (.goto 12, 3) := by decide +kernel
theorem dX12_joinedBy_66 : decode cX12_joinedBy 66 = .ok (.iload_n 2, 1) := by decide +kernel
theorem dX12_joinedBy_67 : decode cX12_joinedBy 67 = .ok (.iconst 1, 1) := by decide +kernel
theorem dX12_joinedBy_68 : decode cX12_joinedBy 68 = .ok (.iload 4, 2) := by decide +kernel
theorem dX12_joinedBy_70 : decode cX12_joinedBy 70 = .ok (.ishl, 1) := by decide +kernel
theorem dX12_joinedBy_71 : decode cX12_joinedBy 71 = .ok (.ior, 1) := by decide +kernel
theorem dX12_joinedBy_72 : decode cX12_joinedBy 72 = .ok (.istore_n 2, 1) := by decide +kernel
theorem dX12_joinedBy_73 : decode cX12_joinedBy 73 = .ok (.iconst 1, 1) := by decide +kernel
theorem dX12_joinedBy_74 : decode cX12_joinedBy 74 = .ok (.istore_n 3, 1) := by decide +kernel
theorem dX12_joinedBy_75 : decode cX12_joinedBy 75 = .ok (.iinc 4 1, 3) := by decide +kernel
theorem dX12_joinedBy_78 : decode cX12_joinedBy 78 = .ok (.goto (-58), 3) := by decide +kernel
theorem dX12_joinedBy_81 : decode cX12_joinedBy 81 = .ok (.goto (-70), 3) := by decide +kernel
theorem dX12_joinedBy_84 : decode cX12_joinedBy 84 = .ok (.iload_n 2, 1) := by decide +kernel
theorem dX12_joinedBy_85 : decode cX12_joinedBy 85 = .ok (.ireturn, 1) := by decide +kernel
theorem dX12_stageCost_0 : decode cX12_stageCost 0 = .ok (.lconst 0, 1) := by decide +kernel
theorem dX12_stageCost_1 : decode cX12_stageCost 1 = .ok (.lstore_n 2, 1) := by decide +kernel
theorem dX12_stageCost_2 : decode cX12_stageCost 2 = .ok (.aload_n 0, 1) := by decide +kernel
theorem dX12_stageCost_3 : decode cX12_stageCost 3 = .ok (.iload_n 1, 1) := by decide +kernel
theorem dX12_stageCost_4 : decode cX12_stageCost 4 = .ok (.invokevirtual 555, 3) := by decide +kernel
theorem dX12_stageCost_7 : decode cX12_stageCost 7 = .ok (.istore 4, 2) := by decide +kernel
theorem dX12_stageCost_9 : decode cX12_stageCost 9 = .ok (.iconst 0, 1) := by decide +kernel
theorem dX12_stageCost_10 : decode cX12_stageCost 10 = .ok (.istore 5, 2) := by decide +kernel
theorem dX12_stageCost_12 : decode cX12_stageCost 12 = .ok (.iload 5, 2) := by decide +kernel
theorem dX12_stageCost_14 : decode cX12_stageCost 14 = .ok (.aload_n 0, 1) := by decide +kernel
theorem dX12_stageCost_15 : decode cX12_stageCost 15 = .ok (.getfield 15, 3) := by decide +kernel
theorem dX12_stageCost_18 : decode cX12_stageCost 18 = .ok (.iconst 0, 1) := by decide +kernel
theorem dX12_stageCost_19 : decode cX12_stageCost 19 = .ok (.iaload, 1) := by decide +kernel
theorem dX12_stageCost_20 : decode cX12_stageCost 20 = .ok (.if_icmp .ge 42, 3) := by decide +kernel
theorem dX12_stageCost_23 : decode cX12_stageCost 23 = .ok (.lload_n 2, 1) := by decide +kernel
theorem dX12_stageCost_24 : decode cX12_stageCost 24 = .ok (.iload 4, 2) := by decide +kernel
theorem dX12_stageCost_26 : decode cX12_stageCost 26 = .ok (.iload 5, 2) := by decide +kernel
theorem dX12_stageCost_28 : decode cX12_stageCost 28 = .ok (.ishr, 1) := by decide +kernel
theorem dX12_stageCost_29 : decode cX12_stageCost 29 = .ok (.iconst 1, 1) := by decide +kernel
theorem dX12_stageCost_30 : decode cX12_stageCost 30 = .ok (.iand, 1) := by decide +kernel
theorem dX12_stageCost_31 : decode cX12_stageCost 31 = .ok (.ifCond .ne 22, 3) := by decide +kernel
theorem dX12_stageCost_34 : decode cX12_stageCost 34 = .ok (.aload_n 0, 1) := by decide +kernel
theorem dX12_stageCost_35 : decode cX12_stageCost 35 = .ok (.getfield 15, 3) := by decide +kernel
theorem dX12_stageCost_38 : decode cX12_stageCost 38 = .ok (.bipush 10, 2) := by decide +kernel
theorem dX12_stageCost_40 : decode cX12_stageCost 40 = .ok (.iaload, 1) := by decide +kernel
theorem dX12_stageCost_41 : decode cX12_stageCost 41 = .ok (.aload_n 0, 1) := by decide +kernel
theorem dX12_stageCost_42 : decode cX12_stageCost 42 = .ok (.getfield 24, 3) := by decide +kernel
theorem dX12_stageCost_45 : decode cX12_stageCost 45 = .ok (.iload 5, 2) := by decide +kernel
theorem dX12_stageCost_47 : decode cX12_stageCost 47 = .ok (.iaload, 1) := by decide +kernel
theorem dX12_stageCost_48 : decode cX12_stageCost 48 = .ok (.imul, 1) := by decide +kernel
theorem dX12_stageCost_49 : decode cX12_stageCost 49 = .ok (.i2l, 1) := by decide +kernel
theorem dX12_stageCost_50 : decode cX12_stageCost 50 = .ok (.goto 4, 3) := by decide +kernel
theorem dX12_stageCost_53 : decode cX12_stageCost 53 = .ok (.lconst 0, 1) := by decide +kernel
theorem dX12_stageCost_54 : decode cX12_stageCost 54 = .ok (.ladd, 1) := by decide +kernel
theorem dX12_stageCost_55 : decode cX12_stageCost 55 = .ok (.lstore_n 2, 1) := by decide +kernel
theorem dX12_stageCost_56 : decode cX12_stageCost 56 = .ok (.iinc 5 1, 3) := by decide +kernel
theorem dX12_stageCost_59 : decode cX12_stageCost 59 = .ok (.goto (-47), 3) := by decide +kernel
theorem dX12_stageCost_62 : decode cX12_stageCost 62 = .ok (.lload_n 2, 1) := by decide +kernel
theorem dX12_stageCost_63 : decode cX12_stageCost 63 = .ok (.lreturn, 1) := by decide +kernel
theorem dX12_orders_0 : decode cX12_orders 0 = .ok (.iload_n 1, 1) := by decide +kernel
theorem dX12_orders_1 : decode cX12_orders 1 = .ok (.aload_n 0, 1) := by decide +kernel
theorem dX12_orders_2 : decode cX12_orders 2 = .ok (.getfield 15, 3) := by decide +kernel
theorem dX12_orders_5 : decode cX12_orders 5 = .ok (.iconst 0, 1) := by decide +kernel
theorem dX12_orders_6 : decode cX12_orders 6 = .ok (.iaload, 1) := by decide +kernel
theorem dX12_orders_7 : decode cX12_orders 7 = .ok (.iconst 1, 1) := by decide +kernel
theorem dX12_orders_8 : decode cX12_orders 8 = .ok (.isub, 1) := by decide +kernel
theorem dX12_orders_9 : decode cX12_orders 9 = .ok (.if_icmp .ne 59, 3) := by decide +kernel
theorem dX12_orders_12 : decode cX12_orders 12 = .ok (.aload_n 0, 1) := by decide +kernel
theorem dX12_orders_13 : decode cX12_orders 13 = .ok (.getfield 558, 3) := by decide +kernel
theorem dX12_orders_16 : decode cX12_orders 16 = .ok (.ldc2_w 432, 3) := by decide +kernel
theorem dX12_orders_19 : decode cX12_orders 19 = .ok (.lcmp, 1) := by decide +kernel
theorem dX12_orders_20 : decode cX12_orders 20 = .ok (.ifCond .eq 13, 3) := by decide +kernel
theorem dX12_orders_23 : decode cX12_orders 23 = .ok (.lload_n 3, 1) := by decide +kernel
theorem dX12_orders_24 : decode cX12_orders 24 = .ok (.aload_n 0, 1) := by decide +kernel
theorem dX12_orders_25 : decode cX12_orders 25 = .ok (.getfield 558, 3) := by decide +kernel
theorem dX12_orders_28 : decode cX12_orders 28 = .ok (.lcmp, 1) := by decide +kernel
theorem dX12_orders_29 : decode cX12_orders 29 = .ok (.ifCond .lt 4, 3) := by decide +kernel
theorem dX12_orders_32 : decode cX12_orders 32 = .ok (.return_, 1) := by decide +kernel
theorem dX12_orders_33 : decode cX12_orders 33 = .ok (.aload_n 0, 1) := by decide +kernel
theorem dX12_orders_34 : decode cX12_orders 34 = .ok (.lload_n 3, 1) := by decide +kernel
theorem dX12_orders_35 : decode cX12_orders 35 = .ok (.putfield 558, 3) := by decide +kernel
theorem dX12_orders_38 : decode cX12_orders 38 = .ok (.iconst 0, 1) := by decide +kernel
theorem dX12_orders_39 : decode cX12_orders 39 = .ok (.istore 5, 2) := by decide +kernel
theorem dX12_orders_41 : decode cX12_orders 41 = .ok (.iload 5, 2) := by decide +kernel
theorem dX12_orders_43 : decode cX12_orders 43 = .ok (.iload_n 1, 1) := by decide +kernel
theorem dX12_orders_44 : decode cX12_orders 44 = .ok (.if_icmp .ge 23, 3) := by decide +kernel
theorem dX12_orders_47 : decode cX12_orders 47 = .ok (.aload_n 0, 1) := by decide +kernel
theorem dX12_orders_48 : decode cX12_orders 48 = .ok (.getfield 150, 3) := by decide +kernel
theorem dX12_orders_51 : decode cX12_orders 51 = .ok (.iload 5, 2) := by decide +kernel
theorem dX12_orders_53 : decode cX12_orders 53 = .ok (.aload_n 0, 1) := by decide +kernel
theorem dX12_orders_54 : decode cX12_orders 54 = .ok (.getfield 147, 3) := by decide +kernel
theorem dX12_orders_57 : decode cX12_orders 57 = .ok (.iload 5, 2) := by decide +kernel
theorem dX12_orders_59 : decode cX12_orders 59 = .ok (.iaload, 1) := by decide +kernel
theorem dX12_orders_60 : decode cX12_orders 60 = .ok (.iastore, 1) := by decide +kernel
theorem dX12_orders_61 : decode cX12_orders 61 = .ok (.iinc 5 1, 3) := by decide +kernel
theorem dX12_orders_64 : decode cX12_orders 64 = .ok (.goto (-23), 3) := by decide +kernel
theorem dX12_orders_67 : decode cX12_orders 67 = .ok (.return_, 1) := by decide +kernel
theorem dX12_orders_68 : decode cX12_orders 68 = .ok (.iconst 0, 1) := by decide +kernel
theorem dX12_orders_69 : decode cX12_orders 69 = .ok (.istore 5, 2) := by decide +kernel
theorem dX12_orders_71 : decode cX12_orders 71 = .ok (.iload 5, 2) := by decide +kernel
theorem dX12_orders_73 : decode cX12_orders 73 = .ok (.aload_n 0, 1) := by decide +kernel
theorem dX12_orders_74 : decode cX12_orders 74 = .ok (.getfield 15, 3) := by decide +kernel
theorem dX12_orders_77 : decode cX12_orders 77 = .ok (.iconst 0, 1) := by decide +kernel
theorem dX12_orders_78 : decode cX12_orders 78 = .ok (.iaload, 1) := by decide +kernel
theorem dX12_orders_79 : decode cX12_orders 79 = .ok (.if_icmp .ge 89, 3) := by decide +kernel
theorem dX12_orders_82 : decode cX12_orders 82 = .ok (.iload 5, 2) := by decide +kernel
theorem dX12_orders_84 : decode cX12_orders 84 = .ok (.aload_n 0, 1) := by decide +kernel
theorem dX12_orders_85 : decode cX12_orders 85 = .ok (.getfield 15, 3) := by decide +kernel
theorem dX12_orders_88 : decode cX12_orders 88 = .ok (.iconst 4, 1) := by decide +kernel
theorem dX12_orders_89 : decode cX12_orders 89 = .ok (.iaload, 1) := by decide +kernel
theorem dX12_orders_90 : decode cX12_orders 90 = .ok (.if_icmp .eq 72, 3) := by decide +kernel
theorem dX12_orders_93 : decode cX12_orders 93 = .ok (.iload_n 2, 1) := by decide +kernel
theorem dX12_orders_94 : decode cX12_orders 94 = .ok (.iload 5, 2) := by decide +kernel
theorem dX12_orders_96 : decode cX12_orders 96 = .ok (.ishr, 1) := by decide +kernel
theorem dX12_orders_97 : decode cX12_orders 97 = .ok (.iconst 1, 1) := by decide +kernel
theorem dX12_orders_98 : decode cX12_orders 98 = .ok (.iand, 1) := by decide +kernel
theorem dX12_orders_99 : decode cX12_orders 99 = .ok (.iconst 1, 1) := by decide +kernel
theorem dX12_orders_100 : decode cX12_orders 100 = .ok (.if_icmp .eq 62, 3) := by decide +kernel
theorem dX12_orders_103 : decode cX12_orders 103 = .ok (.aload_n 0, 1) := by decide +kernel
theorem dX12_orders_104 : decode cX12_orders 104 = .ok (.iload 5, 2) := by decide +kernel
theorem dX12_orders_106 : decode cX12_orders 106 = .ok (.invokevirtual 383, 3) := by decide +kernel
theorem dX12_orders_109 : decode cX12_orders 109 = .ok (.aload_n 0, 1) := by decide +kernel
theorem dX12_orders_110 : decode cX12_orders 110 = .ok (.getfield 15, 3) := by decide +kernel
theorem dX12_orders_113 : decode cX12_orders 113 = .ok (.iconst 4, 1) := by decide +kernel
theorem dX12_orders_114 : decode cX12_orders 114 = .ok (.iaload, 1) := by decide +kernel
theorem dX12_orders_115 : decode cX12_orders 115 = .ok (.if_icmp .eq 19, 3) := by decide +kernel
theorem dX12_orders_118 : decode cX12_orders 118 = .ok (.iload_n 2, 1) := by decide +kernel
theorem dX12_orders_119 : decode cX12_orders 119 = .ok (.aload_n 0, 1) := by decide +kernel
theorem dX12_orders_120 : decode cX12_orders 120 = .ok (.iload 5, 2) := by decide +kernel
theorem dX12_orders_122 : decode cX12_orders 122 = .ok (.invokevirtual 383, 3) := by decide +kernel
theorem dX12_orders_125 : decode cX12_orders 125 = .ok (.ishr, 1) := by decide +kernel
theorem dX12_orders_126 : decode cX12_orders 126 = .ok (.iconst 1, 1) := by decide +kernel
theorem dX12_orders_127 : decode cX12_orders 127 = .ok (.iand, 1) := by decide +kernel
theorem dX12_orders_128 : decode cX12_orders 128 = .ok (.ifCond .ne 6, 3) := by decide +kernel
theorem dX12_orders_131 : decode cX12_orders 131 = .ok (.goto 31, 3) := by decide +kernel
theorem dX12_orders_134 : decode cX12_orders 134 = .ok (.aload_n 0, 1) := by decide +kernel
theorem dX12_orders_135 : decode cX12_orders 135 = .ok (.getfield 147, 3) := by decide +kernel
theorem dX12_orders_138 : decode cX12_orders 138 = .ok (.iload_n 1, 1) := by decide +kernel
theorem dX12_orders_139 : decode cX12_orders 139 = .ok (.iload 5, 2) := by decide +kernel
theorem dX12_orders_141 : decode cX12_orders 141 = .ok (.iastore, 1) := by decide +kernel
theorem dX12_orders_142 : decode cX12_orders 142 = .ok (.aload_n 0, 1) := by decide +kernel
theorem dX12_orders_143 : decode cX12_orders 143 = .ok (.iload_n 1, 1) := by decide +kernel
theorem dX12_orders_144 : decode cX12_orders 144 = .ok (.iconst 1, 1) := by decide +kernel
theorem dX12_orders_145 : decode cX12_orders 145 = .ok (.iadd, 1) := by decide +kernel
theorem dX12_orders_146 : decode cX12_orders 146 = .ok (.iload_n 2, 1) := by decide +kernel
theorem dX12_orders_147 : decode cX12_orders 147 = .ok (.iconst 1, 1) := by decide +kernel
theorem dX12_orders_148 : decode cX12_orders 148 = .ok (.iload 5, 2) := by decide +kernel
theorem dX12_orders_150 : decode cX12_orders 150 = .ok (.ishl, 1) := by decide +kernel
theorem dX12_orders_151 : decode cX12_orders 151 = .ok (.ior, 1) := by decide +kernel
theorem dX12_orders_152 : decode cX12_orders 152 = .ok (.lload_n 3, 1) := by decide +kernel
theorem dX12_orders_153 : decode cX12_orders 153 = .ok (.aload_n 0, 1) := by decide +kernel
theorem dX12_orders_154 : decode cX12_orders 154 = .ok (.iload_n 2, 1) := by decide +kernel
theorem dX12_orders_155 : decode cX12_orders 155 = .ok (.invokevirtual 562, 3) := by decide +kernel
theorem dX12_orders_158 : decode cX12_orders 158 = .ok (.ladd, 1) := by decide +kernel
theorem dX12_orders_159 : decode cX12_orders 159 = .ok (.invokevirtual 565, 3) := by decide +kernel
theorem dX12_orders_162 : decode cX12_orders 162 = .ok (.iinc 5 1, 3) := by decide +kernel
theorem dX12_orders_165 : decode cX12_orders 165 = .ok (.goto (-94), 3) := by decide +kernel
theorem dX12_orders_168 : decode cX12_orders 168 = .ok (.return_, 1) := by decide +kernel
theorem dX12_stages_0 : decode cX12_stages 0 = .ok (.aload_n 0, 1) := by decide +kernel
theorem dX12_stages_1 : decode cX12_stages 1 = .ok (.iconst 0, 1) := by decide +kernel
theorem dX12_stages_2 : decode cX12_stages 2 = .ok (.putfield 153, 3) := by decide +kernel
theorem dX12_stages_5 : decode cX12_stages 5 = .ok (.aload_n 0, 1) := by decide +kernel
theorem dX12_stages_6 : decode cX12_stages 6 = .ok (.iconst 0, 1) := by decide +kernel
theorem dX12_stages_7 : decode cX12_stages 7 = .ok (.putfield 371, 3) := by decide +kernel
theorem dX12_stages_10 : decode cX12_stages 10 = .ok (.aload_n 0, 1) := by decide +kernel
theorem dX12_stages_11 : decode cX12_stages 11 = .ok (.invokevirtual 482, 3) := by decide +kernel
theorem dX12_stages_14 : decode cX12_stages 14 = .ok (.ifCond .eq 19, 3) := by decide +kernel
theorem dX12_stages_17 : decode cX12_stages 17 = .ok (.iload_n 1, 1) := by decide +kernel
theorem dX12_stages_18 : decode cX12_stages 18 = .ok (.ifCond .lt 15, 3) := by decide +kernel
theorem dX12_stages_21 : decode cX12_stages 21 = .ok (.iload_n 1, 1) := by decide +kernel
theorem dX12_stages_22 : decode cX12_stages 22 = .ok (.aload_n 0, 1) := by decide +kernel
theorem dX12_stages_23 : decode cX12_stages 23 = .ok (.getfield 15, 3) := by decide +kernel
theorem dX12_stages_26 : decode cX12_stages 26 = .ok (.iconst 0, 1) := by decide +kernel
theorem dX12_stages_27 : decode cX12_stages 27 = .ok (.iaload, 1) := by decide +kernel
theorem dX12_stages_28 : decode cX12_stages 28 = .ok (.iconst 1, 1) := by decide +kernel
theorem dX12_stages_29 : decode cX12_stages 29 = .ok (.isub, 1) := by decide +kernel
theorem dX12_stages_30 : decode cX12_stages 30 = .ok (.if_icmp .le 7, 3) := by decide +kernel
theorem dX12_stages_33 : decode cX12_stages 33 = .ok (.ldc2_w 432, 3) := by decide +kernel
theorem dX12_stages_36 : decode cX12_stages 36 = .ok (.lreturn, 1) := by decide +kernel
theorem dX12_stages_37 : decode cX12_stages 37 = .ok (.aload_n 0, 1) := by decide +kernel
theorem dX12_stages_38 : decode cX12_stages 38 = .ok (.ldc2_w 432, 3) := by decide +kernel
theorem dX12_stages_41 : decode cX12_stages 41 = .ok (.putfield 558, 3) := by decide +kernel
theorem dX12_stages_44 : decode cX12_stages 44 = .ok (.aload_n 0, 1) := by decide +kernel
theorem dX12_stages_45 : decode cX12_stages 45 = .ok (.iconst 0, 1) := by decide +kernel
theorem dX12_stages_46 : decode cX12_stages 46 = .ok (.iconst 0, 1) := by decide +kernel
theorem dX12_stages_47 : decode cX12_stages 47 = .ok (.lconst 0, 1) := by decide +kernel
theorem dX12_stages_48 : decode cX12_stages 48 = .ok (.invokevirtual 565, 3) := by decide +kernel
theorem dX12_stages_51 : decode cX12_stages 51 = .ok (.iload_n 1, 1) := by decide +kernel
theorem dX12_stages_52 : decode cX12_stages 52 = .ok (.ifCond .ne 10, 3) := by decide +kernel
theorem dX12_stages_55 : decode cX12_stages 55 = .ok (.aload_n 0, 1) := by decide +kernel
theorem dX12_stages_56 : decode cX12_stages 56 = .ok (.getfield 558, 3) := by decide +kernel
theorem dX12_stages_59 : decode cX12_stages 59 = .ok (.goto 12, 3) := by decide +kernel
theorem dX12_stages_62 : decode cX12_stages 62 = .ok (.aload_n 0, 1) := by decide +kernel
theorem dX12_stages_63 : decode cX12_stages 63 = .ok (.getfield 150, 3) := by decide +kernel
theorem dX12_stages_66 : decode cX12_stages 66 = .ok (.iload_n 1, 1) := by decide +kernel
theorem dX12_stages_67 : decode cX12_stages 67 = .ok (.iconst 1, 1) := by decide +kernel
theorem dX12_stages_68 : decode cX12_stages 68 = .ok (.isub, 1) := by decide +kernel
theorem dX12_stages_69 : decode cX12_stages 69 = .ok (.iaload, 1) := by decide +kernel
theorem dX12_stages_70 : decode cX12_stages 70 = .ok (.i2l, 1) := by decide +kernel
theorem dX12_stages_71 : decode cX12_stages 71 = .ok (.lreturn, 1) := by decide +kernel
theorem dX12_stage_0 : decode cX12_stage 0 = .ok (.aload_n 0, 1) := by decide +kernel
theorem dX12_stage_1 : decode cX12_stage 1 = .ok (.iconst 0, 1) := by decide +kernel
theorem dX12_stage_2 : decode cX12_stage 2 = .ok (.putfield 153, 3) := by decide +kernel
theorem dX12_stage_5 : decode cX12_stage 5 = .ok (.aload_n 0, 1) := by decide +kernel
theorem dX12_stage_6 : decode cX12_stage 6 = .ok (.iconst 0, 1) := by decide +kernel
theorem dX12_stage_7 : decode cX12_stage 7 = .ok (.putfield 371, 3) := by decide +kernel
theorem dX12_stage_10 : decode cX12_stage 10 = .ok (.aload_n 0, 1) := by decide +kernel
theorem dX12_stage_11 : decode cX12_stage 11 = .ok (.invokevirtual 482, 3) := by decide +kernel
theorem dX12_stage_14 : decode cX12_stage 14 = .ok (.ifCond .eq 13, 3) := by decide +kernel
theorem dX12_stage_17 : decode cX12_stage 17 = .ok (.iload_n 1, 1) := by decide +kernel
theorem dX12_stage_18 : decode cX12_stage 18 = .ok (.ifCond .lt 9, 3) := by decide +kernel
theorem dX12_stage_21 : decode cX12_stage 21 = .ok (.iload_n 1, 1) := by decide +kernel
theorem dX12_stage_22 : decode cX12_stage 22 = .ok (.bipush 6, 2) := by decide +kernel
theorem dX12_stage_24 : decode cX12_stage 24 = .ok (.if_icmp .le 7, 3) := by decide +kernel
theorem dX12_stage_27 : decode cX12_stage 27 = .ok (.ldc2_w 432, 3) := by decide +kernel
theorem dX12_stage_30 : decode cX12_stage 30 = .ok (.lreturn, 1) := by decide +kernel
theorem dX12_stage_31 : decode cX12_stage 31 = .ok (.iload_n 1, 1) := by decide +kernel
theorem dX12_stage_32 : decode cX12_stage 32 = .ok (.aload_n 0, 1) := by decide +kernel
theorem dX12_stage_33 : decode cX12_stage 33 = .ok (.getfield 15, 3) := by decide +kernel
theorem dX12_stage_36 : decode cX12_stage 36 = .ok (.iconst 0, 1) := by decide +kernel
theorem dX12_stage_37 : decode cX12_stage 37 = .ok (.iaload, 1) := by decide +kernel
theorem dX12_stage_38 : decode cX12_stage 38 = .ok (.iconst 1, 1) := by decide +kernel
theorem dX12_stage_39 : decode cX12_stage 39 = .ok (.isub, 1) := by decide +kernel
theorem dX12_stage_40 : decode cX12_stage 40 = .ok (.if_icmp .eq 7, 3) := by decide +kernel
theorem dX12_stage_43 : decode cX12_stage 43 = .ok (.ldc2_w 540, 3) := by decide +kernel
theorem dX12_stage_46 : decode cX12_stage 46 = .ok (.lreturn, 1) := by decide +kernel
theorem dX12_stage_47 : decode cX12_stage 47 = .ok (.iconst 0, 1) := by decide +kernel
theorem dX12_stage_48 : decode cX12_stage 48 = .ok (.istore_n 3, 1) := by decide +kernel
theorem dX12_stage_49 : decode cX12_stage 49 = .ok (.lconst 0, 1) := by decide +kernel
theorem dX12_stage_50 : decode cX12_stage 50 = .ok (.lstore 4, 2) := by decide +kernel
theorem dX12_stage_52 : decode cX12_stage 52 = .ok (.iconst 0, 1) := by decide +kernel
theorem dX12_stage_53 : decode cX12_stage 53 = .ok (.istore 6, 2) := by decide +kernel
theorem dX12_stage_55 : decode cX12_stage 55 = .ok (.iload 6, 2) := by decide +kernel
theorem dX12_stage_57 : decode cX12_stage 57 = .ok (.iload_n 1, 1) := by decide +kernel
theorem dX12_stage_58 : decode cX12_stage 58 = .ok (.if_icmp .ge 99, 3) := by decide +kernel
theorem dX12_stage_61 : decode cX12_stage 61 = .ok (.iload_n 2, 1) := by decide +kernel
theorem dX12_stage_62 : decode cX12_stage 62 = .ok (.iconst 4, 1) := by decide +kernel
theorem dX12_stage_63 : decode cX12_stage 63 = .ok (.iload 6, 2) := by decide +kernel
theorem dX12_stage_65 : decode cX12_stage 65 = .ok (.imul, 1) := by decide +kernel
theorem dX12_stage_66 : decode cX12_stage 66 = .ok (.ishr, 1) := by decide +kernel
theorem dX12_stage_67 : decode cX12_stage 67 = .ok (.bipush 15, 2) := by decide +kernel
theorem dX12_stage_69 : decode cX12_stage 69 = .ok (.iand, 1) := by decide +kernel
theorem dX12_stage_70 : decode cX12_stage 70 = .ok (.istore 7, 2) := by decide +kernel
theorem dX12_stage_72 : decode cX12_stage 72 = .ok (.aload_n 0, 1) := by decide +kernel
theorem dX12_stage_73 : decode cX12_stage 73 = .ok (.iload 7, 2) := by decide +kernel
theorem dX12_stage_75 : decode cX12_stage 75 = .ok (.invokevirtual 327, 3) := by decide +kernel
theorem dX12_stage_78 : decode cX12_stage 78 = .ok (.ifCond .eq 52, 3) := by decide +kernel
theorem dX12_stage_81 : decode cX12_stage 81 = .ok (.iload 7, 2) := by decide +kernel
theorem dX12_stage_83 : decode cX12_stage 83 = .ok (.aload_n 0, 1) := by decide +kernel
theorem dX12_stage_84 : decode cX12_stage 84 = .ok (.getfield 15, 3) := by decide +kernel
theorem dX12_stage_87 : decode cX12_stage 87 = .ok (.iconst 4, 1) := by decide +kernel
theorem dX12_stage_88 : decode cX12_stage 88 = .ok (.iaload, 1) := by decide +kernel
theorem dX12_stage_89 : decode cX12_stage 89 = .ok (.if_icmp .eq 41, 3) := by decide +kernel
theorem dX12_stage_92 : decode cX12_stage 92 = .ok (.iload_n 3, 1) := by decide +kernel
theorem dX12_stage_93 : decode cX12_stage 93 = .ok (.iload 7, 2) := by decide +kernel
theorem dX12_stage_95 : decode cX12_stage 95 = .ok (.ishr, 1) := by decide +kernel
theorem dX12_stage_96 : decode cX12_stage 96 = .ok (.iconst 1, 1) := by decide +kernel
theorem dX12_stage_97 : decode cX12_stage 97 = .ok (.iand, 1) := by decide +kernel
theorem dX12_stage_98 : decode cX12_stage 98 = .ok (.iconst 1, 1) := by decide +kernel
theorem dX12_stage_99 : decode cX12_stage 99 = .ok (.if_icmp .eq 31, 3) := by decide +kernel
theorem dX12_stage_102 : decode cX12_stage 102 = .ok (.aload_n 0, 1) := by decide +kernel
theorem dX12_stage_103 : decode cX12_stage 103 = .ok (.iload 7, 2) := by decide +kernel
theorem dX12_stage_105 : decode cX12_stage 105 = .ok (.invokevirtual 383, 3) := by decide +kernel
theorem dX12_stage_108 : decode cX12_stage 108 = .ok (.aload_n 0, 1) := by decide +kernel
theorem dX12_stage_109 : decode cX12_stage 109 = .ok (.getfield 15, 3) := by decide +kernel
theorem dX12_stage_112 : decode cX12_stage 112 = .ok (.iconst 4, 1) := by decide +kernel
theorem dX12_stage_113 : decode cX12_stage 113 = .ok (.iaload, 1) := by decide +kernel
theorem dX12_stage_114 : decode cX12_stage 114 = .ok (.if_icmp .eq 20, 3) := by decide +kernel
theorem dX12_stage_117 : decode cX12_stage 117 = .ok (.iload_n 3, 1) := by decide +kernel
theorem dX12_stage_118 : decode cX12_stage 118 = .ok (.aload_n 0, 1) := by decide +kernel
theorem dX12_stage_119 : decode cX12_stage 119 = .ok (.iload 7, 2) := by decide +kernel
theorem dX12_stage_121 : decode cX12_stage 121 = .ok (.invokevirtual 383, 3) := by decide +kernel
theorem dX12_stage_124 : decode cX12_stage 124 = .ok (.ishr, 1) := by decide +kernel
theorem dX12_stage_125 : decode cX12_stage 125 = .ok (.iconst 1, 1) := by decide +kernel
theorem dX12_stage_126 : decode cX12_stage 126 = .ok (.iand, 1) := by decide +kernel
theorem dX12_stage_127 : decode cX12_stage 127 = .ok (.ifCond .ne 7, 3) := by decide +kernel
theorem dX12_stage_130 : decode cX12_stage 130 = .ok (.ldc2_w 540, 3) := by decide +kernel
theorem dX12_stage_133 : decode cX12_stage 133 = .ok (.lreturn, 1) := by decide +kernel
theorem dX12_stage_134 : decode cX12_stage 134 = .ok (.lload 4, 2) := by decide +kernel
theorem dX12_stage_136 : decode cX12_stage 136 = .ok (.aload_n 0, 1) := by decide +kernel
theorem dX12_stage_137 : decode cX12_stage 137 = .ok (.iload_n 3, 1) := by decide +kernel
theorem dX12_stage_138 : decode cX12_stage 138 = .ok (.invokevirtual 562, 3) := by decide +kernel
theorem dX12_stage_141 : decode cX12_stage 141 = .ok (.ladd, 1) := by decide +kernel
theorem dX12_stage_142 : decode cX12_stage 142 = .ok (.lstore 4, 2) := by decide +kernel
theorem dX12_stage_144 : decode cX12_stage 144 = .ok (.iload_n 3, 1) := by decide +kernel
theorem dX12_stage_145 : decode cX12_stage 145 = .ok (.iconst 1, 1) := by decide +kernel
theorem dX12_stage_146 : decode cX12_stage 146 = .ok (.iload 7, 2) := by decide +kernel
theorem dX12_stage_148 : decode cX12_stage 148 = .ok (.ishl, 1) := by decide +kernel
theorem dX12_stage_149 : decode cX12_stage 149 = .ok (.ior, 1) := by decide +kernel
theorem dX12_stage_150 : decode cX12_stage 150 = .ok (.istore_n 3, 1) := by decide +kernel
theorem dX12_stage_151 : decode cX12_stage 151 = .ok (.iinc 6 1, 3) := by decide +kernel
theorem dX12_stage_154 : decode cX12_stage 154 = .ok (.goto (-99), 3) := by decide +kernel
theorem dX12_stage_157 : decode cX12_stage 157 = .ok (.lload 4, 2) := by decide +kernel
theorem dX12_stage_159 : decode cX12_stage 159 = .ok (.lreturn, 1) := by decide +kernel
theorem dX12_comesThrough_0 : decode cX12_comesThrough 0 = .ok (.iload_n 1, 1) := by decide +kernel
theorem dX12_comesThrough_1 : decode cX12_comesThrough 1 = .ok (.istore_n 3, 1) := by decide +kernel
theorem dX12_comesThrough_2 : decode cX12_comesThrough 2 = .ok (.iconst 0, 1) := by decide +kernel
theorem dX12_comesThrough_3 : decode cX12_comesThrough 3 = .ok (.istore 4, 2) := by decide +kernel
theorem dX12_comesThrough_5 : decode cX12_comesThrough 5 = .ok (.iload 4, 2) := by decide +kernel
theorem dX12_comesThrough_7 : decode cX12_comesThrough 7 = .ok (.aload_n 0, 1) := by decide +kernel
theorem dX12_comesThrough_8 : decode cX12_comesThrough 8 = .ok (.getfield 15, 3) := by decide +kernel
theorem dX12_comesThrough_11 : decode cX12_comesThrough 11 = .ok (.iconst 0, 1) := by decide +kernel
theorem dX12_comesThrough_12 : decode cX12_comesThrough 12 = .ok (.iaload, 1) := by decide +kernel
theorem dX12_comesThrough_13 : decode cX12_comesThrough 13 = .ok (.if_icmp .gt 32, 3) := by decide +kernel
theorem dX12_comesThrough_16 : decode cX12_comesThrough 16 = .ok (.iload_n 3, 1) := by decide +kernel
theorem dX12_comesThrough_17 : decode cX12_comesThrough 17 = .ok (.iload_n 2, 1) := by decide +kernel
theorem dX12_comesThrough_18 : decode cX12_comesThrough 18 = .ok (.if_icmp .ne 5, 3) := by decide +kernel
theorem dX12_comesThrough_21 : decode cX12_comesThrough 21 = .ok (.iconst 1, 1) := by decide +kernel
theorem dX12_comesThrough_22 : decode cX12_comesThrough 22 = .ok (.ireturn, 1) := by decide +kernel
theorem dX12_comesThrough_23 : decode cX12_comesThrough 23 = .ok (.aload_n 0, 1) := by decide +kernel
theorem dX12_comesThrough_24 : decode cX12_comesThrough 24 = .ok (.iload_n 3, 1) := by decide +kernel
theorem dX12_comesThrough_25 : decode cX12_comesThrough 25 = .ok (.invokevirtual 380, 3) := by decide +kernel
theorem dX12_comesThrough_28 : decode cX12_comesThrough 28 = .ok (.ifCond .ne 5, 3) := by decide +kernel
theorem dX12_comesThrough_31 : decode cX12_comesThrough 31 = .ok (.iconst 0, 1) := by decide +kernel
theorem dX12_comesThrough_32 : decode cX12_comesThrough 32 = .ok (.ireturn, 1) := by decide +kernel
theorem dX12_comesThrough_33 : decode cX12_comesThrough 33 = .ok (.aload_n 0, 1) := by decide +kernel
theorem dX12_comesThrough_34 : decode cX12_comesThrough 34 = .ok (.iload_n 3, 1) := by decide +kernel
theorem dX12_comesThrough_35 : decode cX12_comesThrough 35 = .ok (.invokevirtual 383, 3) := by decide +kernel
theorem dX12_comesThrough_38 : decode cX12_comesThrough 38 = .ok (.istore_n 3, 1) := by decide +kernel
theorem dX12_comesThrough_39 : decode cX12_comesThrough 39 = .ok (.iinc 4 1, 3) := by decide +kernel
theorem dX12_comesThrough_42 : decode cX12_comesThrough 42 = .ok (.goto (-37), 3) := by decide +kernel
theorem dX12_comesThrough_45 : decode cX12_comesThrough 45 = .ok (.iconst 0, 1) := by decide +kernel
theorem dX12_comesThrough_46 : decode cX12_comesThrough 46 = .ok (.ireturn, 1) := by decide +kernel
theorem dX12_weightOf_0 : decode cX12_weightOf 0 = .ok (.iconst 0, 1) := by decide +kernel
theorem dX12_weightOf_1 : decode cX12_weightOf 1 = .ok (.istore_n 2, 1) := by decide +kernel
theorem dX12_weightOf_2 : decode cX12_weightOf 2 = .ok (.iconst 0, 1) := by decide +kernel
theorem dX12_weightOf_3 : decode cX12_weightOf 3 = .ok (.istore_n 3, 1) := by decide +kernel
theorem dX12_weightOf_4 : decode cX12_weightOf 4 = .ok (.iload_n 3, 1) := by decide +kernel
theorem dX12_weightOf_5 : decode cX12_weightOf 5 = .ok (.aload_n 0, 1) := by decide +kernel
theorem dX12_weightOf_6 : decode cX12_weightOf 6 = .ok (.getfield 15, 3) := by decide +kernel
theorem dX12_weightOf_9 : decode cX12_weightOf 9 = .ok (.iconst 0, 1) := by decide +kernel
theorem dX12_weightOf_10 : decode cX12_weightOf 10 = .ok (.iaload, 1) := by decide +kernel
theorem dX12_weightOf_11 : decode cX12_weightOf 11 = .ok (.if_icmp .ge 31, 3) := by decide +kernel
theorem dX12_weightOf_14 : decode cX12_weightOf 14 = .ok (.iload_n 2, 1) := by decide +kernel
theorem dX12_weightOf_15 : decode cX12_weightOf 15 = .ok (.aload_n 0, 1) := by decide +kernel
theorem dX12_weightOf_16 : decode cX12_weightOf 16 = .ok (.iload_n 3, 1) := by decide +kernel
theorem dX12_weightOf_17 : decode cX12_weightOf 17 = .ok (.iload_n 1, 1) := by decide +kernel
theorem dX12_weightOf_18 : decode cX12_weightOf 18 = .ok (.invokevirtual 569, 3) := by decide +kernel
theorem dX12_weightOf_21 : decode cX12_weightOf 21 = .ok (.ifCond .eq 12, 3) := by decide +kernel
theorem dX12_weightOf_24 : decode cX12_weightOf 24 = .ok (.aload_n 0, 1) := by decide +kernel
theorem dX12_weightOf_25 : decode cX12_weightOf 25 = .ok (.getfield 24, 3) := by decide +kernel
theorem dX12_weightOf_28 : decode cX12_weightOf 28 = .ok (.iload_n 3, 1) := by decide +kernel
theorem dX12_weightOf_29 : decode cX12_weightOf 29 = .ok (.iaload, 1) := by decide +kernel
theorem dX12_weightOf_30 : decode cX12_weightOf 30 = .ok (.goto 4, 3) := by decide +kernel
theorem dX12_weightOf_33 : decode cX12_weightOf 33 = .ok (.iconst 0, 1) := by decide +kernel
theorem dX12_weightOf_34 : decode cX12_weightOf 34 = .ok (.iadd, 1) := by decide +kernel
theorem dX12_weightOf_35 : decode cX12_weightOf 35 = .ok (.istore_n 2, 1) := by decide +kernel
theorem dX12_weightOf_36 : decode cX12_weightOf 36 = .ok (.iinc 3 1, 3) := by decide +kernel
theorem dX12_weightOf_39 : decode cX12_weightOf 39 = .ok (.goto (-35), 3) := by decide +kernel
theorem dX12_weightOf_42 : decode cX12_weightOf 42 = .ok (.aload_n 0, 1) := by decide +kernel
theorem dX12_weightOf_43 : decode cX12_weightOf 43 = .ok (.getfield 42, 3) := by decide +kernel
theorem dX12_weightOf_46 : decode cX12_weightOf 46 = .ok (.aload_n 0, 1) := by decide +kernel
theorem dX12_weightOf_47 : decode cX12_weightOf 47 = .ok (.iload_n 1, 1) := by decide +kernel
theorem dX12_weightOf_48 : decode cX12_weightOf 48 = .ok (.invokevirtual 374, 3) := by decide +kernel
theorem dX12_weightOf_51 : decode cX12_weightOf 51 = .ok (.iaload, 1) := by decide +kernel
theorem dX12_weightOf_52 : decode cX12_weightOf 52 = .ok (.iload_n 2, 1) := by decide +kernel
theorem dX12_weightOf_53 : decode cX12_weightOf 53 = .ok (.imul, 1) := by decide +kernel
theorem dX12_weightOf_54 : decode cX12_weightOf 54 = .ok (.ireturn, 1) := by decide +kernel
theorem dX12_first_0 : decode cX12_first 0 = .ok (.aload_n 0, 1) := by decide +kernel
theorem dX12_first_1 : decode cX12_first 1 = .ok (.iconst 0, 1) := by decide +kernel
theorem dX12_first_2 : decode cX12_first 2 = .ok (.putfield 153, 3) := by decide +kernel
theorem dX12_first_5 : decode cX12_first 5 = .ok (.aload_n 0, 1) := by decide +kernel
theorem dX12_first_6 : decode cX12_first 6 = .ok (.iconst 0, 1) := by decide +kernel
theorem dX12_first_7 : decode cX12_first 7 = .ok (.putfield 371, 3) := by decide +kernel
theorem dX12_first_10 : decode cX12_first 10 = .ok (.iload_n 1, 1) := by decide +kernel
theorem dX12_first_11 : decode cX12_first 11 = .ok (.ifCond .lt 8, 3) := by decide +kernel
theorem dX12_first_14 : decode cX12_first 14 = .ok (.iload_n 1, 1) := by decide +kernel
theorem dX12_first_15 : decode cX12_first 15 = .ok (.iconst 1, 1) := by decide +kernel
theorem dX12_first_16 : decode cX12_first 16 = .ok (.if_icmp .le 5, 3) := by decide +kernel
theorem dX12_first_19 : decode cX12_first 19 = .ok (.iconst (-1), 1) := by decide +kernel
theorem dX12_first_20 : decode cX12_first 20 = .ok (.ireturn, 1) := by decide +kernel
theorem dX12_first_21 : decode cX12_first 21 = .ok (.iconst (-1), 1) := by decide +kernel
theorem dX12_first_22 : decode cX12_first 22 = .ok (.istore_n 2, 1) := by decide +kernel
theorem dX12_first_23 : decode cX12_first 23 = .ok (.iconst 0, 1) := by decide +kernel
theorem dX12_first_24 : decode cX12_first 24 = .ok (.istore_n 3, 1) := by decide +kernel
theorem dX12_first_25 : decode cX12_first 25 = .ok (.iload_n 3, 1) := by decide +kernel
theorem dX12_first_26 : decode cX12_first 26 = .ok (.aload_n 0, 1) := by decide +kernel
theorem dX12_first_27 : decode cX12_first 27 = .ok (.getfield 15, 3) := by decide +kernel
theorem dX12_first_30 : decode cX12_first 30 = .ok (.iconst 0, 1) := by decide +kernel
theorem dX12_first_31 : decode cX12_first 31 = .ok (.iaload, 1) := by decide +kernel
theorem dX12_first_32 : decode cX12_first 32 = .ok (.if_icmp .ge 37, 3) := by decide +kernel
theorem dX12_first_35 : decode cX12_first 35 = .ok (.aload_n 0, 1) := by decide +kernel
theorem dX12_first_36 : decode cX12_first 36 = .ok (.iload_n 3, 1) := by decide +kernel
theorem dX12_first_37 : decode cX12_first 37 = .ok (.invokevirtual 380, 3) := by decide +kernel
theorem dX12_first_40 : decode cX12_first 40 = .ok (.ifCond .eq 23, 3) := by decide +kernel
theorem dX12_first_43 : decode cX12_first 43 = .ok (.iload_n 2, 1) := by decide +kernel
theorem dX12_first_44 : decode cX12_first 44 = .ok (.iconst (-1), 1) := by decide +kernel
theorem dX12_first_45 : decode cX12_first 45 = .ok (.if_icmp .eq 16, 3) := by decide +kernel
theorem dX12_first_48 : decode cX12_first 48 = .ok (.aload_n 0, 1) := by decide +kernel
theorem dX12_first_49 : decode cX12_first 49 = .ok (.iload_n 3, 1) := by decide +kernel
theorem dX12_first_50 : decode cX12_first 50 = .ok (.invokevirtual 572, 3) := by decide +kernel
theorem dX12_first_53 : decode cX12_first 53 = .ok (.aload_n 0, 1) := by decide +kernel
theorem dX12_first_54 : decode cX12_first 54 = .ok (.iload_n 2, 1) := by decide +kernel
theorem dX12_first_55 : decode cX12_first 55 = .ok (.invokevirtual 572, 3) := by decide +kernel
theorem dX12_first_58 : decode cX12_first 58 = .ok (.if_icmp .le 5, 3) := by decide +kernel
theorem dX12_first_61 : decode cX12_first 61 = .ok (.iload_n 3, 1) := by decide +kernel
theorem dX12_first_62 : decode cX12_first 62 = .ok (.istore_n 2, 1) := by decide +kernel
theorem dX12_first_63 : decode cX12_first 63 = .ok (.iinc 3 1, 3) := by decide +kernel
theorem dX12_first_66 : decode cX12_first 66 = .ok (.goto (-41), 3) := by decide +kernel
theorem dX12_first_69 : decode cX12_first 69 = .ok (.iload_n 2, 1) := by decide +kernel
theorem dX12_first_70 : decode cX12_first 70 = .ok (.iconst (-1), 1) := by decide +kernel
theorem dX12_first_71 : decode cX12_first 71 = .ok (.if_icmp .ne 7, 3) := by decide +kernel
theorem dX12_first_74 : decode cX12_first 74 = .ok (.iconst (-1), 1) := by decide +kernel
theorem dX12_first_75 : decode cX12_first 75 = .ok (.goto 16, 3) := by decide +kernel
theorem dX12_first_78 : decode cX12_first 78 = .ok (.iload_n 1, 1) := by decide +kernel
theorem dX12_first_79 : decode cX12_first 79 = .ok (.ifCond .ne 7, 3) := by decide +kernel
theorem dX12_first_82 : decode cX12_first 82 = .ok (.iload_n 2, 1) := by decide +kernel
theorem dX12_first_83 : decode cX12_first 83 = .ok (.goto 8, 3) := by decide +kernel
theorem dX12_first_86 : decode cX12_first 86 = .ok (.aload_n 0, 1) := by decide +kernel
theorem dX12_first_87 : decode cX12_first 87 = .ok (.iload_n 2, 1) := by decide +kernel
theorem dX12_first_88 : decode cX12_first 88 = .ok (.invokevirtual 572, 3) := by decide +kernel
theorem dX12_first_91 : decode cX12_first 91 = .ok (.ireturn, 1) := by decide +kernel
theorem dX12_laidMany_0 : decode cX12_laidMany 0 = .ok (.aload_n 0, 1) := by decide +kernel
theorem dX12_laidMany_1 : decode cX12_laidMany 1 = .ok (.iconst 0, 1) := by decide +kernel
theorem dX12_laidMany_2 : decode cX12_laidMany 2 = .ok (.putfield 371, 3) := by decide +kernel
theorem dX12_laidMany_5 : decode cX12_laidMany 5 = .ok (.iconst 0, 1) := by decide +kernel
theorem dX12_laidMany_6 : decode cX12_laidMany 6 = .ok (.istore_n 1, 1) := by decide +kernel
theorem dX12_laidMany_7 : decode cX12_laidMany 7 = .ok (.iconst 0, 1) := by decide +kernel
theorem dX12_laidMany_8 : decode cX12_laidMany 8 = .ok (.istore_n 2, 1) := by decide +kernel
theorem dX12_laidMany_9 : decode cX12_laidMany 9 = .ok (.iload_n 2, 1) := by decide +kernel
theorem dX12_laidMany_10 : decode cX12_laidMany 10 = .ok (.aload_n 0, 1) := by decide +kernel
theorem dX12_laidMany_11 : decode cX12_laidMany 11 = .ok (.getfield 15, 3) := by decide +kernel
theorem dX12_laidMany_14 : decode cX12_laidMany 14 = .ok (.iconst 0, 1) := by decide +kernel
theorem dX12_laidMany_15 : decode cX12_laidMany 15 = .ok (.iaload, 1) := by decide +kernel
theorem dX12_laidMany_16 : decode cX12_laidMany 16 = .ok (.if_icmp .ge 25, 3) := by decide +kernel
theorem dX12_laidMany_19 : decode cX12_laidMany 19 = .ok (.iload_n 1, 1) := by decide +kernel
theorem dX12_laidMany_20 : decode cX12_laidMany 20 = .ok (.aload_n 0, 1) := by decide +kernel
theorem dX12_laidMany_21 : decode cX12_laidMany 21 = .ok (.iload_n 2, 1) := by decide +kernel
theorem dX12_laidMany_22 : decode cX12_laidMany 22 = .ok (.invokevirtual 380, 3) := by decide +kernel
theorem dX12_laidMany_25 : decode cX12_laidMany 25 = .ok (.ifCond .eq 7, 3) := by decide +kernel
theorem dX12_laidMany_28 : decode cX12_laidMany 28 = .ok (.iconst 1, 1) := by decide +kernel
theorem dX12_laidMany_29 : decode cX12_laidMany 29 = .ok (.goto 4, 3) := by decide +kernel
theorem dX12_laidMany_32 : decode cX12_laidMany 32 = .ok (.iconst 0, 1) := by decide +kernel
theorem dX12_laidMany_33 : decode cX12_laidMany 33 = .ok (.iadd, 1) := by decide +kernel
theorem dX12_laidMany_34 : decode cX12_laidMany 34 = .ok (.istore_n 1, 1) := by decide +kernel
theorem dX12_laidMany_35 : decode cX12_laidMany 35 = .ok (.iinc 2 1, 3) := by decide +kernel
theorem dX12_laidMany_38 : decode cX12_laidMany 38 = .ok (.goto (-29), 3) := by decide +kernel
theorem dX12_laidMany_41 : decode cX12_laidMany 41 = .ok (.iload_n 1, 1) := by decide +kernel
theorem dX12_laidMany_42 : decode cX12_laidMany 42 = .ok (.ireturn, 1) := by decide +kernel
theorem dX12_undo_0 : decode cX12_undo 0 = .ok (.aload_n 0, 1) := by decide +kernel
theorem dX12_undo_1 : decode cX12_undo 1 = .ok (.iconst 0, 1) := by decide +kernel
theorem dX12_undo_2 : decode cX12_undo 2 = .ok (.putfield 153, 3) := by decide +kernel
theorem dX12_undo_5 : decode cX12_undo 5 = .ok (.aload_n 0, 1) := by decide +kernel
theorem dX12_undo_6 : decode cX12_undo 6 = .ok (.getfield 320, 3) := by decide +kernel
theorem dX12_undo_9 : decode cX12_undo 9 = .ok (.ifCond .ne 5, 3) := by decide +kernel
theorem dX12_undo_12 : decode cX12_undo 12 = .ok (.iconst (-1), 1) := by decide +kernel
theorem dX12_undo_13 : decode cX12_undo 13 = .ok (.ireturn, 1) := by decide +kernel
theorem dX12_undo_14 : decode cX12_undo 14 = .ok (.aload_n 0, 1) := by decide +kernel
theorem dX12_undo_15 : decode cX12_undo 15 = .ok (.dup, 1) := by decide +kernel
theorem dX12_undo_16 : decode cX12_undo 16 = .ok (.getfield 320, 3) := by decide +kernel
theorem dX12_undo_19 : decode cX12_undo 19 = .ok (.iconst 1, 1) := by decide +kernel
theorem dX12_undo_20 : decode cX12_undo 20 = .ok (.isub, 1) := by decide +kernel
theorem dX12_undo_21 : decode cX12_undo 21 = .ok (.putfield 320, 3) := by decide +kernel
theorem dX12_undo_24 : decode cX12_undo 24 = .ok (.iconst 0, 1) := by decide +kernel
theorem dX12_undo_25 : decode cX12_undo 25 = .ok (.istore_n 1, 1) := by decide +kernel
theorem dX12_undo_26 : decode cX12_undo 26 = .ok (.iload_n 1, 1) := by decide +kernel
theorem dX12_undo_27 : decode cX12_undo 27 = .ok (.bipush 7, 2) := by decide +kernel
theorem dX12_undo_29 : decode cX12_undo 29 = .ok (.if_icmp .ge 89, 3) := by decide +kernel
theorem dX12_undo_32 : decode cX12_undo 32 = .ok (.aload_n 0, 1) := by decide +kernel
theorem dX12_undo_33 : decode cX12_undo 33 = .ok (.getfield 83, 3) := by decide +kernel
theorem dX12_undo_36 : decode cX12_undo 36 = .ok (.iload_n 1, 1) := by decide +kernel
theorem dX12_undo_37 : decode cX12_undo 37 = .ok (.aload_n 0, 1) := by decide +kernel
theorem dX12_undo_38 : decode cX12_undo 38 = .ok (.getfield 105, 3) := by decide +kernel
theorem dX12_undo_41 : decode cX12_undo 41 = .ok (.bipush 7, 2) := by decide +kernel
theorem dX12_undo_43 : decode cX12_undo 43 = .ok (.aload_n 0, 1) := by decide +kernel
theorem dX12_undo_44 : decode cX12_undo 44 = .ok (.getfield 320, 3) := by decide +kernel
theorem dX12_undo_47 : decode cX12_undo 47 = .ok (.imul, 1) := by decide +kernel
theorem dX12_undo_48 : decode cX12_undo 48 = .ok (.iload_n 1, 1) := by decide +kernel
theorem dX12_undo_49 : decode cX12_undo 49 = .ok (.iadd, 1) := by decide +kernel
theorem dX12_undo_50 : decode cX12_undo 50 = .ok (.iaload, 1) := by decide +kernel
theorem dX12_undo_51 : decode cX12_undo 51 = .ok (.iastore, 1) := by decide +kernel
theorem dX12_undo_52 : decode cX12_undo 52 = .ok (.aload_n 0, 1) := by decide +kernel
theorem dX12_undo_53 : decode cX12_undo 53 = .ok (.getfield 86, 3) := by decide +kernel
theorem dX12_undo_56 : decode cX12_undo 56 = .ok (.iload_n 1, 1) := by decide +kernel
theorem dX12_undo_57 : decode cX12_undo 57 = .ok (.aload_n 0, 1) := by decide +kernel
theorem dX12_undo_58 : decode cX12_undo 58 = .ok (.getfield 108, 3) := by decide +kernel
theorem dX12_undo_61 : decode cX12_undo 61 = .ok (.bipush 7, 2) := by decide +kernel
theorem dX12_undo_63 : decode cX12_undo 63 = .ok (.aload_n 0, 1) := by decide +kernel
theorem dX12_undo_64 : decode cX12_undo 64 = .ok (.getfield 320, 3) := by decide +kernel
theorem dX12_undo_67 : decode cX12_undo 67 = .ok (.imul, 1) := by decide +kernel
theorem dX12_undo_68 : decode cX12_undo 68 = .ok (.iload_n 1, 1) := by decide +kernel
theorem dX12_undo_69 : decode cX12_undo 69 = .ok (.iadd, 1) := by decide +kernel
theorem dX12_undo_70 : decode cX12_undo 70 = .ok (.iaload, 1) := by decide +kernel
theorem dX12_undo_71 : decode cX12_undo 71 = .ok (.iastore, 1) := by decide +kernel
theorem dX12_undo_72 : decode cX12_undo 72 = .ok (.aload_n 0, 1) := by decide +kernel
theorem dX12_undo_73 : decode cX12_undo 73 = .ok (.getfield 89, 3) := by decide +kernel
theorem dX12_undo_76 : decode cX12_undo 76 = .ok (.iload_n 1, 1) := by decide +kernel
theorem dX12_undo_77 : decode cX12_undo 77 = .ok (.aload_n 0, 1) := by decide +kernel
theorem dX12_undo_78 : decode cX12_undo 78 = .ok (.getfield 111, 3) := by decide +kernel
theorem dX12_undo_81 : decode cX12_undo 81 = .ok (.bipush 7, 2) := by decide +kernel
theorem dX12_undo_83 : decode cX12_undo 83 = .ok (.aload_n 0, 1) := by decide +kernel
theorem dX12_undo_84 : decode cX12_undo 84 = .ok (.getfield 320, 3) := by decide +kernel
theorem dX12_undo_87 : decode cX12_undo 87 = .ok (.imul, 1) := by decide +kernel
theorem dX12_undo_88 : decode cX12_undo 88 = .ok (.iload_n 1, 1) := by decide +kernel
theorem dX12_undo_89 : decode cX12_undo 89 = .ok (.iadd, 1) := by decide +kernel
theorem dX12_undo_90 : decode cX12_undo 90 = .ok (.iaload, 1) := by decide +kernel
theorem dX12_undo_91 : decode cX12_undo 91 = .ok (.iastore, 1) := by decide +kernel
theorem dX12_undo_92 : decode cX12_undo 92 = .ok (.aload_n 0, 1) := by decide +kernel
theorem dX12_undo_93 : decode cX12_undo 93 = .ok (.getfield 92, 3) := by decide +kernel
theorem dX12_undo_96 : decode cX12_undo 96 = .ok (.iload_n 1, 1) := by decide +kernel
theorem dX12_undo_97 : decode cX12_undo 97 = .ok (.aload_n 0, 1) := by decide +kernel
theorem dX12_undo_98 : decode cX12_undo 98 = .ok (.getfield 114, 3) := by decide +kernel
theorem dX12_undo_101 : decode cX12_undo 101 = .ok (.bipush 7, 2) := by decide +kernel
theorem dX12_undo_103 : decode cX12_undo 103 = .ok (.aload_n 0, 1) := by decide +kernel
theorem dX12_undo_104 : decode cX12_undo 104 = .ok (.getfield 320, 3) := by decide +kernel
theorem dX12_undo_107 : decode cX12_undo 107 = .ok (.imul, 1) := by decide +kernel
theorem dX12_undo_108 : decode cX12_undo 108 = .ok (.iload_n 1, 1) := by decide +kernel
theorem dX12_undo_109 : decode cX12_undo 109 = .ok (.iadd, 1) := by decide +kernel
theorem dX12_undo_110 : decode cX12_undo 110 = .ok (.iaload, 1) := by decide +kernel
theorem dX12_undo_111 : decode cX12_undo 111 = .ok (.iastore, 1) := by decide +kernel
theorem dX12_undo_112 : decode cX12_undo 112 = .ok (.iinc 1 1, 3) := by decide +kernel
theorem dX12_undo_115 : decode cX12_undo 115 = .ok (.goto (-89), 3) := by decide +kernel
theorem dX12_undo_118 : decode cX12_undo 118 = .ok (.aload_n 0, 1) := by decide +kernel
theorem dX12_undo_119 : decode cX12_undo 119 = .ok (.getfield 320, 3) := by decide +kernel
theorem dX12_undo_122 : decode cX12_undo 122 = .ok (.ireturn, 1) := by decide +kernel
theorem dX12_keep_0 : decode cX12_keep 0 = .ok (.aload_n 0, 1) := by decide +kernel
theorem dX12_keep_1 : decode cX12_keep 1 = .ok (.iconst 0, 1) := by decide +kernel
theorem dX12_keep_2 : decode cX12_keep 2 = .ok (.putfield 153, 3) := by decide +kernel
theorem dX12_keep_5 : decode cX12_keep 5 = .ok (.iconst 0, 1) := by decide +kernel
theorem dX12_keep_6 : decode cX12_keep 6 = .ok (.istore_n 1, 1) := by decide +kernel
theorem dX12_keep_7 : decode cX12_keep 7 = .ok (.iload_n 1, 1) := by decide +kernel
theorem dX12_keep_8 : decode cX12_keep 8 = .ok (.bipush 7, 2) := by decide +kernel
theorem dX12_keep_10 : decode cX12_keep 10 = .ok (.if_icmp .ge 57, 3) := by decide +kernel
theorem dX12_keep_13 : decode cX12_keep 13 = .ok (.aload_n 0, 1) := by decide +kernel
theorem dX12_keep_14 : decode cX12_keep 14 = .ok (.getfield 117, 3) := by decide +kernel
theorem dX12_keep_17 : decode cX12_keep 17 = .ok (.iload_n 1, 1) := by decide +kernel
theorem dX12_keep_18 : decode cX12_keep 18 = .ok (.aload_n 0, 1) := by decide +kernel
theorem dX12_keep_19 : decode cX12_keep 19 = .ok (.getfield 83, 3) := by decide +kernel
theorem dX12_keep_22 : decode cX12_keep 22 = .ok (.iload_n 1, 1) := by decide +kernel
theorem dX12_keep_23 : decode cX12_keep 23 = .ok (.iaload, 1) := by decide +kernel
theorem dX12_keep_24 : decode cX12_keep 24 = .ok (.iastore, 1) := by decide +kernel
theorem dX12_keep_25 : decode cX12_keep 25 = .ok (.aload_n 0, 1) := by decide +kernel
theorem dX12_keep_26 : decode cX12_keep 26 = .ok (.getfield 120, 3) := by decide +kernel
theorem dX12_keep_29 : decode cX12_keep 29 = .ok (.iload_n 1, 1) := by decide +kernel
theorem dX12_keep_30 : decode cX12_keep 30 = .ok (.aload_n 0, 1) := by decide +kernel
theorem dX12_keep_31 : decode cX12_keep 31 = .ok (.getfield 86, 3) := by decide +kernel
theorem dX12_keep_34 : decode cX12_keep 34 = .ok (.iload_n 1, 1) := by decide +kernel
theorem dX12_keep_35 : decode cX12_keep 35 = .ok (.iaload, 1) := by decide +kernel
theorem dX12_keep_36 : decode cX12_keep 36 = .ok (.iastore, 1) := by decide +kernel
theorem dX12_keep_37 : decode cX12_keep 37 = .ok (.aload_n 0, 1) := by decide +kernel
theorem dX12_keep_38 : decode cX12_keep 38 = .ok (.getfield 123, 3) := by decide +kernel
theorem dX12_keep_41 : decode cX12_keep 41 = .ok (.iload_n 1, 1) := by decide +kernel
theorem dX12_keep_42 : decode cX12_keep 42 = .ok (.aload_n 0, 1) := by decide +kernel
theorem dX12_keep_43 : decode cX12_keep 43 = .ok (.getfield 89, 3) := by decide +kernel
theorem dX12_keep_46 : decode cX12_keep 46 = .ok (.iload_n 1, 1) := by decide +kernel
theorem dX12_keep_47 : decode cX12_keep 47 = .ok (.iaload, 1) := by decide +kernel
theorem dX12_keep_48 : decode cX12_keep 48 = .ok (.iastore, 1) := by decide +kernel
theorem dX12_keep_49 : decode cX12_keep 49 = .ok (.aload_n 0, 1) := by decide +kernel
theorem dX12_keep_50 : decode cX12_keep 50 = .ok (.getfield 126, 3) := by decide +kernel
theorem dX12_keep_53 : decode cX12_keep 53 = .ok (.iload_n 1, 1) := by decide +kernel
theorem dX12_keep_54 : decode cX12_keep 54 = .ok (.aload_n 0, 1) := by decide +kernel
theorem dX12_keep_55 : decode cX12_keep 55 = .ok (.getfield 92, 3) := by decide +kernel
theorem dX12_keep_58 : decode cX12_keep 58 = .ok (.iload_n 1, 1) := by decide +kernel
theorem dX12_keep_59 : decode cX12_keep 59 = .ok (.iaload, 1) := by decide +kernel
theorem dX12_keep_60 : decode cX12_keep 60 = .ok (.iastore, 1) := by decide +kernel
theorem dX12_keep_61 : decode cX12_keep 61 = .ok (.iinc 1 1, 3) := by decide +kernel
theorem dX12_keep_64 : decode cX12_keep 64 = .ok (.goto (-57), 3) := by decide +kernel
theorem dX12_keep_67 : decode cX12_keep 67 = .ok (.aload_n 0, 1) := by decide +kernel
theorem dX12_keep_68 : decode cX12_keep 68 = .ok (.iconst 1, 1) := by decide +kernel
theorem dX12_keep_69 : decode cX12_keep 69 = .ok (.putfield 323, 3) := by decide +kernel
theorem dX12_keep_72 : decode cX12_keep 72 = .ok (.aload_n 0, 1) := by decide +kernel
theorem dX12_keep_73 : decode cX12_keep 73 = .ok (.invokevirtual 575, 3) := by decide +kernel
theorem dX12_keep_76 : decode cX12_keep 76 = .ok (.ireturn, 1) := by decide +kernel
theorem dX12_back_0 : decode cX12_back 0 = .ok (.aload_n 0, 1) := by decide +kernel
theorem dX12_back_1 : decode cX12_back 1 = .ok (.iconst 0, 1) := by decide +kernel
theorem dX12_back_2 : decode cX12_back 2 = .ok (.putfield 153, 3) := by decide +kernel
theorem dX12_back_5 : decode cX12_back 5 = .ok (.aload_n 0, 1) := by decide +kernel
theorem dX12_back_6 : decode cX12_back 6 = .ok (.getfield 323, 3) := by decide +kernel
theorem dX12_back_9 : decode cX12_back 9 = .ok (.ifCond .ne 5, 3) := by decide +kernel
theorem dX12_back_12 : decode cX12_back 12 = .ok (.iconst (-1), 1) := by decide +kernel
theorem dX12_back_13 : decode cX12_back 13 = .ok (.ireturn, 1) := by decide +kernel
theorem dX12_back_14 : decode cX12_back 14 = .ok (.iconst 0, 1) := by decide +kernel
theorem dX12_back_15 : decode cX12_back 15 = .ok (.istore_n 1, 1) := by decide +kernel
theorem dX12_back_16 : decode cX12_back 16 = .ok (.iload_n 1, 1) := by decide +kernel
theorem dX12_back_17 : decode cX12_back 17 = .ok (.bipush 7, 2) := by decide +kernel
theorem dX12_back_19 : decode cX12_back 19 = .ok (.if_icmp .ge 57, 3) := by decide +kernel
theorem dX12_back_22 : decode cX12_back 22 = .ok (.aload_n 0, 1) := by decide +kernel
theorem dX12_back_23 : decode cX12_back 23 = .ok (.getfield 83, 3) := by decide +kernel
theorem dX12_back_26 : decode cX12_back 26 = .ok (.iload_n 1, 1) := by decide +kernel
theorem dX12_back_27 : decode cX12_back 27 = .ok (.aload_n 0, 1) := by decide +kernel
theorem dX12_back_28 : decode cX12_back 28 = .ok (.getfield 117, 3) := by decide +kernel
theorem dX12_back_31 : decode cX12_back 31 = .ok (.iload_n 1, 1) := by decide +kernel
theorem dX12_back_32 : decode cX12_back 32 = .ok (.iaload, 1) := by decide +kernel
theorem dX12_back_33 : decode cX12_back 33 = .ok (.iastore, 1) := by decide +kernel
theorem dX12_back_34 : decode cX12_back 34 = .ok (.aload_n 0, 1) := by decide +kernel
theorem dX12_back_35 : decode cX12_back 35 = .ok (.getfield 86, 3) := by decide +kernel
theorem dX12_back_38 : decode cX12_back 38 = .ok (.iload_n 1, 1) := by decide +kernel
theorem dX12_back_39 : decode cX12_back 39 = .ok (.aload_n 0, 1) := by decide +kernel
theorem dX12_back_40 : decode cX12_back 40 = .ok (.getfield 120, 3) := by decide +kernel
theorem dX12_back_43 : decode cX12_back 43 = .ok (.iload_n 1, 1) := by decide +kernel
theorem dX12_back_44 : decode cX12_back 44 = .ok (.iaload, 1) := by decide +kernel
theorem dX12_back_45 : decode cX12_back 45 = .ok (.iastore, 1) := by decide +kernel
theorem dX12_back_46 : decode cX12_back 46 = .ok (.aload_n 0, 1) := by decide +kernel
theorem dX12_back_47 : decode cX12_back 47 = .ok (.getfield 89, 3) := by decide +kernel
theorem dX12_back_50 : decode cX12_back 50 = .ok (.iload_n 1, 1) := by decide +kernel
theorem dX12_back_51 : decode cX12_back 51 = .ok (.aload_n 0, 1) := by decide +kernel
theorem dX12_back_52 : decode cX12_back 52 = .ok (.getfield 123, 3) := by decide +kernel
theorem dX12_back_55 : decode cX12_back 55 = .ok (.iload_n 1, 1) := by decide +kernel
theorem dX12_back_56 : decode cX12_back 56 = .ok (.iaload, 1) := by decide +kernel
theorem dX12_back_57 : decode cX12_back 57 = .ok (.iastore, 1) := by decide +kernel
theorem dX12_back_58 : decode cX12_back 58 = .ok (.aload_n 0, 1) := by decide +kernel
theorem dX12_back_59 : decode cX12_back 59 = .ok (.getfield 92, 3) := by decide +kernel
theorem dX12_back_62 : decode cX12_back 62 = .ok (.iload_n 1, 1) := by decide +kernel
theorem dX12_back_63 : decode cX12_back 63 = .ok (.aload_n 0, 1) := by decide +kernel
theorem dX12_back_64 : decode cX12_back 64 = .ok (.getfield 126, 3) := by decide +kernel
theorem dX12_back_67 : decode cX12_back 67 = .ok (.iload_n 1, 1) := by decide +kernel
theorem dX12_back_68 : decode cX12_back 68 = .ok (.iaload, 1) := by decide +kernel
theorem dX12_back_69 : decode cX12_back 69 = .ok (.iastore, 1) := by decide +kernel
theorem dX12_back_70 : decode cX12_back 70 = .ok (.iinc 1 1, 3) := by decide +kernel
theorem dX12_back_73 : decode cX12_back 73 = .ok (.goto (-57), 3) := by decide +kernel
theorem dX12_back_76 : decode cX12_back 76 = .ok (.aload_n 0, 1) := by decide +kernel
theorem dX12_back_77 : decode cX12_back 77 = .ok (.iconst 0, 1) := by decide +kernel
theorem dX12_back_78 : decode cX12_back 78 = .ok (.putfield 320, 3) := by decide +kernel
theorem dX12_back_81 : decode cX12_back 81 = .ok (.aload_n 0, 1) := by decide +kernel
theorem dX12_back_82 : decode cX12_back 82 = .ok (.invokevirtual 575, 3) := by decide +kernel
theorem dX12_back_85 : decode cX12_back 85 = .ok (.ireturn, 1) := by decide +kernel
theorem dX12_count_0 : decode cX12_count 0 = .ok (.aload_n 0, 1) := by decide +kernel
theorem dX12_count_1 : decode cX12_count 1 = .ok (.iconst 0, 1) := by decide +kernel
theorem dX12_count_2 : decode cX12_count 2 = .ok (.putfield 153, 3) := by decide +kernel
theorem dX12_count_5 : decode cX12_count 5 = .ok (.iload_n 1, 1) := by decide +kernel
theorem dX12_count_6 : decode cX12_count 6 = .ok (.tableswitch 110 0 8 #[50, 57, 64, 71, 78, 86, 91, 98, 105], 50) := by decide +kernel
theorem dX12_count_56 : decode cX12_count 56 = .ok (.aload_n 0, 1) := by decide +kernel
theorem dX12_count_57 : decode cX12_count 57 = .ok (.getfield 15, 3) := by decide +kernel
theorem dX12_count_60 : decode cX12_count 60 = .ok (.iconst 0, 1) := by decide +kernel
theorem dX12_count_61 : decode cX12_count 61 = .ok (.iaload, 1) := by decide +kernel
theorem dX12_count_62 : decode cX12_count 62 = .ok (.ireturn, 1) := by decide +kernel
theorem dX12_count_63 : decode cX12_count 63 = .ok (.aload_n 0, 1) := by decide +kernel
theorem dX12_count_64 : decode cX12_count 64 = .ok (.getfield 15, 3) := by decide +kernel
theorem dX12_count_67 : decode cX12_count 67 = .ok (.iconst 1, 1) := by decide +kernel
theorem dX12_count_68 : decode cX12_count 68 = .ok (.iaload, 1) := by decide +kernel
theorem dX12_count_69 : decode cX12_count 69 = .ok (.ireturn, 1) := by decide +kernel
theorem dX12_count_70 : decode cX12_count 70 = .ok (.aload_n 0, 1) := by decide +kernel
theorem dX12_count_71 : decode cX12_count 71 = .ok (.getfield 15, 3) := by decide +kernel
theorem dX12_count_74 : decode cX12_count 74 = .ok (.iconst 2, 1) := by decide +kernel
theorem dX12_count_75 : decode cX12_count 75 = .ok (.iaload, 1) := by decide +kernel
theorem dX12_count_76 : decode cX12_count 76 = .ok (.ireturn, 1) := by decide +kernel
theorem dX12_count_77 : decode cX12_count 77 = .ok (.aload_n 0, 1) := by decide +kernel
theorem dX12_count_78 : decode cX12_count 78 = .ok (.getfield 15, 3) := by decide +kernel
theorem dX12_count_81 : decode cX12_count 81 = .ok (.iconst 3, 1) := by decide +kernel
theorem dX12_count_82 : decode cX12_count 82 = .ok (.iaload, 1) := by decide +kernel
theorem dX12_count_83 : decode cX12_count 83 = .ok (.ireturn, 1) := by decide +kernel
theorem dX12_count_84 : decode cX12_count 84 = .ok (.aload_n 0, 1) := by decide +kernel
theorem dX12_count_85 : decode cX12_count 85 = .ok (.getfield 15, 3) := by decide +kernel
theorem dX12_count_88 : decode cX12_count 88 = .ok (.bipush 11, 2) := by decide +kernel
theorem dX12_count_90 : decode cX12_count 90 = .ok (.iaload, 1) := by decide +kernel
theorem dX12_count_91 : decode cX12_count 91 = .ok (.ireturn, 1) := by decide +kernel
theorem dX12_count_92 : decode cX12_count 92 = .ok (.aload_n 0, 1) := by decide +kernel
theorem dX12_count_93 : decode cX12_count 93 = .ok (.invokevirtual 575, 3) := by decide +kernel
theorem dX12_count_96 : decode cX12_count 96 = .ok (.ireturn, 1) := by decide +kernel
theorem dX12_count_97 : decode cX12_count 97 = .ok (.aload_n 0, 1) := by decide +kernel
theorem dX12_count_98 : decode cX12_count 98 = .ok (.getfield 15, 3) := by decide +kernel
theorem dX12_count_101 : decode cX12_count 101 = .ok (.iconst 4, 1) := by decide +kernel
theorem dX12_count_102 : decode cX12_count 102 = .ok (.iaload, 1) := by decide +kernel
theorem dX12_count_103 : decode cX12_count 103 = .ok (.ireturn, 1) := by decide +kernel
theorem dX12_count_104 : decode cX12_count 104 = .ok (.aload_n 0, 1) := by decide +kernel
theorem dX12_count_105 : decode cX12_count 105 = .ok (.getfield 15, 3) := by decide +kernel
theorem dX12_count_108 : decode cX12_count 108 = .ok (.iconst 5, 1) := by decide +kernel
theorem dX12_count_109 : decode cX12_count 109 = .ok (.iaload, 1) := by decide +kernel
theorem dX12_count_110 : decode cX12_count 110 = .ok (.ireturn, 1) := by decide +kernel
theorem dX12_count_111 : decode cX12_count 111 = .ok (.aload_n 0, 1) := by decide +kernel
theorem dX12_count_112 : decode cX12_count 112 = .ok (.getfield 320, 3) := by decide +kernel
theorem dX12_count_115 : decode cX12_count 115 = .ok (.ireturn, 1) := by decide +kernel
theorem dX12_count_116 : decode cX12_count 116 = .ok (.iconst (-1), 1) := by decide +kernel
theorem dX12_count_117 : decode cX12_count 117 = .ok (.ireturn, 1) := by decide +kernel
theorem dJ6_bitCount_0f7a4_0 : decode cJ6_bitCount_0f7a4 0 = .ok (.iload_n 0, 1) := by decide +kernel
theorem dJ6_bitCount_0f7a4_1 : decode cJ6_bitCount_0f7a4 1 = .ok (.iload_n 0, 1) := by decide +kernel
theorem dJ6_bitCount_0f7a4_2 : decode cJ6_bitCount_0f7a4 2 = .ok (.iconst 1, 1) := by decide +kernel
theorem dJ6_bitCount_0f7a4_3 : decode cJ6_bitCount_0f7a4 3 = .ok (.iushr, 1) := by decide +kernel
theorem dJ6_bitCount_0f7a4_4 : decode cJ6_bitCount_0f7a4 4 = .ok (.ldc_w 265, 3) := by decide +kernel
theorem dJ6_bitCount_0f7a4_7 : decode cJ6_bitCount_0f7a4 7 = .ok (.iand, 1) := by decide +kernel
theorem dJ6_bitCount_0f7a4_8 : decode cJ6_bitCount_0f7a4 8 = .ok (.isub, 1) := by decide +kernel
theorem dJ6_bitCount_0f7a4_9 : decode cJ6_bitCount_0f7a4 9 = .ok (.istore_n 0, 1) := by decide +kernel
theorem dJ6_bitCount_0f7a4_10 : decode cJ6_bitCount_0f7a4 10 = .ok (.iload_n 0, 1) := by decide +kernel
theorem dJ6_bitCount_0f7a4_11 : decode cJ6_bitCount_0f7a4 11 = .ok (.ldc_w 266, 3) := by decide +kernel
theorem dJ6_bitCount_0f7a4_14 : decode cJ6_bitCount_0f7a4 14 = .ok (.iand, 1) := by decide +kernel
theorem dJ6_bitCount_0f7a4_15 : decode cJ6_bitCount_0f7a4 15 = .ok (.iload_n 0, 1) := by decide +kernel
theorem dJ6_bitCount_0f7a4_16 : decode cJ6_bitCount_0f7a4 16 = .ok (.iconst 2, 1) := by decide +kernel
theorem dJ6_bitCount_0f7a4_17 : decode cJ6_bitCount_0f7a4 17 = .ok (.iushr, 1) := by decide +kernel
theorem dJ6_bitCount_0f7a4_18 : decode cJ6_bitCount_0f7a4 18 = .ok (.ldc_w 266, 3) := by decide +kernel
theorem dJ6_bitCount_0f7a4_21 : decode cJ6_bitCount_0f7a4 21 = .ok (.iand, 1) := by decide +kernel
theorem dJ6_bitCount_0f7a4_22 : decode cJ6_bitCount_0f7a4 22 = .ok (.iadd, 1) := by decide +kernel
theorem dJ6_bitCount_0f7a4_23 : decode cJ6_bitCount_0f7a4 23 = .ok (.istore_n 0, 1) := by decide +kernel
theorem dJ6_bitCount_0f7a4_24 : decode cJ6_bitCount_0f7a4 24 = .ok (.iload_n 0, 1) := by decide +kernel
theorem dJ6_bitCount_0f7a4_25 : decode cJ6_bitCount_0f7a4 25 = .ok (.iload_n 0, 1) := by decide +kernel
theorem dJ6_bitCount_0f7a4_26 : decode cJ6_bitCount_0f7a4 26 = .ok (.iconst 4, 1) := by decide +kernel
theorem dJ6_bitCount_0f7a4_27 : decode cJ6_bitCount_0f7a4 27 = .ok (.iushr, 1) := by decide +kernel
theorem dJ6_bitCount_0f7a4_28 : decode cJ6_bitCount_0f7a4 28 = .ok (.iadd, 1) := by decide +kernel
theorem dJ6_bitCount_0f7a4_29 : decode cJ6_bitCount_0f7a4 29 = .ok (.ldc_w 267, 3) := by decide +kernel
theorem dJ6_bitCount_0f7a4_32 : decode cJ6_bitCount_0f7a4 32 = .ok (.iand, 1) := by decide +kernel
theorem dJ6_bitCount_0f7a4_33 : decode cJ6_bitCount_0f7a4 33 = .ok (.istore_n 0, 1) := by decide +kernel
theorem dJ6_bitCount_0f7a4_34 : decode cJ6_bitCount_0f7a4 34 = .ok (.iload_n 0, 1) := by decide +kernel
theorem dJ6_bitCount_0f7a4_35 : decode cJ6_bitCount_0f7a4 35 = .ok (.iload_n 0, 1) := by decide +kernel
theorem dJ6_bitCount_0f7a4_36 : decode cJ6_bitCount_0f7a4 36 = .ok (.bipush 8, 2) := by decide +kernel
theorem dJ6_bitCount_0f7a4_38 : decode cJ6_bitCount_0f7a4 38 = .ok (.iushr, 1) := by decide +kernel
theorem dJ6_bitCount_0f7a4_39 : decode cJ6_bitCount_0f7a4 39 = .ok (.iadd, 1) := by decide +kernel
theorem dJ6_bitCount_0f7a4_40 : decode cJ6_bitCount_0f7a4 40 = .ok (.istore_n 0, 1) := by decide +kernel
theorem dJ6_bitCount_0f7a4_41 : decode cJ6_bitCount_0f7a4 41 = .ok (.iload_n 0, 1) := by decide +kernel
theorem dJ6_bitCount_0f7a4_42 : decode cJ6_bitCount_0f7a4 42 = .ok (.iload_n 0, 1) := by decide +kernel
theorem dJ6_bitCount_0f7a4_43 : decode cJ6_bitCount_0f7a4 43 = .ok (.bipush 16, 2) := by decide +kernel
theorem dJ6_bitCount_0f7a4_45 : decode cJ6_bitCount_0f7a4 45 = .ok (.iushr, 1) := by decide +kernel
theorem dJ6_bitCount_0f7a4_46 : decode cJ6_bitCount_0f7a4 46 = .ok (.iadd, 1) := by decide +kernel
theorem dJ6_bitCount_0f7a4_47 : decode cJ6_bitCount_0f7a4 47 = .ok (.istore_n 0, 1) := by decide +kernel
theorem dJ6_bitCount_0f7a4_48 : decode cJ6_bitCount_0f7a4 48 = .ok (.iload_n 0, 1) := by decide +kernel
theorem dJ6_bitCount_0f7a4_49 : decode cJ6_bitCount_0f7a4 49 = .ok (.bipush 63, 2) := by decide +kernel
theorem dJ6_bitCount_0f7a4_51 : decode cJ6_bitCount_0f7a4 51 = .ok (.iand, 1) := by decide +kernel
theorem dJ6_bitCount_0f7a4_52 : decode cJ6_bitCount_0f7a4 52 = .ok (.ireturn, 1) := by decide +kernel
theorem dJ9_abs_067f4_0 : decode cJ9_abs_067f4 0 = .ok (.lload_n 0, 1) := by decide +kernel
theorem dJ9_abs_067f4_1 : decode cJ9_abs_067f4 1 = .ok (.lconst 0, 1) := by decide +kernel
theorem dJ9_abs_067f4_2 : decode cJ9_abs_067f4 2 = .ok (.lcmp, 1) := by decide +kernel
theorem dJ9_abs_067f4_3 : decode cJ9_abs_067f4 3 = .ok (.ifCond .ge 8, 3) := by decide +kernel
theorem dJ9_abs_067f4_6 : decode cJ9_abs_067f4 6 = .ok (.lload_n 0, 1) := by decide +kernel
theorem dJ9_abs_067f4_7 : decode cJ9_abs_067f4 7 = .ok (.lneg, 1) := by decide +kernel
theorem dJ9_abs_067f4_8 : decode cJ9_abs_067f4 8 = .ok (.goto 4, 3) := by decide +kernel
theorem dJ9_abs_067f4_11 : decode cJ9_abs_067f4 11 = .ok (.lload_n 0, 1) := by decide +kernel
theorem dJ9_abs_067f4_12 : decode cJ9_abs_067f4 12 = .ok (.lreturn, 1) := by decide +kernel
theorem dJ9_max_7cf53_0 : decode cJ9_max_7cf53 0 = .ok (.iload_n 0, 1) := by decide +kernel
theorem dJ9_max_7cf53_1 : decode cJ9_max_7cf53 1 = .ok (.iload_n 1, 1) := by decide +kernel
theorem dJ9_max_7cf53_2 : decode cJ9_max_7cf53 2 = .ok (.if_icmp .lt 7, 3) := by decide +kernel
theorem dJ9_max_7cf53_5 : decode cJ9_max_7cf53 5 = .ok (.iload_n 0, 1) := by decide +kernel
theorem dJ9_max_7cf53_6 : decode cJ9_max_7cf53 6 = .ok (.goto 4, 3) := by decide +kernel
theorem dJ9_max_7cf53_9 : decode cJ9_max_7cf53 9 = .ok (.iload_n 1, 1) := by decide +kernel
theorem dJ9_max_7cf53_10 : decode cJ9_max_7cf53 10 = .ok (.ireturn, 1) := by decide +kernel
theorem dJ9_max_f86c9_0 : decode cJ9_max_f86c9 0 = .ok (.lload_n 0, 1) := by decide +kernel
theorem dJ9_max_f86c9_1 : decode cJ9_max_f86c9 1 = .ok (.lload_n 2, 1) := by decide +kernel
theorem dJ9_max_f86c9_2 : decode cJ9_max_f86c9 2 = .ok (.lcmp, 1) := by decide +kernel
theorem dJ9_max_f86c9_3 : decode cJ9_max_f86c9 3 = .ok (.ifCond .lt 7, 3) := by decide +kernel
theorem dJ9_max_f86c9_6 : decode cJ9_max_f86c9 6 = .ok (.lload_n 0, 1) := by decide +kernel
theorem dJ9_max_f86c9_7 : decode cJ9_max_f86c9 7 = .ok (.goto 4, 3) := by decide +kernel
theorem dJ9_max_f86c9_10 : decode cJ9_max_f86c9 10 = .ok (.lload_n 2, 1) := by decide +kernel
theorem dJ9_max_f86c9_11 : decode cJ9_max_f86c9 11 = .ok (.lreturn, 1) := by decide +kernel
theorem dJ9_min_7cf53_0 : decode cJ9_min_7cf53 0 = .ok (.iload_n 0, 1) := by decide +kernel
theorem dJ9_min_7cf53_1 : decode cJ9_min_7cf53 1 = .ok (.iload_n 1, 1) := by decide +kernel
theorem dJ9_min_7cf53_2 : decode cJ9_min_7cf53 2 = .ok (.if_icmp .gt 7, 3) := by decide +kernel
theorem dJ9_min_7cf53_5 : decode cJ9_min_7cf53 5 = .ok (.iload_n 0, 1) := by decide +kernel
theorem dJ9_min_7cf53_6 : decode cJ9_min_7cf53 6 = .ok (.goto 4, 3) := by decide +kernel
theorem dJ9_min_7cf53_9 : decode cJ9_min_7cf53 9 = .ok (.iload_n 1, 1) := by decide +kernel
theorem dJ9_min_7cf53_10 : decode cJ9_min_7cf53 10 = .ok (.ireturn, 1) := by decide +kernel
theorem dJ9_min_f86c9_0 : decode cJ9_min_f86c9 0 = .ok (.lload_n 0, 1) := by decide +kernel
theorem dJ9_min_f86c9_1 : decode cJ9_min_f86c9 1 = .ok (.lload_n 2, 1) := by decide +kernel
theorem dJ9_min_f86c9_2 : decode cJ9_min_f86c9 2 = .ok (.lcmp, 1) := by decide +kernel
theorem dJ9_min_f86c9_3 : decode cJ9_min_f86c9 3 = .ok (.ifCond .gt 7, 3) := by decide +kernel
theorem dJ9_min_f86c9_6 : decode cJ9_min_f86c9 6 = .ok (.lload_n 0, 1) := by decide +kernel
theorem dJ9_min_f86c9_7 : decode cJ9_min_f86c9 7 = .ok (.goto 4, 3) := by decide +kernel
theorem dJ9_min_f86c9_10 : decode cJ9_min_f86c9 10 = .ok (.lload_n 2, 1) := by decide +kernel
theorem dJ9_min_f86c9_11 : decode cJ9_min_f86c9 11 = .ok (.lreturn, 1) := by decide +kernel
theorem dJ0_length_8abf5_0 : decode cJ0_length_8abf5 0 = .ok (.aload_n 0, 1) := by decide +kernel
theorem dJ0_length_8abf5_1 : decode cJ0_length_8abf5 1 = .ok (.getfield 9, 3) := by decide +kernel
theorem dJ0_length_8abf5_4 : decode cJ0_length_8abf5 4 = .ok (.arraylength, 1) := by decide +kernel
theorem dJ0_length_8abf5_5 : decode cJ0_length_8abf5 5 = .ok (.aload_n 0, 1) := by decide +kernel
theorem dJ0_length_8abf5_6 : decode cJ0_length_8abf5 6 = .ok (.invokevirtual 335, 3) := by decide +kernel
theorem dJ0_length_8abf5_9 : decode cJ0_length_8abf5 9 = .ok (.ishr, 1) := by decide +kernel
theorem dJ0_length_8abf5_10 : decode cJ0_length_8abf5 10 = .ok (.ireturn, 1) := by decide +kernel
theorem dJ0_charAt_5068e_0 : decode cJ0_charAt_5068e 0 = .ok (.aload_n 0, 1) := by decide +kernel
theorem dJ0_charAt_5068e_1 : decode cJ0_charAt_5068e 1 = .ok (.invokevirtual 492, 3) := by decide +kernel
theorem dJ0_charAt_5068e_4 : decode cJ0_charAt_5068e 4 = .ok (.ifCond .eq 12, 3) := by decide +kernel
theorem dJ0_charAt_5068e_7 : decode cJ0_charAt_5068e 7 = .ok (.aload_n 0, 1) := by decide +kernel
theorem dJ0_charAt_5068e_8 : decode cJ0_charAt_5068e 8 = .ok (.getfield 9, 3) := by decide +kernel
theorem dJ0_charAt_5068e_11 : decode cJ0_charAt_5068e 11 = .ok (.iload_n 1, 1) := by decide +kernel
theorem dJ0_charAt_5068e_12 : decode cJ0_charAt_5068e 12 = .ok (.invokestatic 495, 3) := by decide +kernel
theorem dJ0_charAt_5068e_15 : decode cJ0_charAt_5068e 15 = .ok (.ireturn, 1) := by decide +kernel
theorem dJ0_charAt_5068e_16 : decode cJ0_charAt_5068e 16 = .ok (.aload_n 0, 1) := by decide +kernel
theorem dJ0_charAt_5068e_17 : decode cJ0_charAt_5068e 17 = .ok (.getfield 9, 3) := by decide +kernel
theorem dJ0_charAt_5068e_20 : decode cJ0_charAt_5068e 20 = .ok (.iload_n 1, 1) := by decide +kernel
theorem dJ0_charAt_5068e_21 : decode cJ0_charAt_5068e 21 = .ok (.invokestatic 498, 3) := by decide +kernel
theorem dJ0_charAt_5068e_24 : decode cJ0_charAt_5068e 24 = .ok (.ireturn, 1) := by decide +kernel
theorem dJ0_coder_7d493_0 : decode cJ0_coder_7d493 0 = .ok (.getstatic 38, 3) := by decide +kernel
theorem dJ0_coder_7d493_3 : decode cJ0_coder_7d493 3 = .ok (.ifCond .eq 10, 3) := by decide +kernel
theorem dJ0_coder_7d493_6 : decode cJ0_coder_7d493 6 = .ok (.aload_n 0, 1) := by decide +kernel
theorem dJ0_coder_7d493_7 : decode cJ0_coder_7d493 7 = .ok (.getfield 15, 3) := by decide +kernel
theorem dJ0_coder_7d493_10 : decode cJ0_coder_7d493 10 = .ok (.goto 4, 3) := by decide +kernel
theorem dJ0_coder_7d493_13 : decode cJ0_coder_7d493 13 = .ok (.iconst 1, 1) := by decide +kernel
theorem dJ0_coder_7d493_14 : decode cJ0_coder_7d493 14 = .ok (.ireturn, 1) := by decide +kernel
theorem dJ0_isLatin1_aae02_0 : decode cJ0_isLatin1_aae02 0 = .ok (.getstatic 38, 3) := by decide +kernel
theorem dJ0_isLatin1_aae02_3 : decode cJ0_isLatin1_aae02 3 = .ok (.ifCond .eq 14, 3) := by decide +kernel
theorem dJ0_isLatin1_aae02_6 : decode cJ0_isLatin1_aae02 6 = .ok (.aload_n 0, 1) := by decide +kernel
theorem dJ0_isLatin1_aae02_7 : decode cJ0_isLatin1_aae02 7 = .ok (.getfield 15, 3) := by decide +kernel
theorem dJ0_isLatin1_aae02_10 : decode cJ0_isLatin1_aae02 10 = .ok (.ifCond .ne 7, 3) := by decide +kernel
theorem dJ0_isLatin1_aae02_13 : decode cJ0_isLatin1_aae02 13 = .ok (.iconst 1, 1) := by decide +kernel
theorem dJ0_isLatin1_aae02_14 : decode cJ0_isLatin1_aae02 14 = .ok (.goto 4, 3) := by decide +kernel
theorem dJ0_isLatin1_aae02_17 : decode cJ0_isLatin1_aae02 17 = .ok (.iconst 0, 1) := by decide +kernel
theorem dJ0_isLatin1_aae02_18 : decode cJ0_isLatin1_aae02 18 = .ok (.ireturn, 1) := by decide +kernel
theorem dJ0_checkIndex_df160_0 : decode cJ0_checkIndex_df160 0 = .ok (.iload_n 0, 1) := by decide +kernel
theorem dJ0_checkIndex_df160_1 : decode cJ0_checkIndex_df160 1 = .ok (.iload_n 1, 1) := by decide +kernel
theorem dJ0_checkIndex_df160_2 : decode cJ0_checkIndex_df160 2 = .ok (.getstatic 1053, 3) := by decide +kernel
theorem dJ0_checkIndex_df160_5 : decode cJ0_checkIndex_df160 5 = .ok (.invokestatic 1059, 3) := by decide +kernel
theorem dJ0_checkIndex_df160_8 : decode cJ0_checkIndex_df160 8 = .ok (.pop, 1) := by decide +kernel
theorem dJ0_checkIndex_df160_9 : decode cJ0_checkIndex_df160 9 = .ok (.return_, 1) := by decide +kernel
theorem dJ1_charAt_3b067_0 : decode cJ1_charAt_3b067 0 = .ok (.iload_n 1, 1) := by decide +kernel
theorem dJ1_charAt_3b067_1 : decode cJ1_charAt_3b067 1 = .ok (.aload_n 0, 1) := by decide +kernel
theorem dJ1_charAt_3b067_2 : decode cJ1_charAt_3b067 2 = .ok (.arraylength, 1) := by decide +kernel
theorem dJ1_charAt_3b067_3 : decode cJ1_charAt_3b067 3 = .ok (.invokestatic 9, 3) := by decide +kernel
theorem dJ1_charAt_3b067_6 : decode cJ1_charAt_3b067 6 = .ok (.aload_n 0, 1) := by decide +kernel
theorem dJ1_charAt_3b067_7 : decode cJ1_charAt_3b067 7 = .ok (.iload_n 1, 1) := by decide +kernel
theorem dJ1_charAt_3b067_8 : decode cJ1_charAt_3b067 8 = .ok (.baload, 1) := by decide +kernel
theorem dJ1_charAt_3b067_9 : decode cJ1_charAt_3b067 9 = .ok (.sipush 255, 3) := by decide +kernel
theorem dJ1_charAt_3b067_12 : decode cJ1_charAt_3b067 12 = .ok (.iand, 1) := by decide +kernel
theorem dJ1_charAt_3b067_13 : decode cJ1_charAt_3b067 13 = .ok (.i2c, 1) := by decide +kernel
theorem dJ1_charAt_3b067_14 : decode cJ1_charAt_3b067 14 = .ok (.ireturn, 1) := by decide +kernel
theorem dJ2_getChar_3b067_0 : decode cJ2_getChar_3b067 0 = .ok (.getstatic 44, 3) := by decide +kernel
theorem dJ2_getChar_3b067_3 : decode cJ2_getChar_3b067 3 = .ok (.ifCond .ne 25, 3) := by decide +kernel
theorem dJ2_getChar_3b067_6 : decode cJ2_getChar_3b067 6 = .ok (.iload_n 1, 1) := by decide +kernel
theorem dJ2_getChar_3b067_7 : decode cJ2_getChar_3b067 7 = .ok (.ifCond .lt 11, 3) := by decide +kernel
theorem dJ2_getChar_3b067_10 : decode cJ2_getChar_3b067 10 = .ok (.iload_n 1, 1) := by decide +kernel
theorem dJ2_getChar_3b067_11 : decode cJ2_getChar_3b067 11 = .ok (.aload_n 0, 1) := by decide +kernel
theorem dJ2_getChar_3b067_12 : decode cJ2_getChar_3b067 12 = .ok (.invokestatic 48, 3) := by decide +kernel
theorem dJ2_getChar_3b067_15 : decode cJ2_getChar_3b067 15 = .ok (.if_icmp .lt 13, 3) := by decide +kernel
theorem dJ2_getChar_3b067_18 : decode cJ2_getChar_3b067 18 = .ok (.new 52, 3) := by decide +kernel
theorem dJ2_getChar_3b067_21 : decode cJ2_getChar_3b067 21 = .ok (.dup, 1) := by decide +kernel
theorem dJ2_getChar_3b067_22 : decode cJ2_getChar_3b067 22 = .ok (.ldc 54, 2) := by decide +kernel
theorem dJ2_getChar_3b067_24 : decode cJ2_getChar_3b067 24 = .ok (.invokespecial 56, 3) := by decide +kernel
theorem dJ2_getChar_3b067_27 : decode cJ2_getChar_3b067 27 = .ok (.athrow, 1) := by decide +kernel
theorem dJ2_getChar_3b067_28 : decode cJ2_getChar_3b067 28 = .ok (.iload_n 1, 1) := by decide +kernel
theorem dJ2_getChar_3b067_29 : decode cJ2_getChar_3b067 29 = .ok (.iconst 1, 1) := by decide +kernel
theorem dJ2_getChar_3b067_30 : decode cJ2_getChar_3b067 30 = .ok (.ishl, 1) := by decide +kernel
theorem dJ2_getChar_3b067_31 : decode cJ2_getChar_3b067 31 = .ok (.istore_n 1, 1) := by decide +kernel
theorem dJ2_getChar_3b067_32 : decode cJ2_getChar_3b067 32 = .ok (.aload_n 0, 1) := by decide +kernel
theorem dJ2_getChar_3b067_33 : decode cJ2_getChar_3b067 33 = .ok (.iload_n 1, 1) := by decide +kernel
theorem dJ2_getChar_3b067_34 : decode cJ2_getChar_3b067 34 = .ok (.iinc 1 1, 3) := by decide +kernel
theorem dJ2_getChar_3b067_37 : decode cJ2_getChar_3b067 37 = .ok (.baload, 1) := by decide +kernel
theorem dJ2_getChar_3b067_38 : decode cJ2_getChar_3b067 38 = .ok (.sipush 255, 3) := by decide +kernel
theorem dJ2_getChar_3b067_41 : decode cJ2_getChar_3b067 41 = .ok (.iand, 1) := by decide +kernel
theorem dJ2_getChar_3b067_42 : decode cJ2_getChar_3b067 42 = .ok (.getstatic 59, 3) := by decide +kernel
theorem dJ2_getChar_3b067_45 : decode cJ2_getChar_3b067 45 = .ok (.ishl, 1) := by decide +kernel
theorem dJ2_getChar_3b067_46 : decode cJ2_getChar_3b067 46 = .ok (.aload_n 0, 1) := by decide +kernel
theorem dJ2_getChar_3b067_47 : decode cJ2_getChar_3b067 47 = .ok (.iload_n 1, 1) := by decide +kernel
theorem dJ2_getChar_3b067_48 : decode cJ2_getChar_3b067 48 = .ok (.baload, 1) := by decide +kernel
theorem dJ2_getChar_3b067_49 : decode cJ2_getChar_3b067 49 = .ok (.sipush 255, 3) := by decide +kernel
theorem dJ2_getChar_3b067_52 : decode cJ2_getChar_3b067 52 = .ok (.iand, 1) := by decide +kernel
theorem dJ2_getChar_3b067_53 : decode cJ2_getChar_3b067 53 = .ok (.getstatic 63, 3) := by decide +kernel
theorem dJ2_getChar_3b067_56 : decode cJ2_getChar_3b067 56 = .ok (.ishl, 1) := by decide +kernel
theorem dJ2_getChar_3b067_57 : decode cJ2_getChar_3b067 57 = .ok (.ior, 1) := by decide +kernel
theorem dJ2_getChar_3b067_58 : decode cJ2_getChar_3b067 58 = .ok (.i2c, 1) := by decide +kernel
theorem dJ2_getChar_3b067_59 : decode cJ2_getChar_3b067 59 = .ok (.ireturn, 1) := by decide +kernel
theorem dJ2_length_9d52b_0 : decode cJ2_length_9d52b 0 = .ok (.aload_n 0, 1) := by decide +kernel
theorem dJ2_length_9d52b_1 : decode cJ2_length_9d52b 1 = .ok (.arraylength, 1) := by decide +kernel
theorem dJ2_length_9d52b_2 : decode cJ2_length_9d52b 2 = .ok (.iconst 1, 1) := by decide +kernel
theorem dJ2_length_9d52b_3 : decode cJ2_length_9d52b 3 = .ok (.ishr, 1) := by decide +kernel
theorem dJ2_length_9d52b_4 : decode cJ2_length_9d52b 4 = .ok (.ireturn, 1) := by decide +kernel
theorem dJ2_charAt_3b067_0 : decode cJ2_charAt_3b067 0 = .ok (.iload_n 1, 1) := by decide +kernel
theorem dJ2_charAt_3b067_1 : decode cJ2_charAt_3b067 1 = .ok (.aload_n 0, 1) := by decide +kernel
theorem dJ2_charAt_3b067_2 : decode cJ2_charAt_3b067 2 = .ok (.invokestatic 67, 3) := by decide +kernel
theorem dJ2_charAt_3b067_5 : decode cJ2_charAt_3b067 5 = .ok (.aload_n 0, 1) := by decide +kernel
theorem dJ2_charAt_3b067_6 : decode cJ2_charAt_3b067 6 = .ok (.iload_n 1, 1) := by decide +kernel
theorem dJ2_charAt_3b067_7 : decode cJ2_charAt_3b067 7 = .ok (.invokestatic 71, 3) := by decide +kernel
theorem dJ2_charAt_3b067_10 : decode cJ2_charAt_3b067 10 = .ok (.ireturn, 1) := by decide +kernel
theorem dJ2_checkIndex_2214a_0 : decode cJ2_checkIndex_2214a 0 = .ok (.iload_n 0, 1) := by decide +kernel
theorem dJ2_checkIndex_2214a_1 : decode cJ2_checkIndex_2214a 1 = .ok (.aload_n 1, 1) := by decide +kernel
theorem dJ2_checkIndex_2214a_2 : decode cJ2_checkIndex_2214a 2 = .ok (.invokestatic 48, 3) := by decide +kernel
theorem dJ2_checkIndex_2214a_5 : decode cJ2_checkIndex_2214a 5 = .ok (.invokestatic 414, 3) := by decide +kernel
theorem dJ2_checkIndex_2214a_8 : decode cJ2_checkIndex_2214a 8 = .ok (.return_, 1) := by decide +kernel
theorem dJ7_fill_d0a16_0 : decode cJ7_fill_d0a16 0 = .ok (.iconst 0, 1) := by decide +kernel
theorem dJ7_fill_d0a16_1 : decode cJ7_fill_d0a16 1 = .ok (.istore_n 3, 1) := by decide +kernel
theorem dJ7_fill_d0a16_2 : decode cJ7_fill_d0a16 2 = .ok (.aload_n 0, 1) := by decide +kernel
theorem dJ7_fill_d0a16_3 : decode cJ7_fill_d0a16 3 = .ok (.arraylength, 1) := by decide +kernel
theorem dJ7_fill_d0a16_4 : decode cJ7_fill_d0a16 4 = .ok (.istore 4, 2) := by decide +kernel
theorem dJ7_fill_d0a16_6 : decode cJ7_fill_d0a16 6 = .ok (.iload_n 3, 1) := by decide +kernel
theorem dJ7_fill_d0a16_7 : decode cJ7_fill_d0a16 7 = .ok (.iload 4, 2) := by decide +kernel
theorem dJ7_fill_d0a16_9 : decode cJ7_fill_d0a16 9 = .ok (.if_icmp .ge 13, 3) := by decide +kernel
theorem dJ7_fill_d0a16_12 : decode cJ7_fill_d0a16 12 = .ok (.aload_n 0, 1) := by decide +kernel
theorem dJ7_fill_d0a16_13 : decode cJ7_fill_d0a16 13 = .ok (.iload_n 3, 1) := by decide +kernel
theorem dJ7_fill_d0a16_14 : decode cJ7_fill_d0a16 14 = .ok (.lload_n 1, 1) := by decide +kernel
theorem dJ7_fill_d0a16_15 : decode cJ7_fill_d0a16 15 = .ok (.lastore, 1) := by decide +kernel
theorem dJ7_fill_d0a16_16 : decode cJ7_fill_d0a16 16 = .ok (.iinc 3 1, 3) := by decide +kernel
theorem dJ7_fill_d0a16_19 : decode cJ7_fill_d0a16 19 = .ok (.goto (-13), 3) := by decide +kernel
theorem dJ7_fill_d0a16_22 : decode cJ7_fill_d0a16 22 = .ok (.return_, 1) := by decide +kernel
theorem dJ7_fill_53178_0 : decode cJ7_fill_53178 0 = .ok (.iconst 0, 1) := by decide +kernel
theorem dJ7_fill_53178_1 : decode cJ7_fill_53178 1 = .ok (.istore_n 2, 1) := by decide +kernel
theorem dJ7_fill_53178_2 : decode cJ7_fill_53178 2 = .ok (.aload_n 0, 1) := by decide +kernel
theorem dJ7_fill_53178_3 : decode cJ7_fill_53178 3 = .ok (.arraylength, 1) := by decide +kernel
theorem dJ7_fill_53178_4 : decode cJ7_fill_53178 4 = .ok (.istore_n 3, 1) := by decide +kernel
theorem dJ7_fill_53178_5 : decode cJ7_fill_53178 5 = .ok (.iload_n 2, 1) := by decide +kernel
theorem dJ7_fill_53178_6 : decode cJ7_fill_53178 6 = .ok (.iload_n 3, 1) := by decide +kernel
theorem dJ7_fill_53178_7 : decode cJ7_fill_53178 7 = .ok (.if_icmp .ge 13, 3) := by decide +kernel
theorem dJ7_fill_53178_10 : decode cJ7_fill_53178 10 = .ok (.aload_n 0, 1) := by decide +kernel
theorem dJ7_fill_53178_11 : decode cJ7_fill_53178 11 = .ok (.iload_n 2, 1) := by decide +kernel
theorem dJ7_fill_53178_12 : decode cJ7_fill_53178 12 = .ok (.iload_n 1, 1) := by decide +kernel
theorem dJ7_fill_53178_13 : decode cJ7_fill_53178 13 = .ok (.iastore, 1) := by decide +kernel
theorem dJ7_fill_53178_14 : decode cJ7_fill_53178 14 = .ok (.iinc 2 1, 3) := by decide +kernel
theorem dJ7_fill_53178_17 : decode cJ7_fill_53178 17 = .ok (.goto (-12), 3) := by decide +kernel
theorem dJ7_fill_53178_20 : decode cJ7_fill_53178 20 = .ok (.return_, 1) := by decide +kernel
theorem dJ3_checkIndex_8e157_0 : decode cJ3_checkIndex_8e157 0 = .ok (.iload_n 0, 1) := by decide +kernel
theorem dJ3_checkIndex_8e157_1 : decode cJ3_checkIndex_8e157 1 = .ok (.ifCond .lt 8, 3) := by decide +kernel
theorem dJ3_checkIndex_8e157_4 : decode cJ3_checkIndex_8e157 4 = .ok (.iload_n 0, 1) := by decide +kernel
theorem dJ3_checkIndex_8e157_5 : decode cJ3_checkIndex_8e157 5 = .ok (.iload_n 1, 1) := by decide +kernel
theorem dJ3_checkIndex_8e157_6 : decode cJ3_checkIndex_8e157 6 = .ok (.if_icmp .lt 10, 3) := by decide +kernel
theorem dJ3_checkIndex_8e157_9 : decode cJ3_checkIndex_8e157 9 = .ok (.aload_n 2, 1) := by decide +kernel
theorem dJ3_checkIndex_8e157_10 : decode cJ3_checkIndex_8e157 10 = .ok (.iload_n 0, 1) := by decide +kernel
theorem dJ3_checkIndex_8e157_11 : decode cJ3_checkIndex_8e157 11 = .ok (.iload_n 1, 1) := by decide +kernel
theorem dJ3_checkIndex_8e157_12 : decode cJ3_checkIndex_8e157 12 = .ok (.invokestatic 95, 3) := by decide +kernel
theorem dJ3_checkIndex_8e157_15 : decode cJ3_checkIndex_8e157 15 = .ok (.athrow, 1) := by decide +kernel
theorem dJ3_checkIndex_8e157_16 : decode cJ3_checkIndex_8e157 16 = .ok (.iload_n 0, 1) := by decide +kernel
theorem dJ3_checkIndex_8e157_17 : decode cJ3_checkIndex_8e157 17 = .ok (.ireturn, 1) := by decide +kernel
theorem dL_look_0 : decode cL_look 0 = .ok (.aload_n 3, 1) := by decide +kernel
theorem dL_look_1 : decode cL_look 1 = .ok (.iconst 0, 1) := by decide +kernel
theorem dL_look_2 : decode cL_look 2 = .ok (.aload_n 0, 1) := by decide +kernel
theorem dL_look_3 : decode cL_look 3 = .ok (.iload_n 1, 1) := by decide +kernel
theorem dL_look_4 : decode cL_look 4 = .ok (.iload_n 2, 1) := by decide +kernel
theorem dL_look_5 : decode cL_look 5 = .ok (.invokevirtual 7, 3) := by decide +kernel
theorem dL_look_8 : decode cL_look 8 = .ok (.i2l, 1) := by decide +kernel
theorem dL_look_9 : decode cL_look 9 = .ok (.lastore, 1) := by decide +kernel
theorem dL_look_10 : decode cL_look 10 = .ok (.goto 11, 3) := by decide +kernel
theorem dL_look_13 : decode cL_look 13 = .ok (.astore 4, 2) := by decide +kernel
theorem dL_look_15 : decode cL_look 15 = .ok (.iconst 1, 1) := by decide +kernel
theorem dL_look_16 : decode cL_look 16 = .ok (.ireturn, 1) := by decide +kernel
theorem dL_look_17 : decode cL_look 17 = .ok (.astore 4, 2) := by decide +kernel
theorem dL_look_19 : decode cL_look 19 = .ok (.iconst 2, 1) := by decide +kernel
theorem dL_look_20 : decode cL_look 20 = .ok (.ireturn, 1) := by decide +kernel
theorem dL_look_21 : decode cL_look 21 = .ok (.iconst 0, 1) := by decide +kernel
theorem dL_look_22 : decode cL_look 22 = .ok (.ireturn, 1) := by decide +kernel
theorem dL_law_0 : decode cL_law 0 = .ok (.new 8, 3) := by decide +kernel
theorem dL_law_3 : decode cL_law 3 = .ok (.dup, 1) := by decide +kernel
theorem dL_law_4 : decode cL_law 4 = .ok (.invokespecial 17, 3) := by decide +kernel
theorem dL_law_7 : decode cL_law 7 = .ok (.astore_n 1, 1) := by decide +kernel
theorem dL_law_8 : decode cL_law 8 = .ok (.new 18, 3) := by decide +kernel
theorem dL_law_11 : decode cL_law 11 = .ok (.dup, 1) := by decide +kernel
theorem dL_law_12 : decode cL_law 12 = .ok (.invokespecial 20, 3) := by decide +kernel
theorem dL_law_15 : decode cL_law 15 = .ok (.astore_n 2, 1) := by decide +kernel
theorem dL_law_16 : decode cL_law 16 = .ok (.iconst 1, 1) := by decide +kernel
theorem dL_law_17 : decode cL_law 17 = .ok (.newarray .long, 2) := by decide +kernel
theorem dL_law_19 : decode cL_law 19 = .ok (.astore_n 3, 1) := by decide +kernel
theorem dL_law_20 : decode cL_law 20 = .ok (.iconst 0, 1) := by decide +kernel
theorem dL_law_21 : decode cL_law 21 = .ok (.istore 4, 2) := by decide +kernel
theorem dL_law_23 : decode cL_law 23 = .ok (.iload 4, 2) := by decide +kernel
theorem dL_law_25 : decode cL_law 25 = .ok (.aload_n 0, 1) := by decide +kernel
theorem dL_law_26 : decode cL_law 26 = .ok (.arraylength, 1) := by decide +kernel
theorem dL_law_27 : decode cL_law 27 = .ok (.bipush 6, 2) := by decide +kernel
theorem dL_law_29 : decode cL_law 29 = .ok (.isub, 1) := by decide +kernel
theorem dL_law_30 : decode cL_law 30 = .ok (.if_icmp .gt 1195, 3) := by decide +kernel
theorem dL_law_33 : decode cL_law 33 = .ok (.aload_n 0, 1) := by decide +kernel
theorem dL_law_34 : decode cL_law 34 = .ok (.iload 4, 2) := by decide +kernel
theorem dL_law_36 : decode cL_law 36 = .ok (.iaload, 1) := by decide +kernel
theorem dL_law_37 : decode cL_law 37 = .ok (.bipush 31, 2) := by decide +kernel
theorem dL_law_39 : decode cL_law 39 = .ok (.iand, 1) := by decide +kernel
theorem dL_law_40 : decode cL_law 40 = .ok (.tableswitch 1179 0 31 #[144, 217, 242, 267, 304, 372, 409, 446, 519, 544, 581, 607, 645, 659, 684, 709, 759, 809, 835, 873, 898, 911, 937, 962, 988, 1026, 1052, 1090, 1115, 1128, 1141, 1154], 144) := by decide +kernel
theorem dL_law_184 : decode cL_law 184 = .ok (.aload_n 1, 1) := by decide +kernel
theorem dL_law_185 : decode cL_law 185 = .ok (.aload_n 0, 1) := by decide +kernel
theorem dL_law_186 : decode cL_law 186 = .ok (.iload 4, 2) := by decide +kernel
theorem dL_law_188 : decode cL_law 188 = .ok (.iconst 1, 1) := by decide +kernel
theorem dL_law_189 : decode cL_law 189 = .ok (.iadd, 1) := by decide +kernel
theorem dL_law_190 : decode cL_law 190 = .ok (.iaload, 1) := by decide +kernel
theorem dL_law_191 : decode cL_law 191 = .ok (.aload_n 0, 1) := by decide +kernel
theorem dL_law_192 : decode cL_law 192 = .ok (.iload 4, 2) := by decide +kernel
theorem dL_law_194 : decode cL_law 194 = .ok (.iconst 2, 1) := by decide +kernel
theorem dL_law_195 : decode cL_law 195 = .ok (.iadd, 1) := by decide +kernel
theorem dL_law_196 : decode cL_law 196 = .ok (.iaload, 1) := by decide +kernel
theorem dL_law_197 : decode cL_law 197 = .ok (.aload_n 0, 1) := by decide +kernel
theorem dL_law_198 : decode cL_law 198 = .ok (.iload 4, 2) := by decide +kernel
theorem dL_law_200 : decode cL_law 200 = .ok (.iconst 3, 1) := by decide +kernel
theorem dL_law_201 : decode cL_law 201 = .ok (.iadd, 1) := by decide +kernel
theorem dL_law_202 : decode cL_law 202 = .ok (.iaload, 1) := by decide +kernel
theorem dL_law_203 : decode cL_law 203 = .ok (.aload_n 0, 1) := by decide +kernel
theorem dL_law_204 : decode cL_law 204 = .ok (.iload 4, 2) := by decide +kernel
theorem dL_law_206 : decode cL_law 206 = .ok (.iconst 4, 1) := by decide +kernel
theorem dL_law_207 : decode cL_law 207 = .ok (.iadd, 1) := by decide +kernel
theorem dL_law_208 : decode cL_law 208 = .ok (.iaload, 1) := by decide +kernel
theorem dL_law_209 : decode cL_law 209 = .ok (.aload_n 0, 1) := by decide +kernel
theorem dL_law_210 : decode cL_law 210 = .ok (.iload 4, 2) := by decide +kernel
theorem dL_law_212 : decode cL_law 212 = .ok (.iconst 5, 1) := by decide +kernel
theorem dL_law_213 : decode cL_law 213 = .ok (.iadd, 1) := by decide +kernel
theorem dL_law_214 : decode cL_law 214 = .ok (.iaload, 1) := by decide +kernel
theorem dL_law_215 : decode cL_law 215 = .ok (.invokevirtual 21, 3) := by decide +kernel
theorem dL_law_218 : decode cL_law 218 = .ok (.aload_n 2, 1) := by decide +kernel
theorem dL_law_219 : decode cL_law 219 = .ok (.aload_n 0, 1) := by decide +kernel
theorem dL_law_220 : decode cL_law 220 = .ok (.iload 4, 2) := by decide +kernel
theorem dL_law_222 : decode cL_law 222 = .ok (.iconst 1, 1) := by decide +kernel
theorem dL_law_223 : decode cL_law 223 = .ok (.iadd, 1) := by decide +kernel
theorem dL_law_224 : decode cL_law 224 = .ok (.iaload, 1) := by decide +kernel
theorem dL_law_225 : decode cL_law 225 = .ok (.aload_n 0, 1) := by decide +kernel
theorem dL_law_226 : decode cL_law 226 = .ok (.iload 4, 2) := by decide +kernel
theorem dL_law_228 : decode cL_law 228 = .ok (.iconst 2, 1) := by decide +kernel
theorem dL_law_229 : decode cL_law 229 = .ok (.iadd, 1) := by decide +kernel
theorem dL_law_230 : decode cL_law 230 = .ok (.iaload, 1) := by decide +kernel
theorem dL_law_231 : decode cL_law 231 = .ok (.aload_n 0, 1) := by decide +kernel
theorem dL_law_232 : decode cL_law 232 = .ok (.iload 4, 2) := by decide +kernel
theorem dL_law_234 : decode cL_law 234 = .ok (.iconst 3, 1) := by decide +kernel
theorem dL_law_235 : decode cL_law 235 = .ok (.iadd, 1) := by decide +kernel
theorem dL_law_236 : decode cL_law 236 = .ok (.iaload, 1) := by decide +kernel
theorem dL_law_237 : decode cL_law 237 = .ok (.aload_n 0, 1) := by decide +kernel
theorem dL_law_238 : decode cL_law 238 = .ok (.iload 4, 2) := by decide +kernel
theorem dL_law_240 : decode cL_law 240 = .ok (.iconst 4, 1) := by decide +kernel
theorem dL_law_241 : decode cL_law 241 = .ok (.iadd, 1) := by decide +kernel
theorem dL_law_242 : decode cL_law 242 = .ok (.iaload, 1) := by decide +kernel
theorem dL_law_243 : decode cL_law 243 = .ok (.aload_n 0, 1) := by decide +kernel
theorem dL_law_244 : decode cL_law 244 = .ok (.iload 4, 2) := by decide +kernel
theorem dL_law_246 : decode cL_law 246 = .ok (.iconst 5, 1) := by decide +kernel
theorem dL_law_247 : decode cL_law 247 = .ok (.iadd, 1) := by decide +kernel
theorem dL_law_248 : decode cL_law 248 = .ok (.iaload, 1) := by decide +kernel
theorem dL_law_249 : decode cL_law 249 = .ok (.invokevirtual 25, 3) := by decide +kernel
theorem dL_law_252 : decode cL_law 252 = .ok (.if_icmp .eq 967, 3) := by decide +kernel
theorem dL_law_255 : decode cL_law 255 = .ok (.iconst 0, 1) := by decide +kernel
theorem dL_law_256 : decode cL_law 256 = .ok (.ireturn, 1) := by decide +kernel
theorem dL_law_257 : decode cL_law 257 = .ok (.aload_n 1, 1) := by decide +kernel
theorem dL_law_258 : decode cL_law 258 = .ok (.aload_n 0, 1) := by decide +kernel
theorem dL_law_259 : decode cL_law 259 = .ok (.iload 4, 2) := by decide +kernel
theorem dL_law_261 : decode cL_law 261 = .ok (.iconst 1, 1) := by decide +kernel
theorem dL_law_262 : decode cL_law 262 = .ok (.iadd, 1) := by decide +kernel
theorem dL_law_263 : decode cL_law 263 = .ok (.iaload, 1) := by decide +kernel
theorem dL_law_264 : decode cL_law 264 = .ok (.invokevirtual 26, 3) := by decide +kernel
theorem dL_law_267 : decode cL_law 267 = .ok (.aload_n 2, 1) := by decide +kernel
theorem dL_law_268 : decode cL_law 268 = .ok (.aload_n 0, 1) := by decide +kernel
theorem dL_law_269 : decode cL_law 269 = .ok (.iload 4, 2) := by decide +kernel
theorem dL_law_271 : decode cL_law 271 = .ok (.iconst 1, 1) := by decide +kernel
theorem dL_law_272 : decode cL_law 272 = .ok (.iadd, 1) := by decide +kernel
theorem dL_law_273 : decode cL_law 273 = .ok (.iaload, 1) := by decide +kernel
theorem dL_law_274 : decode cL_law 274 = .ok (.invokevirtual 30, 3) := by decide +kernel
theorem dL_law_277 : decode cL_law 277 = .ok (.if_icmp .eq 942, 3) := by decide +kernel
theorem dL_law_280 : decode cL_law 280 = .ok (.iconst 0, 1) := by decide +kernel
theorem dL_law_281 : decode cL_law 281 = .ok (.ireturn, 1) := by decide +kernel
theorem dL_law_282 : decode cL_law 282 = .ok (.aload_n 1, 1) := by decide +kernel
theorem dL_law_283 : decode cL_law 283 = .ok (.aload_n 0, 1) := by decide +kernel
theorem dL_law_284 : decode cL_law 284 = .ok (.iload 4, 2) := by decide +kernel
theorem dL_law_286 : decode cL_law 286 = .ok (.iconst 1, 1) := by decide +kernel
theorem dL_law_287 : decode cL_law 287 = .ok (.iadd, 1) := by decide +kernel
theorem dL_law_288 : decode cL_law 288 = .ok (.iaload, 1) := by decide +kernel
theorem dL_law_289 : decode cL_law 289 = .ok (.invokevirtual 31, 3) := by decide +kernel
theorem dL_law_292 : decode cL_law 292 = .ok (.aload_n 2, 1) := by decide +kernel
theorem dL_law_293 : decode cL_law 293 = .ok (.aload_n 0, 1) := by decide +kernel
theorem dL_law_294 : decode cL_law 294 = .ok (.iload 4, 2) := by decide +kernel
theorem dL_law_296 : decode cL_law 296 = .ok (.iconst 1, 1) := by decide +kernel
theorem dL_law_297 : decode cL_law 297 = .ok (.iadd, 1) := by decide +kernel
theorem dL_law_298 : decode cL_law 298 = .ok (.iaload, 1) := by decide +kernel
theorem dL_law_299 : decode cL_law 299 = .ok (.invokevirtual 34, 3) := by decide +kernel
theorem dL_law_302 : decode cL_law 302 = .ok (.if_icmp .eq 917, 3) := by decide +kernel
theorem dL_law_305 : decode cL_law 305 = .ok (.iconst 0, 1) := by decide +kernel
theorem dL_law_306 : decode cL_law 306 = .ok (.ireturn, 1) := by decide +kernel
theorem dL_law_307 : decode cL_law 307 = .ok (.aload_n 1, 1) := by decide +kernel
theorem dL_law_308 : decode cL_law 308 = .ok (.aload_n 0, 1) := by decide +kernel
theorem dL_law_309 : decode cL_law 309 = .ok (.iload 4, 2) := by decide +kernel
theorem dL_law_311 : decode cL_law 311 = .ok (.iconst 1, 1) := by decide +kernel
theorem dL_law_312 : decode cL_law 312 = .ok (.iadd, 1) := by decide +kernel
theorem dL_law_313 : decode cL_law 313 = .ok (.iaload, 1) := by decide +kernel
theorem dL_law_314 : decode cL_law 314 = .ok (.aload_n 0, 1) := by decide +kernel
theorem dL_law_315 : decode cL_law 315 = .ok (.iload 4, 2) := by decide +kernel
theorem dL_law_317 : decode cL_law 317 = .ok (.iconst 2, 1) := by decide +kernel
theorem dL_law_318 : decode cL_law 318 = .ok (.iadd, 1) := by decide +kernel
theorem dL_law_319 : decode cL_law 319 = .ok (.iaload, 1) := by decide +kernel
theorem dL_law_320 : decode cL_law 320 = .ok (.invokevirtual 35, 3) := by decide +kernel
theorem dL_law_323 : decode cL_law 323 = .ok (.aload_n 2, 1) := by decide +kernel
theorem dL_law_324 : decode cL_law 324 = .ok (.aload_n 0, 1) := by decide +kernel
theorem dL_law_325 : decode cL_law 325 = .ok (.iload 4, 2) := by decide +kernel
theorem dL_law_327 : decode cL_law 327 = .ok (.iconst 1, 1) := by decide +kernel
theorem dL_law_328 : decode cL_law 328 = .ok (.iadd, 1) := by decide +kernel
theorem dL_law_329 : decode cL_law 329 = .ok (.iaload, 1) := by decide +kernel
theorem dL_law_330 : decode cL_law 330 = .ok (.aload_n 0, 1) := by decide +kernel
theorem dL_law_331 : decode cL_law 331 = .ok (.iload 4, 2) := by decide +kernel
theorem dL_law_333 : decode cL_law 333 = .ok (.iconst 2, 1) := by decide +kernel
theorem dL_law_334 : decode cL_law 334 = .ok (.iadd, 1) := by decide +kernel
theorem dL_law_335 : decode cL_law 335 = .ok (.iaload, 1) := by decide +kernel
theorem dL_law_336 : decode cL_law 336 = .ok (.invokevirtual 38, 3) := by decide +kernel
theorem dL_law_339 : decode cL_law 339 = .ok (.if_icmp .eq 880, 3) := by decide +kernel
theorem dL_law_342 : decode cL_law 342 = .ok (.iconst 0, 1) := by decide +kernel
theorem dL_law_343 : decode cL_law 343 = .ok (.ireturn, 1) := by decide +kernel
theorem dL_law_344 : decode cL_law 344 = .ok (.aload_n 1, 1) := by decide +kernel
theorem dL_law_345 : decode cL_law 345 = .ok (.aload_n 0, 1) := by decide +kernel
theorem dL_law_346 : decode cL_law 346 = .ok (.iload 4, 2) := by decide +kernel
theorem dL_law_348 : decode cL_law 348 = .ok (.iconst 1, 1) := by decide +kernel
theorem dL_law_349 : decode cL_law 349 = .ok (.iadd, 1) := by decide +kernel
theorem dL_law_350 : decode cL_law 350 = .ok (.iaload, 1) := by decide +kernel
theorem dL_law_351 : decode cL_law 351 = .ok (.aload_n 0, 1) := by decide +kernel
theorem dL_law_352 : decode cL_law 352 = .ok (.iload 4, 2) := by decide +kernel
theorem dL_law_354 : decode cL_law 354 = .ok (.iconst 2, 1) := by decide +kernel
theorem dL_law_355 : decode cL_law 355 = .ok (.iadd, 1) := by decide +kernel
theorem dL_law_356 : decode cL_law 356 = .ok (.iaload, 1) := by decide +kernel
theorem dL_law_357 : decode cL_law 357 = .ok (.aload_n 3, 1) := by decide +kernel
theorem dL_law_358 : decode cL_law 358 = .ok (.invokestatic 39, 3) := by decide +kernel
theorem dL_law_361 : decode cL_law 361 = .ok (.istore 5, 2) := by decide +kernel
theorem dL_law_363 : decode cL_law 363 = .ok (.aload_n 2, 1) := by decide +kernel
theorem dL_law_364 : decode cL_law 364 = .ok (.aload_n 0, 1) := by decide +kernel
theorem dL_law_365 : decode cL_law 365 = .ok (.iload 4, 2) := by decide +kernel
theorem dL_law_367 : decode cL_law 367 = .ok (.iconst 1, 1) := by decide +kernel
theorem dL_law_368 : decode cL_law 368 = .ok (.iadd, 1) := by decide +kernel
theorem dL_law_369 : decode cL_law 369 = .ok (.iaload, 1) := by decide +kernel
theorem dL_law_370 : decode cL_law 370 = .ok (.aload_n 0, 1) := by decide +kernel
theorem dL_law_371 : decode cL_law 371 = .ok (.iload 4, 2) := by decide +kernel
theorem dL_law_373 : decode cL_law 373 = .ok (.iconst 2, 1) := by decide +kernel
theorem dL_law_374 : decode cL_law 374 = .ok (.iadd, 1) := by decide +kernel
theorem dL_law_375 : decode cL_law 375 = .ok (.iaload, 1) := by decide +kernel
theorem dL_law_376 : decode cL_law 376 = .ok (.invokevirtual 44, 3) := by decide +kernel
theorem dL_law_379 : decode cL_law 379 = .ok (.istore 6, 2) := by decide +kernel
theorem dL_law_381 : decode cL_law 381 = .ok (.aload_n 2, 1) := by decide +kernel
theorem dL_law_382 : decode cL_law 382 = .ok (.invokevirtual 45, 3) := by decide +kernel
theorem dL_law_385 : decode cL_law 385 = .ok (.iload 5, 2) := by decide +kernel
theorem dL_law_387 : decode cL_law 387 = .ok (.if_icmp .eq 5, 3) := by decide +kernel
theorem dL_law_390 : decode cL_law 390 = .ok (.iconst 0, 1) := by decide +kernel
theorem dL_law_391 : decode cL_law 391 = .ok (.ireturn, 1) := by decide +kernel
theorem dL_law_392 : decode cL_law 392 = .ok (.iload 5, 2) := by decide +kernel
theorem dL_law_394 : decode cL_law 394 = .ok (.ifCond .ne 15, 3) := by decide +kernel
theorem dL_law_397 : decode cL_law 397 = .ok (.aload_n 3, 1) := by decide +kernel
theorem dL_law_398 : decode cL_law 398 = .ok (.iconst 0, 1) := by decide +kernel
theorem dL_law_399 : decode cL_law 399 = .ok (.laload, 1) := by decide +kernel
theorem dL_law_400 : decode cL_law 400 = .ok (.iload 6, 2) := by decide +kernel
theorem dL_law_402 : decode cL_law 402 = .ok (.i2l, 1) := by decide +kernel
theorem dL_law_403 : decode cL_law 403 = .ok (.lcmp, 1) := by decide +kernel
theorem dL_law_404 : decode cL_law 404 = .ok (.ifCond .eq 5, 3) := by decide +kernel
theorem dL_law_407 : decode cL_law 407 = .ok (.iconst 0, 1) := by decide +kernel
theorem dL_law_408 : decode cL_law 408 = .ok (.ireturn, 1) := by decide +kernel
theorem dL_law_409 : decode cL_law 409 = .ok (.goto 810, 3) := by decide +kernel
theorem dL_law_412 : decode cL_law 412 = .ok (.aload_n 1, 1) := by decide +kernel
theorem dL_law_413 : decode cL_law 413 = .ok (.aload_n 0, 1) := by decide +kernel
theorem dL_law_414 : decode cL_law 414 = .ok (.iload 4, 2) := by decide +kernel
theorem dL_law_416 : decode cL_law 416 = .ok (.iconst 1, 1) := by decide +kernel
theorem dL_law_417 : decode cL_law 417 = .ok (.iadd, 1) := by decide +kernel
theorem dL_law_418 : decode cL_law 418 = .ok (.iaload, 1) := by decide +kernel
theorem dL_law_419 : decode cL_law 419 = .ok (.aload_n 0, 1) := by decide +kernel
theorem dL_law_420 : decode cL_law 420 = .ok (.iload 4, 2) := by decide +kernel
theorem dL_law_422 : decode cL_law 422 = .ok (.iconst 2, 1) := by decide +kernel
theorem dL_law_423 : decode cL_law 423 = .ok (.iadd, 1) := by decide +kernel
theorem dL_law_424 : decode cL_law 424 = .ok (.iaload, 1) := by decide +kernel
theorem dL_law_425 : decode cL_law 425 = .ok (.invokevirtual 49, 3) := by decide +kernel
theorem dL_law_428 : decode cL_law 428 = .ok (.aload_n 2, 1) := by decide +kernel
theorem dL_law_429 : decode cL_law 429 = .ok (.aload_n 0, 1) := by decide +kernel
theorem dL_law_430 : decode cL_law 430 = .ok (.iload 4, 2) := by decide +kernel
theorem dL_law_432 : decode cL_law 432 = .ok (.iconst 1, 1) := by decide +kernel
theorem dL_law_433 : decode cL_law 433 = .ok (.iadd, 1) := by decide +kernel
theorem dL_law_434 : decode cL_law 434 = .ok (.iaload, 1) := by decide +kernel
theorem dL_law_435 : decode cL_law 435 = .ok (.aload_n 0, 1) := by decide +kernel
theorem dL_law_436 : decode cL_law 436 = .ok (.iload 4, 2) := by decide +kernel
theorem dL_law_438 : decode cL_law 438 = .ok (.iconst 2, 1) := by decide +kernel
theorem dL_law_439 : decode cL_law 439 = .ok (.iadd, 1) := by decide +kernel
theorem dL_law_440 : decode cL_law 440 = .ok (.iaload, 1) := by decide +kernel
theorem dL_law_441 : decode cL_law 441 = .ok (.invokevirtual 52, 3) := by decide +kernel
theorem dL_law_444 : decode cL_law 444 = .ok (.if_icmp .eq 775, 3) := by decide +kernel
theorem dL_law_447 : decode cL_law 447 = .ok (.iconst 0, 1) := by decide +kernel
theorem dL_law_448 : decode cL_law 448 = .ok (.ireturn, 1) := by decide +kernel
theorem dL_law_449 : decode cL_law 449 = .ok (.aload_n 1, 1) := by decide +kernel
theorem dL_law_450 : decode cL_law 450 = .ok (.aload_n 0, 1) := by decide +kernel
theorem dL_law_451 : decode cL_law 451 = .ok (.iload 4, 2) := by decide +kernel
theorem dL_law_453 : decode cL_law 453 = .ok (.iconst 1, 1) := by decide +kernel
theorem dL_law_454 : decode cL_law 454 = .ok (.iadd, 1) := by decide +kernel
theorem dL_law_455 : decode cL_law 455 = .ok (.iaload, 1) := by decide +kernel
theorem dL_law_456 : decode cL_law 456 = .ok (.aload_n 0, 1) := by decide +kernel
theorem dL_law_457 : decode cL_law 457 = .ok (.iload 4, 2) := by decide +kernel
theorem dL_law_459 : decode cL_law 459 = .ok (.iconst 2, 1) := by decide +kernel
theorem dL_law_460 : decode cL_law 460 = .ok (.iadd, 1) := by decide +kernel
theorem dL_law_461 : decode cL_law 461 = .ok (.iaload, 1) := by decide +kernel
theorem dL_law_462 : decode cL_law 462 = .ok (.invokevirtual 53, 3) := by decide +kernel
theorem dL_law_465 : decode cL_law 465 = .ok (.aload_n 2, 1) := by decide +kernel
theorem dL_law_466 : decode cL_law 466 = .ok (.aload_n 0, 1) := by decide +kernel
theorem dL_law_467 : decode cL_law 467 = .ok (.iload 4, 2) := by decide +kernel
theorem dL_law_469 : decode cL_law 469 = .ok (.iconst 1, 1) := by decide +kernel
theorem dL_law_470 : decode cL_law 470 = .ok (.iadd, 1) := by decide +kernel
theorem dL_law_471 : decode cL_law 471 = .ok (.iaload, 1) := by decide +kernel
theorem dL_law_472 : decode cL_law 472 = .ok (.aload_n 0, 1) := by decide +kernel
theorem dL_law_473 : decode cL_law 473 = .ok (.iload 4, 2) := by decide +kernel
theorem dL_law_475 : decode cL_law 475 = .ok (.iconst 2, 1) := by decide +kernel
theorem dL_law_476 : decode cL_law 476 = .ok (.iadd, 1) := by decide +kernel
theorem dL_law_477 : decode cL_law 477 = .ok (.iaload, 1) := by decide +kernel
theorem dL_law_478 : decode cL_law 478 = .ok (.invokevirtual 56, 3) := by decide +kernel
theorem dL_law_481 : decode cL_law 481 = .ok (.if_icmp .eq 738, 3) := by decide +kernel
theorem dL_law_484 : decode cL_law 484 = .ok (.iconst 0, 1) := by decide +kernel
theorem dL_law_485 : decode cL_law 485 = .ok (.ireturn, 1) := by decide +kernel
theorem dL_law_486 : decode cL_law 486 = .ok (.aload_n 1, 1) := by decide +kernel
theorem dL_law_487 : decode cL_law 487 = .ok (.aload_n 0, 1) := by decide +kernel
theorem dL_law_488 : decode cL_law 488 = .ok (.iload 4, 2) := by decide +kernel
theorem dL_law_490 : decode cL_law 490 = .ok (.iconst 1, 1) := by decide +kernel
theorem dL_law_491 : decode cL_law 491 = .ok (.iadd, 1) := by decide +kernel
theorem dL_law_492 : decode cL_law 492 = .ok (.iaload, 1) := by decide +kernel
theorem dL_law_493 : decode cL_law 493 = .ok (.aload_n 0, 1) := by decide +kernel
theorem dL_law_494 : decode cL_law 494 = .ok (.iload 4, 2) := by decide +kernel
theorem dL_law_496 : decode cL_law 496 = .ok (.iconst 2, 1) := by decide +kernel
theorem dL_law_497 : decode cL_law 497 = .ok (.iadd, 1) := by decide +kernel
theorem dL_law_498 : decode cL_law 498 = .ok (.iaload, 1) := by decide +kernel
theorem dL_law_499 : decode cL_law 499 = .ok (.aload_n 0, 1) := by decide +kernel
theorem dL_law_500 : decode cL_law 500 = .ok (.iload 4, 2) := by decide +kernel
theorem dL_law_502 : decode cL_law 502 = .ok (.iconst 3, 1) := by decide +kernel
theorem dL_law_503 : decode cL_law 503 = .ok (.iadd, 1) := by decide +kernel
theorem dL_law_504 : decode cL_law 504 = .ok (.iaload, 1) := by decide +kernel
theorem dL_law_505 : decode cL_law 505 = .ok (.aload_n 0, 1) := by decide +kernel
theorem dL_law_506 : decode cL_law 506 = .ok (.iload 4, 2) := by decide +kernel
theorem dL_law_508 : decode cL_law 508 = .ok (.iconst 4, 1) := by decide +kernel
theorem dL_law_509 : decode cL_law 509 = .ok (.iadd, 1) := by decide +kernel
theorem dL_law_510 : decode cL_law 510 = .ok (.iaload, 1) := by decide +kernel
theorem dL_law_511 : decode cL_law 511 = .ok (.aload_n 0, 1) := by decide +kernel
theorem dL_law_512 : decode cL_law 512 = .ok (.iload 4, 2) := by decide +kernel
theorem dL_law_514 : decode cL_law 514 = .ok (.iconst 5, 1) := by decide +kernel
theorem dL_law_515 : decode cL_law 515 = .ok (.iadd, 1) := by decide +kernel
theorem dL_law_516 : decode cL_law 516 = .ok (.iaload, 1) := by decide +kernel
theorem dL_law_517 : decode cL_law 517 = .ok (.invokevirtual 57, 3) := by decide +kernel
theorem dL_law_520 : decode cL_law 520 = .ok (.aload_n 2, 1) := by decide +kernel
theorem dL_law_521 : decode cL_law 521 = .ok (.aload_n 0, 1) := by decide +kernel
theorem dL_law_522 : decode cL_law 522 = .ok (.iload 4, 2) := by decide +kernel
theorem dL_law_524 : decode cL_law 524 = .ok (.iconst 1, 1) := by decide +kernel
theorem dL_law_525 : decode cL_law 525 = .ok (.iadd, 1) := by decide +kernel
theorem dL_law_526 : decode cL_law 526 = .ok (.iaload, 1) := by decide +kernel
theorem dL_law_527 : decode cL_law 527 = .ok (.aload_n 0, 1) := by decide +kernel
theorem dL_law_528 : decode cL_law 528 = .ok (.iload 4, 2) := by decide +kernel
theorem dL_law_530 : decode cL_law 530 = .ok (.iconst 2, 1) := by decide +kernel
theorem dL_law_531 : decode cL_law 531 = .ok (.iadd, 1) := by decide +kernel
theorem dL_law_532 : decode cL_law 532 = .ok (.iaload, 1) := by decide +kernel
theorem dL_law_533 : decode cL_law 533 = .ok (.aload_n 0, 1) := by decide +kernel
theorem dL_law_534 : decode cL_law 534 = .ok (.iload 4, 2) := by decide +kernel
theorem dL_law_536 : decode cL_law 536 = .ok (.iconst 3, 1) := by decide +kernel
theorem dL_law_537 : decode cL_law 537 = .ok (.iadd, 1) := by decide +kernel
theorem dL_law_538 : decode cL_law 538 = .ok (.iaload, 1) := by decide +kernel
theorem dL_law_539 : decode cL_law 539 = .ok (.aload_n 0, 1) := by decide +kernel
theorem dL_law_540 : decode cL_law 540 = .ok (.iload 4, 2) := by decide +kernel
theorem dL_law_542 : decode cL_law 542 = .ok (.iconst 4, 1) := by decide +kernel
theorem dL_law_543 : decode cL_law 543 = .ok (.iadd, 1) := by decide +kernel
theorem dL_law_544 : decode cL_law 544 = .ok (.iaload, 1) := by decide +kernel
theorem dL_law_545 : decode cL_law 545 = .ok (.aload_n 0, 1) := by decide +kernel
theorem dL_law_546 : decode cL_law 546 = .ok (.iload 4, 2) := by decide +kernel
theorem dL_law_548 : decode cL_law 548 = .ok (.iconst 5, 1) := by decide +kernel
theorem dL_law_549 : decode cL_law 549 = .ok (.iadd, 1) := by decide +kernel
theorem dL_law_550 : decode cL_law 550 = .ok (.iaload, 1) := by decide +kernel
theorem dL_law_551 : decode cL_law 551 = .ok (.invokevirtual 61, 3) := by decide +kernel
theorem dL_law_554 : decode cL_law 554 = .ok (.if_icmp .eq 665, 3) := by decide +kernel
theorem dL_law_557 : decode cL_law 557 = .ok (.iconst 0, 1) := by decide +kernel
theorem dL_law_558 : decode cL_law 558 = .ok (.ireturn, 1) := by decide +kernel
theorem dL_law_559 : decode cL_law 559 = .ok (.aload_n 1, 1) := by decide +kernel
theorem dL_law_560 : decode cL_law 560 = .ok (.aload_n 0, 1) := by decide +kernel
theorem dL_law_561 : decode cL_law 561 = .ok (.iload 4, 2) := by decide +kernel
theorem dL_law_563 : decode cL_law 563 = .ok (.iconst 1, 1) := by decide +kernel
theorem dL_law_564 : decode cL_law 564 = .ok (.iadd, 1) := by decide +kernel
theorem dL_law_565 : decode cL_law 565 = .ok (.iaload, 1) := by decide +kernel
theorem dL_law_566 : decode cL_law 566 = .ok (.invokevirtual 62, 3) := by decide +kernel
theorem dL_law_569 : decode cL_law 569 = .ok (.aload_n 2, 1) := by decide +kernel
theorem dL_law_570 : decode cL_law 570 = .ok (.aload_n 0, 1) := by decide +kernel
theorem dL_law_571 : decode cL_law 571 = .ok (.iload 4, 2) := by decide +kernel
theorem dL_law_573 : decode cL_law 573 = .ok (.iconst 1, 1) := by decide +kernel
theorem dL_law_574 : decode cL_law 574 = .ok (.iadd, 1) := by decide +kernel
theorem dL_law_575 : decode cL_law 575 = .ok (.iaload, 1) := by decide +kernel
theorem dL_law_576 : decode cL_law 576 = .ok (.invokevirtual 66, 3) := by decide +kernel
theorem dL_law_579 : decode cL_law 579 = .ok (.if_icmp .eq 640, 3) := by decide +kernel
theorem dL_law_582 : decode cL_law 582 = .ok (.iconst 0, 1) := by decide +kernel
theorem dL_law_583 : decode cL_law 583 = .ok (.ireturn, 1) := by decide +kernel
theorem dL_law_584 : decode cL_law 584 = .ok (.aload_n 1, 1) := by decide +kernel
theorem dL_law_585 : decode cL_law 585 = .ok (.aload_n 0, 1) := by decide +kernel
theorem dL_law_586 : decode cL_law 586 = .ok (.iload 4, 2) := by decide +kernel
theorem dL_law_588 : decode cL_law 588 = .ok (.iconst 1, 1) := by decide +kernel
theorem dL_law_589 : decode cL_law 589 = .ok (.iadd, 1) := by decide +kernel
theorem dL_law_590 : decode cL_law 590 = .ok (.iaload, 1) := by decide +kernel
theorem dL_law_591 : decode cL_law 591 = .ok (.aload_n 0, 1) := by decide +kernel
theorem dL_law_592 : decode cL_law 592 = .ok (.iload 4, 2) := by decide +kernel
theorem dL_law_594 : decode cL_law 594 = .ok (.iconst 2, 1) := by decide +kernel
theorem dL_law_595 : decode cL_law 595 = .ok (.iadd, 1) := by decide +kernel
theorem dL_law_596 : decode cL_law 596 = .ok (.iaload, 1) := by decide +kernel
theorem dL_law_597 : decode cL_law 597 = .ok (.invokevirtual 67, 3) := by decide +kernel
theorem dL_law_600 : decode cL_law 600 = .ok (.aload_n 2, 1) := by decide +kernel
theorem dL_law_601 : decode cL_law 601 = .ok (.aload_n 0, 1) := by decide +kernel
theorem dL_law_602 : decode cL_law 602 = .ok (.iload 4, 2) := by decide +kernel
theorem dL_law_604 : decode cL_law 604 = .ok (.iconst 1, 1) := by decide +kernel
theorem dL_law_605 : decode cL_law 605 = .ok (.iadd, 1) := by decide +kernel
theorem dL_law_606 : decode cL_law 606 = .ok (.iaload, 1) := by decide +kernel
theorem dL_law_607 : decode cL_law 607 = .ok (.aload_n 0, 1) := by decide +kernel
theorem dL_law_608 : decode cL_law 608 = .ok (.iload 4, 2) := by decide +kernel
theorem dL_law_610 : decode cL_law 610 = .ok (.iconst 2, 1) := by decide +kernel
theorem dL_law_611 : decode cL_law 611 = .ok (.iadd, 1) := by decide +kernel
theorem dL_law_612 : decode cL_law 612 = .ok (.iaload, 1) := by decide +kernel
theorem dL_law_613 : decode cL_law 613 = .ok (.invokevirtual 70, 3) := by decide +kernel
theorem dL_law_616 : decode cL_law 616 = .ok (.if_icmp .eq 603, 3) := by decide +kernel
theorem dL_law_619 : decode cL_law 619 = .ok (.iconst 0, 1) := by decide +kernel
theorem dL_law_620 : decode cL_law 620 = .ok (.ireturn, 1) := by decide +kernel
theorem dL_law_621 : decode cL_law 621 = .ok (.aload_n 1, 1) := by decide +kernel
theorem dL_law_622 : decode cL_law 622 = .ok (.aload_n 0, 1) := by decide +kernel
theorem dL_law_623 : decode cL_law 623 = .ok (.iload 4, 2) := by decide +kernel
theorem dL_law_625 : decode cL_law 625 = .ok (.iconst 1, 1) := by decide +kernel
theorem dL_law_626 : decode cL_law 626 = .ok (.iadd, 1) := by decide +kernel
theorem dL_law_627 : decode cL_law 627 = .ok (.iaload, 1) := by decide +kernel
theorem dL_law_628 : decode cL_law 628 = .ok (.invokevirtual 71, 3) := by decide +kernel
theorem dL_law_631 : decode cL_law 631 = .ok (.aload_n 2, 1) := by decide +kernel
theorem dL_law_632 : decode cL_law 632 = .ok (.aload_n 0, 1) := by decide +kernel
theorem dL_law_633 : decode cL_law 633 = .ok (.iload 4, 2) := by decide +kernel
theorem dL_law_635 : decode cL_law 635 = .ok (.iconst 1, 1) := by decide +kernel
theorem dL_law_636 : decode cL_law 636 = .ok (.iadd, 1) := by decide +kernel
theorem dL_law_637 : decode cL_law 637 = .ok (.iaload, 1) := by decide +kernel
theorem dL_law_638 : decode cL_law 638 = .ok (.invokevirtual 75, 3) := by decide +kernel
theorem dL_law_641 : decode cL_law 641 = .ok (.lcmp, 1) := by decide +kernel
theorem dL_law_642 : decode cL_law 642 = .ok (.ifCond .eq 577, 3) := by decide +kernel
theorem dL_law_645 : decode cL_law 645 = .ok (.iconst 0, 1) := by decide +kernel
theorem dL_law_646 : decode cL_law 646 = .ok (.ireturn, 1) := by decide +kernel
theorem dL_law_647 : decode cL_law 647 = .ok (.aload_n 1, 1) := by decide +kernel
theorem dL_law_648 : decode cL_law 648 = .ok (.aload_n 0, 1) := by decide +kernel
theorem dL_law_649 : decode cL_law 649 = .ok (.iload 4, 2) := by decide +kernel
theorem dL_law_651 : decode cL_law 651 = .ok (.iconst 1, 1) := by decide +kernel
theorem dL_law_652 : decode cL_law 652 = .ok (.iadd, 1) := by decide +kernel
theorem dL_law_653 : decode cL_law 653 = .ok (.iaload, 1) := by decide +kernel
theorem dL_law_654 : decode cL_law 654 = .ok (.aload_n 0, 1) := by decide +kernel
theorem dL_law_655 : decode cL_law 655 = .ok (.iload 4, 2) := by decide +kernel
theorem dL_law_657 : decode cL_law 657 = .ok (.iconst 2, 1) := by decide +kernel
theorem dL_law_658 : decode cL_law 658 = .ok (.iadd, 1) := by decide +kernel
theorem dL_law_659 : decode cL_law 659 = .ok (.iaload, 1) := by decide +kernel
theorem dL_law_660 : decode cL_law 660 = .ok (.invokevirtual 76, 3) := by decide +kernel
theorem dL_law_663 : decode cL_law 663 = .ok (.aload_n 2, 1) := by decide +kernel
theorem dL_law_664 : decode cL_law 664 = .ok (.aload_n 0, 1) := by decide +kernel
theorem dL_law_665 : decode cL_law 665 = .ok (.iload 4, 2) := by decide +kernel
theorem dL_law_667 : decode cL_law 667 = .ok (.iconst 1, 1) := by decide +kernel
theorem dL_law_668 : decode cL_law 668 = .ok (.iadd, 1) := by decide +kernel
theorem dL_law_669 : decode cL_law 669 = .ok (.iaload, 1) := by decide +kernel
theorem dL_law_670 : decode cL_law 670 = .ok (.aload_n 0, 1) := by decide +kernel
theorem dL_law_671 : decode cL_law 671 = .ok (.iload 4, 2) := by decide +kernel
theorem dL_law_673 : decode cL_law 673 = .ok (.iconst 2, 1) := by decide +kernel
theorem dL_law_674 : decode cL_law 674 = .ok (.iadd, 1) := by decide +kernel
theorem dL_law_675 : decode cL_law 675 = .ok (.iaload, 1) := by decide +kernel
theorem dL_law_676 : decode cL_law 676 = .ok (.invokevirtual 80, 3) := by decide +kernel
theorem dL_law_679 : decode cL_law 679 = .ok (.lcmp, 1) := by decide +kernel
theorem dL_law_680 : decode cL_law 680 = .ok (.ifCond .eq 539, 3) := by decide +kernel
theorem dL_law_683 : decode cL_law 683 = .ok (.iconst 0, 1) := by decide +kernel
theorem dL_law_684 : decode cL_law 684 = .ok (.ireturn, 1) := by decide +kernel
theorem dL_law_685 : decode cL_law 685 = .ok (.aload_n 1, 1) := by decide +kernel
theorem dL_law_686 : decode cL_law 686 = .ok (.invokevirtual 81, 3) := by decide +kernel
theorem dL_law_689 : decode cL_law 689 = .ok (.aload_n 2, 1) := by decide +kernel
theorem dL_law_690 : decode cL_law 690 = .ok (.invokevirtual 85, 3) := by decide +kernel
theorem dL_law_693 : decode cL_law 693 = .ok (.lcmp, 1) := by decide +kernel
theorem dL_law_694 : decode cL_law 694 = .ok (.ifCond .eq 525, 3) := by decide +kernel
theorem dL_law_697 : decode cL_law 697 = .ok (.iconst 0, 1) := by decide +kernel
theorem dL_law_698 : decode cL_law 698 = .ok (.ireturn, 1) := by decide +kernel
theorem dL_law_699 : decode cL_law 699 = .ok (.aload_n 1, 1) := by decide +kernel
theorem dL_law_700 : decode cL_law 700 = .ok (.aload_n 0, 1) := by decide +kernel
theorem dL_law_701 : decode cL_law 701 = .ok (.iload 4, 2) := by decide +kernel
theorem dL_law_703 : decode cL_law 703 = .ok (.iconst 1, 1) := by decide +kernel
theorem dL_law_704 : decode cL_law 704 = .ok (.iadd, 1) := by decide +kernel
theorem dL_law_705 : decode cL_law 705 = .ok (.iaload, 1) := by decide +kernel
theorem dL_law_706 : decode cL_law 706 = .ok (.invokevirtual 86, 3) := by decide +kernel
theorem dL_law_709 : decode cL_law 709 = .ok (.aload_n 2, 1) := by decide +kernel
theorem dL_law_710 : decode cL_law 710 = .ok (.aload_n 0, 1) := by decide +kernel
theorem dL_law_711 : decode cL_law 711 = .ok (.iload 4, 2) := by decide +kernel
theorem dL_law_713 : decode cL_law 713 = .ok (.iconst 1, 1) := by decide +kernel
theorem dL_law_714 : decode cL_law 714 = .ok (.iadd, 1) := by decide +kernel
theorem dL_law_715 : decode cL_law 715 = .ok (.iaload, 1) := by decide +kernel
theorem dL_law_716 : decode cL_law 716 = .ok (.invokevirtual 89, 3) := by decide +kernel
theorem dL_law_719 : decode cL_law 719 = .ok (.if_icmp .eq 500, 3) := by decide +kernel
theorem dL_law_722 : decode cL_law 722 = .ok (.iconst 0, 1) := by decide +kernel
theorem dL_law_723 : decode cL_law 723 = .ok (.ireturn, 1) := by decide +kernel
theorem dL_law_724 : decode cL_law 724 = .ok (.aload_n 1, 1) := by decide +kernel
theorem dL_law_725 : decode cL_law 725 = .ok (.aload_n 0, 1) := by decide +kernel
theorem dL_law_726 : decode cL_law 726 = .ok (.iload 4, 2) := by decide +kernel
theorem dL_law_728 : decode cL_law 728 = .ok (.iconst 1, 1) := by decide +kernel
theorem dL_law_729 : decode cL_law 729 = .ok (.iadd, 1) := by decide +kernel
theorem dL_law_730 : decode cL_law 730 = .ok (.iaload, 1) := by decide +kernel
theorem dL_law_731 : decode cL_law 731 = .ok (.invokevirtual 90, 3) := by decide +kernel
theorem dL_law_734 : decode cL_law 734 = .ok (.aload_n 2, 1) := by decide +kernel
theorem dL_law_735 : decode cL_law 735 = .ok (.aload_n 0, 1) := by decide +kernel
theorem dL_law_736 : decode cL_law 736 = .ok (.iload 4, 2) := by decide +kernel
theorem dL_law_738 : decode cL_law 738 = .ok (.iconst 1, 1) := by decide +kernel
theorem dL_law_739 : decode cL_law 739 = .ok (.iadd, 1) := by decide +kernel
theorem dL_law_740 : decode cL_law 740 = .ok (.iaload, 1) := by decide +kernel
theorem dL_law_741 : decode cL_law 741 = .ok (.invokevirtual 93, 3) := by decide +kernel
theorem dL_law_744 : decode cL_law 744 = .ok (.if_icmp .eq 475, 3) := by decide +kernel
theorem dL_law_747 : decode cL_law 747 = .ok (.iconst 0, 1) := by decide +kernel
theorem dL_law_748 : decode cL_law 748 = .ok (.ireturn, 1) := by decide +kernel
theorem dL_law_749 : decode cL_law 749 = .ok (.aload_n 1, 1) := by decide +kernel
theorem dL_law_750 : decode cL_law 750 = .ok (.aload_n 0, 1) := by decide +kernel
theorem dL_law_751 : decode cL_law 751 = .ok (.iload 4, 2) := by decide +kernel
theorem dL_law_753 : decode cL_law 753 = .ok (.iconst 1, 1) := by decide +kernel
theorem dL_law_754 : decode cL_law 754 = .ok (.iadd, 1) := by decide +kernel
theorem dL_law_755 : decode cL_law 755 = .ok (.iaload, 1) := by decide +kernel
theorem dL_law_756 : decode cL_law 756 = .ok (.aload_n 0, 1) := by decide +kernel
theorem dL_law_757 : decode cL_law 757 = .ok (.iload 4, 2) := by decide +kernel
theorem dL_law_759 : decode cL_law 759 = .ok (.iconst 2, 1) := by decide +kernel
theorem dL_law_760 : decode cL_law 760 = .ok (.iadd, 1) := by decide +kernel
theorem dL_law_761 : decode cL_law 761 = .ok (.iaload, 1) := by decide +kernel
theorem dL_law_762 : decode cL_law 762 = .ok (.aload_n 0, 1) := by decide +kernel
theorem dL_law_763 : decode cL_law 763 = .ok (.iload 4, 2) := by decide +kernel
theorem dL_law_765 : decode cL_law 765 = .ok (.iconst 3, 1) := by decide +kernel
theorem dL_law_766 : decode cL_law 766 = .ok (.iadd, 1) := by decide +kernel
theorem dL_law_767 : decode cL_law 767 = .ok (.iaload, 1) := by decide +kernel
theorem dL_law_768 : decode cL_law 768 = .ok (.invokevirtual 94, 3) := by decide +kernel
theorem dL_law_771 : decode cL_law 771 = .ok (.aload_n 2, 1) := by decide +kernel
theorem dL_law_772 : decode cL_law 772 = .ok (.aload_n 0, 1) := by decide +kernel
theorem dL_law_773 : decode cL_law 773 = .ok (.iload 4, 2) := by decide +kernel
theorem dL_law_775 : decode cL_law 775 = .ok (.iconst 1, 1) := by decide +kernel
theorem dL_law_776 : decode cL_law 776 = .ok (.iadd, 1) := by decide +kernel
theorem dL_law_777 : decode cL_law 777 = .ok (.iaload, 1) := by decide +kernel
theorem dL_law_778 : decode cL_law 778 = .ok (.aload_n 0, 1) := by decide +kernel
theorem dL_law_779 : decode cL_law 779 = .ok (.iload 4, 2) := by decide +kernel
theorem dL_law_781 : decode cL_law 781 = .ok (.iconst 2, 1) := by decide +kernel
theorem dL_law_782 : decode cL_law 782 = .ok (.iadd, 1) := by decide +kernel
theorem dL_law_783 : decode cL_law 783 = .ok (.iaload, 1) := by decide +kernel
theorem dL_law_784 : decode cL_law 784 = .ok (.aload_n 0, 1) := by decide +kernel
theorem dL_law_785 : decode cL_law 785 = .ok (.iload 4, 2) := by decide +kernel
theorem dL_law_787 : decode cL_law 787 = .ok (.iconst 3, 1) := by decide +kernel
theorem dL_law_788 : decode cL_law 788 = .ok (.iadd, 1) := by decide +kernel
theorem dL_law_789 : decode cL_law 789 = .ok (.iaload, 1) := by decide +kernel
theorem dL_law_790 : decode cL_law 790 = .ok (.invokevirtual 98, 3) := by decide +kernel
theorem dL_law_793 : decode cL_law 793 = .ok (.lcmp, 1) := by decide +kernel
theorem dL_law_794 : decode cL_law 794 = .ok (.ifCond .eq 425, 3) := by decide +kernel
theorem dL_law_797 : decode cL_law 797 = .ok (.iconst 0, 1) := by decide +kernel
theorem dL_law_798 : decode cL_law 798 = .ok (.ireturn, 1) := by decide +kernel
theorem dL_law_799 : decode cL_law 799 = .ok (.aload_n 1, 1) := by decide +kernel
theorem dL_law_800 : decode cL_law 800 = .ok (.aload_n 0, 1) := by decide +kernel
theorem dL_law_801 : decode cL_law 801 = .ok (.iload 4, 2) := by decide +kernel
theorem dL_law_803 : decode cL_law 803 = .ok (.iconst 1, 1) := by decide +kernel
theorem dL_law_804 : decode cL_law 804 = .ok (.iadd, 1) := by decide +kernel
theorem dL_law_805 : decode cL_law 805 = .ok (.iaload, 1) := by decide +kernel
theorem dL_law_806 : decode cL_law 806 = .ok (.aload_n 0, 1) := by decide +kernel
theorem dL_law_807 : decode cL_law 807 = .ok (.iload 4, 2) := by decide +kernel
theorem dL_law_809 : decode cL_law 809 = .ok (.iconst 2, 1) := by decide +kernel
theorem dL_law_810 : decode cL_law 810 = .ok (.iadd, 1) := by decide +kernel
theorem dL_law_811 : decode cL_law 811 = .ok (.iaload, 1) := by decide +kernel
theorem dL_law_812 : decode cL_law 812 = .ok (.aload_n 0, 1) := by decide +kernel
theorem dL_law_813 : decode cL_law 813 = .ok (.iload 4, 2) := by decide +kernel
theorem dL_law_815 : decode cL_law 815 = .ok (.iconst 3, 1) := by decide +kernel
theorem dL_law_816 : decode cL_law 816 = .ok (.iadd, 1) := by decide +kernel
theorem dL_law_817 : decode cL_law 817 = .ok (.iaload, 1) := by decide +kernel
theorem dL_law_818 : decode cL_law 818 = .ok (.invokevirtual 99, 3) := by decide +kernel
theorem dL_law_821 : decode cL_law 821 = .ok (.aload_n 2, 1) := by decide +kernel
theorem dL_law_822 : decode cL_law 822 = .ok (.aload_n 0, 1) := by decide +kernel
theorem dL_law_823 : decode cL_law 823 = .ok (.iload 4, 2) := by decide +kernel
theorem dL_law_825 : decode cL_law 825 = .ok (.iconst 1, 1) := by decide +kernel
theorem dL_law_826 : decode cL_law 826 = .ok (.iadd, 1) := by decide +kernel
theorem dL_law_827 : decode cL_law 827 = .ok (.iaload, 1) := by decide +kernel
theorem dL_law_828 : decode cL_law 828 = .ok (.aload_n 0, 1) := by decide +kernel
theorem dL_law_829 : decode cL_law 829 = .ok (.iload 4, 2) := by decide +kernel
theorem dL_law_831 : decode cL_law 831 = .ok (.iconst 2, 1) := by decide +kernel
theorem dL_law_832 : decode cL_law 832 = .ok (.iadd, 1) := by decide +kernel
theorem dL_law_833 : decode cL_law 833 = .ok (.iaload, 1) := by decide +kernel
theorem dL_law_834 : decode cL_law 834 = .ok (.aload_n 0, 1) := by decide +kernel
theorem dL_law_835 : decode cL_law 835 = .ok (.iload 4, 2) := by decide +kernel
theorem dL_law_837 : decode cL_law 837 = .ok (.iconst 3, 1) := by decide +kernel
theorem dL_law_838 : decode cL_law 838 = .ok (.iadd, 1) := by decide +kernel
theorem dL_law_839 : decode cL_law 839 = .ok (.iaload, 1) := by decide +kernel
theorem dL_law_840 : decode cL_law 840 = .ok (.invokevirtual 102, 3) := by decide +kernel
theorem dL_law_843 : decode cL_law 843 = .ok (.lcmp, 1) := by decide +kernel
theorem dL_law_844 : decode cL_law 844 = .ok (.ifCond .eq 375, 3) := by decide +kernel
theorem dL_law_847 : decode cL_law 847 = .ok (.iconst 0, 1) := by decide +kernel
theorem dL_law_848 : decode cL_law 848 = .ok (.ireturn, 1) := by decide +kernel
theorem dL_law_849 : decode cL_law 849 = .ok (.aload_n 1, 1) := by decide +kernel
theorem dL_law_850 : decode cL_law 850 = .ok (.aload_n 0, 1) := by decide +kernel
theorem dL_law_851 : decode cL_law 851 = .ok (.iload 4, 2) := by decide +kernel
theorem dL_law_853 : decode cL_law 853 = .ok (.iconst 1, 1) := by decide +kernel
theorem dL_law_854 : decode cL_law 854 = .ok (.iadd, 1) := by decide +kernel
theorem dL_law_855 : decode cL_law 855 = .ok (.iaload, 1) := by decide +kernel
theorem dL_law_856 : decode cL_law 856 = .ok (.invokevirtual 103, 3) := by decide +kernel
theorem dL_law_859 : decode cL_law 859 = .ok (.aload_n 2, 1) := by decide +kernel
theorem dL_law_860 : decode cL_law 860 = .ok (.aload_n 0, 1) := by decide +kernel
theorem dL_law_861 : decode cL_law 861 = .ok (.iload 4, 2) := by decide +kernel
theorem dL_law_863 : decode cL_law 863 = .ok (.iconst 1, 1) := by decide +kernel
theorem dL_law_864 : decode cL_law 864 = .ok (.iadd, 1) := by decide +kernel
theorem dL_law_865 : decode cL_law 865 = .ok (.iaload, 1) := by decide +kernel
theorem dL_law_866 : decode cL_law 866 = .ok (.invokevirtual 106, 3) := by decide +kernel
theorem dL_law_869 : decode cL_law 869 = .ok (.lcmp, 1) := by decide +kernel
theorem dL_law_870 : decode cL_law 870 = .ok (.ifCond .eq 349, 3) := by decide +kernel
theorem dL_law_873 : decode cL_law 873 = .ok (.iconst 0, 1) := by decide +kernel
theorem dL_law_874 : decode cL_law 874 = .ok (.ireturn, 1) := by decide +kernel
theorem dL_law_875 : decode cL_law 875 = .ok (.aload_n 1, 1) := by decide +kernel
theorem dL_law_876 : decode cL_law 876 = .ok (.aload_n 0, 1) := by decide +kernel
theorem dL_law_877 : decode cL_law 877 = .ok (.iload 4, 2) := by decide +kernel
theorem dL_law_879 : decode cL_law 879 = .ok (.iconst 1, 1) := by decide +kernel
theorem dL_law_880 : decode cL_law 880 = .ok (.iadd, 1) := by decide +kernel
theorem dL_law_881 : decode cL_law 881 = .ok (.iaload, 1) := by decide +kernel
theorem dL_law_882 : decode cL_law 882 = .ok (.aload_n 0, 1) := by decide +kernel
theorem dL_law_883 : decode cL_law 883 = .ok (.iload 4, 2) := by decide +kernel
theorem dL_law_885 : decode cL_law 885 = .ok (.iconst 2, 1) := by decide +kernel
theorem dL_law_886 : decode cL_law 886 = .ok (.iadd, 1) := by decide +kernel
theorem dL_law_887 : decode cL_law 887 = .ok (.iaload, 1) := by decide +kernel
theorem dL_law_888 : decode cL_law 888 = .ok (.invokevirtual 107, 3) := by decide +kernel
theorem dL_law_891 : decode cL_law 891 = .ok (.aload_n 2, 1) := by decide +kernel
theorem dL_law_892 : decode cL_law 892 = .ok (.aload_n 0, 1) := by decide +kernel
theorem dL_law_893 : decode cL_law 893 = .ok (.iload 4, 2) := by decide +kernel
theorem dL_law_895 : decode cL_law 895 = .ok (.iconst 1, 1) := by decide +kernel
theorem dL_law_896 : decode cL_law 896 = .ok (.iadd, 1) := by decide +kernel
theorem dL_law_897 : decode cL_law 897 = .ok (.iaload, 1) := by decide +kernel
theorem dL_law_898 : decode cL_law 898 = .ok (.aload_n 0, 1) := by decide +kernel
theorem dL_law_899 : decode cL_law 899 = .ok (.iload 4, 2) := by decide +kernel
theorem dL_law_901 : decode cL_law 901 = .ok (.iconst 2, 1) := by decide +kernel
theorem dL_law_902 : decode cL_law 902 = .ok (.iadd, 1) := by decide +kernel
theorem dL_law_903 : decode cL_law 903 = .ok (.iaload, 1) := by decide +kernel
theorem dL_law_904 : decode cL_law 904 = .ok (.invokevirtual 110, 3) := by decide +kernel
theorem dL_law_907 : decode cL_law 907 = .ok (.lcmp, 1) := by decide +kernel
theorem dL_law_908 : decode cL_law 908 = .ok (.ifCond .eq 311, 3) := by decide +kernel
theorem dL_law_911 : decode cL_law 911 = .ok (.iconst 0, 1) := by decide +kernel
theorem dL_law_912 : decode cL_law 912 = .ok (.ireturn, 1) := by decide +kernel
theorem dL_law_913 : decode cL_law 913 = .ok (.aload_n 1, 1) := by decide +kernel
theorem dL_law_914 : decode cL_law 914 = .ok (.aload_n 0, 1) := by decide +kernel
theorem dL_law_915 : decode cL_law 915 = .ok (.iload 4, 2) := by decide +kernel
theorem dL_law_917 : decode cL_law 917 = .ok (.iconst 1, 1) := by decide +kernel
theorem dL_law_918 : decode cL_law 918 = .ok (.iadd, 1) := by decide +kernel
theorem dL_law_919 : decode cL_law 919 = .ok (.iaload, 1) := by decide +kernel
theorem dL_law_920 : decode cL_law 920 = .ok (.invokevirtual 111, 3) := by decide +kernel
theorem dL_law_923 : decode cL_law 923 = .ok (.aload_n 2, 1) := by decide +kernel
theorem dL_law_924 : decode cL_law 924 = .ok (.aload_n 0, 1) := by decide +kernel
theorem dL_law_925 : decode cL_law 925 = .ok (.iload 4, 2) := by decide +kernel
theorem dL_law_927 : decode cL_law 927 = .ok (.iconst 1, 1) := by decide +kernel
theorem dL_law_928 : decode cL_law 928 = .ok (.iadd, 1) := by decide +kernel
theorem dL_law_929 : decode cL_law 929 = .ok (.iaload, 1) := by decide +kernel
theorem dL_law_930 : decode cL_law 930 = .ok (.invokevirtual 114, 3) := by decide +kernel
theorem dL_law_933 : decode cL_law 933 = .ok (.if_icmp .eq 286, 3) := by decide +kernel
theorem dL_law_936 : decode cL_law 936 = .ok (.iconst 0, 1) := by decide +kernel
theorem dL_law_937 : decode cL_law 937 = .ok (.ireturn, 1) := by decide +kernel
theorem dL_law_938 : decode cL_law 938 = .ok (.aload_n 1, 1) := by decide +kernel
theorem dL_law_939 : decode cL_law 939 = .ok (.invokevirtual 115, 3) := by decide +kernel
theorem dL_law_942 : decode cL_law 942 = .ok (.aload_n 2, 1) := by decide +kernel
theorem dL_law_943 : decode cL_law 943 = .ok (.invokevirtual 118, 3) := by decide +kernel
theorem dL_law_946 : decode cL_law 946 = .ok (.if_icmp .eq 273, 3) := by decide +kernel
theorem dL_law_949 : decode cL_law 949 = .ok (.iconst 0, 1) := by decide +kernel
theorem dL_law_950 : decode cL_law 950 = .ok (.ireturn, 1) := by decide +kernel
theorem dL_law_951 : decode cL_law 951 = .ok (.aload_n 1, 1) := by decide +kernel
theorem dL_law_952 : decode cL_law 952 = .ok (.aload_n 0, 1) := by decide +kernel
theorem dL_law_953 : decode cL_law 953 = .ok (.iload 4, 2) := by decide +kernel
theorem dL_law_955 : decode cL_law 955 = .ok (.iconst 1, 1) := by decide +kernel
theorem dL_law_956 : decode cL_law 956 = .ok (.iadd, 1) := by decide +kernel
theorem dL_law_957 : decode cL_law 957 = .ok (.iaload, 1) := by decide +kernel
theorem dL_law_958 : decode cL_law 958 = .ok (.invokevirtual 119, 3) := by decide +kernel
theorem dL_law_961 : decode cL_law 961 = .ok (.aload_n 2, 1) := by decide +kernel
theorem dL_law_962 : decode cL_law 962 = .ok (.aload_n 0, 1) := by decide +kernel
theorem dL_law_963 : decode cL_law 963 = .ok (.iload 4, 2) := by decide +kernel
theorem dL_law_965 : decode cL_law 965 = .ok (.iconst 1, 1) := by decide +kernel
theorem dL_law_966 : decode cL_law 966 = .ok (.iadd, 1) := by decide +kernel
theorem dL_law_967 : decode cL_law 967 = .ok (.iaload, 1) := by decide +kernel
theorem dL_law_968 : decode cL_law 968 = .ok (.invokevirtual 122, 3) := by decide +kernel
theorem dL_law_971 : decode cL_law 971 = .ok (.lcmp, 1) := by decide +kernel
theorem dL_law_972 : decode cL_law 972 = .ok (.ifCond .eq 247, 3) := by decide +kernel
theorem dL_law_975 : decode cL_law 975 = .ok (.iconst 0, 1) := by decide +kernel
theorem dL_law_976 : decode cL_law 976 = .ok (.ireturn, 1) := by decide +kernel
theorem dL_law_977 : decode cL_law 977 = .ok (.aload_n 1, 1) := by decide +kernel
theorem dL_law_978 : decode cL_law 978 = .ok (.aload_n 0, 1) := by decide +kernel
theorem dL_law_979 : decode cL_law 979 = .ok (.iload 4, 2) := by decide +kernel
theorem dL_law_981 : decode cL_law 981 = .ok (.iconst 1, 1) := by decide +kernel
theorem dL_law_982 : decode cL_law 982 = .ok (.iadd, 1) := by decide +kernel
theorem dL_law_983 : decode cL_law 983 = .ok (.iaload, 1) := by decide +kernel
theorem dL_law_984 : decode cL_law 984 = .ok (.invokevirtual 123, 3) := by decide +kernel
theorem dL_law_987 : decode cL_law 987 = .ok (.aload_n 2, 1) := by decide +kernel
theorem dL_law_988 : decode cL_law 988 = .ok (.aload_n 0, 1) := by decide +kernel
theorem dL_law_989 : decode cL_law 989 = .ok (.iload 4, 2) := by decide +kernel
theorem dL_law_991 : decode cL_law 991 = .ok (.iconst 1, 1) := by decide +kernel
theorem dL_law_992 : decode cL_law 992 = .ok (.iadd, 1) := by decide +kernel
theorem dL_law_993 : decode cL_law 993 = .ok (.iaload, 1) := by decide +kernel
theorem dL_law_994 : decode cL_law 994 = .ok (.invokevirtual 126, 3) := by decide +kernel
theorem dL_law_997 : decode cL_law 997 = .ok (.if_icmp .eq 222, 3) := by decide +kernel
theorem dL_law_1000 : decode cL_law 1000 = .ok (.iconst 0, 1) := by decide +kernel
theorem dL_law_1001 : decode cL_law 1001 = .ok (.ireturn, 1) := by decide +kernel
theorem dL_law_1002 : decode cL_law 1002 = .ok (.aload_n 1, 1) := by decide +kernel
theorem dL_law_1003 : decode cL_law 1003 = .ok (.aload_n 0, 1) := by decide +kernel
theorem dL_law_1004 : decode cL_law 1004 = .ok (.iload 4, 2) := by decide +kernel
theorem dL_law_1006 : decode cL_law 1006 = .ok (.iconst 1, 1) := by decide +kernel
theorem dL_law_1007 : decode cL_law 1007 = .ok (.iadd, 1) := by decide +kernel
theorem dL_law_1008 : decode cL_law 1008 = .ok (.iaload, 1) := by decide +kernel
theorem dL_law_1009 : decode cL_law 1009 = .ok (.invokevirtual 127, 3) := by decide +kernel
theorem dL_law_1012 : decode cL_law 1012 = .ok (.aload_n 2, 1) := by decide +kernel
theorem dL_law_1013 : decode cL_law 1013 = .ok (.aload_n 0, 1) := by decide +kernel
theorem dL_law_1014 : decode cL_law 1014 = .ok (.iload 4, 2) := by decide +kernel
theorem dL_law_1016 : decode cL_law 1016 = .ok (.iconst 1, 1) := by decide +kernel
theorem dL_law_1017 : decode cL_law 1017 = .ok (.iadd, 1) := by decide +kernel
theorem dL_law_1018 : decode cL_law 1018 = .ok (.iaload, 1) := by decide +kernel
theorem dL_law_1019 : decode cL_law 1019 = .ok (.invokevirtual 130, 3) := by decide +kernel
theorem dL_law_1022 : decode cL_law 1022 = .ok (.lcmp, 1) := by decide +kernel
theorem dL_law_1023 : decode cL_law 1023 = .ok (.ifCond .eq 196, 3) := by decide +kernel
theorem dL_law_1026 : decode cL_law 1026 = .ok (.iconst 0, 1) := by decide +kernel
theorem dL_law_1027 : decode cL_law 1027 = .ok (.ireturn, 1) := by decide +kernel
theorem dL_law_1028 : decode cL_law 1028 = .ok (.aload_n 1, 1) := by decide +kernel
theorem dL_law_1029 : decode cL_law 1029 = .ok (.aload_n 0, 1) := by decide +kernel
theorem dL_law_1030 : decode cL_law 1030 = .ok (.iload 4, 2) := by decide +kernel
theorem dL_law_1032 : decode cL_law 1032 = .ok (.iconst 1, 1) := by decide +kernel
theorem dL_law_1033 : decode cL_law 1033 = .ok (.iadd, 1) := by decide +kernel
theorem dL_law_1034 : decode cL_law 1034 = .ok (.iaload, 1) := by decide +kernel
theorem dL_law_1035 : decode cL_law 1035 = .ok (.aload_n 0, 1) := by decide +kernel
theorem dL_law_1036 : decode cL_law 1036 = .ok (.iload 4, 2) := by decide +kernel
theorem dL_law_1038 : decode cL_law 1038 = .ok (.iconst 2, 1) := by decide +kernel
theorem dL_law_1039 : decode cL_law 1039 = .ok (.iadd, 1) := by decide +kernel
theorem dL_law_1040 : decode cL_law 1040 = .ok (.iaload, 1) := by decide +kernel
theorem dL_law_1041 : decode cL_law 1041 = .ok (.invokevirtual 131, 3) := by decide +kernel
theorem dL_law_1044 : decode cL_law 1044 = .ok (.aload_n 2, 1) := by decide +kernel
theorem dL_law_1045 : decode cL_law 1045 = .ok (.aload_n 0, 1) := by decide +kernel
theorem dL_law_1046 : decode cL_law 1046 = .ok (.iload 4, 2) := by decide +kernel
theorem dL_law_1048 : decode cL_law 1048 = .ok (.iconst 1, 1) := by decide +kernel
theorem dL_law_1049 : decode cL_law 1049 = .ok (.iadd, 1) := by decide +kernel
theorem dL_law_1050 : decode cL_law 1050 = .ok (.iaload, 1) := by decide +kernel
theorem dL_law_1051 : decode cL_law 1051 = .ok (.aload_n 0, 1) := by decide +kernel
theorem dL_law_1052 : decode cL_law 1052 = .ok (.iload 4, 2) := by decide +kernel
theorem dL_law_1054 : decode cL_law 1054 = .ok (.iconst 2, 1) := by decide +kernel
theorem dL_law_1055 : decode cL_law 1055 = .ok (.iadd, 1) := by decide +kernel
theorem dL_law_1056 : decode cL_law 1056 = .ok (.iaload, 1) := by decide +kernel
theorem dL_law_1057 : decode cL_law 1057 = .ok (.invokevirtual 134, 3) := by decide +kernel
theorem dL_law_1060 : decode cL_law 1060 = .ok (.lcmp, 1) := by decide +kernel
theorem dL_law_1061 : decode cL_law 1061 = .ok (.ifCond .eq 158, 3) := by decide +kernel
theorem dL_law_1064 : decode cL_law 1064 = .ok (.iconst 0, 1) := by decide +kernel
theorem dL_law_1065 : decode cL_law 1065 = .ok (.ireturn, 1) := by decide +kernel
theorem dL_law_1066 : decode cL_law 1066 = .ok (.aload_n 1, 1) := by decide +kernel
theorem dL_law_1067 : decode cL_law 1067 = .ok (.aload_n 0, 1) := by decide +kernel
theorem dL_law_1068 : decode cL_law 1068 = .ok (.iload 4, 2) := by decide +kernel
theorem dL_law_1070 : decode cL_law 1070 = .ok (.iconst 1, 1) := by decide +kernel
theorem dL_law_1071 : decode cL_law 1071 = .ok (.iadd, 1) := by decide +kernel
theorem dL_law_1072 : decode cL_law 1072 = .ok (.iaload, 1) := by decide +kernel
theorem dL_law_1073 : decode cL_law 1073 = .ok (.invokevirtual 135, 3) := by decide +kernel
theorem dL_law_1076 : decode cL_law 1076 = .ok (.aload_n 2, 1) := by decide +kernel
theorem dL_law_1077 : decode cL_law 1077 = .ok (.aload_n 0, 1) := by decide +kernel
theorem dL_law_1078 : decode cL_law 1078 = .ok (.iload 4, 2) := by decide +kernel
theorem dL_law_1080 : decode cL_law 1080 = .ok (.iconst 1, 1) := by decide +kernel
theorem dL_law_1081 : decode cL_law 1081 = .ok (.iadd, 1) := by decide +kernel
theorem dL_law_1082 : decode cL_law 1082 = .ok (.iaload, 1) := by decide +kernel
theorem dL_law_1083 : decode cL_law 1083 = .ok (.invokevirtual 138, 3) := by decide +kernel
theorem dL_law_1086 : decode cL_law 1086 = .ok (.lcmp, 1) := by decide +kernel
theorem dL_law_1087 : decode cL_law 1087 = .ok (.ifCond .eq 132, 3) := by decide +kernel
theorem dL_law_1090 : decode cL_law 1090 = .ok (.iconst 0, 1) := by decide +kernel
theorem dL_law_1091 : decode cL_law 1091 = .ok (.ireturn, 1) := by decide +kernel
theorem dL_law_1092 : decode cL_law 1092 = .ok (.aload_n 1, 1) := by decide +kernel
theorem dL_law_1093 : decode cL_law 1093 = .ok (.aload_n 0, 1) := by decide +kernel
theorem dL_law_1094 : decode cL_law 1094 = .ok (.iload 4, 2) := by decide +kernel
theorem dL_law_1096 : decode cL_law 1096 = .ok (.iconst 1, 1) := by decide +kernel
theorem dL_law_1097 : decode cL_law 1097 = .ok (.iadd, 1) := by decide +kernel
theorem dL_law_1098 : decode cL_law 1098 = .ok (.iaload, 1) := by decide +kernel
theorem dL_law_1099 : decode cL_law 1099 = .ok (.aload_n 0, 1) := by decide +kernel
theorem dL_law_1100 : decode cL_law 1100 = .ok (.iload 4, 2) := by decide +kernel
theorem dL_law_1102 : decode cL_law 1102 = .ok (.iconst 2, 1) := by decide +kernel
theorem dL_law_1103 : decode cL_law 1103 = .ok (.iadd, 1) := by decide +kernel
theorem dL_law_1104 : decode cL_law 1104 = .ok (.iaload, 1) := by decide +kernel
theorem dL_law_1105 : decode cL_law 1105 = .ok (.invokevirtual 139, 3) := by decide +kernel
theorem dL_law_1108 : decode cL_law 1108 = .ok (.aload_n 2, 1) := by decide +kernel
theorem dL_law_1109 : decode cL_law 1109 = .ok (.aload_n 0, 1) := by decide +kernel
theorem dL_law_1110 : decode cL_law 1110 = .ok (.iload 4, 2) := by decide +kernel
theorem dL_law_1112 : decode cL_law 1112 = .ok (.iconst 1, 1) := by decide +kernel
theorem dL_law_1113 : decode cL_law 1113 = .ok (.iadd, 1) := by decide +kernel
theorem dL_law_1114 : decode cL_law 1114 = .ok (.iaload, 1) := by decide +kernel
theorem dL_law_1115 : decode cL_law 1115 = .ok (.aload_n 0, 1) := by decide +kernel
theorem dL_law_1116 : decode cL_law 1116 = .ok (.iload 4, 2) := by decide +kernel
theorem dL_law_1118 : decode cL_law 1118 = .ok (.iconst 2, 1) := by decide +kernel
theorem dL_law_1119 : decode cL_law 1119 = .ok (.iadd, 1) := by decide +kernel
theorem dL_law_1120 : decode cL_law 1120 = .ok (.iaload, 1) := by decide +kernel
theorem dL_law_1121 : decode cL_law 1121 = .ok (.invokevirtual 142, 3) := by decide +kernel
theorem dL_law_1124 : decode cL_law 1124 = .ok (.lcmp, 1) := by decide +kernel
theorem dL_law_1125 : decode cL_law 1125 = .ok (.ifCond .eq 94, 3) := by decide +kernel
theorem dL_law_1128 : decode cL_law 1128 = .ok (.iconst 0, 1) := by decide +kernel
theorem dL_law_1129 : decode cL_law 1129 = .ok (.ireturn, 1) := by decide +kernel
theorem dL_law_1130 : decode cL_law 1130 = .ok (.aload_n 1, 1) := by decide +kernel
theorem dL_law_1131 : decode cL_law 1131 = .ok (.aload_n 0, 1) := by decide +kernel
theorem dL_law_1132 : decode cL_law 1132 = .ok (.iload 4, 2) := by decide +kernel
theorem dL_law_1134 : decode cL_law 1134 = .ok (.iconst 1, 1) := by decide +kernel
theorem dL_law_1135 : decode cL_law 1135 = .ok (.iadd, 1) := by decide +kernel
theorem dL_law_1136 : decode cL_law 1136 = .ok (.iaload, 1) := by decide +kernel
theorem dL_law_1137 : decode cL_law 1137 = .ok (.invokevirtual 143, 3) := by decide +kernel
theorem dL_law_1140 : decode cL_law 1140 = .ok (.aload_n 2, 1) := by decide +kernel
theorem dL_law_1141 : decode cL_law 1141 = .ok (.aload_n 0, 1) := by decide +kernel
theorem dL_law_1142 : decode cL_law 1142 = .ok (.iload 4, 2) := by decide +kernel
theorem dL_law_1144 : decode cL_law 1144 = .ok (.iconst 1, 1) := by decide +kernel
theorem dL_law_1145 : decode cL_law 1145 = .ok (.iadd, 1) := by decide +kernel
theorem dL_law_1146 : decode cL_law 1146 = .ok (.iaload, 1) := by decide +kernel
theorem dL_law_1147 : decode cL_law 1147 = .ok (.invokevirtual 146, 3) := by decide +kernel
theorem dL_law_1150 : decode cL_law 1150 = .ok (.if_icmp .eq 69, 3) := by decide +kernel
theorem dL_law_1153 : decode cL_law 1153 = .ok (.iconst 0, 1) := by decide +kernel
theorem dL_law_1154 : decode cL_law 1154 = .ok (.ireturn, 1) := by decide +kernel
theorem dL_law_1155 : decode cL_law 1155 = .ok (.aload_n 1, 1) := by decide +kernel
theorem dL_law_1156 : decode cL_law 1156 = .ok (.invokevirtual 147, 3) := by decide +kernel
theorem dL_law_1159 : decode cL_law 1159 = .ok (.aload_n 2, 1) := by decide +kernel
theorem dL_law_1160 : decode cL_law 1160 = .ok (.invokevirtual 150, 3) := by decide +kernel
theorem dL_law_1163 : decode cL_law 1163 = .ok (.if_icmp .eq 56, 3) := by decide +kernel
theorem dL_law_1166 : decode cL_law 1166 = .ok (.iconst 0, 1) := by decide +kernel
theorem dL_law_1167 : decode cL_law 1167 = .ok (.ireturn, 1) := by decide +kernel
theorem dL_law_1168 : decode cL_law 1168 = .ok (.aload_n 1, 1) := by decide +kernel
theorem dL_law_1169 : decode cL_law 1169 = .ok (.invokevirtual 151, 3) := by decide +kernel
theorem dL_law_1172 : decode cL_law 1172 = .ok (.aload_n 2, 1) := by decide +kernel
theorem dL_law_1173 : decode cL_law 1173 = .ok (.invokevirtual 154, 3) := by decide +kernel
theorem dL_law_1176 : decode cL_law 1176 = .ok (.if_icmp .eq 43, 3) := by decide +kernel
theorem dL_law_1179 : decode cL_law 1179 = .ok (.iconst 0, 1) := by decide +kernel
theorem dL_law_1180 : decode cL_law 1180 = .ok (.ireturn, 1) := by decide +kernel
theorem dL_law_1181 : decode cL_law 1181 = .ok (.aload_n 1, 1) := by decide +kernel
theorem dL_law_1182 : decode cL_law 1182 = .ok (.invokevirtual 155, 3) := by decide +kernel
theorem dL_law_1185 : decode cL_law 1185 = .ok (.aload_n 2, 1) := by decide +kernel
theorem dL_law_1186 : decode cL_law 1186 = .ok (.invokevirtual 158, 3) := by decide +kernel
theorem dL_law_1189 : decode cL_law 1189 = .ok (.if_icmp .eq 30, 3) := by decide +kernel
theorem dL_law_1192 : decode cL_law 1192 = .ok (.iconst 0, 1) := by decide +kernel
theorem dL_law_1193 : decode cL_law 1193 = .ok (.ireturn, 1) := by decide +kernel
theorem dL_law_1194 : decode cL_law 1194 = .ok (.aload_n 1, 1) := by decide +kernel
theorem dL_law_1195 : decode cL_law 1195 = .ok (.aload_n 0, 1) := by decide +kernel
theorem dL_law_1196 : decode cL_law 1196 = .ok (.iload 4, 2) := by decide +kernel
theorem dL_law_1198 : decode cL_law 1198 = .ok (.iconst 1, 1) := by decide +kernel
theorem dL_law_1199 : decode cL_law 1199 = .ok (.iadd, 1) := by decide +kernel
theorem dL_law_1200 : decode cL_law 1200 = .ok (.iaload, 1) := by decide +kernel
theorem dL_law_1201 : decode cL_law 1201 = .ok (.invokevirtual 159, 3) := by decide +kernel
theorem dL_law_1204 : decode cL_law 1204 = .ok (.aload_n 2, 1) := by decide +kernel
theorem dL_law_1205 : decode cL_law 1205 = .ok (.aload_n 0, 1) := by decide +kernel
theorem dL_law_1206 : decode cL_law 1206 = .ok (.iload 4, 2) := by decide +kernel
theorem dL_law_1208 : decode cL_law 1208 = .ok (.iconst 1, 1) := by decide +kernel
theorem dL_law_1209 : decode cL_law 1209 = .ok (.iadd, 1) := by decide +kernel
theorem dL_law_1210 : decode cL_law 1210 = .ok (.iaload, 1) := by decide +kernel
theorem dL_law_1211 : decode cL_law 1211 = .ok (.invokevirtual 162, 3) := by decide +kernel
theorem dL_law_1214 : decode cL_law 1214 = .ok (.if_icmp .eq 5, 3) := by decide +kernel
theorem dL_law_1217 : decode cL_law 1217 = .ok (.iconst 0, 1) := by decide +kernel
theorem dL_law_1218 : decode cL_law 1218 = .ok (.ireturn, 1) := by decide +kernel
theorem dL_law_1219 : decode cL_law 1219 = .ok (.iinc 4 6, 3) := by decide +kernel
theorem dL_law_1222 : decode cL_law 1222 = .ok (.goto (-1199), 3) := by decide +kernel
theorem dL_law_1225 : decode cL_law 1225 = .ok (.iconst 1, 1) := by decide +kernel
theorem dL_law_1226 : decode cL_law 1226 = .ok (.ireturn, 1) := by decide +kernel
