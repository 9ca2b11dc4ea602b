theorem dX6_writeOrder_12 : decode cX6_writeOrder 12 = .ok (.getfield 17, 3) := by decide +kernel
theorem dX6_writeOrder_15 : decode cX6_writeOrder 15 = .ok (.iload_n 1, 1) := by decide +kernel
theorem dX6_writeOrder_16 : decode cX6_writeOrder 16 = .ok (.laload, 1) := by decide +kernel
theorem dX6_writeOrder_17 : decode cX6_writeOrder 17 = .ok (.putfield 57, 3) := by decide +kernel
theorem dX6_writeOrder_20 : decode cX6_writeOrder 20 = .ok (.iconst 0, 1) := by decide +kernel
theorem dX6_writeOrder_21 : decode cX6_writeOrder 21 = .ok (.istore_n 2, 1) := by decide +kernel
theorem dX6_writeOrder_22 : decode cX6_writeOrder 22 = .ok (.iload_n 2, 1) := by decide +kernel
theorem dX6_writeOrder_23 : decode cX6_writeOrder 23 = .ok (.aload_n 0, 1) := by decide +kernel
theorem dX6_writeOrder_24 : decode cX6_writeOrder 24 = .ok (.getfield 25, 3) := by decide +kernel
theorem dX6_writeOrder_27 : decode cX6_writeOrder 27 = .ok (.getfield 29, 3) := by decide +kernel
theorem dX6_writeOrder_30 : decode cX6_writeOrder 30 = .ok (.iconst 1, 1) := by decide +kernel
theorem dX6_writeOrder_31 : decode cX6_writeOrder 31 = .ok (.isub, 1) := by decide +kernel
theorem dX6_writeOrder_32 : decode cX6_writeOrder 32 = .ok (.if_icmp .ge 33, 3) := by decide +kernel
theorem dX6_writeOrder_35 : decode cX6_writeOrder 35 = .ok (.aload_n 0, 1) := by decide +kernel
theorem dX6_writeOrder_36 : decode cX6_writeOrder 36 = .ok (.iload_n 1, 1) := by decide +kernel
theorem dX6_writeOrder_37 : decode cX6_writeOrder 37 = .ok (.invokevirtual 61, 3) := by decide +kernel
theorem dX6_writeOrder_40 : decode cX6_writeOrder 40 = .ok (.istore_n 3, 1) := by decide +kernel
theorem dX6_writeOrder_41 : decode cX6_writeOrder 41 = .ok (.aload_n 0, 1) := by decide +kernel
theorem dX6_writeOrder_42 : decode cX6_writeOrder 42 = .ok (.getfield 11, 3) := by decide +kernel
theorem dX6_writeOrder_45 : decode cX6_writeOrder 45 = .ok (.iload_n 2, 1) := by decide +kernel
theorem dX6_writeOrder_46 : decode cX6_writeOrder 46 = .ok (.iload_n 3, 1) := by decide +kernel
theorem dX6_writeOrder_47 : decode cX6_writeOrder 47 = .ok (.iastore, 1) := by decide +kernel
theorem dX6_writeOrder_48 : decode cX6_writeOrder 48 = .ok (.iload_n 3, 1) := by decide +kernel
theorem dX6_writeOrder_49 : decode cX6_writeOrder 49 = .ok (.iconst (-1), 1) := by decide +kernel
theorem dX6_writeOrder_50 : decode cX6_writeOrder 50 = .ok (.if_icmp .eq 9, 3) := by decide +kernel
theorem dX6_writeOrder_53 : decode cX6_writeOrder 53 = .ok (.iload_n 1, 1) := by decide +kernel
theorem dX6_writeOrder_54 : decode cX6_writeOrder 54 = .ok (.iconst 1, 1) := by decide +kernel
theorem dX6_writeOrder_55 : decode cX6_writeOrder 55 = .ok (.iload_n 3, 1) := by decide +kernel
theorem dX6_writeOrder_56 : decode cX6_writeOrder 56 = .ok (.ishl, 1) := by decide +kernel
theorem dX6_writeOrder_57 : decode cX6_writeOrder 57 = .ok (.ior, 1) := by decide +kernel
theorem dX6_writeOrder_58 : decode cX6_writeOrder 58 = .ok (.istore_n 1, 1) := by decide +kernel
theorem dX6_writeOrder_59 : decode cX6_writeOrder 59 = .ok (.iinc 2 1, 3) := by decide +kernel
theorem dX6_writeOrder_62 : decode cX6_writeOrder 62 = .ok (.goto (-40), 3) := by decide +kernel
theorem dX6_writeOrder_65 : decode cX6_writeOrder 65 = .ok (.return_, 1) := by decide +kernel
theorem dX6_nextAfter_0 : decode cX6_nextAfter 0 = .ok (.iconst 0, 1) := by decide +kernel
theorem dX6_nextAfter_1 : decode cX6_nextAfter 1 = .ok (.istore_n 2, 1) := by decide +kernel
theorem dX6_nextAfter_2 : decode cX6_nextAfter 2 = .ok (.iload_n 2, 1) := by decide +kernel
theorem dX6_nextAfter_3 : decode cX6_nextAfter 3 = .ok (.aload_n 0, 1) := by decide +kernel
theorem dX6_nextAfter_4 : decode cX6_nextAfter 4 = .ok (.getfield 25, 3) := by decide +kernel
theorem dX6_nextAfter_7 : decode cX6_nextAfter 7 = .ok (.getfield 29, 3) := by decide +kernel
theorem dX6_nextAfter_10 : decode cX6_nextAfter 10 = .ok (.if_icmp .ge 46, 3) := by decide +kernel
theorem dX6_nextAfter_13 : decode cX6_nextAfter 13 = .ok (.aload_n 0, 1) := by decide +kernel
theorem dX6_nextAfter_14 : decode cX6_nextAfter 14 = .ok (.iload_n 2, 1) := by decide +kernel
theorem dX6_nextAfter_15 : decode cX6_nextAfter 15 = .ok (.iload_n 1, 1) := by decide +kernel
theorem dX6_nextAfter_16 : decode cX6_nextAfter 16 = .ok (.invokevirtual 37, 3) := by decide +kernel
theorem dX6_nextAfter_19 : decode cX6_nextAfter 19 = .ok (.ifCond .eq 31, 3) := by decide +kernel
theorem dX6_nextAfter_22 : decode cX6_nextAfter 22 = .ok (.aload_n 0, 1) := by decide +kernel
theorem dX6_nextAfter_23 : decode cX6_nextAfter 23 = .ok (.getfield 17, 3) := by decide +kernel
theorem dX6_nextAfter_26 : decode cX6_nextAfter 26 = .ok (.iload_n 1, 1) := by decide +kernel
theorem dX6_nextAfter_27 : decode cX6_nextAfter 27 = .ok (.laload, 1) := by decide +kernel
theorem dX6_nextAfter_28 : decode cX6_nextAfter 28 = .ok (.aload_n 0, 1) := by decide +kernel
theorem dX6_nextAfter_29 : decode cX6_nextAfter 29 = .ok (.iload_n 1, 1) := by decide +kernel
theorem dX6_nextAfter_30 : decode cX6_nextAfter 30 = .ok (.invokevirtual 41, 3) := by decide +kernel
theorem dX6_nextAfter_33 : decode cX6_nextAfter 33 = .ok (.aload_n 0, 1) := by decide +kernel
theorem dX6_nextAfter_34 : decode cX6_nextAfter 34 = .ok (.getfield 17, 3) := by decide +kernel
theorem dX6_nextAfter_37 : decode cX6_nextAfter 37 = .ok (.iload_n 1, 1) := by decide +kernel
theorem dX6_nextAfter_38 : decode cX6_nextAfter 38 = .ok (.iconst 1, 1) := by decide +kernel
theorem dX6_nextAfter_39 : decode cX6_nextAfter 39 = .ok (.iload_n 2, 1) := by decide +kernel
theorem dX6_nextAfter_40 : decode cX6_nextAfter 40 = .ok (.ishl, 1) := by decide +kernel
theorem dX6_nextAfter_41 : decode cX6_nextAfter 41 = .ok (.ior, 1) := by decide +kernel
theorem dX6_nextAfter_42 : decode cX6_nextAfter 42 = .ok (.laload, 1) := by decide +kernel
theorem dX6_nextAfter_43 : decode cX6_nextAfter 43 = .ok (.ladd, 1) := by decide +kernel
theorem dX6_nextAfter_44 : decode cX6_nextAfter 44 = .ok (.lcmp, 1) := by decide +kernel
theorem dX6_nextAfter_45 : decode cX6_nextAfter 45 = .ok (.ifCond .ne 5, 3) := by decide +kernel
theorem dX6_nextAfter_48 : decode cX6_nextAfter 48 = .ok (.iload_n 2, 1) := by decide +kernel
theorem dX6_nextAfter_49 : decode cX6_nextAfter 49 = .ok (.ireturn, 1) := by decide +kernel
theorem dX6_nextAfter_50 : decode cX6_nextAfter 50 = .ok (.iinc 2 1, 3) := by decide +kernel
theorem dX6_nextAfter_53 : decode cX6_nextAfter 53 = .ok (.goto (-51), 3) := by decide +kernel
theorem dX6_nextAfter_56 : decode cX6_nextAfter 56 = .ok (.iconst (-1), 1) := by decide +kernel
theorem dX6_nextAfter_57 : decode cX6_nextAfter 57 = .ok (.ireturn, 1) := by decide +kernel
theorem dX6_canBuild_0 : decode cX6_canBuild 0 = .ok (.aload_n 0, 1) := by decide +kernel
theorem dX6_canBuild_1 : decode cX6_canBuild 1 = .ok (.getfield 21, 3) := by decide +kernel
theorem dX6_canBuild_4 : decode cX6_canBuild 4 = .ok (.getfield 65, 3) := by decide +kernel
theorem dX6_canBuild_7 : decode cX6_canBuild 7 = .ok (.iload_n 1, 1) := by decide +kernel
theorem dX6_canBuild_8 : decode cX6_canBuild 8 = .ok (.iaload, 1) := by decide +kernel
theorem dX6_canBuild_9 : decode cX6_canBuild 9 = .ok (.istore_n 3, 1) := by decide +kernel
theorem dX6_canBuild_10 : decode cX6_canBuild 10 = .ok (.iload_n 3, 1) := by decide +kernel
theorem dX6_canBuild_11 : decode cX6_canBuild 11 = .ok (.iconst (-1), 1) := by decide +kernel
theorem dX6_canBuild_12 : decode cX6_canBuild 12 = .ok (.if_icmp .eq 31, 3) := by decide +kernel
theorem dX6_canBuild_15 : decode cX6_canBuild 15 = .ok (.iload_n 2, 1) := by decide +kernel
theorem dX6_canBuild_16 : decode cX6_canBuild 16 = .ok (.iload_n 1, 1) := by decide +kernel
theorem dX6_canBuild_17 : decode cX6_canBuild 17 = .ok (.ishr, 1) := by decide +kernel
theorem dX6_canBuild_18 : decode cX6_canBuild 18 = .ok (.iconst 1, 1) := by decide +kernel
theorem dX6_canBuild_19 : decode cX6_canBuild 19 = .ok (.iand, 1) := by decide +kernel
theorem dX6_canBuild_20 : decode cX6_canBuild 20 = .ok (.ifCond .ne 23, 3) := by decide +kernel
theorem dX6_canBuild_23 : decode cX6_canBuild 23 = .ok (.iload_n 2, 1) := by decide +kernel
theorem dX6_canBuild_24 : decode cX6_canBuild 24 = .ok (.aload_n 0, 1) := by decide +kernel
theorem dX6_canBuild_25 : decode cX6_canBuild 25 = .ok (.getfield 25, 3) := by decide +kernel
theorem dX6_canBuild_28 : decode cX6_canBuild 28 = .ok (.iload_n 3, 1) := by decide +kernel
theorem dX6_canBuild_29 : decode cX6_canBuild 29 = .ok (.iload_n 1, 1) := by decide +kernel
theorem dX6_canBuild_30 : decode cX6_canBuild 30 = .ok (.invokevirtual 70, 3) := by decide +kernel
theorem dX6_canBuild_33 : decode cX6_canBuild 33 = .ok (.ishr, 1) := by decide +kernel
theorem dX6_canBuild_34 : decode cX6_canBuild 34 = .ok (.iconst 1, 1) := by decide +kernel
theorem dX6_canBuild_35 : decode cX6_canBuild 35 = .ok (.iand, 1) := by decide +kernel
theorem dX6_canBuild_36 : decode cX6_canBuild 36 = .ok (.ifCond .eq 7, 3) := by decide +kernel
theorem dX6_canBuild_39 : decode cX6_canBuild 39 = .ok (.iconst 1, 1) := by decide +kernel
theorem dX6_canBuild_40 : decode cX6_canBuild 40 = .ok (.goto 4, 3) := by decide +kernel
theorem dX6_canBuild_43 : decode cX6_canBuild 43 = .ok (.iconst 0, 1) := by decide +kernel
theorem dX6_canBuild_44 : decode cX6_canBuild 44 = .ok (.ireturn, 1) := by decide +kernel
theorem dX6_carting_0 : decode cX6_carting 0 = .ok (.iconst 0, 1) := by decide +kernel
theorem dX6_carting_1 : decode cX6_carting 1 = .ok (.istore_n 2, 1) := by decide +kernel
theorem dX6_carting_2 : decode cX6_carting 2 = .ok (.iconst 0, 1) := by decide +kernel
theorem dX6_carting_3 : decode cX6_carting 3 = .ok (.istore_n 3, 1) := by decide +kernel
theorem dX6_carting_4 : decode cX6_carting 4 = .ok (.iload_n 3, 1) := by decide +kernel
theorem dX6_carting_5 : decode cX6_carting 5 = .ok (.aload_n 0, 1) := by decide +kernel
theorem dX6_carting_6 : decode cX6_carting 6 = .ok (.getfield 25, 3) := by decide +kernel
theorem dX6_carting_9 : decode cX6_carting 9 = .ok (.getfield 29, 3) := by decide +kernel
theorem dX6_carting_12 : decode cX6_carting 12 = .ok (.if_icmp .ge 35, 3) := by decide +kernel
theorem dX6_carting_15 : decode cX6_carting 15 = .ok (.iload_n 2, 1) := by decide +kernel
theorem dX6_carting_16 : decode cX6_carting 16 = .ok (.iload_n 1, 1) := by decide +kernel
theorem dX6_carting_17 : decode cX6_carting 17 = .ok (.iload_n 3, 1) := by decide +kernel
theorem dX6_carting_18 : decode cX6_carting 18 = .ok (.ishr, 1) := by decide +kernel
theorem dX6_carting_19 : decode cX6_carting 19 = .ok (.iconst 1, 1) := by decide +kernel
theorem dX6_carting_20 : decode cX6_carting 20 = .ok (.iand, 1) := by decide +kernel
theorem dX6_carting_21 : decode cX6_carting 21 = .ok (.ifCond .ne 17, 3) := by decide +kernel
theorem dX6_carting_24 : decode cX6_carting 24 = .ok (.aload_n 0, 1) := by decide +kernel
theorem dX6_carting_25 : decode cX6_carting 25 = .ok (.getfield 25, 3) := by decide +kernel
theorem dX6_carting_28 : decode cX6_carting 28 = .ok (.getfield 74, 3) := by decide +kernel
theorem dX6_carting_31 : decode cX6_carting 31 = .ok (.iload_n 3, 1) := by decide +kernel
theorem dX6_carting_32 : decode cX6_carting 32 = .ok (.aaload, 1) := by decide +kernel
theorem dX6_carting_33 : decode cX6_carting 33 = .ok (.iconst 1, 1) := by decide +kernel
theorem dX6_carting_34 : decode cX6_carting 34 = .ok (.iaload, 1) := by decide +kernel
theorem dX6_carting_35 : decode cX6_carting 35 = .ok (.goto 4, 3) := by decide +kernel
theorem dX6_carting_38 : decode cX6_carting 38 = .ok (.iconst 0, 1) := by decide +kernel
theorem dX6_carting_39 : decode cX6_carting 39 = .ok (.iadd, 1) := by decide +kernel
theorem dX6_carting_40 : decode cX6_carting 40 = .ok (.istore_n 2, 1) := by decide +kernel
theorem dX6_carting_41 : decode cX6_carting 41 = .ok (.iinc 3 1, 3) := by decide +kernel
theorem dX6_carting_44 : decode cX6_carting 44 = .ok (.goto (-40), 3) := by decide +kernel
theorem dX6_carting_47 : decode cX6_carting 47 = .ok (.aload_n 0, 1) := by decide +kernel
theorem dX6_carting_48 : decode cX6_carting 48 = .ok (.getfield 25, 3) := by decide +kernel
theorem dX6_carting_51 : decode cX6_carting 51 = .ok (.getfield 78, 3) := by decide +kernel
theorem dX6_carting_54 : decode cX6_carting 54 = .ok (.i2l, 1) := by decide +kernel
theorem dX6_carting_55 : decode cX6_carting 55 = .ok (.iload_n 2, 1) := by decide +kernel
theorem dX6_carting_56 : decode cX6_carting 56 = .ok (.i2l, 1) := by decide +kernel
theorem dX6_carting_57 : decode cX6_carting 57 = .ok (.lmul, 1) := by decide +kernel
theorem dX6_carting_58 : decode cX6_carting 58 = .ok (.lreturn, 1) := by decide +kernel
theorem dX6_sumOf_0 : decode cX6_sumOf 0 = .ok (.aload_n 0, 1) := by decide +kernel
theorem dX6_sumOf_1 : decode cX6_sumOf 1 = .ok (.aload_n 1, 1) := by decide +kernel
theorem dX6_sumOf_2 : decode cX6_sumOf 2 = .ok (.putfield 25, 3) := by decide +kernel
theorem dX6_sumOf_5 : decode cX6_sumOf 5 = .ok (.iconst 1, 1) := by decide +kernel
theorem dX6_sumOf_6 : decode cX6_sumOf 6 = .ok (.aload_n 0, 1) := by decide +kernel
theorem dX6_sumOf_7 : decode cX6_sumOf 7 = .ok (.getfield 25, 3) := by decide +kernel
theorem dX6_sumOf_10 : decode cX6_sumOf 10 = .ok (.getfield 54, 3) := by decide +kernel
theorem dX6_sumOf_13 : decode cX6_sumOf 13 = .ok (.ishl, 1) := by decide +kernel
theorem dX6_sumOf_14 : decode cX6_sumOf 14 = .ok (.istore 4, 2) := by decide +kernel
theorem dX6_sumOf_16 : decode cX6_sumOf 16 = .ok (.lconst 0, 1) := by decide +kernel
theorem dX6_sumOf_17 : decode cX6_sumOf 17 = .ok (.lstore 5, 2) := by decide +kernel
theorem dX6_sumOf_19 : decode cX6_sumOf 19 = .ok (.iconst 0, 1) := by decide +kernel
theorem dX6_sumOf_20 : decode cX6_sumOf 20 = .ok (.istore 7, 2) := by decide +kernel
theorem dX6_sumOf_22 : decode cX6_sumOf 22 = .ok (.iload 7, 2) := by decide +kernel
theorem dX6_sumOf_24 : decode cX6_sumOf 24 = .ok (.iload_n 2, 1) := by decide +kernel
theorem dX6_sumOf_25 : decode cX6_sumOf 25 = .ok (.if_icmp .ge 67, 3) := by decide +kernel
theorem dX6_sumOf_28 : decode cX6_sumOf 28 = .ok (.iload_n 3, 1) := by decide +kernel
theorem dX6_sumOf_29 : decode cX6_sumOf 29 = .ok (.iconst 4, 1) := by decide +kernel
theorem dX6_sumOf_30 : decode cX6_sumOf 30 = .ok (.iload 7, 2) := by decide +kernel
theorem dX6_sumOf_32 : decode cX6_sumOf 32 = .ok (.imul, 1) := by decide +kernel
theorem dX6_sumOf_33 : decode cX6_sumOf 33 = .ok (.ishr, 1) := by decide +kernel
theorem dX6_sumOf_34 : decode cX6_sumOf 34 = .ok (.bipush 15, 2) := by decide +kernel
theorem dX6_sumOf_36 : decode cX6_sumOf 36 = .ok (.iand, 1) := by decide +kernel
theorem dX6_sumOf_37 : decode cX6_sumOf 37 = .ok (.istore 8, 2) := by decide +kernel
theorem dX6_sumOf_39 : decode cX6_sumOf 39 = .ok (.aload_n 0, 1) := by decide +kernel
theorem dX6_sumOf_40 : decode cX6_sumOf 40 = .ok (.getfield 25, 3) := by decide +kernel
theorem dX6_sumOf_43 : decode cX6_sumOf 43 = .ok (.iload 8, 2) := by decide +kernel
theorem dX6_sumOf_45 : decode cX6_sumOf 45 = .ok (.invokevirtual 81, 3) := by decide +kernel
theorem dX6_sumOf_48 : decode cX6_sumOf 48 = .ok (.ifCond .eq 14, 3) := by decide +kernel
theorem dX6_sumOf_51 : decode cX6_sumOf 51 = .ok (.aload_n 0, 1) := by decide +kernel
theorem dX6_sumOf_52 : decode cX6_sumOf 52 = .ok (.iload 8, 2) := by decide +kernel
theorem dX6_sumOf_54 : decode cX6_sumOf 54 = .ok (.iload 4, 2) := by decide +kernel
theorem dX6_sumOf_56 : decode cX6_sumOf 56 = .ok (.invokevirtual 37, 3) := by decide +kernel
theorem dX6_sumOf_59 : decode cX6_sumOf 59 = .ok (.ifCond .ne 7, 3) := by decide +kernel
theorem dX6_sumOf_62 : decode cX6_sumOf 62 = .ok (.ldc2_w 85, 3) := by decide +kernel
theorem dX6_sumOf_65 : decode cX6_sumOf 65 = .ok (.lreturn, 1) := by decide +kernel
theorem dX6_sumOf_66 : decode cX6_sumOf 66 = .ok (.lload 5, 2) := by decide +kernel
theorem dX6_sumOf_68 : decode cX6_sumOf 68 = .ok (.aload_n 0, 1) := by decide +kernel
theorem dX6_sumOf_69 : decode cX6_sumOf 69 = .ok (.iload 4, 2) := by decide +kernel
theorem dX6_sumOf_71 : decode cX6_sumOf 71 = .ok (.invokevirtual 41, 3) := by decide +kernel
theorem dX6_sumOf_74 : decode cX6_sumOf 74 = .ok (.ladd, 1) := by decide +kernel
theorem dX6_sumOf_75 : decode cX6_sumOf 75 = .ok (.lstore 5, 2) := by decide +kernel
theorem dX6_sumOf_77 : decode cX6_sumOf 77 = .ok (.iload 4, 2) := by decide +kernel
theorem dX6_sumOf_79 : decode cX6_sumOf 79 = .ok (.iconst 1, 1) := by decide +kernel
theorem dX6_sumOf_80 : decode cX6_sumOf 80 = .ok (.iload 8, 2) := by decide +kernel
theorem dX6_sumOf_82 : decode cX6_sumOf 82 = .ok (.ishl, 1) := by decide +kernel
theorem dX6_sumOf_83 : decode cX6_sumOf 83 = .ok (.ior, 1) := by decide +kernel
theorem dX6_sumOf_84 : decode cX6_sumOf 84 = .ok (.istore 4, 2) := by decide +kernel
theorem dX6_sumOf_86 : decode cX6_sumOf 86 = .ok (.iinc 7 1, 3) := by decide +kernel
theorem dX6_sumOf_89 : decode cX6_sumOf 89 = .ok (.goto (-67), 3) := by decide +kernel
theorem dX6_sumOf_92 : decode cX6_sumOf 92 = .ok (.iload 4, 2) := by decide +kernel
theorem dX6_sumOf_94 : decode cX6_sumOf 94 = .ok (.iconst 1, 1) := by decide +kernel
theorem dX6_sumOf_95 : decode cX6_sumOf 95 = .ok (.aload_n 0, 1) := by decide +kernel
theorem dX6_sumOf_96 : decode cX6_sumOf 96 = .ok (.getfield 25, 3) := by decide +kernel
theorem dX6_sumOf_99 : decode cX6_sumOf 99 = .ok (.getfield 29, 3) := by decide +kernel
theorem dX6_sumOf_102 : decode cX6_sumOf 102 = .ok (.ishl, 1) := by decide +kernel
theorem dX6_sumOf_103 : decode cX6_sumOf 103 = .ok (.iconst 1, 1) := by decide +kernel
theorem dX6_sumOf_104 : decode cX6_sumOf 104 = .ok (.isub, 1) := by decide +kernel
theorem dX6_sumOf_105 : decode cX6_sumOf 105 = .ok (.if_icmp .ne 8, 3) := by decide +kernel
theorem dX6_sumOf_108 : decode cX6_sumOf 108 = .ok (.lload 5, 2) := by decide +kernel
theorem dX6_sumOf_110 : decode cX6_sumOf 110 = .ok (.goto 6, 3) := by decide +kernel
theorem dX6_sumOf_113 : decode cX6_sumOf 113 = .ok (.ldc2_w 85, 3) := by decide +kernel
theorem dX6_sumOf_116 : decode cX6_sumOf 116 = .ok (.lreturn, 1) := by decide +kernel
theorem dX7_init_0 : decode cX7_init 0 = .ok (.aload_n 0, 1) := by decide +kernel
theorem dX7_init_1 : decode cX7_init 1 = .ok (.invokespecial 3, 3) := by decide +kernel
theorem dX7_init_4 : decode cX7_init 4 = .ok (.aload_n 0, 1) := by decide +kernel
theorem dX7_init_5 : decode cX7_init 5 = .ok (.iconst 0, 1) := by decide +kernel
theorem dX7_init_6 : decode cX7_init 6 = .ok (.putfield 9, 3) := by decide +kernel
theorem dX7_init_9 : decode cX7_init 9 = .ok (.aload_n 0, 1) := by decide +kernel
theorem dX7_init_10 : decode cX7_init 10 = .ok (.iconst (-1), 1) := by decide +kernel
theorem dX7_init_11 : decode cX7_init 11 = .ok (.putfield 15, 3) := by decide +kernel
theorem dX7_init_14 : decode cX7_init 14 = .ok (.aload_n 0, 1) := by decide +kernel
theorem dX7_init_15 : decode cX7_init 15 = .ok (.new 18, 3) := by decide +kernel
theorem dX7_init_18 : decode cX7_init 18 = .ok (.dup, 1) := by decide +kernel
theorem dX7_init_19 : decode cX7_init 19 = .ok (.aload_n 1, 1) := by decide +kernel
theorem dX7_init_20 : decode cX7_init 20 = .ok (.invokespecial 20, 3) := by decide +kernel
theorem dX7_init_23 : decode cX7_init 23 = .ok (.putfield 23, 3) := by decide +kernel
theorem dX7_init_26 : decode cX7_init 26 = .ok (.aload_n 0, 1) := by decide +kernel
theorem dX7_init_27 : decode cX7_init 27 = .ok (.new 27, 3) := by decide +kernel
theorem dX7_init_30 : decode cX7_init 30 = .ok (.dup, 1) := by decide +kernel
theorem dX7_init_31 : decode cX7_init 31 = .ok (.aload_n 0, 1) := by decide +kernel
theorem dX7_init_32 : decode cX7_init 32 = .ok (.getfield 23, 3) := by decide +kernel
theorem dX7_init_35 : decode cX7_init 35 = .ok (.aload_n 2, 1) := by decide +kernel
theorem dX7_init_36 : decode cX7_init 36 = .ok (.getfield 29, 3) := by decide +kernel
theorem dX7_init_39 : decode cX7_init 39 = .ok (.invokespecial 35, 3) := by decide +kernel
theorem dX7_init_42 : decode cX7_init 42 = .ok (.putfield 38, 3) := by decide +kernel
theorem dX7_init_45 : decode cX7_init 45 = .ok (.aload_n 0, 1) := by decide +kernel
theorem dX7_init_46 : decode cX7_init 46 = .ok (.aload_n 2, 1) := by decide +kernel
theorem dX7_init_47 : decode cX7_init 47 = .ok (.putfield 42, 3) := by decide +kernel
theorem dX7_init_50 : decode cX7_init 50 = .ok (.return_, 1) := by decide +kernel
theorem dX7_read_0 : decode cX7_read 0 = .ok (.aload_n 0, 1) := by decide +kernel
theorem dX7_read_1 : decode cX7_read 1 = .ok (.aload_n 1, 1) := by decide +kernel
theorem dX7_read_2 : decode cX7_read 2 = .ok (.putfield 42, 3) := by decide +kernel
theorem dX7_read_5 : decode cX7_read 5 = .ok (.aload_n 0, 1) := by decide +kernel
theorem dX7_read_6 : decode cX7_read 6 = .ok (.getfield 42, 3) := by decide +kernel
theorem dX7_read_9 : decode cX7_read 9 = .ok (.invokevirtual 46, 3) := by decide +kernel
theorem dX7_read_12 : decode cX7_read 12 = .ok (.aload_n 0, 1) := by decide +kernel
theorem dX7_read_13 : decode cX7_read 13 = .ok (.iconst 0, 1) := by decide +kernel
theorem dX7_read_14 : decode cX7_read 14 = .ok (.putfield 9, 3) := by decide +kernel
theorem dX7_read_17 : decode cX7_read 17 = .ok (.aload_n 0, 1) := by decide +kernel
theorem dX7_read_18 : decode cX7_read 18 = .ok (.iconst (-1), 1) := by decide +kernel
theorem dX7_read_19 : decode cX7_read 19 = .ok (.putfield 15, 3) := by decide +kernel
theorem dX7_read_22 : decode cX7_read 22 = .ok (.aload_n 0, 1) := by decide +kernel
theorem dX7_read_23 : decode cX7_read 23 = .ok (.getfield 23, 3) := by decide +kernel
theorem dX7_read_26 : decode cX7_read 26 = .ok (.iload_n 2, 1) := by decide +kernel
theorem dX7_read_27 : decode cX7_read 27 = .ok (.invokevirtual 49, 3) := by decide +kernel
theorem dX7_read_30 : decode cX7_read 30 = .ok (.iconst 0, 1) := by decide +kernel
theorem dX7_read_31 : decode cX7_read 31 = .ok (.istore_n 3, 1) := by decide +kernel
theorem dX7_read_32 : decode cX7_read 32 = .ok (.iload_n 3, 1) := by decide +kernel
theorem dX7_read_33 : decode cX7_read 33 = .ok (.sipush 700, 3) := by decide +kernel
theorem dX7_read_36 : decode cX7_read 36 = .ok (.if_icmp .ge 55, 3) := by decide +kernel
theorem dX7_read_39 : decode cX7_read 39 = .ok (.aload_n 0, 1) := by decide +kernel
theorem dX7_read_40 : decode cX7_read 40 = .ok (.getfield 23, 3) := by decide +kernel
theorem dX7_read_43 : decode cX7_read 43 = .ok (.getfield 53, 3) := by decide +kernel
theorem dX7_read_46 : decode cX7_read 46 = .ok (.ifCond .eq 45, 3) := by decide +kernel
theorem dX7_read_49 : decode cX7_read 49 = .ok (.aload_n 0, 1) := by decide +kernel
theorem dX7_read_50 : decode cX7_read 50 = .ok (.invokevirtual 56, 3) := by decide +kernel
theorem dX7_read_53 : decode cX7_read 53 = .ok (.ifCond .ne 5, 3) := by decide +kernel
theorem dX7_read_56 : decode cX7_read 56 = .ok (.iconst (-1), 1) := by decide +kernel
theorem dX7_read_57 : decode cX7_read 57 = .ok (.ireturn, 1) := by decide +kernel
theorem dX7_read_58 : decode cX7_read 58 = .ok (.aload_n 0, 1) := by decide +kernel
theorem dX7_read_59 : decode cX7_read 59 = .ok (.getfield 23, 3) := by decide +kernel
theorem dX7_read_62 : decode cX7_read 62 = .ok (.bipush 30, 2) := by decide +kernel
theorem dX7_read_64 : decode cX7_read 64 = .ok (.invokevirtual 60, 3) := by decide +kernel
theorem dX7_read_67 : decode cX7_read 67 = .ok (.ifCond .ne 11, 3) := by decide +kernel
theorem dX7_read_70 : decode cX7_read 70 = .ok (.aload_n 0, 1) := by decide +kernel
theorem dX7_read_71 : decode cX7_read 71 = .ok (.iconst 1, 1) := by decide +kernel
theorem dX7_read_72 : decode cX7_read 72 = .ok (.invokevirtual 64, 3) := by decide +kernel
theorem dX7_read_75 : decode cX7_read 75 = .ok (.pop, 1) := by decide +kernel
theorem dX7_read_76 : decode cX7_read 76 = .ok (.iconst (-1), 1) := by decide +kernel
theorem dX7_read_77 : decode cX7_read 77 = .ok (.ireturn, 1) := by decide +kernel
theorem dX7_read_78 : decode cX7_read 78 = .ok (.aload_n 0, 1) := by decide +kernel
theorem dX7_read_79 : decode cX7_read 79 = .ok (.getfield 23, 3) := by decide +kernel
theorem dX7_read_82 : decode cX7_read 82 = .ok (.invokevirtual 67, 3) := by decide +kernel
theorem dX7_read_85 : decode cX7_read 85 = .ok (.iinc 3 1, 3) := by decide +kernel
theorem dX7_read_88 : decode cX7_read 88 = .ok (.goto (-56), 3) := by decide +kernel
theorem dX7_read_91 : decode cX7_read 91 = .ok (.iload_n 3, 1) := by decide +kernel
theorem dX7_read_92 : decode cX7_read 92 = .ok (.ireturn, 1) := by decide +kernel
theorem dX7_fail_0 : decode cX7_fail 0 = .ok (.aload_n 0, 1) := by decide +kernel
theorem dX7_fail_1 : decode cX7_fail 1 = .ok (.iload_n 1, 1) := by decide +kernel
theorem dX7_fail_2 : decode cX7_fail 2 = .ok (.putfield 9, 3) := by decide +kernel
theorem dX7_fail_5 : decode cX7_fail 5 = .ok (.aload_n 0, 1) := by decide +kernel
theorem dX7_fail_6 : decode cX7_fail 6 = .ok (.aload_n 0, 1) := by decide +kernel
theorem dX7_fail_7 : decode cX7_fail 7 = .ok (.getfield 23, 3) := by decide +kernel
theorem dX7_fail_10 : decode cX7_fail 10 = .ok (.getfield 70, 3) := by decide +kernel
theorem dX7_fail_13 : decode cX7_fail 13 = .ok (.putfield 15, 3) := by decide +kernel
theorem dX7_fail_16 : decode cX7_fail 16 = .ok (.iconst 0, 1) := by decide +kernel
theorem dX7_fail_17 : decode cX7_fail 17 = .ok (.ireturn, 1) := by decide +kernel
theorem dX7_readLine_0 : decode cX7_readLine 0 = .ok (.aload_n 0, 1) := by decide +kernel
theorem dX7_readLine_1 : decode cX7_readLine 1 = .ok (.getfield 23, 3) := by decide +kernel
theorem dX7_readLine_4 : decode cX7_readLine 4 = .ok (.getfield 53, 3) := by decide +kernel
theorem dX7_readLine_7 : decode cX7_readLine 7 = .ok (.iconst 2, 1) := by decide +kernel
theorem dX7_readLine_8 : decode cX7_readLine 8 = .ok (.if_icmp .eq 9, 3) := by decide +kernel
theorem dX7_readLine_11 : decode cX7_readLine 11 = .ok (.aload_n 0, 1) := by decide +kernel
theorem dX7_readLine_12 : decode cX7_readLine 12 = .ok (.iconst 1, 1) := by decide +kernel
theorem dX7_readLine_13 : decode cX7_readLine 13 = .ok (.invokevirtual 64, 3) := by decide +kernel
theorem dX7_readLine_16 : decode cX7_readLine 16 = .ok (.ireturn, 1) := by decide +kernel
theorem dX7_readLine_17 : decode cX7_readLine 17 = .ok (.aload_n 0, 1) := by decide +kernel
theorem dX7_readLine_18 : decode cX7_readLine 18 = .ok (.getfield 23, 3) := by decide +kernel
theorem dX7_readLine_21 : decode cX7_readLine 21 = .ok (.getfield 71, 3) := by decide +kernel
theorem dX7_readLine_24 : decode cX7_readLine 24 = .ok (.tableswitch 115 0 8 #[52, 57, 62, 67, 72, 86, 100, 105, 110], 52) := by decide +kernel
theorem dX7_readLine_76 : decode cX7_readLine 76 = .ok (.aload_n 0, 1) := by decide +kernel
theorem dX7_readLine_77 : decode cX7_readLine 77 = .ok (.invokevirtual 74, 3) := by decide +kernel
theorem dX7_readLine_80 : decode cX7_readLine 80 = .ok (.ireturn, 1) := by decide +kernel
theorem dX7_readLine_81 : decode cX7_readLine 81 = .ok (.aload_n 0, 1) := by decide +kernel
theorem dX7_readLine_82 : decode cX7_readLine 82 = .ok (.invokevirtual 77, 3) := by decide +kernel
theorem dX7_readLine_85 : decode cX7_readLine 85 = .ok (.ireturn, 1) := by decide +kernel
theorem dX7_readLine_86 : decode cX7_readLine 86 = .ok (.aload_n 0, 1) := by decide +kernel
theorem dX7_readLine_87 : decode cX7_readLine 87 = .ok (.invokevirtual 80, 3) := by decide +kernel
theorem dX7_readLine_90 : decode cX7_readLine 90 = .ok (.ireturn, 1) := by decide +kernel
theorem dX7_readLine_91 : decode cX7_readLine 91 = .ok (.aload_n 0, 1) := by decide +kernel
theorem dX7_readLine_92 : decode cX7_readLine 92 = .ok (.invokevirtual 83, 3) := by decide +kernel
theorem dX7_readLine_95 : decode cX7_readLine 95 = .ok (.ireturn, 1) := by decide +kernel
theorem dX7_readLine_96 : decode cX7_readLine 96 = .ok (.aload_n 0, 1) := by decide +kernel
theorem dX7_readLine_97 : decode cX7_readLine 97 = .ok (.aload_n 0, 1) := by decide +kernel
theorem dX7_readLine_98 : decode cX7_readLine 98 = .ok (.getfield 42, 3) := by decide +kernel
theorem dX7_readLine_101 : decode cX7_readLine 101 = .ok (.getfield 86, 3) := by decide +kernel
theorem dX7_readLine_104 : decode cX7_readLine 104 = .ok (.bipush 99, 2) := by decide +kernel
theorem dX7_readLine_106 : decode cX7_readLine 106 = .ok (.invokevirtual 90, 3) := by decide +kernel
theorem dX7_readLine_109 : decode cX7_readLine 109 = .ok (.ireturn, 1) := by decide +kernel
theorem dX7_readLine_110 : decode cX7_readLine 110 = .ok (.aload_n 0, 1) := by decide +kernel
theorem dX7_readLine_111 : decode cX7_readLine 111 = .ok (.aload_n 0, 1) := by decide +kernel
theorem dX7_readLine_112 : decode cX7_readLine 112 = .ok (.getfield 42, 3) := by decide +kernel
theorem dX7_readLine_115 : decode cX7_readLine 115 = .ok (.getfield 94, 3) := by decide +kernel
theorem dX7_readLine_118 : decode cX7_readLine 118 = .ok (.bipush 12, 2) := by decide +kernel
theorem dX7_readLine_120 : decode cX7_readLine 120 = .ok (.invokevirtual 90, 3) := by decide +kernel
theorem dX7_readLine_123 : decode cX7_readLine 123 = .ok (.ireturn, 1) := by decide +kernel
theorem dX7_readLine_124 : decode cX7_readLine 124 = .ok (.aload_n 0, 1) := by decide +kernel
theorem dX7_readLine_125 : decode cX7_readLine 125 = .ok (.invokevirtual 97, 3) := by decide +kernel
theorem dX7_readLine_128 : decode cX7_readLine 128 = .ok (.ireturn, 1) := by decide +kernel
theorem dX7_readLine_129 : decode cX7_readLine 129 = .ok (.aload_n 0, 1) := by decide +kernel
theorem dX7_readLine_130 : decode cX7_readLine 130 = .ok (.invokevirtual 100, 3) := by decide +kernel
theorem dX7_readLine_133 : decode cX7_readLine 133 = .ok (.ireturn, 1) := by decide +kernel
theorem dX7_readLine_134 : decode cX7_readLine 134 = .ok (.aload_n 0, 1) := by decide +kernel
theorem dX7_readLine_135 : decode cX7_readLine 135 = .ok (.invokevirtual 103, 3) := by decide +kernel
theorem dX7_readLine_138 : decode cX7_readLine 138 = .ok (.ireturn, 1) := by decide +kernel
theorem dX7_readLine_139 : decode cX7_readLine 139 = .ok (.aload_n 0, 1) := by decide +kernel
theorem dX7_readLine_140 : decode cX7_readLine 140 = .ok (.iconst 1, 1) := by decide +kernel
theorem dX7_readLine_141 : decode cX7_readLine 141 = .ok (.invokevirtual 64, 3) := by decide +kernel
theorem dX7_readLine_144 : decode cX7_readLine 144 = .ok (.ireturn, 1) := by decide +kernel
theorem dX7_readCorner_0 : decode cX7_readCorner 0 = .ok (.aload_n 0, 1) := by decide +kernel
theorem dX7_readCorner_1 : decode cX7_readCorner 1 = .ok (.getfield 42, 3) := by decide +kernel
theorem dX7_readCorner_4 : decode cX7_readCorner 4 = .ok (.getfield 106, 3) := by decide +kernel
theorem dX7_readCorner_7 : decode cX7_readCorner 7 = .ok (.bipush 7, 2) := by decide +kernel
theorem dX7_readCorner_9 : decode cX7_readCorner 9 = .ok (.if_icmp .lt 9, 3) := by decide +kernel
theorem dX7_readCorner_12 : decode cX7_readCorner 12 = .ok (.aload_n 0, 1) := by decide +kernel
theorem dX7_readCorner_13 : decode cX7_readCorner 13 = .ok (.iconst 2, 1) := by decide +kernel
theorem dX7_readCorner_14 : decode cX7_readCorner 14 = .ok (.invokevirtual 64, 3) := by decide +kernel
theorem dX7_readCorner_17 : decode cX7_readCorner 17 = .ok (.ireturn, 1) := by decide +kernel
theorem dX7_readCorner_18 : decode cX7_readCorner 18 = .ok (.aload_n 0, 1) := by decide +kernel
theorem dX7_readCorner_19 : decode cX7_readCorner 19 = .ok (.getfield 23, 3) := by decide +kernel
theorem dX7_readCorner_22 : decode cX7_readCorner 22 = .ok (.invokevirtual 67, 3) := by decide +kernel
theorem dX7_readCorner_25 : decode cX7_readCorner 25 = .ok (.aload_n 0, 1) := by decide +kernel
theorem dX7_readCorner_26 : decode cX7_readCorner 26 = .ok (.getfield 42, 3) := by decide +kernel
theorem dX7_readCorner_29 : decode cX7_readCorner 29 = .ok (.getfield 109, 3) := by decide +kernel
theorem dX7_readCorner_32 : decode cX7_readCorner 32 = .ok (.aload_n 0, 1) := by decide +kernel
theorem dX7_readCorner_33 : decode cX7_readCorner 33 = .ok (.getfield 42, 3) := by decide +kernel
theorem dX7_readCorner_36 : decode cX7_readCorner 36 = .ok (.getfield 106, 3) := by decide +kernel
theorem dX7_readCorner_39 : decode cX7_readCorner 39 = .ok (.aaload, 1) := by decide +kernel
theorem dX7_readCorner_40 : decode cX7_readCorner 40 = .ok (.astore_n 1, 1) := by decide +kernel
theorem dX7_readCorner_41 : decode cX7_readCorner 41 = .ok (.aload_n 1, 1) := by decide +kernel
theorem dX7_readCorner_42 : decode cX7_readCorner 42 = .ok (.iconst 3, 1) := by decide +kernel
theorem dX7_readCorner_43 : decode cX7_readCorner 43 = .ok (.aload_n 0, 1) := by decide +kernel
theorem dX7_readCorner_44 : decode cX7_readCorner 44 = .ok (.iconst 0, 1) := by decide +kernel
theorem dX7_readCorner_45 : decode cX7_readCorner 45 = .ok (.invokevirtual 113, 3) := by decide +kernel
theorem dX7_readCorner_48 : decode cX7_readCorner 48 = .ok (.iastore, 1) := by decide +kernel
theorem dX7_readCorner_49 : decode cX7_readCorner 49 = .ok (.aload_n 1, 1) := by decide +kernel
theorem dX7_readCorner_50 : decode cX7_readCorner 50 = .ok (.iconst 3, 1) := by decide +kernel
theorem dX7_readCorner_51 : decode cX7_readCorner 51 = .ok (.iaload, 1) := by decide +kernel
theorem dX7_readCorner_52 : decode cX7_readCorner 52 = .ok (.iconst (-1), 1) := by decide +kernel
theorem dX7_readCorner_53 : decode cX7_readCorner 53 = .ok (.if_icmp .eq 47, 3) := by decide +kernel
theorem dX7_readCorner_56 : decode cX7_readCorner 56 = .ok (.aload_n 0, 1) := by decide +kernel
theorem dX7_readCorner_57 : decode cX7_readCorner 57 = .ok (.aload_n 1, 1) := by decide +kernel
theorem dX7_readCorner_58 : decode cX7_readCorner 58 = .ok (.iconst 0, 1) := by decide +kernel
theorem dX7_readCorner_59 : decode cX7_readCorner 59 = .ok (.iconst 0, 1) := by decide +kernel
theorem dX7_readCorner_60 : decode cX7_readCorner 60 = .ok (.sipush 999, 3) := by decide +kernel
theorem dX7_readCorner_63 : decode cX7_readCorner 63 = .ok (.invokevirtual 117, 3) := by decide +kernel
theorem dX7_readCorner_66 : decode cX7_readCorner 66 = .ok (.ifCond .eq 34, 3) := by decide +kernel
theorem dX7_readCorner_69 : decode cX7_readCorner 69 = .ok (.aload_n 0, 1) := by decide +kernel
theorem dX7_readCorner_70 : decode cX7_readCorner 70 = .ok (.aload_n 1, 1) := by decide +kernel
theorem dX7_readCorner_71 : decode cX7_readCorner 71 = .ok (.iconst 1, 1) := by decide +kernel
theorem dX7_readCorner_72 : decode cX7_readCorner 72 = .ok (.iconst 0, 1) := by decide +kernel
theorem dX7_readCorner_73 : decode cX7_readCorner 73 = .ok (.bipush 99, 2) := by decide +kernel
theorem dX7_readCorner_75 : decode cX7_readCorner 75 = .ok (.invokevirtual 117, 3) := by decide +kernel
theorem dX7_readCorner_78 : decode cX7_readCorner 78 = .ok (.ifCond .eq 22, 3) := by decide +kernel
theorem dX7_readCorner_81 : decode cX7_readCorner 81 = .ok (.aload_n 0, 1) := by decide +kernel
theorem dX7_readCorner_82 : decode cX7_readCorner 82 = .ok (.bipush 9, 2) := by decide +kernel
theorem dX7_readCorner_84 : decode cX7_readCorner 84 = .ok (.aload_n 1, 1) := by decide +kernel
theorem dX7_readCorner_85 : decode cX7_readCorner 85 = .ok (.iconst 2, 1) := by decide +kernel
theorem dX7_readCorner_86 : decode cX7_readCorner 86 = .ok (.bipush 20, 2) := by decide +kernel
theorem dX7_readCorner_88 : decode cX7_readCorner 88 = .ok (.bipush 20, 2) := by decide +kernel
theorem dX7_readCorner_90 : decode cX7_readCorner 90 = .ok (.invokevirtual 121, 3) := by decide +kernel
theorem dX7_readCorner_93 : decode cX7_readCorner 93 = .ok (.ifCond .eq 7, 3) := by decide +kernel
theorem dX7_readCorner_96 : decode cX7_readCorner 96 = .ok (.iconst 1, 1) := by decide +kernel
theorem dX7_readCorner_97 : decode cX7_readCorner 97 = .ok (.goto 4, 3) := by decide +kernel
theorem dX7_readCorner_100 : decode cX7_readCorner 100 = .ok (.iconst 0, 1) := by decide +kernel
theorem dX7_readCorner_101 : decode cX7_readCorner 101 = .ok (.istore_n 2, 1) := by decide +kernel
theorem dX7_readCorner_102 : decode cX7_readCorner 102 = .ok (.iload_n 2, 1) := by decide +kernel
theorem dX7_readCorner_103 : decode cX7_readCorner 103 = .ok (.ifCond .eq 16, 3) := by decide +kernel
theorem dX7_readCorner_106 : decode cX7_readCorner 106 = .ok (.aload_n 0, 1) := by decide +kernel
theorem dX7_readCorner_107 : decode cX7_readCorner 107 = .ok (.getfield 42, 3) := by decide +kernel
theorem dX7_readCorner_110 : decode cX7_readCorner 110 = .ok (.dup, 1) := by decide +kernel
theorem dX7_readCorner_111 : decode cX7_readCorner 111 = .ok (.getfield 106, 3) := by decide +kernel
theorem dX7_readCorner_114 : decode cX7_readCorner 114 = .ok (.iconst 1, 1) := by decide +kernel
theorem dX7_readCorner_115 : decode cX7_readCorner 115 = .ok (.iadd, 1) := by decide +kernel
theorem dX7_readCorner_116 : decode cX7_readCorner 116 = .ok (.putfield 106, 3) := by decide +kernel
theorem dX7_readCorner_119 : decode cX7_readCorner 119 = .ok (.iload_n 2, 1) := by decide +kernel
theorem dX7_readCorner_120 : decode cX7_readCorner 120 = .ok (.ireturn, 1) := by decide +kernel
theorem dX7_readRiver_0 : decode cX7_readRiver 0 = .ok (.aload_n 0, 1) := by decide +kernel
theorem dX7_readRiver_1 : decode cX7_readRiver 1 = .ok (.iconst 1, 1) := by decide +kernel
theorem dX7_readRiver_2 : decode cX7_readRiver 2 = .ok (.invokevirtual 125, 3) := by decide +kernel
theorem dX7_readRiver_5 : decode cX7_readRiver 5 = .ok (.ifCond .ne 5, 3) := by decide +kernel
theorem dX7_readRiver_8 : decode cX7_readRiver 8 = .ok (.iconst 0, 1) := by decide +kernel
theorem dX7_readRiver_9 : decode cX7_readRiver 9 = .ok (.ireturn, 1) := by decide +kernel
theorem dX7_readRiver_10 : decode cX7_readRiver 10 = .ok (.aload_n 0, 1) := by decide +kernel
theorem dX7_readRiver_11 : decode cX7_readRiver 11 = .ok (.getfield 42, 3) := by decide +kernel
theorem dX7_readRiver_14 : decode cX7_readRiver 14 = .ok (.aload_n 0, 1) := by decide +kernel
theorem dX7_readRiver_15 : decode cX7_readRiver 15 = .ok (.invokevirtual 128, 3) := by decide +kernel
theorem dX7_readRiver_18 : decode cX7_readRiver 18 = .ok (.putfield 132, 3) := by decide +kernel
theorem dX7_readRiver_21 : decode cX7_readRiver 21 = .ok (.aload_n 0, 1) := by decide +kernel
theorem dX7_readRiver_22 : decode cX7_readRiver 22 = .ok (.getfield 42, 3) := by decide +kernel
theorem dX7_readRiver_25 : decode cX7_readRiver 25 = .ok (.getfield 132, 3) := by decide +kernel
theorem dX7_readRiver_28 : decode cX7_readRiver 28 = .ok (.iconst (-1), 1) := by decide +kernel
theorem dX7_readRiver_29 : decode cX7_readRiver 29 = .ok (.if_icmp .ne 5, 3) := by decide +kernel
theorem dX7_readRiver_32 : decode cX7_readRiver 32 = .ok (.iconst 0, 1) := by decide +kernel
theorem dX7_readRiver_33 : decode cX7_readRiver 33 = .ok (.ireturn, 1) := by decide +kernel
theorem dX7_readRiver_34 : decode cX7_readRiver 34 = .ok (.aload_n 0, 1) := by decide +kernel
theorem dX7_readRiver_35 : decode cX7_readRiver 35 = .ok (.getfield 42, 3) := by decide +kernel
theorem dX7_readRiver_38 : decode cX7_readRiver 38 = .ok (.aload_n 0, 1) := by decide +kernel
theorem dX7_readRiver_39 : decode cX7_readRiver 39 = .ok (.iconst 0, 1) := by decide +kernel
theorem dX7_readRiver_40 : decode cX7_readRiver 40 = .ok (.sipush 999, 3) := by decide +kernel
theorem dX7_readRiver_43 : decode cX7_readRiver 43 = .ok (.invokevirtual 135, 3) := by decide +kernel
theorem dX7_readRiver_46 : decode cX7_readRiver 46 = .ok (.putfield 139, 3) := by decide +kernel
theorem dX7_readRiver_49 : decode cX7_readRiver 49 = .ok (.aload_n 0, 1) := by decide +kernel
theorem dX7_readRiver_50 : decode cX7_readRiver 50 = .ok (.getfield 42, 3) := by decide +kernel
theorem dX7_readRiver_53 : decode cX7_readRiver 53 = .ok (.getfield 139, 3) := by decide +kernel
theorem dX7_readRiver_56 : decode cX7_readRiver 56 = .ok (.iconst (-1), 1) := by decide +kernel
theorem dX7_readRiver_57 : decode cX7_readRiver 57 = .ok (.if_icmp .eq 7, 3) := by decide +kernel
theorem dX7_readRiver_60 : decode cX7_readRiver 60 = .ok (.iconst 1, 1) := by decide +kernel
theorem dX7_readRiver_61 : decode cX7_readRiver 61 = .ok (.goto 4, 3) := by decide +kernel
theorem dX7_readRiver_64 : decode cX7_readRiver 64 = .ok (.iconst 0, 1) := by decide +kernel
theorem dX7_readRiver_65 : decode cX7_readRiver 65 = .ok (.ireturn, 1) := by decide +kernel
theorem dX7_readStreet_0 : decode cX7_readStreet 0 = .ok (.aload_n 0, 1) := by decide +kernel
theorem dX7_readStreet_1 : decode cX7_readStreet 1 = .ok (.getfield 42, 3) := by decide +kernel
theorem dX7_readStreet_4 : decode cX7_readStreet 4 = .ok (.getfield 142, 3) := by decide +kernel
theorem dX7_readStreet_7 : decode cX7_readStreet 7 = .ok (.bipush 10, 2) := by decide +kernel
theorem dX7_readStreet_9 : decode cX7_readStreet 9 = .ok (.if_icmp .lt 9, 3) := by decide +kernel
theorem dX7_readStreet_12 : decode cX7_readStreet 12 = .ok (.aload_n 0, 1) := by decide +kernel
theorem dX7_readStreet_13 : decode cX7_readStreet 13 = .ok (.iconst 2, 1) := by decide +kernel
theorem dX7_readStreet_14 : decode cX7_readStreet 14 = .ok (.invokevirtual 64, 3) := by decide +kernel
theorem dX7_readStreet_17 : decode cX7_readStreet 17 = .ok (.ireturn, 1) := by decide +kernel
theorem dX7_readStreet_18 : decode cX7_readStreet 18 = .ok (.aload_n 0, 1) := by decide +kernel
theorem dX7_readStreet_19 : decode cX7_readStreet 19 = .ok (.getfield 23, 3) := by decide +kernel
theorem dX7_readStreet_22 : decode cX7_readStreet 22 = .ok (.invokevirtual 67, 3) := by decide +kernel
theorem dX7_readStreet_25 : decode cX7_readStreet 25 = .ok (.aload_n 0, 1) := by decide +kernel
theorem dX7_readStreet_26 : decode cX7_readStreet 26 = .ok (.getfield 42, 3) := by decide +kernel
theorem dX7_readStreet_29 : decode cX7_readStreet 29 = .ok (.getfield 145, 3) := by decide +kernel
theorem dX7_readStreet_32 : decode cX7_readStreet 32 = .ok (.aload_n 0, 1) := by decide +kernel
theorem dX7_readStreet_33 : decode cX7_readStreet 33 = .ok (.getfield 42, 3) := by decide +kernel
theorem dX7_readStreet_36 : decode cX7_readStreet 36 = .ok (.getfield 142, 3) := by decide +kernel
theorem dX7_readStreet_39 : decode cX7_readStreet 39 = .ok (.aaload, 1) := by decide +kernel
theorem dX7_readStreet_40 : decode cX7_readStreet 40 = .ok (.astore_n 1, 1) := by decide +kernel
theorem dX7_readStreet_41 : decode cX7_readStreet 41 = .ok (.aload_n 1, 1) := by decide +kernel
theorem dX7_readStreet_42 : decode cX7_readStreet 42 = .ok (.iconst 0, 1) := by decide +kernel
theorem dX7_readStreet_43 : decode cX7_readStreet 43 = .ok (.aload_n 0, 1) := by decide +kernel
theorem dX7_readStreet_44 : decode cX7_readStreet 44 = .ok (.invokevirtual 128, 3) := by decide +kernel
theorem dX7_readStreet_47 : decode cX7_readStreet 47 = .ok (.iastore, 1) := by decide +kernel
theorem dX7_readStreet_48 : decode cX7_readStreet 48 = .ok (.aload_n 1, 1) := by decide +kernel
theorem dX7_readStreet_49 : decode cX7_readStreet 49 = .ok (.iconst 0, 1) := by decide +kernel
theorem dX7_readStreet_50 : decode cX7_readStreet 50 = .ok (.iaload, 1) := by decide +kernel
theorem dX7_readStreet_51 : decode cX7_readStreet 51 = .ok (.iconst (-1), 1) := by decide +kernel
theorem dX7_readStreet_52 : decode cX7_readStreet 52 = .ok (.if_icmp .eq 54, 3) := by decide +kernel
theorem dX7_readStreet_55 : decode cX7_readStreet 55 = .ok (.aload_n 0, 1) := by decide +kernel
theorem dX7_readStreet_56 : decode cX7_readStreet 56 = .ok (.aload_n 1, 1) := by decide +kernel
theorem dX7_readStreet_57 : decode cX7_readStreet 57 = .ok (.invokevirtual 148, 3) := by decide +kernel
theorem dX7_readStreet_60 : decode cX7_readStreet 60 = .ok (.ifCond .eq 46, 3) := by decide +kernel
theorem dX7_readStreet_63 : decode cX7_readStreet 63 = .ok (.aload_n 0, 1) := by decide +kernel
theorem dX7_readStreet_64 : decode cX7_readStreet 64 = .ok (.aload_n 1, 1) := by decide +kernel
theorem dX7_readStreet_65 : decode cX7_readStreet 65 = .ok (.iconst 2, 1) := by decide +kernel
theorem dX7_readStreet_66 : decode cX7_readStreet 66 = .ok (.iconst 1, 1) := by decide +kernel
theorem dX7_readStreet_67 : decode cX7_readStreet 67 = .ok (.bipush 99, 2) := by decide +kernel
theorem dX7_readStreet_69 : decode cX7_readStreet 69 = .ok (.invokevirtual 117, 3) := by decide +kernel
theorem dX7_readStreet_72 : decode cX7_readStreet 72 = .ok (.ifCond .eq 34, 3) := by decide +kernel
theorem dX7_readStreet_75 : decode cX7_readStreet 75 = .ok (.aload_n 0, 1) := by decide +kernel
theorem dX7_readStreet_76 : decode cX7_readStreet 76 = .ok (.bipush 10, 2) := by decide +kernel
theorem dX7_readStreet_78 : decode cX7_readStreet 78 = .ok (.aload_n 1, 1) := by decide +kernel
theorem dX7_readStreet_79 : decode cX7_readStreet 79 = .ok (.iconst 3, 1) := by decide +kernel
theorem dX7_readStreet_80 : decode cX7_readStreet 80 = .ok (.iconst 3, 1) := by decide +kernel
theorem dX7_readStreet_81 : decode cX7_readStreet 81 = .ok (.iconst 0, 1) := by decide +kernel
theorem dX7_readStreet_82 : decode cX7_readStreet 82 = .ok (.invokevirtual 121, 3) := by decide +kernel
theorem dX7_readStreet_85 : decode cX7_readStreet 85 = .ok (.ifCond .eq 21, 3) := by decide +kernel
theorem dX7_readStreet_88 : decode cX7_readStreet 88 = .ok (.aload_n 0, 1) := by decide +kernel
theorem dX7_readStreet_89 : decode cX7_readStreet 89 = .ok (.bipush 11, 2) := by decide +kernel
theorem dX7_readStreet_91 : decode cX7_readStreet 91 = .ok (.aload_n 1, 1) := by decide +kernel
theorem dX7_readStreet_92 : decode cX7_readStreet 92 = .ok (.iconst 4, 1) := by decide +kernel
theorem dX7_readStreet_93 : decode cX7_readStreet 93 = .ok (.bipush 99, 2) := by decide +kernel
theorem dX7_readStreet_95 : decode cX7_readStreet 95 = .ok (.iconst 1, 1) := by decide +kernel
theorem dX7_readStreet_96 : decode cX7_readStreet 96 = .ok (.invokevirtual 121, 3) := by decide +kernel
theorem dX7_readStreet_99 : decode cX7_readStreet 99 = .ok (.ifCond .eq 7, 3) := by decide +kernel
theorem dX7_readStreet_102 : decode cX7_readStreet 102 = .ok (.iconst 1, 1) := by decide +kernel
theorem dX7_readStreet_103 : decode cX7_readStreet 103 = .ok (.goto 4, 3) := by decide +kernel
theorem dX7_readStreet_106 : decode cX7_readStreet 106 = .ok (.iconst 0, 1) := by decide +kernel
theorem dX7_readStreet_107 : decode cX7_readStreet 107 = .ok (.istore_n 2, 1) := by decide +kernel
theorem dX7_readStreet_108 : decode cX7_readStreet 108 = .ok (.iload_n 2, 1) := by decide +kernel
theorem dX7_readStreet_109 : decode cX7_readStreet 109 = .ok (.ifCond .eq 16, 3) := by decide +kernel
theorem dX7_readStreet_112 : decode cX7_readStreet 112 = .ok (.aload_n 0, 1) := by decide +kernel
theorem dX7_readStreet_113 : decode cX7_readStreet 113 = .ok (.getfield 42, 3) := by decide +kernel
theorem dX7_readStreet_116 : decode cX7_readStreet 116 = .ok (.dup, 1) := by decide +kernel
theorem dX7_readStreet_117 : decode cX7_readStreet 117 = .ok (.getfield 142, 3) := by decide +kernel
theorem dX7_readStreet_120 : decode cX7_readStreet 120 = .ok (.iconst 1, 1) := by decide +kernel
theorem dX7_readStreet_121 : decode cX7_readStreet 121 = .ok (.iadd, 1) := by decide +kernel
theorem dX7_readStreet_122 : decode cX7_readStreet 122 = .ok (.putfield 142, 3) := by decide +kernel
theorem dX7_readStreet_125 : decode cX7_readStreet 125 = .ok (.iload_n 2, 1) := by decide +kernel
theorem dX7_readStreet_126 : decode cX7_readStreet 126 = .ok (.ireturn, 1) := by decide +kernel
theorem dX7_readOtherEnd_0 : decode cX7_readOtherEnd 0 = .ok (.aload_n 0, 1) := by decide +kernel
theorem dX7_readOtherEnd_1 : decode cX7_readOtherEnd 1 = .ok (.invokevirtual 152, 3) := by decide +kernel
theorem dX7_readOtherEnd_4 : decode cX7_readOtherEnd 4 = .ok (.istore_n 2, 1) := by decide +kernel
theorem dX7_readOtherEnd_5 : decode cX7_readOtherEnd 5 = .ok (.iload_n 2, 1) := by decide +kernel
theorem dX7_readOtherEnd_6 : decode cX7_readOtherEnd 6 = .ok (.iconst (-1), 1) := by decide +kernel
theorem dX7_readOtherEnd_7 : decode cX7_readOtherEnd 7 = .ok (.if_icmp .ne 5, 3) := by decide +kernel
theorem dX7_readOtherEnd_10 : decode cX7_readOtherEnd 10 = .ok (.iconst 0, 1) := by decide +kernel
theorem dX7_readOtherEnd_11 : decode cX7_readOtherEnd 11 = .ok (.ireturn, 1) := by decide +kernel
theorem dX7_readOtherEnd_12 : decode cX7_readOtherEnd 12 = .ok (.iload_n 2, 1) := by decide +kernel
theorem dX7_readOtherEnd_13 : decode cX7_readOtherEnd 13 = .ok (.aload_n 1, 1) := by decide +kernel
theorem dX7_readOtherEnd_14 : decode cX7_readOtherEnd 14 = .ok (.iconst 0, 1) := by decide +kernel
theorem dX7_readOtherEnd_15 : decode cX7_readOtherEnd 15 = .ok (.iaload, 1) := by decide +kernel
theorem dX7_readOtherEnd_16 : decode cX7_readOtherEnd 16 = .ok (.if_icmp .ne 9, 3) := by decide +kernel
theorem dX7_readOtherEnd_19 : decode cX7_readOtherEnd 19 = .ok (.aload_n 0, 1) := by decide +kernel
theorem dX7_readOtherEnd_20 : decode cX7_readOtherEnd 20 = .ok (.iconst 5, 1) := by decide +kernel
theorem dX7_readOtherEnd_21 : decode cX7_readOtherEnd 21 = .ok (.invokevirtual 64, 3) := by decide +kernel
theorem dX7_readOtherEnd_24 : decode cX7_readOtherEnd 24 = .ok (.ireturn, 1) := by decide +kernel
theorem dX7_readOtherEnd_25 : decode cX7_readOtherEnd 25 = .ok (.aload_n 0, 1) := by decide +kernel
theorem dX7_readOtherEnd_26 : decode cX7_readOtherEnd 26 = .ok (.getfield 42, 3) := by decide +kernel
theorem dX7_readOtherEnd_29 : decode cX7_readOtherEnd 29 = .ok (.aload_n 1, 1) := by decide +kernel
theorem dX7_readOtherEnd_30 : decode cX7_readOtherEnd 30 = .ok (.iconst 0, 1) := by decide +kernel
theorem dX7_readOtherEnd_31 : decode cX7_readOtherEnd 31 = .ok (.iaload, 1) := by decide +kernel
theorem dX7_readOtherEnd_32 : decode cX7_readOtherEnd 32 = .ok (.iload_n 2, 1) := by decide +kernel
theorem dX7_readOtherEnd_33 : decode cX7_readOtherEnd 33 = .ok (.invokevirtual 155, 3) := by decide +kernel
theorem dX7_readOtherEnd_36 : decode cX7_readOtherEnd 36 = .ok (.ifCond .eq 9, 3) := by decide +kernel
theorem dX7_readOtherEnd_39 : decode cX7_readOtherEnd 39 = .ok (.aload_n 0, 1) := by decide +kernel
theorem dX7_readOtherEnd_40 : decode cX7_readOtherEnd 40 = .ok (.iconst 3, 1) := by decide +kernel
theorem dX7_readOtherEnd_41 : decode cX7_readOtherEnd 41 = .ok (.invokevirtual 64, 3) := by decide +kernel
theorem dX7_readOtherEnd_44 : decode cX7_readOtherEnd 44 = .ok (.ireturn, 1) := by decide +kernel
theorem dX7_readOtherEnd_45 : decode cX7_readOtherEnd 45 = .ok (.aload_n 1, 1) := by decide +kernel
theorem dX7_readOtherEnd_46 : decode cX7_readOtherEnd 46 = .ok (.iconst 1, 1) := by decide +kernel
theorem dX7_readOtherEnd_47 : decode cX7_readOtherEnd 47 = .ok (.iload_n 2, 1) := by decide +kernel
theorem dX7_readOtherEnd_48 : decode cX7_readOtherEnd 48 = .ok (.iastore, 1) := by decide +kernel
theorem dX7_readOtherEnd_49 : decode cX7_readOtherEnd 49 = .ok (.aload_n 0, 1) := by decide +kernel
theorem dX7_readOtherEnd_50 : decode cX7_readOtherEnd 50 = .ok (.getfield 23, 3) := by decide +kernel
theorem dX7_readOtherEnd_53 : decode cX7_readOtherEnd 53 = .ok (.invokevirtual 67, 3) := by decide +kernel
theorem dX7_readOtherEnd_56 : decode cX7_readOtherEnd 56 = .ok (.iconst 1, 1) := by decide +kernel
theorem dX7_readOtherEnd_57 : decode cX7_readOtherEnd 57 = .ok (.ireturn, 1) := by decide +kernel
theorem dX7_readPipe_0 : decode cX7_readPipe 0 = .ok (.aload_n 0, 1) := by decide +kernel
theorem dX7_readPipe_1 : decode cX7_readPipe 1 = .ok (.getfield 42, 3) := by decide +kernel
theorem dX7_readPipe_4 : decode cX7_readPipe 4 = .ok (.getfield 159, 3) := by decide +kernel
theorem dX7_readPipe_7 : decode cX7_readPipe 7 = .ok (.iconst 4, 1) := by decide +kernel
theorem dX7_readPipe_8 : decode cX7_readPipe 8 = .ok (.if_icmp .lt 9, 3) := by decide +kernel
theorem dX7_readPipe_11 : decode cX7_readPipe 11 = .ok (.aload_n 0, 1) := by decide +kernel
theorem dX7_readPipe_12 : decode cX7_readPipe 12 = .ok (.iconst 2, 1) := by decide +kernel
theorem dX7_readPipe_13 : decode cX7_readPipe 13 = .ok (.invokevirtual 64, 3) := by decide +kernel
theorem dX7_readPipe_16 : decode cX7_readPipe 16 = .ok (.ireturn, 1) := by decide +kernel
theorem dX7_readPipe_17 : decode cX7_readPipe 17 = .ok (.aload_n 0, 1) := by decide +kernel
theorem dX7_readPipe_18 : decode cX7_readPipe 18 = .ok (.getfield 23, 3) := by decide +kernel
theorem dX7_readPipe_21 : decode cX7_readPipe 21 = .ok (.invokevirtual 67, 3) := by decide +kernel
theorem dX7_readPipe_24 : decode cX7_readPipe 24 = .ok (.aload_n 0, 1) := by decide +kernel
theorem dX7_readPipe_25 : decode cX7_readPipe 25 = .ok (.getfield 42, 3) := by decide +kernel
theorem dX7_readPipe_28 : decode cX7_readPipe 28 = .ok (.getfield 159, 3) := by decide +kernel
theorem dX7_readPipe_31 : decode cX7_readPipe 31 = .ok (.ifCond .ne 7, 3) := by decide +kernel
theorem dX7_readPipe_34 : decode cX7_readPipe 34 = .ok (.iconst 1, 1) := by decide +kernel
theorem dX7_readPipe_35 : decode cX7_readPipe 35 = .ok (.goto 24, 3) := by decide +kernel
theorem dX7_readPipe_38 : decode cX7_readPipe 38 = .ok (.aload_n 0, 1) := by decide +kernel
theorem dX7_readPipe_39 : decode cX7_readPipe 39 = .ok (.getfield 42, 3) := by decide +kernel
theorem dX7_readPipe_42 : decode cX7_readPipe 42 = .ok (.getfield 162, 3) := by decide +kernel
theorem dX7_readPipe_45 : decode cX7_readPipe 45 = .ok (.aload_n 0, 1) := by decide +kernel
theorem dX7_readPipe_46 : decode cX7_readPipe 46 = .ok (.getfield 42, 3) := by decide +kernel
theorem dX7_readPipe_49 : decode cX7_readPipe 49 = .ok (.getfield 159, 3) := by decide +kernel
theorem dX7_readPipe_52 : decode cX7_readPipe 52 = .ok (.iconst 1, 1) := by decide +kernel
theorem dX7_readPipe_53 : decode cX7_readPipe 53 = .ok (.isub, 1) := by decide +kernel
theorem dX7_readPipe_54 : decode cX7_readPipe 54 = .ok (.aaload, 1) := by decide +kernel
theorem dX7_readPipe_55 : decode cX7_readPipe 55 = .ok (.iconst 0, 1) := by decide +kernel
theorem dX7_readPipe_56 : decode cX7_readPipe 56 = .ok (.iaload, 1) := by decide +kernel
theorem dX7_readPipe_57 : decode cX7_readPipe 57 = .ok (.iconst 1, 1) := by decide +kernel
theorem dX7_readPipe_58 : decode cX7_readPipe 58 = .ok (.iadd, 1) := by decide +kernel
theorem dX7_readPipe_59 : decode cX7_readPipe 59 = .ok (.istore_n 1, 1) := by decide +kernel
theorem dX7_readPipe_60 : decode cX7_readPipe 60 = .ok (.aload_n 0, 1) := by decide +kernel
theorem dX7_readPipe_61 : decode cX7_readPipe 61 = .ok (.getfield 42, 3) := by decide +kernel
theorem dX7_readPipe_64 : decode cX7_readPipe 64 = .ok (.getfield 162, 3) := by decide +kernel
theorem dX7_readPipe_67 : decode cX7_readPipe 67 = .ok (.aload_n 0, 1) := by decide +kernel
theorem dX7_readPipe_68 : decode cX7_readPipe 68 = .ok (.getfield 42, 3) := by decide +kernel
theorem dX7_readPipe_71 : decode cX7_readPipe 71 = .ok (.getfield 159, 3) := by decide +kernel
theorem dX7_readPipe_74 : decode cX7_readPipe 74 = .ok (.aaload, 1) := by decide +kernel
theorem dX7_readPipe_75 : decode cX7_readPipe 75 = .ok (.astore_n 2, 1) := by decide +kernel
theorem dX7_readPipe_76 : decode cX7_readPipe 76 = .ok (.aload_n 0, 1) := by decide +kernel
theorem dX7_readPipe_77 : decode cX7_readPipe 77 = .ok (.aload_n 2, 1) := by decide +kernel
theorem dX7_readPipe_78 : decode cX7_readPipe 78 = .ok (.iconst 0, 1) := by decide +kernel
theorem dX7_readPipe_79 : decode cX7_readPipe 79 = .ok (.iload_n 1, 1) := by decide +kernel
theorem dX7_readPipe_80 : decode cX7_readPipe 80 = .ok (.bipush 99, 2) := by decide +kernel
theorem dX7_readPipe_82 : decode cX7_readPipe 82 = .ok (.invokevirtual 117, 3) := by decide +kernel
theorem dX7_readPipe_85 : decode cX7_readPipe 85 = .ok (.ifCond .eq 15, 3) := by decide +kernel
theorem dX7_readPipe_88 : decode cX7_readPipe 88 = .ok (.aload_n 0, 1) := by decide +kernel
theorem dX7_readPipe_89 : decode cX7_readPipe 89 = .ok (.aload_n 2, 1) := by decide +kernel
theorem dX7_readPipe_90 : decode cX7_readPipe 90 = .ok (.iconst 1, 1) := by decide +kernel
theorem dX7_readPipe_91 : decode cX7_readPipe 91 = .ok (.iconst 0, 1) := by decide +kernel
theorem dX7_readPipe_92 : decode cX7_readPipe 92 = .ok (.bipush 99, 2) := by decide +kernel
theorem dX7_readPipe_94 : decode cX7_readPipe 94 = .ok (.invokevirtual 117, 3) := by decide +kernel
theorem dX7_readPipe_97 : decode cX7_readPipe 97 = .ok (.ifCond .ne 5, 3) := by decide +kernel
theorem dX7_readPipe_100 : decode cX7_readPipe 100 = .ok (.iconst 0, 1) := by decide +kernel
theorem dX7_readPipe_101 : decode cX7_readPipe 101 = .ok (.ireturn, 1) := by decide +kernel
theorem dX7_readPipe_102 : decode cX7_readPipe 102 = .ok (.aload_n 0, 1) := by decide +kernel
theorem dX7_readPipe_103 : decode cX7_readPipe 103 = .ok (.getfield 42, 3) := by decide +kernel
theorem dX7_readPipe_106 : decode cX7_readPipe 106 = .ok (.dup, 1) := by decide +kernel
theorem dX7_readPipe_107 : decode cX7_readPipe 107 = .ok (.getfield 159, 3) := by decide +kernel
theorem dX7_readPipe_110 : decode cX7_readPipe 110 = .ok (.iconst 1, 1) := by decide +kernel
theorem dX7_readPipe_111 : decode cX7_readPipe 111 = .ok (.iadd, 1) := by decide +kernel
theorem dX7_readPipe_112 : decode cX7_readPipe 112 = .ok (.putfield 159, 3) := by decide +kernel
theorem dX7_readPipe_115 : decode cX7_readPipe 115 = .ok (.iconst 1, 1) := by decide +kernel
theorem dX7_readPipe_116 : decode cX7_readPipe 116 = .ok (.ireturn, 1) := by decide +kernel
theorem dX7_readLimits_0 : decode cX7_readLimits 0 = .ok (.aload_n 0, 1) := by decide +kernel
theorem dX7_readLimits_1 : decode cX7_readLimits 1 = .ok (.aload_n 0, 1) := by decide +kernel
theorem dX7_readLimits_2 : decode cX7_readLimits 2 = .ok (.getfield 23, 3) := by decide +kernel
theorem dX7_readLimits_5 : decode cX7_readLimits 5 = .ok (.getfield 71, 3) := by decide +kernel
theorem dX7_readLimits_8 : decode cX7_readLimits 8 = .ok (.invokevirtual 125, 3) := by decide +kernel
theorem dX7_readLimits_11 : decode cX7_readLimits 11 = .ok (.ifCond .eq 31, 3) := by decide +kernel
theorem dX7_readLimits_14 : decode cX7_readLimits 14 = .ok (.aload_n 0, 1) := by decide +kernel
theorem dX7_readLimits_15 : decode cX7_readLimits 15 = .ok (.aload_n 1, 1) := by decide +kernel
theorem dX7_readLimits_16 : decode cX7_readLimits 16 = .ok (.iconst 0, 1) := by decide +kernel
theorem dX7_readLimits_17 : decode cX7_readLimits 17 = .ok (.iconst 0, 1) := by decide +kernel
theorem dX7_readLimits_18 : decode cX7_readLimits 18 = .ok (.iload_n 2, 1) := by decide +kernel
theorem dX7_readLimits_19 : decode cX7_readLimits 19 = .ok (.invokevirtual 117, 3) := by decide +kernel
theorem dX7_readLimits_22 : decode cX7_readLimits 22 = .ok (.ifCond .eq 20, 3) := by decide +kernel
theorem dX7_readLimits_25 : decode cX7_readLimits 25 = .ok (.aload_n 0, 1) := by decide +kernel
theorem dX7_readLimits_26 : decode cX7_readLimits 26 = .ok (.aload_n 1, 1) := by decide +kernel
theorem dX7_readLimits_27 : decode cX7_readLimits 27 = .ok (.iconst 1, 1) := by decide +kernel
theorem dX7_readLimits_28 : decode cX7_readLimits 28 = .ok (.aload_n 1, 1) := by decide +kernel
theorem dX7_readLimits_29 : decode cX7_readLimits 29 = .ok (.iconst 0, 1) := by decide +kernel
theorem dX7_readLimits_30 : decode cX7_readLimits 30 = .ok (.iaload, 1) := by decide +kernel
theorem dX7_readLimits_31 : decode cX7_readLimits 31 = .ok (.iload_n 2, 1) := by decide +kernel
theorem dX7_readLimits_32 : decode cX7_readLimits 32 = .ok (.invokevirtual 117, 3) := by decide +kernel
theorem dX7_readLimits_35 : decode cX7_readLimits 35 = .ok (.ifCond .eq 7, 3) := by decide +kernel
theorem dX7_readLimits_38 : decode cX7_readLimits 38 = .ok (.iconst 1, 1) := by decide +kernel
theorem dX7_readLimits_39 : decode cX7_readLimits 39 = .ok (.goto 4, 3) := by decide +kernel
theorem dX7_readLimits_42 : decode cX7_readLimits 42 = .ok (.iconst 0, 1) := by decide +kernel
theorem dX7_readLimits_43 : decode cX7_readLimits 43 = .ok (.ireturn, 1) := by decide +kernel
theorem dX7_readRain_0 : decode cX7_readRain 0 = .ok (.aload_n 0, 1) := by decide +kernel
theorem dX7_readRain_1 : decode cX7_readRain 1 = .ok (.getfield 42, 3) := by decide +kernel
theorem dX7_readRain_4 : decode cX7_readRain 4 = .ok (.getfield 165, 3) := by decide +kernel
theorem dX7_readRain_7 : decode cX7_readRain 7 = .ok (.iconst 4, 1) := by decide +kernel
theorem dX7_readRain_8 : decode cX7_readRain 8 = .ok (.if_icmp .lt 9, 3) := by decide +kernel
theorem dX7_readRain_11 : decode cX7_readRain 11 = .ok (.aload_n 0, 1) := by decide +kernel
theorem dX7_readRain_12 : decode cX7_readRain 12 = .ok (.iconst 2, 1) := by decide +kernel
theorem dX7_readRain_13 : decode cX7_readRain 13 = .ok (.invokevirtual 64, 3) := by decide +kernel
theorem dX7_readRain_16 : decode cX7_readRain 16 = .ok (.ireturn, 1) := by decide +kernel
theorem dX7_readRain_17 : decode cX7_readRain 17 = .ok (.aload_n 0, 1) := by decide +kernel
theorem dX7_readRain_18 : decode cX7_readRain 18 = .ok (.getfield 23, 3) := by decide +kernel
theorem dX7_readRain_21 : decode cX7_readRain 21 = .ok (.invokevirtual 67, 3) := by decide +kernel
theorem dX7_readRain_24 : decode cX7_readRain 24 = .ok (.aload_n 0, 1) := by decide +kernel
theorem dX7_readRain_25 : decode cX7_readRain 25 = .ok (.iconst 1, 1) := by decide +kernel
theorem dX7_readRain_26 : decode cX7_readRain 26 = .ok (.invokevirtual 113, 3) := by decide +kernel
theorem dX7_readRain_29 : decode cX7_readRain 29 = .ok (.istore_n 1, 1) := by decide +kernel
theorem dX7_readRain_30 : decode cX7_readRain 30 = .ok (.iload_n 1, 1) := by decide +kernel
theorem dX7_readRain_31 : decode cX7_readRain 31 = .ok (.iconst (-1), 1) := by decide +kernel
theorem dX7_readRain_32 : decode cX7_readRain 32 = .ok (.if_icmp .ne 5, 3) := by decide +kernel
theorem dX7_readRain_35 : decode cX7_readRain 35 = .ok (.iconst 0, 1) := by decide +kernel
theorem dX7_readRain_36 : decode cX7_readRain 36 = .ok (.ireturn, 1) := by decide +kernel
theorem dX7_readRain_37 : decode cX7_readRain 37 = .ok (.aload_n 0, 1) := by decide +kernel
theorem dX7_readRain_38 : decode cX7_readRain 38 = .ok (.getfield 42, 3) := by decide +kernel
theorem dX7_readRain_41 : decode cX7_readRain 41 = .ok (.getfield 168, 3) := by decide +kernel
theorem dX7_readRain_44 : decode cX7_readRain 44 = .ok (.aload_n 0, 1) := by decide +kernel
theorem dX7_readRain_45 : decode cX7_readRain 45 = .ok (.getfield 42, 3) := by decide +kernel
theorem dX7_readRain_48 : decode cX7_readRain 48 = .ok (.getfield 165, 3) := by decide +kernel
theorem dX7_readRain_51 : decode cX7_readRain 51 = .ok (.aaload, 1) := by decide +kernel
theorem dX7_readRain_52 : decode cX7_readRain 52 = .ok (.astore_n 2, 1) := by decide +kernel
theorem dX7_readRain_53 : decode cX7_readRain 53 = .ok (.aload_n 2, 1) := by decide +kernel
theorem dX7_readRain_54 : decode cX7_readRain 54 = .ok (.iconst 0, 1) := by decide +kernel
theorem dX7_readRain_55 : decode cX7_readRain 55 = .ok (.invokestatic 171, 3) := by decide +kernel
theorem dX7_readRain_58 : decode cX7_readRain 58 = .ok (.aload_n 0, 1) := by decide +kernel
theorem dX7_readRain_59 : decode cX7_readRain 59 = .ok (.aload_n 2, 1) := by decide +kernel
theorem dX7_readRain_60 : decode cX7_readRain 60 = .ok (.iconst 0, 1) := by decide +kernel
theorem dX7_readRain_61 : decode cX7_readRain 61 = .ok (.iconst 0, 1) := by decide +kernel
theorem dX7_readRain_62 : decode cX7_readRain 62 = .ok (.bipush 99, 2) := by decide +kernel
theorem dX7_readRain_64 : decode cX7_readRain 64 = .ok (.invokevirtual 117, 3) := by decide +kernel
theorem dX7_readRain_67 : decode cX7_readRain 67 = .ok (.ifCond .ne 5, 3) := by decide +kernel
theorem dX7_readRain_70 : decode cX7_readRain 70 = .ok (.iconst 0, 1) := by decide +kernel
theorem dX7_readRain_71 : decode cX7_readRain 71 = .ok (.ireturn, 1) := by decide +kernel
theorem dX7_readRain_72 : decode cX7_readRain 72 = .ok (.iconst 1, 1) := by decide +kernel
theorem dX7_readRain_73 : decode cX7_readRain 73 = .ok (.istore_n 3, 1) := by decide +kernel
theorem dX7_readRain_74 : decode cX7_readRain 74 = .ok (.iload_n 3, 1) := by decide +kernel
theorem dX7_readRain_75 : decode cX7_readRain 75 = .ok (.bipush 6, 2) := by decide +kernel
theorem dX7_readRain_77 : decode cX7_readRain 77 = .ok (.if_icmp .ge 34, 3) := by decide +kernel
theorem dX7_readRain_80 : decode cX7_readRain 80 = .ok (.aload_n 0, 1) := by decide +kernel
theorem dX7_readRain_81 : decode cX7_readRain 81 = .ok (.getfield 23, 3) := by decide +kernel
theorem dX7_readRain_84 : decode cX7_readRain 84 = .ok (.getfield 53, 3) := by decide +kernel
theorem dX7_readRain_87 : decode cX7_readRain 87 = .ok (.iconst 3, 1) := by decide +kernel
theorem dX7_readRain_88 : decode cX7_readRain 88 = .ok (.if_icmp .ne 23, 3) := by decide +kernel
theorem dX7_readRain_91 : decode cX7_readRain 91 = .ok (.aload_n 0, 1) := by decide +kernel
theorem dX7_readRain_92 : decode cX7_readRain 92 = .ok (.aload_n 2, 1) := by decide +kernel
theorem dX7_readRain_93 : decode cX7_readRain 93 = .ok (.iload_n 3, 1) := by decide +kernel
theorem dX7_readRain_94 : decode cX7_readRain 94 = .ok (.iconst 0, 1) := by decide +kernel
theorem dX7_readRain_95 : decode cX7_readRain 95 = .ok (.bipush 99, 2) := by decide +kernel
theorem dX7_readRain_97 : decode cX7_readRain 97 = .ok (.invokevirtual 117, 3) := by decide +kernel
theorem dX7_readRain_100 : decode cX7_readRain 100 = .ok (.ifCond .ne 5, 3) := by decide +kernel
theorem dX7_readRain_103 : decode cX7_readRain 103 = .ok (.iconst 0, 1) := by decide +kernel
theorem dX7_readRain_104 : decode cX7_readRain 104 = .ok (.ireturn, 1) := by decide +kernel
theorem dX7_readRain_105 : decode cX7_readRain 105 = .ok (.iinc 3 1, 3) := by decide +kernel
theorem dX7_readRain_108 : decode cX7_readRain 108 = .ok (.goto (-34), 3) := by decide +kernel
theorem dX7_readRain_111 : decode cX7_readRain 111 = .ok (.aload_n 0, 1) := by decide +kernel
theorem dX7_readRain_112 : decode cX7_readRain 112 = .ok (.getfield 23, 3) := by decide +kernel
theorem dX7_readRain_115 : decode cX7_readRain 115 = .ok (.getfield 53, 3) := by decide +kernel
theorem dX7_readRain_118 : decode cX7_readRain 118 = .ok (.iconst 3, 1) := by decide +kernel
theorem dX7_readRain_119 : decode cX7_readRain 119 = .ok (.if_icmp .ne 9, 3) := by decide +kernel
theorem dX7_readRain_122 : decode cX7_readRain 122 = .ok (.aload_n 0, 1) := by decide +kernel
theorem dX7_readRain_123 : decode cX7_readRain 123 = .ok (.iconst 2, 1) := by decide +kernel
theorem dX7_readRain_124 : decode cX7_readRain 124 = .ok (.invokevirtual 64, 3) := by decide +kernel
theorem dX7_readRain_127 : decode cX7_readRain 127 = .ok (.ireturn, 1) := by decide +kernel
theorem dX7_readRain_128 : decode cX7_readRain 128 = .ok (.aload_n 0, 1) := by decide +kernel
theorem dX7_readRain_129 : decode cX7_readRain 129 = .ok (.getfield 42, 3) := by decide +kernel
theorem dX7_readRain_132 : decode cX7_readRain 132 = .ok (.getfield 177, 3) := by decide +kernel
theorem dX7_readRain_135 : decode cX7_readRain 135 = .ok (.aload_n 0, 1) := by decide +kernel
theorem dX7_readRain_136 : decode cX7_readRain 136 = .ok (.getfield 42, 3) := by decide +kernel
theorem dX7_readRain_139 : decode cX7_readRain 139 = .ok (.getfield 165, 3) := by decide +kernel
theorem dX7_readRain_142 : decode cX7_readRain 142 = .ok (.iload_n 1, 1) := by decide +kernel
theorem dX7_readRain_143 : decode cX7_readRain 143 = .ok (.iastore, 1) := by decide +kernel
theorem dX7_readRain_144 : decode cX7_readRain 144 = .ok (.aload_n 0, 1) := by decide +kernel
theorem dX7_readRain_145 : decode cX7_readRain 145 = .ok (.getfield 42, 3) := by decide +kernel
theorem dX7_readRain_148 : decode cX7_readRain 148 = .ok (.dup, 1) := by decide +kernel
theorem dX7_readRain_149 : decode cX7_readRain 149 = .ok (.getfield 165, 3) := by decide +kernel
theorem dX7_readRain_152 : decode cX7_readRain 152 = .ok (.iconst 1, 1) := by decide +kernel
theorem dX7_readRain_153 : decode cX7_readRain 153 = .ok (.iadd, 1) := by decide +kernel
theorem dX7_readRain_154 : decode cX7_readRain 154 = .ok (.putfield 165, 3) := by decide +kernel
theorem dX7_readRain_157 : decode cX7_readRain 157 = .ok (.iconst 1, 1) := by decide +kernel
theorem dX7_readRain_158 : decode cX7_readRain 158 = .ok (.ireturn, 1) := by decide +kernel
theorem dX7_readLaw_0 : decode cX7_readLaw 0 = .ok (.aload_n 0, 1) := by decide +kernel
theorem dX7_readLaw_1 : decode cX7_readLaw 1 = .ok (.getfield 23, 3) := by decide +kernel
theorem dX7_readLaw_4 : decode cX7_readLaw 4 = .ok (.invokevirtual 67, 3) := by decide +kernel
theorem dX7_readLaw_7 : decode cX7_readLaw 7 = .ok (.aload_n 0, 1) := by decide +kernel
theorem dX7_readLaw_8 : decode cX7_readLaw 8 = .ok (.getfield 23, 3) := by decide +kernel
theorem dX7_readLaw_11 : decode cX7_readLaw 11 = .ok (.getfield 53, 3) := by decide +kernel
theorem dX7_readLaw_14 : decode cX7_readLaw 14 = .ok (.iconst 2, 1) := by decide +kernel
theorem dX7_readLaw_15 : decode cX7_readLaw 15 = .ok (.if_icmp .ne 27, 3) := by decide +kernel
theorem dX7_readLaw_18 : decode cX7_readLaw 18 = .ok (.aload_n 0, 1) := by decide +kernel
theorem dX7_readLaw_19 : decode cX7_readLaw 19 = .ok (.getfield 23, 3) := by decide +kernel
theorem dX7_readLaw_22 : decode cX7_readLaw 22 = .ok (.getfield 71, 3) := by decide +kernel
theorem dX7_readLaw_25 : decode cX7_readLaw 25 = .ok (.bipush 12, 2) := by decide +kernel
theorem dX7_readLaw_27 : decode cX7_readLaw 27 = .ok (.if_icmp .lt 15, 3) := by decide +kernel
theorem dX7_readLaw_30 : decode cX7_readLaw 30 = .ok (.aload_n 0, 1) := by decide +kernel
theorem dX7_readLaw_31 : decode cX7_readLaw 31 = .ok (.getfield 23, 3) := by decide +kernel
theorem dX7_readLaw_34 : decode cX7_readLaw 34 = .ok (.getfield 71, 3) := by decide +kernel
theorem dX7_readLaw_37 : decode cX7_readLaw 37 = .ok (.bipush 14, 2) := by decide +kernel
theorem dX7_readLaw_39 : decode cX7_readLaw 39 = .ok (.if_icmp .le 9, 3) := by decide +kernel
theorem dX7_readLaw_42 : decode cX7_readLaw 42 = .ok (.aload_n 0, 1) := by decide +kernel
theorem dX7_readLaw_43 : decode cX7_readLaw 43 = .ok (.iconst 1, 1) := by decide +kernel
theorem dX7_readLaw_44 : decode cX7_readLaw 44 = .ok (.invokevirtual 64, 3) := by decide +kernel
theorem dX7_readLaw_47 : decode cX7_readLaw 47 = .ok (.ireturn, 1) := by decide +kernel
theorem dX7_readLaw_48 : decode cX7_readLaw 48 = .ok (.aload_n 0, 1) := by decide +kernel
theorem dX7_readLaw_49 : decode cX7_readLaw 49 = .ok (.getfield 23, 3) := by decide +kernel
theorem dX7_readLaw_52 : decode cX7_readLaw 52 = .ok (.getfield 71, 3) := by decide +kernel
theorem dX7_readLaw_55 : decode cX7_readLaw 55 = .ok (.bipush 12, 2) := by decide +kernel
theorem dX7_readLaw_57 : decode cX7_readLaw 57 = .ok (.isub, 1) := by decide +kernel
theorem dX7_readLaw_58 : decode cX7_readLaw 58 = .ok (.istore_n 1, 1) := by decide +kernel
theorem dX7_readLaw_59 : decode cX7_readLaw 59 = .ok (.aload_n 0, 1) := by decide +kernel
theorem dX7_readLaw_60 : decode cX7_readLaw 60 = .ok (.getfield 42, 3) := by decide +kernel
theorem dX7_readLaw_63 : decode cX7_readLaw 63 = .ok (.getfield 29, 3) := by decide +kernel
theorem dX7_readLaw_66 : decode cX7_readLaw 66 = .ok (.iload_n 1, 1) := by decide +kernel
theorem dX7_readLaw_67 : decode cX7_readLaw 67 = .ok (.invokevirtual 180, 3) := by decide +kernel
theorem dX7_readLaw_70 : decode cX7_readLaw 70 = .ok (.ifCond .eq 9, 3) := by decide +kernel
theorem dX7_readLaw_73 : decode cX7_readLaw 73 = .ok (.aload_n 0, 1) := by decide +kernel
theorem dX7_readLaw_74 : decode cX7_readLaw 74 = .ok (.iconst 3, 1) := by decide +kernel
theorem dX7_readLaw_75 : decode cX7_readLaw 75 = .ok (.invokevirtual 64, 3) := by decide +kernel
theorem dX7_readLaw_78 : decode cX7_readLaw 78 = .ok (.ireturn, 1) := by decide +kernel
theorem dX7_readLaw_79 : decode cX7_readLaw 79 = .ok (.aload_n 0, 1) := by decide +kernel
theorem dX7_readLaw_80 : decode cX7_readLaw 80 = .ok (.getfield 23, 3) := by decide +kernel
theorem dX7_readLaw_83 : decode cX7_readLaw 83 = .ok (.invokevirtual 67, 3) := by decide +kernel
theorem dX7_readLaw_86 : decode cX7_readLaw 86 = .ok (.aload_n 0, 1) := by decide +kernel
theorem dX7_readLaw_87 : decode cX7_readLaw 87 = .ok (.getfield 38, 3) := by decide +kernel
theorem dX7_readLaw_90 : decode cX7_readLaw 90 = .ok (.aload_n 0, 1) := by decide +kernel
theorem dX7_readLaw_91 : decode cX7_readLaw 91 = .ok (.getfield 42, 3) := by decide +kernel
theorem dX7_readLaw_94 : decode cX7_readLaw 94 = .ok (.getfield 29, 3) := by decide +kernel
theorem dX7_readLaw_97 : decode cX7_readLaw 97 = .ok (.iload_n 1, 1) := by decide +kernel
theorem dX7_readLaw_98 : decode cX7_readLaw 98 = .ok (.invokevirtual 185, 3) := by decide +kernel
theorem dX7_readLaw_101 : decode cX7_readLaw 101 = .ok (.istore_n 2, 1) := by decide +kernel
theorem dX7_readLaw_102 : decode cX7_readLaw 102 = .ok (.iload_n 2, 1) := by decide +kernel
theorem dX7_readLaw_103 : decode cX7_readLaw 103 = .ok (.ifCond .eq 11, 3) := by decide +kernel
theorem dX7_readLaw_106 : decode cX7_readLaw 106 = .ok (.aload_n 0, 1) := by decide +kernel
theorem dX7_readLaw_107 : decode cX7_readLaw 107 = .ok (.iload_n 2, 1) := by decide +kernel
theorem dX7_readLaw_108 : decode cX7_readLaw 108 = .ok (.invokevirtual 64, 3) := by decide +kernel
theorem dX7_readLaw_111 : decode cX7_readLaw 111 = .ok (.ifCond .eq 7, 3) := by decide +kernel
theorem dX7_readLaw_114 : decode cX7_readLaw 114 = .ok (.iconst 1, 1) := by decide +kernel
theorem dX7_readLaw_115 : decode cX7_readLaw 115 = .ok (.goto 4, 3) := by decide +kernel
theorem dX7_readLaw_118 : decode cX7_readLaw 118 = .ok (.iconst 0, 1) := by decide +kernel
theorem dX7_readLaw_119 : decode cX7_readLaw 119 = .ok (.ireturn, 1) := by decide +kernel
theorem dX7_readCart_0 : decode cX7_readCart 0 = .ok (.aload_n 0, 1) := by decide +kernel
theorem dX7_readCart_1 : decode cX7_readCart 1 = .ok (.bipush 8, 2) := by decide +kernel
theorem dX7_readCart_3 : decode cX7_readCart 3 = .ok (.invokevirtual 125, 3) := by decide +kernel
theorem dX7_readCart_6 : decode cX7_readCart 6 = .ok (.ifCond .ne 5, 3) := by decide +kernel
theorem dX7_readCart_9 : decode cX7_readCart 9 = .ok (.iconst 0, 1) := by decide +kernel
theorem dX7_readCart_10 : decode cX7_readCart 10 = .ok (.ireturn, 1) := by decide +kernel
theorem dX7_readCart_11 : decode cX7_readCart 11 = .ok (.aload_n 0, 1) := by decide +kernel
theorem dX7_readCart_12 : decode cX7_readCart 12 = .ok (.getfield 42, 3) := by decide +kernel
theorem dX7_readCart_15 : decode cX7_readCart 15 = .ok (.aload_n 0, 1) := by decide +kernel
theorem dX7_readCart_16 : decode cX7_readCart 16 = .ok (.iconst 0, 1) := by decide +kernel
theorem dX7_readCart_17 : decode cX7_readCart 17 = .ok (.bipush 99, 2) := by decide +kernel
theorem dX7_readCart_19 : decode cX7_readCart 19 = .ok (.invokevirtual 135, 3) := by decide +kernel
theorem dX7_readCart_22 : decode cX7_readCart 22 = .ok (.putfield 188, 3) := by decide +kernel
theorem dX7_readCart_25 : decode cX7_readCart 25 = .ok (.aload_n 0, 1) := by decide +kernel
theorem dX7_readCart_26 : decode cX7_readCart 26 = .ok (.getfield 42, 3) := by decide +kernel
theorem dX7_readCart_29 : decode cX7_readCart 29 = .ok (.getfield 188, 3) := by decide +kernel
theorem dX7_readCart_32 : decode cX7_readCart 32 = .ok (.iconst (-1), 1) := by decide +kernel
theorem dX7_readCart_33 : decode cX7_readCart 33 = .ok (.if_icmp .eq 7, 3) := by decide +kernel
theorem dX7_readCart_36 : decode cX7_readCart 36 = .ok (.iconst 1, 1) := by decide +kernel
theorem dX7_readCart_37 : decode cX7_readCart 37 = .ok (.goto 4, 3) := by decide +kernel
theorem dX7_readCart_40 : decode cX7_readCart 40 = .ok (.iconst 0, 1) := by decide +kernel
theorem dX7_readCart_41 : decode cX7_readCart 41 = .ok (.ireturn, 1) := by decide +kernel
theorem dX7_tellOnce_0 : decode cX7_tellOnce 0 = .ok (.aload_n 0, 1) := by decide +kernel
theorem dX7_tellOnce_1 : decode cX7_tellOnce 1 = .ok (.getfield 42, 3) := by decide +kernel
theorem dX7_tellOnce_4 : decode cX7_tellOnce 4 = .ok (.getfield 191, 3) := by decide +kernel
theorem dX7_tellOnce_7 : decode cX7_tellOnce 7 = .ok (.iload_n 1, 1) := by decide +kernel
theorem dX7_tellOnce_8 : decode cX7_tellOnce 8 = .ok (.ishr, 1) := by decide +kernel
theorem dX7_tellOnce_9 : decode cX7_tellOnce 9 = .ok (.iconst 1, 1) := by decide +kernel
theorem dX7_tellOnce_10 : decode cX7_tellOnce 10 = .ok (.iand, 1) := by decide +kernel
theorem dX7_tellOnce_11 : decode cX7_tellOnce 11 = .ok (.ifCond .eq 9, 3) := by decide +kernel
theorem dX7_tellOnce_14 : decode cX7_tellOnce 14 = .ok (.aload_n 0, 1) := by decide +kernel
theorem dX7_tellOnce_15 : decode cX7_tellOnce 15 = .ok (.iconst 3, 1) := by decide +kernel
theorem dX7_tellOnce_16 : decode cX7_tellOnce 16 = .ok (.invokevirtual 64, 3) := by decide +kernel
theorem dX7_tellOnce_19 : decode cX7_tellOnce 19 = .ok (.ireturn, 1) := by decide +kernel
theorem dX7_tellOnce_20 : decode cX7_tellOnce 20 = .ok (.aload_n 0, 1) := by decide +kernel
theorem dX7_tellOnce_21 : decode cX7_tellOnce 21 = .ok (.getfield 42, 3) := by decide +kernel
theorem dX7_tellOnce_24 : decode cX7_tellOnce 24 = .ok (.dup, 1) := by decide +kernel
theorem dX7_tellOnce_25 : decode cX7_tellOnce 25 = .ok (.getfield 191, 3) := by decide +kernel
theorem dX7_tellOnce_28 : decode cX7_tellOnce 28 = .ok (.iconst 1, 1) := by decide +kernel
theorem dX7_tellOnce_29 : decode cX7_tellOnce 29 = .ok (.iload_n 1, 1) := by decide +kernel
theorem dX7_tellOnce_30 : decode cX7_tellOnce 30 = .ok (.ishl, 1) := by decide +kernel
theorem dX7_tellOnce_31 : decode cX7_tellOnce 31 = .ok (.ior, 1) := by decide +kernel
theorem dX7_tellOnce_32 : decode cX7_tellOnce 32 = .ok (.putfield 191, 3) := by decide +kernel
theorem dX7_tellOnce_35 : decode cX7_tellOnce 35 = .ok (.aload_n 0, 1) := by decide +kernel
theorem dX7_tellOnce_36 : decode cX7_tellOnce 36 = .ok (.getfield 23, 3) := by decide +kernel
theorem dX7_tellOnce_39 : decode cX7_tellOnce 39 = .ok (.invokevirtual 67, 3) := by decide +kernel
theorem dX7_tellOnce_42 : decode cX7_tellOnce 42 = .ok (.iconst 1, 1) := by decide +kernel
theorem dX7_tellOnce_43 : decode cX7_tellOnce 43 = .ok (.ireturn, 1) := by decide +kernel
theorem dX7_readNewName_0 : decode cX7_readNewName 0 = .ok (.aload_n 0, 1) := by decide +kernel
theorem dX7_readNewName_1 : decode cX7_readNewName 1 = .ok (.getfield 23, 3) := by decide +kernel
theorem dX7_readNewName_4 : decode cX7_readNewName 4 = .ok (.getfield 53, 3) := by decide +kernel
theorem dX7_readNewName_7 : decode cX7_readNewName 7 = .ok (.iconst 1, 1) := by decide +kernel
theorem dX7_readNewName_8 : decode cX7_readNewName 8 = .ok (.if_icmp .eq 11, 3) := by decide +kernel
theorem dX7_readNewName_11 : decode cX7_readNewName 11 = .ok (.aload_n 0, 1) := by decide +kernel
theorem dX7_readNewName_12 : decode cX7_readNewName 12 = .ok (.iconst 1, 1) := by decide +kernel
theorem dX7_readNewName_13 : decode cX7_readNewName 13 = .ok (.invokevirtual 64, 3) := by decide +kernel
theorem dX7_readNewName_16 : decode cX7_readNewName 16 = .ok (.pop, 1) := by decide +kernel
theorem dX7_readNewName_17 : decode cX7_readNewName 17 = .ok (.iconst (-1), 1) := by decide +kernel
theorem dX7_readNewName_18 : decode cX7_readNewName 18 = .ok (.ireturn, 1) := by decide +kernel
theorem dX7_readNewName_19 : decode cX7_readNewName 19 = .ok (.aload_n 0, 1) := by decide +kernel
theorem dX7_readNewName_20 : decode cX7_readNewName 20 = .ok (.getfield 23, 3) := by decide +kernel
theorem dX7_readNewName_23 : decode cX7_readNewName 23 = .ok (.getfield 71, 3) := by decide +kernel
theorem dX7_readNewName_26 : decode cX7_readNewName 26 = .ok (.istore_n 2, 1) := by decide +kernel
theorem dX7_readNewName_27 : decode cX7_readNewName 27 = .ok (.aload_n 0, 1) := by decide +kernel
theorem dX7_readNewName_28 : decode cX7_readNewName 28 = .ok (.getfield 42, 3) := by decide +kernel
theorem dX7_readNewName_31 : decode cX7_readNewName 31 = .ok (.iload_n 1, 1) := by decide +kernel
theorem dX7_readNewName_32 : decode cX7_readNewName 32 = .ok (.iload_n 2, 1) := by decide +kernel
theorem dX7_readNewName_33 : decode cX7_readNewName 33 = .ok (.invokevirtual 194, 3) := by decide +kernel
theorem dX7_readNewName_36 : decode cX7_readNewName 36 = .ok (.iconst (-1), 1) := by decide +kernel
theorem dX7_readNewName_37 : decode cX7_readNewName 37 = .ok (.if_icmp .eq 11, 3) := by decide +kernel
theorem dX7_readNewName_40 : decode cX7_readNewName 40 = .ok (.aload_n 0, 1) := by decide +kernel
theorem dX7_readNewName_41 : decode cX7_readNewName 41 = .ok (.iconst 3, 1) := by decide +kernel
theorem dX7_readNewName_42 : decode cX7_readNewName 42 = .ok (.invokevirtual 64, 3) := by decide +kernel
theorem dX7_readNewName_45 : decode cX7_readNewName 45 = .ok (.pop, 1) := by decide +kernel
theorem dX7_readNewName_46 : decode cX7_readNewName 46 = .ok (.iconst (-1), 1) := by decide +kernel
theorem dX7_readNewName_47 : decode cX7_readNewName 47 = .ok (.ireturn, 1) := by decide +kernel
theorem dX7_readNewName_48 : decode cX7_readNewName 48 = .ok (.aload_n 0, 1) := by decide +kernel
theorem dX7_readNewName_49 : decode cX7_readNewName 49 = .ok (.getfield 23, 3) := by decide +kernel
theorem dX7_readNewName_52 : decode cX7_readNewName 52 = .ok (.invokevirtual 67, 3) := by decide +kernel
theorem dX7_readNewName_55 : decode cX7_readNewName 55 = .ok (.iload_n 2, 1) := by decide +kernel
theorem dX7_readNewName_56 : decode cX7_readNewName 56 = .ok (.ireturn, 1) := by decide +kernel
theorem dX7_findCorner_0 : decode cX7_findCorner 0 = .ok (.aload_n 0, 1) := by decide +kernel
theorem dX7_findCorner_1 : decode cX7_findCorner 1 = .ok (.getfield 23, 3) := by decide +kernel
theorem dX7_findCorner_4 : decode cX7_findCorner 4 = .ok (.getfield 53, 3) := by decide +kernel
theorem dX7_findCorner_7 : decode cX7_findCorner 7 = .ok (.iconst 1, 1) := by decide +kernel
theorem dX7_findCorner_8 : decode cX7_findCorner 8 = .ok (.if_icmp .eq 11, 3) := by decide +kernel
theorem dX7_findCorner_11 : decode cX7_findCorner 11 = .ok (.aload_n 0, 1) := by decide +kernel
theorem dX7_findCorner_12 : decode cX7_findCorner 12 = .ok (.iconst 1, 1) := by decide +kernel
theorem dX7_findCorner_13 : decode cX7_findCorner 13 = .ok (.invokevirtual 64, 3) := by decide +kernel
theorem dX7_findCorner_16 : decode cX7_findCorner 16 = .ok (.pop, 1) := by decide +kernel
theorem dX7_findCorner_17 : decode cX7_findCorner 17 = .ok (.iconst (-1), 1) := by decide +kernel
theorem dX7_findCorner_18 : decode cX7_findCorner 18 = .ok (.ireturn, 1) := by decide +kernel
theorem dX7_findCorner_19 : decode cX7_findCorner 19 = .ok (.aload_n 0, 1) := by decide +kernel
theorem dX7_findCorner_20 : decode cX7_findCorner 20 = .ok (.getfield 42, 3) := by decide +kernel
theorem dX7_findCorner_23 : decode cX7_findCorner 23 = .ok (.iconst 0, 1) := by decide +kernel
theorem dX7_findCorner_24 : decode cX7_findCorner 24 = .ok (.aload_n 0, 1) := by decide +kernel
theorem dX7_findCorner_25 : decode cX7_findCorner 25 = .ok (.getfield 23, 3) := by decide +kernel
theorem dX7_findCorner_28 : decode cX7_findCorner 28 = .ok (.getfield 71, 3) := by decide +kernel
theorem dX7_findCorner_31 : decode cX7_findCorner 31 = .ok (.invokevirtual 194, 3) := by decide +kernel
theorem dX7_findCorner_34 : decode cX7_findCorner 34 = .ok (.istore_n 1, 1) := by decide +kernel
theorem dX7_findCorner_35 : decode cX7_findCorner 35 = .ok (.iload_n 1, 1) := by decide +kernel
theorem dX7_findCorner_36 : decode cX7_findCorner 36 = .ok (.iconst (-1), 1) := by decide +kernel
theorem dX7_findCorner_37 : decode cX7_findCorner 37 = .ok (.if_icmp .ne 9, 3) := by decide +kernel
theorem dX7_findCorner_40 : decode cX7_findCorner 40 = .ok (.aload_n 0, 1) := by decide +kernel
theorem dX7_findCorner_41 : decode cX7_findCorner 41 = .ok (.iconst 4, 1) := by decide +kernel
theorem dX7_findCorner_42 : decode cX7_findCorner 42 = .ok (.invokevirtual 64, 3) := by decide +kernel
theorem dX7_findCorner_45 : decode cX7_findCorner 45 = .ok (.pop, 1) := by decide +kernel
theorem dX7_findCorner_46 : decode cX7_findCorner 46 = .ok (.iload_n 1, 1) := by decide +kernel
theorem dX7_findCorner_47 : decode cX7_findCorner 47 = .ok (.ireturn, 1) := by decide +kernel
theorem dX7_readCornerName_0 : decode cX7_readCornerName 0 = .ok (.aload_n 0, 1) := by decide +kernel
theorem dX7_readCornerName_1 : decode cX7_readCornerName 1 = .ok (.invokevirtual 152, 3) := by decide +kernel
theorem dX7_readCornerName_4 : decode cX7_readCornerName 4 = .ok (.istore_n 1, 1) := by decide +kernel
theorem dX7_readCornerName_5 : decode cX7_readCornerName 5 = .ok (.iload_n 1, 1) := by decide +kernel
theorem dX7_readCornerName_6 : decode cX7_readCornerName 6 = .ok (.iconst (-1), 1) := by decide +kernel
theorem dX7_readCornerName_7 : decode cX7_readCornerName 7 = .ok (.if_icmp .eq 10, 3) := by decide +kernel
theorem dX7_readCornerName_10 : decode cX7_readCornerName 10 = .ok (.aload_n 0, 1) := by decide +kernel
theorem dX7_readCornerName_11 : decode cX7_readCornerName 11 = .ok (.getfield 23, 3) := by decide +kernel
theorem dX7_readCornerName_14 : decode cX7_readCornerName 14 = .ok (.invokevirtual 67, 3) := by decide +kernel
theorem dX7_readCornerName_17 : decode cX7_readCornerName 17 = .ok (.iload_n 1, 1) := by decide +kernel
theorem dX7_readCornerName_18 : decode cX7_readCornerName 18 = .ok (.ireturn, 1) := by decide +kernel
theorem dX7_readNumber_0 : decode cX7_readNumber 0 = .ok (.aload_n 0, 1) := by decide +kernel
theorem dX7_readNumber_1 : decode cX7_readNumber 1 = .ok (.getfield 23, 3) := by decide +kernel
theorem dX7_readNumber_4 : decode cX7_readNumber 4 = .ok (.getfield 53, 3) := by decide +kernel
theorem dX7_readNumber_7 : decode cX7_readNumber 7 = .ok (.iconst 3, 1) := by decide +kernel
theorem dX7_readNumber_8 : decode cX7_readNumber 8 = .ok (.if_icmp .eq 11, 3) := by decide +kernel
theorem dX7_readNumber_11 : decode cX7_readNumber 11 = .ok (.aload_n 0, 1) := by decide +kernel
theorem dX7_readNumber_12 : decode cX7_readNumber 12 = .ok (.iconst 1, 1) := by decide +kernel
theorem dX7_readNumber_13 : decode cX7_readNumber 13 = .ok (.invokevirtual 64, 3) := by decide +kernel
theorem dX7_readNumber_16 : decode cX7_readNumber 16 = .ok (.pop, 1) := by decide +kernel
theorem dX7_readNumber_17 : decode cX7_readNumber 17 = .ok (.iconst (-1), 1) := by decide +kernel
theorem dX7_readNumber_18 : decode cX7_readNumber 18 = .ok (.ireturn, 1) := by decide +kernel
theorem dX7_readNumber_19 : decode cX7_readNumber 19 = .ok (.aload_n 0, 1) := by decide +kernel
theorem dX7_readNumber_20 : decode cX7_readNumber 20 = .ok (.getfield 23, 3) := by decide +kernel
theorem dX7_readNumber_23 : decode cX7_readNumber 23 = .ok (.getfield 71, 3) := by decide +kernel
theorem dX7_readNumber_26 : decode cX7_readNumber 26 = .ok (.istore_n 3, 1) := by decide +kernel
theorem dX7_readNumber_27 : decode cX7_readNumber 27 = .ok (.iload_n 3, 1) := by decide +kernel
theorem dX7_readNumber_28 : decode cX7_readNumber 28 = .ok (.iload_n 1, 1) := by decide +kernel
theorem dX7_readNumber_29 : decode cX7_readNumber 29 = .ok (.if_icmp .lt 8, 3) := by decide +kernel
theorem dX7_readNumber_32 : decode cX7_readNumber 32 = .ok (.iload_n 3, 1) := by decide +kernel
theorem dX7_readNumber_33 : decode cX7_readNumber 33 = .ok (.iload_n 2, 1) := by decide +kernel
theorem dX7_readNumber_34 : decode cX7_readNumber 34 = .ok (.if_icmp .le 11, 3) := by decide +kernel
theorem dX7_readNumber_37 : decode cX7_readNumber 37 = .ok (.aload_n 0, 1) := by decide +kernel
theorem dX7_readNumber_38 : decode cX7_readNumber 38 = .ok (.iconst 2, 1) := by decide +kernel
theorem dX7_readNumber_39 : decode cX7_readNumber 39 = .ok (.invokevirtual 64, 3) := by decide +kernel
theorem dX7_readNumber_42 : decode cX7_readNumber 42 = .ok (.pop, 1) := by decide +kernel
theorem dX7_readNumber_43 : decode cX7_readNumber 43 = .ok (.iconst (-1), 1) := by decide +kernel
theorem dX7_readNumber_44 : decode cX7_readNumber 44 = .ok (.ireturn, 1) := by decide +kernel
theorem dX7_readNumber_45 : decode cX7_readNumber 45 = .ok (.aload_n 0, 1) := by decide +kernel
theorem dX7_readNumber_46 : decode cX7_readNumber 46 = .ok (.getfield 23, 3) := by decide +kernel
theorem dX7_readNumber_49 : decode cX7_readNumber 49 = .ok (.invokevirtual 67, 3) := by decide +kernel
theorem dX7_readNumber_52 : decode cX7_readNumber 52 = .ok (.iload_n 3, 1) := by decide +kernel
theorem dX7_readNumber_53 : decode cX7_readNumber 53 = .ok (.ireturn, 1) := by decide +kernel
theorem dX7_readInto_0 : decode cX7_readInto 0 = .ok (.iload_n 2, 1) := by decide +kernel
theorem dX7_readInto_1 : decode cX7_readInto 1 = .ok (.ifCond .lt 9, 3) := by decide +kernel
theorem dX7_readInto_4 : decode cX7_readInto 4 = .ok (.iload_n 2, 1) := by decide +kernel
theorem dX7_readInto_5 : decode cX7_readInto 5 = .ok (.aload_n 1, 1) := by decide +kernel
theorem dX7_readInto_6 : decode cX7_readInto 6 = .ok (.arraylength, 1) := by decide +kernel
theorem dX7_readInto_7 : decode cX7_readInto 7 = .ok (.if_icmp .lt 5, 3) := by decide +kernel
theorem dX7_readInto_10 : decode cX7_readInto 10 = .ok (.iconst 0, 1) := by decide +kernel
theorem dX7_readInto_11 : decode cX7_readInto 11 = .ok (.ireturn, 1) := by decide +kernel
theorem dX7_readInto_12 : decode cX7_readInto 12 = .ok (.aload_n 1, 1) := by decide +kernel
theorem dX7_readInto_13 : decode cX7_readInto 13 = .ok (.iload_n 2, 1) := by decide +kernel
theorem dX7_readInto_14 : decode cX7_readInto 14 = .ok (.aload_n 0, 1) := by decide +kernel
theorem dX7_readInto_15 : decode cX7_readInto 15 = .ok (.iload_n 3, 1) := by decide +kernel
theorem dX7_readInto_16 : decode cX7_readInto 16 = .ok (.iload 4, 2) := by decide +kernel
theorem dX7_readInto_18 : decode cX7_readInto 18 = .ok (.invokevirtual 135, 3) := by decide +kernel
theorem dX7_readInto_21 : decode cX7_readInto 21 = .ok (.iastore, 1) := by decide +kernel
theorem dX7_readInto_22 : decode cX7_readInto 22 = .ok (.aload_n 1, 1) := by decide +kernel
theorem dX7_readInto_23 : decode cX7_readInto 23 = .ok (.iload_n 2, 1) := by decide +kernel
theorem dX7_readInto_24 : decode cX7_readInto 24 = .ok (.iaload, 1) := by decide +kernel
theorem dX7_readInto_25 : decode cX7_readInto 25 = .ok (.iconst (-1), 1) := by decide +kernel
theorem dX7_readInto_26 : decode cX7_readInto 26 = .ok (.if_icmp .eq 7, 3) := by decide +kernel
theorem dX7_readInto_29 : decode cX7_readInto 29 = .ok (.iconst 1, 1) := by decide +kernel
theorem dX7_readInto_30 : decode cX7_readInto 30 = .ok (.goto 4, 3) := by decide +kernel
theorem dX7_readInto_33 : decode cX7_readInto 33 = .ok (.iconst 0, 1) := by decide +kernel
theorem dX7_readInto_34 : decode cX7_readInto 34 = .ok (.ireturn, 1) := by decide +kernel
theorem dX7_readOption_0 : decode cX7_readOption 0 = .ok (.iload_n 3, 1) := by decide +kernel
theorem dX7_readOption_1 : decode cX7_readOption 1 = .ok (.ifCond .lt 9, 3) := by decide +kernel
theorem dX7_readOption_4 : decode cX7_readOption 4 = .ok (.iload_n 3, 1) := by decide +kernel
theorem dX7_readOption_5 : decode cX7_readOption 5 = .ok (.aload_n 2, 1) := by decide +kernel
theorem dX7_readOption_6 : decode cX7_readOption 6 = .ok (.arraylength, 1) := by decide +kernel
theorem dX7_readOption_7 : decode cX7_readOption 7 = .ok (.if_icmp .lt 5, 3) := by decide +kernel
theorem dX7_readOption_10 : decode cX7_readOption 10 = .ok (.iconst 0, 1) := by decide +kernel
theorem dX7_readOption_11 : decode cX7_readOption 11 = .ok (.ireturn, 1) := by decide +kernel
theorem dX7_readOption_12 : decode cX7_readOption 12 = .ok (.aload_n 0, 1) := by decide +kernel
theorem dX7_readOption_13 : decode cX7_readOption 13 = .ok (.getfield 23, 3) := by decide +kernel
theorem dX7_readOption_16 : decode cX7_readOption 16 = .ok (.iload_n 1, 1) := by decide +kernel
theorem dX7_readOption_17 : decode cX7_readOption 17 = .ok (.invokevirtual 197, 3) := by decide +kernel
theorem dX7_readOption_20 : decode cX7_readOption 20 = .ok (.ifCond .ne 10, 3) := by decide +kernel
theorem dX7_readOption_23 : decode cX7_readOption 23 = .ok (.aload_n 2, 1) := by decide +kernel
theorem dX7_readOption_24 : decode cX7_readOption 24 = .ok (.iload_n 3, 1) := by decide +kernel
theorem dX7_readOption_25 : decode cX7_readOption 25 = .ok (.iload 5, 2) := by decide +kernel
theorem dX7_readOption_27 : decode cX7_readOption 27 = .ok (.iastore, 1) := by decide +kernel
theorem dX7_readOption_28 : decode cX7_readOption 28 = .ok (.iconst 1, 1) := by decide +kernel
theorem dX7_readOption_29 : decode cX7_readOption 29 = .ok (.ireturn, 1) := by decide +kernel
theorem dX7_readOption_30 : decode cX7_readOption 30 = .ok (.aload_n 0, 1) := by decide +kernel
theorem dX7_readOption_31 : decode cX7_readOption 31 = .ok (.getfield 23, 3) := by decide +kernel
theorem dX7_readOption_34 : decode cX7_readOption 34 = .ok (.invokevirtual 67, 3) := by decide +kernel
theorem dX7_readOption_37 : decode cX7_readOption 37 = .ok (.aload_n 0, 1) := by decide +kernel
theorem dX7_readOption_38 : decode cX7_readOption 38 = .ok (.aload_n 2, 1) := by decide +kernel
theorem dX7_readOption_39 : decode cX7_readOption 39 = .ok (.iload_n 3, 1) := by decide +kernel
theorem dX7_readOption_40 : decode cX7_readOption 40 = .ok (.iconst 0, 1) := by decide +kernel
theorem dX7_readOption_41 : decode cX7_readOption 41 = .ok (.iload 4, 2) := by decide +kernel
theorem dX7_readOption_43 : decode cX7_readOption 43 = .ok (.invokevirtual 117, 3) := by decide +kernel
theorem dX7_readOption_46 : decode cX7_readOption 46 = .ok (.ireturn, 1) := by decide +kernel
theorem dX8_init_0 : decode cX8_init 0 = .ok (.aload_n 0, 1) := by decide +kernel
theorem dX8_init_1 : decode cX8_init 1 = .ok (.invokespecial 3, 3) := by decide +kernel
theorem dX8_init_4 : decode cX8_init 4 = .ok (.aload_n 0, 1) := by decide +kernel
theorem dX8_init_5 : decode cX8_init 5 = .ok (.bipush 24, 2) := by decide +kernel
theorem dX8_init_7 : decode cX8_init 7 = .ok (.newarray .int, 2) := by decide +kernel
theorem dX8_init_9 : decode cX8_init 9 = .ok (.putfield 11, 3) := by decide +kernel
theorem dX8_init_12 : decode cX8_init 12 = .ok (.aload_n 0, 1) := by decide +kernel
theorem dX8_init_13 : decode cX8_init 13 = .ok (.sipush 701, 3) := by decide +kernel
theorem dX8_init_16 : decode cX8_init 16 = .ok (.newarray .int, 2) := by decide +kernel
theorem dX8_init_18 : decode cX8_init 18 = .ok (.putfield 15, 3) := by decide +kernel
theorem dX8_init_21 : decode cX8_init 21 = .ok (.aload_n 0, 1) := by decide +kernel
theorem dX8_init_22 : decode cX8_init 22 = .ok (.sipush 701, 3) := by decide +kernel
theorem dX8_init_25 : decode cX8_init 25 = .ok (.newarray .int, 2) := by decide +kernel
theorem dX8_init_27 : decode cX8_init 27 = .ok (.putfield 18, 3) := by decide +kernel
theorem dX8_init_30 : decode cX8_init 30 = .ok (.aload_n 0, 1) := by decide +kernel
theorem dX8_init_31 : decode cX8_init 31 = .ok (.sipush 701, 3) := by decide +kernel
theorem dX8_init_34 : decode cX8_init 34 = .ok (.newarray .int, 2) := by decide +kernel
theorem dX8_init_36 : decode cX8_init 36 = .ok (.putfield 21, 3) := by decide +kernel
theorem dX8_init_39 : decode cX8_init 39 = .ok (.aload_n 0, 1) := by decide +kernel
theorem dX8_init_40 : decode cX8_init 40 = .ok (.aload_n 1, 1) := by decide +kernel
theorem dX8_init_41 : decode cX8_init 41 = .ok (.putfield 24, 3) := by decide +kernel
theorem dX8_init_44 : decode cX8_init 44 = .ok (.aload_n 0, 1) := by decide +kernel
theorem dX8_init_45 : decode cX8_init 45 = .ok (.ldc 28, 2) := by decide +kernel
theorem dX8_init_47 : decode cX8_init 47 = .ok (.iconst 0, 1) := by decide +kernel
theorem dX8_init_48 : decode cX8_init 48 = .ok (.invokevirtual 30, 3) := by decide +kernel
theorem dX8_init_51 : decode cX8_init 51 = .ok (.aload_n 0, 1) := by decide +kernel
theorem dX8_init_52 : decode cX8_init 52 = .ok (.ldc 34, 2) := by decide +kernel
theorem dX8_init_54 : decode cX8_init 54 = .ok (.bipush 12, 2) := by decide +kernel
theorem dX8_init_56 : decode cX8_init 56 = .ok (.invokevirtual 30, 3) := by decide +kernel
theorem dX8_init_59 : decode cX8_init 59 = .ok (.return_, 1) := by decide +kernel
theorem dX8_writeKeys_0 : decode cX8_writeKeys 0 = .ok (.iconst 0, 1) := by decide +kernel
theorem dX8_writeKeys_1 : decode cX8_writeKeys 1 = .ok (.istore_n 3, 1) := by decide +kernel
theorem dX8_writeKeys_2 : decode cX8_writeKeys 2 = .ok (.iload_n 3, 1) := by decide +kernel
theorem dX8_writeKeys_3 : decode cX8_writeKeys 3 = .ok (.aload_n 1, 1) := by decide +kernel
theorem dX8_writeKeys_4 : decode cX8_writeKeys 4 = .ok (.invokevirtual 36, 3) := by decide +kernel
theorem dX8_writeKeys_7 : decode cX8_writeKeys 7 = .ok (.if_icmp .ge 71, 3) := by decide +kernel
theorem dX8_writeKeys_10 : decode cX8_writeKeys 10 = .ok (.iload_n 2, 1) := by decide +kernel
theorem dX8_writeKeys_11 : decode cX8_writeKeys 11 = .ok (.iload_n 3, 1) := by decide +kernel
theorem dX8_writeKeys_12 : decode cX8_writeKeys 12 = .ok (.bipush 6, 2) := by decide +kernel
theorem dX8_writeKeys_14 : decode cX8_writeKeys 14 = .ok (.idiv, 1) := by decide +kernel
theorem dX8_writeKeys_15 : decode cX8_writeKeys 15 = .ok (.iadd, 1) := by decide +kernel
theorem dX8_writeKeys_16 : decode cX8_writeKeys 16 = .ok (.bipush 24, 2) := by decide +kernel
theorem dX8_writeKeys_18 : decode cX8_writeKeys 18 = .ok (.if_icmp .ge 60, 3) := by decide +kernel
theorem dX8_writeKeys_21 : decode cX8_writeKeys 21 = .ok (.aload_n 1, 1) := by decide +kernel
theorem dX8_writeKeys_22 : decode cX8_writeKeys 22 = .ok (.iload_n 3, 1) := by decide +kernel
theorem dX8_writeKeys_23 : decode cX8_writeKeys 23 = .ok (.invokevirtual 42, 3) := by decide +kernel
theorem dX8_writeKeys_26 : decode cX8_writeKeys 26 = .ok (.istore 4, 2) := by decide +kernel
theorem dX8_writeKeys_28 : decode cX8_writeKeys 28 = .ok (.iload_n 2, 1) := by decide +kernel
theorem dX8_writeKeys_29 : decode cX8_writeKeys 29 = .ok (.iload_n 3, 1) := by decide +kernel
theorem dX8_writeKeys_30 : decode cX8_writeKeys 30 = .ok (.bipush 6, 2) := by decide +kernel
theorem dX8_writeKeys_32 : decode cX8_writeKeys 32 = .ok (.idiv, 1) := by decide +kernel
theorem dX8_writeKeys_33 : decode cX8_writeKeys 33 = .ok (.iadd, 1) := by decide +kernel
theorem dX8_writeKeys_34 : decode cX8_writeKeys 34 = .ok (.istore 5, 2) := by decide +kernel
theorem dX8_writeKeys_36 : decode cX8_writeKeys 36 = .ok (.aload_n 0, 1) := by decide +kernel
theorem dX8_writeKeys_37 : decode cX8_writeKeys 37 = .ok (.getfield 11, 3) := by decide +kernel
theorem dX8_writeKeys_40 : decode cX8_writeKeys 40 = .ok (.iload 5, 2) := by decide +kernel
theorem dX8_writeKeys_42 : decode cX8_writeKeys 42 = .ok (.aload_n 0, 1) := by decide +kernel
theorem dX8_writeKeys_43 : decode cX8_writeKeys 43 = .ok (.getfield 11, 3) := by decide +kernel
theorem dX8_writeKeys_46 : decode cX8_writeKeys 46 = .ok (.iload 5, 2) := by decide +kernel
theorem dX8_writeKeys_48 : decode cX8_writeKeys 48 = .ok (.iaload, 1) := by decide +kernel
theorem dX8_writeKeys_49 : decode cX8_writeKeys 49 = .ok (.iconst 5, 1) := by decide +kernel
theorem dX8_writeKeys_50 : decode cX8_writeKeys 50 = .ok (.ishl, 1) := by decide +kernel
theorem dX8_writeKeys_51 : decode cX8_writeKeys 51 = .ok (.iload 4, 2) := by decide +kernel
theorem dX8_writeKeys_53 : decode cX8_writeKeys 53 = .ok (.invokestatic 46, 3) := by decide +kernel
theorem dX8_writeKeys_56 : decode cX8_writeKeys 56 = .ok (.ifCond .eq 13, 3) := by decide +kernel
theorem dX8_writeKeys_59 : decode cX8_writeKeys 59 = .ok (.iload 4, 2) := by decide +kernel
theorem dX8_writeKeys_61 : decode cX8_writeKeys 61 = .ok (.bipush 97, 2) := by decide +kernel
theorem dX8_writeKeys_63 : decode cX8_writeKeys 63 = .ok (.isub, 1) := by decide +kernel
theorem dX8_writeKeys_64 : decode cX8_writeKeys 64 = .ok (.iconst 1, 1) := by decide +kernel
theorem dX8_writeKeys_65 : decode cX8_writeKeys 65 = .ok (.iadd, 1) := by decide +kernel
theorem dX8_writeKeys_66 : decode cX8_writeKeys 66 = .ok (.goto 4, 3) := by decide +kernel
theorem dX8_writeKeys_69 : decode cX8_writeKeys 69 = .ok (.iconst 0, 1) := by decide +kernel
theorem dX8_writeKeys_70 : decode cX8_writeKeys 70 = .ok (.ior, 1) := by decide +kernel
theorem dX8_writeKeys_71 : decode cX8_writeKeys 71 = .ok (.iastore, 1) := by decide +kernel
theorem dX8_writeKeys_72 : decode cX8_writeKeys 72 = .ok (.iinc 3 1, 3) := by decide +kernel
theorem dX8_writeKeys_75 : decode cX8_writeKeys 75 = .ok (.goto (-73), 3) := by decide +kernel
theorem dX8_writeKeys_78 : decode cX8_writeKeys 78 = .ok (.return_, 1) := by decide +kernel
theorem dX8_start_0 : decode cX8_start 0 = .ok (.aload_n 0, 1) := by decide +kernel
theorem dX8_start_1 : decode cX8_start 1 = .ok (.iload_n 1, 1) := by decide +kernel
theorem dX8_start_2 : decode cX8_start 2 = .ok (.aload_n 0, 1) := by decide +kernel
theorem dX8_start_3 : decode cX8_start 3 = .ok (.getfield 24, 3) := by decide +kernel
theorem dX8_start_6 : decode cX8_start 6 = .ok (.arraylength, 1) := by decide +kernel
theorem dX8_start_7 : decode cX8_start 7 = .ok (.invokestatic 50, 3) := by decide +kernel
theorem dX8_start_10 : decode cX8_start 10 = .ok (.putfield 56, 3) := by decide +kernel
theorem dX8_start_13 : decode cX8_start 13 = .ok (.aload_n 0, 1) := by decide +kernel
theorem dX8_start_14 : decode cX8_start 14 = .ok (.iconst 0, 1) := by decide +kernel
theorem dX8_start_15 : decode cX8_start 15 = .ok (.putfield 59, 3) := by decide +kernel
theorem dX8_start_18 : decode cX8_start 18 = .ok (.aload_n 0, 1) := by decide +kernel
theorem dX8_start_19 : decode cX8_start 19 = .ok (.iconst 3, 1) := by decide +kernel
theorem dX8_start_20 : decode cX8_start 20 = .ok (.putfield 62, 3) := by decide +kernel
theorem dX8_start_23 : decode cX8_start 23 = .ok (.iconst 0, 1) := by decide +kernel
theorem dX8_start_24 : decode cX8_start 24 = .ok (.istore_n 2, 1) := by decide +kernel
theorem dX8_start_25 : decode cX8_start 25 = .ok (.iload_n 2, 1) := by decide +kernel
theorem dX8_start_26 : decode cX8_start 26 = .ok (.sipush 700, 3) := by decide +kernel
theorem dX8_start_29 : decode cX8_start 29 = .ok (.if_icmp .gt 50, 3) := by decide +kernel
theorem dX8_start_32 : decode cX8_start 32 = .ok (.aload_n 0, 1) := by decide +kernel
theorem dX8_start_33 : decode cX8_start 33 = .ok (.getfield 62, 3) := by decide +kernel
theorem dX8_start_36 : decode cX8_start 36 = .ok (.ifCond .eq 43, 3) := by decide +kernel
theorem dX8_start_39 : decode cX8_start 39 = .ok (.aload_n 0, 1) := by decide +kernel
theorem dX8_start_40 : decode cX8_start 40 = .ok (.invokevirtual 65, 3) := by decide +kernel
theorem dX8_start_43 : decode cX8_start 43 = .ok (.aload_n 0, 1) := by decide +kernel
theorem dX8_start_44 : decode cX8_start 44 = .ok (.getfield 15, 3) := by decide +kernel
theorem dX8_start_47 : decode cX8_start 47 = .ok (.iload_n 2, 1) := by decide +kernel
theorem dX8_start_48 : decode cX8_start 48 = .ok (.aload_n 0, 1) := by decide +kernel
theorem dX8_start_49 : decode cX8_start 49 = .ok (.getfield 62, 3) := by decide +kernel
theorem dX8_start_52 : decode cX8_start 52 = .ok (.iastore, 1) := by decide +kernel
theorem dX8_start_53 : decode cX8_start 53 = .ok (.aload_n 0, 1) := by decide +kernel
theorem dX8_start_54 : decode cX8_start 54 = .ok (.getfield 18, 3) := by decide +kernel
theorem dX8_start_57 : decode cX8_start 57 = .ok (.iload_n 2, 1) := by decide +kernel
theorem dX8_start_58 : decode cX8_start 58 = .ok (.aload_n 0, 1) := by decide +kernel
theorem dX8_start_59 : decode cX8_start 59 = .ok (.getfield 68, 3) := by decide +kernel
theorem dX8_start_62 : decode cX8_start 62 = .ok (.iastore, 1) := by decide +kernel
theorem dX8_start_63 : decode cX8_start 63 = .ok (.aload_n 0, 1) := by decide +kernel
theorem dX8_start_64 : decode cX8_start 64 = .ok (.getfield 21, 3) := by decide +kernel
theorem dX8_start_67 : decode cX8_start 67 = .ok (.iload_n 2, 1) := by decide +kernel
theorem dX8_start_68 : decode cX8_start 68 = .ok (.aload_n 0, 1) := by decide +kernel
theorem dX8_start_69 : decode cX8_start 69 = .ok (.getfield 71, 3) := by decide +kernel
theorem dX8_start_72 : decode cX8_start 72 = .ok (.iastore, 1) := by decide +kernel
theorem dX8_start_73 : decode cX8_start 73 = .ok (.iinc 2 1, 3) := by decide +kernel
theorem dX8_start_76 : decode cX8_start 76 = .ok (.goto (-51), 3) := by decide +kernel
theorem dX8_start_79 : decode cX8_start 79 = .ok (.aload_n 0, 1) := by decide +kernel
theorem dX8_start_80 : decode cX8_start 80 = .ok (.iconst (-1), 1) := by decide +kernel
theorem dX8_start_81 : decode cX8_start 81 = .ok (.putfield 74, 3) := by decide +kernel
theorem dX8_start_84 : decode cX8_start 84 = .ok (.aload_n 0, 1) := by decide +kernel
theorem dX8_start_85 : decode cX8_start 85 = .ok (.invokevirtual 77, 3) := by decide +kernel
theorem dX8_start_88 : decode cX8_start 88 = .ok (.return_, 1) := by decide +kernel
theorem dX8_step_0 : decode cX8_step 0 = .ok (.aload_n 0, 1) := by decide +kernel
theorem dX8_step_1 : decode cX8_step 1 = .ok (.getfield 74, 3) := by decide +kernel
theorem dX8_step_4 : decode cX8_step 4 = .ok (.sipush 700, 3) := by decide +kernel
theorem dX8_step_7 : decode cX8_step 7 = .ok (.if_icmp .ge 71, 3) := by decide +kernel
theorem dX8_step_10 : decode cX8_step 10 = .ok (.aload_n 0, 1) := by decide +kernel
theorem dX8_step_11 : decode cX8_step 11 = .ok (.getfield 74, 3) := by decide +kernel
theorem dX8_step_14 : decode cX8_step 14 = .ok (.ifCond .lt 15, 3) := by decide +kernel
theorem dX8_step_17 : decode cX8_step 17 = .ok (.aload_n 0, 1) := by decide +kernel
theorem dX8_step_18 : decode cX8_step 18 = .ok (.getfield 15, 3) := by decide +kernel
theorem dX8_step_21 : decode cX8_step 21 = .ok (.aload_n 0, 1) := by decide +kernel
theorem dX8_step_22 : decode cX8_step 22 = .ok (.getfield 74, 3) := by decide +kernel
theorem dX8_step_25 : decode cX8_step 25 = .ok (.iaload, 1) := by decide +kernel
theorem dX8_step_26 : decode cX8_step 26 = .ok (.ifCond .eq 52, 3) := by decide +kernel
theorem dX8_step_29 : decode cX8_step 29 = .ok (.aload_n 0, 1) := by decide +kernel
theorem dX8_step_30 : decode cX8_step 30 = .ok (.dup, 1) := by decide +kernel
theorem dX8_step_31 : decode cX8_step 31 = .ok (.getfield 74, 3) := by decide +kernel
theorem dX8_step_34 : decode cX8_step 34 = .ok (.iconst 1, 1) := by decide +kernel
theorem dX8_step_35 : decode cX8_step 35 = .ok (.iadd, 1) := by decide +kernel
theorem dX8_step_36 : decode cX8_step 36 = .ok (.putfield 74, 3) := by decide +kernel
theorem dX8_step_39 : decode cX8_step 39 = .ok (.aload_n 0, 1) := by decide +kernel
theorem dX8_step_40 : decode cX8_step 40 = .ok (.aload_n 0, 1) := by decide +kernel
theorem dX8_step_41 : decode cX8_step 41 = .ok (.getfield 15, 3) := by decide +kernel
theorem dX8_step_44 : decode cX8_step 44 = .ok (.aload_n 0, 1) := by decide +kernel
theorem dX8_step_45 : decode cX8_step 45 = .ok (.getfield 74, 3) := by decide +kernel
theorem dX8_step_48 : decode cX8_step 48 = .ok (.iaload, 1) := by decide +kernel
theorem dX8_step_49 : decode cX8_step 49 = .ok (.putfield 62, 3) := by decide +kernel
theorem dX8_step_52 : decode cX8_step 52 = .ok (.aload_n 0, 1) := by decide +kernel
theorem dX8_step_53 : decode cX8_step 53 = .ok (.aload_n 0, 1) := by decide +kernel
theorem dX8_step_54 : decode cX8_step 54 = .ok (.getfield 18, 3) := by decide +kernel
theorem dX8_step_57 : decode cX8_step 57 = .ok (.aload_n 0, 1) := by decide +kernel
theorem dX8_step_58 : decode cX8_step 58 = .ok (.getfield 74, 3) := by decide +kernel
theorem dX8_step_61 : decode cX8_step 61 = .ok (.iaload, 1) := by decide +kernel
theorem dX8_step_62 : decode cX8_step 62 = .ok (.putfield 68, 3) := by decide +kernel
theorem dX8_step_65 : decode cX8_step 65 = .ok (.aload_n 0, 1) := by decide +kernel
theorem dX8_step_66 : decode cX8_step 66 = .ok (.aload_n 0, 1) := by decide +kernel
theorem dX8_step_67 : decode cX8_step 67 = .ok (.getfield 21, 3) := by decide +kernel
theorem dX8_step_70 : decode cX8_step 70 = .ok (.aload_n 0, 1) := by decide +kernel
theorem dX8_step_71 : decode cX8_step 71 = .ok (.getfield 74, 3) := by decide +kernel
theorem dX8_step_74 : decode cX8_step 74 = .ok (.iaload, 1) := by decide +kernel
theorem dX8_step_75 : decode cX8_step 75 = .ok (.putfield 71, 3) := by decide +kernel
theorem dX8_step_78 : decode cX8_step 78 = .ok (.return_, 1) := by decide +kernel
theorem dX8_isKey_0 : decode cX8_isKey 0 = .ok (.aload_n 0, 1) := by decide +kernel
theorem dX8_isKey_1 : decode cX8_isKey 1 = .ok (.getfield 62, 3) := by decide +kernel
theorem dX8_isKey_4 : decode cX8_isKey 4 = .ok (.iconst 2, 1) := by decide +kernel
theorem dX8_isKey_5 : decode cX8_isKey 5 = .ok (.if_icmp .ne 15, 3) := by decide +kernel
theorem dX8_isKey_8 : decode cX8_isKey 8 = .ok (.aload_n 0, 1) := by decide +kernel
theorem dX8_isKey_9 : decode cX8_isKey 9 = .ok (.getfield 68, 3) := by decide +kernel
theorem dX8_isKey_12 : decode cX8_isKey 12 = .ok (.iload_n 1, 1) := by decide +kernel
theorem dX8_isKey_13 : decode cX8_isKey 13 = .ok (.if_icmp .ne 7, 3) := by decide +kernel
theorem dX8_isKey_16 : decode cX8_isKey 16 = .ok (.iconst 1, 1) := by decide +kernel
theorem dX8_isKey_17 : decode cX8_isKey 17 = .ok (.goto 4, 3) := by decide +kernel
theorem dX8_isKey_20 : decode cX8_isKey 20 = .ok (.iconst 0, 1) := by decide +kernel
theorem dX8_isKey_21 : decode cX8_isKey 21 = .ok (.ireturn, 1) := by decide +kernel
theorem dX8_isSign_0 : decode cX8_isSign 0 = .ok (.aload_n 0, 1) := by decide +kernel
theorem dX8_isSign_1 : decode cX8_isSign 1 = .ok (.getfield 62, 3) := by decide +kernel
theorem dX8_isSign_4 : decode cX8_isSign 4 = .ok (.iconst 4, 1) := by decide +kernel
theorem dX8_isSign_5 : decode cX8_isSign 5 = .ok (.if_icmp .ne 15, 3) := by decide +kernel
theorem dX8_isSign_8 : decode cX8_isSign 8 = .ok (.aload_n 0, 1) := by decide +kernel
theorem dX8_isSign_9 : decode cX8_isSign 9 = .ok (.getfield 68, 3) := by decide +kernel
theorem dX8_isSign_12 : decode cX8_isSign 12 = .ok (.iload_n 1, 1) := by decide +kernel
theorem dX8_isSign_13 : decode cX8_isSign 13 = .ok (.if_icmp .ne 7, 3) := by decide +kernel
theorem dX8_isSign_16 : decode cX8_isSign 16 = .ok (.iconst 1, 1) := by decide +kernel
theorem dX8_isSign_17 : decode cX8_isSign 17 = .ok (.goto 4, 3) := by decide +kernel
theorem dX8_isSign_20 : decode cX8_isSign 20 = .ok (.iconst 0, 1) := by decide +kernel
theorem dX8_isSign_21 : decode cX8_isSign 21 = .ok (.ireturn, 1) := by decide +kernel
theorem dX8_cut_0 : decode cX8_cut 0 = .ok (.aload_n 0, 1) := by decide +kernel
theorem dX8_cut_1 : decode cX8_cut 1 = .ok (.getfield 59, 3) := by decide +kernel
theorem dX8_cut_4 : decode cX8_cut 4 = .ok (.aload_n 0, 1) := by decide +kernel
theorem dX8_cut_5 : decode cX8_cut 5 = .ok (.getfield 56, 3) := by decide +kernel
theorem dX8_cut_8 : decode cX8_cut 8 = .ok (.if_icmp .ge 44, 3) := by decide +kernel
theorem dX8_cut_11 : decode cX8_cut 11 = .ok (.aload_n 0, 1) := by decide +kernel
theorem dX8_cut_12 : decode cX8_cut 12 = .ok (.getfield 24, 3) := by decide +kernel
theorem dX8_cut_15 : decode cX8_cut 15 = .ok (.aload_n 0, 1) := by decide +kernel
theorem dX8_cut_16 : decode cX8_cut 16 = .ok (.getfield 59, 3) := by decide +kernel
theorem dX8_cut_19 : decode cX8_cut 19 = .ok (.baload, 1) := by decide +kernel
theorem dX8_cut_20 : decode cX8_cut 20 = .ok (.bipush 10, 2) := by decide +kernel
theorem dX8_cut_22 : decode cX8_cut 22 = .ok (.if_icmp .eq 17, 3) := by decide +kernel
theorem dX8_cut_25 : decode cX8_cut 25 = .ok (.aload_n 0, 1) := by decide +kernel
theorem dX8_cut_26 : decode cX8_cut 26 = .ok (.getfield 24, 3) := by decide +kernel
theorem dX8_cut_29 : decode cX8_cut 29 = .ok (.aload_n 0, 1) := by decide +kernel
theorem dX8_cut_30 : decode cX8_cut 30 = .ok (.getfield 59, 3) := by decide +kernel
theorem dX8_cut_33 : decode cX8_cut 33 = .ok (.baload, 1) := by decide +kernel
theorem dX8_cut_34 : decode cX8_cut 34 = .ok (.bipush 32, 2) := by decide +kernel
theorem dX8_cut_36 : decode cX8_cut 36 = .ok (.if_icmp .ne 16, 3) := by decide +kernel
theorem dX8_cut_39 : decode cX8_cut 39 = .ok (.aload_n 0, 1) := by decide +kernel
theorem dX8_cut_40 : decode cX8_cut 40 = .ok (.dup, 1) := by decide +kernel
theorem dX8_cut_41 : decode cX8_cut 41 = .ok (.getfield 59, 3) := by decide +kernel
theorem dX8_cut_44 : decode cX8_cut 44 = .ok (.iconst 1, 1) := by decide +kernel
theorem dX8_cut_45 : decode cX8_cut 45 = .ok (.iadd, 1) := by decide +kernel
theorem dX8_cut_46 : decode cX8_cut 46 = .ok (.putfield 59, 3) := by decide +kernel
theorem dX8_cut_49 : decode cX8_cut 49 = .ok (.goto (-49), 3) := by decide +kernel
theorem dX8_cut_52 : decode cX8_cut 52 = .ok (.aload_n 0, 1) := by decide +kernel
theorem dX8_cut_53 : decode cX8_cut 53 = .ok (.aload_n 0, 1) := by decide +kernel
theorem dX8_cut_54 : decode cX8_cut 54 = .ok (.getfield 59, 3) := by decide +kernel
theorem dX8_cut_57 : decode cX8_cut 57 = .ok (.putfield 71, 3) := by decide +kernel
theorem dX8_cut_60 : decode cX8_cut 60 = .ok (.aload_n 0, 1) := by decide +kernel
theorem dX8_cut_61 : decode cX8_cut 61 = .ok (.getfield 59, 3) := by decide +kernel
theorem dX8_cut_64 : decode cX8_cut 64 = .ok (.aload_n 0, 1) := by decide +kernel
theorem dX8_cut_65 : decode cX8_cut 65 = .ok (.getfield 56, 3) := by decide +kernel
theorem dX8_cut_68 : decode cX8_cut 68 = .ok (.if_icmp .lt 11, 3) := by decide +kernel
theorem dX8_cut_71 : decode cX8_cut 71 = .ok (.aload_n 0, 1) := by decide +kernel
theorem dX8_cut_72 : decode cX8_cut 72 = .ok (.iconst 0, 1) := by decide +kernel
theorem dX8_cut_73 : decode cX8_cut 73 = .ok (.putfield 62, 3) := by decide +kernel
theorem dX8_cut_76 : decode cX8_cut 76 = .ok (.goto 51, 3) := by decide +kernel
theorem dX8_cut_79 : decode cX8_cut 79 = .ok (.aload_n 0, 1) := by decide +kernel
theorem dX8_cut_80 : decode cX8_cut 80 = .ok (.getfield 24, 3) := by decide +kernel
theorem dX8_cut_83 : decode cX8_cut 83 = .ok (.aload_n 0, 1) := by decide +kernel
theorem dX8_cut_84 : decode cX8_cut 84 = .ok (.getfield 59, 3) := by decide +kernel
theorem dX8_cut_87 : decode cX8_cut 87 = .ok (.baload, 1) := by decide +kernel
theorem dX8_cut_88 : decode cX8_cut 88 = .ok (.invokestatic 46, 3) := by decide +kernel
theorem dX8_cut_91 : decode cX8_cut 91 = .ok (.ifCond .eq 10, 3) := by decide +kernel
theorem dX8_cut_94 : decode cX8_cut 94 = .ok (.aload_n 0, 1) := by decide +kernel
theorem dX8_cut_95 : decode cX8_cut 95 = .ok (.invokevirtual 80, 3) := by decide +kernel
theorem dX8_cut_98 : decode cX8_cut 98 = .ok (.goto 29, 3) := by decide +kernel
theorem dX8_cut_101 : decode cX8_cut 101 = .ok (.aload_n 0, 1) := by decide +kernel
theorem dX8_cut_102 : decode cX8_cut 102 = .ok (.getfield 24, 3) := by decide +kernel
theorem dX8_cut_105 : decode cX8_cut 105 = .ok (.aload_n 0, 1) := by decide +kernel
theorem dX8_cut_106 : decode cX8_cut 106 = .ok (.getfield 59, 3) := by decide +kernel
theorem dX8_cut_109 : decode cX8_cut 109 = .ok (.baload, 1) := by decide +kernel
theorem dX8_cut_110 : decode cX8_cut 110 = .ok (.invokestatic 83, 3) := by decide +kernel
theorem dX8_cut_113 : decode cX8_cut 113 = .ok (.ifCond .eq 10, 3) := by decide +kernel
theorem dX8_cut_116 : decode cX8_cut 116 = .ok (.aload_n 0, 1) := by decide +kernel
theorem dX8_cut_117 : decode cX8_cut 117 = .ok (.invokevirtual 86, 3) := by decide +kernel
theorem dX8_cut_120 : decode cX8_cut 120 = .ok (.goto 7, 3) := by decide +kernel
theorem dX8_cut_123 : decode cX8_cut 123 = .ok (.aload_n 0, 1) := by decide +kernel
theorem dX8_cut_124 : decode cX8_cut 124 = .ok (.invokevirtual 89, 3) := by decide +kernel
theorem dX8_cut_127 : decode cX8_cut 127 = .ok (.return_, 1) := by decide +kernel
theorem dX8_isLetter_0 : decode cX8_isLetter 0 = .ok (.iload_n 0, 1) := by decide +kernel
theorem dX8_isLetter_1 : decode cX8_isLetter 1 = .ok (.bipush 97, 2) := by decide +kernel
theorem dX8_isLetter_3 : decode cX8_isLetter 3 = .ok (.if_icmp .lt 13, 3) := by decide +kernel
theorem dX8_isLetter_6 : decode cX8_isLetter 6 = .ok (.iload_n 0, 1) := by decide +kernel
theorem dX8_isLetter_7 : decode cX8_isLetter 7 = .ok (.bipush 122, 2) := by decide +kernel
theorem dX8_isLetter_9 : decode cX8_isLetter 9 = .ok (.if_icmp .gt 7, 3) := by decide +kernel
theorem dX8_isLetter_12 : decode cX8_isLetter 12 = .ok (.iconst 1, 1) := by decide +kernel
theorem dX8_isLetter_13 : decode cX8_isLetter 13 = .ok (.goto 4, 3) := by decide +kernel
theorem dX8_isLetter_16 : decode cX8_isLetter 16 = .ok (.iconst 0, 1) := by decide +kernel
theorem dX8_isLetter_17 : decode cX8_isLetter 17 = .ok (.ireturn, 1) := by decide +kernel
theorem dX8_isDigit_0 : decode cX8_isDigit 0 = .ok (.iload_n 0, 1) := by decide +kernel
theorem dX8_isDigit_1 : decode cX8_isDigit 1 = .ok (.bipush 48, 2) := by decide +kernel
theorem dX8_isDigit_3 : decode cX8_isDigit 3 = .ok (.if_icmp .lt 13, 3) := by decide +kernel
theorem dX8_isDigit_6 : decode cX8_isDigit 6 = .ok (.iload_n 0, 1) := by decide +kernel
theorem dX8_isDigit_7 : decode cX8_isDigit 7 = .ok (.bipush 57, 2) := by decide +kernel
theorem dX8_isDigit_9 : decode cX8_isDigit 9 = .ok (.if_icmp .gt 7, 3) := by decide +kernel
theorem dX8_isDigit_12 : decode cX8_isDigit 12 = .ok (.iconst 1, 1) := by decide +kernel
theorem dX8_isDigit_13 : decode cX8_isDigit 13 = .ok (.goto 4, 3) := by decide +kernel
theorem dX8_isDigit_16 : decode cX8_isDigit 16 = .ok (.iconst 0, 1) := by decide +kernel
theorem dX8_isDigit_17 : decode cX8_isDigit 17 = .ok (.ireturn, 1) := by decide +kernel
theorem dX8_cutWord_0 : decode cX8_cutWord 0 = .ok (.iconst 0, 1) := by decide +kernel
theorem dX8_cutWord_1 : decode cX8_cutWord 1 = .ok (.istore_n 1, 1) := by decide +kernel
theorem dX8_cutWord_2 : decode cX8_cutWord 2 = .ok (.aload_n 0, 1) := by decide +kernel
theorem dX8_cutWord_3 : decode cX8_cutWord 3 = .ok (.iconst 0, 1) := by decide +kernel
theorem dX8_cutWord_4 : decode cX8_cutWord 4 = .ok (.putfield 68, 3) := by decide +kernel
theorem dX8_cutWord_7 : decode cX8_cutWord 7 = .ok (.aload_n 0, 1) := by decide +kernel
theorem dX8_cutWord_8 : decode cX8_cutWord 8 = .ok (.getfield 59, 3) := by decide +kernel
theorem dX8_cutWord_11 : decode cX8_cutWord 11 = .ok (.aload_n 0, 1) := by decide +kernel
theorem dX8_cutWord_12 : decode cX8_cutWord 12 = .ok (.getfield 56, 3) := by decide +kernel
theorem dX8_cutWord_15 : decode cX8_cutWord 15 = .ok (.if_icmp .ge 69, 3) := by decide +kernel
theorem dX8_cutWord_18 : decode cX8_cutWord 18 = .ok (.aload_n 0, 1) := by decide +kernel
theorem dX8_cutWord_19 : decode cX8_cutWord 19 = .ok (.getfield 24, 3) := by decide +kernel
theorem dX8_cutWord_22 : decode cX8_cutWord 22 = .ok (.aload_n 0, 1) := by decide +kernel
theorem dX8_cutWord_23 : decode cX8_cutWord 23 = .ok (.getfield 59, 3) := by decide +kernel
theorem dX8_cutWord_26 : decode cX8_cutWord 26 = .ok (.baload, 1) := by decide +kernel
theorem dX8_cutWord_27 : decode cX8_cutWord 27 = .ok (.invokestatic 46, 3) := by decide +kernel
theorem dX8_cutWord_30 : decode cX8_cutWord 30 = .ok (.ifCond .eq 54, 3) := by decide +kernel
theorem dX8_cutWord_33 : decode cX8_cutWord 33 = .ok (.iload_n 1, 1) := by decide +kernel
theorem dX8_cutWord_34 : decode cX8_cutWord 34 = .ok (.bipush 6, 2) := by decide +kernel
theorem dX8_cutWord_36 : decode cX8_cutWord 36 = .ok (.if_icmp .ge 32, 3) := by decide +kernel
theorem dX8_cutWord_39 : decode cX8_cutWord 39 = .ok (.aload_n 0, 1) := by decide +kernel
theorem dX8_cutWord_40 : decode cX8_cutWord 40 = .ok (.dup, 1) := by decide +kernel
theorem dX8_cutWord_41 : decode cX8_cutWord 41 = .ok (.getfield 68, 3) := by decide +kernel
theorem dX8_cutWord_44 : decode cX8_cutWord 44 = .ok (.aload_n 0, 1) := by decide +kernel
theorem dX8_cutWord_45 : decode cX8_cutWord 45 = .ok (.getfield 24, 3) := by decide +kernel
theorem dX8_cutWord_48 : decode cX8_cutWord 48 = .ok (.aload_n 0, 1) := by decide +kernel
theorem dX8_cutWord_49 : decode cX8_cutWord 49 = .ok (.getfield 59, 3) := by decide +kernel
theorem dX8_cutWord_52 : decode cX8_cutWord 52 = .ok (.baload, 1) := by decide +kernel
theorem dX8_cutWord_53 : decode cX8_cutWord 53 = .ok (.bipush 97, 2) := by decide +kernel
theorem dX8_cutWord_55 : decode cX8_cutWord 55 = .ok (.isub, 1) := by decide +kernel
theorem dX8_cutWord_56 : decode cX8_cutWord 56 = .ok (.iconst 1, 1) := by decide +kernel
theorem dX8_cutWord_57 : decode cX8_cutWord 57 = .ok (.iadd, 1) := by decide +kernel
theorem dX8_cutWord_58 : decode cX8_cutWord 58 = .ok (.iconst 5, 1) := by decide +kernel
theorem dX8_cutWord_59 : decode cX8_cutWord 59 = .ok (.iconst 5, 1) := by decide +kernel
theorem dX8_cutWord_60 : decode cX8_cutWord 60 = .ok (.iload_n 1, 1) := by decide +kernel
theorem dX8_cutWord_61 : decode cX8_cutWord 61 = .ok (.isub, 1) := by decide +kernel
theorem dX8_cutWord_62 : decode cX8_cutWord 62 = .ok (.imul, 1) := by decide +kernel
theorem dX8_cutWord_63 : decode cX8_cutWord 63 = .ok (.ishl, 1) := by decide +kernel
theorem dX8_cutWord_64 : decode cX8_cutWord 64 = .ok (.ior, 1) := by decide +kernel
theorem dX8_cutWord_65 : decode cX8_cutWord 65 = .ok (.putfield 68, 3) := by decide +kernel
theorem dX8_cutWord_68 : decode cX8_cutWord 68 = .ok (.iinc 1 1, 3) := by decide +kernel
theorem dX8_cutWord_71 : decode cX8_cutWord 71 = .ok (.aload_n 0, 1) := by decide +kernel
theorem dX8_cutWord_72 : decode cX8_cutWord 72 = .ok (.dup, 1) := by decide +kernel
theorem dX8_cutWord_73 : decode cX8_cutWord 73 = .ok (.getfield 59, 3) := by decide +kernel
theorem dX8_cutWord_76 : decode cX8_cutWord 76 = .ok (.iconst 1, 1) := by decide +kernel
theorem dX8_cutWord_77 : decode cX8_cutWord 77 = .ok (.iadd, 1) := by decide +kernel
theorem dX8_cutWord_78 : decode cX8_cutWord 78 = .ok (.putfield 59, 3) := by decide +kernel
theorem dX8_cutWord_81 : decode cX8_cutWord 81 = .ok (.goto (-74), 3) := by decide +kernel
theorem dX8_cutWord_84 : decode cX8_cutWord 84 = .ok (.aload_n 0, 1) := by decide +kernel
theorem dX8_cutWord_85 : decode cX8_cutWord 85 = .ok (.iload_n 1, 1) := by decide +kernel
theorem dX8_cutWord_86 : decode cX8_cutWord 86 = .ok (.bipush 6, 2) := by decide +kernel
theorem dX8_cutWord_88 : decode cX8_cutWord 88 = .ok (.if_icmp .le 7, 3) := by decide +kernel
theorem dX8_cutWord_91 : decode cX8_cutWord 91 = .ok (.iconst 5, 1) := by decide +kernel
theorem dX8_cutWord_92 : decode cX8_cutWord 92 = .ok (.goto 4, 3) := by decide +kernel
theorem dX8_cutWord_95 : decode cX8_cutWord 95 = .ok (.iconst 1, 1) := by decide +kernel
theorem dX8_cutWord_96 : decode cX8_cutWord 96 = .ok (.putfield 62, 3) := by decide +kernel
theorem dX8_cutWord_99 : decode cX8_cutWord 99 = .ok (.iconst 0, 1) := by decide +kernel
theorem dX8_cutWord_100 : decode cX8_cutWord 100 = .ok (.istore_n 2, 1) := by decide +kernel
theorem dX8_cutWord_101 : decode cX8_cutWord 101 = .ok (.aload_n 0, 1) := by decide +kernel
theorem dX8_cutWord_102 : decode cX8_cutWord 102 = .ok (.getfield 62, 3) := by decide +kernel
theorem dX8_cutWord_105 : decode cX8_cutWord 105 = .ok (.iconst 1, 1) := by decide +kernel
theorem dX8_cutWord_106 : decode cX8_cutWord 106 = .ok (.if_icmp .ne 38, 3) := by decide +kernel
theorem dX8_cutWord_109 : decode cX8_cutWord 109 = .ok (.iload_n 2, 1) := by decide +kernel
theorem dX8_cutWord_110 : decode cX8_cutWord 110 = .ok (.bipush 24, 2) := by decide +kernel
theorem dX8_cutWord_112 : decode cX8_cutWord 112 = .ok (.if_icmp .ge 32, 3) := by decide +kernel
theorem dX8_cutWord_115 : decode cX8_cutWord 115 = .ok (.aload_n 0, 1) := by decide +kernel
theorem dX8_cutWord_116 : decode cX8_cutWord 116 = .ok (.getfield 11, 3) := by decide +kernel
theorem dX8_cutWord_119 : decode cX8_cutWord 119 = .ok (.iload_n 2, 1) := by decide +kernel
theorem dX8_cutWord_120 : decode cX8_cutWord 120 = .ok (.iaload, 1) := by decide +kernel
theorem dX8_cutWord_121 : decode cX8_cutWord 121 = .ok (.aload_n 0, 1) := by decide +kernel
theorem dX8_cutWord_122 : decode cX8_cutWord 122 = .ok (.getfield 68, 3) := by decide +kernel
theorem dX8_cutWord_125 : decode cX8_cutWord 125 = .ok (.if_icmp .ne 13, 3) := by decide +kernel
theorem dX8_cutWord_128 : decode cX8_cutWord 128 = .ok (.aload_n 0, 1) := by decide +kernel
theorem dX8_cutWord_129 : decode cX8_cutWord 129 = .ok (.iconst 2, 1) := by decide +kernel
theorem dX8_cutWord_130 : decode cX8_cutWord 130 = .ok (.putfield 62, 3) := by decide +kernel
theorem dX8_cutWord_133 : decode cX8_cutWord 133 = .ok (.aload_n 0, 1) := by decide +kernel
theorem dX8_cutWord_134 : decode cX8_cutWord 134 = .ok (.iload_n 2, 1) := by decide +kernel
theorem dX8_cutWord_135 : decode cX8_cutWord 135 = .ok (.putfield 68, 3) := by decide +kernel
theorem dX8_cutWord_138 : decode cX8_cutWord 138 = .ok (.iinc 2 1, 3) := by decide +kernel
theorem dX8_cutWord_141 : decode cX8_cutWord 141 = .ok (.goto (-40), 3) := by decide +kernel
theorem dX8_cutWord_144 : decode cX8_cutWord 144 = .ok (.return_, 1) := by decide +kernel
theorem dX8_cutNumber_0 : decode cX8_cutNumber 0 = .ok (.aload_n 0, 1) := by decide +kernel
theorem dX8_cutNumber_1 : decode cX8_cutNumber 1 = .ok (.iconst 3, 1) := by decide +kernel
theorem dX8_cutNumber_2 : decode cX8_cutNumber 2 = .ok (.putfield 62, 3) := by decide +kernel
theorem dX8_cutNumber_5 : decode cX8_cutNumber 5 = .ok (.aload_n 0, 1) := by decide +kernel
theorem dX8_cutNumber_6 : decode cX8_cutNumber 6 = .ok (.iconst 0, 1) := by decide +kernel
theorem dX8_cutNumber_7 : decode cX8_cutNumber 7 = .ok (.putfield 68, 3) := by decide +kernel
theorem dX8_cutNumber_10 : decode cX8_cutNumber 10 = .ok (.aload_n 0, 1) := by decide +kernel
theorem dX8_cutNumber_11 : decode cX8_cutNumber 11 = .ok (.getfield 59, 3) := by decide +kernel
theorem dX8_cutNumber_14 : decode cX8_cutNumber 14 = .ok (.aload_n 0, 1) := by decide +kernel
theorem dX8_cutNumber_15 : decode cX8_cutNumber 15 = .ok (.getfield 56, 3) := by decide +kernel
theorem dX8_cutNumber_18 : decode cX8_cutNumber 18 = .ok (.if_icmp .ge 60, 3) := by decide +kernel
theorem dX8_cutNumber_21 : decode cX8_cutNumber 21 = .ok (.aload_n 0, 1) := by decide +kernel
theorem dX8_cutNumber_22 : decode cX8_cutNumber 22 = .ok (.getfield 24, 3) := by decide +kernel
theorem dX8_cutNumber_25 : decode cX8_cutNumber 25 = .ok (.aload_n 0, 1) := by decide +kernel
theorem dX8_cutNumber_26 : decode cX8_cutNumber 26 = .ok (.getfield 59, 3) := by decide +kernel
theorem dX8_cutNumber_29 : decode cX8_cutNumber 29 = .ok (.baload, 1) := by decide +kernel
theorem dX8_cutNumber_30 : decode cX8_cutNumber 30 = .ok (.invokestatic 83, 3) := by decide +kernel
theorem dX8_cutNumber_33 : decode cX8_cutNumber 33 = .ok (.ifCond .eq 45, 3) := by decide +kernel
theorem dX8_cutNumber_36 : decode cX8_cutNumber 36 = .ok (.aload_n 0, 1) := by decide +kernel
theorem dX8_cutNumber_37 : decode cX8_cutNumber 37 = .ok (.ldc 92, 2) := by decide +kernel
theorem dX8_cutNumber_39 : decode cX8_cutNumber 39 = .ok (.aload_n 0, 1) := by decide +kernel
theorem dX8_cutNumber_40 : decode cX8_cutNumber 40 = .ok (.getfield 68, 3) := by decide +kernel
theorem dX8_cutNumber_43 : decode cX8_cutNumber 43 = .ok (.bipush 10, 2) := by decide +kernel
theorem dX8_cutNumber_45 : decode cX8_cutNumber 45 = .ok (.imul, 1) := by decide +kernel
theorem dX8_cutNumber_46 : decode cX8_cutNumber 46 = .ok (.aload_n 0, 1) := by decide +kernel
theorem dX8_cutNumber_47 : decode cX8_cutNumber 47 = .ok (.getfield 24, 3) := by decide +kernel
theorem dX8_cutNumber_50 : decode cX8_cutNumber 50 = .ok (.aload_n 0, 1) := by decide +kernel
theorem dX8_cutNumber_51 : decode cX8_cutNumber 51 = .ok (.getfield 59, 3) := by decide +kernel
theorem dX8_cutNumber_54 : decode cX8_cutNumber 54 = .ok (.baload, 1) := by decide +kernel
theorem dX8_cutNumber_55 : decode cX8_cutNumber 55 = .ok (.iadd, 1) := by decide +kernel
theorem dX8_cutNumber_56 : decode cX8_cutNumber 56 = .ok (.bipush 48, 2) := by decide +kernel
theorem dX8_cutNumber_58 : decode cX8_cutNumber 58 = .ok (.isub, 1) := by decide +kernel
theorem dX8_cutNumber_59 : decode cX8_cutNumber 59 = .ok (.invokestatic 50, 3) := by decide +kernel
theorem dX8_cutNumber_62 : decode cX8_cutNumber 62 = .ok (.putfield 68, 3) := by decide +kernel
theorem dX8_cutNumber_65 : decode cX8_cutNumber 65 = .ok (.aload_n 0, 1) := by decide +kernel
theorem dX8_cutNumber_66 : decode cX8_cutNumber 66 = .ok (.dup, 1) := by decide +kernel
theorem dX8_cutNumber_67 : decode cX8_cutNumber 67 = .ok (.getfield 59, 3) := by decide +kernel
theorem dX8_cutNumber_70 : decode cX8_cutNumber 70 = .ok (.iconst 1, 1) := by decide +kernel
theorem dX8_cutNumber_71 : decode cX8_cutNumber 71 = .ok (.iadd, 1) := by decide +kernel
theorem dX8_cutNumber_72 : decode cX8_cutNumber 72 = .ok (.putfield 59, 3) := by decide +kernel
theorem dX8_cutNumber_75 : decode cX8_cutNumber 75 = .ok (.goto (-65), 3) := by decide +kernel
theorem dX8_cutNumber_78 : decode cX8_cutNumber 78 = .ok (.return_, 1) := by decide +kernel
theorem dX8_cutSign_0 : decode cX8_cutSign 0 = .ok (.aload_n 0, 1) := by decide +kernel
theorem dX8_cutSign_1 : decode cX8_cutSign 1 = .ok (.getfield 24, 3) := by decide +kernel
theorem dX8_cutSign_4 : decode cX8_cutSign 4 = .ok (.aload_n 0, 1) := by decide +kernel
theorem dX8_cutSign_5 : decode cX8_cutSign 5 = .ok (.getfield 59, 3) := by decide +kernel
theorem dX8_cutSign_8 : decode cX8_cutSign 8 = .ok (.baload, 1) := by decide +kernel
theorem dX8_cutSign_9 : decode cX8_cutSign 9 = .ok (.istore_n 1, 1) := by decide +kernel
theorem dX8_cutSign_10 : decode cX8_cutSign 10 = .ok (.aload_n 0, 1) := by decide +kernel
theorem dX8_cutSign_11 : decode cX8_cutSign 11 = .ok (.dup, 1) := by decide +kernel
theorem dX8_cutSign_12 : decode cX8_cutSign 12 = .ok (.getfield 59, 3) := by decide +kernel
theorem dX8_cutSign_15 : decode cX8_cutSign 15 = .ok (.iconst 1, 1) := by decide +kernel
theorem dX8_cutSign_16 : decode cX8_cutSign 16 = .ok (.iadd, 1) := by decide +kernel
theorem dX8_cutSign_17 : decode cX8_cutSign 17 = .ok (.putfield 59, 3) := by decide +kernel
theorem dX8_cutSign_20 : decode cX8_cutSign 20 = .ok (.aload_n 0, 1) := by decide +kernel
theorem dX8_cutSign_21 : decode cX8_cutSign 21 = .ok (.iconst 4, 1) := by decide +kernel
theorem dX8_cutSign_22 : decode cX8_cutSign 22 = .ok (.putfield 62, 3) := by decide +kernel
theorem dX8_cutSign_25 : decode cX8_cutSign 25 = .ok (.iload_n 1, 1) := by decide +kernel
theorem dX8_cutSign_26 : decode cX8_cutSign 26 = .ok (.tableswitch 237 40 62 #[115, 124, 151, 133, 237, 142, 237, 160, 237, 237, 237, 237, 237, 237, 237, 237, 237, 237, 237, 106, 178, 169, 214], 106) := by decide +kernel
theorem dX8_cutSign_132 : decode cX8_cutSign 132 = .ok (.aload_n 0, 1) := by decide +kernel
theorem dX8_cutSign_133 : decode cX8_cutSign 133 = .ok (.bipush 30, 2) := by decide +kernel
theorem dX8_cutSign_135 : decode cX8_cutSign 135 = .ok (.putfield 68, 3) := by decide +kernel
theorem dX8_cutSign_138 : decode cX8_cutSign 138 = .ok (.goto 130, 3) := by decide +kernel
theorem dX8_cutSign_141 : decode cX8_cutSign 141 = .ok (.aload_n 0, 1) := by decide +kernel
theorem dX8_cutSign_142 : decode cX8_cutSign 142 = .ok (.bipush 31, 2) := by decide +kernel
theorem dX8_cutSign_144 : decode cX8_cutSign 144 = .ok (.putfield 68, 3) := by decide +kernel
theorem dX8_cutSign_147 : decode cX8_cutSign 147 = .ok (.goto 121, 3) := by decide +kernel
theorem dX8_cutSign_150 : decode cX8_cutSign 150 = .ok (.aload_n 0, 1) := by decide +kernel
theorem dX8_cutSign_151 : decode cX8_cutSign 151 = .ok (.bipush 32, 2) := by decide +kernel
theorem dX8_cutSign_153 : decode cX8_cutSign 153 = .ok (.putfield 68, 3) := by decide +kernel
theorem dX8_cutSign_156 : decode cX8_cutSign 156 = .ok (.goto 112, 3) := by decide +kernel
theorem dX8_cutSign_159 : decode cX8_cutSign 159 = .ok (.aload_n 0, 1) := by decide +kernel
theorem dX8_cutSign_160 : decode cX8_cutSign 160 = .ok (.bipush 11, 2) := by decide +kernel
theorem dX8_cutSign_162 : decode cX8_cutSign 162 = .ok (.putfield 68, 3) := by decide +kernel
theorem dX8_cutSign_165 : decode cX8_cutSign 165 = .ok (.goto 103, 3) := by decide +kernel
theorem dX8_cutSign_168 : decode cX8_cutSign 168 = .ok (.aload_n 0, 1) := by decide +kernel
theorem dX8_cutSign_169 : decode cX8_cutSign 169 = .ok (.bipush 12, 2) := by decide +kernel
theorem dX8_cutSign_171 : decode cX8_cutSign 171 = .ok (.putfield 68, 3) := by decide +kernel
theorem dX8_cutSign_174 : decode cX8_cutSign 174 = .ok (.goto 94, 3) := by decide +kernel
theorem dX8_cutSign_177 : decode cX8_cutSign 177 = .ok (.aload_n 0, 1) := by decide +kernel
theorem dX8_cutSign_178 : decode cX8_cutSign 178 = .ok (.bipush 13, 2) := by decide +kernel
theorem dX8_cutSign_180 : decode cX8_cutSign 180 = .ok (.putfield 68, 3) := by decide +kernel
theorem dX8_cutSign_183 : decode cX8_cutSign 183 = .ok (.goto 85, 3) := by decide +kernel
theorem dX8_cutSign_186 : decode cX8_cutSign 186 = .ok (.aload_n 0, 1) := by decide +kernel
theorem dX8_cutSign_187 : decode cX8_cutSign 187 = .ok (.bipush 14, 2) := by decide +kernel
theorem dX8_cutSign_189 : decode cX8_cutSign 189 = .ok (.putfield 68, 3) := by decide +kernel
theorem dX8_cutSign_192 : decode cX8_cutSign 192 = .ok (.goto 76, 3) := by decide +kernel
theorem dX8_cutSign_195 : decode cX8_cutSign 195 = .ok (.aload_n 0, 1) := by decide +kernel
theorem dX8_cutSign_196 : decode cX8_cutSign 196 = .ok (.bipush 7, 2) := by decide +kernel
theorem dX8_cutSign_198 : decode cX8_cutSign 198 = .ok (.putfield 68, 3) := by decide +kernel
theorem dX8_cutSign_201 : decode cX8_cutSign 201 = .ok (.goto 67, 3) := by decide +kernel
theorem dX8_cutSign_204 : decode cX8_cutSign 204 = .ok (.aload_n 0, 1) := by decide +kernel
theorem dX8_cutSign_205 : decode cX8_cutSign 205 = .ok (.aload_n 0, 1) := by decide +kernel
theorem dX8_cutSign_206 : decode cX8_cutSign 206 = .ok (.bipush 61, 2) := by decide +kernel
theorem dX8_cutSign_208 : decode cX8_cutSign 208 = .ok (.invokevirtual 95, 3) := by decide +kernel
theorem dX8_cutSign_211 : decode cX8_cutSign 211 = .ok (.ifCond .eq 8, 3) := by decide +kernel
theorem dX8_cutSign_214 : decode cX8_cutSign 214 = .ok (.bipush 6, 2) := by decide +kernel
theorem dX8_cutSign_216 : decode cX8_cutSign 216 = .ok (.goto 18, 3) := by decide +kernel
theorem dX8_cutSign_219 : decode cX8_cutSign 219 = .ok (.aload_n 0, 1) := by decide +kernel
theorem dX8_cutSign_220 : decode cX8_cutSign 220 = .ok (.bipush 62, 2) := by decide +kernel
theorem dX8_cutSign_222 : decode cX8_cutSign 222 = .ok (.invokevirtual 95, 3) := by decide +kernel
theorem dX8_cutSign_225 : decode cX8_cutSign 225 = .ok (.ifCond .eq 8, 3) := by decide +kernel
theorem dX8_cutSign_228 : decode cX8_cutSign 228 = .ok (.bipush 8, 2) := by decide +kernel
theorem dX8_cutSign_230 : decode cX8_cutSign 230 = .ok (.goto 4, 3) := by decide +kernel
theorem dX8_cutSign_233 : decode cX8_cutSign 233 = .ok (.iconst 5, 1) := by decide +kernel
theorem dX8_cutSign_234 : decode cX8_cutSign 234 = .ok (.putfield 68, 3) := by decide +kernel
theorem dX8_cutSign_237 : decode cX8_cutSign 237 = .ok (.goto 31, 3) := by decide +kernel
theorem dX8_cutSign_240 : decode cX8_cutSign 240 = .ok (.aload_n 0, 1) := by decide +kernel
theorem dX8_cutSign_241 : decode cX8_cutSign 241 = .ok (.aload_n 0, 1) := by decide +kernel
theorem dX8_cutSign_242 : decode cX8_cutSign 242 = .ok (.bipush 61, 2) := by decide +kernel
theorem dX8_cutSign_244 : decode cX8_cutSign 244 = .ok (.invokevirtual 95, 3) := by decide +kernel
theorem dX8_cutSign_247 : decode cX8_cutSign 247 = .ok (.ifCond .eq 8, 3) := by decide +kernel
theorem dX8_cutSign_250 : decode cX8_cutSign 250 = .ok (.bipush 9, 2) := by decide +kernel
theorem dX8_cutSign_252 : decode cX8_cutSign 252 = .ok (.goto 5, 3) := by decide +kernel
theorem dX8_cutSign_255 : decode cX8_cutSign 255 = .ok (.bipush 10, 2) := by decide +kernel
theorem dX8_cutSign_257 : decode cX8_cutSign 257 = .ok (.putfield 68, 3) := by decide +kernel
theorem dX8_cutSign_260 : decode cX8_cutSign 260 = .ok (.goto 8, 3) := by decide +kernel
theorem dX8_cutSign_263 : decode cX8_cutSign 263 = .ok (.aload_n 0, 1) := by decide +kernel
theorem dX8_cutSign_264 : decode cX8_cutSign 264 = .ok (.iconst 5, 1) := by decide +kernel
theorem dX8_cutSign_265 : decode cX8_cutSign 265 = .ok (.putfield 62, 3) := by decide +kernel
theorem dX8_cutSign_268 : decode cX8_cutSign 268 = .ok (.return_, 1) := by decide +kernel
theorem dX8_goesOn_0 : decode cX8_goesOn 0 = .ok (.aload_n 0, 1) := by decide +kernel
theorem dX8_goesOn_1 : decode cX8_goesOn 1 = .ok (.getfield 59, 3) := by decide +kernel
theorem dX8_goesOn_4 : decode cX8_goesOn 4 = .ok (.aload_n 0, 1) := by decide +kernel
theorem dX8_goesOn_5 : decode cX8_goesOn 5 = .ok (.getfield 56, 3) := by decide +kernel
theorem dX8_goesOn_8 : decode cX8_goesOn 8 = .ok (.if_icmp .ge 16, 3) := by decide +kernel
theorem dX8_goesOn_11 : decode cX8_goesOn 11 = .ok (.aload_n 0, 1) := by decide +kernel
theorem dX8_goesOn_12 : decode cX8_goesOn 12 = .ok (.getfield 24, 3) := by decide +kernel
theorem dX8_goesOn_15 : decode cX8_goesOn 15 = .ok (.aload_n 0, 1) := by decide +kernel
theorem dX8_goesOn_16 : decode cX8_goesOn 16 = .ok (.getfield 59, 3) := by decide +kernel
theorem dX8_goesOn_19 : decode cX8_goesOn 19 = .ok (.baload, 1) := by decide +kernel
theorem dX8_goesOn_20 : decode cX8_goesOn 20 = .ok (.iload_n 1, 1) := by decide +kernel
theorem dX8_goesOn_21 : decode cX8_goesOn 21 = .ok (.if_icmp .eq 5, 3) := by decide +kernel
theorem dX8_goesOn_24 : decode cX8_goesOn 24 = .ok (.iconst 0, 1) := by decide +kernel
theorem dX8_goesOn_25 : decode cX8_goesOn 25 = .ok (.ireturn, 1) := by decide +kernel
theorem dX8_goesOn_26 : decode cX8_goesOn 26 = .ok (.aload_n 0, 1) := by decide +kernel
theorem dX8_goesOn_27 : decode cX8_goesOn 27 = .ok (.dup, 1) := by decide +kernel
theorem dX8_goesOn_28 : decode cX8_goesOn 28 = .ok (.getfield 59, 3) := by decide +kernel
theorem dX8_goesOn_31 : decode cX8_goesOn 31 = .ok (.iconst 1, 1) := by decide +kernel
theorem dX8_goesOn_32 : decode cX8_goesOn 32 = .ok (.iadd, 1) := by decide +kernel
theorem dX8_goesOn_33 : decode cX8_goesOn 33 = .ok (.putfield 59, 3) := by decide +kernel
theorem dX8_goesOn_36 : decode cX8_goesOn 36 = .ok (.iconst 1, 1) := by decide +kernel
theorem dX8_goesOn_37 : decode cX8_goesOn 37 = .ok (.ireturn, 1) := by decide +kernel
theorem dX9_init_0 : decode cX9_init 0 = .ok (.aload_n 0, 1) := by decide +kernel
theorem dX9_init_1 : decode cX9_init 1 = .ok (.invokespecial 3, 3) := by decide +kernel
theorem dX9_init_4 : decode cX9_init 4 = .ok (.aload_n 0, 1) := by decide +kernel
theorem dX9_init_5 : decode cX9_init 5 = .ok (.bipush 7, 2) := by decide +kernel
theorem dX9_init_7 : decode cX9_init 7 = .ok (.iconst 4, 1) := by decide +kernel
theorem dX9_init_8 : decode cX9_init 8 = .ok (.multianewarray 9 2, 4) := by decide +kernel
theorem dX9_init_12 : decode cX9_init 12 = .ok (.putfield 11, 3) := by decide +kernel
theorem dX9_init_15 : decode cX9_init 15 = .ok (.aload_n 0, 1) := by decide +kernel
theorem dX9_init_16 : decode cX9_init 16 = .ok (.bipush 10, 2) := by decide +kernel
theorem dX9_init_18 : decode cX9_init 18 = .ok (.iconst 5, 1) := by decide +kernel
theorem dX9_init_19 : decode cX9_init 19 = .ok (.multianewarray 9 2, 4) := by decide +kernel
theorem dX9_init_23 : decode cX9_init 23 = .ok (.putfield 16, 3) := by decide +kernel
theorem dX9_init_26 : decode cX9_init 26 = .ok (.aload_n 0, 1) := by decide +kernel
theorem dX9_init_27 : decode cX9_init 27 = .ok (.iconst 4, 1) := by decide +kernel
theorem dX9_init_28 : decode cX9_init 28 = .ok (.iconst 2, 1) := by decide +kernel
theorem dX9_init_29 : decode cX9_init 29 = .ok (.multianewarray 9 2, 4) := by decide +kernel
theorem dX9_init_33 : decode cX9_init 33 = .ok (.putfield 19, 3) := by decide +kernel
theorem dX9_init_36 : decode cX9_init 36 = .ok (.aload_n 0, 1) := by decide +kernel
theorem dX9_init_37 : decode cX9_init 37 = .ok (.iconst 4, 1) := by decide +kernel
theorem dX9_init_38 : decode cX9_init 38 = .ok (.newarray .int, 2) := by decide +kernel
theorem dX9_init_40 : decode cX9_init 40 = .ok (.putfield 22, 3) := by decide +kernel
theorem dX9_init_43 : decode cX9_init 43 = .ok (.aload_n 0, 1) := by decide +kernel
theorem dX9_init_44 : decode cX9_init 44 = .ok (.iconst 4, 1) := by decide +kernel
theorem dX9_init_45 : decode cX9_init 45 = .ok (.bipush 6, 2) := by decide +kernel
theorem dX9_init_47 : decode cX9_init 47 = .ok (.multianewarray 9 2, 4) := by decide +kernel
theorem dX9_init_51 : decode cX9_init 51 = .ok (.putfield 26, 3) := by decide +kernel
theorem dX9_init_54 : decode cX9_init 54 = .ok (.aload_n 0, 1) := by decide +kernel
theorem dX9_init_55 : decode cX9_init 55 = .ok (.iconst 2, 1) := by decide +kernel
theorem dX9_init_56 : decode cX9_init 56 = .ok (.newarray .int, 2) := by decide +kernel
theorem dX9_init_58 : decode cX9_init 58 = .ok (.putfield 29, 3) := by decide +kernel
theorem dX9_init_61 : decode cX9_init 61 = .ok (.aload_n 0, 1) := by decide +kernel
theorem dX9_init_62 : decode cX9_init 62 = .ok (.iconst 2, 1) := by decide +kernel
theorem dX9_init_63 : decode cX9_init 63 = .ok (.newarray .int, 2) := by decide +kernel
theorem dX9_init_65 : decode cX9_init 65 = .ok (.putfield 32, 3) := by decide +kernel
theorem dX9_init_68 : decode cX9_init 68 = .ok (.aload_n 0, 1) := by decide +kernel
theorem dX9_init_69 : decode cX9_init 69 = .ok (.new 35, 3) := by decide +kernel
theorem dX9_init_72 : decode cX9_init 72 = .ok (.dup, 1) := by decide +kernel
theorem dX9_init_73 : decode cX9_init 73 = .ok (.invokespecial 37, 3) := by decide +kernel
theorem dX9_init_76 : decode cX9_init 76 = .ok (.putfield 38, 3) := by decide +kernel
theorem dX9_init_79 : decode cX9_init 79 = .ok (.aload_n 0, 1) := by decide +kernel
theorem dX9_init_80 : decode cX9_init 80 = .ok (.invokevirtual 42, 3) := by decide +kernel
theorem dX9_init_83 : decode cX9_init 83 = .ok (.return_, 1) := by decide +kernel
theorem dX9_clear_0 : decode cX9_clear 0 = .ok (.aload_n 0, 1) := by decide +kernel
theorem dX9_clear_1 : decode cX9_clear 1 = .ok (.iconst 0, 1) := by decide +kernel
theorem dX9_clear_2 : decode cX9_clear 2 = .ok (.putfield 45, 3) := by decide +kernel
theorem dX9_clear_5 : decode cX9_clear 5 = .ok (.aload_n 0, 1) := by decide +kernel
theorem dX9_clear_6 : decode cX9_clear 6 = .ok (.iconst (-1), 1) := by decide +kernel
theorem dX9_clear_7 : decode cX9_clear 7 = .ok (.putfield 49, 3) := by decide +kernel
theorem dX9_clear_10 : decode cX9_clear 10 = .ok (.aload_n 0, 1) := by decide +kernel
theorem dX9_clear_11 : decode cX9_clear 11 = .ok (.iconst (-1), 1) := by decide +kernel
theorem dX9_clear_12 : decode cX9_clear 12 = .ok (.putfield 52, 3) := by decide +kernel
theorem dX9_clear_15 : decode cX9_clear 15 = .ok (.aload_n 0, 1) := by decide +kernel
theorem dX9_clear_16 : decode cX9_clear 16 = .ok (.iconst 0, 1) := by decide +kernel
theorem dX9_clear_17 : decode cX9_clear 17 = .ok (.putfield 55, 3) := by decide +kernel
theorem dX9_clear_20 : decode cX9_clear 20 = .ok (.aload_n 0, 1) := by decide +kernel
theorem dX9_clear_21 : decode cX9_clear 21 = .ok (.iconst 0, 1) := by decide +kernel
theorem dX9_clear_22 : decode cX9_clear 22 = .ok (.putfield 58, 3) := by decide +kernel
theorem dX9_clear_25 : decode cX9_clear 25 = .ok (.aload_n 0, 1) := by decide +kernel
theorem dX9_clear_26 : decode cX9_clear 26 = .ok (.iconst 0, 1) := by decide +kernel
theorem dX9_clear_27 : decode cX9_clear 27 = .ok (.putfield 61, 3) := by decide +kernel
theorem dX9_clear_30 : decode cX9_clear 30 = .ok (.aload_n 0, 1) := by decide +kernel
theorem dX9_clear_31 : decode cX9_clear 31 = .ok (.getfield 29, 3) := by decide +kernel
theorem dX9_clear_34 : decode cX9_clear 34 = .ok (.iconst 0, 1) := by decide +kernel
theorem dX9_clear_35 : decode cX9_clear 35 = .ok (.iconst 1, 1) := by decide +kernel
theorem dX9_clear_36 : decode cX9_clear 36 = .ok (.iastore, 1) := by decide +kernel
theorem dX9_clear_37 : decode cX9_clear 37 = .ok (.aload_n 0, 1) := by decide +kernel
theorem dX9_clear_38 : decode cX9_clear 38 = .ok (.getfield 29, 3) := by decide +kernel
theorem dX9_clear_41 : decode cX9_clear 41 = .ok (.iconst 1, 1) := by decide +kernel
theorem dX9_clear_42 : decode cX9_clear 42 = .ok (.bipush 9, 2) := by decide +kernel
theorem dX9_clear_44 : decode cX9_clear 44 = .ok (.iastore, 1) := by decide +kernel
theorem dX9_clear_45 : decode cX9_clear 45 = .ok (.aload_n 0, 1) := by decide +kernel
theorem dX9_clear_46 : decode cX9_clear 46 = .ok (.getfield 32, 3) := by decide +kernel
theorem dX9_clear_49 : decode cX9_clear 49 = .ok (.iconst 0, 1) := by decide +kernel
theorem dX9_clear_50 : decode cX9_clear 50 = .ok (.iconst 2, 1) := by decide +kernel
theorem dX9_clear_51 : decode cX9_clear 51 = .ok (.iastore, 1) := by decide +kernel
theorem dX9_clear_52 : decode cX9_clear 52 = .ok (.aload_n 0, 1) := by decide +kernel
theorem dX9_clear_53 : decode cX9_clear 53 = .ok (.getfield 32, 3) := by decide +kernel
theorem dX9_clear_56 : decode cX9_clear 56 = .ok (.iconst 1, 1) := by decide +kernel
theorem dX9_clear_57 : decode cX9_clear 57 = .ok (.bipush 8, 2) := by decide +kernel
theorem dX9_clear_59 : decode cX9_clear 59 = .ok (.iastore, 1) := by decide +kernel
theorem dX9_clear_60 : decode cX9_clear 60 = .ok (.aload_n 0, 1) := by decide +kernel
theorem dX9_clear_61 : decode cX9_clear 61 = .ok (.iconst 1, 1) := by decide +kernel
theorem dX9_clear_62 : decode cX9_clear 62 = .ok (.putfield 64, 3) := by decide +kernel
theorem dX9_clear_65 : decode cX9_clear 65 = .ok (.aload_n 0, 1) := by decide +kernel
theorem dX9_clear_66 : decode cX9_clear 66 = .ok (.iconst 0, 1) := by decide +kernel
theorem dX9_clear_67 : decode cX9_clear 67 = .ok (.putfield 67, 3) := by decide +kernel
theorem dX9_clear_70 : decode cX9_clear 70 = .ok (.aload_n 0, 1) := by decide +kernel
theorem dX9_clear_71 : decode cX9_clear 71 = .ok (.getfield 38, 3) := by decide +kernel
theorem dX9_clear_74 : decode cX9_clear 74 = .ok (.invokevirtual 70, 3) := by decide +kernel
theorem dX9_clear_77 : decode cX9_clear 77 = .ok (.return_, 1) := by decide +kernel
theorem dX9_isCorner_0 : decode cX9_isCorner 0 = .ok (.iload_n 1, 1) := by decide +kernel
theorem dX9_isCorner_1 : decode cX9_isCorner 1 = .ok (.ifCond .lt 15, 3) := by decide +kernel
theorem dX9_isCorner_4 : decode cX9_isCorner 4 = .ok (.iload_n 1, 1) := by decide +kernel
theorem dX9_isCorner_5 : decode cX9_isCorner 5 = .ok (.aload_n 0, 1) := by decide +kernel
theorem dX9_isCorner_6 : decode cX9_isCorner 6 = .ok (.getfield 45, 3) := by decide +kernel
theorem dX9_isCorner_9 : decode cX9_isCorner 9 = .ok (.if_icmp .ge 7, 3) := by decide +kernel
theorem dX9_isCorner_12 : decode cX9_isCorner 12 = .ok (.iconst 1, 1) := by decide +kernel
theorem dX9_isCorner_13 : decode cX9_isCorner 13 = .ok (.goto 4, 3) := by decide +kernel
theorem dX9_isCorner_16 : decode cX9_isCorner 16 = .ok (.iconst 0, 1) := by decide +kernel
theorem dX9_isCorner_17 : decode cX9_isCorner 17 = .ok (.ireturn, 1) := by decide +kernel
theorem dX9_isStreet_0 : decode cX9_isStreet 0 = .ok (.iload_n 1, 1) := by decide +kernel
theorem dX9_isStreet_1 : decode cX9_isStreet 1 = .ok (.ifCond .lt 15, 3) := by decide +kernel
theorem dX9_isStreet_4 : decode cX9_isStreet 4 = .ok (.iload_n 1, 1) := by decide +kernel
theorem dX9_isStreet_5 : decode cX9_isStreet 5 = .ok (.aload_n 0, 1) := by decide +kernel
theorem dX9_isStreet_6 : decode cX9_isStreet 6 = .ok (.getfield 55, 3) := by decide +kernel
theorem dX9_isStreet_9 : decode cX9_isStreet 9 = .ok (.if_icmp .ge 7, 3) := by decide +kernel
theorem dX9_isStreet_12 : decode cX9_isStreet 12 = .ok (.iconst 1, 1) := by decide +kernel
theorem dX9_isStreet_13 : decode cX9_isStreet 13 = .ok (.goto 4, 3) := by decide +kernel
theorem dX9_isStreet_16 : decode cX9_isStreet 16 = .ok (.iconst 0, 1) := by decide +kernel
theorem dX9_isStreet_17 : decode cX9_isStreet 17 = .ok (.ireturn, 1) := by decide +kernel
theorem dX9_isPipe_0 : decode cX9_isPipe 0 = .ok (.iload_n 1, 1) := by decide +kernel
theorem dX9_isPipe_1 : decode cX9_isPipe 1 = .ok (.ifCond .lt 15, 3) := by decide +kernel
theorem dX9_isPipe_4 : decode cX9_isPipe 4 = .ok (.iload_n 1, 1) := by decide +kernel
theorem dX9_isPipe_5 : decode cX9_isPipe 5 = .ok (.aload_n 0, 1) := by decide +kernel
theorem dX9_isPipe_6 : decode cX9_isPipe 6 = .ok (.getfield 58, 3) := by decide +kernel
theorem dX9_isPipe_9 : decode cX9_isPipe 9 = .ok (.if_icmp .ge 7, 3) := by decide +kernel
theorem dX9_isPipe_12 : decode cX9_isPipe 12 = .ok (.iconst 1, 1) := by decide +kernel
theorem dX9_isPipe_13 : decode cX9_isPipe 13 = .ok (.goto 4, 3) := by decide +kernel
theorem dX9_isPipe_16 : decode cX9_isPipe 16 = .ok (.iconst 0, 1) := by decide +kernel
theorem dX9_isPipe_17 : decode cX9_isPipe 17 = .ok (.ireturn, 1) := by decide +kernel
theorem dX9_isRain_0 : decode cX9_isRain 0 = .ok (.iload_n 1, 1) := by decide +kernel
theorem dX9_isRain_1 : decode cX9_isRain 1 = .ok (.ifCond .lt 15, 3) := by decide +kernel
theorem dX9_isRain_4 : decode cX9_isRain 4 = .ok (.iload_n 1, 1) := by decide +kernel
theorem dX9_isRain_5 : decode cX9_isRain 5 = .ok (.aload_n 0, 1) := by decide +kernel
theorem dX9_isRain_6 : decode cX9_isRain 6 = .ok (.getfield 61, 3) := by decide +kernel
theorem dX9_isRain_9 : decode cX9_isRain 9 = .ok (.if_icmp .ge 7, 3) := by decide +kernel
theorem dX9_isRain_12 : decode cX9_isRain 12 = .ok (.iconst 1, 1) := by decide +kernel
theorem dX9_isRain_13 : decode cX9_isRain 13 = .ok (.goto 4, 3) := by decide +kernel
theorem dX9_isRain_16 : decode cX9_isRain 16 = .ok (.iconst 0, 1) := by decide +kernel
theorem dX9_isRain_17 : decode cX9_isRain 17 = .ok (.ireturn, 1) := by decide +kernel
theorem dX9_find_0 : decode cX9_find 0 = .ok (.iconst 0, 1) := by decide +kernel
theorem dX9_find_1 : decode cX9_find 1 = .ok (.istore_n 3, 1) := by decide +kernel
theorem dX9_find_2 : decode cX9_find 2 = .ok (.iload_n 1, 1) := by decide +kernel
theorem dX9_find_3 : decode cX9_find 3 = .ok (.ifCond .ne 31, 3) := by decide +kernel
theorem dX9_find_6 : decode cX9_find 6 = .ok (.iload_n 3, 1) := by decide +kernel
theorem dX9_find_7 : decode cX9_find 7 = .ok (.aload_n 0, 1) := by decide +kernel
theorem dX9_find_8 : decode cX9_find 8 = .ok (.getfield 45, 3) := by decide +kernel
theorem dX9_find_11 : decode cX9_find 11 = .ok (.if_icmp .ge 23, 3) := by decide +kernel
theorem dX9_find_14 : decode cX9_find 14 = .ok (.aload_n 0, 1) := by decide +kernel
theorem dX9_find_15 : decode cX9_find 15 = .ok (.getfield 11, 3) := by decide +kernel
theorem dX9_find_18 : decode cX9_find 18 = .ok (.iload_n 3, 1) := by decide +kernel
theorem dX9_find_19 : decode cX9_find 19 = .ok (.aaload, 1) := by decide +kernel
theorem dX9_find_20 : decode cX9_find 20 = .ok (.iconst 3, 1) := by decide +kernel
theorem dX9_find_21 : decode cX9_find 21 = .ok (.iaload, 1) := by decide +kernel
theorem dX9_find_22 : decode cX9_find 22 = .ok (.iload_n 2, 1) := by decide +kernel
theorem dX9_find_23 : decode cX9_find 23 = .ok (.if_icmp .ne 5, 3) := by decide +kernel
theorem dX9_find_26 : decode cX9_find 26 = .ok (.iload_n 3, 1) := by decide +kernel
theorem dX9_find_27 : decode cX9_find 27 = .ok (.ireturn, 1) := by decide +kernel
theorem dX9_find_28 : decode cX9_find 28 = .ok (.iinc 3 1, 3) := by decide +kernel
theorem dX9_find_31 : decode cX9_find 31 = .ok (.goto (-29), 3) := by decide +kernel
theorem dX9_find_34 : decode cX9_find 34 = .ok (.iconst 0, 1) := by decide +kernel
theorem dX9_find_35 : decode cX9_find 35 = .ok (.istore_n 3, 1) := by decide +kernel
theorem dX9_find_36 : decode cX9_find 36 = .ok (.iload_n 1, 1) := by decide +kernel
theorem dX9_find_37 : decode cX9_find 37 = .ok (.iconst 1, 1) := by decide +kernel
theorem dX9_find_38 : decode cX9_find 38 = .ok (.if_icmp .ne 29, 3) := by decide +kernel
theorem dX9_find_41 : decode cX9_find 41 = .ok (.iload_n 3, 1) := by decide +kernel
theorem dX9_find_42 : decode cX9_find 42 = .ok (.aload_n 0, 1) := by decide +kernel
theorem dX9_find_43 : decode cX9_find 43 = .ok (.getfield 61, 3) := by decide +kernel
theorem dX9_find_46 : decode cX9_find 46 = .ok (.if_icmp .ge 21, 3) := by decide +kernel
theorem dX9_find_49 : decode cX9_find 49 = .ok (.aload_n 0, 1) := by decide +kernel
theorem dX9_find_50 : decode cX9_find 50 = .ok (.getfield 22, 3) := by decide +kernel
theorem dX9_find_53 : decode cX9_find 53 = .ok (.iload_n 3, 1) := by decide +kernel
theorem dX9_find_54 : decode cX9_find 54 = .ok (.iaload, 1) := by decide +kernel
theorem dX9_find_55 : decode cX9_find 55 = .ok (.iload_n 2, 1) := by decide +kernel
theorem dX9_find_56 : decode cX9_find 56 = .ok (.if_icmp .ne 5, 3) := by decide +kernel
theorem dX9_find_59 : decode cX9_find 59 = .ok (.iload_n 3, 1) := by decide +kernel
theorem dX9_find_60 : decode cX9_find 60 = .ok (.ireturn, 1) := by decide +kernel
theorem dX9_find_61 : decode cX9_find 61 = .ok (.iinc 3 1, 3) := by decide +kernel
theorem dX9_find_64 : decode cX9_find 64 = .ok (.goto (-28), 3) := by decide +kernel
theorem dX9_find_67 : decode cX9_find 67 = .ok (.iconst (-1), 1) := by decide +kernel
theorem dX9_find_68 : decode cX9_find 68 = .ok (.ireturn, 1) := by decide +kernel
theorem dX9_touches_0 : decode cX9_touches 0 = .ok (.aload_n 0, 1) := by decide +kernel
theorem dX9_touches_1 : decode cX9_touches 1 = .ok (.getfield 16, 3) := by decide +kernel
theorem dX9_touches_4 : decode cX9_touches 4 = .ok (.iload_n 1, 1) := by decide +kernel
theorem dX9_touches_5 : decode cX9_touches 5 = .ok (.aaload, 1) := by decide +kernel
theorem dX9_touches_6 : decode cX9_touches 6 = .ok (.iconst 0, 1) := by decide +kernel
theorem dX9_touches_7 : decode cX9_touches 7 = .ok (.iaload, 1) := by decide +kernel
theorem dX9_touches_8 : decode cX9_touches 8 = .ok (.iload_n 2, 1) := by decide +kernel
theorem dX9_touches_9 : decode cX9_touches 9 = .ok (.if_icmp .eq 15, 3) := by decide +kernel
theorem dX9_touches_12 : decode cX9_touches 12 = .ok (.aload_n 0, 1) := by decide +kernel
theorem dX9_touches_13 : decode cX9_touches 13 = .ok (.getfield 16, 3) := by decide +kernel
theorem dX9_touches_16 : decode cX9_touches 16 = .ok (.iload_n 1, 1) := by decide +kernel
theorem dX9_touches_17 : decode cX9_touches 17 = .ok (.aaload, 1) := by decide +kernel
theorem dX9_touches_18 : decode cX9_touches 18 = .ok (.iconst 1, 1) := by decide +kernel
theorem dX9_touches_19 : decode cX9_touches 19 = .ok (.iaload, 1) := by decide +kernel
theorem dX9_touches_20 : decode cX9_touches 20 = .ok (.iload_n 2, 1) := by decide +kernel
theorem dX9_touches_21 : decode cX9_touches 21 = .ok (.if_icmp .ne 7, 3) := by decide +kernel
theorem dX9_touches_24 : decode cX9_touches 24 = .ok (.iconst 1, 1) := by decide +kernel
theorem dX9_touches_25 : decode cX9_touches 25 = .ok (.goto 4, 3) := by decide +kernel
theorem dX9_touches_28 : decode cX9_touches 28 = .ok (.iconst 0, 1) := by decide +kernel
theorem dX9_touches_29 : decode cX9_touches 29 = .ok (.ireturn, 1) := by decide +kernel
theorem dX9_otherEnd_0 : decode cX9_otherEnd 0 = .ok (.aload_n 0, 1) := by decide +kernel
theorem dX9_otherEnd_1 : decode cX9_otherEnd 1 = .ok (.getfield 16, 3) := by decide +kernel
theorem dX9_otherEnd_4 : decode cX9_otherEnd 4 = .ok (.iload_n 1, 1) := by decide +kernel
theorem dX9_otherEnd_5 : decode cX9_otherEnd 5 = .ok (.aaload, 1) := by decide +kernel
theorem dX9_otherEnd_6 : decode cX9_otherEnd 6 = .ok (.iconst 0, 1) := by decide +kernel
theorem dX9_otherEnd_7 : decode cX9_otherEnd 7 = .ok (.iaload, 1) := by decide +kernel
theorem dX9_otherEnd_8 : decode cX9_otherEnd 8 = .ok (.iload_n 2, 1) := by decide +kernel
theorem dX9_otherEnd_9 : decode cX9_otherEnd 9 = .ok (.if_icmp .ne 14, 3) := by decide +kernel
theorem dX9_otherEnd_12 : decode cX9_otherEnd 12 = .ok (.aload_n 0, 1) := by decide +kernel
theorem dX9_otherEnd_13 : decode cX9_otherEnd 13 = .ok (.getfield 16, 3) := by decide +kernel
theorem dX9_otherEnd_16 : decode cX9_otherEnd 16 = .ok (.iload_n 1, 1) := by decide +kernel
theorem dX9_otherEnd_17 : decode cX9_otherEnd 17 = .ok (.aaload, 1) := by decide +kernel
theorem dX9_otherEnd_18 : decode cX9_otherEnd 18 = .ok (.iconst 1, 1) := by decide +kernel
theorem dX9_otherEnd_19 : decode cX9_otherEnd 19 = .ok (.iaload, 1) := by decide +kernel
theorem dX9_otherEnd_20 : decode cX9_otherEnd 20 = .ok (.goto 11, 3) := by decide +kernel
theorem dX9_otherEnd_23 : decode cX9_otherEnd 23 = .ok (.aload_n 0, 1) := by decide +kernel
theorem dX9_otherEnd_24 : decode cX9_otherEnd 24 = .ok (.getfield 16, 3) := by decide +kernel
theorem dX9_otherEnd_27 : decode cX9_otherEnd 27 = .ok (.iload_n 1, 1) := by decide +kernel
theorem dX9_otherEnd_28 : decode cX9_otherEnd 28 = .ok (.aaload, 1) := by decide +kernel
theorem dX9_otherEnd_29 : decode cX9_otherEnd 29 = .ok (.iconst 0, 1) := by decide +kernel
theorem dX9_otherEnd_30 : decode cX9_otherEnd 30 = .ok (.iaload, 1) := by decide +kernel
theorem dX9_otherEnd_31 : decode cX9_otherEnd 31 = .ok (.ireturn, 1) := by decide +kernel
theorem dX9_endBits_0 : decode cX9_endBits 0 = .ok (.iconst 1, 1) := by decide +kernel
theorem dX9_endBits_1 : decode cX9_endBits 1 = .ok (.aload_n 0, 1) := by decide +kernel
theorem dX9_endBits_2 : decode cX9_endBits 2 = .ok (.getfield 16, 3) := by decide +kernel
theorem dX9_endBits_5 : decode cX9_endBits 5 = .ok (.iload_n 1, 1) := by decide +kernel
theorem dX9_endBits_6 : decode cX9_endBits 6 = .ok (.aaload, 1) := by decide +kernel
theorem dX9_endBits_7 : decode cX9_endBits 7 = .ok (.iconst 0, 1) := by decide +kernel
theorem dX9_endBits_8 : decode cX9_endBits 8 = .ok (.iaload, 1) := by decide +kernel
theorem dX9_endBits_9 : decode cX9_endBits 9 = .ok (.ishl, 1) := by decide +kernel
theorem dX9_endBits_10 : decode cX9_endBits 10 = .ok (.iconst 1, 1) := by decide +kernel
theorem dX9_endBits_11 : decode cX9_endBits 11 = .ok (.aload_n 0, 1) := by decide +kernel
theorem dX9_endBits_12 : decode cX9_endBits 12 = .ok (.getfield 16, 3) := by decide +kernel
theorem dX9_endBits_15 : decode cX9_endBits 15 = .ok (.iload_n 1, 1) := by decide +kernel
theorem dX9_endBits_16 : decode cX9_endBits 16 = .ok (.aaload, 1) := by decide +kernel
theorem dX9_endBits_17 : decode cX9_endBits 17 = .ok (.iconst 1, 1) := by decide +kernel
theorem dX9_endBits_18 : decode cX9_endBits 18 = .ok (.iaload, 1) := by decide +kernel
theorem dX9_endBits_19 : decode cX9_endBits 19 = .ok (.ishl, 1) := by decide +kernel
theorem dX9_endBits_20 : decode cX9_endBits 20 = .ok (.ior, 1) := by decide +kernel
theorem dX9_endBits_21 : decode cX9_endBits 21 = .ok (.ireturn, 1) := by decide +kernel
theorem dX9_isJoined_0 : decode cX9_isJoined 0 = .ok (.iconst 0, 1) := by decide +kernel
theorem dX9_isJoined_1 : decode cX9_isJoined 1 = .ok (.istore_n 3, 1) := by decide +kernel
theorem dX9_isJoined_2 : decode cX9_isJoined 2 = .ok (.iload_n 3, 1) := by decide +kernel
theorem dX9_isJoined_3 : decode cX9_isJoined 3 = .ok (.aload_n 0, 1) := by decide +kernel
theorem dX9_isJoined_4 : decode cX9_isJoined 4 = .ok (.getfield 55, 3) := by decide +kernel
theorem dX9_isJoined_7 : decode cX9_isJoined 7 = .ok (.if_icmp .ge 26, 3) := by decide +kernel
theorem dX9_isJoined_10 : decode cX9_isJoined 10 = .ok (.aload_n 0, 1) := by decide +kernel
theorem dX9_isJoined_11 : decode cX9_isJoined 11 = .ok (.iload_n 3, 1) := by decide +kernel
theorem dX9_isJoined_12 : decode cX9_isJoined 12 = .ok (.invokevirtual 71, 3) := by decide +kernel
theorem dX9_isJoined_15 : decode cX9_isJoined 15 = .ok (.iconst 1, 1) := by decide +kernel
theorem dX9_isJoined_16 : decode cX9_isJoined 16 = .ok (.iload_n 1, 1) := by decide +kernel
theorem dX9_isJoined_17 : decode cX9_isJoined 17 = .ok (.ishl, 1) := by decide +kernel
theorem dX9_isJoined_18 : decode cX9_isJoined 18 = .ok (.iconst 1, 1) := by decide +kernel
theorem dX9_isJoined_19 : decode cX9_isJoined 19 = .ok (.iload_n 2, 1) := by decide +kernel
theorem dX9_isJoined_20 : decode cX9_isJoined 20 = .ok (.ishl, 1) := by decide +kernel
theorem dX9_isJoined_21 : decode cX9_isJoined 21 = .ok (.ior, 1) := by decide +kernel
theorem dX9_isJoined_22 : decode cX9_isJoined 22 = .ok (.if_icmp .ne 5, 3) := by decide +kernel
theorem dX9_isJoined_25 : decode cX9_isJoined 25 = .ok (.iconst 1, 1) := by decide +kernel
theorem dX9_isJoined_26 : decode cX9_isJoined 26 = .ok (.ireturn, 1) := by decide +kernel
theorem dX9_isJoined_27 : decode cX9_isJoined 27 = .ok (.iinc 3 1, 3) := by decide +kernel
theorem dX9_isJoined_30 : decode cX9_isJoined 30 = .ok (.goto (-28), 3) := by decide +kernel
theorem dX9_isJoined_33 : decode cX9_isJoined 33 = .ok (.iconst 0, 1) := by decide +kernel
theorem dX9_isJoined_34 : decode cX9_isJoined 34 = .ok (.ireturn, 1) := by decide +kernel
theorem dX9_fallByLength_0 : decode cX9_fallByLength 0 = .ok (.aload_n 0, 1) := by decide +kernel
theorem dX9_fallByLength_1 : decode cX9_fallByLength 1 = .ok (.getfield 16, 3) := by decide +kernel
theorem dX9_fallByLength_4 : decode cX9_fallByLength 4 = .ok (.iload_n 1, 1) := by decide +kernel
theorem dX9_fallByLength_5 : decode cX9_fallByLength 5 = .ok (.aaload, 1) := by decide +kernel
theorem dX9_fallByLength_6 : decode cX9_fallByLength 6 = .ok (.iconst 2, 1) := by decide +kernel
theorem dX9_fallByLength_7 : decode cX9_fallByLength 7 = .ok (.iaload, 1) := by decide +kernel
theorem dX9_fallByLength_8 : decode cX9_fallByLength 8 = .ok (.istore_n 3, 1) := by decide +kernel
theorem dX9_fallByLength_9 : decode cX9_fallByLength 9 = .ok (.iload_n 3, 1) := by decide +kernel
theorem dX9_fallByLength_10 : decode cX9_fallByLength 10 = .ok (.ifCond .le 9, 3) := by decide +kernel
theorem dX9_fallByLength_13 : decode cX9_fallByLength 13 = .ok (.iload_n 2, 1) := by decide +kernel
theorem dX9_fallByLength_14 : decode cX9_fallByLength 14 = .ok (.iload_n 3, 1) := by decide +kernel
theorem dX9_fallByLength_15 : decode cX9_fallByLength 15 = .ok (.idiv, 1) := by decide +kernel
theorem dX9_fallByLength_16 : decode cX9_fallByLength 16 = .ok (.goto 4, 3) := by decide +kernel
theorem dX9_fallByLength_19 : decode cX9_fallByLength 19 = .ok (.iconst 0, 1) := by decide +kernel
theorem dX9_fallByLength_20 : decode cX9_fallByLength 20 = .ok (.ireturn, 1) := by decide +kernel
theorem dX9_rockyAt_0 : decode cX9_rockyAt 0 = .ok (.iconst 0, 1) := by decide +kernel
theorem dX9_rockyAt_1 : decode cX9_rockyAt 1 = .ok (.iload_n 2, 1) := by decide +kernel
theorem dX9_rockyAt_2 : decode cX9_rockyAt 2 = .ok (.aload_n 0, 1) := by decide +kernel
theorem dX9_rockyAt_3 : decode cX9_rockyAt 3 = .ok (.getfield 11, 3) := by decide +kernel
theorem dX9_rockyAt_6 : decode cX9_rockyAt 6 = .ok (.iload_n 1, 1) := by decide +kernel
theorem dX9_rockyAt_7 : decode cX9_rockyAt 7 = .ok (.aaload, 1) := by decide +kernel
theorem dX9_rockyAt_8 : decode cX9_rockyAt 8 = .ok (.iconst 2, 1) := by decide +kernel
theorem dX9_rockyAt_9 : decode cX9_rockyAt 9 = .ok (.iaload, 1) := by decide +kernel
theorem dX9_rockyAt_10 : decode cX9_rockyAt 10 = .ok (.isub, 1) := by decide +kernel
theorem dX9_rockyAt_11 : decode cX9_rockyAt 11 = .ok (.invokestatic 75, 3) := by decide +kernel
theorem dX9_rockyAt_14 : decode cX9_rockyAt 14 = .ok (.ireturn, 1) := by decide +kernel
theorem dX10_init_0 : decode cX10_init 0 = .ok (.aload_n 0, 1) := by decide +kernel
theorem dX10_init_1 : decode cX10_init 1 = .ok (.invokespecial 3, 3) := by decide +kernel
theorem dX10_init_4 : decode cX10_init 4 = .ok (.aload_n 0, 1) := by decide +kernel
theorem dX10_init_5 : decode cX10_init 5 = .ok (.sipush 1024, 3) := by decide +kernel
theorem dX10_init_8 : decode cX10_init 8 = .ok (.newarray .long, 2) := by decide +kernel
theorem dX10_init_10 : decode cX10_init 10 = .ok (.putfield 11, 3) := by decide +kernel
theorem dX10_init_13 : decode cX10_init 13 = .ok (.aload_n 0, 1) := by decide +kernel
theorem dX10_init_14 : decode cX10_init 14 = .ok (.sipush 1024, 3) := by decide +kernel
theorem dX10_init_17 : decode cX10_init 17 = .ok (.newarray .long, 2) := by decide +kernel
theorem dX10_init_19 : decode cX10_init 19 = .ok (.putfield 15, 3) := by decide +kernel
theorem dX10_init_22 : decode cX10_init 22 = .ok (.aload_n 0, 1) := by decide +kernel
theorem dX10_init_23 : decode cX10_init 23 = .ok (.new 18, 3) := by decide +kernel
theorem dX10_init_26 : decode cX10_init 26 = .ok (.dup, 1) := by decide +kernel
theorem dX10_init_27 : decode cX10_init 27 = .ok (.aload_n 1, 1) := by decide +kernel
theorem dX10_init_28 : decode cX10_init 28 = .ok (.invokespecial 20, 3) := by decide +kernel
theorem dX10_init_31 : decode cX10_init 31 = .ok (.putfield 23, 3) := by decide +kernel
theorem dX10_init_34 : decode cX10_init 34 = .ok (.aload_n 0, 1) := by decide +kernel
theorem dX10_init_35 : decode cX10_init 35 = .ok (.aload_n 1, 1) := by decide +kernel
theorem dX10_init_36 : decode cX10_init 36 = .ok (.invokevirtual 27, 3) := by decide +kernel
theorem dX10_init_39 : decode cX10_init 39 = .ok (.return_, 1) := by decide +kernel
theorem dX10_serve_0 : decode cX10_serve 0 = .ok (.aload_n 0, 1) := by decide +kernel
theorem dX10_serve_1 : decode cX10_serve 1 = .ok (.aload_n 1, 1) := by decide +kernel
theorem dX10_serve_2 : decode cX10_serve 2 = .ok (.putfield 30, 3) := by decide +kernel
theorem dX10_serve_5 : decode cX10_serve 5 = .ok (.aload_n 0, 1) := by decide +kernel
theorem dX10_serve_6 : decode cX10_serve 6 = .ok (.iconst 0, 1) := by decide +kernel
theorem dX10_serve_7 : decode cX10_serve 7 = .ok (.putfield 34, 3) := by decide +kernel
theorem dX10_serve_10 : decode cX10_serve 10 = .ok (.aload_n 0, 1) := by decide +kernel
theorem dX10_serve_11 : decode cX10_serve 11 = .ok (.getfield 11, 3) := by decide +kernel
theorem dX10_serve_14 : decode cX10_serve 14 = .ok (.ldc2_w 38, 3) := by decide +kernel
theorem dX10_serve_17 : decode cX10_serve 17 = .ok (.invokestatic 40, 3) := by decide +kernel
theorem dX10_serve_20 : decode cX10_serve 20 = .ok (.aload_n 0, 1) := by decide +kernel
theorem dX10_serve_21 : decode cX10_serve 21 = .ok (.getfield 23, 3) := by decide +kernel
theorem dX10_serve_24 : decode cX10_serve 24 = .ok (.aload_n 1, 1) := by decide +kernel
theorem dX10_serve_25 : decode cX10_serve 25 = .ok (.invokevirtual 46, 3) := by decide +kernel
theorem dX10_serve_28 : decode cX10_serve 28 = .ok (.return_, 1) := by decide +kernel
theorem dX10_costOf_0 : decode cX10_costOf 0 = .ok (.iload_n 1, 1) := by decide +kernel
theorem dX10_costOf_1 : decode cX10_costOf 1 = .ok (.ifCond .lt 23, 3) := by decide +kernel
theorem dX10_costOf_4 : decode cX10_costOf 4 = .ok (.iload_n 1, 1) := by decide +kernel
theorem dX10_costOf_5 : decode cX10_costOf 5 = .ok (.iconst 1, 1) := by decide +kernel
theorem dX10_costOf_6 : decode cX10_costOf 6 = .ok (.aload_n 0, 1) := by decide +kernel
theorem dX10_costOf_7 : decode cX10_costOf 7 = .ok (.getfield 30, 3) := by decide +kernel
theorem dX10_costOf_10 : decode cX10_costOf 10 = .ok (.getfield 47, 3) := by decide +kernel
theorem dX10_costOf_13 : decode cX10_costOf 13 = .ok (.ishl, 1) := by decide +kernel
theorem dX10_costOf_14 : decode cX10_costOf 14 = .ok (.if_icmp .ge 10, 3) := by decide +kernel
theorem dX10_costOf_17 : decode cX10_costOf 17 = .ok (.iload_n 1, 1) := by decide +kernel
theorem dX10_costOf_18 : decode cX10_costOf 18 = .ok (.sipush 1024, 3) := by decide +kernel
theorem dX10_costOf_21 : decode cX10_costOf 21 = .ok (.if_icmp .lt 7, 3) := by decide +kernel
theorem dX10_costOf_24 : decode cX10_costOf 24 = .ok (.ldc2_w 53, 3) := by decide +kernel
theorem dX10_costOf_27 : decode cX10_costOf 27 = .ok (.lreturn, 1) := by decide +kernel
theorem dX10_costOf_28 : decode cX10_costOf 28 = .ok (.aload_n 0, 1) := by decide +kernel
theorem dX10_costOf_29 : decode cX10_costOf 29 = .ok (.getfield 11, 3) := by decide +kernel
theorem dX10_costOf_32 : decode cX10_costOf 32 = .ok (.iload_n 1, 1) := by decide +kernel
theorem dX10_costOf_33 : decode cX10_costOf 33 = .ok (.laload, 1) := by decide +kernel
theorem dX10_costOf_34 : decode cX10_costOf 34 = .ok (.ldc2_w 38, 3) := by decide +kernel
theorem dX10_costOf_37 : decode cX10_costOf 37 = .ok (.lcmp, 1) := by decide +kernel
theorem dX10_costOf_38 : decode cX10_costOf 38 = .ok (.ifCond .ne 44, 3) := by decide +kernel
theorem dX10_costOf_41 : decode cX10_costOf 41 = .ok (.aload_n 0, 1) := by decide +kernel
theorem dX10_costOf_42 : decode cX10_costOf 42 = .ok (.getfield 11, 3) := by decide +kernel
theorem dX10_costOf_45 : decode cX10_costOf 45 = .ok (.iload_n 1, 1) := by decide +kernel
theorem dX10_costOf_46 : decode cX10_costOf 46 = .ok (.aload_n 0, 1) := by decide +kernel
theorem dX10_costOf_47 : decode cX10_costOf 47 = .ok (.iload_n 1, 1) := by decide +kernel
theorem dX10_costOf_48 : decode cX10_costOf 48 = .ok (.invokevirtual 55, 3) := by decide +kernel
theorem dX10_costOf_51 : decode cX10_costOf 51 = .ok (.ifCond .eq 14, 3) := by decide +kernel
theorem dX10_costOf_54 : decode cX10_costOf 54 = .ok (.aload_n 0, 1) := by decide +kernel
theorem dX10_costOf_55 : decode cX10_costOf 55 = .ok (.getfield 23, 3) := by decide +kernel
theorem dX10_costOf_58 : decode cX10_costOf 58 = .ok (.iload_n 1, 1) := by decide +kernel
theorem dX10_costOf_59 : decode cX10_costOf 59 = .ok (.invokevirtual 59, 3) := by decide +kernel
theorem dX10_costOf_62 : decode cX10_costOf 62 = .ok (.goto 6, 3) := by decide +kernel
theorem dX10_costOf_65 : decode cX10_costOf 65 = .ok (.ldc2_w 53, 3) := by decide +kernel
theorem dX10_costOf_68 : decode cX10_costOf 68 = .ok (.lastore, 1) := by decide +kernel
theorem dX10_costOf_69 : decode cX10_costOf 69 = .ok (.aload_n 0, 1) := by decide +kernel
theorem dX10_costOf_70 : decode cX10_costOf 70 = .ok (.getfield 15, 3) := by decide +kernel
theorem dX10_costOf_73 : decode cX10_costOf 73 = .ok (.iload_n 1, 1) := by decide +kernel
theorem dX10_costOf_74 : decode cX10_costOf 74 = .ok (.aload_n 0, 1) := by decide +kernel
theorem dX10_costOf_75 : decode cX10_costOf 75 = .ok (.getfield 23, 3) := by decide +kernel
theorem dX10_costOf_78 : decode cX10_costOf 78 = .ok (.getfield 63, 3) := by decide +kernel
theorem dX10_costOf_81 : decode cX10_costOf 81 = .ok (.lastore, 1) := by decide +kernel
theorem dX10_costOf_82 : decode cX10_costOf 82 = .ok (.aload_n 0, 1) := by decide +kernel
theorem dX10_costOf_83 : decode cX10_costOf 83 = .ok (.getfield 11, 3) := by decide +kernel
theorem dX10_costOf_86 : decode cX10_costOf 86 = .ok (.iload_n 1, 1) := by decide +kernel
theorem dX10_costOf_87 : decode cX10_costOf 87 = .ok (.laload, 1) := by decide +kernel
theorem dX10_costOf_88 : decode cX10_costOf 88 = .ok (.lreturn, 1) := by decide +kernel
theorem dX10_joinsAll_0 : decode cX10_joinsAll 0 = .ok (.aload_n 0, 1) := by decide +kernel
theorem dX10_joinsAll_1 : decode cX10_joinsAll 1 = .ok (.getfield 30, 3) := by decide +kernel
theorem dX10_joinsAll_4 : decode cX10_joinsAll 4 = .ok (.getfield 66, 3) := by decide +kernel
theorem dX10_joinsAll_7 : decode cX10_joinsAll 7 = .ok (.ifCond .eq 19, 3) := by decide +kernel
theorem dX10_joinsAll_10 : decode cX10_joinsAll 10 = .ok (.iload_n 1, 1) := by decide +kernel
theorem dX10_joinsAll_11 : decode cX10_joinsAll 11 = .ok (.invokestatic 69, 3) := by decide +kernel
theorem dX10_joinsAll_14 : decode cX10_joinsAll 14 = .ok (.aload_n 0, 1) := by decide +kernel
theorem dX10_joinsAll_15 : decode cX10_joinsAll 15 = .ok (.getfield 30, 3) := by decide +kernel
theorem dX10_joinsAll_18 : decode cX10_joinsAll 18 = .ok (.getfield 66, 3) := by decide +kernel
theorem dX10_joinsAll_21 : decode cX10_joinsAll 21 = .ok (.iconst 1, 1) := by decide +kernel
theorem dX10_joinsAll_22 : decode cX10_joinsAll 22 = .ok (.isub, 1) := by decide +kernel
theorem dX10_joinsAll_23 : decode cX10_joinsAll 23 = .ok (.if_icmp .eq 5, 3) := by decide +kernel
theorem dX10_joinsAll_26 : decode cX10_joinsAll 26 = .ok (.iconst 0, 1) := by decide +kernel
theorem dX10_joinsAll_27 : decode cX10_joinsAll 27 = .ok (.ireturn, 1) := by decide +kernel
theorem dX10_joinsAll_28 : decode cX10_joinsAll 28 = .ok (.iconst 1, 1) := by decide +kernel
theorem dX10_joinsAll_29 : decode cX10_joinsAll 29 = .ok (.istore_n 2, 1) := by decide +kernel
theorem dX10_joinsAll_30 : decode cX10_joinsAll 30 = .ok (.iconst 1, 1) := by decide +kernel
theorem dX10_joinsAll_31 : decode cX10_joinsAll 31 = .ok (.istore_n 3, 1) := by decide +kernel
theorem dX10_joinsAll_32 : decode cX10_joinsAll 32 = .ok (.iload_n 3, 1) := by decide +kernel
theorem dX10_joinsAll_33 : decode cX10_joinsAll 33 = .ok (.aload_n 0, 1) := by decide +kernel
theorem dX10_joinsAll_34 : decode cX10_joinsAll 34 = .ok (.getfield 30, 3) := by decide +kernel
theorem dX10_joinsAll_37 : decode cX10_joinsAll 37 = .ok (.getfield 66, 3) := by decide +kernel
theorem dX10_joinsAll_40 : decode cX10_joinsAll 40 = .ok (.if_icmp .ge 62, 3) := by decide +kernel
theorem dX10_joinsAll_43 : decode cX10_joinsAll 43 = .ok (.iconst 0, 1) := by decide +kernel
theorem dX10_joinsAll_44 : decode cX10_joinsAll 44 = .ok (.istore 4, 2) := by decide +kernel
theorem dX10_joinsAll_46 : decode cX10_joinsAll 46 = .ok (.iload 4, 2) := by decide +kernel
theorem dX10_joinsAll_48 : decode cX10_joinsAll 48 = .ok (.aload_n 0, 1) := by decide +kernel
theorem dX10_joinsAll_49 : decode cX10_joinsAll 49 = .ok (.getfield 30, 3) := by decide +kernel
theorem dX10_joinsAll_52 : decode cX10_joinsAll 52 = .ok (.getfield 47, 3) := by decide +kernel
theorem dX10_joinsAll_55 : decode cX10_joinsAll 55 = .ok (.if_icmp .ge 41, 3) := by decide +kernel
theorem dX10_joinsAll_58 : decode cX10_joinsAll 58 = .ok (.aload_n 0, 1) := by decide +kernel
theorem dX10_joinsAll_59 : decode cX10_joinsAll 59 = .ok (.getfield 30, 3) := by decide +kernel
theorem dX10_joinsAll_62 : decode cX10_joinsAll 62 = .ok (.iload 4, 2) := by decide +kernel
theorem dX10_joinsAll_64 : decode cX10_joinsAll 64 = .ok (.invokevirtual 75, 3) := by decide +kernel
theorem dX10_joinsAll_67 : decode cX10_joinsAll 67 = .ok (.istore 5, 2) := by decide +kernel
theorem dX10_joinsAll_69 : decode cX10_joinsAll 69 = .ok (.iload_n 1, 1) := by decide +kernel
theorem dX10_joinsAll_70 : decode cX10_joinsAll 70 = .ok (.iload 4, 2) := by decide +kernel
theorem dX10_joinsAll_72 : decode cX10_joinsAll 72 = .ok (.ishr, 1) := by decide +kernel
theorem dX10_joinsAll_73 : decode cX10_joinsAll 73 = .ok (.iconst 1, 1) := by decide +kernel
theorem dX10_joinsAll_74 : decode cX10_joinsAll 74 = .ok (.iand, 1) := by decide +kernel
theorem dX10_joinsAll_75 : decode cX10_joinsAll 75 = .ok (.ifCond .eq 15, 3) := by decide +kernel
theorem dX10_joinsAll_78 : decode cX10_joinsAll 78 = .ok (.iload_n 2, 1) := by decide +kernel
theorem dX10_joinsAll_79 : decode cX10_joinsAll 79 = .ok (.iload 5, 2) := by decide +kernel
theorem dX10_joinsAll_81 : decode cX10_joinsAll 81 = .ok (.iand, 1) := by decide +kernel
theorem dX10_joinsAll_82 : decode cX10_joinsAll 82 = .ok (.ifCond .eq 8, 3) := by decide +kernel
theorem dX10_joinsAll_85 : decode cX10_joinsAll 85 = .ok (.iload_n 2, 1) := by decide +kernel
theorem dX10_joinsAll_86 : decode cX10_joinsAll 86 = .ok (.iload 5, 2) := by decide +kernel
theorem dX10_joinsAll_88 : decode cX10_joinsAll 88 = .ok (.ior, 1) := by decide +kernel
theorem dX10_joinsAll_89 : decode cX10_joinsAll 89 = .ok (.istore_n 2, 1) := by decide +kernel
theorem dX10_joinsAll_90 : decode cX10_joinsAll 90 = .ok (.iinc 4 1, 3) := by decide +kernel
theorem dX10_joinsAll_93 : decode cX10_joinsAll 93 = .ok (.goto (-47), 3) := by decide +kernel
theorem dX10_joinsAll_96 : decode cX10_joinsAll 96 = .ok (.iinc 3 1, 3) := by decide +kernel
theorem dX10_joinsAll_99 : decode cX10_joinsAll 99 = .ok (.goto (-67), 3) := by decide +kernel
theorem dX10_joinsAll_102 : decode cX10_joinsAll 102 = .ok (.iload_n 2, 1) := by decide +kernel
theorem dX10_joinsAll_103 : decode cX10_joinsAll 103 = .ok (.iconst 1, 1) := by decide +kernel
theorem dX10_joinsAll_104 : decode cX10_joinsAll 104 = .ok (.aload_n 0, 1) := by decide +kernel
theorem dX10_joinsAll_105 : decode cX10_joinsAll 105 = .ok (.getfield 30, 3) := by decide +kernel
theorem dX10_joinsAll_108 : decode cX10_joinsAll 108 = .ok (.getfield 66, 3) := by decide +kernel
theorem dX10_joinsAll_111 : decode cX10_joinsAll 111 = .ok (.ishl, 1) := by decide +kernel
theorem dX10_joinsAll_112 : decode cX10_joinsAll 112 = .ok (.iconst 1, 1) := by decide +kernel
theorem dX10_joinsAll_113 : decode cX10_joinsAll 113 = .ok (.isub, 1) := by decide +kernel
theorem dX10_joinsAll_114 : decode cX10_joinsAll 114 = .ok (.if_icmp .ne 7, 3) := by decide +kernel
theorem dX10_joinsAll_117 : decode cX10_joinsAll 117 = .ok (.iconst 1, 1) := by decide +kernel
theorem dX10_joinsAll_118 : decode cX10_joinsAll 118 = .ok (.goto 4, 3) := by decide +kernel
theorem dX10_joinsAll_121 : decode cX10_joinsAll 121 = .ok (.iconst 0, 1) := by decide +kernel
theorem dX10_joinsAll_122 : decode cX10_joinsAll 122 = .ok (.ireturn, 1) := by decide +kernel
theorem dX10_layInto_0 : decode cX10_layInto 0 = .ok (.iload_n 2, 1) := by decide +kernel
theorem dX10_layInto_1 : decode cX10_layInto 1 = .ok (.ifCond .lt 25, 3) := by decide +kernel
theorem dX10_layInto_4 : decode cX10_layInto 4 = .ok (.iload_n 2, 1) := by decide +kernel
theorem dX10_layInto_5 : decode cX10_layInto 5 = .ok (.sipush 1024, 3) := by decide +kernel
theorem dX10_layInto_8 : decode cX10_layInto 8 = .ok (.if_icmp .ge 18, 3) := by decide +kernel
theorem dX10_layInto_11 : decode cX10_layInto 11 = .ok (.aload_n 0, 1) := by decide +kernel
theorem dX10_layInto_12 : decode cX10_layInto 12 = .ok (.getfield 23, 3) := by decide +kernel
theorem dX10_layInto_15 : decode cX10_layInto 15 = .ok (.aload_n 1, 1) := by decide +kernel
theorem dX10_layInto_16 : decode cX10_layInto 16 = .ok (.iload_n 2, 1) := by decide +kernel
theorem dX10_layInto_17 : decode cX10_layInto 17 = .ok (.aload_n 0, 1) := by decide +kernel
theorem dX10_layInto_18 : decode cX10_layInto 18 = .ok (.getfield 15, 3) := by decide +kernel
theorem dX10_layInto_21 : decode cX10_layInto 21 = .ok (.iload_n 2, 1) := by decide +kernel
theorem dX10_layInto_22 : decode cX10_layInto 22 = .ok (.laload, 1) := by decide +kernel
theorem dX10_layInto_23 : decode cX10_layInto 23 = .ok (.invokevirtual 78, 3) := by decide +kernel
theorem dX10_layInto_26 : decode cX10_layInto 26 = .ok (.return_, 1) := by decide +kernel
theorem dX10_settle_0 : decode cX10_settle 0 = .ok (.aload_n 0, 1) := by decide +kernel
theorem dX10_settle_1 : decode cX10_settle 1 = .ok (.getfield 34, 3) := by decide +kernel
theorem dX10_settle_4 : decode cX10_settle 4 = .ok (.ifCond .eq 4, 3) := by decide +kernel
theorem dX10_settle_7 : decode cX10_settle 7 = .ok (.return_, 1) := by decide +kernel
theorem dX10_settle_8 : decode cX10_settle 8 = .ok (.aload_n 0, 1) := by decide +kernel
theorem dX10_settle_9 : decode cX10_settle 9 = .ok (.iconst 1, 1) := by decide +kernel
theorem dX10_settle_10 : decode cX10_settle 10 = .ok (.putfield 34, 3) := by decide +kernel
theorem dX10_settle_13 : decode cX10_settle 13 = .ok (.aload_n 0, 1) := by decide +kernel
theorem dX10_settle_14 : decode cX10_settle 14 = .ok (.iconst 0, 1) := by decide +kernel
theorem dX10_settle_15 : decode cX10_settle 15 = .ok (.putfield 82, 3) := by decide +kernel
theorem dX10_settle_18 : decode cX10_settle 18 = .ok (.iconst 0, 1) := by decide +kernel
theorem dX10_settle_19 : decode cX10_settle 19 = .ok (.istore_n 1, 1) := by decide +kernel
theorem dX10_settle_20 : decode cX10_settle 20 = .ok (.iload_n 1, 1) := by decide +kernel
theorem dX10_settle_21 : decode cX10_settle 21 = .ok (.iconst 1, 1) := by decide +kernel
theorem dX10_settle_22 : decode cX10_settle 22 = .ok (.aload_n 0, 1) := by decide +kernel
theorem dX10_settle_23 : decode cX10_settle 23 = .ok (.getfield 30, 3) := by decide +kernel
theorem dX10_settle_26 : decode cX10_settle 26 = .ok (.getfield 47, 3) := by decide +kernel
theorem dX10_settle_29 : decode cX10_settle 29 = .ok (.ishl, 1) := by decide +kernel
theorem dX10_settle_30 : decode cX10_settle 30 = .ok (.if_icmp .ge 31, 3) := by decide +kernel
theorem dX10_settle_33 : decode cX10_settle 33 = .ok (.aload_n 0, 1) := by decide +kernel
theorem dX10_settle_34 : decode cX10_settle 34 = .ok (.iload_n 1, 1) := by decide +kernel
theorem dX10_settle_35 : decode cX10_settle 35 = .ok (.invokevirtual 85, 3) := by decide +kernel
theorem dX10_settle_38 : decode cX10_settle 38 = .ok (.ldc2_w 53, 3) := by decide +kernel
theorem dX10_settle_41 : decode cX10_settle 41 = .ok (.lcmp, 1) := by decide +kernel
theorem dX10_settle_42 : decode cX10_settle 42 = .ok (.ifCond .eq 13, 3) := by decide +kernel
theorem dX10_settle_45 : decode cX10_settle 45 = .ok (.aload_n 0, 1) := by decide +kernel
theorem dX10_settle_46 : decode cX10_settle 46 = .ok (.dup, 1) := by decide +kernel
theorem dX10_settle_47 : decode cX10_settle 47 = .ok (.getfield 82, 3) := by decide +kernel
theorem dX10_settle_50 : decode cX10_settle 50 = .ok (.iconst 1, 1) := by decide +kernel
theorem dX10_settle_51 : decode cX10_settle 51 = .ok (.iadd, 1) := by decide +kernel
theorem dX10_settle_52 : decode cX10_settle 52 = .ok (.putfield 82, 3) := by decide +kernel
theorem dX10_settle_55 : decode cX10_settle 55 = .ok (.iinc 1 1, 3) := by decide +kernel
theorem dX10_settle_58 : decode cX10_settle 58 = .ok (.goto (-38), 3) := by decide +kernel
theorem dX10_settle_61 : decode cX10_settle 61 = .ok (.aload_n 0, 1) := by decide +kernel
theorem dX10_settle_62 : decode cX10_settle 62 = .ok (.aload_n 0, 1) := by decide +kernel
theorem dX10_settle_63 : decode cX10_settle 63 = .ok (.iconst 0, 1) := by decide +kernel
theorem dX10_settle_64 : decode cX10_settle 64 = .ok (.invokevirtual 88, 3) := by decide +kernel
theorem dX10_settle_67 : decode cX10_settle 67 = .ok (.putfield 91, 3) := by decide +kernel
theorem dX10_settle_70 : decode cX10_settle 70 = .ok (.aload_n 0, 1) := by decide +kernel
theorem dX10_settle_71 : decode cX10_settle 71 = .ok (.aload_n 0, 1) := by decide +kernel
theorem dX10_settle_72 : decode cX10_settle 72 = .ok (.getfield 91, 3) := by decide +kernel
theorem dX10_settle_75 : decode cX10_settle 75 = .ok (.iconst (-1), 1) := by decide +kernel
theorem dX10_settle_76 : decode cX10_settle 76 = .ok (.if_icmp .ne 9, 3) := by decide +kernel
theorem dX10_settle_79 : decode cX10_settle 79 = .ok (.ldc2_w 94, 3) := by decide +kernel
theorem dX10_settle_82 : decode cX10_settle 82 = .ok (.goto 12, 3) := by decide +kernel
theorem dX10_settle_85 : decode cX10_settle 85 = .ok (.aload_n 0, 1) := by decide +kernel
theorem dX10_settle_86 : decode cX10_settle 86 = .ok (.getfield 11, 3) := by decide +kernel
theorem dX10_settle_89 : decode cX10_settle 89 = .ok (.aload_n 0, 1) := by decide +kernel
theorem dX10_settle_90 : decode cX10_settle 90 = .ok (.getfield 91, 3) := by decide +kernel
theorem dX10_settle_93 : decode cX10_settle 93 = .ok (.laload, 1) := by decide +kernel
theorem dX10_settle_94 : decode cX10_settle 94 = .ok (.putfield 96, 3) := by decide +kernel
theorem dX10_settle_97 : decode cX10_settle 97 = .ok (.return_, 1) := by decide +kernel
theorem dX10_leastAvoiding_0 : decode cX10_leastAvoiding 0 = .ok (.aload_n 0, 1) := by decide +kernel
theorem dX10_leastAvoiding_1 : decode cX10_leastAvoiding 1 = .ok (.iload_n 1, 1) := by decide +kernel
theorem dX10_leastAvoiding_2 : decode cX10_leastAvoiding 2 = .ok (.invokevirtual 88, 3) := by decide +kernel
theorem dX10_leastAvoiding_5 : decode cX10_leastAvoiding 5 = .ok (.istore_n 2, 1) := by decide +kernel
theorem dX10_leastAvoiding_6 : decode cX10_leastAvoiding 6 = .ok (.iload_n 2, 1) := by decide +kernel
theorem dX10_leastAvoiding_7 : decode cX10_leastAvoiding 7 = .ok (.iconst (-1), 1) := by decide +kernel
theorem dX10_leastAvoiding_8 : decode cX10_leastAvoiding 8 = .ok (.if_icmp .ne 9, 3) := by decide +kernel
theorem dX10_leastAvoiding_11 : decode cX10_leastAvoiding 11 = .ok (.ldc2_w 94, 3) := by decide +kernel
theorem dX10_leastAvoiding_14 : decode cX10_leastAvoiding 14 = .ok (.goto 9, 3) := by decide +kernel
theorem dX10_leastAvoiding_17 : decode cX10_leastAvoiding 17 = .ok (.aload_n 0, 1) := by decide +kernel
theorem dX10_leastAvoiding_18 : decode cX10_leastAvoiding 18 = .ok (.getfield 11, 3) := by decide +kernel
theorem dX10_leastAvoiding_21 : decode cX10_leastAvoiding 21 = .ok (.iload_n 2, 1) := by decide +kernel
theorem dX10_leastAvoiding_22 : decode cX10_leastAvoiding 22 = .ok (.laload, 1) := by decide +kernel
theorem dX10_leastAvoiding_23 : decode cX10_leastAvoiding 23 = .ok (.lreturn, 1) := by decide +kernel
theorem dX10_bestAvoiding_0 : decode cX10_bestAvoiding 0 = .ok (.iconst (-1), 1) := by decide +kernel
theorem dX10_bestAvoiding_1 : decode cX10_bestAvoiding 1 = .ok (.istore_n 2, 1) := by decide +kernel
theorem dX10_bestAvoiding_2 : decode cX10_bestAvoiding 2 = .ok (.iconst 0, 1) := by decide +kernel
theorem dX10_bestAvoiding_3 : decode cX10_bestAvoiding 3 = .ok (.istore_n 3, 1) := by decide +kernel
theorem dX10_bestAvoiding_4 : decode cX10_bestAvoiding 4 = .ok (.iload_n 3, 1) := by decide +kernel
theorem dX10_bestAvoiding_5 : decode cX10_bestAvoiding 5 = .ok (.iconst 1, 1) := by decide +kernel
theorem dX10_bestAvoiding_6 : decode cX10_bestAvoiding 6 = .ok (.aload_n 0, 1) := by decide +kernel
theorem dX10_bestAvoiding_7 : decode cX10_bestAvoiding 7 = .ok (.getfield 30, 3) := by decide +kernel
theorem dX10_bestAvoiding_10 : decode cX10_bestAvoiding 10 = .ok (.getfield 47, 3) := by decide +kernel
theorem dX10_bestAvoiding_13 : decode cX10_bestAvoiding 13 = .ok (.ishl, 1) := by decide +kernel
theorem dX10_bestAvoiding_14 : decode cX10_bestAvoiding 14 = .ok (.if_icmp .ge 49, 3) := by decide +kernel
theorem dX10_bestAvoiding_17 : decode cX10_bestAvoiding 17 = .ok (.iload_n 3, 1) := by decide +kernel
theorem dX10_bestAvoiding_18 : decode cX10_bestAvoiding 18 = .ok (.iload_n 1, 1) := by decide +kernel
theorem dX10_bestAvoiding_19 : decode cX10_bestAvoiding 19 = .ok (.iand, 1) := by decide +kernel
theorem dX10_bestAvoiding_20 : decode cX10_bestAvoiding 20 = .ok (.ifCond .ne 37, 3) := by decide +kernel
theorem dX10_bestAvoiding_23 : decode cX10_bestAvoiding 23 = .ok (.aload_n 0, 1) := by decide +kernel
theorem dX10_bestAvoiding_24 : decode cX10_bestAvoiding 24 = .ok (.getfield 11, 3) := by decide +kernel
theorem dX10_bestAvoiding_27 : decode cX10_bestAvoiding 27 = .ok (.iload_n 3, 1) := by decide +kernel
theorem dX10_bestAvoiding_28 : decode cX10_bestAvoiding 28 = .ok (.laload, 1) := by decide +kernel
theorem dX10_bestAvoiding_29 : decode cX10_bestAvoiding 29 = .ok (.lconst 0, 1) := by decide +kernel
theorem dX10_bestAvoiding_30 : decode cX10_bestAvoiding 30 = .ok (.lcmp, 1) := by decide +kernel
theorem dX10_bestAvoiding_31 : decode cX10_bestAvoiding 31 = .ok (.ifCond .lt 26, 3) := by decide +kernel
theorem dX10_bestAvoiding_34 : decode cX10_bestAvoiding 34 = .ok (.iload_n 2, 1) := by decide +kernel
theorem dX10_bestAvoiding_35 : decode cX10_bestAvoiding 35 = .ok (.iconst (-1), 1) := by decide +kernel
theorem dX10_bestAvoiding_36 : decode cX10_bestAvoiding 36 = .ok (.if_icmp .eq 19, 3) := by decide +kernel
theorem dX10_bestAvoiding_39 : decode cX10_bestAvoiding 39 = .ok (.aload_n 0, 1) := by decide +kernel
theorem dX10_bestAvoiding_40 : decode cX10_bestAvoiding 40 = .ok (.getfield 11, 3) := by decide +kernel
theorem dX10_bestAvoiding_43 : decode cX10_bestAvoiding 43 = .ok (.iload_n 3, 1) := by decide +kernel
theorem dX10_bestAvoiding_44 : decode cX10_bestAvoiding 44 = .ok (.laload, 1) := by decide +kernel
theorem dX10_bestAvoiding_45 : decode cX10_bestAvoiding 45 = .ok (.aload_n 0, 1) := by decide +kernel
theorem dX10_bestAvoiding_46 : decode cX10_bestAvoiding 46 = .ok (.getfield 11, 3) := by decide +kernel
theorem dX10_bestAvoiding_49 : decode cX10_bestAvoiding 49 = .ok (.iload_n 2, 1) := by decide +kernel
theorem dX10_bestAvoiding_50 : decode cX10_bestAvoiding 50 = .ok (.laload, 1) := by decide +kernel
theorem dX10_bestAvoiding_51 : decode cX10_bestAvoiding 51 = .ok (.lcmp, 1) := by decide +kernel
theorem dX10_bestAvoiding_52 : decode cX10_bestAvoiding 52 = .ok (.ifCond .ge 5, 3) := by decide +kernel
theorem dX10_bestAvoiding_55 : decode cX10_bestAvoiding 55 = .ok (.iload_n 3, 1) := by decide +kernel
theorem dX10_bestAvoiding_56 : decode cX10_bestAvoiding 56 = .ok (.istore_n 2, 1) := by decide +kernel
theorem dX10_bestAvoiding_57 : decode cX10_bestAvoiding 57 = .ok (.iinc 3 1, 3) := by decide +kernel
theorem dX10_bestAvoiding_60 : decode cX10_bestAvoiding 60 = .ok (.goto (-56), 3) := by decide +kernel
theorem dX10_bestAvoiding_63 : decode cX10_bestAvoiding 63 = .ok (.iload_n 2, 1) := by decide +kernel
theorem dX10_bestAvoiding_64 : decode cX10_bestAvoiding 64 = .ok (.ireturn, 1) := by decide +kernel
theorem dX11_init_0 : decode cX11_init 0 = .ok (.aload_n 0, 1) := by decide +kernel
theorem dX11_init_1 : decode cX11_init 1 = .ok (.invokespecial 3, 3) := by decide +kernel
theorem dX11_init_4 : decode cX11_init 4 = .ok (.aload_n 0, 1) := by decide +kernel
theorem dX11_init_5 : decode cX11_init 5 = .ok (.sipush 700, 3) := by decide +kernel
theorem dX11_init_8 : decode cX11_init 8 = .ok (.newarray .byte, 2) := by decide +kernel
theorem dX11_init_10 : decode cX11_init 10 = .ok (.putfield 9, 3) := by decide +kernel
theorem dX11_init_13 : decode cX11_init 13 = .ok (.aload_n 0, 1) := by decide +kernel
theorem dX11_init_14 : decode cX11_init 14 = .ok (.iconst 0, 1) := by decide +kernel
theorem dX11_init_15 : decode cX11_init 15 = .ok (.putfield 13, 3) := by decide +kernel
theorem dX11_init_18 : decode cX11_init 18 = .ok (.aload_n 0, 1) := by decide +kernel
theorem dX11_init_19 : decode cX11_init 19 = .ok (.new 17, 3) := by decide +kernel
theorem dX11_init_22 : decode cX11_init 22 = .ok (.dup, 1) := by decide +kernel
theorem dX11_init_23 : decode cX11_init 23 = .ok (.invokespecial 19, 3) := by decide +kernel
theorem dX11_init_26 : decode cX11_init 26 = .ok (.putfield 20, 3) := by decide +kernel
theorem dX11_init_29 : decode cX11_init 29 = .ok (.aload_n 0, 1) := by decide +kernel
theorem dX11_init_30 : decode cX11_init 30 = .ok (.new 17, 3) := by decide +kernel
theorem dX11_init_33 : decode cX11_init 33 = .ok (.dup, 1) := by decide +kernel
theorem dX11_init_34 : decode cX11_init 34 = .ok (.invokespecial 19, 3) := by decide +kernel
theorem dX11_init_37 : decode cX11_init 37 = .ok (.putfield 24, 3) := by decide +kernel
theorem dX11_init_40 : decode cX11_init 40 = .ok (.aload_n 0, 1) := by decide +kernel
theorem dX11_init_41 : decode cX11_init 41 = .ok (.new 27, 3) := by decide +kernel
theorem dX11_init_44 : decode cX11_init 44 = .ok (.dup, 1) := by decide +kernel
theorem dX11_init_45 : decode cX11_init 45 = .ok (.aload_n 0, 1) := by decide +kernel
theorem dX11_init_46 : decode cX11_init 46 = .ok (.getfield 9, 3) := by decide +kernel
theorem dX11_init_49 : decode cX11_init 49 = .ok (.aload_n 0, 1) := by decide +kernel
theorem dX11_init_50 : decode cX11_init 50 = .ok (.getfield 24, 3) := by decide +kernel
theorem dX11_init_53 : decode cX11_init 53 = .ok (.invokespecial 29, 3) := by decide +kernel
theorem dX11_init_56 : decode cX11_init 56 = .ok (.putfield 32, 3) := by decide +kernel
theorem dX11_init_59 : decode cX11_init 59 = .ok (.aload_n 0, 1) := by decide +kernel
theorem dX11_init_60 : decode cX11_init 60 = .ok (.new 36, 3) := by decide +kernel
theorem dX11_init_63 : decode cX11_init 63 = .ok (.dup, 1) := by decide +kernel
theorem dX11_init_64 : decode cX11_init 64 = .ok (.invokespecial 38, 3) := by decide +kernel
theorem dX11_init_67 : decode cX11_init 67 = .ok (.putfield 39, 3) := by decide +kernel
theorem dX11_init_70 : decode cX11_init 70 = .ok (.aload_n 0, 1) := by decide +kernel
theorem dX11_init_71 : decode cX11_init 71 = .ok (.new 43, 3) := by decide +kernel
theorem dX11_init_74 : decode cX11_init 74 = .ok (.dup, 1) := by decide +kernel
theorem dX11_init_75 : decode cX11_init 75 = .ok (.aload_n 0, 1) := by decide +kernel
theorem dX11_init_76 : decode cX11_init 76 = .ok (.getfield 39, 3) := by decide +kernel
theorem dX11_init_79 : decode cX11_init 79 = .ok (.aload_n 0, 1) := by decide +kernel
theorem dX11_init_80 : decode cX11_init 80 = .ok (.getfield 20, 3) := by decide +kernel
theorem dX11_init_83 : decode cX11_init 83 = .ok (.invokespecial 45, 3) := by decide +kernel
theorem dX11_init_86 : decode cX11_init 86 = .ok (.putfield 48, 3) := by decide +kernel
theorem dX11_init_89 : decode cX11_init 89 = .ok (.aload_n 0, 1) := by decide +kernel
theorem dX11_init_90 : decode cX11_init 90 = .ok (.new 52, 3) := by decide +kernel
theorem dX11_init_93 : decode cX11_init 93 = .ok (.dup, 1) := by decide +kernel
theorem dX11_init_94 : decode cX11_init 94 = .ok (.aload_n 0, 1) := by decide +kernel
theorem dX11_init_95 : decode cX11_init 95 = .ok (.getfield 20, 3) := by decide +kernel
theorem dX11_init_98 : decode cX11_init 98 = .ok (.invokespecial 54, 3) := by decide +kernel
theorem dX11_init_101 : decode cX11_init 101 = .ok (.putfield 57, 3) := by decide +kernel
theorem dX11_init_104 : decode cX11_init 104 = .ok (.aload_n 0, 1) := by decide +kernel
theorem dX11_init_105 : decode cX11_init 105 = .ok (.new 61, 3) := by decide +kernel
theorem dX11_init_108 : decode cX11_init 108 = .ok (.dup, 1) := by decide +kernel
theorem dX11_init_109 : decode cX11_init 109 = .ok (.aload_n 0, 1) := by decide +kernel
theorem dX11_init_110 : decode cX11_init 110 = .ok (.getfield 39, 3) := by decide +kernel
theorem dX11_init_113 : decode cX11_init 113 = .ok (.aload_n 0, 1) := by decide +kernel
theorem dX11_init_114 : decode cX11_init 114 = .ok (.getfield 20, 3) := by decide +kernel
theorem dX11_init_117 : decode cX11_init 117 = .ok (.invokespecial 63, 3) := by decide +kernel
theorem dX11_init_120 : decode cX11_init 120 = .ok (.putfield 64, 3) := by decide +kernel
theorem dX11_init_123 : decode cX11_init 123 = .ok (.return_, 1) := by decide +kernel
theorem dX11_feed_0 : decode cX11_feed 0 = .ok (.aload_n 0, 1) := by decide +kernel
theorem dX11_feed_1 : decode cX11_feed 1 = .ok (.getfield 13, 3) := by decide +kernel
theorem dX11_feed_4 : decode cX11_feed 4 = .ok (.bipush 20, 2) := by decide +kernel
theorem dX11_feed_6 : decode cX11_feed 6 = .ok (.iadd, 1) := by decide +kernel
theorem dX11_feed_7 : decode cX11_feed 7 = .ok (.sipush 700, 3) := by decide +kernel
theorem dX11_feed_10 : decode cX11_feed 10 = .ok (.if_icmp .le 5, 3) := by decide +kernel
theorem dX11_feed_13 : decode cX11_feed 13 = .ok (.iconst (-1), 1) := by decide +kernel
theorem dX11_feed_14 : decode cX11_feed 14 = .ok (.ireturn, 1) := by decide +kernel
theorem dX11_feed_15 : decode cX11_feed 15 = .ok (.aload_n 0, 1) := by decide +kernel
theorem dX11_feed_16 : decode cX11_feed 16 = .ok (.iload_n 1, 1) := by decide +kernel
theorem dX11_feed_17 : decode cX11_feed 17 = .ok (.invokevirtual 68, 3) := by decide +kernel
theorem dX11_feed_20 : decode cX11_feed 20 = .ok (.aload_n 0, 1) := by decide +kernel
theorem dX11_feed_21 : decode cX11_feed 21 = .ok (.iload_n 2, 1) := by decide +kernel
theorem dX11_feed_22 : decode cX11_feed 22 = .ok (.invokevirtual 68, 3) := by decide +kernel
theorem dX11_feed_25 : decode cX11_feed 25 = .ok (.aload_n 0, 1) := by decide +kernel
theorem dX11_feed_26 : decode cX11_feed 26 = .ok (.iload_n 3, 1) := by decide +kernel
theorem dX11_feed_27 : decode cX11_feed 27 = .ok (.invokevirtual 68, 3) := by decide +kernel
theorem dX11_feed_30 : decode cX11_feed 30 = .ok (.aload_n 0, 1) := by decide +kernel
theorem dX11_feed_31 : decode cX11_feed 31 = .ok (.iload 4, 2) := by decide +kernel
theorem dX11_feed_33 : decode cX11_feed 33 = .ok (.invokevirtual 68, 3) := by decide +kernel
theorem dX11_feed_36 : decode cX11_feed 36 = .ok (.aload_n 0, 1) := by decide +kernel
theorem dX11_feed_37 : decode cX11_feed 37 = .ok (.iload 5, 2) := by decide +kernel
theorem dX11_feed_39 : decode cX11_feed 39 = .ok (.invokevirtual 68, 3) := by decide +kernel
theorem dX11_feed_42 : decode cX11_feed 42 = .ok (.aload_n 0, 1) := by decide +kernel
theorem dX11_feed_43 : decode cX11_feed 43 = .ok (.getfield 13, 3) := by decide +kernel
theorem dX11_feed_46 : decode cX11_feed 46 = .ok (.ireturn, 1) := by decide +kernel
theorem dX11_appendBytes_0 : decode cX11_appendBytes 0 = .ok (.bipush 24, 2) := by decide +kernel
theorem dX11_appendBytes_2 : decode cX11_appendBytes 2 = .ok (.istore_n 2, 1) := by decide +kernel
theorem dX11_appendBytes_3 : decode cX11_appendBytes 3 = .ok (.iload_n 2, 1) := by decide +kernel
theorem dX11_appendBytes_4 : decode cX11_appendBytes 4 = .ok (.ifCond .lt 42, 3) := by decide +kernel
theorem dX11_appendBytes_7 : decode cX11_appendBytes 7 = .ok (.aload_n 0, 1) := by decide +kernel
theorem dX11_appendBytes_8 : decode cX11_appendBytes 8 = .ok (.getfield 13, 3) := by decide +kernel
theorem dX11_appendBytes_11 : decode cX11_appendBytes 11 = .ok (.sipush 700, 3) := by decide +kernel
theorem dX11_appendBytes_14 : decode cX11_appendBytes 14 = .ok (.if_icmp .ge 32, 3) := by decide +kernel
theorem dX11_appendBytes_17 : decode cX11_appendBytes 17 = .ok (.aload_n 0, 1) := by decide +kernel
theorem dX11_appendBytes_18 : decode cX11_appendBytes 18 = .ok (.getfield 9, 3) := by decide +kernel
theorem dX11_appendBytes_21 : decode cX11_appendBytes 21 = .ok (.aload_n 0, 1) := by decide +kernel
theorem dX11_appendBytes_22 : decode cX11_appendBytes 22 = .ok (.getfield 13, 3) := by decide +kernel
theorem dX11_appendBytes_25 : decode cX11_appendBytes 25 = .ok (.iload_n 1, 1) := by decide +kernel
theorem dX11_appendBytes_26 : decode cX11_appendBytes 26 = .ok (.iload_n 2, 1) := by decide +kernel
theorem dX11_appendBytes_27 : decode cX11_appendBytes 27 = .ok (.ishr, 1) := by decide +kernel
theorem dX11_appendBytes_28 : decode cX11_appendBytes 28 = .ok (.i2b, 1) := by decide +kernel
theorem dX11_appendBytes_29 : decode cX11_appendBytes 29 = .ok (.bastore, 1) := by decide +kernel
theorem dX11_appendBytes_30 : decode cX11_appendBytes 30 = .ok (.aload_n 0, 1) := by decide +kernel
theorem dX11_appendBytes_31 : decode cX11_appendBytes 31 = .ok (.dup, 1) := by decide +kernel
theorem dX11_appendBytes_32 : decode cX11_appendBytes 32 = .ok (.getfield 13, 3) := by decide +kernel
theorem dX11_appendBytes_35 : decode cX11_appendBytes 35 = .ok (.iconst 1, 1) := by decide +kernel
theorem dX11_appendBytes_36 : decode cX11_appendBytes 36 = .ok (.iadd, 1) := by decide +kernel
theorem dX11_appendBytes_37 : decode cX11_appendBytes 37 = .ok (.putfield 13, 3) := by decide +kernel
theorem dX11_appendBytes_40 : decode cX11_appendBytes 40 = .ok (.iinc 2 (-8), 3) := by decide +kernel
theorem dX11_appendBytes_43 : decode cX11_appendBytes 43 = .ok (.goto (-40), 3) := by decide +kernel
theorem dX11_appendBytes_46 : decode cX11_appendBytes 46 = .ok (.return_, 1) := by decide +kernel
theorem dX11_text_0 : decode cX11_text 0 = .ok (.iload_n 1, 1) := by decide +kernel
theorem dX11_text_1 : decode cX11_text 1 = .ok (.ifCond .lt 11, 3) := by decide +kernel
theorem dX11_text_4 : decode cX11_text 4 = .ok (.iload_n 1, 1) := by decide +kernel
theorem dX11_text_5 : decode cX11_text 5 = .ok (.aload_n 0, 1) := by decide +kernel
theorem dX11_text_6 : decode cX11_text 6 = .ok (.getfield 13, 3) := by decide +kernel
theorem dX11_text_9 : decode cX11_text 9 = .ok (.if_icmp .le 6, 3) := by decide +kernel
theorem dX11_text_12 : decode cX11_text 12 = .ok (.bipush (-2), 2) := by decide +kernel
theorem dX11_text_14 : decode cX11_text 14 = .ok (.ireturn, 1) := by decide +kernel
theorem dX11_text_15 : decode cX11_text 15 = .ok (.aload_n 0, 1) := by decide +kernel
theorem dX11_text_16 : decode cX11_text 16 = .ok (.iconst 0, 1) := by decide +kernel
theorem dX11_text_17 : decode cX11_text 17 = .ok (.putfield 13, 3) := by decide +kernel
theorem dX11_text_20 : decode cX11_text 20 = .ok (.aload_n 0, 1) := by decide +kernel
theorem dX11_text_21 : decode cX11_text 21 = .ok (.getfield 32, 3) := by decide +kernel
theorem dX11_text_24 : decode cX11_text 24 = .ok (.aload_n 0, 1) := by decide +kernel
theorem dX11_text_25 : decode cX11_text 25 = .ok (.getfield 24, 3) := by decide +kernel
theorem dX11_text_28 : decode cX11_text 28 = .ok (.iload_n 1, 1) := by decide +kernel
theorem dX11_text_29 : decode cX11_text 29 = .ok (.invokevirtual 72, 3) := by decide +kernel
theorem dX11_text_32 : decode cX11_text 32 = .ok (.istore_n 2, 1) := by decide +kernel
theorem dX11_text_33 : decode cX11_text 33 = .ok (.iload_n 2, 1) := by decide +kernel
theorem dX11_text_34 : decode cX11_text 34 = .ok (.iconst (-1), 1) := by decide +kernel
theorem dX11_text_35 : decode cX11_text 35 = .ok (.if_icmp .eq 50, 3) := by decide +kernel
theorem dX11_text_38 : decode cX11_text 38 = .ok (.aload_n 0, 1) := by decide +kernel
theorem dX11_text_39 : decode cX11_text 39 = .ok (.getfield 24, 3) := by decide +kernel
theorem dX11_text_42 : decode cX11_text 42 = .ok (.astore_n 3, 1) := by decide +kernel
theorem dX11_text_43 : decode cX11_text 43 = .ok (.aload_n 0, 1) := by decide +kernel
theorem dX11_text_44 : decode cX11_text 44 = .ok (.aload_n 0, 1) := by decide +kernel
theorem dX11_text_45 : decode cX11_text 45 = .ok (.getfield 20, 3) := by decide +kernel
theorem dX11_text_48 : decode cX11_text 48 = .ok (.putfield 24, 3) := by decide +kernel
theorem dX11_text_51 : decode cX11_text 51 = .ok (.aload_n 0, 1) := by decide +kernel
theorem dX11_text_52 : decode cX11_text 52 = .ok (.aload_n 3, 1) := by decide +kernel
theorem dX11_text_53 : decode cX11_text 53 = .ok (.putfield 20, 3) := by decide +kernel
theorem dX11_text_56 : decode cX11_text 56 = .ok (.aload_n 0, 1) := by decide +kernel
theorem dX11_text_57 : decode cX11_text 57 = .ok (.getfield 39, 3) := by decide +kernel
theorem dX11_text_60 : decode cX11_text 60 = .ok (.invokevirtual 76, 3) := by decide +kernel
theorem dX11_text_63 : decode cX11_text 63 = .ok (.aload_n 0, 1) := by decide +kernel
theorem dX11_text_64 : decode cX11_text 64 = .ok (.getfield 48, 3) := by decide +kernel
theorem dX11_text_67 : decode cX11_text 67 = .ok (.aload_n 0, 1) := by decide +kernel
theorem dX11_text_68 : decode cX11_text 68 = .ok (.getfield 20, 3) := by decide +kernel
theorem dX11_text_71 : decode cX11_text 71 = .ok (.invokevirtual 79, 3) := by decide +kernel
theorem dX11_text_74 : decode cX11_text 74 = .ok (.aload_n 0, 1) := by decide +kernel
theorem dX11_text_75 : decode cX11_text 75 = .ok (.getfield 57, 3) := by decide +kernel
theorem dX11_text_78 : decode cX11_text 78 = .ok (.aload_n 0, 1) := by decide +kernel
theorem dX11_text_79 : decode cX11_text 79 = .ok (.getfield 20, 3) := by decide +kernel
theorem dX11_text_82 : decode cX11_text 82 = .ok (.invokevirtual 82, 3) := by decide +kernel
theorem dX11_text_85 : decode cX11_text 85 = .ok (.iload_n 2, 1) := by decide +kernel
theorem dX11_text_86 : decode cX11_text 86 = .ok (.ireturn, 1) := by decide +kernel
theorem dX11_fault_0 : decode cX11_fault 0 = .ok (.iload_n 1, 1) := by decide +kernel
theorem dX11_fault_1 : decode cX11_fault 1 = .ok (.ifCond .ne 11, 3) := by decide +kernel
theorem dX11_fault_4 : decode cX11_fault 4 = .ok (.aload_n 0, 1) := by decide +kernel
theorem dX11_fault_5 : decode cX11_fault 5 = .ok (.getfield 32, 3) := by decide +kernel
theorem dX11_fault_8 : decode cX11_fault 8 = .ok (.getfield 83, 3) := by decide +kernel
theorem dX11_fault_11 : decode cX11_fault 11 = .ok (.ireturn, 1) := by decide +kernel
theorem dX11_fault_12 : decode cX11_fault 12 = .ok (.iload_n 1, 1) := by decide +kernel
theorem dX11_fault_13 : decode cX11_fault 13 = .ok (.iconst 1, 1) := by decide +kernel
theorem dX11_fault_14 : decode cX11_fault 14 = .ok (.if_icmp .ne 13, 3) := by decide +kernel
theorem dX11_fault_17 : decode cX11_fault 17 = .ok (.aload_n 0, 1) := by decide +kernel
theorem dX11_fault_18 : decode cX11_fault 18 = .ok (.getfield 32, 3) := by decide +kernel
theorem dX11_fault_21 : decode cX11_fault 21 = .ok (.getfield 86, 3) := by decide +kernel
theorem dX11_fault_24 : decode cX11_fault 24 = .ok (.goto 4, 3) := by decide +kernel
theorem dX11_fault_27 : decode cX11_fault 27 = .ok (.iconst (-1), 1) := by decide +kernel
theorem dX11_fault_28 : decode cX11_fault 28 = .ok (.ireturn, 1) := by decide +kernel
theorem dX11_named_0 : decode cX11_named 0 = .ok (.aload_n 0, 1) := by decide +kernel
theorem dX11_named_1 : decode cX11_named 1 = .ok (.getfield 20, 3) := by decide +kernel
theorem dX11_named_4 : decode cX11_named 4 = .ok (.iload_n 1, 1) := by decide +kernel
theorem dX11_named_5 : decode cX11_named 5 = .ok (.iload_n 2, 1) := by decide +kernel
theorem dX11_named_6 : decode cX11_named 6 = .ok (.invokevirtual 89, 3) := by decide +kernel
theorem dX11_named_9 : decode cX11_named 9 = .ok (.ireturn, 1) := by decide +kernel
theorem dX11_look_0 : decode cX11_look 0 = .ok (.aload_n 0, 1) := by decide +kernel
theorem dX11_look_1 : decode cX11_look 1 = .ok (.getfield 20, 3) := by decide +kernel
theorem dX11_look_4 : decode cX11_look 4 = .ok (.iload_n 1, 1) := by decide +kernel
theorem dX11_look_5 : decode cX11_look 5 = .ok (.invokevirtual 93, 3) := by decide +kernel
theorem dX11_look_8 : decode cX11_look 8 = .ok (.ifCond .ne 11, 3) := by decide +kernel
theorem dX11_look_11 : decode cX11_look 11 = .ok (.new 97, 3) := by decide +kernel
theorem dX11_look_14 : decode cX11_look 14 = .ok (.dup, 1) := by decide +kernel
theorem dX11_look_15 : decode cX11_look 15 = .ok (.invokespecial 99, 3) := by decide +kernel
theorem dX11_look_18 : decode cX11_look 18 = .ok (.athrow, 1) := by decide +kernel
theorem dX11_look_19 : decode cX11_look 19 = .ok (.iload_n 2, 1) := by decide +kernel
theorem dX11_look_20 : decode cX11_look 20 = .ok (.ifCond .lt 8, 3) := by decide +kernel
theorem dX11_look_23 : decode cX11_look 23 = .ok (.iload_n 2, 1) := by decide +kernel
theorem dX11_look_24 : decode cX11_look 24 = .ok (.iconst 2, 1) := by decide +kernel
theorem dX11_look_25 : decode cX11_look 25 = .ok (.if_icmp .le 11, 3) := by decide +kernel
theorem dX11_look_28 : decode cX11_look 28 = .ok (.new 100, 3) := by decide +kernel
theorem dX11_look_31 : decode cX11_look 31 = .ok (.dup, 1) := by decide +kernel
theorem dX11_look_32 : decode cX11_look 32 = .ok (.invokespecial 102, 3) := by decide +kernel
theorem dX11_look_35 : decode cX11_look 35 = .ok (.athrow, 1) := by decide +kernel
theorem dX11_look_36 : decode cX11_look 36 = .ok (.aload_n 0, 1) := by decide +kernel
theorem dX11_look_37 : decode cX11_look 37 = .ok (.getfield 20, 3) := by decide +kernel
theorem dX11_look_40 : decode cX11_look 40 = .ok (.getfield 103, 3) := by decide +kernel
theorem dX11_look_43 : decode cX11_look 43 = .ok (.iload_n 1, 1) := by decide +kernel
theorem dX11_look_44 : decode cX11_look 44 = .ok (.aaload, 1) := by decide +kernel
theorem dX11_look_45 : decode cX11_look 45 = .ok (.iload_n 2, 1) := by decide +kernel
theorem dX11_look_46 : decode cX11_look 46 = .ok (.iaload, 1) := by decide +kernel
theorem dX11_look_47 : decode cX11_look 47 = .ok (.ireturn, 1) := by decide +kernel
theorem dX11_street_0 : decode cX11_street 0 = .ok (.aload_n 0, 1) := by decide +kernel
theorem dX11_street_1 : decode cX11_street 1 = .ok (.getfield 20, 3) := by decide +kernel
theorem dX11_street_4 : decode cX11_street 4 = .ok (.iload_n 1, 1) := by decide +kernel
theorem dX11_street_5 : decode cX11_street 5 = .ok (.invokevirtual 107, 3) := by decide +kernel
theorem dX11_street_8 : decode cX11_street 8 = .ok (.ifCond .eq 12, 3) := by decide +kernel
theorem dX11_street_11 : decode cX11_street 11 = .ok (.iload_n 2, 1) := by decide +kernel
theorem dX11_street_12 : decode cX11_street 12 = .ok (.ifCond .lt 8, 3) := by decide +kernel
theorem dX11_street_15 : decode cX11_street 15 = .ok (.iload_n 2, 1) := by decide +kernel
theorem dX11_street_16 : decode cX11_street 16 = .ok (.iconst 4, 1) := by decide +kernel
theorem dX11_street_17 : decode cX11_street 17 = .ok (.if_icmp .le 5, 3) := by decide +kernel
theorem dX11_street_20 : decode cX11_street 20 = .ok (.iconst (-1), 1) := by decide +kernel
theorem dX11_street_21 : decode cX11_street 21 = .ok (.ireturn, 1) := by decide +kernel
theorem dX11_street_22 : decode cX11_street 22 = .ok (.aload_n 0, 1) := by decide +kernel
theorem dX11_street_23 : decode cX11_street 23 = .ok (.getfield 20, 3) := by decide +kernel
theorem dX11_street_26 : decode cX11_street 26 = .ok (.getfield 110, 3) := by decide +kernel
theorem dX11_street_29 : decode cX11_street 29 = .ok (.iload_n 1, 1) := by decide +kernel
theorem dX11_street_30 : decode cX11_street 30 = .ok (.aaload, 1) := by decide +kernel
theorem dX11_street_31 : decode cX11_street 31 = .ok (.iload_n 2, 1) := by decide +kernel
theorem dX11_street_32 : decode cX11_street 32 = .ok (.iaload, 1) := by decide +kernel
theorem dX11_street_33 : decode cX11_street 33 = .ok (.ireturn, 1) := by decide +kernel
theorem dX11_pipe_0 : decode cX11_pipe 0 = .ok (.aload_n 0, 1) := by decide +kernel
theorem dX11_pipe_1 : decode cX11_pipe 1 = .ok (.getfield 20, 3) := by decide +kernel
theorem dX11_pipe_4 : decode cX11_pipe 4 = .ok (.iload_n 1, 1) := by decide +kernel
theorem dX11_pipe_5 : decode cX11_pipe 5 = .ok (.invokevirtual 113, 3) := by decide +kernel
theorem dX11_pipe_8 : decode cX11_pipe 8 = .ok (.ifCond .eq 12, 3) := by decide +kernel
theorem dX11_pipe_11 : decode cX11_pipe 11 = .ok (.iload_n 2, 1) := by decide +kernel
theorem dX11_pipe_12 : decode cX11_pipe 12 = .ok (.ifCond .lt 8, 3) := by decide +kernel
theorem dX11_pipe_15 : decode cX11_pipe 15 = .ok (.iload_n 2, 1) := by decide +kernel
theorem dX11_pipe_16 : decode cX11_pipe 16 = .ok (.iconst 1, 1) := by decide +kernel
theorem dX11_pipe_17 : decode cX11_pipe 17 = .ok (.if_icmp .le 5, 3) := by decide +kernel
theorem dX11_pipe_20 : decode cX11_pipe 20 = .ok (.iconst (-1), 1) := by decide +kernel
theorem dX11_pipe_21 : decode cX11_pipe 21 = .ok (.ireturn, 1) := by decide +kernel
theorem dX11_pipe_22 : decode cX11_pipe 22 = .ok (.aload_n 0, 1) := by decide +kernel
theorem dX11_pipe_23 : decode cX11_pipe 23 = .ok (.getfield 20, 3) := by decide +kernel
theorem dX11_pipe_26 : decode cX11_pipe 26 = .ok (.getfield 116, 3) := by decide +kernel
theorem dX11_pipe_29 : decode cX11_pipe 29 = .ok (.iload_n 1, 1) := by decide +kernel
theorem dX11_pipe_30 : decode cX11_pipe 30 = .ok (.aaload, 1) := by decide +kernel
theorem dX11_pipe_31 : decode cX11_pipe 31 = .ok (.iload_n 2, 1) := by decide +kernel
theorem dX11_pipe_32 : decode cX11_pipe 32 = .ok (.iaload, 1) := by decide +kernel
theorem dX11_pipe_33 : decode cX11_pipe 33 = .ok (.ireturn, 1) := by decide +kernel
theorem dX11_lay_0 : decode cX11_lay 0 = .ok (.aload_n 0, 1) := by decide +kernel
theorem dX11_lay_1 : decode cX11_lay 1 = .ok (.getfield 20, 3) := by decide +kernel
theorem dX11_lay_4 : decode cX11_lay 4 = .ok (.iload_n 1, 1) := by decide +kernel
theorem dX11_lay_5 : decode cX11_lay 5 = .ok (.invokevirtual 93, 3) := by decide +kernel
theorem dX11_lay_8 : decode cX11_lay 8 = .ok (.ifCond .eq 36, 3) := by decide +kernel
theorem dX11_lay_11 : decode cX11_lay 11 = .ok (.iload_n 1, 1) := by decide +kernel
theorem dX11_lay_12 : decode cX11_lay 12 = .ok (.aload_n 0, 1) := by decide +kernel
theorem dX11_lay_13 : decode cX11_lay 13 = .ok (.getfield 20, 3) := by decide +kernel
theorem dX11_lay_16 : decode cX11_lay 16 = .ok (.getfield 119, 3) := by decide +kernel
theorem dX11_lay_19 : decode cX11_lay 19 = .ok (.if_icmp .eq 25, 3) := by decide +kernel
theorem dX11_lay_22 : decode cX11_lay 22 = .ok (.aload_n 0, 1) := by decide +kernel
theorem dX11_lay_23 : decode cX11_lay 23 = .ok (.getfield 20, 3) := by decide +kernel
theorem dX11_lay_26 : decode cX11_lay 26 = .ok (.iload_n 2, 1) := by decide +kernel
theorem dX11_lay_27 : decode cX11_lay 27 = .ok (.invokevirtual 107, 3) := by decide +kernel
theorem dX11_lay_30 : decode cX11_lay 30 = .ok (.ifCond .eq 14, 3) := by decide +kernel
theorem dX11_lay_33 : decode cX11_lay 33 = .ok (.aload_n 0, 1) := by decide +kernel
theorem dX11_lay_34 : decode cX11_lay 34 = .ok (.getfield 20, 3) := by decide +kernel
theorem dX11_lay_37 : decode cX11_lay 37 = .ok (.iload_n 3, 1) := by decide +kernel
theorem dX11_lay_38 : decode cX11_lay 38 = .ok (.invokevirtual 113, 3) := by decide +kernel
theorem dX11_lay_41 : decode cX11_lay 41 = .ok (.ifCond .ne 5, 3) := by decide +kernel
theorem dX11_lay_44 : decode cX11_lay 44 = .ok (.iconst 0, 1) := by decide +kernel
theorem dX11_lay_45 : decode cX11_lay 45 = .ok (.ireturn, 1) := by decide +kernel
theorem dX11_lay_46 : decode cX11_lay 46 = .ok (.aload_n 0, 1) := by decide +kernel
theorem dX11_lay_47 : decode cX11_lay 47 = .ok (.getfield 20, 3) := by decide +kernel
theorem dX11_lay_50 : decode cX11_lay 50 = .ok (.iload_n 2, 1) := by decide +kernel
theorem dX11_lay_51 : decode cX11_lay 51 = .ok (.iload_n 1, 1) := by decide +kernel
theorem dX11_lay_52 : decode cX11_lay 52 = .ok (.invokevirtual 122, 3) := by decide +kernel
theorem dX11_lay_55 : decode cX11_lay 55 = .ok (.ifCond .eq 27, 3) := by decide +kernel
theorem dX11_lay_58 : decode cX11_lay 58 = .ok (.iload 4, 2) := by decide +kernel
theorem dX11_lay_60 : decode cX11_lay 60 = .ok (.ifCond .lt 22, 3) := by decide +kernel
theorem dX11_lay_63 : decode cX11_lay 63 = .ok (.iload 4, 2) := by decide +kernel
theorem dX11_lay_65 : decode cX11_lay 65 = .ok (.bipush 12, 2) := by decide +kernel
theorem dX11_lay_67 : decode cX11_lay 67 = .ok (.if_icmp .gt 15, 3) := by decide +kernel
theorem dX11_lay_70 : decode cX11_lay 70 = .ok (.iload 5, 2) := by decide +kernel
theorem dX11_lay_72 : decode cX11_lay 72 = .ok (.ifCond .lt 10, 3) := by decide +kernel
theorem dX11_lay_75 : decode cX11_lay 75 = .ok (.iload 5, 2) := by decide +kernel
theorem dX11_lay_77 : decode cX11_lay 77 = .ok (.bipush 12, 2) := by decide +kernel
theorem dX11_lay_79 : decode cX11_lay 79 = .ok (.if_icmp .le 5, 3) := by decide +kernel
theorem dX11_lay_82 : decode cX11_lay 82 = .ok (.iconst 0, 1) := by decide +kernel
theorem dX11_lay_83 : decode cX11_lay 83 = .ok (.ireturn, 1) := by decide +kernel
theorem dX11_lay_84 : decode cX11_lay 84 = .ok (.aload_n 0, 1) := by decide +kernel
theorem dX11_lay_85 : decode cX11_lay 85 = .ok (.getfield 39, 3) := by decide +kernel
theorem dX11_lay_88 : decode cX11_lay 88 = .ok (.invokevirtual 126, 3) := by decide +kernel
theorem dX11_lay_91 : decode cX11_lay 91 = .ok (.aload_n 0, 1) := by decide +kernel
theorem dX11_lay_92 : decode cX11_lay 92 = .ok (.getfield 39, 3) := by decide +kernel
theorem dX11_lay_95 : decode cX11_lay 95 = .ok (.iload_n 1, 1) := by decide +kernel
theorem dX11_lay_96 : decode cX11_lay 96 = .ok (.iload_n 2, 1) := by decide +kernel
theorem dX11_lay_97 : decode cX11_lay 97 = .ok (.iload_n 3, 1) := by decide +kernel
theorem dX11_lay_98 : decode cX11_lay 98 = .ok (.iload 4, 2) := by decide +kernel
theorem dX11_lay_100 : decode cX11_lay 100 = .ok (.iload 5, 2) := by decide +kernel
theorem dX11_lay_102 : decode cX11_lay 102 = .ok (.invokevirtual 129, 3) := by decide +kernel
theorem dX11_lay_105 : decode cX11_lay 105 = .ok (.aload_n 0, 1) := by decide +kernel
theorem dX11_lay_106 : decode cX11_lay 106 = .ok (.getfield 48, 3) := by decide +kernel
theorem dX11_lay_109 : decode cX11_lay 109 = .ok (.iconst 0, 1) := by decide +kernel
theorem dX11_lay_110 : decode cX11_lay 110 = .ok (.putfield 133, 3) := by decide +kernel
theorem dX11_lay_113 : decode cX11_lay 113 = .ok (.iconst 1, 1) := by decide +kernel
theorem dX11_lay_114 : decode cX11_lay 114 = .ok (.ireturn, 1) := by decide +kernel
theorem dX11_take_0 : decode cX11_take 0 = .ok (.aload_n 0, 1) := by decide +kernel
theorem dX11_take_1 : decode cX11_take 1 = .ok (.iload_n 1, 1) := by decide +kernel
theorem dX11_take_2 : decode cX11_take 2 = .ok (.invokevirtual 137, 3) := by decide +kernel
theorem dX11_take_5 : decode cX11_take 5 = .ok (.ifCond .ne 5, 3) := by decide +kernel
theorem dX11_take_8 : decode cX11_take 8 = .ok (.iconst 0, 1) := by decide +kernel
theorem dX11_take_9 : decode cX11_take 9 = .ok (.ireturn, 1) := by decide +kernel
theorem dX11_take_10 : decode cX11_take 10 = .ok (.aload_n 0, 1) := by decide +kernel
theorem dX11_take_11 : decode cX11_take 11 = .ok (.getfield 39, 3) := by decide +kernel
theorem dX11_take_14 : decode cX11_take 14 = .ok (.invokevirtual 126, 3) := by decide +kernel
theorem dX11_take_17 : decode cX11_take 17 = .ok (.aload_n 0, 1) := by decide +kernel
theorem dX11_take_18 : decode cX11_take 18 = .ok (.getfield 39, 3) := by decide +kernel
theorem dX11_take_21 : decode cX11_take 21 = .ok (.getfield 140, 3) := by decide +kernel
theorem dX11_take_24 : decode cX11_take 24 = .ok (.iload_n 1, 1) := by decide +kernel
theorem dX11_take_25 : decode cX11_take 25 = .ok (.iconst (-1), 1) := by decide +kernel
theorem dX11_take_26 : decode cX11_take 26 = .ok (.iastore, 1) := by decide +kernel
theorem dX11_take_27 : decode cX11_take 27 = .ok (.aload_n 0, 1) := by decide +kernel
theorem dX11_take_28 : decode cX11_take 28 = .ok (.getfield 48, 3) := by decide +kernel
theorem dX11_take_31 : decode cX11_take 31 = .ok (.iconst 0, 1) := by decide +kernel
theorem dX11_take_32 : decode cX11_take 32 = .ok (.putfield 133, 3) := by decide +kernel
theorem dX11_take_35 : decode cX11_take 35 = .ok (.iconst 1, 1) := by decide +kernel
theorem dX11_take_36 : decode cX11_take 36 = .ok (.ireturn, 1) := by decide +kernel
theorem dX11_hasPipe_0 : decode cX11_hasPipe 0 = .ok (.aload_n 0, 1) := by decide +kernel
theorem dX11_hasPipe_1 : decode cX11_hasPipe 1 = .ok (.getfield 20, 3) := by decide +kernel
theorem dX11_hasPipe_4 : decode cX11_hasPipe 4 = .ok (.iload_n 1, 1) := by decide +kernel
theorem dX11_hasPipe_5 : decode cX11_hasPipe 5 = .ok (.invokevirtual 93, 3) := by decide +kernel
theorem dX11_hasPipe_8 : decode cX11_hasPipe 8 = .ok (.ifCond .eq 20, 3) := by decide +kernel
theorem dX11_hasPipe_11 : decode cX11_hasPipe 11 = .ok (.aload_n 0, 1) := by decide +kernel
theorem dX11_hasPipe_12 : decode cX11_hasPipe 12 = .ok (.getfield 39, 3) := by decide +kernel
theorem dX11_hasPipe_15 : decode cX11_hasPipe 15 = .ok (.getfield 140, 3) := by decide +kernel
theorem dX11_hasPipe_18 : decode cX11_hasPipe 18 = .ok (.iload_n 1, 1) := by decide +kernel
theorem dX11_hasPipe_19 : decode cX11_hasPipe 19 = .ok (.iaload, 1) := by decide +kernel
theorem dX11_hasPipe_20 : decode cX11_hasPipe 20 = .ok (.iconst (-1), 1) := by decide +kernel
theorem dX11_hasPipe_21 : decode cX11_hasPipe 21 = .ok (.if_icmp .eq 7, 3) := by decide +kernel
theorem dX11_hasPipe_24 : decode cX11_hasPipe 24 = .ok (.iconst 1, 1) := by decide +kernel
theorem dX11_hasPipe_25 : decode cX11_hasPipe 25 = .ok (.goto 4, 3) := by decide +kernel
theorem dX11_hasPipe_28 : decode cX11_hasPipe 28 = .ok (.iconst 0, 1) := by decide +kernel
theorem dX11_hasPipe_29 : decode cX11_hasPipe 29 = .ok (.ireturn, 1) := by decide +kernel
theorem dX11_net_0 : decode cX11_net 0 = .ok (.aload_n 0, 1) := by decide +kernel
theorem dX11_net_1 : decode cX11_net 1 = .ok (.getfield 20, 3) := by decide +kernel
theorem dX11_net_4 : decode cX11_net 4 = .ok (.iload_n 1, 1) := by decide +kernel
theorem dX11_net_5 : decode cX11_net 5 = .ok (.invokevirtual 93, 3) := by decide +kernel
theorem dX11_net_8 : decode cX11_net 8 = .ok (.ifCond .eq 12, 3) := by decide +kernel
theorem dX11_net_11 : decode cX11_net 11 = .ok (.iload_n 2, 1) := by decide +kernel
theorem dX11_net_12 : decode cX11_net 12 = .ok (.ifCond .lt 8, 3) := by decide +kernel
theorem dX11_net_15 : decode cX11_net 15 = .ok (.iload_n 2, 1) := by decide +kernel
theorem dX11_net_16 : decode cX11_net 16 = .ok (.iconst 5, 1) := by decide +kernel
theorem dX11_net_17 : decode cX11_net 17 = .ok (.if_icmp .le 5, 3) := by decide +kernel
theorem dX11_net_20 : decode cX11_net 20 = .ok (.iconst (-1), 1) := by decide +kernel
theorem dX11_net_21 : decode cX11_net 21 = .ok (.ireturn, 1) := by decide +kernel
theorem dX11_net_22 : decode cX11_net 22 = .ok (.aload_n 0, 1) := by decide +kernel
theorem dX11_net_23 : decode cX11_net 23 = .ok (.getfield 39, 3) := by decide +kernel
theorem dX11_net_26 : decode cX11_net 26 = .ok (.getfield 140, 3) := by decide +kernel
theorem dX11_net_29 : decode cX11_net 29 = .ok (.iload_n 1, 1) := by decide +kernel
theorem dX11_net_30 : decode cX11_net 30 = .ok (.iaload, 1) := by decide +kernel
theorem dX11_net_31 : decode cX11_net 31 = .ok (.iconst (-1), 1) := by decide +kernel
theorem dX11_net_32 : decode cX11_net 32 = .ok (.if_icmp .ne 16, 3) := by decide +kernel
theorem dX11_net_35 : decode cX11_net 35 = .ok (.iload_n 2, 1) := by decide +kernel
theorem dX11_net_36 : decode cX11_net 36 = .ok (.iconst 5, 1) := by decide +kernel
theorem dX11_net_37 : decode cX11_net 37 = .ok (.if_icmp .ne 8, 3) := by decide +kernel
theorem dX11_net_40 : decode cX11_net 40 = .ok (.ldc 145, 2) := by decide +kernel
theorem dX11_net_42 : decode cX11_net 42 = .ok (.goto 5, 3) := by decide +kernel
theorem dX11_net_45 : decode cX11_net 45 = .ok (.bipush (-2), 2) := by decide +kernel
theorem dX11_net_47 : decode cX11_net 47 = .ok (.ireturn, 1) := by decide +kernel
theorem dX11_net_48 : decode cX11_net 48 = .ok (.iload_n 2, 1) := by decide +kernel
theorem dX11_net_49 : decode cX11_net 49 = .ok (.tableswitch 93 0 4 #[35, 45, 55, 65, 75], 35) := by decide +kernel
theorem dX11_net_84 : decode cX11_net 84 = .ok (.aload_n 0, 1) := by decide +kernel
theorem dX11_net_85 : decode cX11_net 85 = .ok (.getfield 39, 3) := by decide +kernel
theorem dX11_net_88 : decode cX11_net 88 = .ok (.getfield 140, 3) := by decide +kernel
theorem dX11_net_91 : decode cX11_net 91 = .ok (.iload_n 1, 1) := by decide +kernel
theorem dX11_net_92 : decode cX11_net 92 = .ok (.iaload, 1) := by decide +kernel
theorem dX11_net_93 : decode cX11_net 93 = .ok (.ireturn, 1) := by decide +kernel
theorem dX11_net_94 : decode cX11_net 94 = .ok (.aload_n 0, 1) := by decide +kernel
theorem dX11_net_95 : decode cX11_net 95 = .ok (.getfield 39, 3) := by decide +kernel
theorem dX11_net_98 : decode cX11_net 98 = .ok (.getfield 146, 3) := by decide +kernel
theorem dX11_net_101 : decode cX11_net 101 = .ok (.iload_n 1, 1) := by decide +kernel
theorem dX11_net_102 : decode cX11_net 102 = .ok (.iaload, 1) := by decide +kernel
theorem dX11_net_103 : decode cX11_net 103 = .ok (.ireturn, 1) := by decide +kernel
theorem dX11_net_104 : decode cX11_net 104 = .ok (.aload_n 0, 1) := by decide +kernel
theorem dX11_net_105 : decode cX11_net 105 = .ok (.getfield 39, 3) := by decide +kernel
theorem dX11_net_108 : decode cX11_net 108 = .ok (.getfield 149, 3) := by decide +kernel
theorem dX11_net_111 : decode cX11_net 111 = .ok (.iload_n 1, 1) := by decide +kernel
theorem dX11_net_112 : decode cX11_net 112 = .ok (.iaload, 1) := by decide +kernel
theorem dX11_net_113 : decode cX11_net 113 = .ok (.ireturn, 1) := by decide +kernel
theorem dX11_net_114 : decode cX11_net 114 = .ok (.aload_n 0, 1) := by decide +kernel
theorem dX11_net_115 : decode cX11_net 115 = .ok (.getfield 39, 3) := by decide +kernel
theorem dX11_net_118 : decode cX11_net 118 = .ok (.getfield 152, 3) := by decide +kernel
theorem dX11_net_121 : decode cX11_net 121 = .ok (.iload_n 1, 1) := by decide +kernel
theorem dX11_net_122 : decode cX11_net 122 = .ok (.iaload, 1) := by decide +kernel
theorem dX11_net_123 : decode cX11_net 123 = .ok (.ireturn, 1) := by decide +kernel
theorem dX11_net_124 : decode cX11_net 124 = .ok (.aload_n 0, 1) := by decide +kernel
theorem dX11_net_125 : decode cX11_net 125 = .ok (.getfield 20, 3) := by decide +kernel
theorem dX11_net_128 : decode cX11_net 128 = .ok (.aload_n 0, 1) := by decide +kernel
theorem dX11_net_129 : decode cX11_net 129 = .ok (.getfield 39, 3) := by decide +kernel
theorem dX11_net_132 : decode cX11_net 132 = .ok (.getfield 140, 3) := by decide +kernel
theorem dX11_net_135 : decode cX11_net 135 = .ok (.iload_n 1, 1) := by decide +kernel
theorem dX11_net_136 : decode cX11_net 136 = .ok (.iaload, 1) := by decide +kernel
theorem dX11_net_137 : decode cX11_net 137 = .ok (.iload_n 1, 1) := by decide +kernel
theorem dX11_net_138 : decode cX11_net 138 = .ok (.invokevirtual 155, 3) := by decide +kernel
theorem dX11_net_141 : decode cX11_net 141 = .ok (.ireturn, 1) := by decide +kernel
theorem dX11_net_142 : decode cX11_net 142 = .ok (.aload_n 0, 1) := by decide +kernel
theorem dX11_net_143 : decode cX11_net 143 = .ok (.getfield 48, 3) := by decide +kernel
theorem dX11_net_146 : decode cX11_net 146 = .ok (.iload_n 1, 1) := by decide +kernel
theorem dX11_net_147 : decode cX11_net 147 = .ok (.invokevirtual 158, 3) := by decide +kernel
theorem dX11_net_150 : decode cX11_net 150 = .ok (.ireturn, 1) := by decide +kernel
theorem dX11_carries_0 : decode cX11_carries 0 = .ok (.aload_n 0, 1) := by decide +kernel
theorem dX11_carries_1 : decode cX11_carries 1 = .ok (.iload_n 1, 1) := by decide +kernel
theorem dX11_carries_2 : decode cX11_carries 2 = .ok (.invokevirtual 137, 3) := by decide +kernel
theorem dX11_carries_5 : decode cX11_carries 5 = .ok (.ifCond .eq 14, 3) := by decide +kernel
theorem dX11_carries_8 : decode cX11_carries 8 = .ok (.aload_n 0, 1) := by decide +kernel
theorem dX11_carries_9 : decode cX11_carries 9 = .ok (.getfield 48, 3) := by decide +kernel
theorem dX11_carries_12 : decode cX11_carries 12 = .ok (.iload_n 1, 1) := by decide +kernel
theorem dX11_carries_13 : decode cX11_carries 13 = .ok (.invokevirtual 162, 3) := by decide +kernel
theorem dX11_carries_16 : decode cX11_carries 16 = .ok (.goto 6, 3) := by decide +kernel
theorem dX11_carries_19 : decode cX11_carries 19 = .ok (.ldc2_w 166, 3) := by decide +kernel
theorem dX11_carries_22 : decode cX11_carries 22 = .ok (.lreturn, 1) := by decide +kernel
theorem dX11_cost_0 : decode cX11_cost 0 = .ok (.aload_n 0, 1) := by decide +kernel
theorem dX11_cost_1 : decode cX11_cost 1 = .ok (.iload_n 1, 1) := by decide +kernel
theorem dX11_cost_2 : decode cX11_cost 2 = .ok (.invokevirtual 137, 3) := by decide +kernel
theorem dX11_cost_5 : decode cX11_cost 5 = .ok (.ifCond .eq 12, 3) := by decide +kernel
theorem dX11_cost_8 : decode cX11_cost 8 = .ok (.iload_n 2, 1) := by decide +kernel
theorem dX11_cost_9 : decode cX11_cost 9 = .ok (.ifCond .lt 8, 3) := by decide +kernel
theorem dX11_cost_12 : decode cX11_cost 12 = .ok (.iload_n 2, 1) := by decide +kernel
theorem dX11_cost_13 : decode cX11_cost 13 = .ok (.iconst 1, 1) := by decide +kernel
theorem dX11_cost_14 : decode cX11_cost 14 = .ok (.if_icmp .le 7, 3) := by decide +kernel
theorem dX11_cost_17 : decode cX11_cost 17 = .ok (.ldc2_w 166, 3) := by decide +kernel
theorem dX11_cost_20 : decode cX11_cost 20 = .ok (.lreturn, 1) := by decide +kernel
theorem dX11_cost_21 : decode cX11_cost 21 = .ok (.iload_n 2, 1) := by decide +kernel
theorem dX11_cost_22 : decode cX11_cost 22 = .ok (.ifCond .ne 14, 3) := by decide +kernel
theorem dX11_cost_25 : decode cX11_cost 25 = .ok (.aload_n 0, 1) := by decide +kernel
theorem dX11_cost_26 : decode cX11_cost 26 = .ok (.getfield 48, 3) := by decide +kernel
theorem dX11_cost_29 : decode cX11_cost 29 = .ok (.iload_n 1, 1) := by decide +kernel
theorem dX11_cost_30 : decode cX11_cost 30 = .ok (.invokevirtual 168, 3) := by decide +kernel
theorem dX11_cost_33 : decode cX11_cost 33 = .ok (.goto 11, 3) := by decide +kernel
theorem dX11_cost_36 : decode cX11_cost 36 = .ok (.aload_n 0, 1) := by decide +kernel
theorem dX11_cost_37 : decode cX11_cost 37 = .ok (.getfield 48, 3) := by decide +kernel
theorem dX11_cost_40 : decode cX11_cost 40 = .ok (.iload_n 1, 1) := by decide +kernel
theorem dX11_cost_41 : decode cX11_cost 41 = .ok (.invokevirtual 171, 3) := by decide +kernel
theorem dX11_cost_44 : decode cX11_cost 44 = .ok (.lreturn, 1) := by decide +kernel
theorem dX11_all_0 : decode cX11_all 0 = .ok (.lconst 0, 1) := by decide +kernel
theorem dX11_all_1 : decode cX11_all 1 = .ok (.lstore_n 1, 1) := by decide +kernel
theorem dX11_all_2 : decode cX11_all 2 = .ok (.iconst 0, 1) := by decide +kernel
theorem dX11_all_3 : decode cX11_all 3 = .ok (.istore_n 3, 1) := by decide +kernel
theorem dX11_all_4 : decode cX11_all 4 = .ok (.iload_n 3, 1) := by decide +kernel
theorem dX11_all_5 : decode cX11_all 5 = .ok (.aload_n 0, 1) := by decide +kernel
theorem dX11_all_6 : decode cX11_all 6 = .ok (.getfield 20, 3) := by decide +kernel
theorem dX11_all_9 : decode cX11_all 9 = .ok (.getfield 174, 3) := by decide +kernel
theorem dX11_all_12 : decode cX11_all 12 = .ok (.if_icmp .ge 37, 3) := by decide +kernel
theorem dX11_all_15 : decode cX11_all 15 = .ok (.aload_n 0, 1) := by decide +kernel
theorem dX11_all_16 : decode cX11_all 16 = .ok (.iload_n 3, 1) := by decide +kernel
theorem dX11_all_17 : decode cX11_all 17 = .ok (.invokevirtual 137, 3) := by decide +kernel
theorem dX11_all_20 : decode cX11_all 20 = .ok (.ifCond .eq 23, 3) := by decide +kernel
theorem dX11_all_23 : decode cX11_all 23 = .ok (.lload_n 1, 1) := by decide +kernel
theorem dX11_all_24 : decode cX11_all 24 = .ok (.aload_n 0, 1) := by decide +kernel
theorem dX11_all_25 : decode cX11_all 25 = .ok (.getfield 48, 3) := by decide +kernel
theorem dX11_all_28 : decode cX11_all 28 = .ok (.iload_n 3, 1) := by decide +kernel
theorem dX11_all_29 : decode cX11_all 29 = .ok (.invokevirtual 168, 3) := by decide +kernel
theorem dX11_all_32 : decode cX11_all 32 = .ok (.aload_n 0, 1) := by decide +kernel
theorem dX11_all_33 : decode cX11_all 33 = .ok (.getfield 48, 3) := by decide +kernel
theorem dX11_all_36 : decode cX11_all 36 = .ok (.iload_n 3, 1) := by decide +kernel
theorem dX11_all_37 : decode cX11_all 37 = .ok (.invokevirtual 171, 3) := by decide +kernel
theorem dX11_all_40 : decode cX11_all 40 = .ok (.ladd, 1) := by decide +kernel
theorem dX11_all_41 : decode cX11_all 41 = .ok (.ladd, 1) := by decide +kernel
theorem dX11_all_42 : decode cX11_all 42 = .ok (.lstore_n 1, 1) := by decide +kernel
theorem dX11_all_43 : decode cX11_all 43 = .ok (.iinc 3 1, 3) := by decide +kernel
theorem dX11_all_46 : decode cX11_all 46 = .ok (.goto (-42), 3) := by decide +kernel
theorem dX11_all_49 : decode cX11_all 49 = .ok (.lload_n 1, 1) := by decide +kernel
theorem dX11_all_50 : decode cX11_all 50 = .ok (.lreturn, 1) := by decide +kernel
theorem dX11_broken_0 : decode cX11_broken 0 = .ok (.aload_n 0, 1) := by decide +kernel
theorem dX11_broken_1 : decode cX11_broken 1 = .ok (.getfield 20, 3) := by decide +kernel
theorem dX11_broken_4 : decode cX11_broken 4 = .ok (.iload_n 1, 1) := by decide +kernel
theorem dX11_broken_5 : decode cX11_broken 5 = .ok (.invokevirtual 93, 3) := by decide +kernel
theorem dX11_broken_8 : decode cX11_broken 8 = .ok (.ifCond .ne 5, 3) := by decide +kernel
theorem dX11_broken_11 : decode cX11_broken 11 = .ok (.iconst (-1), 1) := by decide +kernel
theorem dX11_broken_12 : decode cX11_broken 12 = .ok (.ireturn, 1) := by decide +kernel
theorem dX11_broken_13 : decode cX11_broken 13 = .ok (.aload_n 0, 1) := by decide +kernel
theorem dX11_broken_14 : decode cX11_broken 14 = .ok (.iload_n 1, 1) := by decide +kernel
theorem dX11_broken_15 : decode cX11_broken 15 = .ok (.invokevirtual 137, 3) := by decide +kernel
theorem dX11_broken_18 : decode cX11_broken 18 = .ok (.ifCond .eq 14, 3) := by decide +kernel
theorem dX11_broken_21 : decode cX11_broken 21 = .ok (.aload_n 0, 1) := by decide +kernel
theorem dX11_broken_22 : decode cX11_broken 22 = .ok (.getfield 48, 3) := by decide +kernel
theorem dX11_broken_25 : decode cX11_broken 25 = .ok (.iload_n 1, 1) := by decide +kernel
theorem dX11_broken_26 : decode cX11_broken 26 = .ok (.invokevirtual 177, 3) := by decide +kernel
theorem dX11_broken_29 : decode cX11_broken 29 = .ok (.goto 5, 3) := by decide +kernel
theorem dX11_broken_32 : decode cX11_broken 32 = .ok (.bipush (-2), 2) := by decide +kernel
theorem dX11_broken_34 : decode cX11_broken 34 = .ok (.ireturn, 1) := by decide +kernel
theorem dX11_judged_0 : decode cX11_judged 0 = .ok (.iload_n 1, 1) := by decide +kernel
theorem dX11_judged_1 : decode cX11_judged 1 = .ok (.ifCond .lt 8, 3) := by decide +kernel
theorem dX11_judged_4 : decode cX11_judged 4 = .ok (.iload_n 1, 1) := by decide +kernel
theorem dX11_judged_5 : decode cX11_judged 5 = .ok (.iconst 1, 1) := by decide +kernel
theorem dX11_judged_6 : decode cX11_judged 6 = .ok (.if_icmp .le 5, 3) := by decide +kernel
theorem dX11_judged_9 : decode cX11_judged 9 = .ok (.iconst (-1), 1) := by decide +kernel
theorem dX11_judged_10 : decode cX11_judged 10 = .ok (.ireturn, 1) := by decide +kernel
theorem dX11_judged_11 : decode cX11_judged 11 = .ok (.aload_n 0, 1) := by decide +kernel
theorem dX11_judged_12 : decode cX11_judged 12 = .ok (.getfield 48, 3) := by decide +kernel
theorem dX11_judged_15 : decode cX11_judged 15 = .ok (.invokevirtual 180, 3) := by decide +kernel
theorem dX11_judged_18 : decode cX11_judged 18 = .ok (.iload_n 1, 1) := by decide +kernel
theorem dX11_judged_19 : decode cX11_judged 19 = .ok (.ifCond .ne 13, 3) := by decide +kernel
theorem dX11_judged_22 : decode cX11_judged 22 = .ok (.aload_n 0, 1) := by decide +kernel
theorem dX11_judged_23 : decode cX11_judged 23 = .ok (.getfield 48, 3) := by decide +kernel
theorem dX11_judged_26 : decode cX11_judged 26 = .ok (.getfield 183, 3) := by decide +kernel
theorem dX11_judged_29 : decode cX11_judged 29 = .ok (.goto 10, 3) := by decide +kernel
theorem dX11_judged_32 : decode cX11_judged 32 = .ok (.aload_n 0, 1) := by decide +kernel
theorem dX11_judged_33 : decode cX11_judged 33 = .ok (.getfield 48, 3) := by decide +kernel
theorem dX11_judged_36 : decode cX11_judged 36 = .ok (.getfield 186, 3) := by decide +kernel
theorem dX11_judged_39 : decode cX11_judged 39 = .ok (.ireturn, 1) := by decide +kernel
theorem dX11_flow_0 : decode cX11_flow 0 = .ok (.aload_n 0, 1) := by decide +kernel
theorem dX11_flow_1 : decode cX11_flow 1 = .ok (.iload_n 1, 1) := by decide +kernel
theorem dX11_flow_2 : decode cX11_flow 2 = .ok (.invokevirtual 137, 3) := by decide +kernel
theorem dX11_flow_5 : decode cX11_flow 5 = .ok (.ifCond .eq 24, 3) := by decide +kernel
theorem dX11_flow_8 : decode cX11_flow 8 = .ok (.aload_n 0, 1) := by decide +kernel
theorem dX11_flow_9 : decode cX11_flow 9 = .ok (.getfield 20, 3) := by decide +kernel
theorem dX11_flow_12 : decode cX11_flow 12 = .ok (.iload_n 2, 1) := by decide +kernel
theorem dX11_flow_13 : decode cX11_flow 13 = .ok (.invokevirtual 189, 3) := by decide +kernel
theorem dX11_flow_16 : decode cX11_flow 16 = .ok (.ifCond .eq 13, 3) := by decide +kernel
theorem dX11_flow_19 : decode cX11_flow 19 = .ok (.iload_n 3, 1) := by decide +kernel
theorem dX11_flow_20 : decode cX11_flow 20 = .ok (.ifCond .lt 9, 3) := by decide +kernel
theorem dX11_flow_23 : decode cX11_flow 23 = .ok (.iload_n 3, 1) := by decide +kernel
theorem dX11_flow_24 : decode cX11_flow 24 = .ok (.bipush 30, 2) := by decide +kernel
theorem dX11_flow_26 : decode cX11_flow 26 = .ok (.if_icmp .lt 7, 3) := by decide +kernel
theorem dX11_flow_29 : decode cX11_flow 29 = .ok (.ldc2_w 166, 3) := by decide +kernel
theorem dX11_flow_32 : decode cX11_flow 32 = .ok (.lreturn, 1) := by decide +kernel
theorem dX11_flow_33 : decode cX11_flow 33 = .ok (.aload_n 0, 1) := by decide +kernel
theorem dX11_flow_34 : decode cX11_flow 34 = .ok (.getfield 48, 3) := by decide +kernel
theorem dX11_flow_37 : decode cX11_flow 37 = .ok (.invokevirtual 192, 3) := by decide +kernel
theorem dX11_flow_40 : decode cX11_flow 40 = .ok (.aload_n 0, 1) := by decide +kernel
theorem dX11_flow_41 : decode cX11_flow 41 = .ok (.getfield 48, 3) := by decide +kernel
theorem dX11_flow_44 : decode cX11_flow 44 = .ok (.getfield 195, 3) := by decide +kernel
theorem dX11_flow_47 : decode cX11_flow 47 = .ok (.getfield 199, 3) := by decide +kernel
theorem dX11_flow_50 : decode cX11_flow 50 = .ok (.iload_n 1, 1) := by decide +kernel
theorem dX11_flow_51 : decode cX11_flow 51 = .ok (.aaload, 1) := by decide +kernel
theorem dX11_flow_52 : decode cX11_flow 52 = .ok (.iload_n 2, 1) := by decide +kernel
theorem dX11_flow_53 : decode cX11_flow 53 = .ok (.bipush 30, 2) := by decide +kernel
theorem dX11_flow_55 : decode cX11_flow 55 = .ok (.imul, 1) := by decide +kernel
theorem dX11_flow_56 : decode cX11_flow 56 = .ok (.iload_n 3, 1) := by decide +kernel
theorem dX11_flow_57 : decode cX11_flow 57 = .ok (.iadd, 1) := by decide +kernel
theorem dX11_flow_58 : decode cX11_flow 58 = .ok (.laload, 1) := by decide +kernel
theorem dX11_flow_59 : decode cX11_flow 59 = .ok (.lreturn, 1) := by decide +kernel
theorem dX11_flooded_0 : decode cX11_flooded 0 = .ok (.aload_n 0, 1) := by decide +kernel
theorem dX11_flooded_1 : decode cX11_flooded 1 = .ok (.iload_n 1, 1) := by decide +kernel
theorem dX11_flooded_2 : decode cX11_flooded 2 = .ok (.invokevirtual 137, 3) := by decide +kernel
theorem dX11_flooded_5 : decode cX11_flooded 5 = .ok (.ifCond .eq 24, 3) := by decide +kernel
theorem dX11_flooded_8 : decode cX11_flooded 8 = .ok (.aload_n 0, 1) := by decide +kernel
theorem dX11_flooded_9 : decode cX11_flooded 9 = .ok (.getfield 20, 3) := by decide +kernel
theorem dX11_flooded_12 : decode cX11_flooded 12 = .ok (.iload_n 2, 1) := by decide +kernel
theorem dX11_flooded_13 : decode cX11_flooded 13 = .ok (.invokevirtual 189, 3) := by decide +kernel
theorem dX11_flooded_16 : decode cX11_flooded 16 = .ok (.ifCond .eq 13, 3) := by decide +kernel
theorem dX11_flooded_19 : decode cX11_flooded 19 = .ok (.iload_n 3, 1) := by decide +kernel
theorem dX11_flooded_20 : decode cX11_flooded 20 = .ok (.ifCond .lt 9, 3) := by decide +kernel
theorem dX11_flooded_23 : decode cX11_flooded 23 = .ok (.iload_n 3, 1) := by decide +kernel
theorem dX11_flooded_24 : decode cX11_flooded 24 = .ok (.bipush 30, 2) := by decide +kernel
theorem dX11_flooded_26 : decode cX11_flooded 26 = .ok (.if_icmp .lt 7, 3) := by decide +kernel
theorem dX11_flooded_29 : decode cX11_flooded 29 = .ok (.ldc2_w 166, 3) := by decide +kernel
theorem dX11_flooded_32 : decode cX11_flooded 32 = .ok (.lreturn, 1) := by decide +kernel
theorem dX11_flooded_33 : decode cX11_flooded 33 = .ok (.aload_n 0, 1) := by decide +kernel
theorem dX11_flooded_34 : decode cX11_flooded 34 = .ok (.getfield 48, 3) := by decide +kernel
theorem dX11_flooded_37 : decode cX11_flooded 37 = .ok (.invokevirtual 192, 3) := by decide +kernel
theorem dX11_flooded_40 : decode cX11_flooded 40 = .ok (.aload_n 0, 1) := by decide +kernel
theorem dX11_flooded_41 : decode cX11_flooded 41 = .ok (.getfield 48, 3) := by decide +kernel
theorem dX11_flooded_44 : decode cX11_flooded 44 = .ok (.getfield 205, 3) := by decide +kernel
theorem dX11_flooded_47 : decode cX11_flooded 47 = .ok (.getfield 208, 3) := by decide +kernel
theorem dX11_flooded_50 : decode cX11_flooded 50 = .ok (.iload_n 1, 1) := by decide +kernel
theorem dX11_flooded_51 : decode cX11_flooded 51 = .ok (.aaload, 1) := by decide +kernel
theorem dX11_flooded_52 : decode cX11_flooded 52 = .ok (.iload_n 2, 1) := by decide +kernel
theorem dX11_flooded_53 : decode cX11_flooded 53 = .ok (.bipush 30, 2) := by decide +kernel
theorem dX11_flooded_55 : decode cX11_flooded 55 = .ok (.imul, 1) := by decide +kernel
theorem dX11_flooded_56 : decode cX11_flooded 56 = .ok (.iload_n 3, 1) := by decide +kernel
theorem dX11_flooded_57 : decode cX11_flooded 57 = .ok (.iadd, 1) := by decide +kernel
theorem dX11_flooded_58 : decode cX11_flooded 58 = .ok (.laload, 1) := by decide +kernel
theorem dX11_flooded_59 : decode cX11_flooded 59 = .ok (.lreturn, 1) := by decide +kernel
theorem dX11_floods_0 : decode cX11_floods 0 = .ok (.aload_n 0, 1) := by decide +kernel
theorem dX11_floods_1 : decode cX11_floods 1 = .ok (.getfield 20, 3) := by decide +kernel
theorem dX11_floods_4 : decode cX11_floods 4 = .ok (.iload_n 1, 1) := by decide +kernel
theorem dX11_floods_5 : decode cX11_floods 5 = .ok (.invokevirtual 189, 3) := by decide +kernel
theorem dX11_floods_8 : decode cX11_floods 8 = .ok (.ifCond .ne 7, 3) := by decide +kernel
theorem dX11_floods_11 : decode cX11_floods 11 = .ok (.ldc2_w 166, 3) := by decide +kernel
theorem dX11_floods_14 : decode cX11_floods 14 = .ok (.lreturn, 1) := by decide +kernel
theorem dX11_floods_15 : decode cX11_floods 15 = .ok (.aload_n 0, 1) := by decide +kernel
theorem dX11_floods_16 : decode cX11_floods 16 = .ok (.getfield 48, 3) := by decide +kernel
theorem dX11_floods_19 : decode cX11_floods 19 = .ok (.invokevirtual 192, 3) := by decide +kernel
theorem dX11_floods_22 : decode cX11_floods 22 = .ok (.lconst 0, 1) := by decide +kernel
theorem dX11_floods_23 : decode cX11_floods 23 = .ok (.lstore_n 2, 1) := by decide +kernel
theorem dX11_floods_24 : decode cX11_floods 24 = .ok (.iconst 0, 1) := by decide +kernel
theorem dX11_floods_25 : decode cX11_floods 25 = .ok (.istore 4, 2) := by decide +kernel
theorem dX11_floods_27 : decode cX11_floods 27 = .ok (.iload 4, 2) := by decide +kernel
theorem dX11_floods_29 : decode cX11_floods 29 = .ok (.aload_n 0, 1) := by decide +kernel
theorem dX11_floods_30 : decode cX11_floods 30 = .ok (.getfield 20, 3) := by decide +kernel
theorem dX11_floods_33 : decode cX11_floods 33 = .ok (.getfield 174, 3) := by decide +kernel
theorem dX11_floods_36 : decode cX11_floods 36 = .ok (.if_icmp .ge 58, 3) := by decide +kernel
theorem dX11_floods_39 : decode cX11_floods 39 = .ok (.iconst 0, 1) := by decide +kernel
theorem dX11_floods_40 : decode cX11_floods 40 = .ok (.istore 5, 2) := by decide +kernel
theorem dX11_floods_42 : decode cX11_floods 42 = .ok (.aload_n 0, 1) := by decide +kernel
theorem dX11_floods_43 : decode cX11_floods 43 = .ok (.iload 4, 2) := by decide +kernel
theorem dX11_floods_45 : decode cX11_floods 45 = .ok (.invokevirtual 137, 3) := by decide +kernel
theorem dX11_floods_48 : decode cX11_floods 48 = .ok (.ifCond .eq 40, 3) := by decide +kernel
theorem dX11_floods_51 : decode cX11_floods 51 = .ok (.iload 5, 2) := by decide +kernel
theorem dX11_floods_53 : decode cX11_floods 53 = .ok (.bipush 30, 2) := by decide +kernel
theorem dX11_floods_55 : decode cX11_floods 55 = .ok (.if_icmp .ge 33, 3) := by decide +kernel
theorem dX11_floods_58 : decode cX11_floods 58 = .ok (.lload_n 2, 1) := by decide +kernel
theorem dX11_floods_59 : decode cX11_floods 59 = .ok (.aload_n 0, 1) := by decide +kernel
theorem dX11_floods_60 : decode cX11_floods 60 = .ok (.getfield 48, 3) := by decide +kernel
theorem dX11_floods_63 : decode cX11_floods 63 = .ok (.getfield 205, 3) := by decide +kernel
theorem dX11_floods_66 : decode cX11_floods 66 = .ok (.getfield 208, 3) := by decide +kernel
theorem dX11_floods_69 : decode cX11_floods 69 = .ok (.iload 4, 2) := by decide +kernel
theorem dX11_floods_71 : decode cX11_floods 71 = .ok (.aaload, 1) := by decide +kernel
theorem dX11_floods_72 : decode cX11_floods 72 = .ok (.iload_n 1, 1) := by decide +kernel
theorem dX11_floods_73 : decode cX11_floods 73 = .ok (.bipush 30, 2) := by decide +kernel
theorem dX11_floods_75 : decode cX11_floods 75 = .ok (.imul, 1) := by decide +kernel
theorem dX11_floods_76 : decode cX11_floods 76 = .ok (.iload 5, 2) := by decide +kernel
theorem dX11_floods_78 : decode cX11_floods 78 = .ok (.iadd, 1) := by decide +kernel
theorem dX11_floods_79 : decode cX11_floods 79 = .ok (.laload, 1) := by decide +kernel
theorem dX11_floods_80 : decode cX11_floods 80 = .ok (.ladd, 1) := by decide +kernel
theorem dX11_floods_81 : decode cX11_floods 81 = .ok (.lstore_n 2, 1) := by decide +kernel
theorem dX11_floods_82 : decode cX11_floods 82 = .ok (.iinc 5 1, 3) := by decide +kernel
theorem dX11_floods_85 : decode cX11_floods 85 = .ok (.goto (-43), 3) := by decide +kernel
theorem dX11_floods_88 : decode cX11_floods 88 = .ok (.iinc 4 1, 3) := by decide +kernel
theorem dX11_floods_91 : decode cX11_floods 91 = .ok (.goto (-64), 3) := by decide +kernel
theorem dX11_floods_94 : decode cX11_floods 94 = .ok (.lload_n 2, 1) := by decide +kernel
theorem dX11_floods_95 : decode cX11_floods 95 = .ok (.lreturn, 1) := by decide +kernel
theorem dX11_worst_0 : decode cX11_worst 0 = .ok (.aload_n 0, 1) := by decide +kernel
theorem dX11_worst_1 : decode cX11_worst 1 = .ok (.iload_n 1, 1) := by decide +kernel
theorem dX11_worst_2 : decode cX11_worst 2 = .ok (.invokevirtual 137, 3) := by decide +kernel
theorem dX11_worst_5 : decode cX11_worst 5 = .ok (.ifCond .eq 22, 3) := by decide +kernel
theorem dX11_worst_8 : decode cX11_worst 8 = .ok (.aload_n 0, 1) := by decide +kernel
theorem dX11_worst_9 : decode cX11_worst 9 = .ok (.getfield 20, 3) := by decide +kernel
theorem dX11_worst_12 : decode cX11_worst 12 = .ok (.getfield 211, 3) := by decide +kernel
theorem dX11_worst_15 : decode cX11_worst 15 = .ok (.ifCond .eq 12, 3) := by decide +kernel
theorem dX11_worst_18 : decode cX11_worst 18 = .ok (.iload_n 2, 1) := by decide +kernel
theorem dX11_worst_19 : decode cX11_worst 19 = .ok (.ifCond .lt 8, 3) := by decide +kernel
theorem dX11_worst_22 : decode cX11_worst 22 = .ok (.iload_n 2, 1) := by decide +kernel
theorem dX11_worst_23 : decode cX11_worst 23 = .ok (.iconst 2, 1) := by decide +kernel
theorem dX11_worst_24 : decode cX11_worst 24 = .ok (.if_icmp .le 7, 3) := by decide +kernel
theorem dX11_worst_27 : decode cX11_worst 27 = .ok (.ldc2_w 166, 3) := by decide +kernel
theorem dX11_worst_30 : decode cX11_worst 30 = .ok (.lreturn, 1) := by decide +kernel
theorem dX11_worst_31 : decode cX11_worst 31 = .ok (.aload_n 0, 1) := by decide +kernel
theorem dX11_worst_32 : decode cX11_worst 32 = .ok (.getfield 48, 3) := by decide +kernel
theorem dX11_worst_35 : decode cX11_worst 35 = .ok (.invokevirtual 192, 3) := by decide +kernel
theorem dX11_worst_38 : decode cX11_worst 38 = .ok (.iload_n 2, 1) := by decide +kernel
theorem dX11_worst_39 : decode cX11_worst 39 = .ok (.ifCond .ne 15, 3) := by decide +kernel
theorem dX11_worst_42 : decode cX11_worst 42 = .ok (.aload_n 0, 1) := by decide +kernel
theorem dX11_worst_43 : decode cX11_worst 43 = .ok (.getfield 48, 3) := by decide +kernel
theorem dX11_worst_46 : decode cX11_worst 46 = .ok (.getfield 195, 3) := by decide +kernel
theorem dX11_worst_49 : decode cX11_worst 49 = .ok (.iload_n 1, 1) := by decide +kernel
theorem dX11_worst_50 : decode cX11_worst 50 = .ok (.invokevirtual 214, 3) := by decide +kernel
theorem dX11_worst_53 : decode cX11_worst 53 = .ok (.lreturn, 1) := by decide +kernel
theorem dX11_worst_54 : decode cX11_worst 54 = .ok (.aload_n 0, 1) := by decide +kernel
theorem dX11_worst_55 : decode cX11_worst 55 = .ok (.getfield 48, 3) := by decide +kernel
theorem dX11_worst_58 : decode cX11_worst 58 = .ok (.getfield 195, 3) := by decide +kernel
theorem dX11_worst_61 : decode cX11_worst 61 = .ok (.getfield 217, 3) := by decide +kernel
theorem dX11_worst_64 : decode cX11_worst 64 = .ok (.iload_n 1, 1) := by decide +kernel
theorem dX11_worst_65 : decode cX11_worst 65 = .ok (.iaload, 1) := by decide +kernel
theorem dX11_worst_66 : decode cX11_worst 66 = .ok (.istore_n 3, 1) := by decide +kernel
theorem dX11_worst_67 : decode cX11_worst 67 = .ok (.iload_n 2, 1) := by decide +kernel
theorem dX11_worst_68 : decode cX11_worst 68 = .ok (.iconst 1, 1) := by decide +kernel
theorem dX11_worst_69 : decode cX11_worst 69 = .ok (.if_icmp .ne 11, 3) := by decide +kernel
theorem dX11_worst_72 : decode cX11_worst 72 = .ok (.iload_n 3, 1) := by decide +kernel
theorem dX11_worst_73 : decode cX11_worst 73 = .ok (.bipush 30, 2) := by decide +kernel
theorem dX11_worst_75 : decode cX11_worst 75 = .ok (.idiv, 1) := by decide +kernel
theorem dX11_worst_76 : decode cX11_worst 76 = .ok (.i2l, 1) := by decide +kernel
theorem dX11_worst_77 : decode cX11_worst 77 = .ok (.goto 8, 3) := by decide +kernel
theorem dX11_worst_80 : decode cX11_worst 80 = .ok (.iload_n 3, 1) := by decide +kernel
theorem dX11_worst_81 : decode cX11_worst 81 = .ok (.bipush 30, 2) := by decide +kernel
theorem dX11_worst_83 : decode cX11_worst 83 = .ok (.irem, 1) := by decide +kernel
theorem dX11_worst_84 : decode cX11_worst 84 = .ok (.i2l, 1) := by decide +kernel
theorem dX11_worst_85 : decode cX11_worst 85 = .ok (.lreturn, 1) := by decide +kernel
theorem dX11_burst_0 : decode cX11_burst 0 = .ok (.aload_n 0, 1) := by decide +kernel
theorem dX11_burst_1 : decode cX11_burst 1 = .ok (.iload_n 1, 1) := by decide +kernel
theorem dX11_burst_2 : decode cX11_burst 2 = .ok (.invokevirtual 137, 3) := by decide +kernel
theorem dX11_burst_5 : decode cX11_burst 5 = .ok (.ifCond .eq 14, 3) := by decide +kernel
theorem dX11_burst_8 : decode cX11_burst 8 = .ok (.aload_n 0, 1) := by decide +kernel
theorem dX11_burst_9 : decode cX11_burst 9 = .ok (.getfield 48, 3) := by decide +kernel
theorem dX11_burst_12 : decode cX11_burst 12 = .ok (.iload_n 1, 1) := by decide +kernel
theorem dX11_burst_13 : decode cX11_burst 13 = .ok (.invokevirtual 220, 3) := by decide +kernel
theorem dX11_burst_16 : decode cX11_burst 16 = .ok (.goto 4, 3) := by decide +kernel
theorem dX11_burst_19 : decode cX11_burst 19 = .ok (.iconst (-1), 1) := by decide +kernel
theorem dX11_burst_20 : decode cX11_burst 20 = .ok (.ireturn, 1) := by decide +kernel
theorem dX11_bursts_0 : decode cX11_bursts 0 = .ok (.iconst (-1), 1) := by decide +kernel
theorem dX11_bursts_1 : decode cX11_bursts 1 = .ok (.istore_n 1, 1) := by decide +kernel
theorem dX11_bursts_2 : decode cX11_bursts 2 = .ok (.sipush 10000, 3) := by decide +kernel
theorem dX11_bursts_5 : decode cX11_bursts 5 = .ok (.istore_n 2, 1) := by decide +kernel
theorem dX11_bursts_6 : decode cX11_bursts 6 = .ok (.iconst 0, 1) := by decide +kernel
theorem dX11_bursts_7 : decode cX11_bursts 7 = .ok (.istore_n 3, 1) := by decide +kernel
theorem dX11_bursts_8 : decode cX11_bursts 8 = .ok (.iload_n 3, 1) := by decide +kernel
theorem dX11_bursts_9 : decode cX11_bursts 9 = .ok (.aload_n 0, 1) := by decide +kernel
theorem dX11_bursts_10 : decode cX11_bursts 10 = .ok (.getfield 20, 3) := by decide +kernel
theorem dX11_bursts_13 : decode cX11_bursts 13 = .ok (.getfield 174, 3) := by decide +kernel
theorem dX11_bursts_16 : decode cX11_bursts 16 = .ok (.if_icmp .ge 42, 3) := by decide +kernel
theorem dX11_bursts_19 : decode cX11_bursts 19 = .ok (.aload_n 0, 1) := by decide +kernel
theorem dX11_bursts_20 : decode cX11_bursts 20 = .ok (.iload_n 3, 1) := by decide +kernel
theorem dX11_bursts_21 : decode cX11_bursts 21 = .ok (.invokevirtual 137, 3) := by decide +kernel
theorem dX11_bursts_24 : decode cX11_bursts 24 = .ok (.ifCond .eq 14, 3) := by decide +kernel
theorem dX11_bursts_27 : decode cX11_bursts 27 = .ok (.aload_n 0, 1) := by decide +kernel
theorem dX11_bursts_28 : decode cX11_bursts 28 = .ok (.getfield 48, 3) := by decide +kernel
theorem dX11_bursts_31 : decode cX11_bursts 31 = .ok (.iload_n 3, 1) := by decide +kernel
theorem dX11_bursts_32 : decode cX11_bursts 32 = .ok (.invokevirtual 220, 3) := by decide +kernel
theorem dX11_bursts_35 : decode cX11_bursts 35 = .ok (.goto 4, 3) := by decide +kernel
theorem dX11_bursts_38 : decode cX11_bursts 38 = .ok (.iload_n 2, 1) := by decide +kernel
theorem dX11_bursts_39 : decode cX11_bursts 39 = .ok (.istore 4, 2) := by decide +kernel
theorem dX11_bursts_41 : decode cX11_bursts 41 = .ok (.iload 4, 2) := by decide +kernel
theorem dX11_bursts_43 : decode cX11_bursts 43 = .ok (.iload_n 2, 1) := by decide +kernel
theorem dX11_bursts_44 : decode cX11_bursts 44 = .ok (.if_icmp .ge 8, 3) := by decide +kernel
theorem dX11_bursts_47 : decode cX11_bursts 47 = .ok (.iload 4, 2) := by decide +kernel
theorem dX11_bursts_49 : decode cX11_bursts 49 = .ok (.istore_n 2, 1) := by decide +kernel
theorem dX11_bursts_50 : decode cX11_bursts 50 = .ok (.iload_n 3, 1) := by decide +kernel
theorem dX11_bursts_51 : decode cX11_bursts 51 = .ok (.istore_n 1, 1) := by decide +kernel
theorem dX11_bursts_52 : decode cX11_bursts 52 = .ok (.iinc 3 1, 3) := by decide +kernel
theorem dX11_bursts_55 : decode cX11_bursts 55 = .ok (.goto (-47), 3) := by decide +kernel
theorem dX11_bursts_58 : decode cX11_bursts 58 = .ok (.iload_n 1, 1) := by decide +kernel
theorem dX11_bursts_59 : decode cX11_bursts 59 = .ok (.ireturn, 1) := by decide +kernel
theorem dX11_cheapest_0 : decode cX11_cheapest 0 = .ok (.aload_n 0, 1) := by decide +kernel
theorem dX11_cheapest_1 : decode cX11_cheapest 1 = .ok (.getfield 57, 3) := by decide +kernel
theorem dX11_cheapest_4 : decode cX11_cheapest 4 = .ok (.iload_n 1, 1) := by decide +kernel
theorem dX11_cheapest_5 : decode cX11_cheapest 5 = .ok (.invokevirtual 223, 3) := by decide +kernel
theorem dX11_cheapest_8 : decode cX11_cheapest 8 = .ok (.lreturn, 1) := by decide +kernel
theorem dX11_laid_0 : decode cX11_laid 0 = .ok (.aload_n 0, 1) := by decide +kernel
theorem dX11_laid_1 : decode cX11_laid 1 = .ok (.getfield 57, 3) := by decide +kernel
theorem dX11_laid_4 : decode cX11_laid 4 = .ok (.iload_n 1, 1) := by decide +kernel
theorem dX11_laid_5 : decode cX11_laid 5 = .ok (.invokevirtual 223, 3) := by decide +kernel
theorem dX11_laid_8 : decode cX11_laid 8 = .ok (.lconst 0, 1) := by decide +kernel
theorem dX11_laid_9 : decode cX11_laid 9 = .ok (.lcmp, 1) := by decide +kernel
theorem dX11_laid_10 : decode cX11_laid 10 = .ok (.ifCond .ge 5, 3) := by decide +kernel
theorem dX11_laid_13 : decode cX11_laid 13 = .ok (.iconst 0, 1) := by decide +kernel
theorem dX11_laid_14 : decode cX11_laid 14 = .ok (.ireturn, 1) := by decide +kernel
theorem dX11_laid_15 : decode cX11_laid 15 = .ok (.aload_n 0, 1) := by decide +kernel
theorem dX11_laid_16 : decode cX11_laid 16 = .ok (.getfield 39, 3) := by decide +kernel
theorem dX11_laid_19 : decode cX11_laid 19 = .ok (.invokevirtual 126, 3) := by decide +kernel
theorem dX11_laid_22 : decode cX11_laid 22 = .ok (.aload_n 0, 1) := by decide +kernel
theorem dX11_laid_23 : decode cX11_laid 23 = .ok (.getfield 57, 3) := by decide +kernel
theorem dX11_laid_26 : decode cX11_laid 26 = .ok (.aload_n 0, 1) := by decide +kernel
theorem dX11_laid_27 : decode cX11_laid 27 = .ok (.getfield 39, 3) := by decide +kernel
theorem dX11_laid_30 : decode cX11_laid 30 = .ok (.iload_n 1, 1) := by decide +kernel
theorem dX11_laid_31 : decode cX11_laid 31 = .ok (.invokevirtual 226, 3) := by decide +kernel
theorem dX11_laid_34 : decode cX11_laid 34 = .ok (.aload_n 0, 1) := by decide +kernel
theorem dX11_laid_35 : decode cX11_laid 35 = .ok (.getfield 48, 3) := by decide +kernel
theorem dX11_laid_38 : decode cX11_laid 38 = .ok (.iconst 0, 1) := by decide +kernel
theorem dX11_laid_39 : decode cX11_laid 39 = .ok (.putfield 133, 3) := by decide +kernel
theorem dX11_laid_42 : decode cX11_laid 42 = .ok (.iconst 1, 1) := by decide +kernel
theorem dX11_laid_43 : decode cX11_laid 43 = .ok (.ireturn, 1) := by decide +kernel
theorem dX11_tree_0 : decode cX11_tree 0 = .ok (.iload_n 1, 1) := by decide +kernel
theorem dX11_tree_1 : decode cX11_tree 1 = .ok (.ifCond .lt 8, 3) := by decide +kernel
theorem dX11_tree_4 : decode cX11_tree 4 = .ok (.iload_n 1, 1) := by decide +kernel
theorem dX11_tree_5 : decode cX11_tree 5 = .ok (.iconst 2, 1) := by decide +kernel
theorem dX11_tree_6 : decode cX11_tree 6 = .ok (.if_icmp .le 7, 3) := by decide +kernel
theorem dX11_tree_9 : decode cX11_tree 9 = .ok (.ldc2_w 166, 3) := by decide +kernel
theorem dX11_tree_12 : decode cX11_tree 12 = .ok (.lreturn, 1) := by decide +kernel
theorem dX11_tree_13 : decode cX11_tree 13 = .ok (.aload_n 0, 1) := by decide +kernel
theorem dX11_tree_14 : decode cX11_tree 14 = .ok (.getfield 57, 3) := by decide +kernel
theorem dX11_tree_17 : decode cX11_tree 17 = .ok (.invokevirtual 230, 3) := by decide +kernel
theorem dX11_tree_20 : decode cX11_tree 20 = .ok (.iload_n 1, 1) := by decide +kernel
theorem dX11_tree_21 : decode cX11_tree 21 = .ok (.iconst 2, 1) := by decide +kernel
theorem dX11_tree_22 : decode cX11_tree 22 = .ok (.if_icmp .ne 12, 3) := by decide +kernel
theorem dX11_tree_25 : decode cX11_tree 25 = .ok (.aload_n 0, 1) := by decide +kernel
theorem dX11_tree_26 : decode cX11_tree 26 = .ok (.getfield 57, 3) := by decide +kernel
theorem dX11_tree_29 : decode cX11_tree 29 = .ok (.getfield 233, 3) := by decide +kernel
theorem dX11_tree_32 : decode cX11_tree 32 = .ok (.i2l, 1) := by decide +kernel
theorem dX11_tree_33 : decode cX11_tree 33 = .ok (.lreturn, 1) := by decide +kernel
theorem dX11_tree_34 : decode cX11_tree 34 = .ok (.iload_n 1, 1) := by decide +kernel
theorem dX11_tree_35 : decode cX11_tree 35 = .ok (.ifCond .eq 15, 3) := by decide +kernel
theorem dX11_tree_38 : decode cX11_tree 38 = .ok (.aload_n 0, 1) := by decide +kernel
theorem dX11_tree_39 : decode cX11_tree 39 = .ok (.getfield 57, 3) := by decide +kernel
theorem dX11_tree_42 : decode cX11_tree 42 = .ok (.getfield 236, 3) := by decide +kernel
theorem dX11_tree_45 : decode cX11_tree 45 = .ok (.lconst 0, 1) := by decide +kernel
theorem dX11_tree_46 : decode cX11_tree 46 = .ok (.lcmp, 1) := by decide +kernel
theorem dX11_tree_47 : decode cX11_tree 47 = .ok (.ifCond .ge 13, 3) := by decide +kernel
theorem dX11_tree_50 : decode cX11_tree 50 = .ok (.aload_n 0, 1) := by decide +kernel
theorem dX11_tree_51 : decode cX11_tree 51 = .ok (.getfield 57, 3) := by decide +kernel
theorem dX11_tree_54 : decode cX11_tree 54 = .ok (.getfield 236, 3) := by decide +kernel
theorem dX11_tree_57 : decode cX11_tree 57 = .ok (.goto 11, 3) := by decide +kernel
theorem dX11_tree_60 : decode cX11_tree 60 = .ok (.aload_n 0, 1) := by decide +kernel
theorem dX11_tree_61 : decode cX11_tree 61 = .ok (.getfield 57, 3) := by decide +kernel
theorem dX11_tree_64 : decode cX11_tree 64 = .ok (.getfield 240, 3) := by decide +kernel
theorem dX11_tree_67 : decode cX11_tree 67 = .ok (.i2l, 1) := by decide +kernel
theorem dX11_tree_68 : decode cX11_tree 68 = .ok (.lreturn, 1) := by decide +kernel
theorem dX11_without_0 : decode cX11_without 0 = .ok (.aload_n 0, 1) := by decide +kernel
theorem dX11_without_1 : decode cX11_without 1 = .ok (.getfield 20, 3) := by decide +kernel
theorem dX11_without_4 : decode cX11_without 4 = .ok (.iload_n 1, 1) := by decide +kernel
theorem dX11_without_5 : decode cX11_without 5 = .ok (.invokevirtual 107, 3) := by decide +kernel
theorem dX11_without_8 : decode cX11_without 8 = .ok (.ifCond .eq 14, 3) := by decide +kernel
theorem dX11_without_11 : decode cX11_without 11 = .ok (.aload_n 0, 1) := by decide +kernel
theorem dX11_without_12 : decode cX11_without 12 = .ok (.getfield 20, 3) := by decide +kernel
theorem dX11_without_15 : decode cX11_without 15 = .ok (.iload_n 2, 1) := by decide +kernel
theorem dX11_without_16 : decode cX11_without 16 = .ok (.invokevirtual 107, 3) := by decide +kernel
theorem dX11_without_19 : decode cX11_without 19 = .ok (.ifCond .ne 7, 3) := by decide +kernel
theorem dX11_without_22 : decode cX11_without 22 = .ok (.ldc2_w 166, 3) := by decide +kernel
theorem dX11_without_25 : decode cX11_without 25 = .ok (.lreturn, 1) := by decide +kernel
theorem dX11_without_26 : decode cX11_without 26 = .ok (.aload_n 0, 1) := by decide +kernel
theorem dX11_without_27 : decode cX11_without 27 = .ok (.getfield 57, 3) := by decide +kernel
theorem dX11_without_30 : decode cX11_without 30 = .ok (.invokevirtual 230, 3) := by decide +kernel
theorem dX11_without_33 : decode cX11_without 33 = .ok (.aload_n 0, 1) := by decide +kernel
theorem dX11_without_34 : decode cX11_without 34 = .ok (.getfield 57, 3) := by decide +kernel
theorem dX11_without_37 : decode cX11_without 37 = .ok (.getfield 236, 3) := by decide +kernel
theorem dX11_without_40 : decode cX11_without 40 = .ok (.lconst 0, 1) := by decide +kernel
theorem dX11_without_41 : decode cX11_without 41 = .ok (.lcmp, 1) := by decide +kernel
theorem dX11_without_42 : decode cX11_without 42 = .ok (.ifCond .ge 7, 3) := by decide +kernel
theorem dX11_without_45 : decode cX11_without 45 = .ok (.ldc2_w 166, 3) := by decide +kernel
theorem dX11_without_48 : decode cX11_without 48 = .ok (.lreturn, 1) := by decide +kernel
theorem dX11_without_49 : decode cX11_without 49 = .ok (.aload_n 0, 1) := by decide +kernel
theorem dX11_without_50 : decode cX11_without 50 = .ok (.getfield 57, 3) := by decide +kernel
theorem dX11_without_53 : decode cX11_without 53 = .ok (.iconst 1, 1) := by decide +kernel
theorem dX11_without_54 : decode cX11_without 54 = .ok (.iload_n 1, 1) := by decide +kernel
theorem dX11_without_55 : decode cX11_without 55 = .ok (.ishl, 1) := by decide +kernel
theorem dX11_without_56 : decode cX11_without 56 = .ok (.iconst 1, 1) := by decide +kernel
theorem dX11_without_57 : decode cX11_without 57 = .ok (.iload_n 2, 1) := by decide +kernel
theorem dX11_without_58 : decode cX11_without 58 = .ok (.ishl, 1) := by decide +kernel
theorem dX11_without_59 : decode cX11_without 59 = .ok (.ior, 1) := by decide +kernel
theorem dX11_without_60 : decode cX11_without 60 = .ok (.invokevirtual 243, 3) := by decide +kernel
theorem dX11_without_63 : decode cX11_without 63 = .ok (.lstore_n 3, 1) := by decide +kernel
theorem dX11_without_64 : decode cX11_without 64 = .ok (.lload_n 3, 1) := by decide +kernel
theorem dX11_without_65 : decode cX11_without 65 = .ok (.lconst 0, 1) := by decide +kernel
theorem dX11_without_66 : decode cX11_without 66 = .ok (.lcmp, 1) := by decide +kernel
theorem dX11_without_67 : decode cX11_without 67 = .ok (.ifCond .ge 9, 3) := by decide +kernel
theorem dX11_without_70 : decode cX11_without 70 = .ok (.ldc2_w 246, 3) := by decide +kernel
theorem dX11_without_73 : decode cX11_without 73 = .ok (.goto 12, 3) := by decide +kernel
theorem dX11_without_76 : decode cX11_without 76 = .ok (.lload_n 3, 1) := by decide +kernel
theorem dX11_without_77 : decode cX11_without 77 = .ok (.aload_n 0, 1) := by decide +kernel
theorem dX11_without_78 : decode cX11_without 78 = .ok (.getfield 57, 3) := by decide +kernel
theorem dX11_without_81 : decode cX11_without 81 = .ok (.getfield 236, 3) := by decide +kernel
theorem dX11_without_84 : decode cX11_without 84 = .ok (.lsub, 1) := by decide +kernel
theorem dX11_without_85 : decode cX11_without 85 = .ok (.lreturn, 1) := by decide +kernel
theorem dX11_stages_0 : decode cX11_stages 0 = .ok (.aload_n 0, 1) := by decide +kernel
theorem dX11_stages_1 : decode cX11_stages 1 = .ok (.getfield 48, 3) := by decide +kernel
theorem dX11_stages_4 : decode cX11_stages 4 = .ok (.invokevirtual 248, 3) := by decide +kernel
theorem dX11_stages_7 : decode cX11_stages 7 = .ok (.ifCond .eq 18, 3) := by decide +kernel
theorem dX11_stages_10 : decode cX11_stages 10 = .ok (.iload_n 1, 1) := by decide +kernel
theorem dX11_stages_11 : decode cX11_stages 11 = .ok (.ifCond .lt 14, 3) := by decide +kernel
theorem dX11_stages_14 : decode cX11_stages 14 = .ok (.iload_n 1, 1) := by decide +kernel
theorem dX11_stages_15 : decode cX11_stages 15 = .ok (.aload_n 0, 1) := by decide +kernel
theorem dX11_stages_16 : decode cX11_stages 16 = .ok (.getfield 20, 3) := by decide +kernel
theorem dX11_stages_19 : decode cX11_stages 19 = .ok (.getfield 174, 3) := by decide +kernel
theorem dX11_stages_22 : decode cX11_stages 22 = .ok (.if_icmp .lt 7, 3) := by decide +kernel
theorem dX11_stages_25 : decode cX11_stages 25 = .ok (.ldc2_w 166, 3) := by decide +kernel
theorem dX11_stages_28 : decode cX11_stages 28 = .ok (.lreturn, 1) := by decide +kernel
theorem dX11_stages_29 : decode cX11_stages 29 = .ok (.aload_n 0, 1) := by decide +kernel
theorem dX11_stages_30 : decode cX11_stages 30 = .ok (.getfield 64, 3) := by decide +kernel
theorem dX11_stages_33 : decode cX11_stages 33 = .ok (.aload_n 0, 1) := by decide +kernel
theorem dX11_stages_34 : decode cX11_stages 34 = .ok (.getfield 20, 3) := by decide +kernel
theorem dX11_stages_37 : decode cX11_stages 37 = .ok (.invokevirtual 252, 3) := by decide +kernel
theorem dX11_stages_40 : decode cX11_stages 40 = .ok (.iload_n 1, 1) := by decide +kernel
theorem dX11_stages_41 : decode cX11_stages 41 = .ok (.ifCond .ne 13, 3) := by decide +kernel
theorem dX11_stages_44 : decode cX11_stages 44 = .ok (.aload_n 0, 1) := by decide +kernel
theorem dX11_stages_45 : decode cX11_stages 45 = .ok (.getfield 64, 3) := by decide +kernel
theorem dX11_stages_48 : decode cX11_stages 48 = .ok (.getfield 254, 3) := by decide +kernel
theorem dX11_stages_51 : decode cX11_stages 51 = .ok (.goto 15, 3) := by decide +kernel
theorem dX11_stages_54 : decode cX11_stages 54 = .ok (.aload_n 0, 1) := by decide +kernel
theorem dX11_stages_55 : decode cX11_stages 55 = .ok (.getfield 64, 3) := by decide +kernel
theorem dX11_stages_58 : decode cX11_stages 58 = .ok (.getfield 257, 3) := by decide +kernel
theorem dX11_stages_61 : decode cX11_stages 61 = .ok (.iload_n 1, 1) := by decide +kernel
theorem dX11_stages_62 : decode cX11_stages 62 = .ok (.iconst 1, 1) := by decide +kernel
theorem dX11_stages_63 : decode cX11_stages 63 = .ok (.isub, 1) := by decide +kernel
theorem dX11_stages_64 : decode cX11_stages 64 = .ok (.iaload, 1) := by decide +kernel
theorem dX11_stages_65 : decode cX11_stages 65 = .ok (.i2l, 1) := by decide +kernel
theorem dX11_stages_66 : decode cX11_stages 66 = .ok (.lreturn, 1) := by decide +kernel
theorem dX11_stage_0 : decode cX11_stage 0 = .ok (.aload_n 0, 1) := by decide +kernel
theorem dX11_stage_1 : decode cX11_stage 1 = .ok (.getfield 48, 3) := by decide +kernel
theorem dX11_stage_4 : decode cX11_stage 4 = .ok (.invokevirtual 248, 3) := by decide +kernel
theorem dX11_stage_7 : decode cX11_stage 7 = .ok (.ifCond .eq 13, 3) := by decide +kernel
theorem dX11_stage_10 : decode cX11_stage 10 = .ok (.iload_n 1, 1) := by decide +kernel
theorem dX11_stage_11 : decode cX11_stage 11 = .ok (.ifCond .lt 9, 3) := by decide +kernel
theorem dX11_stage_14 : decode cX11_stage 14 = .ok (.iload_n 1, 1) := by decide +kernel
theorem dX11_stage_15 : decode cX11_stage 15 = .ok (.bipush 7, 2) := by decide +kernel
theorem dX11_stage_17 : decode cX11_stage 17 = .ok (.if_icmp .lt 7, 3) := by decide +kernel
theorem dX11_stage_20 : decode cX11_stage 20 = .ok (.ldc2_w 166, 3) := by decide +kernel
theorem dX11_stage_23 : decode cX11_stage 23 = .ok (.lreturn, 1) := by decide +kernel
theorem dX11_stage_24 : decode cX11_stage 24 = .ok (.aload_n 0, 1) := by decide +kernel
theorem dX11_stage_25 : decode cX11_stage 25 = .ok (.getfield 64, 3) := by decide +kernel
theorem dX11_stage_28 : decode cX11_stage 28 = .ok (.aload_n 0, 1) := by decide +kernel
theorem dX11_stage_29 : decode cX11_stage 29 = .ok (.getfield 20, 3) := by decide +kernel
theorem dX11_stage_32 : decode cX11_stage 32 = .ok (.iload_n 1, 1) := by decide +kernel
theorem dX11_stage_33 : decode cX11_stage 33 = .ok (.iload_n 2, 1) := by decide +kernel
theorem dX11_stage_34 : decode cX11_stage 34 = .ok (.invokevirtual 260, 3) := by decide +kernel
theorem dX11_stage_37 : decode cX11_stage 37 = .ok (.lreturn, 1) := by decide +kernel
theorem dX11_first_0 : decode cX11_first 0 = .ok (.iload_n 1, 1) := by decide +kernel
theorem dX11_first_1 : decode cX11_first 1 = .ok (.ifCond .lt 8, 3) := by decide +kernel
theorem dX11_first_4 : decode cX11_first 4 = .ok (.iload_n 1, 1) := by decide +kernel
theorem dX11_first_5 : decode cX11_first 5 = .ok (.iconst 1, 1) := by decide +kernel
theorem dX11_first_6 : decode cX11_first 6 = .ok (.if_icmp .le 5, 3) := by decide +kernel
theorem dX11_first_9 : decode cX11_first 9 = .ok (.iconst (-1), 1) := by decide +kernel
theorem dX11_first_10 : decode cX11_first 10 = .ok (.ireturn, 1) := by decide +kernel
theorem dX11_first_11 : decode cX11_first 11 = .ok (.iconst (-1), 1) := by decide +kernel
theorem dX11_first_12 : decode cX11_first 12 = .ok (.istore_n 2, 1) := by decide +kernel
theorem dX11_first_13 : decode cX11_first 13 = .ok (.iconst (-1), 1) := by decide +kernel
theorem dX11_first_14 : decode cX11_first 14 = .ok (.istore_n 3, 1) := by decide +kernel
theorem dX11_first_15 : decode cX11_first 15 = .ok (.iconst 0, 1) := by decide +kernel
theorem dX11_first_16 : decode cX11_first 16 = .ok (.istore 4, 2) := by decide +kernel
theorem dX11_first_18 : decode cX11_first 18 = .ok (.iload 4, 2) := by decide +kernel
theorem dX11_first_20 : decode cX11_first 20 = .ok (.aload_n 0, 1) := by decide +kernel
theorem dX11_first_21 : decode cX11_first 21 = .ok (.getfield 20, 3) := by decide +kernel
theorem dX11_first_24 : decode cX11_first 24 = .ok (.getfield 174, 3) := by decide +kernel
theorem dX11_first_27 : decode cX11_first 27 = .ok (.if_icmp .ge 45, 3) := by decide +kernel
theorem dX11_first_30 : decode cX11_first 30 = .ok (.aload_n 0, 1) := by decide +kernel
theorem dX11_first_31 : decode cX11_first 31 = .ok (.iload 4, 2) := by decide +kernel
theorem dX11_first_33 : decode cX11_first 33 = .ok (.invokevirtual 137, 3) := by decide +kernel
theorem dX11_first_36 : decode cX11_first 36 = .ok (.ifCond .eq 15, 3) := by decide +kernel
theorem dX11_first_39 : decode cX11_first 39 = .ok (.aload_n 0, 1) := by decide +kernel
theorem dX11_first_40 : decode cX11_first 40 = .ok (.getfield 48, 3) := by decide +kernel
theorem dX11_first_43 : decode cX11_first 43 = .ok (.iload 4, 2) := by decide +kernel
theorem dX11_first_45 : decode cX11_first 45 = .ok (.invokevirtual 264, 3) := by decide +kernel
theorem dX11_first_48 : decode cX11_first 48 = .ok (.goto 4, 3) := by decide +kernel
theorem dX11_first_51 : decode cX11_first 51 = .ok (.iconst (-1), 1) := by decide +kernel
theorem dX11_first_52 : decode cX11_first 52 = .ok (.istore 5, 2) := by decide +kernel
theorem dX11_first_54 : decode cX11_first 54 = .ok (.iload 5, 2) := by decide +kernel
theorem dX11_first_56 : decode cX11_first 56 = .ok (.iload_n 2, 1) := by decide +kernel
theorem dX11_first_57 : decode cX11_first 57 = .ok (.if_icmp .le 9, 3) := by decide +kernel
theorem dX11_first_60 : decode cX11_first 60 = .ok (.iload 5, 2) := by decide +kernel
theorem dX11_first_62 : decode cX11_first 62 = .ok (.istore_n 2, 1) := by decide +kernel
theorem dX11_first_63 : decode cX11_first 63 = .ok (.iload 4, 2) := by decide +kernel
theorem dX11_first_65 : decode cX11_first 65 = .ok (.istore_n 3, 1) := by decide +kernel
theorem dX11_first_66 : decode cX11_first 66 = .ok (.iinc 4 1, 3) := by decide +kernel
theorem dX11_first_69 : decode cX11_first 69 = .ok (.goto (-51), 3) := by decide +kernel
theorem dX11_first_72 : decode cX11_first 72 = .ok (.iload_n 1, 1) := by decide +kernel
theorem dX11_first_73 : decode cX11_first 73 = .ok (.ifCond .ne 7, 3) := by decide +kernel
theorem dX11_first_76 : decode cX11_first 76 = .ok (.iload_n 3, 1) := by decide +kernel
theorem dX11_first_77 : decode cX11_first 77 = .ok (.goto 4, 3) := by decide +kernel
theorem dX11_first_80 : decode cX11_first 80 = .ok (.iload_n 2, 1) := by decide +kernel
theorem dX11_first_81 : decode cX11_first 81 = .ok (.ireturn, 1) := by decide +kernel
theorem dX11_undo_0 : decode cX11_undo 0 = .ok (.aload_n 0, 1) := by decide +kernel
theorem dX11_undo_1 : decode cX11_undo 1 = .ok (.getfield 39, 3) := by decide +kernel
theorem dX11_undo_4 : decode cX11_undo 4 = .ok (.getfield 267, 3) := by decide +kernel
theorem dX11_undo_7 : decode cX11_undo 7 = .ok (.ifCond .ne 5, 3) := by decide +kernel
theorem dX11_undo_10 : decode cX11_undo 10 = .ok (.iconst (-1), 1) := by decide +kernel
theorem dX11_undo_11 : decode cX11_undo 11 = .ok (.ireturn, 1) := by decide +kernel
theorem dX11_undo_12 : decode cX11_undo 12 = .ok (.aload_n 0, 1) := by decide +kernel
theorem dX11_undo_13 : decode cX11_undo 13 = .ok (.getfield 39, 3) := by decide +kernel
theorem dX11_undo_16 : decode cX11_undo 16 = .ok (.invokevirtual 270, 3) := by decide +kernel
theorem dX11_undo_19 : decode cX11_undo 19 = .ok (.aload_n 0, 1) := by decide +kernel
theorem dX11_undo_20 : decode cX11_undo 20 = .ok (.getfield 48, 3) := by decide +kernel
theorem dX11_undo_23 : decode cX11_undo 23 = .ok (.iconst 0, 1) := by decide +kernel
theorem dX11_undo_24 : decode cX11_undo 24 = .ok (.putfield 133, 3) := by decide +kernel
theorem dX11_undo_27 : decode cX11_undo 27 = .ok (.aload_n 0, 1) := by decide +kernel
theorem dX11_undo_28 : decode cX11_undo 28 = .ok (.getfield 39, 3) := by decide +kernel
theorem dX11_undo_31 : decode cX11_undo 31 = .ok (.getfield 267, 3) := by decide +kernel
theorem dX11_undo_34 : decode cX11_undo 34 = .ok (.ireturn, 1) := by decide +kernel
theorem dX11_keep_0 : decode cX11_keep 0 = .ok (.aload_n 0, 1) := by decide +kernel
theorem dX11_keep_1 : decode cX11_keep 1 = .ok (.getfield 39, 3) := by decide +kernel
theorem dX11_keep_4 : decode cX11_keep 4 = .ok (.invokevirtual 273, 3) := by decide +kernel
theorem dX11_keep_7 : decode cX11_keep 7 = .ok (.aload_n 0, 1) := by decide +kernel
theorem dX11_keep_8 : decode cX11_keep 8 = .ok (.getfield 39, 3) := by decide +kernel
theorem dX11_keep_11 : decode cX11_keep 11 = .ok (.invokevirtual 276, 3) := by decide +kernel
theorem dX11_keep_14 : decode cX11_keep 14 = .ok (.ireturn, 1) := by decide +kernel
theorem dX11_back_0 : decode cX11_back 0 = .ok (.aload_n 0, 1) := by decide +kernel
theorem dX11_back_1 : decode cX11_back 1 = .ok (.getfield 39, 3) := by decide +kernel
theorem dX11_back_4 : decode cX11_back 4 = .ok (.getfield 280, 3) := by decide +kernel
theorem dX11_back_7 : decode cX11_back 7 = .ok (.ifCond .ne 5, 3) := by decide +kernel
theorem dX11_back_10 : decode cX11_back 10 = .ok (.iconst (-1), 1) := by decide +kernel
theorem dX11_back_11 : decode cX11_back 11 = .ok (.ireturn, 1) := by decide +kernel
theorem dX11_back_12 : decode cX11_back 12 = .ok (.aload_n 0, 1) := by decide +kernel
theorem dX11_back_13 : decode cX11_back 13 = .ok (.getfield 39, 3) := by decide +kernel
theorem dX11_back_16 : decode cX11_back 16 = .ok (.invokevirtual 283, 3) := by decide +kernel
theorem dX11_back_19 : decode cX11_back 19 = .ok (.aload_n 0, 1) := by decide +kernel
theorem dX11_back_20 : decode cX11_back 20 = .ok (.getfield 48, 3) := by decide +kernel
theorem dX11_back_23 : decode cX11_back 23 = .ok (.iconst 0, 1) := by decide +kernel
theorem dX11_back_24 : decode cX11_back 24 = .ok (.putfield 133, 3) := by decide +kernel
theorem dX11_back_27 : decode cX11_back 27 = .ok (.aload_n 0, 1) := by decide +kernel
theorem dX11_back_28 : decode cX11_back 28 = .ok (.getfield 39, 3) := by decide +kernel
theorem dX11_back_31 : decode cX11_back 31 = .ok (.invokevirtual 276, 3) := by decide +kernel
theorem dX11_back_34 : decode cX11_back 34 = .ok (.ireturn, 1) := by decide +kernel
theorem dX11_count_0 : decode cX11_count 0 = .ok (.iload_n 1, 1) := by decide +kernel
theorem dX11_count_1 : decode cX11_count 1 = .ok (.tableswitch 126 0 8 #[51, 59, 67, 75, 83, 94, 102, 110, 118], 51) := by decide +kernel
theorem dX11_count_52 : decode cX11_count 52 = .ok (.aload_n 0, 1) := by decide +kernel
theorem dX11_count_53 : decode cX11_count 53 = .ok (.getfield 20, 3) := by decide +kernel
theorem dX11_count_56 : decode cX11_count 56 = .ok (.getfield 174, 3) := by decide +kernel
theorem dX11_count_59 : decode cX11_count 59 = .ok (.ireturn, 1) := by decide +kernel
theorem dX11_count_60 : decode cX11_count 60 = .ok (.aload_n 0, 1) := by decide +kernel
theorem dX11_count_61 : decode cX11_count 61 = .ok (.getfield 20, 3) := by decide +kernel
theorem dX11_count_64 : decode cX11_count 64 = .ok (.getfield 286, 3) := by decide +kernel
theorem dX11_count_67 : decode cX11_count 67 = .ok (.ireturn, 1) := by decide +kernel
theorem dX11_count_68 : decode cX11_count 68 = .ok (.aload_n 0, 1) := by decide +kernel
theorem dX11_count_69 : decode cX11_count 69 = .ok (.getfield 20, 3) := by decide +kernel
theorem dX11_count_72 : decode cX11_count 72 = .ok (.getfield 289, 3) := by decide +kernel
theorem dX11_count_75 : decode cX11_count 75 = .ok (.ireturn, 1) := by decide +kernel
theorem dX11_count_76 : decode cX11_count 76 = .ok (.aload_n 0, 1) := by decide +kernel
theorem dX11_count_77 : decode cX11_count 77 = .ok (.getfield 20, 3) := by decide +kernel
theorem dX11_count_80 : decode cX11_count 80 = .ok (.getfield 211, 3) := by decide +kernel
theorem dX11_count_83 : decode cX11_count 83 = .ok (.ireturn, 1) := by decide +kernel
theorem dX11_count_84 : decode cX11_count 84 = .ok (.aload_n 0, 1) := by decide +kernel
theorem dX11_count_85 : decode cX11_count 85 = .ok (.getfield 20, 3) := by decide +kernel
theorem dX11_count_88 : decode cX11_count 88 = .ok (.getfield 292, 3) := by decide +kernel
theorem dX11_count_91 : decode cX11_count 91 = .ok (.getfield 296, 3) := by decide +kernel
theorem dX11_count_94 : decode cX11_count 94 = .ok (.ireturn, 1) := by decide +kernel
theorem dX11_count_95 : decode cX11_count 95 = .ok (.aload_n 0, 1) := by decide +kernel
theorem dX11_count_96 : decode cX11_count 96 = .ok (.getfield 39, 3) := by decide +kernel
theorem dX11_count_99 : decode cX11_count 99 = .ok (.invokevirtual 276, 3) := by decide +kernel
theorem dX11_count_102 : decode cX11_count 102 = .ok (.ireturn, 1) := by decide +kernel
theorem dX11_count_103 : decode cX11_count 103 = .ok (.aload_n 0, 1) := by decide +kernel
theorem dX11_count_104 : decode cX11_count 104 = .ok (.getfield 20, 3) := by decide +kernel
theorem dX11_count_107 : decode cX11_count 107 = .ok (.getfield 119, 3) := by decide +kernel
theorem dX11_count_110 : decode cX11_count 110 = .ok (.ireturn, 1) := by decide +kernel
theorem dX11_count_111 : decode cX11_count 111 = .ok (.aload_n 0, 1) := by decide +kernel
theorem dX11_count_112 : decode cX11_count 112 = .ok (.getfield 20, 3) := by decide +kernel
theorem dX11_count_115 : decode cX11_count 115 = .ok (.getfield 301, 3) := by decide +kernel
theorem dX11_count_118 : decode cX11_count 118 = .ok (.ireturn, 1) := by decide +kernel
theorem dX11_count_119 : decode cX11_count 119 = .ok (.aload_n 0, 1) := by decide +kernel
theorem dX11_count_120 : decode cX11_count 120 = .ok (.getfield 39, 3) := by decide +kernel
theorem dX11_count_123 : decode cX11_count 123 = .ok (.getfield 267, 3) := by decide +kernel
theorem dX11_count_126 : decode cX11_count 126 = .ok (.ireturn, 1) := by decide +kernel
theorem dX11_count_127 : decode cX11_count 127 = .ok (.iconst (-1), 1) := by decide +kernel
theorem dX11_count_128 : decode cX11_count 128 = .ok (.ireturn, 1) := by decide +kernel
theorem dX12_init_0 : decode cX12_init 0 = .ok (.aload_n 0, 1) := by decide +kernel
theorem dX12_init_1 : decode cX12_init 1 = .ok (.invokespecial 3, 3) := by decide +kernel
theorem dX12_init_4 : decode cX12_init 4 = .ok (.aload_n 0, 1) := by decide +kernel
theorem dX12_init_5 : decode cX12_init 5 = .ok (.sipush 700, 3) := by decide +kernel
theorem dX12_init_8 : decode cX12_init 8 = .ok (.newarray .int, 2) := by decide +kernel
theorem dX12_init_10 : decode cX12_init 10 = .ok (.putfield 9, 3) := by decide +kernel
theorem dX12_init_13 : decode cX12_init 13 = .ok (.aload_n 0, 1) := by decide +kernel
theorem dX12_init_14 : decode cX12_init 14 = .ok (.bipush 24, 2) := by decide +kernel
theorem dX12_init_16 : decode cX12_init 16 = .ok (.newarray .int, 2) := by decide +kernel
theorem dX12_init_18 : decode cX12_init 18 = .ok (.dup, 1) := by decide +kernel
theorem dX12_init_19 : decode cX12_init 19 = .ok (.iconst 0, 1) := by decide +kernel
theorem dX12_init_20 : decode cX12_init 20 = .ok (.iconst 0, 1) := by decide +kernel
theorem dX12_init_21 : decode cX12_init 21 = .ok (.iastore, 1) := by decide +kernel
theorem dX12_init_22 : decode cX12_init 22 = .ok (.dup, 1) := by decide +kernel
theorem dX12_init_23 : decode cX12_init 23 = .ok (.iconst 1, 1) := by decide +kernel
theorem dX12_init_24 : decode cX12_init 24 = .ok (.iconst 0, 1) := by decide +kernel
theorem dX12_init_25 : decode cX12_init 25 = .ok (.iastore, 1) := by decide +kernel
theorem dX12_init_26 : decode cX12_init 26 = .ok (.dup, 1) := by decide +kernel
theorem dX12_init_27 : decode cX12_init 27 = .ok (.iconst 2, 1) := by decide +kernel
theorem dX12_init_28 : decode cX12_init 28 = .ok (.iconst 0, 1) := by decide +kernel
theorem dX12_init_29 : decode cX12_init 29 = .ok (.iastore, 1) := by decide +kernel
theorem dX12_init_30 : decode cX12_init 30 = .ok (.dup, 1) := by decide +kernel
theorem dX12_init_31 : decode cX12_init 31 = .ok (.iconst 3, 1) := by decide +kernel
theorem dX12_init_32 : decode cX12_init 32 = .ok (.iconst 0, 1) := by decide +kernel
theorem dX12_init_33 : decode cX12_init 33 = .ok (.iastore, 1) := by decide +kernel
theorem dX12_init_34 : decode cX12_init 34 = .ok (.dup, 1) := by decide +kernel
theorem dX12_init_35 : decode cX12_init 35 = .ok (.iconst 4, 1) := by decide +kernel
theorem dX12_init_36 : decode cX12_init 36 = .ok (.iconst (-1), 1) := by decide +kernel
theorem dX12_init_37 : decode cX12_init 37 = .ok (.iastore, 1) := by decide +kernel
theorem dX12_init_38 : decode cX12_init 38 = .ok (.dup, 1) := by decide +kernel
theorem dX12_init_39 : decode cX12_init 39 = .ok (.iconst 5, 1) := by decide +kernel
theorem dX12_init_40 : decode cX12_init 40 = .ok (.iconst (-1), 1) := by decide +kernel
theorem dX12_init_41 : decode cX12_init 41 = .ok (.iastore, 1) := by decide +kernel
theorem dX12_init_42 : decode cX12_init 42 = .ok (.dup, 1) := by decide +kernel
theorem dX12_init_43 : decode cX12_init 43 = .ok (.bipush 6, 2) := by decide +kernel
theorem dX12_init_45 : decode cX12_init 45 = .ok (.iconst 1, 1) := by decide +kernel
theorem dX12_init_46 : decode cX12_init 46 = .ok (.iastore, 1) := by decide +kernel
theorem dX12_init_47 : decode cX12_init 47 = .ok (.dup, 1) := by decide +kernel
theorem dX12_init_48 : decode cX12_init 48 = .ok (.bipush 7, 2) := by decide +kernel
theorem dX12_init_50 : decode cX12_init 50 = .ok (.bipush 9, 2) := by decide +kernel
theorem dX12_init_52 : decode cX12_init 52 = .ok (.iastore, 1) := by decide +kernel
theorem dX12_init_53 : decode cX12_init 53 = .ok (.dup, 1) := by decide +kernel
theorem dX12_init_54 : decode cX12_init 54 = .ok (.bipush 8, 2) := by decide +kernel
theorem dX12_init_56 : decode cX12_init 56 = .ok (.iconst 2, 1) := by decide +kernel
theorem dX12_init_57 : decode cX12_init 57 = .ok (.iastore, 1) := by decide +kernel
theorem dX12_init_58 : decode cX12_init 58 = .ok (.dup, 1) := by decide +kernel
theorem dX12_init_59 : decode cX12_init 59 = .ok (.bipush 9, 2) := by decide +kernel
theorem dX12_init_61 : decode cX12_init 61 = .ok (.bipush 8, 2) := by decide +kernel
theorem dX12_init_63 : decode cX12_init 63 = .ok (.iastore, 1) := by decide +kernel
theorem dX12_init_64 : decode cX12_init 64 = .ok (.dup, 1) := by decide +kernel
theorem dX12_init_65 : decode cX12_init 65 = .ok (.bipush 10, 2) := by decide +kernel
theorem dX12_init_67 : decode cX12_init 67 = .ok (.iconst 1, 1) := by decide +kernel
theorem dX12_init_68 : decode cX12_init 68 = .ok (.iastore, 1) := by decide +kernel
theorem dX12_init_69 : decode cX12_init 69 = .ok (.dup, 1) := by decide +kernel
theorem dX12_init_70 : decode cX12_init 70 = .ok (.bipush 11, 2) := by decide +kernel
theorem dX12_init_72 : decode cX12_init 72 = .ok (.iconst 0, 1) := by decide +kernel
theorem dX12_init_73 : decode cX12_init 73 = .ok (.iastore, 1) := by decide +kernel
theorem dX12_init_74 : decode cX12_init 74 = .ok (.dup, 1) := by decide +kernel
theorem dX12_init_75 : decode cX12_init 75 = .ok (.bipush 12, 2) := by decide +kernel
theorem dX12_init_77 : decode cX12_init 77 = .ok (.iconst 0, 1) := by decide +kernel
theorem dX12_init_78 : decode cX12_init 78 = .ok (.iastore, 1) := by decide +kernel
theorem dX12_init_79 : decode cX12_init 79 = .ok (.dup, 1) := by decide +kernel
theorem dX12_init_80 : decode cX12_init 80 = .ok (.bipush 13, 2) := by decide +kernel
theorem dX12_init_82 : decode cX12_init 82 = .ok (.iconst 0, 1) := by decide +kernel
theorem dX12_init_83 : decode cX12_init 83 = .ok (.iastore, 1) := by decide +kernel
theorem dX12_init_84 : decode cX12_init 84 = .ok (.dup, 1) := by decide +kernel
theorem dX12_init_85 : decode cX12_init 85 = .ok (.bipush 14, 2) := by decide +kernel
theorem dX12_init_87 : decode cX12_init 87 = .ok (.iconst 0, 1) := by decide +kernel
theorem dX12_init_88 : decode cX12_init 88 = .ok (.iastore, 1) := by decide +kernel
theorem dX12_init_89 : decode cX12_init 89 = .ok (.dup, 1) := by decide +kernel
theorem dX12_init_90 : decode cX12_init 90 = .ok (.bipush 15, 2) := by decide +kernel
theorem dX12_init_92 : decode cX12_init 92 = .ok (.iconst 0, 1) := by decide +kernel
theorem dX12_init_93 : decode cX12_init 93 = .ok (.iastore, 1) := by decide +kernel
theorem dX12_init_94 : decode cX12_init 94 = .ok (.dup, 1) := by decide +kernel
theorem dX12_init_95 : decode cX12_init 95 = .ok (.bipush 16, 2) := by decide +kernel
theorem dX12_init_97 : decode cX12_init 97 = .ok (.iconst (-1), 1) := by decide +kernel
theorem dX12_init_98 : decode cX12_init 98 = .ok (.iastore, 1) := by decide +kernel
theorem dX12_init_99 : decode cX12_init 99 = .ok (.dup, 1) := by decide +kernel
theorem dX12_init_100 : decode cX12_init 100 = .ok (.bipush 17, 2) := by decide +kernel
theorem dX12_init_102 : decode cX12_init 102 = .ok (.iconst (-1), 1) := by decide +kernel
theorem dX12_init_103 : decode cX12_init 103 = .ok (.iastore, 1) := by decide +kernel
theorem dX12_init_104 : decode cX12_init 104 = .ok (.dup, 1) := by decide +kernel
theorem dX12_init_105 : decode cX12_init 105 = .ok (.bipush 18, 2) := by decide +kernel
theorem dX12_init_107 : decode cX12_init 107 = .ok (.iconst 1, 1) := by decide +kernel
theorem dX12_init_108 : decode cX12_init 108 = .ok (.iastore, 1) := by decide +kernel
theorem dX12_init_109 : decode cX12_init 109 = .ok (.dup, 1) := by decide +kernel
theorem dX12_init_110 : decode cX12_init 110 = .ok (.bipush 19, 2) := by decide +kernel
theorem dX12_init_112 : decode cX12_init 112 = .ok (.bipush 9, 2) := by decide +kernel
theorem dX12_init_114 : decode cX12_init 114 = .ok (.iastore, 1) := by decide +kernel
theorem dX12_init_115 : decode cX12_init 115 = .ok (.dup, 1) := by decide +kernel
theorem dX12_init_116 : decode cX12_init 116 = .ok (.bipush 20, 2) := by decide +kernel
theorem dX12_init_118 : decode cX12_init 118 = .ok (.iconst 2, 1) := by decide +kernel
theorem dX12_init_119 : decode cX12_init 119 = .ok (.iastore, 1) := by decide +kernel
theorem dX12_init_120 : decode cX12_init 120 = .ok (.dup, 1) := by decide +kernel
theorem dX12_init_121 : decode cX12_init 121 = .ok (.bipush 21, 2) := by decide +kernel
theorem dX12_init_123 : decode cX12_init 123 = .ok (.bipush 8, 2) := by decide +kernel
theorem dX12_init_125 : decode cX12_init 125 = .ok (.iastore, 1) := by decide +kernel
theorem dX12_init_126 : decode cX12_init 126 = .ok (.dup, 1) := by decide +kernel
theorem dX12_init_127 : decode cX12_init 127 = .ok (.bipush 22, 2) := by decide +kernel
theorem dX12_init_129 : decode cX12_init 129 = .ok (.iconst 1, 1) := by decide +kernel
theorem dX12_init_130 : decode cX12_init 130 = .ok (.iastore, 1) := by decide +kernel
theorem dX12_init_131 : decode cX12_init 131 = .ok (.dup, 1) := by decide +kernel
theorem dX12_init_132 : decode cX12_init 132 = .ok (.bipush 23, 2) := by decide +kernel
theorem dX12_init_134 : decode cX12_init 134 = .ok (.iconst 0, 1) := by decide +kernel
theorem dX12_init_135 : decode cX12_init 135 = .ok (.iastore, 1) := by decide +kernel
theorem dX12_init_136 : decode cX12_init 136 = .ok (.putfield 15, 3) := by decide +kernel
theorem dX12_init_139 : decode cX12_init 139 = .ok (.aload_n 0, 1) := by decide +kernel
theorem dX12_init_140 : decode cX12_init 140 = .ok (.bipush 14, 2) := by decide +kernel
theorem dX12_init_142 : decode cX12_init 142 = .ok (.newarray .int, 2) := by decide +kernel
theorem dX12_init_144 : decode cX12_init 144 = .ok (.putfield 18, 3) := by decide +kernel
theorem dX12_init_147 : decode cX12_init 147 = .ok (.aload_n 0, 1) := by decide +kernel
theorem dX12_init_148 : decode cX12_init 148 = .ok (.bipush 14, 2) := by decide +kernel
theorem dX12_init_150 : decode cX12_init 150 = .ok (.newarray .int, 2) := by decide +kernel
theorem dX12_init_152 : decode cX12_init 152 = .ok (.putfield 21, 3) := by decide +kernel
theorem dX12_init_155 : decode cX12_init 155 = .ok (.aload_n 0, 1) := by decide +kernel
theorem dX12_init_156 : decode cX12_init 156 = .ok (.bipush 14, 2) := by decide +kernel
theorem dX12_init_158 : decode cX12_init 158 = .ok (.newarray .int, 2) := by decide +kernel
theorem dX12_init_160 : decode cX12_init 160 = .ok (.putfield 24, 3) := by decide +kernel
theorem dX12_init_163 : decode cX12_init 163 = .ok (.aload_n 0, 1) := by decide +kernel
theorem dX12_init_164 : decode cX12_init 164 = .ok (.bipush 14, 2) := by decide +kernel
theorem dX12_init_166 : decode cX12_init 166 = .ok (.newarray .int, 2) := by decide +kernel
theorem dX12_init_168 : decode cX12_init 168 = .ok (.putfield 27, 3) := by decide +kernel
theorem dX12_init_171 : decode cX12_init 171 = .ok (.aload_n 0, 1) := by decide +kernel
theorem dX12_init_172 : decode cX12_init 172 = .ok (.bipush 20, 2) := by decide +kernel
theorem dX12_init_174 : decode cX12_init 174 = .ok (.newarray .int, 2) := by decide +kernel
theorem dX12_init_176 : decode cX12_init 176 = .ok (.putfield 30, 3) := by decide +kernel
theorem dX12_init_179 : decode cX12_init 179 = .ok (.aload_n 0, 1) := by decide +kernel
theorem dX12_init_180 : decode cX12_init 180 = .ok (.bipush 20, 2) := by decide +kernel
theorem dX12_init_182 : decode cX12_init 182 = .ok (.newarray .int, 2) := by decide +kernel
theorem dX12_init_184 : decode cX12_init 184 = .ok (.putfield 33, 3) := by decide +kernel
theorem dX12_init_187 : decode cX12_init 187 = .ok (.aload_n 0, 1) := by decide +kernel
theorem dX12_init_188 : decode cX12_init 188 = .ok (.bipush 20, 2) := by decide +kernel
theorem dX12_init_190 : decode cX12_init 190 = .ok (.newarray .int, 2) := by decide +kernel
theorem dX12_init_192 : decode cX12_init 192 = .ok (.putfield 36, 3) := by decide +kernel
theorem dX12_init_195 : decode cX12_init 195 = .ok (.aload_n 0, 1) := by decide +kernel
theorem dX12_init_196 : decode cX12_init 196 = .ok (.bipush 20, 2) := by decide +kernel
theorem dX12_init_198 : decode cX12_init 198 = .ok (.newarray .int, 2) := by decide +kernel
theorem dX12_init_200 : decode cX12_init 200 = .ok (.putfield 39, 3) := by decide +kernel
theorem dX12_init_203 : decode cX12_init 203 = .ok (.aload_n 0, 1) := by decide +kernel
theorem dX12_init_204 : decode cX12_init 204 = .ok (.bipush 20, 2) := by decide +kernel
theorem dX12_init_206 : decode cX12_init 206 = .ok (.newarray .int, 2) := by decide +kernel
theorem dX12_init_208 : decode cX12_init 208 = .ok (.putfield 42, 3) := by decide +kernel
theorem dX12_init_211 : decode cX12_init 211 = .ok (.aload_n 0, 1) := by decide +kernel
theorem dX12_init_212 : decode cX12_init 212 = .ok (.bipush 8, 2) := by decide +kernel
theorem dX12_init_214 : decode cX12_init 214 = .ok (.newarray .int, 2) := by decide +kernel
theorem dX12_init_216 : decode cX12_init 216 = .ok (.putfield 45, 3) := by decide +kernel
theorem dX12_init_219 : decode cX12_init 219 = .ok (.aload_n 0, 1) := by decide +kernel
theorem dX12_init_220 : decode cX12_init 220 = .ok (.bipush 8, 2) := by decide +kernel
theorem dX12_init_222 : decode cX12_init 222 = .ok (.newarray .int, 2) := by decide +kernel
theorem dX12_init_224 : decode cX12_init 224 = .ok (.putfield 48, 3) := by decide +kernel
theorem dX12_init_227 : decode cX12_init 227 = .ok (.aload_n 0, 1) := by decide +kernel
theorem dX12_init_228 : decode cX12_init 228 = .ok (.bipush 8, 2) := by decide +kernel
theorem dX12_init_230 : decode cX12_init 230 = .ok (.newarray .int, 2) := by decide +kernel
theorem dX12_init_232 : decode cX12_init 232 = .ok (.putfield 51, 3) := by decide +kernel
theorem dX12_init_235 : decode cX12_init 235 = .ok (.aload_n 0, 1) := by decide +kernel
theorem dX12_init_236 : decode cX12_init 236 = .ok (.bipush 8, 2) := by decide +kernel
theorem dX12_init_238 : decode cX12_init 238 = .ok (.newarray .int, 2) := by decide +kernel
theorem dX12_init_240 : decode cX12_init 240 = .ok (.putfield 54, 3) := by decide +kernel
theorem dX12_init_243 : decode cX12_init 243 = .ok (.aload_n 0, 1) := by decide +kernel
theorem dX12_init_244 : decode cX12_init 244 = .ok (.bipush 48, 2) := by decide +kernel
theorem dX12_init_246 : decode cX12_init 246 = .ok (.newarray .int, 2) := by decide +kernel
theorem dX12_init_248 : decode cX12_init 248 = .ok (.putfield 57, 3) := by decide +kernel
theorem dX12_init_251 : decode cX12_init 251 = .ok (.aload_n 0, 1) := by decide +kernel
theorem dX12_init_252 : decode cX12_init 252 = .ok (.bipush 6, 2) := by decide +kernel
theorem dX12_init_254 : decode cX12_init 254 = .ok (.newarray .int, 2) := by decide +kernel
theorem dX12_init_256 : decode cX12_init 256 = .ok (.putfield 60, 3) := by decide +kernel
theorem dX12_init_259 : decode cX12_init 259 = .ok (.aload_n 0, 1) := by decide +kernel
theorem dX12_init_260 : decode cX12_init 260 = .ok (.bipush 6, 2) := by decide +kernel
theorem dX12_init_262 : decode cX12_init 262 = .ok (.newarray .int, 2) := by decide +kernel
theorem dX12_init_264 : decode cX12_init 264 = .ok (.putfield 63, 3) := by decide +kernel
theorem dX12_init_267 : decode cX12_init 267 = .ok (.aload_n 0, 1) := by decide +kernel
theorem dX12_init_268 : decode cX12_init 268 = .ok (.sipush 128, 3) := by decide +kernel
theorem dX12_init_271 : decode cX12_init 271 = .ok (.newarray .int, 2) := by decide +kernel
theorem dX12_init_273 : decode cX12_init 273 = .ok (.putfield 66, 3) := by decide +kernel
theorem dX12_init_276 : decode cX12_init 276 = .ok (.aload_n 0, 1) := by decide +kernel
theorem dX12_init_277 : decode cX12_init 277 = .ok (.sipush 128, 3) := by decide +kernel
theorem dX12_init_280 : decode cX12_init 280 = .ok (.newarray .int, 2) := by decide +kernel
theorem dX12_init_282 : decode cX12_init 282 = .ok (.putfield 69, 3) := by decide +kernel
theorem dX12_init_285 : decode cX12_init 285 = .ok (.aload_n 0, 1) := by decide +kernel
theorem dX12_init_286 : decode cX12_init 286 = .ok (.iconst (-1), 1) := by decide +kernel
theorem dX12_init_287 : decode cX12_init 287 = .ok (.putfield 72, 3) := by decide +kernel
theorem dX12_init_290 : decode cX12_init 290 = .ok (.aload_n 0, 1) := by decide +kernel
theorem dX12_init_291 : decode cX12_init 291 = .ok (.bipush 6, 2) := by decide +kernel
theorem dX12_init_293 : decode cX12_init 293 = .ok (.newarray .long, 2) := by decide +kernel
theorem dX12_init_295 : decode cX12_init 295 = .ok (.putfield 76, 3) := by decide +kernel
theorem dX12_init_298 : decode cX12_init 298 = .ok (.aload_n 0, 1) := by decide +kernel
theorem dX12_init_299 : decode cX12_init 299 = .ok (.bipush 64, 2) := by decide +kernel
theorem dX12_init_301 : decode cX12_init 301 = .ok (.newarray .long, 2) := by decide +kernel
theorem dX12_init_303 : decode cX12_init 303 = .ok (.putfield 80, 3) := by decide +kernel
theorem dX12_init_306 : decode cX12_init 306 = .ok (.aload_n 0, 1) := by decide +kernel
theorem dX12_init_307 : decode cX12_init 307 = .ok (.bipush 14, 2) := by decide +kernel
theorem dX12_init_309 : decode cX12_init 309 = .ok (.newarray .int, 2) := by decide +kernel
theorem dX12_init_311 : decode cX12_init 311 = .ok (.dup, 1) := by decide +kernel
theorem dX12_init_312 : decode cX12_init 312 = .ok (.iconst 0, 1) := by decide +kernel
theorem dX12_init_313 : decode cX12_init 313 = .ok (.iconst (-1), 1) := by decide +kernel
theorem dX12_init_314 : decode cX12_init 314 = .ok (.iastore, 1) := by decide +kernel
theorem dX12_init_315 : decode cX12_init 315 = .ok (.dup, 1) := by decide +kernel
theorem dX12_init_316 : decode cX12_init 316 = .ok (.iconst 1, 1) := by decide +kernel
theorem dX12_init_317 : decode cX12_init 317 = .ok (.iconst (-1), 1) := by decide +kernel
theorem dX12_init_318 : decode cX12_init 318 = .ok (.iastore, 1) := by decide +kernel
theorem dX12_init_319 : decode cX12_init 319 = .ok (.dup, 1) := by decide +kernel
theorem dX12_init_320 : decode cX12_init 320 = .ok (.iconst 2, 1) := by decide +kernel
theorem dX12_init_321 : decode cX12_init 321 = .ok (.iconst (-1), 1) := by decide +kernel
theorem dX12_init_322 : decode cX12_init 322 = .ok (.iastore, 1) := by decide +kernel
theorem dX12_init_323 : decode cX12_init 323 = .ok (.dup, 1) := by decide +kernel
theorem dX12_init_324 : decode cX12_init 324 = .ok (.iconst 3, 1) := by decide +kernel
theorem dX12_init_325 : decode cX12_init 325 = .ok (.iconst (-1), 1) := by decide +kernel
theorem dX12_init_326 : decode cX12_init 326 = .ok (.iastore, 1) := by decide +kernel
theorem dX12_init_327 : decode cX12_init 327 = .ok (.dup, 1) := by decide +kernel
theorem dX12_init_328 : decode cX12_init 328 = .ok (.iconst 4, 1) := by decide +kernel
theorem dX12_init_329 : decode cX12_init 329 = .ok (.iconst (-1), 1) := by decide +kernel
theorem dX12_init_330 : decode cX12_init 330 = .ok (.iastore, 1) := by decide +kernel
theorem dX12_init_331 : decode cX12_init 331 = .ok (.dup, 1) := by decide +kernel
theorem dX12_init_332 : decode cX12_init 332 = .ok (.iconst 5, 1) := by decide +kernel
theorem dX12_init_333 : decode cX12_init 333 = .ok (.iconst (-1), 1) := by decide +kernel
theorem dX12_init_334 : decode cX12_init 334 = .ok (.iastore, 1) := by decide +kernel
theorem dX12_init_335 : decode cX12_init 335 = .ok (.dup, 1) := by decide +kernel
theorem dX12_init_336 : decode cX12_init 336 = .ok (.bipush 6, 2) := by decide +kernel
theorem dX12_init_338 : decode cX12_init 338 = .ok (.iconst (-1), 1) := by decide +kernel
theorem dX12_init_339 : decode cX12_init 339 = .ok (.iastore, 1) := by decide +kernel
theorem dX12_init_340 : decode cX12_init 340 = .ok (.dup, 1) := by decide +kernel
theorem dX12_init_341 : decode cX12_init 341 = .ok (.bipush 7, 2) := by decide +kernel
theorem dX12_init_343 : decode cX12_init 343 = .ok (.iconst (-1), 1) := by decide +kernel
theorem dX12_init_344 : decode cX12_init 344 = .ok (.iastore, 1) := by decide +kernel
theorem dX12_init_345 : decode cX12_init 345 = .ok (.dup, 1) := by decide +kernel
theorem dX12_init_346 : decode cX12_init 346 = .ok (.bipush 8, 2) := by decide +kernel
theorem dX12_init_348 : decode cX12_init 348 = .ok (.iconst (-1), 1) := by decide +kernel
theorem dX12_init_349 : decode cX12_init 349 = .ok (.iastore, 1) := by decide +kernel
theorem dX12_init_350 : decode cX12_init 350 = .ok (.dup, 1) := by decide +kernel
theorem dX12_init_351 : decode cX12_init 351 = .ok (.bipush 9, 2) := by decide +kernel
theorem dX12_init_353 : decode cX12_init 353 = .ok (.iconst (-1), 1) := by decide +kernel
theorem dX12_init_354 : decode cX12_init 354 = .ok (.iastore, 1) := by decide +kernel
theorem dX12_init_355 : decode cX12_init 355 = .ok (.dup, 1) := by decide +kernel
theorem dX12_init_356 : decode cX12_init 356 = .ok (.bipush 10, 2) := by decide +kernel
theorem dX12_init_358 : decode cX12_init 358 = .ok (.iconst (-1), 1) := by decide +kernel
theorem dX12_init_359 : decode cX12_init 359 = .ok (.iastore, 1) := by decide +kernel
theorem dX12_init_360 : decode cX12_init 360 = .ok (.dup, 1) := by decide +kernel
theorem dX12_init_361 : decode cX12_init 361 = .ok (.bipush 11, 2) := by decide +kernel
theorem dX12_init_363 : decode cX12_init 363 = .ok (.iconst (-1), 1) := by decide +kernel
theorem dX12_init_364 : decode cX12_init 364 = .ok (.iastore, 1) := by decide +kernel
theorem dX12_init_365 : decode cX12_init 365 = .ok (.dup, 1) := by decide +kernel
theorem dX12_init_366 : decode cX12_init 366 = .ok (.bipush 12, 2) := by decide +kernel
theorem dX12_init_368 : decode cX12_init 368 = .ok (.iconst (-1), 1) := by decide +kernel
theorem dX12_init_369 : decode cX12_init 369 = .ok (.iastore, 1) := by decide +kernel
theorem dX12_init_370 : decode cX12_init 370 = .ok (.dup, 1) := by decide +kernel
theorem dX12_init_371 : decode cX12_init 371 = .ok (.bipush 13, 2) := by decide +kernel
theorem dX12_init_373 : decode cX12_init 373 = .ok (.iconst (-1), 1) := by decide +kernel
theorem dX12_init_374 : decode cX12_init 374 = .ok (.iastore, 1) := by decide +kernel
theorem dX12_init_375 : decode cX12_init 375 = .ok (.putfield 83, 3) := by decide +kernel
theorem dX12_init_378 : decode cX12_init 378 = .ok (.aload_n 0, 1) := by decide +kernel
theorem dX12_init_379 : decode cX12_init 379 = .ok (.bipush 14, 2) := by decide +kernel
theorem dX12_init_381 : decode cX12_init 381 = .ok (.newarray .int, 2) := by decide +kernel
theorem dX12_init_383 : decode cX12_init 383 = .ok (.putfield 86, 3) := by decide +kernel
theorem dX12_init_386 : decode cX12_init 386 = .ok (.aload_n 0, 1) := by decide +kernel
theorem dX12_init_387 : decode cX12_init 387 = .ok (.bipush 14, 2) := by decide +kernel
theorem dX12_init_389 : decode cX12_init 389 = .ok (.newarray .int, 2) := by decide +kernel
theorem dX12_init_391 : decode cX12_init 391 = .ok (.putfield 89, 3) := by decide +kernel
theorem dX12_init_394 : decode cX12_init 394 = .ok (.aload_n 0, 1) := by decide +kernel
theorem dX12_init_395 : decode cX12_init 395 = .ok (.bipush 14, 2) := by decide +kernel
theorem dX12_init_397 : decode cX12_init 397 = .ok (.newarray .int, 2) := by decide +kernel
theorem dX12_init_399 : decode cX12_init 399 = .ok (.putfield 92, 3) := by decide +kernel
theorem dX12_init_402 : decode cX12_init 402 = .ok (.aload_n 0, 1) := by decide +kernel
theorem dX12_init_403 : decode cX12_init 403 = .ok (.sipush 840, 3) := by decide +kernel
theorem dX12_init_406 : decode cX12_init 406 = .ok (.newarray .long, 2) := by decide +kernel
theorem dX12_init_408 : decode cX12_init 408 = .ok (.putfield 95, 3) := by decide +kernel
theorem dX12_init_411 : decode cX12_init 411 = .ok (.aload_n 0, 1) := by decide +kernel
theorem dX12_init_412 : decode cX12_init 412 = .ok (.sipush 840, 3) := by decide +kernel
theorem dX12_init_415 : decode cX12_init 415 = .ok (.newarray .long, 2) := by decide +kernel
theorem dX12_init_417 : decode cX12_init 417 = .ok (.putfield 98, 3) := by decide +kernel
theorem dX12_init_420 : decode cX12_init 420 = .ok (.aload_n 0, 1) := by decide +kernel
theorem dX12_init_421 : decode cX12_init 421 = .ok (.bipush 7, 2) := by decide +kernel
theorem dX12_init_423 : decode cX12_init 423 = .ok (.newarray .boolean, 2) := by decide +kernel
theorem dX12_init_425 : decode cX12_init 425 = .ok (.putfield 101, 3) := by decide +kernel
theorem dX12_init_428 : decode cX12_init 428 = .ok (.aload_n 0, 1) := by decide +kernel
theorem dX12_init_429 : decode cX12_init 429 = .ok (.sipush 140, 3) := by decide +kernel
theorem dX12_init_432 : decode cX12_init 432 = .ok (.newarray .int, 2) := by decide +kernel
theorem dX12_init_434 : decode cX12_init 434 = .ok (.putfield 105, 3) := by decide +kernel
theorem dX12_init_437 : decode cX12_init 437 = .ok (.aload_n 0, 1) := by decide +kernel
theorem dX12_init_438 : decode cX12_init 438 = .ok (.sipush 140, 3) := by decide +kernel
theorem dX12_init_441 : decode cX12_init 441 = .ok (.newarray .int, 2) := by decide +kernel
theorem dX12_init_443 : decode cX12_init 443 = .ok (.putfield 108, 3) := by decide +kernel
theorem dX12_init_446 : decode cX12_init 446 = .ok (.aload_n 0, 1) := by decide +kernel
theorem dX12_init_447 : decode cX12_init 447 = .ok (.sipush 140, 3) := by decide +kernel
theorem dX12_init_450 : decode cX12_init 450 = .ok (.newarray .int, 2) := by decide +kernel
theorem dX12_init_452 : decode cX12_init 452 = .ok (.putfield 111, 3) := by decide +kernel
theorem dX12_init_455 : decode cX12_init 455 = .ok (.aload_n 0, 1) := by decide +kernel
theorem dX12_init_456 : decode cX12_init 456 = .ok (.sipush 140, 3) := by decide +kernel
theorem dX12_init_459 : decode cX12_init 459 = .ok (.newarray .int, 2) := by decide +kernel
theorem dX12_init_461 : decode cX12_init 461 = .ok (.putfield 114, 3) := by decide +kernel
theorem dX12_init_464 : decode cX12_init 464 = .ok (.aload_n 0, 1) := by decide +kernel
theorem dX12_init_465 : decode cX12_init 465 = .ok (.bipush 7, 2) := by decide +kernel
theorem dX12_init_467 : decode cX12_init 467 = .ok (.newarray .int, 2) := by decide +kernel
theorem dX12_init_469 : decode cX12_init 469 = .ok (.putfield 117, 3) := by decide +kernel
theorem dX12_init_472 : decode cX12_init 472 = .ok (.aload_n 0, 1) := by decide +kernel
theorem dX12_init_473 : decode cX12_init 473 = .ok (.bipush 7, 2) := by decide +kernel
theorem dX12_init_475 : decode cX12_init 475 = .ok (.newarray .int, 2) := by decide +kernel
theorem dX12_init_477 : decode cX12_init 477 = .ok (.putfield 120, 3) := by decide +kernel
theorem dX12_init_480 : decode cX12_init 480 = .ok (.aload_n 0, 1) := by decide +kernel
theorem dX12_init_481 : decode cX12_init 481 = .ok (.bipush 7, 2) := by decide +kernel
theorem dX12_init_483 : decode cX12_init 483 = .ok (.newarray .int, 2) := by decide +kernel
theorem dX12_init_485 : decode cX12_init 485 = .ok (.putfield 123, 3) := by decide +kernel
theorem dX12_init_488 : decode cX12_init 488 = .ok (.aload_n 0, 1) := by decide +kernel
theorem dX12_init_489 : decode cX12_init 489 = .ok (.bipush 7, 2) := by decide +kernel
theorem dX12_init_491 : decode cX12_init 491 = .ok (.newarray .int, 2) := by decide +kernel
theorem dX12_init_493 : decode cX12_init 493 = .ok (.putfield 126, 3) := by decide +kernel
theorem dX12_init_496 : decode cX12_init 496 = .ok (.aload_n 0, 1) := by decide +kernel
theorem dX12_init_497 : decode cX12_init 497 = .ok (.bipush 7, 2) := by decide +kernel
theorem dX12_init_499 : decode cX12_init 499 = .ok (.newarray .int, 2) := by decide +kernel
theorem dX12_init_501 : decode cX12_init 501 = .ok (.putfield 129, 3) := by decide +kernel
theorem dX12_init_504 : decode cX12_init 504 = .ok (.aload_n 0, 1) := by decide +kernel
theorem dX12_init_505 : decode cX12_init 505 = .ok (.sipush 364, 3) := by decide +kernel
theorem dX12_init_508 : decode cX12_init 508 = .ok (.newarray .long, 2) := by decide +kernel
theorem dX12_init_510 : decode cX12_init 510 = .ok (.putfield 132, 3) := by decide +kernel
theorem dX12_init_513 : decode cX12_init 513 = .ok (.aload_n 0, 1) := by decide +kernel
theorem dX12_init_514 : decode cX12_init 514 = .ok (.bipush 7, 2) := by decide +kernel
theorem dX12_init_516 : decode cX12_init 516 = .ok (.newarray .long, 2) := by decide +kernel
theorem dX12_init_518 : decode cX12_init 518 = .ok (.putfield 135, 3) := by decide +kernel
theorem dX12_init_521 : decode cX12_init 521 = .ok (.aload_n 0, 1) := by decide +kernel
theorem dX12_init_522 : decode cX12_init 522 = .ok (.bipush 7, 2) := by decide +kernel
theorem dX12_init_524 : decode cX12_init 524 = .ok (.newarray .int, 2) := by decide +kernel
theorem dX12_init_526 : decode cX12_init 526 = .ok (.putfield 138, 3) := by decide +kernel
theorem dX12_init_529 : decode cX12_init 529 = .ok (.aload_n 0, 1) := by decide +kernel
theorem dX12_init_530 : decode cX12_init 530 = .ok (.bipush 7, 2) := by decide +kernel
theorem dX12_init_532 : decode cX12_init 532 = .ok (.newarray .int, 2) := by decide +kernel
theorem dX12_init_534 : decode cX12_init 534 = .ok (.putfield 141, 3) := by decide +kernel
theorem dX12_init_537 : decode cX12_init 537 = .ok (.aload_n 0, 1) := by decide +kernel
theorem dX12_init_538 : decode cX12_init 538 = .ok (.bipush 7, 2) := by decide +kernel
theorem dX12_init_540 : decode cX12_init 540 = .ok (.newarray .int, 2) := by decide +kernel
theorem dX12_init_542 : decode cX12_init 542 = .ok (.putfield 144, 3) := by decide +kernel
theorem dX12_init_545 : decode cX12_init 545 = .ok (.aload_n 0, 1) := by decide +kernel
theorem dX12_init_546 : decode cX12_init 546 = .ok (.bipush 7, 2) := by decide +kernel
theorem dX12_init_548 : decode cX12_init 548 = .ok (.newarray .int, 2) := by decide +kernel
theorem dX12_init_550 : decode cX12_init 550 = .ok (.putfield 147, 3) := by decide +kernel
theorem dX12_init_553 : decode cX12_init 553 = .ok (.aload_n 0, 1) := by decide +kernel
theorem dX12_init_554 : decode cX12_init 554 = .ok (.bipush 7, 2) := by decide +kernel
theorem dX12_init_556 : decode cX12_init 556 = .ok (.newarray .int, 2) := by decide +kernel
theorem dX12_init_558 : decode cX12_init 558 = .ok (.putfield 150, 3) := by decide +kernel
theorem dX12_init_561 : decode cX12_init 561 = .ok (.return_, 1) := by decide +kernel
theorem dX12_thrown_0 : decode cX12_thrown 0 = .ok (.aload_n 0, 1) := by decide +kernel
theorem dX12_thrown_1 : decode cX12_thrown 1 = .ok (.getfield 153, 3) := by decide +kernel
theorem dX12_thrown_4 : decode cX12_thrown 4 = .ok (.ireturn, 1) := by decide +kernel
theorem dX12_feed_0 : decode cX12_feed 0 = .ok (.aload_n 0, 1) := by decide +kernel
theorem dX12_feed_1 : decode cX12_feed 1 = .ok (.iconst 0, 1) := by decide +kernel
theorem dX12_feed_2 : decode cX12_feed 2 = .ok (.putfield 153, 3) := by decide +kernel
theorem dX12_feed_5 : decode cX12_feed 5 = .ok (.aload_n 0, 1) := by decide +kernel
theorem dX12_feed_6 : decode cX12_feed 6 = .ok (.getfield 156, 3) := by decide +kernel
theorem dX12_feed_9 : decode cX12_feed 9 = .ok (.sipush 680, 3) := by decide +kernel
theorem dX12_feed_12 : decode cX12_feed 12 = .ok (.if_icmp .le 5, 3) := by decide +kernel
theorem dX12_feed_15 : decode cX12_feed 15 = .ok (.iconst (-1), 1) := by decide +kernel
theorem dX12_feed_16 : decode cX12_feed 16 = .ok (.ireturn, 1) := by decide +kernel
theorem dX12_feed_17 : decode cX12_feed 17 = .ok (.iconst 0, 1) := by decide +kernel
theorem dX12_feed_18 : decode cX12_feed 18 = .ok (.istore 6, 2) := by decide +kernel
theorem dX12_feed_20 : decode cX12_feed 20 = .ok (.iload 6, 2) := by decide +kernel
theorem dX12_feed_22 : decode cX12_feed 22 = .ok (.bipush 20, 2) := by decide +kernel
theorem dX12_feed_24 : decode cX12_feed 24 = .ok (.if_icmp .ge 86, 3) := by decide +kernel
theorem dX12_feed_27 : decode cX12_feed 27 = .ok (.iload 6, 2) := by decide +kernel
theorem dX12_feed_29 : decode cX12_feed 29 = .ok (.iconst 4, 1) := by decide +kernel
theorem dX12_feed_30 : decode cX12_feed 30 = .ok (.if_icmp .ge 7, 3) := by decide +kernel
theorem dX12_feed_33 : decode cX12_feed 33 = .ok (.iload_n 1, 1) := by decide +kernel
theorem dX12_feed_34 : decode cX12_feed 34 = .ok (.goto 39, 3) := by decide +kernel
theorem dX12_feed_37 : decode cX12_feed 37 = .ok (.iload 6, 2) := by decide +kernel
theorem dX12_feed_39 : decode cX12_feed 39 = .ok (.bipush 8, 2) := by decide +kernel
theorem dX12_feed_41 : decode cX12_feed 41 = .ok (.if_icmp .ge 7, 3) := by decide +kernel
theorem dX12_feed_44 : decode cX12_feed 44 = .ok (.iload_n 2, 1) := by decide +kernel
theorem dX12_feed_45 : decode cX12_feed 45 = .ok (.goto 28, 3) := by decide +kernel
theorem dX12_feed_48 : decode cX12_feed 48 = .ok (.iload 6, 2) := by decide +kernel
theorem dX12_feed_50 : decode cX12_feed 50 = .ok (.bipush 12, 2) := by decide +kernel
theorem dX12_feed_52 : decode cX12_feed 52 = .ok (.if_icmp .ge 7, 3) := by decide +kernel
theorem dX12_feed_55 : decode cX12_feed 55 = .ok (.iload_n 3, 1) := by decide +kernel
theorem dX12_feed_56 : decode cX12_feed 56 = .ok (.goto 17, 3) := by decide +kernel
theorem dX12_feed_59 : decode cX12_feed 59 = .ok (.iload 6, 2) := by decide +kernel
theorem dX12_feed_61 : decode cX12_feed 61 = .ok (.bipush 16, 2) := by decide +kernel
theorem dX12_feed_63 : decode cX12_feed 63 = .ok (.if_icmp .ge 8, 3) := by decide +kernel
theorem dX12_feed_66 : decode cX12_feed 66 = .ok (.iload 4, 2) := by decide +kernel
theorem dX12_feed_68 : decode cX12_feed 68 = .ok (.goto 5, 3) := by decide +kernel
theorem dX12_feed_71 : decode cX12_feed 71 = .ok (.iload 5, 2) := by decide +kernel
theorem dX12_feed_73 : decode cX12_feed 73 = .ok (.istore 7, 2) := by decide +kernel
theorem dX12_feed_75 : decode cX12_feed 75 = .ok (.aload_n 0, 1) := by decide +kernel
theorem dX12_feed_76 : decode cX12_feed 76 = .ok (.getfield 9, 3) := by decide +kernel
theorem dX12_feed_79 : decode cX12_feed 79 = .ok (.aload_n 0, 1) := by decide +kernel
theorem dX12_feed_80 : decode cX12_feed 80 = .ok (.getfield 156, 3) := by decide +kernel
theorem dX12_feed_83 : decode cX12_feed 83 = .ok (.iload 6, 2) := by decide +kernel
theorem dX12_feed_85 : decode cX12_feed 85 = .ok (.iadd, 1) := by decide +kernel
theorem dX12_feed_86 : decode cX12_feed 86 = .ok (.iload 7, 2) := by decide +kernel
theorem dX12_feed_88 : decode cX12_feed 88 = .ok (.bipush 24, 2) := by decide +kernel
theorem dX12_feed_90 : decode cX12_feed 90 = .ok (.bipush 8, 2) := by decide +kernel
theorem dX12_feed_92 : decode cX12_feed 92 = .ok (.iload 6, 2) := by decide +kernel
theorem dX12_feed_94 : decode cX12_feed 94 = .ok (.iconst 4, 1) := by decide +kernel
theorem dX12_feed_95 : decode cX12_feed 95 = .ok (.irem, 1) := by decide +kernel
theorem dX12_feed_96 : decode cX12_feed 96 = .ok (.imul, 1) := by decide +kernel
theorem dX12_feed_97 : decode cX12_feed 97 = .ok (.isub, 1) := by decide +kernel
theorem dX12_feed_98 : decode cX12_feed 98 = .ok (.ishr, 1) := by decide +kernel
theorem dX12_feed_99 : decode cX12_feed 99 = .ok (.sipush 255, 3) := by decide +kernel
theorem dX12_feed_102 : decode cX12_feed 102 = .ok (.iand, 1) := by decide +kernel
theorem dX12_feed_103 : decode cX12_feed 103 = .ok (.iastore, 1) := by decide +kernel
theorem dX12_feed_104 : decode cX12_feed 104 = .ok (.iinc 6 1, 3) := by decide +kernel
theorem dX12_feed_107 : decode cX12_feed 107 = .ok (.goto (-87), 3) := by decide +kernel
theorem dX12_feed_110 : decode cX12_feed 110 = .ok (.aload_n 0, 1) := by decide +kernel
theorem dX12_feed_111 : decode cX12_feed 111 = .ok (.dup, 1) := by decide +kernel
theorem dX12_feed_112 : decode cX12_feed 112 = .ok (.getfield 156, 3) := by decide +kernel
theorem dX12_feed_115 : decode cX12_feed 115 = .ok (.bipush 20, 2) := by decide +kernel
theorem dX12_feed_117 : decode cX12_feed 117 = .ok (.iadd, 1) := by decide +kernel
theorem dX12_feed_118 : decode cX12_feed 118 = .ok (.putfield 156, 3) := by decide +kernel
theorem dX12_feed_121 : decode cX12_feed 121 = .ok (.aload_n 0, 1) := by decide +kernel
theorem dX12_feed_122 : decode cX12_feed 122 = .ok (.getfield 156, 3) := by decide +kernel
theorem dX12_feed_125 : decode cX12_feed 125 = .ok (.ireturn, 1) := by decide +kernel
theorem dX12_here_0 : decode cX12_here 0 = .ok (.aload_n 0, 1) := by decide +kernel
theorem dX12_here_1 : decode cX12_here 1 = .ok (.getfield 159, 3) := by decide +kernel
theorem dX12_here_4 : decode cX12_here 4 = .ok (.aload_n 0, 1) := by decide +kernel
theorem dX12_here_5 : decode cX12_here 5 = .ok (.getfield 162, 3) := by decide +kernel
theorem dX12_here_8 : decode cX12_here 8 = .ok (.if_icmp .ge 15, 3) := by decide +kernel
theorem dX12_here_11 : decode cX12_here 11 = .ok (.aload_n 0, 1) := by decide +kernel
theorem dX12_here_12 : decode cX12_here 12 = .ok (.getfield 9, 3) := by decide +kernel
theorem dX12_here_15 : decode cX12_here 15 = .ok (.aload_n 0, 1) := by decide +kernel
theorem dX12_here_16 : decode cX12_here 16 = .ok (.getfield 159, 3) := by decide +kernel
theorem dX12_here_19 : decode cX12_here 19 = .ok (.iaload, 1) := by decide +kernel
theorem dX12_here_20 : decode cX12_here 20 = .ok (.goto 4, 3) := by decide +kernel
theorem dX12_here_23 : decode cX12_here 23 = .ok (.iconst (-1), 1) := by decide +kernel
theorem dX12_here_24 : decode cX12_here 24 = .ok (.ireturn, 1) := by decide +kernel
theorem dX12_isSmall_0 : decode cX12_isSmall 0 = .ok (.iload_n 0, 1) := by decide +kernel
theorem dX12_isSmall_1 : decode cX12_isSmall 1 = .ok (.bipush 97, 2) := by decide +kernel
theorem dX12_isSmall_3 : decode cX12_isSmall 3 = .ok (.if_icmp .lt 13, 3) := by decide +kernel
theorem dX12_isSmall_6 : decode cX12_isSmall 6 = .ok (.iload_n 0, 1) := by decide +kernel
theorem dX12_isSmall_7 : decode cX12_isSmall 7 = .ok (.bipush 122, 2) := by decide +kernel
theorem dX12_isSmall_9 : decode cX12_isSmall 9 = .ok (.if_icmp .gt 7, 3) := by decide +kernel
theorem dX12_isSmall_12 : decode cX12_isSmall 12 = .ok (.iconst 1, 1) := by decide +kernel
theorem dX12_isSmall_13 : decode cX12_isSmall 13 = .ok (.goto 4, 3) := by decide +kernel
theorem dX12_isSmall_16 : decode cX12_isSmall 16 = .ok (.iconst 0, 1) := by decide +kernel
theorem dX12_isSmall_17 : decode cX12_isSmall 17 = .ok (.ireturn, 1) := by decide +kernel
theorem dX12_isDigit_0 : decode cX12_isDigit 0 = .ok (.iload_n 0, 1) := by decide +kernel
theorem dX12_isDigit_1 : decode cX12_isDigit 1 = .ok (.bipush 48, 2) := by decide +kernel
theorem dX12_isDigit_3 : decode cX12_isDigit 3 = .ok (.if_icmp .lt 13, 3) := by decide +kernel
theorem dX12_isDigit_6 : decode cX12_isDigit 6 = .ok (.iload_n 0, 1) := by decide +kernel
theorem dX12_isDigit_7 : decode cX12_isDigit 7 = .ok (.bipush 57, 2) := by decide +kernel
theorem dX12_isDigit_9 : decode cX12_isDigit 9 = .ok (.if_icmp .gt 7, 3) := by decide +kernel
theorem dX12_isDigit_12 : decode cX12_isDigit 12 = .ok (.iconst 1, 1) := by decide +kernel
theorem dX12_isDigit_13 : decode cX12_isDigit 13 = .ok (.goto 4, 3) := by decide +kernel
theorem dX12_isDigit_16 : decode cX12_isDigit 16 = .ok (.iconst 0, 1) := by decide +kernel
theorem dX12_isDigit_17 : decode cX12_isDigit 17 = .ok (.ireturn, 1) := by decide +kernel
theorem dX12_token_0 : decode cX12_token 0 = .ok (.aload_n 0, 1) := by decide +kernel
theorem dX12_token_1 : decode cX12_token 1 = .ok (.invokevirtual 165, 3) := by decide +kernel
theorem dX12_token_4 : decode cX12_token 4 = .ok (.bipush 10, 2) := by decide +kernel
theorem dX12_token_6 : decode cX12_token 6 = .ok (.if_icmp .eq 12, 3) := by decide +kernel
theorem dX12_token_9 : decode cX12_token 9 = .ok (.aload_n 0, 1) := by decide +kernel
theorem dX12_token_10 : decode cX12_token 10 = .ok (.invokevirtual 165, 3) := by decide +kernel
theorem dX12_token_13 : decode cX12_token 13 = .ok (.bipush 32, 2) := by decide +kernel
theorem dX12_token_15 : decode cX12_token 15 = .ok (.if_icmp .ne 16, 3) := by decide +kernel
theorem dX12_token_18 : decode cX12_token 18 = .ok (.aload_n 0, 1) := by decide +kernel
theorem dX12_token_19 : decode cX12_token 19 = .ok (.dup, 1) := by decide +kernel
theorem dX12_token_20 : decode cX12_token 20 = .ok (.getfield 159, 3) := by decide +kernel
theorem dX12_token_23 : decode cX12_token 23 = .ok (.iconst 1, 1) := by decide +kernel
theorem dX12_token_24 : decode cX12_token 24 = .ok (.iadd, 1) := by decide +kernel
theorem dX12_token_25 : decode cX12_token 25 = .ok (.putfield 159, 3) := by decide +kernel
theorem dX12_token_28 : decode cX12_token 28 = .ok (.goto (-28), 3) := by decide +kernel
theorem dX12_token_31 : decode cX12_token 31 = .ok (.aload_n 0, 1) := by decide +kernel
theorem dX12_token_32 : decode cX12_token 32 = .ok (.aload_n 0, 1) := by decide +kernel
theorem dX12_token_33 : decode cX12_token 33 = .ok (.getfield 159, 3) := by decide +kernel
theorem dX12_token_36 : decode cX12_token 36 = .ok (.putfield 169, 3) := by decide +kernel
theorem dX12_token_39 : decode cX12_token 39 = .ok (.aload_n 0, 1) := by decide +kernel
theorem dX12_token_40 : decode cX12_token 40 = .ok (.invokevirtual 165, 3) := by decide +kernel
theorem dX12_token_43 : decode cX12_token 43 = .ok (.istore_n 1, 1) := by decide +kernel
theorem dX12_token_44 : decode cX12_token 44 = .ok (.iload_n 1, 1) := by decide +kernel
theorem dX12_token_45 : decode cX12_token 45 = .ok (.iconst (-1), 1) := by decide +kernel
theorem dX12_token_46 : decode cX12_token 46 = .ok (.if_icmp .ne 11, 3) := by decide +kernel
theorem dX12_token_49 : decode cX12_token 49 = .ok (.aload_n 0, 1) := by decide +kernel
