theorem dX0_init_0 : decode cX0_init 0 = .ok (.aload_n 0, 1) := by decide +kernel
theorem dX0_init_1 : decode cX0_init 1 = .ok (.invokespecial 5, 3) := by decide +kernel
theorem dX0_init_4 : decode cX0_init 4 = .ok (.aload_n 0, 1) := by decide +kernel
theorem dX0_init_5 : decode cX0_init 5 = .ok (.bipush 7, 2) := by decide +kernel
theorem dX0_init_7 : decode cX0_init 7 = .ok (.newarray .int, 2) := by decide +kernel
theorem dX0_init_9 : decode cX0_init 9 = .ok (.putfield 11, 3) := by decide +kernel
theorem dX0_init_12 : decode cX0_init 12 = .ok (.aload_n 0, 1) := by decide +kernel
theorem dX0_init_13 : decode cX0_init 13 = .ok (.bipush 7, 2) := by decide +kernel
theorem dX0_init_15 : decode cX0_init 15 = .ok (.newarray .int, 2) := by decide +kernel
theorem dX0_init_17 : decode cX0_init 17 = .ok (.putfield 15, 3) := by decide +kernel
theorem dX0_init_20 : decode cX0_init 20 = .ok (.aload_n 0, 1) := by decide +kernel
theorem dX0_init_21 : decode cX0_init 21 = .ok (.bipush 7, 2) := by decide +kernel
theorem dX0_init_23 : decode cX0_init 23 = .ok (.newarray .int, 2) := by decide +kernel
theorem dX0_init_25 : decode cX0_init 25 = .ok (.putfield 18, 3) := by decide +kernel
theorem dX0_init_28 : decode cX0_init 28 = .ok (.aload_n 0, 1) := by decide +kernel
theorem dX0_init_29 : decode cX0_init 29 = .ok (.bipush 7, 2) := by decide +kernel
theorem dX0_init_31 : decode cX0_init 31 = .ok (.newarray .int, 2) := by decide +kernel
theorem dX0_init_33 : decode cX0_init 33 = .ok (.putfield 21, 3) := by decide +kernel
theorem dX0_init_36 : decode cX0_init 36 = .ok (.aload_n 0, 1) := by decide +kernel
theorem dX0_init_37 : decode cX0_init 37 = .ok (.bipush 7, 2) := by decide +kernel
theorem dX0_init_39 : decode cX0_init 39 = .ok (.newarray .int, 2) := by decide +kernel
theorem dX0_init_41 : decode cX0_init 41 = .ok (.putfield 24, 3) := by decide +kernel
theorem dX0_init_44 : decode cX0_init 44 = .ok (.aload_n 0, 1) := by decide +kernel
theorem dX0_init_45 : decode cX0_init 45 = .ok (.bipush 7, 2) := by decide +kernel
theorem dX0_init_47 : decode cX0_init 47 = .ok (.bipush 104, 2) := by decide +kernel
theorem dX0_init_49 : decode cX0_init 49 = .ok (.multianewarray 27 2, 4) := by decide +kernel
theorem dX0_init_53 : decode cX0_init 53 = .ok (.putfield 29, 3) := by decide +kernel
theorem dX0_init_56 : decode cX0_init 56 = .ok (.aload_n 0, 1) := by decide +kernel
theorem dX0_init_57 : decode cX0_init 57 = .ok (.bipush 7, 2) := by decide +kernel
theorem dX0_init_59 : decode cX0_init 59 = .ok (.bipush 104, 2) := by decide +kernel
theorem dX0_init_61 : decode cX0_init 61 = .ok (.multianewarray 27 2, 4) := by decide +kernel
theorem dX0_init_65 : decode cX0_init 65 = .ok (.putfield 32, 3) := by decide +kernel
theorem dX0_init_68 : decode cX0_init 68 = .ok (.aload_n 0, 1) := by decide +kernel
theorem dX0_init_69 : decode cX0_init 69 = .ok (.bipush 104, 2) := by decide +kernel
theorem dX0_init_71 : decode cX0_init 71 = .ok (.newarray .long, 2) := by decide +kernel
theorem dX0_init_73 : decode cX0_init 73 = .ok (.putfield 35, 3) := by decide +kernel
theorem dX0_init_76 : decode cX0_init 76 = .ok (.aload_n 0, 1) := by decide +kernel
theorem dX0_init_77 : decode cX0_init 77 = .ok (.bipush 104, 2) := by decide +kernel
theorem dX0_init_79 : decode cX0_init 79 = .ok (.newarray .long, 2) := by decide +kernel
theorem dX0_init_81 : decode cX0_init 81 = .ok (.putfield 39, 3) := by decide +kernel
theorem dX0_init_84 : decode cX0_init 84 = .ok (.aload_n 0, 1) := by decide +kernel
theorem dX0_init_85 : decode cX0_init 85 = .ok (.bipush 13, 2) := by decide +kernel
theorem dX0_init_87 : decode cX0_init 87 = .ok (.newarray .long, 2) := by decide +kernel
theorem dX0_init_89 : decode cX0_init 89 = .ok (.putfield 42, 3) := by decide +kernel
theorem dX0_init_92 : decode cX0_init 92 = .ok (.aload_n 0, 1) := by decide +kernel
theorem dX0_init_93 : decode cX0_init 93 = .ok (.bipush 7, 2) := by decide +kernel
theorem dX0_init_95 : decode cX0_init 95 = .ok (.bipush 52, 2) := by decide +kernel
theorem dX0_init_97 : decode cX0_init 97 = .ok (.multianewarray 27 2, 4) := by decide +kernel
theorem dX0_init_101 : decode cX0_init 101 = .ok (.putfield 45, 3) := by decide +kernel
theorem dX0_init_104 : decode cX0_init 104 = .ok (.aload_n 0, 1) := by decide +kernel
theorem dX0_init_105 : decode cX0_init 105 = .ok (.iconst 4, 1) := by decide +kernel
theorem dX0_init_106 : decode cX0_init 106 = .ok (.bipush 100, 2) := by decide +kernel
theorem dX0_init_108 : decode cX0_init 108 = .ok (.multianewarray 27 2, 4) := by decide +kernel
theorem dX0_init_112 : decode cX0_init 112 = .ok (.putfield 48, 3) := by decide +kernel
theorem dX0_init_115 : decode cX0_init 115 = .ok (.aload_n 0, 1) := by decide +kernel
theorem dX0_init_116 : decode cX0_init 116 = .ok (.new 51, 3) := by decide +kernel
theorem dX0_init_119 : decode cX0_init 119 = .ok (.dup, 1) := by decide +kernel
theorem dX0_init_120 : decode cX0_init 120 = .ok (.aload_n 0, 1) := by decide +kernel
theorem dX0_init_121 : decode cX0_init 121 = .ok (.getfield 11, 3) := by decide +kernel
theorem dX0_init_124 : decode cX0_init 124 = .ok (.aload_n 1, 1) := by decide +kernel
theorem dX0_init_125 : decode cX0_init 125 = .ok (.invokespecial 53, 3) := by decide +kernel
theorem dX0_init_128 : decode cX0_init 128 = .ok (.putfield 56, 3) := by decide +kernel
theorem dX0_init_131 : decode cX0_init 131 = .ok (.aload_n 0, 1) := by decide +kernel
theorem dX0_init_132 : decode cX0_init 132 = .ok (.aload_n 1, 1) := by decide +kernel
theorem dX0_init_133 : decode cX0_init 133 = .ok (.invokevirtual 60, 3) := by decide +kernel
theorem dX0_init_136 : decode cX0_init 136 = .ok (.return_, 1) := by decide +kernel
theorem dX0_serve_0 : decode cX0_serve 0 = .ok (.aload_n 0, 1) := by decide +kernel
theorem dX0_serve_1 : decode cX0_serve 1 = .ok (.aload_n 1, 1) := by decide +kernel
theorem dX0_serve_2 : decode cX0_serve 2 = .ok (.putfield 64, 3) := by decide +kernel
theorem dX0_serve_5 : decode cX0_serve 5 = .ok (.aload_n 0, 1) := by decide +kernel
theorem dX0_serve_6 : decode cX0_serve 6 = .ok (.iconst 0, 1) := by decide +kernel
theorem dX0_serve_7 : decode cX0_serve 7 = .ok (.putfield 68, 3) := by decide +kernel
theorem dX0_serve_10 : decode cX0_serve 10 = .ok (.aload_n 0, 1) := by decide +kernel
theorem dX0_serve_11 : decode cX0_serve 11 = .ok (.getfield 21, 3) := by decide +kernel
theorem dX0_serve_14 : decode cX0_serve 14 = .ok (.iconst (-1), 1) := by decide +kernel
theorem dX0_serve_15 : decode cX0_serve 15 = .ok (.invokestatic 72, 3) := by decide +kernel
theorem dX0_serve_18 : decode cX0_serve 18 = .ok (.return_, 1) := by decide +kernel
theorem dX0_solve_0 : decode cX0_solve 0 = .ok (.aload_n 0, 1) := by decide +kernel
theorem dX0_solve_1 : decode cX0_solve 1 = .ok (.lconst 0, 1) := by decide +kernel
theorem dX0_solve_2 : decode cX0_solve 2 = .ok (.putfield 78, 3) := by decide +kernel
theorem dX0_solve_5 : decode cX0_solve 5 = .ok (.aload_n 0, 1) := by decide +kernel
theorem dX0_solve_6 : decode cX0_solve 6 = .ok (.getfield 64, 3) := by decide +kernel
theorem dX0_solve_9 : decode cX0_solve 9 = .ok (.getfield 82, 3) := by decide +kernel
theorem dX0_solve_12 : decode cX0_solve 12 = .ok (.iconst (-1), 1) := by decide +kernel
theorem dX0_solve_13 : decode cX0_solve 13 = .ok (.if_icmp .ne 7, 3) := by decide +kernel
theorem dX0_solve_16 : decode cX0_solve 16 = .ok (.ldc2_w 88, 3) := by decide +kernel
theorem dX0_solve_19 : decode cX0_solve 19 = .ok (.lreturn, 1) := by decide +kernel
theorem dX0_solve_20 : decode cX0_solve 20 = .ok (.aload_n 0, 1) := by decide +kernel
theorem dX0_solve_21 : decode cX0_solve 21 = .ok (.getfield 68, 3) := by decide +kernel
theorem dX0_solve_24 : decode cX0_solve 24 = .ok (.ifCond .ne 7, 3) := by decide +kernel
theorem dX0_solve_27 : decode cX0_solve 27 = .ok (.aload_n 0, 1) := by decide +kernel
theorem dX0_solve_28 : decode cX0_solve 28 = .ok (.invokevirtual 90, 3) := by decide +kernel
theorem dX0_solve_31 : decode cX0_solve 31 = .ok (.aload_n 0, 1) := by decide +kernel
theorem dX0_solve_32 : decode cX0_solve 32 = .ok (.iload_n 1, 1) := by decide +kernel
theorem dX0_solve_33 : decode cX0_solve 33 = .ok (.invokevirtual 93, 3) := by decide +kernel
theorem dX0_solve_36 : decode cX0_solve 36 = .ok (.aload_n 0, 1) := by decide +kernel
theorem dX0_solve_37 : decode cX0_solve 37 = .ok (.getfield 56, 3) := by decide +kernel
theorem dX0_solve_40 : decode cX0_solve 40 = .ok (.aload_n 0, 1) := by decide +kernel
theorem dX0_solve_41 : decode cX0_solve 41 = .ok (.getfield 64, 3) := by decide +kernel
theorem dX0_solve_44 : decode cX0_solve 44 = .ok (.invokevirtual 97, 3) := by decide +kernel
theorem dX0_solve_47 : decode cX0_solve 47 = .ok (.aload_n 0, 1) := by decide +kernel
theorem dX0_solve_48 : decode cX0_solve 48 = .ok (.getfield 100, 3) := by decide +kernel
theorem dX0_solve_51 : decode cX0_solve 51 = .ok (.iconst 1, 1) := by decide +kernel
theorem dX0_solve_52 : decode cX0_solve 52 = .ok (.isub, 1) := by decide +kernel
theorem dX0_solve_53 : decode cX0_solve 53 = .ok (.istore_n 2, 1) := by decide +kernel
theorem dX0_solve_54 : decode cX0_solve 54 = .ok (.iload_n 2, 1) := by decide +kernel
theorem dX0_solve_55 : decode cX0_solve 55 = .ok (.ifCond .le 52, 3) := by decide +kernel
theorem dX0_solve_58 : decode cX0_solve 58 = .ok (.aload_n 0, 1) := by decide +kernel
theorem dX0_solve_59 : decode cX0_solve 59 = .ok (.aload_n 0, 1) := by decide +kernel
theorem dX0_solve_60 : decode cX0_solve 60 = .ok (.getfield 15, 3) := by decide +kernel
theorem dX0_solve_63 : decode cX0_solve 63 = .ok (.iload_n 2, 1) := by decide +kernel
theorem dX0_solve_64 : decode cX0_solve 64 = .ok (.iaload, 1) := by decide +kernel
theorem dX0_solve_65 : decode cX0_solve 65 = .ok (.invokevirtual 103, 3) := by decide +kernel
theorem dX0_solve_68 : decode cX0_solve 68 = .ok (.aload_n 0, 1) := by decide +kernel
theorem dX0_solve_69 : decode cX0_solve 69 = .ok (.aload_n 0, 1) := by decide +kernel
theorem dX0_solve_70 : decode cX0_solve 70 = .ok (.getfield 15, 3) := by decide +kernel
theorem dX0_solve_73 : decode cX0_solve 73 = .ok (.iload_n 2, 1) := by decide +kernel
theorem dX0_solve_74 : decode cX0_solve 74 = .ok (.iaload, 1) := by decide +kernel
theorem dX0_solve_75 : decode cX0_solve 75 = .ok (.invokevirtual 106, 3) := by decide +kernel
theorem dX0_solve_78 : decode cX0_solve 78 = .ok (.ifCond .eq 23, 3) := by decide +kernel
theorem dX0_solve_81 : decode cX0_solve 81 = .ok (.aload_n 0, 1) := by decide +kernel
theorem dX0_solve_82 : decode cX0_solve 82 = .ok (.aload_n 0, 1) := by decide +kernel
theorem dX0_solve_83 : decode cX0_solve 83 = .ok (.getfield 15, 3) := by decide +kernel
theorem dX0_solve_86 : decode cX0_solve 86 = .ok (.iload_n 2, 1) := by decide +kernel
theorem dX0_solve_87 : decode cX0_solve 87 = .ok (.iaload, 1) := by decide +kernel
theorem dX0_solve_88 : decode cX0_solve 88 = .ok (.invokevirtual 110, 3) := by decide +kernel
theorem dX0_solve_91 : decode cX0_solve 91 = .ok (.aload_n 0, 1) := by decide +kernel
theorem dX0_solve_92 : decode cX0_solve 92 = .ok (.aload_n 0, 1) := by decide +kernel
theorem dX0_solve_93 : decode cX0_solve 93 = .ok (.getfield 15, 3) := by decide +kernel
theorem dX0_solve_96 : decode cX0_solve 96 = .ok (.iload_n 2, 1) := by decide +kernel
theorem dX0_solve_97 : decode cX0_solve 97 = .ok (.iaload, 1) := by decide +kernel
theorem dX0_solve_98 : decode cX0_solve 98 = .ok (.invokevirtual 113, 3) := by decide +kernel
theorem dX0_solve_101 : decode cX0_solve 101 = .ok (.iinc 2 (-1), 3) := by decide +kernel
theorem dX0_solve_104 : decode cX0_solve 104 = .ok (.goto (-50), 3) := by decide +kernel
theorem dX0_solve_107 : decode cX0_solve 107 = .ok (.aload_n 0, 1) := by decide +kernel
theorem dX0_solve_108 : decode cX0_solve 108 = .ok (.aload_n 0, 1) := by decide +kernel
theorem dX0_solve_109 : decode cX0_solve 109 = .ok (.getfield 64, 3) := by decide +kernel
theorem dX0_solve_112 : decode cX0_solve 112 = .ok (.getfield 82, 3) := by decide +kernel
theorem dX0_solve_115 : decode cX0_solve 115 = .ok (.invokevirtual 103, 3) := by decide +kernel
theorem dX0_solve_118 : decode cX0_solve 118 = .ok (.aload_n 0, 1) := by decide +kernel
theorem dX0_solve_119 : decode cX0_solve 119 = .ok (.invokevirtual 115, 3) := by decide +kernel
theorem dX0_solve_122 : decode cX0_solve 122 = .ok (.lreturn, 1) := by decide +kernel
theorem dX0_price_0 : decode cX0_price 0 = .ok (.aload_n 0, 1) := by decide +kernel
theorem dX0_price_1 : decode cX0_price 1 = .ok (.iconst 1, 1) := by decide +kernel
theorem dX0_price_2 : decode cX0_price 2 = .ok (.putfield 68, 3) := by decide +kernel
theorem dX0_price_5 : decode cX0_price 5 = .ok (.iconst 0, 1) := by decide +kernel
theorem dX0_price_6 : decode cX0_price 6 = .ok (.istore_n 1, 1) := by decide +kernel
theorem dX0_price_7 : decode cX0_price 7 = .ok (.iload_n 1, 1) := by decide +kernel
theorem dX0_price_8 : decode cX0_price 8 = .ok (.aload_n 0, 1) := by decide +kernel
theorem dX0_price_9 : decode cX0_price 9 = .ok (.getfield 64, 3) := by decide +kernel
theorem dX0_price_12 : decode cX0_price 12 = .ok (.getfield 119, 3) := by decide +kernel
theorem dX0_price_15 : decode cX0_price 15 = .ok (.if_icmp .ge 163, 3) := by decide +kernel
theorem dX0_price_18 : decode cX0_price 18 = .ok (.aload_n 0, 1) := by decide +kernel
theorem dX0_price_19 : decode cX0_price 19 = .ok (.getfield 64, 3) := by decide +kernel
theorem dX0_price_22 : decode cX0_price 22 = .ok (.getfield 122, 3) := by decide +kernel
theorem dX0_price_25 : decode cX0_price 25 = .ok (.iload_n 1, 1) := by decide +kernel
theorem dX0_price_26 : decode cX0_price 26 = .ok (.aaload, 1) := by decide +kernel
theorem dX0_price_27 : decode cX0_price 27 = .ok (.iconst 0, 1) := by decide +kernel
theorem dX0_price_28 : decode cX0_price 28 = .ok (.iaload, 1) := by decide +kernel
theorem dX0_price_29 : decode cX0_price 29 = .ok (.istore_n 2, 1) := by decide +kernel
theorem dX0_price_30 : decode cX0_price 30 = .ok (.aload_n 0, 1) := by decide +kernel
theorem dX0_price_31 : decode cX0_price 31 = .ok (.getfield 64, 3) := by decide +kernel
theorem dX0_price_34 : decode cX0_price 34 = .ok (.getfield 126, 3) := by decide +kernel
theorem dX0_price_37 : decode cX0_price 37 = .ok (.iconst 0, 1) := by decide +kernel
theorem dX0_price_38 : decode cX0_price 38 = .ok (.iaload, 1) := by decide +kernel
theorem dX0_price_39 : decode cX0_price 39 = .ok (.istore_n 3, 1) := by decide +kernel
theorem dX0_price_40 : decode cX0_price 40 = .ok (.iload_n 3, 1) := by decide +kernel
theorem dX0_price_41 : decode cX0_price 41 = .ok (.aload_n 0, 1) := by decide +kernel
theorem dX0_price_42 : decode cX0_price 42 = .ok (.getfield 64, 3) := by decide +kernel
theorem dX0_price_45 : decode cX0_price 45 = .ok (.getfield 126, 3) := by decide +kernel
theorem dX0_price_48 : decode cX0_price 48 = .ok (.iconst 1, 1) := by decide +kernel
theorem dX0_price_49 : decode cX0_price 49 = .ok (.iaload, 1) := by decide +kernel
theorem dX0_price_50 : decode cX0_price 50 = .ok (.if_icmp .gt 35, 3) := by decide +kernel
theorem dX0_price_53 : decode cX0_price 53 = .ok (.iload_n 3, 1) := by decide +kernel
theorem dX0_price_54 : decode cX0_price 54 = .ok (.bipush 100, 2) := by decide +kernel
theorem dX0_price_56 : decode cX0_price 56 = .ok (.if_icmp .ge 29, 3) := by decide +kernel
theorem dX0_price_59 : decode cX0_price 59 = .ok (.aload_n 0, 1) := by decide +kernel
theorem dX0_price_60 : decode cX0_price 60 = .ok (.getfield 48, 3) := by decide +kernel
theorem dX0_price_63 : decode cX0_price 63 = .ok (.iload_n 1, 1) := by decide +kernel
theorem dX0_price_64 : decode cX0_price 64 = .ok (.aaload, 1) := by decide +kernel
theorem dX0_price_65 : decode cX0_price 65 = .ok (.iload_n 3, 1) := by decide +kernel
theorem dX0_price_66 : decode cX0_price 66 = .ok (.aload_n 0, 1) := by decide +kernel
theorem dX0_price_67 : decode cX0_price 67 = .ok (.getfield 64, 3) := by decide +kernel
theorem dX0_price_70 : decode cX0_price 70 = .ok (.getfield 129, 3) := by decide +kernel
theorem dX0_price_73 : decode cX0_price 73 = .ok (.iload_n 2, 1) := by decide +kernel
theorem dX0_price_74 : decode cX0_price 74 = .ok (.iload_n 3, 1) := by decide +kernel
theorem dX0_price_75 : decode cX0_price 75 = .ok (.invokevirtual 133, 3) := by decide +kernel
theorem dX0_price_78 : decode cX0_price 78 = .ok (.lastore, 1) := by decide +kernel
theorem dX0_price_79 : decode cX0_price 79 = .ok (.iinc 3 1, 3) := by decide +kernel
theorem dX0_price_82 : decode cX0_price 82 = .ok (.goto (-42), 3) := by decide +kernel
theorem dX0_price_85 : decode cX0_price 85 = .ok (.iconst 0, 1) := by decide +kernel
theorem dX0_price_86 : decode cX0_price 86 = .ok (.istore_n 3, 1) := by decide +kernel
theorem dX0_price_87 : decode cX0_price 87 = .ok (.iload_n 3, 1) := by decide +kernel
theorem dX0_price_88 : decode cX0_price 88 = .ok (.aload_n 0, 1) := by decide +kernel
theorem dX0_price_89 : decode cX0_price 89 = .ok (.getfield 64, 3) := by decide +kernel
theorem dX0_price_92 : decode cX0_price 92 = .ok (.getfield 139, 3) := by decide +kernel
theorem dX0_price_95 : decode cX0_price 95 = .ok (.if_icmp .ge 77, 3) := by decide +kernel
theorem dX0_price_98 : decode cX0_price 98 = .ok (.aload_n 0, 1) := by decide +kernel
theorem dX0_price_99 : decode cX0_price 99 = .ok (.getfield 64, 3) := by decide +kernel
theorem dX0_price_102 : decode cX0_price 102 = .ok (.getfield 142, 3) := by decide +kernel
theorem dX0_price_105 : decode cX0_price 105 = .ok (.iconst 0, 1) := by decide +kernel
theorem dX0_price_106 : decode cX0_price 106 = .ok (.iaload, 1) := by decide +kernel
theorem dX0_price_107 : decode cX0_price 107 = .ok (.istore 4, 2) := by decide +kernel
theorem dX0_price_109 : decode cX0_price 109 = .ok (.iload 4, 2) := by decide +kernel
theorem dX0_price_111 : decode cX0_price 111 = .ok (.aload_n 0, 1) := by decide +kernel
theorem dX0_price_112 : decode cX0_price 112 = .ok (.getfield 64, 3) := by decide +kernel
theorem dX0_price_115 : decode cX0_price 115 = .ok (.getfield 142, 3) := by decide +kernel
theorem dX0_price_118 : decode cX0_price 118 = .ok (.iconst 1, 1) := by decide +kernel
theorem dX0_price_119 : decode cX0_price 119 = .ok (.iaload, 1) := by decide +kernel
theorem dX0_price_120 : decode cX0_price 120 = .ok (.if_icmp .gt 46, 3) := by decide +kernel
theorem dX0_price_123 : decode cX0_price 123 = .ok (.aload_n 0, 1) := by decide +kernel
theorem dX0_price_124 : decode cX0_price 124 = .ok (.getfield 45, 3) := by decide +kernel
theorem dX0_price_127 : decode cX0_price 127 = .ok (.iload_n 3, 1) := by decide +kernel
theorem dX0_price_128 : decode cX0_price 128 = .ok (.aaload, 1) := by decide +kernel
theorem dX0_price_129 : decode cX0_price 129 = .ok (.iload_n 1, 1) := by decide +kernel
theorem dX0_price_130 : decode cX0_price 130 = .ok (.bipush 13, 2) := by decide +kernel
theorem dX0_price_132 : decode cX0_price 132 = .ok (.imul, 1) := by decide +kernel
theorem dX0_price_133 : decode cX0_price 133 = .ok (.iload 4, 2) := by decide +kernel
theorem dX0_price_135 : decode cX0_price 135 = .ok (.iadd, 1) := by decide +kernel
theorem dX0_price_136 : decode cX0_price 136 = .ok (.aload_n 0, 1) := by decide +kernel
theorem dX0_price_137 : decode cX0_price 137 = .ok (.getfield 64, 3) := by decide +kernel
theorem dX0_price_140 : decode cX0_price 140 = .ok (.getfield 129, 3) := by decide +kernel
theorem dX0_price_143 : decode cX0_price 143 = .ok (.iload_n 2, 1) := by decide +kernel
theorem dX0_price_144 : decode cX0_price 144 = .ok (.iload 4, 2) := by decide +kernel
theorem dX0_price_146 : decode cX0_price 146 = .ok (.aload_n 0, 1) := by decide +kernel
theorem dX0_price_147 : decode cX0_price 147 = .ok (.getfield 64, 3) := by decide +kernel
theorem dX0_price_150 : decode cX0_price 150 = .ok (.iload_n 3, 1) := by decide +kernel
theorem dX0_price_151 : decode cX0_price 151 = .ok (.iload 4, 2) := by decide +kernel
theorem dX0_price_153 : decode cX0_price 153 = .ok (.invokevirtual 145, 3) := by decide +kernel
theorem dX0_price_156 : decode cX0_price 156 = .ok (.invokevirtual 149, 3) := by decide +kernel
theorem dX0_price_159 : decode cX0_price 159 = .ok (.lastore, 1) := by decide +kernel
theorem dX0_price_160 : decode cX0_price 160 = .ok (.iinc 4 1, 3) := by decide +kernel
theorem dX0_price_163 : decode cX0_price 163 = .ok (.goto (-54), 3) := by decide +kernel
theorem dX0_price_166 : decode cX0_price 166 = .ok (.iinc 3 1, 3) := by decide +kernel
theorem dX0_price_169 : decode cX0_price 169 = .ok (.goto (-82), 3) := by decide +kernel
theorem dX0_price_172 : decode cX0_price 172 = .ok (.iinc 1 1, 3) := by decide +kernel
theorem dX0_price_175 : decode cX0_price 175 = .ok (.goto (-168), 3) := by decide +kernel
theorem dX0_price_178 : decode cX0_price 178 = .ok (.return_, 1) := by decide +kernel
theorem dX0_orient_0 : decode cX0_orient 0 = .ok (.aload_n 0, 1) := by decide +kernel
theorem dX0_orient_1 : decode cX0_orient 1 = .ok (.getfield 11, 3) := by decide +kernel
theorem dX0_orient_4 : decode cX0_orient 4 = .ok (.iconst (-1), 1) := by decide +kernel
theorem dX0_orient_5 : decode cX0_orient 5 = .ok (.invokestatic 72, 3) := by decide +kernel
theorem dX0_orient_8 : decode cX0_orient 8 = .ok (.aload_n 0, 1) := by decide +kernel
theorem dX0_orient_9 : decode cX0_orient 9 = .ok (.getfield 15, 3) := by decide +kernel
theorem dX0_orient_12 : decode cX0_orient 12 = .ok (.iconst 0, 1) := by decide +kernel
theorem dX0_orient_13 : decode cX0_orient 13 = .ok (.aload_n 0, 1) := by decide +kernel
theorem dX0_orient_14 : decode cX0_orient 14 = .ok (.getfield 64, 3) := by decide +kernel
theorem dX0_orient_17 : decode cX0_orient 17 = .ok (.getfield 82, 3) := by decide +kernel
theorem dX0_orient_20 : decode cX0_orient 20 = .ok (.iastore, 1) := by decide +kernel
theorem dX0_orient_21 : decode cX0_orient 21 = .ok (.aload_n 0, 1) := by decide +kernel
theorem dX0_orient_22 : decode cX0_orient 22 = .ok (.iconst 1, 1) := by decide +kernel
theorem dX0_orient_23 : decode cX0_orient 23 = .ok (.putfield 100, 3) := by decide +kernel
theorem dX0_orient_26 : decode cX0_orient 26 = .ok (.iconst 1, 1) := by decide +kernel
theorem dX0_orient_27 : decode cX0_orient 27 = .ok (.aload_n 0, 1) := by decide +kernel
theorem dX0_orient_28 : decode cX0_orient 28 = .ok (.getfield 64, 3) := by decide +kernel
theorem dX0_orient_31 : decode cX0_orient 31 = .ok (.getfield 82, 3) := by decide +kernel
theorem dX0_orient_34 : decode cX0_orient 34 = .ok (.ishl, 1) := by decide +kernel
theorem dX0_orient_35 : decode cX0_orient 35 = .ok (.istore_n 2, 1) := by decide +kernel
theorem dX0_orient_36 : decode cX0_orient 36 = .ok (.iconst 0, 1) := by decide +kernel
theorem dX0_orient_37 : decode cX0_orient 37 = .ok (.istore_n 3, 1) := by decide +kernel
theorem dX0_orient_38 : decode cX0_orient 38 = .ok (.iload_n 3, 1) := by decide +kernel
theorem dX0_orient_39 : decode cX0_orient 39 = .ok (.aload_n 0, 1) := by decide +kernel
theorem dX0_orient_40 : decode cX0_orient 40 = .ok (.getfield 100, 3) := by decide +kernel
theorem dX0_orient_43 : decode cX0_orient 43 = .ok (.if_icmp .ge 132, 3) := by decide +kernel
theorem dX0_orient_46 : decode cX0_orient 46 = .ok (.iconst 0, 1) := by decide +kernel
theorem dX0_orient_47 : decode cX0_orient 47 = .ok (.istore 4, 2) := by decide +kernel
theorem dX0_orient_49 : decode cX0_orient 49 = .ok (.iload 4, 2) := by decide +kernel
theorem dX0_orient_51 : decode cX0_orient 51 = .ok (.aload_n 0, 1) := by decide +kernel
theorem dX0_orient_52 : decode cX0_orient 52 = .ok (.getfield 64, 3) := by decide +kernel
theorem dX0_orient_55 : decode cX0_orient 55 = .ok (.getfield 153, 3) := by decide +kernel
theorem dX0_orient_58 : decode cX0_orient 58 = .ok (.if_icmp .ge 111, 3) := by decide +kernel
theorem dX0_orient_61 : decode cX0_orient 61 = .ok (.iload_n 1, 1) := by decide +kernel
theorem dX0_orient_62 : decode cX0_orient 62 = .ok (.iload 4, 2) := by decide +kernel
theorem dX0_orient_64 : decode cX0_orient 64 = .ok (.ishr, 1) := by decide +kernel
theorem dX0_orient_65 : decode cX0_orient 65 = .ok (.iconst 1, 1) := by decide +kernel
theorem dX0_orient_66 : decode cX0_orient 66 = .ok (.iand, 1) := by decide +kernel
theorem dX0_orient_67 : decode cX0_orient 67 = .ok (.ifCond .eq 96, 3) := by decide +kernel
theorem dX0_orient_70 : decode cX0_orient 70 = .ok (.aload_n 0, 1) := by decide +kernel
theorem dX0_orient_71 : decode cX0_orient 71 = .ok (.getfield 64, 3) := by decide +kernel
theorem dX0_orient_74 : decode cX0_orient 74 = .ok (.iload 4, 2) := by decide +kernel
theorem dX0_orient_76 : decode cX0_orient 76 = .ok (.aload_n 0, 1) := by decide +kernel
theorem dX0_orient_77 : decode cX0_orient 77 = .ok (.getfield 15, 3) := by decide +kernel
theorem dX0_orient_80 : decode cX0_orient 80 = .ok (.iload_n 3, 1) := by decide +kernel
theorem dX0_orient_81 : decode cX0_orient 81 = .ok (.iaload, 1) := by decide +kernel
theorem dX0_orient_82 : decode cX0_orient 82 = .ok (.invokevirtual 156, 3) := by decide +kernel
theorem dX0_orient_85 : decode cX0_orient 85 = .ok (.ifCond .ne 6, 3) := by decide +kernel
theorem dX0_orient_88 : decode cX0_orient 88 = .ok (.goto 75, 3) := by decide +kernel
theorem dX0_orient_91 : decode cX0_orient 91 = .ok (.aload_n 0, 1) := by decide +kernel
theorem dX0_orient_92 : decode cX0_orient 92 = .ok (.getfield 64, 3) := by decide +kernel
theorem dX0_orient_95 : decode cX0_orient 95 = .ok (.iload 4, 2) := by decide +kernel
theorem dX0_orient_97 : decode cX0_orient 97 = .ok (.aload_n 0, 1) := by decide +kernel
theorem dX0_orient_98 : decode cX0_orient 98 = .ok (.getfield 15, 3) := by decide +kernel
theorem dX0_orient_101 : decode cX0_orient 101 = .ok (.iload_n 3, 1) := by decide +kernel
theorem dX0_orient_102 : decode cX0_orient 102 = .ok (.iaload, 1) := by decide +kernel
theorem dX0_orient_103 : decode cX0_orient 103 = .ok (.invokevirtual 160, 3) := by decide +kernel
theorem dX0_orient_106 : decode cX0_orient 106 = .ok (.istore 5, 2) := by decide +kernel
theorem dX0_orient_108 : decode cX0_orient 108 = .ok (.iload_n 2, 1) := by decide +kernel
theorem dX0_orient_109 : decode cX0_orient 109 = .ok (.iload 5, 2) := by decide +kernel
theorem dX0_orient_111 : decode cX0_orient 111 = .ok (.ishr, 1) := by decide +kernel
theorem dX0_orient_112 : decode cX0_orient 112 = .ok (.iconst 1, 1) := by decide +kernel
theorem dX0_orient_113 : decode cX0_orient 113 = .ok (.iand, 1) := by decide +kernel
theorem dX0_orient_114 : decode cX0_orient 114 = .ok (.ifCond .ne 49, 3) := by decide +kernel
theorem dX0_orient_117 : decode cX0_orient 117 = .ok (.aload_n 0, 1) := by decide +kernel
theorem dX0_orient_118 : decode cX0_orient 118 = .ok (.getfield 100, 3) := by decide +kernel
theorem dX0_orient_121 : decode cX0_orient 121 = .ok (.bipush 7, 2) := by decide +kernel
theorem dX0_orient_123 : decode cX0_orient 123 = .ok (.if_icmp .ge 40, 3) := by decide +kernel
theorem dX0_orient_126 : decode cX0_orient 126 = .ok (.iload_n 2, 1) := by decide +kernel
theorem dX0_orient_127 : decode cX0_orient 127 = .ok (.iconst 1, 1) := by decide +kernel
theorem dX0_orient_128 : decode cX0_orient 128 = .ok (.iload 5, 2) := by decide +kernel
theorem dX0_orient_130 : decode cX0_orient 130 = .ok (.ishl, 1) := by decide +kernel
theorem dX0_orient_131 : decode cX0_orient 131 = .ok (.ior, 1) := by decide +kernel
theorem dX0_orient_132 : decode cX0_orient 132 = .ok (.istore_n 2, 1) := by decide +kernel
theorem dX0_orient_133 : decode cX0_orient 133 = .ok (.aload_n 0, 1) := by decide +kernel
theorem dX0_orient_134 : decode cX0_orient 134 = .ok (.getfield 11, 3) := by decide +kernel
theorem dX0_orient_137 : decode cX0_orient 137 = .ok (.iload 5, 2) := by decide +kernel
theorem dX0_orient_139 : decode cX0_orient 139 = .ok (.iload 4, 2) := by decide +kernel
theorem dX0_orient_141 : decode cX0_orient 141 = .ok (.iastore, 1) := by decide +kernel
theorem dX0_orient_142 : decode cX0_orient 142 = .ok (.aload_n 0, 1) := by decide +kernel
theorem dX0_orient_143 : decode cX0_orient 143 = .ok (.getfield 15, 3) := by decide +kernel
theorem dX0_orient_146 : decode cX0_orient 146 = .ok (.aload_n 0, 1) := by decide +kernel
theorem dX0_orient_147 : decode cX0_orient 147 = .ok (.getfield 100, 3) := by decide +kernel
theorem dX0_orient_150 : decode cX0_orient 150 = .ok (.iload 5, 2) := by decide +kernel
theorem dX0_orient_152 : decode cX0_orient 152 = .ok (.iastore, 1) := by decide +kernel
theorem dX0_orient_153 : decode cX0_orient 153 = .ok (.aload_n 0, 1) := by decide +kernel
theorem dX0_orient_154 : decode cX0_orient 154 = .ok (.dup, 1) := by decide +kernel
theorem dX0_orient_155 : decode cX0_orient 155 = .ok (.getfield 100, 3) := by decide +kernel
theorem dX0_orient_158 : decode cX0_orient 158 = .ok (.iconst 1, 1) := by decide +kernel
theorem dX0_orient_159 : decode cX0_orient 159 = .ok (.iadd, 1) := by decide +kernel
theorem dX0_orient_160 : decode cX0_orient 160 = .ok (.putfield 100, 3) := by decide +kernel
theorem dX0_orient_163 : decode cX0_orient 163 = .ok (.iinc 4 1, 3) := by decide +kernel
theorem dX0_orient_166 : decode cX0_orient 166 = .ok (.goto (-117), 3) := by decide +kernel
theorem dX0_orient_169 : decode cX0_orient 169 = .ok (.iinc 3 1, 3) := by decide +kernel
theorem dX0_orient_172 : decode cX0_orient 172 = .ok (.goto (-134), 3) := by decide +kernel
theorem dX0_orient_175 : decode cX0_orient 175 = .ok (.return_, 1) := by decide +kernel
theorem dX0_gather_0 : decode cX0_gather 0 = .ok (.aload_n 0, 1) := by decide +kernel
theorem dX0_gather_1 : decode cX0_gather 1 = .ok (.iconst 0, 1) := by decide +kernel
theorem dX0_gather_2 : decode cX0_gather 2 = .ok (.putfield 163, 3) := by decide +kernel
theorem dX0_gather_5 : decode cX0_gather 5 = .ok (.iconst 0, 1) := by decide +kernel
theorem dX0_gather_6 : decode cX0_gather 6 = .ok (.istore_n 2, 1) := by decide +kernel
theorem dX0_gather_7 : decode cX0_gather 7 = .ok (.iload_n 2, 1) := by decide +kernel
theorem dX0_gather_8 : decode cX0_gather 8 = .ok (.aload_n 0, 1) := by decide +kernel
theorem dX0_gather_9 : decode cX0_gather 9 = .ok (.getfield 64, 3) := by decide +kernel
theorem dX0_gather_12 : decode cX0_gather 12 = .ok (.getfield 139, 3) := by decide +kernel
theorem dX0_gather_15 : decode cX0_gather 15 = .ok (.if_icmp .ge 57, 3) := by decide +kernel
theorem dX0_gather_18 : decode cX0_gather 18 = .ok (.aload_n 0, 1) := by decide +kernel
theorem dX0_gather_19 : decode cX0_gather 19 = .ok (.getfield 11, 3) := by decide +kernel
theorem dX0_gather_22 : decode cX0_gather 22 = .ok (.iload_n 2, 1) := by decide +kernel
theorem dX0_gather_23 : decode cX0_gather 23 = .ok (.iaload, 1) := by decide +kernel
theorem dX0_gather_24 : decode cX0_gather 24 = .ok (.iconst (-1), 1) := by decide +kernel
theorem dX0_gather_25 : decode cX0_gather 25 = .ok (.if_icmp .eq 41, 3) := by decide +kernel
theorem dX0_gather_28 : decode cX0_gather 28 = .ok (.aload_n 0, 1) := by decide +kernel
theorem dX0_gather_29 : decode cX0_gather 29 = .ok (.getfield 64, 3) := by decide +kernel
theorem dX0_gather_32 : decode cX0_gather 32 = .ok (.aload_n 0, 1) := by decide +kernel
theorem dX0_gather_33 : decode cX0_gather 33 = .ok (.getfield 11, 3) := by decide +kernel
theorem dX0_gather_36 : decode cX0_gather 36 = .ok (.iload_n 2, 1) := by decide +kernel
theorem dX0_gather_37 : decode cX0_gather 37 = .ok (.iaload, 1) := by decide +kernel
theorem dX0_gather_38 : decode cX0_gather 38 = .ok (.iload_n 2, 1) := by decide +kernel
theorem dX0_gather_39 : decode cX0_gather 39 = .ok (.invokevirtual 160, 3) := by decide +kernel
theorem dX0_gather_42 : decode cX0_gather 42 = .ok (.iload_n 1, 1) := by decide +kernel
theorem dX0_gather_43 : decode cX0_gather 43 = .ok (.if_icmp .ne 23, 3) := by decide +kernel
theorem dX0_gather_46 : decode cX0_gather 46 = .ok (.aload_n 0, 1) := by decide +kernel
theorem dX0_gather_47 : decode cX0_gather 47 = .ok (.getfield 24, 3) := by decide +kernel
theorem dX0_gather_50 : decode cX0_gather 50 = .ok (.aload_n 0, 1) := by decide +kernel
theorem dX0_gather_51 : decode cX0_gather 51 = .ok (.getfield 163, 3) := by decide +kernel
theorem dX0_gather_54 : decode cX0_gather 54 = .ok (.iload_n 2, 1) := by decide +kernel
theorem dX0_gather_55 : decode cX0_gather 55 = .ok (.iastore, 1) := by decide +kernel
theorem dX0_gather_56 : decode cX0_gather 56 = .ok (.aload_n 0, 1) := by decide +kernel
theorem dX0_gather_57 : decode cX0_gather 57 = .ok (.dup, 1) := by decide +kernel
theorem dX0_gather_58 : decode cX0_gather 58 = .ok (.getfield 163, 3) := by decide +kernel
theorem dX0_gather_61 : decode cX0_gather 61 = .ok (.iconst 1, 1) := by decide +kernel
theorem dX0_gather_62 : decode cX0_gather 62 = .ok (.iadd, 1) := by decide +kernel
theorem dX0_gather_63 : decode cX0_gather 63 = .ok (.putfield 163, 3) := by decide +kernel
theorem dX0_gather_66 : decode cX0_gather 66 = .ok (.iinc 2 1, 3) := by decide +kernel
theorem dX0_gather_69 : decode cX0_gather 69 = .ok (.goto (-62), 3) := by decide +kernel
theorem dX0_gather_72 : decode cX0_gather 72 = .ok (.return_, 1) := by decide +kernel
theorem dX0_isNew_0 : decode cX0_isNew 0 = .ok (.iconst 1, 1) := by decide +kernel
theorem dX0_isNew_1 : decode cX0_isNew 1 = .ok (.aload_n 0, 1) := by decide +kernel
theorem dX0_isNew_2 : decode cX0_isNew 2 = .ok (.getfield 11, 3) := by decide +kernel
theorem dX0_isNew_5 : decode cX0_isNew 5 = .ok (.iload_n 1, 1) := by decide +kernel
theorem dX0_isNew_6 : decode cX0_isNew 6 = .ok (.iaload, 1) := by decide +kernel
theorem dX0_isNew_7 : decode cX0_isNew 7 = .ok (.ishl, 1) := by decide +kernel
theorem dX0_isNew_8 : decode cX0_isNew 8 = .ok (.istore_n 2, 1) := by decide +kernel
theorem dX0_isNew_9 : decode cX0_isNew 9 = .ok (.iconst 0, 1) := by decide +kernel
theorem dX0_isNew_10 : decode cX0_isNew 10 = .ok (.istore_n 3, 1) := by decide +kernel
theorem dX0_isNew_11 : decode cX0_isNew 11 = .ok (.iload_n 3, 1) := by decide +kernel
theorem dX0_isNew_12 : decode cX0_isNew 12 = .ok (.aload_n 0, 1) := by decide +kernel
theorem dX0_isNew_13 : decode cX0_isNew 13 = .ok (.getfield 163, 3) := by decide +kernel
theorem dX0_isNew_16 : decode cX0_isNew 16 = .ok (.if_icmp .ge 23, 3) := by decide +kernel
theorem dX0_isNew_19 : decode cX0_isNew 19 = .ok (.iload_n 2, 1) := by decide +kernel
theorem dX0_isNew_20 : decode cX0_isNew 20 = .ok (.aload_n 0, 1) := by decide +kernel
theorem dX0_isNew_21 : decode cX0_isNew 21 = .ok (.getfield 18, 3) := by decide +kernel
theorem dX0_isNew_24 : decode cX0_isNew 24 = .ok (.aload_n 0, 1) := by decide +kernel
theorem dX0_isNew_25 : decode cX0_isNew 25 = .ok (.getfield 24, 3) := by decide +kernel
theorem dX0_isNew_28 : decode cX0_isNew 28 = .ok (.iload_n 3, 1) := by decide +kernel
theorem dX0_isNew_29 : decode cX0_isNew 29 = .ok (.iaload, 1) := by decide +kernel
theorem dX0_isNew_30 : decode cX0_isNew 30 = .ok (.iaload, 1) := by decide +kernel
theorem dX0_isNew_31 : decode cX0_isNew 31 = .ok (.ior, 1) := by decide +kernel
theorem dX0_isNew_32 : decode cX0_isNew 32 = .ok (.istore_n 2, 1) := by decide +kernel
theorem dX0_isNew_33 : decode cX0_isNew 33 = .ok (.iinc 3 1, 3) := by decide +kernel
theorem dX0_isNew_36 : decode cX0_isNew 36 = .ok (.goto (-25), 3) := by decide +kernel
theorem dX0_isNew_39 : decode cX0_isNew 39 = .ok (.aload_n 0, 1) := by decide +kernel
theorem dX0_isNew_40 : decode cX0_isNew 40 = .ok (.getfield 18, 3) := by decide +kernel
theorem dX0_isNew_43 : decode cX0_isNew 43 = .ok (.iload_n 1, 1) := by decide +kernel
theorem dX0_isNew_44 : decode cX0_isNew 44 = .ok (.iload_n 2, 1) := by decide +kernel
theorem dX0_isNew_45 : decode cX0_isNew 45 = .ok (.iastore, 1) := by decide +kernel
theorem dX0_isNew_46 : decode cX0_isNew 46 = .ok (.aload_n 0, 1) := by decide +kernel
theorem dX0_isNew_47 : decode cX0_isNew 47 = .ok (.getfield 11, 3) := by decide +kernel
theorem dX0_isNew_50 : decode cX0_isNew 50 = .ok (.iload_n 1, 1) := by decide +kernel
theorem dX0_isNew_51 : decode cX0_isNew 51 = .ok (.iaload, 1) := by decide +kernel
theorem dX0_isNew_52 : decode cX0_isNew 52 = .ok (.bipush 10, 2) := by decide +kernel
theorem dX0_isNew_54 : decode cX0_isNew 54 = .ok (.ishl, 1) := by decide +kernel
theorem dX0_isNew_55 : decode cX0_isNew 55 = .ok (.iload_n 2, 1) := by decide +kernel
theorem dX0_isNew_56 : decode cX0_isNew 56 = .ok (.ior, 1) := by decide +kernel
theorem dX0_isNew_57 : decode cX0_isNew 57 = .ok (.istore_n 3, 1) := by decide +kernel
theorem dX0_isNew_58 : decode cX0_isNew 58 = .ok (.aload_n 0, 1) := by decide +kernel
theorem dX0_isNew_59 : decode cX0_isNew 59 = .ok (.getfield 21, 3) := by decide +kernel
theorem dX0_isNew_62 : decode cX0_isNew 62 = .ok (.iload_n 1, 1) := by decide +kernel
theorem dX0_isNew_63 : decode cX0_isNew 63 = .ok (.iaload, 1) := by decide +kernel
theorem dX0_isNew_64 : decode cX0_isNew 64 = .ok (.iload_n 3, 1) := by decide +kernel
theorem dX0_isNew_65 : decode cX0_isNew 65 = .ok (.if_icmp .ne 5, 3) := by decide +kernel
theorem dX0_isNew_68 : decode cX0_isNew 68 = .ok (.iconst 0, 1) := by decide +kernel
theorem dX0_isNew_69 : decode cX0_isNew 69 = .ok (.ireturn, 1) := by decide +kernel
theorem dX0_isNew_70 : decode cX0_isNew 70 = .ok (.aload_n 0, 1) := by decide +kernel
theorem dX0_isNew_71 : decode cX0_isNew 71 = .ok (.getfield 21, 3) := by decide +kernel
theorem dX0_isNew_74 : decode cX0_isNew 74 = .ok (.iload_n 1, 1) := by decide +kernel
theorem dX0_isNew_75 : decode cX0_isNew 75 = .ok (.iload_n 3, 1) := by decide +kernel
theorem dX0_isNew_76 : decode cX0_isNew 76 = .ok (.iastore, 1) := by decide +kernel
theorem dX0_isNew_77 : decode cX0_isNew 77 = .ok (.iconst 1, 1) := by decide +kernel
theorem dX0_isNew_78 : decode cX0_isNew 78 = .ok (.ireturn, 1) := by decide +kernel
theorem dX0_priceLifts_0 : decode cX0_priceLifts 0 = .ok (.iconst 1, 1) := by decide +kernel
theorem dX0_priceLifts_1 : decode cX0_priceLifts 1 = .ok (.istore_n 2, 1) := by decide +kernel
theorem dX0_priceLifts_2 : decode cX0_priceLifts 2 = .ok (.iload_n 2, 1) := by decide +kernel
theorem dX0_priceLifts_3 : decode cX0_priceLifts 3 = .ok (.bipush 13, 2) := by decide +kernel
theorem dX0_priceLifts_5 : decode cX0_priceLifts 5 = .ok (.if_icmp .ge 41, 3) := by decide +kernel
theorem dX0_priceLifts_8 : decode cX0_priceLifts 8 = .ok (.aload_n 0, 1) := by decide +kernel
theorem dX0_priceLifts_9 : decode cX0_priceLifts 9 = .ok (.getfield 163, 3) := by decide +kernel
theorem dX0_priceLifts_12 : decode cX0_priceLifts 12 = .ok (.ifCond .le 34, 3) := by decide +kernel
theorem dX0_priceLifts_15 : decode cX0_priceLifts 15 = .ok (.aload_n 0, 1) := by decide +kernel
theorem dX0_priceLifts_16 : decode cX0_priceLifts 16 = .ok (.getfield 42, 3) := by decide +kernel
theorem dX0_priceLifts_19 : decode cX0_priceLifts 19 = .ok (.iload_n 2, 1) := by decide +kernel
theorem dX0_priceLifts_20 : decode cX0_priceLifts 20 = .ok (.aload_n 0, 1) := by decide +kernel
theorem dX0_priceLifts_21 : decode cX0_priceLifts 21 = .ok (.getfield 64, 3) := by decide +kernel
theorem dX0_priceLifts_24 : decode cX0_priceLifts 24 = .ok (.getfield 129, 3) := by decide +kernel
theorem dX0_priceLifts_27 : decode cX0_priceLifts 27 = .ok (.iload_n 2, 1) := by decide +kernel
theorem dX0_priceLifts_28 : decode cX0_priceLifts 28 = .ok (.aload_n 0, 1) := by decide +kernel
theorem dX0_priceLifts_29 : decode cX0_priceLifts 29 = .ok (.getfield 56, 3) := by decide +kernel
theorem dX0_priceLifts_32 : decode cX0_priceLifts 32 = .ok (.iload_n 1, 1) := by decide +kernel
theorem dX0_priceLifts_33 : decode cX0_priceLifts 33 = .ok (.invokevirtual 166, 3) := by decide +kernel
theorem dX0_priceLifts_36 : decode cX0_priceLifts 36 = .ok (.invokevirtual 170, 3) := by decide +kernel
theorem dX0_priceLifts_39 : decode cX0_priceLifts 39 = .ok (.lastore, 1) := by decide +kernel
theorem dX0_priceLifts_40 : decode cX0_priceLifts 40 = .ok (.iinc 2 1, 3) := by decide +kernel
theorem dX0_priceLifts_43 : decode cX0_priceLifts 43 = .ok (.goto (-41), 3) := by decide +kernel
theorem dX0_priceLifts_46 : decode cX0_priceLifts 46 = .ok (.return_, 1) := by decide +kernel
theorem dX0_fill_0 : decode cX0_fill 0 = .ok (.aload_n 0, 1) := by decide +kernel
theorem dX0_fill_1 : decode cX0_fill 1 = .ok (.getfield 29, 3) := by decide +kernel
theorem dX0_fill_4 : decode cX0_fill 4 = .ok (.iload_n 1, 1) := by decide +kernel
theorem dX0_fill_5 : decode cX0_fill 5 = .ok (.aaload, 1) := by decide +kernel
theorem dX0_fill_6 : decode cX0_fill 6 = .ok (.ldc2_w 174, 3) := by decide +kernel
theorem dX0_fill_9 : decode cX0_fill 9 = .ok (.invokestatic 176, 3) := by decide +kernel
theorem dX0_fill_12 : decode cX0_fill 12 = .ok (.iconst 0, 1) := by decide +kernel
theorem dX0_fill_13 : decode cX0_fill 13 = .ok (.istore_n 2, 1) := by decide +kernel
theorem dX0_fill_14 : decode cX0_fill 14 = .ok (.iload_n 2, 1) := by decide +kernel
theorem dX0_fill_15 : decode cX0_fill 15 = .ok (.aload_n 0, 1) := by decide +kernel
theorem dX0_fill_16 : decode cX0_fill 16 = .ok (.getfield 64, 3) := by decide +kernel
theorem dX0_fill_19 : decode cX0_fill 19 = .ok (.getfield 119, 3) := by decide +kernel
theorem dX0_fill_22 : decode cX0_fill 22 = .ok (.if_icmp .ge 119, 3) := by decide +kernel
theorem dX0_fill_25 : decode cX0_fill 25 = .ok (.aload_n 0, 1) := by decide +kernel
theorem dX0_fill_26 : decode cX0_fill 26 = .ok (.getfield 64, 3) := by decide +kernel
theorem dX0_fill_29 : decode cX0_fill 29 = .ok (.getfield 142, 3) := by decide +kernel
theorem dX0_fill_32 : decode cX0_fill 32 = .ok (.iconst 0, 1) := by decide +kernel
theorem dX0_fill_33 : decode cX0_fill 33 = .ok (.iaload, 1) := by decide +kernel
theorem dX0_fill_34 : decode cX0_fill 34 = .ok (.istore_n 3, 1) := by decide +kernel
theorem dX0_fill_35 : decode cX0_fill 35 = .ok (.iload_n 3, 1) := by decide +kernel
theorem dX0_fill_36 : decode cX0_fill 36 = .ok (.aload_n 0, 1) := by decide +kernel
theorem dX0_fill_37 : decode cX0_fill 37 = .ok (.getfield 64, 3) := by decide +kernel
theorem dX0_fill_40 : decode cX0_fill 40 = .ok (.getfield 142, 3) := by decide +kernel
theorem dX0_fill_43 : decode cX0_fill 43 = .ok (.iconst 1, 1) := by decide +kernel
theorem dX0_fill_44 : decode cX0_fill 44 = .ok (.iaload, 1) := by decide +kernel
theorem dX0_fill_45 : decode cX0_fill 45 = .ok (.if_icmp .gt 37, 3) := by decide +kernel
theorem dX0_fill_48 : decode cX0_fill 48 = .ok (.aload_n 0, 1) := by decide +kernel
theorem dX0_fill_49 : decode cX0_fill 49 = .ok (.iload_n 2, 1) := by decide +kernel
theorem dX0_fill_50 : decode cX0_fill 50 = .ok (.bipush 13, 2) := by decide +kernel
theorem dX0_fill_52 : decode cX0_fill 52 = .ok (.imul, 1) := by decide +kernel
theorem dX0_fill_53 : decode cX0_fill 53 = .ok (.iload_n 3, 1) := by decide +kernel
theorem dX0_fill_54 : decode cX0_fill 54 = .ok (.iadd, 1) := by decide +kernel
theorem dX0_fill_55 : decode cX0_fill 55 = .ok (.iload_n 3, 1) := by decide +kernel
theorem dX0_fill_56 : decode cX0_fill 56 = .ok (.aload_n 0, 1) := by decide +kernel
theorem dX0_fill_57 : decode cX0_fill 57 = .ok (.getfield 64, 3) := by decide +kernel
theorem dX0_fill_60 : decode cX0_fill 60 = .ok (.getfield 142, 3) := by decide +kernel
theorem dX0_fill_63 : decode cX0_fill 63 = .ok (.iconst 0, 1) := by decide +kernel
theorem dX0_fill_64 : decode cX0_fill 64 = .ok (.iaload, 1) := by decide +kernel
theorem dX0_fill_65 : decode cX0_fill 65 = .ok (.if_icmp .le 7, 3) := by decide +kernel
theorem dX0_fill_68 : decode cX0_fill 68 = .ok (.iconst 1, 1) := by decide +kernel
theorem dX0_fill_69 : decode cX0_fill 69 = .ok (.goto 4, 3) := by decide +kernel
theorem dX0_fill_72 : decode cX0_fill 72 = .ok (.iconst 0, 1) := by decide +kernel
theorem dX0_fill_73 : decode cX0_fill 73 = .ok (.invokevirtual 179, 3) := by decide +kernel
theorem dX0_fill_76 : decode cX0_fill 76 = .ok (.iinc 3 1, 3) := by decide +kernel
theorem dX0_fill_79 : decode cX0_fill 79 = .ok (.goto (-44), 3) := by decide +kernel
theorem dX0_fill_82 : decode cX0_fill 82 = .ok (.aload_n 0, 1) := by decide +kernel
theorem dX0_fill_83 : decode cX0_fill 83 = .ok (.getfield 64, 3) := by decide +kernel
theorem dX0_fill_86 : decode cX0_fill 86 = .ok (.getfield 142, 3) := by decide +kernel
theorem dX0_fill_89 : decode cX0_fill 89 = .ok (.iconst 0, 1) := by decide +kernel
theorem dX0_fill_90 : decode cX0_fill 90 = .ok (.iaload, 1) := by decide +kernel
theorem dX0_fill_91 : decode cX0_fill 91 = .ok (.istore_n 3, 1) := by decide +kernel
theorem dX0_fill_92 : decode cX0_fill 92 = .ok (.iload_n 3, 1) := by decide +kernel
theorem dX0_fill_93 : decode cX0_fill 93 = .ok (.aload_n 0, 1) := by decide +kernel
theorem dX0_fill_94 : decode cX0_fill 94 = .ok (.getfield 64, 3) := by decide +kernel
theorem dX0_fill_97 : decode cX0_fill 97 = .ok (.getfield 142, 3) := by decide +kernel
theorem dX0_fill_100 : decode cX0_fill 100 = .ok (.iconst 1, 1) := by decide +kernel
theorem dX0_fill_101 : decode cX0_fill 101 = .ok (.iaload, 1) := by decide +kernel
theorem dX0_fill_102 : decode cX0_fill 102 = .ok (.if_icmp .gt 33, 3) := by decide +kernel
theorem dX0_fill_105 : decode cX0_fill 105 = .ok (.aload_n 0, 1) := by decide +kernel
theorem dX0_fill_106 : decode cX0_fill 106 = .ok (.iload_n 2, 1) := by decide +kernel
theorem dX0_fill_107 : decode cX0_fill 107 = .ok (.iload_n 3, 1) := by decide +kernel
theorem dX0_fill_108 : decode cX0_fill 108 = .ok (.invokevirtual 183, 3) := by decide +kernel
theorem dX0_fill_111 : decode cX0_fill 111 = .ok (.aload_n 0, 1) := by decide +kernel
theorem dX0_fill_112 : decode cX0_fill 112 = .ok (.getfield 187, 3) := by decide +kernel
theorem dX0_fill_115 : decode cX0_fill 115 = .ok (.ldc2_w 174, 3) := by decide +kernel
theorem dX0_fill_118 : decode cX0_fill 118 = .ok (.lcmp, 1) := by decide +kernel
theorem dX0_fill_119 : decode cX0_fill 119 = .ok (.ifCond .ge 10, 3) := by decide +kernel
theorem dX0_fill_122 : decode cX0_fill 122 = .ok (.aload_n 0, 1) := by decide +kernel
theorem dX0_fill_123 : decode cX0_fill 123 = .ok (.iload_n 1, 1) := by decide +kernel
theorem dX0_fill_124 : decode cX0_fill 124 = .ok (.iload_n 2, 1) := by decide +kernel
theorem dX0_fill_125 : decode cX0_fill 125 = .ok (.iload_n 3, 1) := by decide +kernel
theorem dX0_fill_126 : decode cX0_fill 126 = .ok (.invokevirtual 190, 3) := by decide +kernel
theorem dX0_fill_129 : decode cX0_fill 129 = .ok (.iinc 3 1, 3) := by decide +kernel
theorem dX0_fill_132 : decode cX0_fill 132 = .ok (.goto (-40), 3) := by decide +kernel
theorem dX0_fill_135 : decode cX0_fill 135 = .ok (.iinc 2 1, 3) := by decide +kernel
theorem dX0_fill_138 : decode cX0_fill 138 = .ok (.goto (-124), 3) := by decide +kernel
theorem dX0_fill_141 : decode cX0_fill 141 = .ok (.aload_n 0, 1) := by decide +kernel
theorem dX0_fill_142 : decode cX0_fill 142 = .ok (.aload_n 0, 1) := by decide +kernel
theorem dX0_fill_143 : decode cX0_fill 143 = .ok (.getfield 29, 3) := by decide +kernel
theorem dX0_fill_146 : decode cX0_fill 146 = .ok (.iload_n 1, 1) := by decide +kernel
theorem dX0_fill_147 : decode cX0_fill 147 = .ok (.aaload, 1) := by decide +kernel
theorem dX0_fill_148 : decode cX0_fill 148 = .ok (.aload_n 0, 1) := by decide +kernel
theorem dX0_fill_149 : decode cX0_fill 149 = .ok (.getfield 32, 3) := by decide +kernel
theorem dX0_fill_152 : decode cX0_fill 152 = .ok (.iload_n 1, 1) := by decide +kernel
theorem dX0_fill_153 : decode cX0_fill 153 = .ok (.aaload, 1) := by decide +kernel
theorem dX0_fill_154 : decode cX0_fill 154 = .ok (.invokevirtual 194, 3) := by decide +kernel
theorem dX0_fill_157 : decode cX0_fill 157 = .ok (.return_, 1) := by decide +kernel
theorem dX0_joinBranches_0 : decode cX0_joinBranches 0 = .ok (.lconst 0, 1) := by decide +kernel
theorem dX0_joinBranches_1 : decode cX0_joinBranches 1 = .ok (.lstore_n 3, 1) := by decide +kernel
theorem dX0_joinBranches_2 : decode cX0_joinBranches 2 = .ok (.lconst 0, 1) := by decide +kernel
theorem dX0_joinBranches_3 : decode cX0_joinBranches 3 = .ok (.lstore 5, 2) := by decide +kernel
theorem dX0_joinBranches_5 : decode cX0_joinBranches 5 = .ok (.lconst 0, 1) := by decide +kernel
theorem dX0_joinBranches_6 : decode cX0_joinBranches 6 = .ok (.lstore 7, 2) := by decide +kernel
theorem dX0_joinBranches_8 : decode cX0_joinBranches 8 = .ok (.lconst 0, 1) := by decide +kernel
theorem dX0_joinBranches_9 : decode cX0_joinBranches 9 = .ok (.lstore 9, 2) := by decide +kernel
theorem dX0_joinBranches_11 : decode cX0_joinBranches 11 = .ok (.ldc2_w 174, 3) := by decide +kernel
theorem dX0_joinBranches_14 : decode cX0_joinBranches 14 = .ok (.lstore 11, 2) := by decide +kernel
theorem dX0_joinBranches_16 : decode cX0_joinBranches 16 = .ok (.lconst 0, 1) := by decide +kernel
theorem dX0_joinBranches_17 : decode cX0_joinBranches 17 = .ok (.lstore 13, 2) := by decide +kernel
theorem dX0_joinBranches_19 : decode cX0_joinBranches 19 = .ok (.iconst 0, 1) := by decide +kernel
theorem dX0_joinBranches_20 : decode cX0_joinBranches 20 = .ok (.istore 15, 2) := by decide +kernel
theorem dX0_joinBranches_22 : decode cX0_joinBranches 22 = .ok (.iload 15, 2) := by decide +kernel
theorem dX0_joinBranches_24 : decode cX0_joinBranches 24 = .ok (.aload_n 0, 1) := by decide +kernel
theorem dX0_joinBranches_25 : decode cX0_joinBranches 25 = .ok (.getfield 163, 3) := by decide +kernel
theorem dX0_joinBranches_28 : decode cX0_joinBranches 28 = .ok (.if_icmp .ge 163, 3) := by decide +kernel
theorem dX0_joinBranches_31 : decode cX0_joinBranches 31 = .ok (.aload_n 0, 1) := by decide +kernel
theorem dX0_joinBranches_32 : decode cX0_joinBranches 32 = .ok (.getfield 32, 3) := by decide +kernel
theorem dX0_joinBranches_35 : decode cX0_joinBranches 35 = .ok (.aload_n 0, 1) := by decide +kernel
theorem dX0_joinBranches_36 : decode cX0_joinBranches 36 = .ok (.getfield 24, 3) := by decide +kernel
theorem dX0_joinBranches_39 : decode cX0_joinBranches 39 = .ok (.iload 15, 2) := by decide +kernel
theorem dX0_joinBranches_41 : decode cX0_joinBranches 41 = .ok (.iaload, 1) := by decide +kernel
theorem dX0_joinBranches_42 : decode cX0_joinBranches 42 = .ok (.aaload, 1) := by decide +kernel
theorem dX0_joinBranches_43 : decode cX0_joinBranches 43 = .ok (.astore 16, 2) := by decide +kernel
theorem dX0_joinBranches_45 : decode cX0_joinBranches 45 = .ok (.aload_n 0, 1) := by decide +kernel
theorem dX0_joinBranches_46 : decode cX0_joinBranches 46 = .ok (.getfield 29, 3) := by decide +kernel
theorem dX0_joinBranches_49 : decode cX0_joinBranches 49 = .ok (.aload_n 0, 1) := by decide +kernel
theorem dX0_joinBranches_50 : decode cX0_joinBranches 50 = .ok (.getfield 24, 3) := by decide +kernel
theorem dX0_joinBranches_53 : decode cX0_joinBranches 53 = .ok (.iload 15, 2) := by decide +kernel
theorem dX0_joinBranches_55 : decode cX0_joinBranches 55 = .ok (.iaload, 1) := by decide +kernel
theorem dX0_joinBranches_56 : decode cX0_joinBranches 56 = .ok (.aaload, 1) := by decide +kernel
theorem dX0_joinBranches_57 : decode cX0_joinBranches 57 = .ok (.astore 17, 2) := by decide +kernel
theorem dX0_joinBranches_59 : decode cX0_joinBranches 59 = .ok (.lload 11, 2) := by decide +kernel
theorem dX0_joinBranches_61 : decode cX0_joinBranches 61 = .ok (.aload 16, 2) := by decide +kernel
theorem dX0_joinBranches_63 : decode cX0_joinBranches 63 = .ok (.iload_n 1, 1) := by decide +kernel
theorem dX0_joinBranches_64 : decode cX0_joinBranches 64 = .ok (.laload, 1) := by decide +kernel
theorem dX0_joinBranches_65 : decode cX0_joinBranches 65 = .ok (.ladd, 1) := by decide +kernel
theorem dX0_joinBranches_66 : decode cX0_joinBranches 66 = .ok (.lstore 18, 2) := by decide +kernel
theorem dX0_joinBranches_68 : decode cX0_joinBranches 68 = .ok (.lload 13, 2) := by decide +kernel
theorem dX0_joinBranches_70 : decode cX0_joinBranches 70 = .ok (.aload 16, 2) := by decide +kernel
theorem dX0_joinBranches_72 : decode cX0_joinBranches 72 = .ok (.bipush 52, 2) := by decide +kernel
theorem dX0_joinBranches_74 : decode cX0_joinBranches 74 = .ok (.iload_n 1, 1) := by decide +kernel
theorem dX0_joinBranches_75 : decode cX0_joinBranches 75 = .ok (.iadd, 1) := by decide +kernel
theorem dX0_joinBranches_76 : decode cX0_joinBranches 76 = .ok (.laload, 1) := by decide +kernel
theorem dX0_joinBranches_77 : decode cX0_joinBranches 77 = .ok (.ladd, 1) := by decide +kernel
theorem dX0_joinBranches_78 : decode cX0_joinBranches 78 = .ok (.lstore 20, 2) := by decide +kernel
theorem dX0_joinBranches_80 : decode cX0_joinBranches 80 = .ok (.lload 7, 2) := by decide +kernel
theorem dX0_joinBranches_82 : decode cX0_joinBranches 82 = .ok (.aload 17, 2) := by decide +kernel
theorem dX0_joinBranches_84 : decode cX0_joinBranches 84 = .ok (.iload_n 1, 1) := by decide +kernel
theorem dX0_joinBranches_85 : decode cX0_joinBranches 85 = .ok (.laload, 1) := by decide +kernel
theorem dX0_joinBranches_86 : decode cX0_joinBranches 86 = .ok (.ladd, 1) := by decide +kernel
theorem dX0_joinBranches_87 : decode cX0_joinBranches 87 = .ok (.lstore 11, 2) := by decide +kernel
theorem dX0_joinBranches_89 : decode cX0_joinBranches 89 = .ok (.lload 9, 2) := by decide +kernel
theorem dX0_joinBranches_91 : decode cX0_joinBranches 91 = .ok (.aload 17, 2) := by decide +kernel
theorem dX0_joinBranches_93 : decode cX0_joinBranches 93 = .ok (.bipush 52, 2) := by decide +kernel
theorem dX0_joinBranches_95 : decode cX0_joinBranches 95 = .ok (.iload_n 1, 1) := by decide +kernel
theorem dX0_joinBranches_96 : decode cX0_joinBranches 96 = .ok (.iadd, 1) := by decide +kernel
theorem dX0_joinBranches_97 : decode cX0_joinBranches 97 = .ok (.laload, 1) := by decide +kernel
theorem dX0_joinBranches_98 : decode cX0_joinBranches 98 = .ok (.ladd, 1) := by decide +kernel
theorem dX0_joinBranches_99 : decode cX0_joinBranches 99 = .ok (.lstore 13, 2) := by decide +kernel
theorem dX0_joinBranches_101 : decode cX0_joinBranches 101 = .ok (.lload 18, 2) := by decide +kernel
theorem dX0_joinBranches_103 : decode cX0_joinBranches 103 = .ok (.lload 20, 2) := by decide +kernel
theorem dX0_joinBranches_105 : decode cX0_joinBranches 105 = .ok (.lload 11, 2) := by decide +kernel
theorem dX0_joinBranches_107 : decode cX0_joinBranches 107 = .ok (.lload 13, 2) := by decide +kernel
theorem dX0_joinBranches_109 : decode cX0_joinBranches 109 = .ok (.invokestatic 198, 3) := by decide +kernel
theorem dX0_joinBranches_112 : decode cX0_joinBranches 112 = .ok (.ifCond .eq 11, 3) := by decide +kernel
theorem dX0_joinBranches_115 : decode cX0_joinBranches 115 = .ok (.lload 18, 2) := by decide +kernel
theorem dX0_joinBranches_117 : decode cX0_joinBranches 117 = .ok (.lstore 11, 2) := by decide +kernel
theorem dX0_joinBranches_119 : decode cX0_joinBranches 119 = .ok (.lload 20, 2) := by decide +kernel
theorem dX0_joinBranches_121 : decode cX0_joinBranches 121 = .ok (.lstore 13, 2) := by decide +kernel
theorem dX0_joinBranches_123 : decode cX0_joinBranches 123 = .ok (.lload 7, 2) := by decide +kernel
theorem dX0_joinBranches_125 : decode cX0_joinBranches 125 = .ok (.iload_n 2, 1) := by decide +kernel
theorem dX0_joinBranches_126 : decode cX0_joinBranches 126 = .ok (.ifCond .eq 12, 3) := by decide +kernel
theorem dX0_joinBranches_129 : decode cX0_joinBranches 129 = .ok (.aload 16, 2) := by decide +kernel
theorem dX0_joinBranches_131 : decode cX0_joinBranches 131 = .ok (.iload_n 1, 1) := by decide +kernel
theorem dX0_joinBranches_132 : decode cX0_joinBranches 132 = .ok (.iconst 1, 1) := by decide +kernel
theorem dX0_joinBranches_133 : decode cX0_joinBranches 133 = .ok (.isub, 1) := by decide +kernel
theorem dX0_joinBranches_134 : decode cX0_joinBranches 134 = .ok (.laload, 1) := by decide +kernel
theorem dX0_joinBranches_135 : decode cX0_joinBranches 135 = .ok (.goto 6, 3) := by decide +kernel
theorem dX0_joinBranches_138 : decode cX0_joinBranches 138 = .ok (.ldc2_w 174, 3) := by decide +kernel
theorem dX0_joinBranches_141 : decode cX0_joinBranches 141 = .ok (.ladd, 1) := by decide +kernel
theorem dX0_joinBranches_142 : decode cX0_joinBranches 142 = .ok (.lstore 7, 2) := by decide +kernel
theorem dX0_joinBranches_144 : decode cX0_joinBranches 144 = .ok (.lload 9, 2) := by decide +kernel
theorem dX0_joinBranches_146 : decode cX0_joinBranches 146 = .ok (.iload_n 2, 1) := by decide +kernel
theorem dX0_joinBranches_147 : decode cX0_joinBranches 147 = .ok (.ifCond .eq 15, 3) := by decide +kernel
theorem dX0_joinBranches_150 : decode cX0_joinBranches 150 = .ok (.aload 16, 2) := by decide +kernel
theorem dX0_joinBranches_152 : decode cX0_joinBranches 152 = .ok (.bipush 52, 2) := by decide +kernel
theorem dX0_joinBranches_154 : decode cX0_joinBranches 154 = .ok (.iload_n 1, 1) := by decide +kernel
theorem dX0_joinBranches_155 : decode cX0_joinBranches 155 = .ok (.iadd, 1) := by decide +kernel
theorem dX0_joinBranches_156 : decode cX0_joinBranches 156 = .ok (.iconst 1, 1) := by decide +kernel
theorem dX0_joinBranches_157 : decode cX0_joinBranches 157 = .ok (.isub, 1) := by decide +kernel
theorem dX0_joinBranches_158 : decode cX0_joinBranches 158 = .ok (.laload, 1) := by decide +kernel
theorem dX0_joinBranches_159 : decode cX0_joinBranches 159 = .ok (.goto 4, 3) := by decide +kernel
theorem dX0_joinBranches_162 : decode cX0_joinBranches 162 = .ok (.lconst 0, 1) := by decide +kernel
theorem dX0_joinBranches_163 : decode cX0_joinBranches 163 = .ok (.ladd, 1) := by decide +kernel
theorem dX0_joinBranches_164 : decode cX0_joinBranches 164 = .ok (.lstore 9, 2) := by decide +kernel
theorem dX0_joinBranches_166 : decode cX0_joinBranches 166 = .ok (.lload_n 3, 1) := by decide +kernel
theorem dX0_joinBranches_167 : decode cX0_joinBranches 167 = .ok (.aload 16, 2) := by decide +kernel
theorem dX0_joinBranches_169 : decode cX0_joinBranches 169 = .ok (.iload_n 1, 1) := by decide +kernel
theorem dX0_joinBranches_170 : decode cX0_joinBranches 170 = .ok (.laload, 1) := by decide +kernel
theorem dX0_joinBranches_171 : decode cX0_joinBranches 171 = .ok (.ladd, 1) := by decide +kernel
theorem dX0_joinBranches_172 : decode cX0_joinBranches 172 = .ok (.lstore_n 3, 1) := by decide +kernel
theorem dX0_joinBranches_173 : decode cX0_joinBranches 173 = .ok (.lload 5, 2) := by decide +kernel
theorem dX0_joinBranches_175 : decode cX0_joinBranches 175 = .ok (.aload 16, 2) := by decide +kernel
theorem dX0_joinBranches_177 : decode cX0_joinBranches 177 = .ok (.bipush 52, 2) := by decide +kernel
theorem dX0_joinBranches_179 : decode cX0_joinBranches 179 = .ok (.iload_n 1, 1) := by decide +kernel
theorem dX0_joinBranches_180 : decode cX0_joinBranches 180 = .ok (.iadd, 1) := by decide +kernel
theorem dX0_joinBranches_181 : decode cX0_joinBranches 181 = .ok (.laload, 1) := by decide +kernel
theorem dX0_joinBranches_182 : decode cX0_joinBranches 182 = .ok (.ladd, 1) := by decide +kernel
theorem dX0_joinBranches_183 : decode cX0_joinBranches 183 = .ok (.lstore 5, 2) := by decide +kernel
theorem dX0_joinBranches_185 : decode cX0_joinBranches 185 = .ok (.iinc 15 1, 3) := by decide +kernel
theorem dX0_joinBranches_188 : decode cX0_joinBranches 188 = .ok (.goto (-166), 3) := by decide +kernel
theorem dX0_joinBranches_191 : decode cX0_joinBranches 191 = .ok (.aload_n 0, 1) := by decide +kernel
theorem dX0_joinBranches_192 : decode cX0_joinBranches 192 = .ok (.getfield 39, 3) := by decide +kernel
theorem dX0_joinBranches_195 : decode cX0_joinBranches 195 = .ok (.iload_n 1, 1) := by decide +kernel
theorem dX0_joinBranches_196 : decode cX0_joinBranches 196 = .ok (.ldc2_w 174, 3) := by decide +kernel
theorem dX0_joinBranches_199 : decode cX0_joinBranches 199 = .ok (.lload_n 3, 1) := by decide +kernel
theorem dX0_joinBranches_200 : decode cX0_joinBranches 200 = .ok (.invokestatic 202, 3) := by decide +kernel
theorem dX0_joinBranches_203 : decode cX0_joinBranches 203 = .ok (.lastore, 1) := by decide +kernel
theorem dX0_joinBranches_204 : decode cX0_joinBranches 204 = .ok (.aload_n 0, 1) := by decide +kernel
theorem dX0_joinBranches_205 : decode cX0_joinBranches 205 = .ok (.getfield 39, 3) := by decide +kernel
theorem dX0_joinBranches_208 : decode cX0_joinBranches 208 = .ok (.bipush 52, 2) := by decide +kernel
theorem dX0_joinBranches_210 : decode cX0_joinBranches 210 = .ok (.iload_n 1, 1) := by decide +kernel
theorem dX0_joinBranches_211 : decode cX0_joinBranches 211 = .ok (.iadd, 1) := by decide +kernel
theorem dX0_joinBranches_212 : decode cX0_joinBranches 212 = .ok (.lload 5, 2) := by decide +kernel
theorem dX0_joinBranches_214 : decode cX0_joinBranches 214 = .ok (.lastore, 1) := by decide +kernel
theorem dX0_joinBranches_215 : decode cX0_joinBranches 215 = .ok (.aload_n 0, 1) := by decide +kernel
theorem dX0_joinBranches_216 : decode cX0_joinBranches 216 = .ok (.getfield 35, 3) := by decide +kernel
theorem dX0_joinBranches_219 : decode cX0_joinBranches 219 = .ok (.iload_n 1, 1) := by decide +kernel
theorem dX0_joinBranches_220 : decode cX0_joinBranches 220 = .ok (.ldc2_w 174, 3) := by decide +kernel
theorem dX0_joinBranches_223 : decode cX0_joinBranches 223 = .ok (.lload 11, 2) := by decide +kernel
theorem dX0_joinBranches_225 : decode cX0_joinBranches 225 = .ok (.invokestatic 202, 3) := by decide +kernel
theorem dX0_joinBranches_228 : decode cX0_joinBranches 228 = .ok (.lastore, 1) := by decide +kernel
theorem dX0_joinBranches_229 : decode cX0_joinBranches 229 = .ok (.aload_n 0, 1) := by decide +kernel
theorem dX0_joinBranches_230 : decode cX0_joinBranches 230 = .ok (.getfield 35, 3) := by decide +kernel
theorem dX0_joinBranches_233 : decode cX0_joinBranches 233 = .ok (.bipush 52, 2) := by decide +kernel
theorem dX0_joinBranches_235 : decode cX0_joinBranches 235 = .ok (.iload_n 1, 1) := by decide +kernel
theorem dX0_joinBranches_236 : decode cX0_joinBranches 236 = .ok (.iadd, 1) := by decide +kernel
theorem dX0_joinBranches_237 : decode cX0_joinBranches 237 = .ok (.lload 13, 2) := by decide +kernel
theorem dX0_joinBranches_239 : decode cX0_joinBranches 239 = .ok (.lastore, 1) := by decide +kernel
theorem dX0_joinBranches_240 : decode cX0_joinBranches 240 = .ok (.return_, 1) := by decide +kernel
theorem dX0_isLess_0 : decode cX0_isLess 0 = .ok (.lload_n 0, 1) := by decide +kernel
theorem dX0_isLess_1 : decode cX0_isLess 1 = .ok (.lload 4, 2) := by decide +kernel
theorem dX0_isLess_3 : decode cX0_isLess 3 = .ok (.lcmp, 1) := by decide +kernel
theorem dX0_isLess_4 : decode cX0_isLess 4 = .ok (.ifCond .lt 17, 3) := by decide +kernel
theorem dX0_isLess_7 : decode cX0_isLess 7 = .ok (.lload_n 0, 1) := by decide +kernel
theorem dX0_isLess_8 : decode cX0_isLess 8 = .ok (.lload 4, 2) := by decide +kernel
theorem dX0_isLess_10 : decode cX0_isLess 10 = .ok (.lcmp, 1) := by decide +kernel
theorem dX0_isLess_11 : decode cX0_isLess 11 = .ok (.ifCond .ne 14, 3) := by decide +kernel
theorem dX0_isLess_14 : decode cX0_isLess 14 = .ok (.lload_n 2, 1) := by decide +kernel
theorem dX0_isLess_15 : decode cX0_isLess 15 = .ok (.lload 6, 2) := by decide +kernel
theorem dX0_isLess_17 : decode cX0_isLess 17 = .ok (.lcmp, 1) := by decide +kernel
theorem dX0_isLess_18 : decode cX0_isLess 18 = .ok (.ifCond .ge 7, 3) := by decide +kernel
theorem dX0_isLess_21 : decode cX0_isLess 21 = .ok (.iconst 1, 1) := by decide +kernel
theorem dX0_isLess_22 : decode cX0_isLess 22 = .ok (.goto 4, 3) := by decide +kernel
theorem dX0_isLess_25 : decode cX0_isLess 25 = .ok (.iconst 0, 1) := by decide +kernel
theorem dX0_isLess_26 : decode cX0_isLess 26 = .ok (.ireturn, 1) := by decide +kernel
theorem dX0_enter_0 : decode cX0_enter 0 = .ok (.iload_n 1, 1) := by decide +kernel
theorem dX0_enter_1 : decode cX0_enter 1 = .ok (.bipush 13, 2) := by decide +kernel
theorem dX0_enter_3 : decode cX0_enter 3 = .ok (.imul, 1) := by decide +kernel
theorem dX0_enter_4 : decode cX0_enter 4 = .ok (.iload_n 2, 1) := by decide +kernel
theorem dX0_enter_5 : decode cX0_enter 5 = .ok (.iadd, 1) := by decide +kernel
theorem dX0_enter_6 : decode cX0_enter 6 = .ok (.istore_n 3, 1) := by decide +kernel
theorem dX0_enter_7 : decode cX0_enter 7 = .ok (.aload_n 0, 1) := by decide +kernel
theorem dX0_enter_8 : decode cX0_enter 8 = .ok (.aload_n 0, 1) := by decide +kernel
theorem dX0_enter_9 : decode cX0_enter 9 = .ok (.getfield 39, 3) := by decide +kernel
theorem dX0_enter_12 : decode cX0_enter 12 = .ok (.iload_n 3, 1) := by decide +kernel
theorem dX0_enter_13 : decode cX0_enter 13 = .ok (.laload, 1) := by decide +kernel
theorem dX0_enter_14 : decode cX0_enter 14 = .ok (.putfield 187, 3) := by decide +kernel
theorem dX0_enter_17 : decode cX0_enter 17 = .ok (.aload_n 0, 1) := by decide +kernel
theorem dX0_enter_18 : decode cX0_enter 18 = .ok (.aload_n 0, 1) := by decide +kernel
theorem dX0_enter_19 : decode cX0_enter 19 = .ok (.getfield 39, 3) := by decide +kernel
theorem dX0_enter_22 : decode cX0_enter 22 = .ok (.bipush 52, 2) := by decide +kernel
theorem dX0_enter_24 : decode cX0_enter 24 = .ok (.iload_n 3, 1) := by decide +kernel
theorem dX0_enter_25 : decode cX0_enter 25 = .ok (.iadd, 1) := by decide +kernel
theorem dX0_enter_26 : decode cX0_enter 26 = .ok (.laload, 1) := by decide +kernel
theorem dX0_enter_27 : decode cX0_enter 27 = .ok (.putfield 208, 3) := by decide +kernel
theorem dX0_enter_30 : decode cX0_enter 30 = .ok (.aload_n 0, 1) := by decide +kernel
theorem dX0_enter_31 : decode cX0_enter 31 = .ok (.getfield 163, 3) := by decide +kernel
theorem dX0_enter_34 : decode cX0_enter 34 = .ok (.ifCond .eq 17, 3) := by decide +kernel
theorem dX0_enter_37 : decode cX0_enter 37 = .ok (.aload_n 0, 1) := by decide +kernel
theorem dX0_enter_38 : decode cX0_enter 38 = .ok (.getfield 64, 3) := by decide +kernel
theorem dX0_enter_41 : decode cX0_enter 41 = .ok (.getfield 129, 3) := by decide +kernel
theorem dX0_enter_44 : decode cX0_enter 44 = .ok (.iconst 2, 1) := by decide +kernel
theorem dX0_enter_45 : decode cX0_enter 45 = .ok (.invokevirtual 211, 3) := by decide +kernel
theorem dX0_enter_48 : decode cX0_enter 48 = .ok (.ifCond .ne 4, 3) := by decide +kernel
theorem dX0_enter_51 : decode cX0_enter 51 = .ok (.return_, 1) := by decide +kernel
theorem dX0_enter_52 : decode cX0_enter 52 = .ok (.iload_n 2, 1) := by decide +kernel
theorem dX0_enter_53 : decode cX0_enter 53 = .ok (.iconst 1, 1) := by decide +kernel
theorem dX0_enter_54 : decode cX0_enter 54 = .ok (.iadd, 1) := by decide +kernel
theorem dX0_enter_55 : decode cX0_enter 55 = .ok (.istore 4, 2) := by decide +kernel
theorem dX0_enter_57 : decode cX0_enter 57 = .ok (.iload 4, 2) := by decide +kernel
theorem dX0_enter_59 : decode cX0_enter 59 = .ok (.aload_n 0, 1) := by decide +kernel
theorem dX0_enter_60 : decode cX0_enter 60 = .ok (.getfield 64, 3) := by decide +kernel
theorem dX0_enter_63 : decode cX0_enter 63 = .ok (.getfield 142, 3) := by decide +kernel
theorem dX0_enter_66 : decode cX0_enter 66 = .ok (.iconst 1, 1) := by decide +kernel
theorem dX0_enter_67 : decode cX0_enter 67 = .ok (.iaload, 1) := by decide +kernel
theorem dX0_enter_68 : decode cX0_enter 68 = .ok (.if_icmp .gt 83, 3) := by decide +kernel
theorem dX0_enter_71 : decode cX0_enter 71 = .ok (.iload_n 1, 1) := by decide +kernel
theorem dX0_enter_72 : decode cX0_enter 72 = .ok (.bipush 13, 2) := by decide +kernel
theorem dX0_enter_74 : decode cX0_enter 74 = .ok (.imul, 1) := by decide +kernel
theorem dX0_enter_75 : decode cX0_enter 75 = .ok (.iload 4, 2) := by decide +kernel
theorem dX0_enter_77 : decode cX0_enter 77 = .ok (.iadd, 1) := by decide +kernel
theorem dX0_enter_78 : decode cX0_enter 78 = .ok (.istore 5, 2) := by decide +kernel
theorem dX0_enter_80 : decode cX0_enter 80 = .ok (.aload_n 0, 1) := by decide +kernel
theorem dX0_enter_81 : decode cX0_enter 81 = .ok (.getfield 35, 3) := by decide +kernel
theorem dX0_enter_84 : decode cX0_enter 84 = .ok (.iload 5, 2) := by decide +kernel
theorem dX0_enter_86 : decode cX0_enter 86 = .ok (.laload, 1) := by decide +kernel
theorem dX0_enter_87 : decode cX0_enter 87 = .ok (.aload_n 0, 1) := by decide +kernel
theorem dX0_enter_88 : decode cX0_enter 88 = .ok (.getfield 42, 3) := by decide +kernel
theorem dX0_enter_91 : decode cX0_enter 91 = .ok (.iload 4, 2) := by decide +kernel
theorem dX0_enter_93 : decode cX0_enter 93 = .ok (.iload_n 2, 1) := by decide +kernel
theorem dX0_enter_94 : decode cX0_enter 94 = .ok (.isub, 1) := by decide +kernel
theorem dX0_enter_95 : decode cX0_enter 95 = .ok (.laload, 1) := by decide +kernel
theorem dX0_enter_96 : decode cX0_enter 96 = .ok (.ladd, 1) := by decide +kernel
theorem dX0_enter_97 : decode cX0_enter 97 = .ok (.lstore 6, 2) := by decide +kernel
theorem dX0_enter_99 : decode cX0_enter 99 = .ok (.lload 6, 2) := by decide +kernel
theorem dX0_enter_101 : decode cX0_enter 101 = .ok (.aload_n 0, 1) := by decide +kernel
theorem dX0_enter_102 : decode cX0_enter 102 = .ok (.getfield 35, 3) := by decide +kernel
theorem dX0_enter_105 : decode cX0_enter 105 = .ok (.bipush 52, 2) := by decide +kernel
theorem dX0_enter_107 : decode cX0_enter 107 = .ok (.iload 5, 2) := by decide +kernel
theorem dX0_enter_109 : decode cX0_enter 109 = .ok (.iadd, 1) := by decide +kernel
theorem dX0_enter_110 : decode cX0_enter 110 = .ok (.laload, 1) := by decide +kernel
theorem dX0_enter_111 : decode cX0_enter 111 = .ok (.aload_n 0, 1) := by decide +kernel
theorem dX0_enter_112 : decode cX0_enter 112 = .ok (.getfield 187, 3) := by decide +kernel
theorem dX0_enter_115 : decode cX0_enter 115 = .ok (.aload_n 0, 1) := by decide +kernel
theorem dX0_enter_116 : decode cX0_enter 116 = .ok (.getfield 208, 3) := by decide +kernel
theorem dX0_enter_119 : decode cX0_enter 119 = .ok (.invokestatic 198, 3) := by decide +kernel
theorem dX0_enter_122 : decode cX0_enter 122 = .ok (.ifCond .eq 23, 3) := by decide +kernel
theorem dX0_enter_125 : decode cX0_enter 125 = .ok (.aload_n 0, 1) := by decide +kernel
theorem dX0_enter_126 : decode cX0_enter 126 = .ok (.lload 6, 2) := by decide +kernel
theorem dX0_enter_128 : decode cX0_enter 128 = .ok (.putfield 187, 3) := by decide +kernel
theorem dX0_enter_131 : decode cX0_enter 131 = .ok (.aload_n 0, 1) := by decide +kernel
theorem dX0_enter_132 : decode cX0_enter 132 = .ok (.aload_n 0, 1) := by decide +kernel
theorem dX0_enter_133 : decode cX0_enter 133 = .ok (.getfield 35, 3) := by decide +kernel
theorem dX0_enter_136 : decode cX0_enter 136 = .ok (.bipush 52, 2) := by decide +kernel
theorem dX0_enter_138 : decode cX0_enter 138 = .ok (.iload 5, 2) := by decide +kernel
theorem dX0_enter_140 : decode cX0_enter 140 = .ok (.iadd, 1) := by decide +kernel
theorem dX0_enter_141 : decode cX0_enter 141 = .ok (.laload, 1) := by decide +kernel
theorem dX0_enter_142 : decode cX0_enter 142 = .ok (.putfield 208, 3) := by decide +kernel
theorem dX0_enter_145 : decode cX0_enter 145 = .ok (.iinc 4 1, 3) := by decide +kernel
theorem dX0_enter_148 : decode cX0_enter 148 = .ok (.goto (-91), 3) := by decide +kernel
theorem dX0_enter_151 : decode cX0_enter 151 = .ok (.return_, 1) := by decide +kernel
theorem dX0_layEnds_0 : decode cX0_layEnds 0 = .ok (.aload_n 0, 1) := by decide +kernel
theorem dX0_layEnds_1 : decode cX0_layEnds 1 = .ok (.getfield 11, 3) := by decide +kernel
theorem dX0_layEnds_4 : decode cX0_layEnds 4 = .ok (.iload_n 1, 1) := by decide +kernel
theorem dX0_layEnds_5 : decode cX0_layEnds 5 = .ok (.iaload, 1) := by decide +kernel
theorem dX0_layEnds_6 : decode cX0_layEnds 6 = .ok (.istore 4, 2) := by decide +kernel
theorem dX0_layEnds_8 : decode cX0_layEnds 8 = .ok (.aload_n 0, 1) := by decide +kernel
theorem dX0_layEnds_9 : decode cX0_layEnds 9 = .ok (.getfield 64, 3) := by decide +kernel
theorem dX0_layEnds_12 : decode cX0_layEnds 12 = .ok (.iload 4, 2) := by decide +kernel
theorem dX0_layEnds_14 : decode cX0_layEnds 14 = .ok (.iload_n 1, 1) := by decide +kernel
theorem dX0_layEnds_15 : decode cX0_layEnds 15 = .ok (.invokevirtual 160, 3) := by decide +kernel
theorem dX0_layEnds_18 : decode cX0_layEnds 18 = .ok (.istore 5, 2) := by decide +kernel
theorem dX0_layEnds_20 : decode cX0_layEnds 20 = .ok (.aload_n 0, 1) := by decide +kernel
theorem dX0_layEnds_21 : decode cX0_layEnds 21 = .ok (.getfield 64, 3) := by decide +kernel
theorem dX0_layEnds_24 : decode cX0_layEnds 24 = .ok (.getfield 214, 3) := by decide +kernel
theorem dX0_layEnds_27 : decode cX0_layEnds 27 = .ok (.iload 4, 2) := by decide +kernel
theorem dX0_layEnds_29 : decode cX0_layEnds 29 = .ok (.aaload, 1) := by decide +kernel
theorem dX0_layEnds_30 : decode cX0_layEnds 30 = .ok (.iconst 2, 1) := by decide +kernel
theorem dX0_layEnds_31 : decode cX0_layEnds 31 = .ok (.iaload, 1) := by decide +kernel
theorem dX0_layEnds_32 : decode cX0_layEnds 32 = .ok (.istore 6, 2) := by decide +kernel
theorem dX0_layEnds_34 : decode cX0_layEnds 34 = .ok (.aload_n 0, 1) := by decide +kernel
theorem dX0_layEnds_35 : decode cX0_layEnds 35 = .ok (.getfield 64, 3) := by decide +kernel
theorem dX0_layEnds_38 : decode cX0_layEnds 38 = .ok (.getfield 216, 3) := by decide +kernel
theorem dX0_layEnds_41 : decode cX0_layEnds 41 = .ok (.iload_n 1, 1) := by decide +kernel
theorem dX0_layEnds_42 : decode cX0_layEnds 42 = .ok (.aaload, 1) := by decide +kernel
theorem dX0_layEnds_43 : decode cX0_layEnds 43 = .ok (.iconst 0, 1) := by decide +kernel
theorem dX0_layEnds_44 : decode cX0_layEnds 44 = .ok (.iaload, 1) := by decide +kernel
theorem dX0_layEnds_45 : decode cX0_layEnds 45 = .ok (.iload_n 3, 1) := by decide +kernel
theorem dX0_layEnds_46 : decode cX0_layEnds 46 = .ok (.isub, 1) := by decide +kernel
theorem dX0_layEnds_47 : decode cX0_layEnds 47 = .ok (.aload_n 0, 1) := by decide +kernel
theorem dX0_layEnds_48 : decode cX0_layEnds 48 = .ok (.getfield 64, 3) := by decide +kernel
theorem dX0_layEnds_51 : decode cX0_layEnds 51 = .ok (.getfield 216, 3) := by decide +kernel
theorem dX0_layEnds_54 : decode cX0_layEnds 54 = .ok (.iload 5, 2) := by decide +kernel
theorem dX0_layEnds_56 : decode cX0_layEnds 56 = .ok (.aaload, 1) := by decide +kernel
theorem dX0_layEnds_57 : decode cX0_layEnds 57 = .ok (.iconst 0, 1) := by decide +kernel
theorem dX0_layEnds_58 : decode cX0_layEnds 58 = .ok (.iaload, 1) := by decide +kernel
theorem dX0_layEnds_59 : decode cX0_layEnds 59 = .ok (.isub, 1) := by decide +kernel
theorem dX0_layEnds_60 : decode cX0_layEnds 60 = .ok (.istore 7, 2) := by decide +kernel
theorem dX0_layEnds_62 : decode cX0_layEnds 62 = .ok (.aload_n 0, 1) := by decide +kernel
theorem dX0_layEnds_63 : decode cX0_layEnds 63 = .ok (.getfield 64, 3) := by decide +kernel
theorem dX0_layEnds_66 : decode cX0_layEnds 66 = .ok (.getfield 142, 3) := by decide +kernel
theorem dX0_layEnds_69 : decode cX0_layEnds 69 = .ok (.iconst 0, 1) := by decide +kernel
theorem dX0_layEnds_70 : decode cX0_layEnds 70 = .ok (.iaload, 1) := by decide +kernel
theorem dX0_layEnds_71 : decode cX0_layEnds 71 = .ok (.iload 6, 2) := by decide +kernel
theorem dX0_layEnds_73 : decode cX0_layEnds 73 = .ok (.aload_n 0, 1) := by decide +kernel
theorem dX0_layEnds_74 : decode cX0_layEnds 74 = .ok (.getfield 64, 3) := by decide +kernel
theorem dX0_layEnds_77 : decode cX0_layEnds 77 = .ok (.getfield 126, 3) := by decide +kernel
theorem dX0_layEnds_80 : decode cX0_layEnds 80 = .ok (.iconst 0, 1) := by decide +kernel
theorem dX0_layEnds_81 : decode cX0_layEnds 81 = .ok (.iaload, 1) := by decide +kernel
theorem dX0_layEnds_82 : decode cX0_layEnds 82 = .ok (.imul, 1) := by decide +kernel
theorem dX0_layEnds_83 : decode cX0_layEnds 83 = .ok (.iload 7, 2) := by decide +kernel
theorem dX0_layEnds_85 : decode cX0_layEnds 85 = .ok (.isub, 1) := by decide +kernel
theorem dX0_layEnds_86 : decode cX0_layEnds 86 = .ok (.invokestatic 219, 3) := by decide +kernel
theorem dX0_layEnds_89 : decode cX0_layEnds 89 = .ok (.istore 8, 2) := by decide +kernel
theorem dX0_layEnds_91 : decode cX0_layEnds 91 = .ok (.aload_n 0, 1) := by decide +kernel
theorem dX0_layEnds_92 : decode cX0_layEnds 92 = .ok (.getfield 64, 3) := by decide +kernel
theorem dX0_layEnds_95 : decode cX0_layEnds 95 = .ok (.getfield 142, 3) := by decide +kernel
theorem dX0_layEnds_98 : decode cX0_layEnds 98 = .ok (.iconst 1, 1) := by decide +kernel
theorem dX0_layEnds_99 : decode cX0_layEnds 99 = .ok (.iaload, 1) := by decide +kernel
theorem dX0_layEnds_100 : decode cX0_layEnds 100 = .ok (.iload 6, 2) := by decide +kernel
theorem dX0_layEnds_102 : decode cX0_layEnds 102 = .ok (.aload_n 0, 1) := by decide +kernel
theorem dX0_layEnds_103 : decode cX0_layEnds 103 = .ok (.getfield 64, 3) := by decide +kernel
theorem dX0_layEnds_106 : decode cX0_layEnds 106 = .ok (.getfield 126, 3) := by decide +kernel
theorem dX0_layEnds_109 : decode cX0_layEnds 109 = .ok (.iconst 1, 1) := by decide +kernel
theorem dX0_layEnds_110 : decode cX0_layEnds 110 = .ok (.iaload, 1) := by decide +kernel
theorem dX0_layEnds_111 : decode cX0_layEnds 111 = .ok (.imul, 1) := by decide +kernel
theorem dX0_layEnds_112 : decode cX0_layEnds 112 = .ok (.iload 7, 2) := by decide +kernel
theorem dX0_layEnds_114 : decode cX0_layEnds 114 = .ok (.isub, 1) := by decide +kernel
theorem dX0_layEnds_115 : decode cX0_layEnds 115 = .ok (.invokestatic 222, 3) := by decide +kernel
theorem dX0_layEnds_118 : decode cX0_layEnds 118 = .ok (.istore 9, 2) := by decide +kernel
theorem dX0_layEnds_120 : decode cX0_layEnds 120 = .ok (.iload 5, 2) := by decide +kernel
theorem dX0_layEnds_122 : decode cX0_layEnds 122 = .ok (.aload_n 0, 1) := by decide +kernel
theorem dX0_layEnds_123 : decode cX0_layEnds 123 = .ok (.getfield 64, 3) := by decide +kernel
theorem dX0_layEnds_126 : decode cX0_layEnds 126 = .ok (.getfield 82, 3) := by decide +kernel
theorem dX0_layEnds_129 : decode cX0_layEnds 129 = .ok (.if_icmp .ne 30, 3) := by decide +kernel
theorem dX0_layEnds_132 : decode cX0_layEnds 132 = .ok (.iload 9, 2) := by decide +kernel
theorem dX0_layEnds_134 : decode cX0_layEnds 134 = .ok (.aload_n 0, 1) := by decide +kernel
theorem dX0_layEnds_135 : decode cX0_layEnds 135 = .ok (.getfield 64, 3) := by decide +kernel
theorem dX0_layEnds_138 : decode cX0_layEnds 138 = .ok (.getfield 216, 3) := by decide +kernel
theorem dX0_layEnds_141 : decode cX0_layEnds 141 = .ok (.iload 5, 2) := by decide +kernel
theorem dX0_layEnds_143 : decode cX0_layEnds 143 = .ok (.aaload, 1) := by decide +kernel
theorem dX0_layEnds_144 : decode cX0_layEnds 144 = .ok (.iconst 0, 1) := by decide +kernel
theorem dX0_layEnds_145 : decode cX0_layEnds 145 = .ok (.iaload, 1) := by decide +kernel
theorem dX0_layEnds_146 : decode cX0_layEnds 146 = .ok (.aload_n 0, 1) := by decide +kernel
theorem dX0_layEnds_147 : decode cX0_layEnds 147 = .ok (.getfield 64, 3) := by decide +kernel
theorem dX0_layEnds_150 : decode cX0_layEnds 150 = .ok (.getfield 224, 3) := by decide +kernel
theorem dX0_layEnds_153 : decode cX0_layEnds 153 = .ok (.isub, 1) := by decide +kernel
theorem dX0_layEnds_154 : decode cX0_layEnds 154 = .ok (.invokestatic 222, 3) := by decide +kernel
theorem dX0_layEnds_157 : decode cX0_layEnds 157 = .ok (.istore 9, 2) := by decide +kernel
theorem dX0_layEnds_159 : decode cX0_layEnds 159 = .ok (.aload_n 0, 1) := by decide +kernel
theorem dX0_layEnds_160 : decode cX0_layEnds 160 = .ok (.getfield 56, 3) := by decide +kernel
theorem dX0_layEnds_163 : decode cX0_layEnds 163 = .ok (.iload_n 1, 1) := by decide +kernel
theorem dX0_layEnds_164 : decode cX0_layEnds 164 = .ok (.invokevirtual 166, 3) := by decide +kernel
theorem dX0_layEnds_167 : decode cX0_layEnds 167 = .ok (.lstore 10, 2) := by decide +kernel
theorem dX0_layEnds_169 : decode cX0_layEnds 169 = .ok (.lconst 1, 1) := by decide +kernel
theorem dX0_layEnds_170 : decode cX0_layEnds 170 = .ok (.aload_n 0, 1) := by decide +kernel
theorem dX0_layEnds_171 : decode cX0_layEnds 171 = .ok (.iload_n 1, 1) := by decide +kernel
theorem dX0_layEnds_172 : decode cX0_layEnds 172 = .ok (.invokevirtual 227, 3) := by decide +kernel
theorem dX0_layEnds_175 : decode cX0_layEnds 175 = .ok (.lshl, 1) := by decide +kernel
theorem dX0_layEnds_176 : decode cX0_layEnds 176 = .ok (.lstore 12, 2) := by decide +kernel
theorem dX0_layEnds_178 : decode cX0_layEnds 178 = .ok (.iload 8, 2) := by decide +kernel
theorem dX0_layEnds_180 : decode cX0_layEnds 180 = .ok (.istore 14, 2) := by decide +kernel
theorem dX0_layEnds_182 : decode cX0_layEnds 182 = .ok (.iload 14, 2) := by decide +kernel
theorem dX0_layEnds_184 : decode cX0_layEnds 184 = .ok (.iload 9, 2) := by decide +kernel
theorem dX0_layEnds_186 : decode cX0_layEnds 186 = .ok (.if_icmp .gt 120, 3) := by decide +kernel
theorem dX0_layEnds_189 : decode cX0_layEnds 189 = .ok (.aload_n 0, 1) := by decide +kernel
theorem dX0_layEnds_190 : decode cX0_layEnds 190 = .ok (.getfield 48, 3) := by decide +kernel
theorem dX0_layEnds_193 : decode cX0_layEnds 193 = .ok (.iload_n 2, 1) := by decide +kernel
theorem dX0_layEnds_194 : decode cX0_layEnds 194 = .ok (.aaload, 1) := by decide +kernel
theorem dX0_layEnds_195 : decode cX0_layEnds 195 = .ok (.aload_n 0, 1) := by decide +kernel
theorem dX0_layEnds_196 : decode cX0_layEnds 196 = .ok (.getfield 64, 3) := by decide +kernel
theorem dX0_layEnds_199 : decode cX0_layEnds 199 = .ok (.iload 4, 2) := by decide +kernel
theorem dX0_layEnds_201 : decode cX0_layEnds 201 = .ok (.iload 7, 2) := by decide +kernel
theorem dX0_layEnds_203 : decode cX0_layEnds 203 = .ok (.iload 14, 2) := by decide +kernel
theorem dX0_layEnds_205 : decode cX0_layEnds 205 = .ok (.iadd, 1) := by decide +kernel
theorem dX0_layEnds_206 : decode cX0_layEnds 206 = .ok (.invokevirtual 231, 3) := by decide +kernel
theorem dX0_layEnds_209 : decode cX0_layEnds 209 = .ok (.laload, 1) := by decide +kernel
theorem dX0_layEnds_210 : decode cX0_layEnds 210 = .ok (.lload 10, 2) := by decide +kernel
theorem dX0_layEnds_212 : decode cX0_layEnds 212 = .ok (.lcmp, 1) := by decide +kernel
theorem dX0_layEnds_213 : decode cX0_layEnds 213 = .ok (.ifCond .lt 87, 3) := by decide +kernel
theorem dX0_layEnds_216 : decode cX0_layEnds 216 = .ok (.aload_n 0, 1) := by decide +kernel
theorem dX0_layEnds_217 : decode cX0_layEnds 217 = .ok (.getfield 64, 3) := by decide +kernel
theorem dX0_layEnds_220 : decode cX0_layEnds 220 = .ok (.getfield 122, 3) := by decide +kernel
theorem dX0_layEnds_223 : decode cX0_layEnds 223 = .ok (.iload_n 2, 1) := by decide +kernel
theorem dX0_layEnds_224 : decode cX0_layEnds 224 = .ok (.aaload, 1) := by decide +kernel
theorem dX0_layEnds_225 : decode cX0_layEnds 225 = .ok (.iconst 1, 1) := by decide +kernel
theorem dX0_layEnds_226 : decode cX0_layEnds 226 = .ok (.iaload, 1) := by decide +kernel
theorem dX0_layEnds_227 : decode cX0_layEnds 227 = .ok (.i2l, 1) := by decide +kernel
theorem dX0_layEnds_228 : decode cX0_layEnds 228 = .ok (.aload_n 0, 1) := by decide +kernel
theorem dX0_layEnds_229 : decode cX0_layEnds 229 = .ok (.getfield 45, 3) := by decide +kernel
theorem dX0_layEnds_232 : decode cX0_layEnds 232 = .ok (.iload_n 1, 1) := by decide +kernel
theorem dX0_layEnds_233 : decode cX0_layEnds 233 = .ok (.aaload, 1) := by decide +kernel
theorem dX0_layEnds_234 : decode cX0_layEnds 234 = .ok (.iload_n 2, 1) := by decide +kernel
theorem dX0_layEnds_235 : decode cX0_layEnds 235 = .ok (.bipush 13, 2) := by decide +kernel
theorem dX0_layEnds_237 : decode cX0_layEnds 237 = .ok (.imul, 1) := by decide +kernel
theorem dX0_layEnds_238 : decode cX0_layEnds 238 = .ok (.iload_n 3, 1) := by decide +kernel
theorem dX0_layEnds_239 : decode cX0_layEnds 239 = .ok (.iload 14, 2) := by decide +kernel
theorem dX0_layEnds_241 : decode cX0_layEnds 241 = .ok (.iadd, 1) := by decide +kernel
theorem dX0_layEnds_242 : decode cX0_layEnds 242 = .ok (.iconst 2, 1) := by decide +kernel
theorem dX0_layEnds_243 : decode cX0_layEnds 243 = .ok (.idiv, 1) := by decide +kernel
theorem dX0_layEnds_244 : decode cX0_layEnds 244 = .ok (.iadd, 1) := by decide +kernel
theorem dX0_layEnds_245 : decode cX0_layEnds 245 = .ok (.laload, 1) := by decide +kernel
theorem dX0_layEnds_246 : decode cX0_layEnds 246 = .ok (.ladd, 1) := by decide +kernel
theorem dX0_layEnds_247 : decode cX0_layEnds 247 = .ok (.lstore 15, 2) := by decide +kernel
theorem dX0_layEnds_249 : decode cX0_layEnds 249 = .ok (.aload_n 0, 1) := by decide +kernel
theorem dX0_layEnds_250 : decode cX0_layEnds 250 = .ok (.getfield 208, 3) := by decide +kernel
theorem dX0_layEnds_253 : decode cX0_layEnds 253 = .ok (.iload_n 2, 1) := by decide +kernel
theorem dX0_layEnds_254 : decode cX0_layEnds 254 = .ok (.bipush 8, 2) := by decide +kernel
theorem dX0_layEnds_256 : decode cX0_layEnds 256 = .ok (.ishl, 1) := by decide +kernel
theorem dX0_layEnds_257 : decode cX0_layEnds 257 = .ok (.iload_n 3, 1) := by decide +kernel
theorem dX0_layEnds_258 : decode cX0_layEnds 258 = .ok (.iconst 4, 1) := by decide +kernel
theorem dX0_layEnds_259 : decode cX0_layEnds 259 = .ok (.ishl, 1) := by decide +kernel
theorem dX0_layEnds_260 : decode cX0_layEnds 260 = .ok (.ior, 1) := by decide +kernel
theorem dX0_layEnds_261 : decode cX0_layEnds 261 = .ok (.iload 14, 2) := by decide +kernel
theorem dX0_layEnds_263 : decode cX0_layEnds 263 = .ok (.ior, 1) := by decide +kernel
theorem dX0_layEnds_264 : decode cX0_layEnds 264 = .ok (.i2l, 1) := by decide +kernel
theorem dX0_layEnds_265 : decode cX0_layEnds 265 = .ok (.lload 12, 2) := by decide +kernel
theorem dX0_layEnds_267 : decode cX0_layEnds 267 = .ok (.lmul, 1) := by decide +kernel
theorem dX0_layEnds_268 : decode cX0_layEnds 268 = .ok (.ladd, 1) := by decide +kernel
theorem dX0_layEnds_269 : decode cX0_layEnds 269 = .ok (.lstore 17, 2) := by decide +kernel
theorem dX0_layEnds_271 : decode cX0_layEnds 271 = .ok (.aload_n 0, 1) := by decide +kernel
theorem dX0_layEnds_272 : decode cX0_layEnds 272 = .ok (.getfield 29, 3) := by decide +kernel
theorem dX0_layEnds_275 : decode cX0_layEnds 275 = .ok (.iload_n 1, 1) := by decide +kernel
theorem dX0_layEnds_276 : decode cX0_layEnds 276 = .ok (.aaload, 1) := by decide +kernel
theorem dX0_layEnds_277 : decode cX0_layEnds 277 = .ok (.iload_n 2, 1) := by decide +kernel
theorem dX0_layEnds_278 : decode cX0_layEnds 278 = .ok (.bipush 13, 2) := by decide +kernel
theorem dX0_layEnds_280 : decode cX0_layEnds 280 = .ok (.imul, 1) := by decide +kernel
theorem dX0_layEnds_281 : decode cX0_layEnds 281 = .ok (.iload 14, 2) := by decide +kernel
theorem dX0_layEnds_283 : decode cX0_layEnds 283 = .ok (.iadd, 1) := by decide +kernel
theorem dX0_layEnds_284 : decode cX0_layEnds 284 = .ok (.aload_n 0, 1) := by decide +kernel
theorem dX0_layEnds_285 : decode cX0_layEnds 285 = .ok (.getfield 187, 3) := by decide +kernel
theorem dX0_layEnds_288 : decode cX0_layEnds 288 = .ok (.iload 6, 2) := by decide +kernel
theorem dX0_layEnds_290 : decode cX0_layEnds 290 = .ok (.i2l, 1) := by decide +kernel
theorem dX0_layEnds_291 : decode cX0_layEnds 291 = .ok (.lload 15, 2) := by decide +kernel
theorem dX0_layEnds_293 : decode cX0_layEnds 293 = .ok (.lmul, 1) := by decide +kernel
theorem dX0_layEnds_294 : decode cX0_layEnds 294 = .ok (.ladd, 1) := by decide +kernel
theorem dX0_layEnds_295 : decode cX0_layEnds 295 = .ok (.lload 17, 2) := by decide +kernel
theorem dX0_layEnds_297 : decode cX0_layEnds 297 = .ok (.invokestatic 234, 3) := by decide +kernel
theorem dX0_layEnds_300 : decode cX0_layEnds 300 = .ok (.iinc 14 1, 3) := by decide +kernel
theorem dX0_layEnds_303 : decode cX0_layEnds 303 = .ok (.goto (-121), 3) := by decide +kernel
theorem dX0_layEnds_306 : decode cX0_layEnds 306 = .ok (.return_, 1) := by decide +kernel
theorem dX0_offer_0 : decode cX0_offer 0 = .ok (.lload_n 2, 1) := by decide +kernel
theorem dX0_offer_1 : decode cX0_offer 1 = .ok (.lload 4, 2) := by decide +kernel
theorem dX0_offer_3 : decode cX0_offer 3 = .ok (.aload_n 0, 1) := by decide +kernel
theorem dX0_offer_4 : decode cX0_offer 4 = .ok (.iload_n 1, 1) := by decide +kernel
theorem dX0_offer_5 : decode cX0_offer 5 = .ok (.laload, 1) := by decide +kernel
theorem dX0_offer_6 : decode cX0_offer 6 = .ok (.aload_n 0, 1) := by decide +kernel
theorem dX0_offer_7 : decode cX0_offer 7 = .ok (.bipush 52, 2) := by decide +kernel
theorem dX0_offer_9 : decode cX0_offer 9 = .ok (.iload_n 1, 1) := by decide +kernel
theorem dX0_offer_10 : decode cX0_offer 10 = .ok (.iadd, 1) := by decide +kernel
theorem dX0_offer_11 : decode cX0_offer 11 = .ok (.laload, 1) := by decide +kernel
theorem dX0_offer_12 : decode cX0_offer 12 = .ok (.invokestatic 198, 3) := by decide +kernel
theorem dX0_offer_15 : decode cX0_offer 15 = .ok (.ifCond .eq 15, 3) := by decide +kernel
theorem dX0_offer_18 : decode cX0_offer 18 = .ok (.aload_n 0, 1) := by decide +kernel
theorem dX0_offer_19 : decode cX0_offer 19 = .ok (.iload_n 1, 1) := by decide +kernel
theorem dX0_offer_20 : decode cX0_offer 20 = .ok (.lload_n 2, 1) := by decide +kernel
theorem dX0_offer_21 : decode cX0_offer 21 = .ok (.lastore, 1) := by decide +kernel
theorem dX0_offer_22 : decode cX0_offer 22 = .ok (.aload_n 0, 1) := by decide +kernel
theorem dX0_offer_23 : decode cX0_offer 23 = .ok (.bipush 52, 2) := by decide +kernel
theorem dX0_offer_25 : decode cX0_offer 25 = .ok (.iload_n 1, 1) := by decide +kernel
theorem dX0_offer_26 : decode cX0_offer 26 = .ok (.iadd, 1) := by decide +kernel
theorem dX0_offer_27 : decode cX0_offer 27 = .ok (.lload 4, 2) := by decide +kernel
theorem dX0_offer_29 : decode cX0_offer 29 = .ok (.lastore, 1) := by decide +kernel
theorem dX0_offer_30 : decode cX0_offer 30 = .ok (.return_, 1) := by decide +kernel
theorem dX0_shiftOf_0 : decode cX0_shiftOf 0 = .ok (.iload_n 1, 1) := by decide +kernel
theorem dX0_shiftOf_1 : decode cX0_shiftOf 1 = .ok (.aload_n 0, 1) := by decide +kernel
theorem dX0_shiftOf_2 : decode cX0_shiftOf 2 = .ok (.getfield 64, 3) := by decide +kernel
theorem dX0_shiftOf_5 : decode cX0_shiftOf 5 = .ok (.getfield 82, 3) := by decide +kernel
theorem dX0_shiftOf_8 : decode cX0_shiftOf 8 = .ok (.if_icmp .le 9, 3) := by decide +kernel
theorem dX0_shiftOf_11 : decode cX0_shiftOf 11 = .ok (.iload_n 1, 1) := by decide +kernel
theorem dX0_shiftOf_12 : decode cX0_shiftOf 12 = .ok (.iconst 1, 1) := by decide +kernel
theorem dX0_shiftOf_13 : decode cX0_shiftOf 13 = .ok (.isub, 1) := by decide +kernel
theorem dX0_shiftOf_14 : decode cX0_shiftOf 14 = .ok (.goto 4, 3) := by decide +kernel
theorem dX0_shiftOf_17 : decode cX0_shiftOf 17 = .ok (.iload_n 1, 1) := by decide +kernel
theorem dX0_shiftOf_18 : decode cX0_shiftOf 18 = .ok (.istore_n 2, 1) := by decide +kernel
theorem dX0_shiftOf_19 : decode cX0_shiftOf 19 = .ok (.bipush 10, 2) := by decide +kernel
theorem dX0_shiftOf_21 : decode cX0_shiftOf 21 = .ok (.iconst 0, 1) := by decide +kernel
theorem dX0_shiftOf_22 : decode cX0_shiftOf 22 = .ok (.iconst 5, 1) := by decide +kernel
theorem dX0_shiftOf_23 : decode cX0_shiftOf 23 = .ok (.iload_n 2, 1) := by decide +kernel
theorem dX0_shiftOf_24 : decode cX0_shiftOf 24 = .ok (.isub, 1) := by decide +kernel
theorem dX0_shiftOf_25 : decode cX0_shiftOf 25 = .ok (.invokestatic 219, 3) := by decide +kernel
theorem dX0_shiftOf_28 : decode cX0_shiftOf 28 = .ok (.imul, 1) := by decide +kernel
theorem dX0_shiftOf_29 : decode cX0_shiftOf 29 = .ok (.ireturn, 1) := by decide +kernel
theorem dX0_spread_0 : decode cX0_spread 0 = .ok (.iconst 0, 1) := by decide +kernel
theorem dX0_spread_1 : decode cX0_spread 1 = .ok (.istore_n 3, 1) := by decide +kernel
theorem dX0_spread_2 : decode cX0_spread 2 = .ok (.iload_n 3, 1) := by decide +kernel
theorem dX0_spread_3 : decode cX0_spread 3 = .ok (.aload_n 0, 1) := by decide +kernel
theorem dX0_spread_4 : decode cX0_spread 4 = .ok (.getfield 64, 3) := by decide +kernel
theorem dX0_spread_7 : decode cX0_spread 7 = .ok (.getfield 119, 3) := by decide +kernel
theorem dX0_spread_10 : decode cX0_spread 10 = .ok (.if_icmp .ge 133, 3) := by decide +kernel
theorem dX0_spread_13 : decode cX0_spread 13 = .ok (.aload_n 0, 1) := by decide +kernel
theorem dX0_spread_14 : decode cX0_spread 14 = .ok (.getfield 64, 3) := by decide +kernel
theorem dX0_spread_17 : decode cX0_spread 17 = .ok (.getfield 142, 3) := by decide +kernel
theorem dX0_spread_20 : decode cX0_spread 20 = .ok (.iconst 0, 1) := by decide +kernel
theorem dX0_spread_21 : decode cX0_spread 21 = .ok (.iaload, 1) := by decide +kernel
theorem dX0_spread_22 : decode cX0_spread 22 = .ok (.istore 4, 2) := by decide +kernel
theorem dX0_spread_24 : decode cX0_spread 24 = .ok (.iload 4, 2) := by decide +kernel
theorem dX0_spread_26 : decode cX0_spread 26 = .ok (.aload_n 0, 1) := by decide +kernel
theorem dX0_spread_27 : decode cX0_spread 27 = .ok (.getfield 64, 3) := by decide +kernel
theorem dX0_spread_30 : decode cX0_spread 30 = .ok (.getfield 142, 3) := by decide +kernel
theorem dX0_spread_33 : decode cX0_spread 33 = .ok (.iconst 1, 1) := by decide +kernel
theorem dX0_spread_34 : decode cX0_spread 34 = .ok (.iaload, 1) := by decide +kernel
theorem dX0_spread_35 : decode cX0_spread 35 = .ok (.if_icmp .gt 102, 3) := by decide +kernel
theorem dX0_spread_38 : decode cX0_spread 38 = .ok (.iload_n 3, 1) := by decide +kernel
theorem dX0_spread_39 : decode cX0_spread 39 = .ok (.bipush 13, 2) := by decide +kernel
theorem dX0_spread_41 : decode cX0_spread 41 = .ok (.imul, 1) := by decide +kernel
theorem dX0_spread_42 : decode cX0_spread 42 = .ok (.iload 4, 2) := by decide +kernel
theorem dX0_spread_44 : decode cX0_spread 44 = .ok (.iadd, 1) := by decide +kernel
theorem dX0_spread_45 : decode cX0_spread 45 = .ok (.istore 5, 2) := by decide +kernel
theorem dX0_spread_47 : decode cX0_spread 47 = .ok (.iload_n 3, 1) := by decide +kernel
theorem dX0_spread_48 : decode cX0_spread 48 = .ok (.ifCond .le 26, 3) := by decide +kernel
theorem dX0_spread_51 : decode cX0_spread 51 = .ok (.aload_n 1, 1) := by decide +kernel
theorem dX0_spread_52 : decode cX0_spread 52 = .ok (.iload 5, 2) := by decide +kernel
theorem dX0_spread_54 : decode cX0_spread 54 = .ok (.aload_n 1, 1) := by decide +kernel
theorem dX0_spread_55 : decode cX0_spread 55 = .ok (.iload 5, 2) := by decide +kernel
theorem dX0_spread_57 : decode cX0_spread 57 = .ok (.bipush 13, 2) := by decide +kernel
theorem dX0_spread_59 : decode cX0_spread 59 = .ok (.isub, 1) := by decide +kernel
theorem dX0_spread_60 : decode cX0_spread 60 = .ok (.laload, 1) := by decide +kernel
theorem dX0_spread_61 : decode cX0_spread 61 = .ok (.aload_n 1, 1) := by decide +kernel
theorem dX0_spread_62 : decode cX0_spread 62 = .ok (.bipush 52, 2) := by decide +kernel
theorem dX0_spread_64 : decode cX0_spread 64 = .ok (.iload 5, 2) := by decide +kernel
theorem dX0_spread_66 : decode cX0_spread 66 = .ok (.iadd, 1) := by decide +kernel
theorem dX0_spread_67 : decode cX0_spread 67 = .ok (.bipush 13, 2) := by decide +kernel
theorem dX0_spread_69 : decode cX0_spread 69 = .ok (.isub, 1) := by decide +kernel
theorem dX0_spread_70 : decode cX0_spread 70 = .ok (.laload, 1) := by decide +kernel
theorem dX0_spread_71 : decode cX0_spread 71 = .ok (.invokestatic 234, 3) := by decide +kernel
theorem dX0_spread_74 : decode cX0_spread 74 = .ok (.aload_n 2, 1) := by decide +kernel
theorem dX0_spread_75 : decode cX0_spread 75 = .ok (.iload 5, 2) := by decide +kernel
theorem dX0_spread_77 : decode cX0_spread 77 = .ok (.aload_n 1, 1) := by decide +kernel
theorem dX0_spread_78 : decode cX0_spread 78 = .ok (.iload 5, 2) := by decide +kernel
theorem dX0_spread_80 : decode cX0_spread 80 = .ok (.laload, 1) := by decide +kernel
theorem dX0_spread_81 : decode cX0_spread 81 = .ok (.lastore, 1) := by decide +kernel
theorem dX0_spread_82 : decode cX0_spread 82 = .ok (.aload_n 2, 1) := by decide +kernel
theorem dX0_spread_83 : decode cX0_spread 83 = .ok (.bipush 52, 2) := by decide +kernel
theorem dX0_spread_85 : decode cX0_spread 85 = .ok (.iload 5, 2) := by decide +kernel
theorem dX0_spread_87 : decode cX0_spread 87 = .ok (.iadd, 1) := by decide +kernel
theorem dX0_spread_88 : decode cX0_spread 88 = .ok (.aload_n 1, 1) := by decide +kernel
theorem dX0_spread_89 : decode cX0_spread 89 = .ok (.bipush 52, 2) := by decide +kernel
theorem dX0_spread_91 : decode cX0_spread 91 = .ok (.iload 5, 2) := by decide +kernel
theorem dX0_spread_93 : decode cX0_spread 93 = .ok (.iadd, 1) := by decide +kernel
theorem dX0_spread_94 : decode cX0_spread 94 = .ok (.laload, 1) := by decide +kernel
theorem dX0_spread_95 : decode cX0_spread 95 = .ok (.lastore, 1) := by decide +kernel
theorem dX0_spread_96 : decode cX0_spread 96 = .ok (.iload 4, 2) := by decide +kernel
theorem dX0_spread_98 : decode cX0_spread 98 = .ok (.aload_n 0, 1) := by decide +kernel
theorem dX0_spread_99 : decode cX0_spread 99 = .ok (.getfield 64, 3) := by decide +kernel
theorem dX0_spread_102 : decode cX0_spread 102 = .ok (.getfield 142, 3) := by decide +kernel
theorem dX0_spread_105 : decode cX0_spread 105 = .ok (.iconst 0, 1) := by decide +kernel
theorem dX0_spread_106 : decode cX0_spread 106 = .ok (.iaload, 1) := by decide +kernel
theorem dX0_spread_107 : decode cX0_spread 107 = .ok (.if_icmp .le 24, 3) := by decide +kernel
theorem dX0_spread_110 : decode cX0_spread 110 = .ok (.aload_n 2, 1) := by decide +kernel
theorem dX0_spread_111 : decode cX0_spread 111 = .ok (.iload 5, 2) := by decide +kernel
theorem dX0_spread_113 : decode cX0_spread 113 = .ok (.aload_n 2, 1) := by decide +kernel
theorem dX0_spread_114 : decode cX0_spread 114 = .ok (.iload 5, 2) := by decide +kernel
theorem dX0_spread_116 : decode cX0_spread 116 = .ok (.iconst 1, 1) := by decide +kernel
theorem dX0_spread_117 : decode cX0_spread 117 = .ok (.isub, 1) := by decide +kernel
theorem dX0_spread_118 : decode cX0_spread 118 = .ok (.laload, 1) := by decide +kernel
theorem dX0_spread_119 : decode cX0_spread 119 = .ok (.aload_n 2, 1) := by decide +kernel
theorem dX0_spread_120 : decode cX0_spread 120 = .ok (.bipush 52, 2) := by decide +kernel
theorem dX0_spread_122 : decode cX0_spread 122 = .ok (.iload 5, 2) := by decide +kernel
theorem dX0_spread_124 : decode cX0_spread 124 = .ok (.iadd, 1) := by decide +kernel
theorem dX0_spread_125 : decode cX0_spread 125 = .ok (.iconst 1, 1) := by decide +kernel
theorem dX0_spread_126 : decode cX0_spread 126 = .ok (.isub, 1) := by decide +kernel
theorem dX0_spread_127 : decode cX0_spread 127 = .ok (.laload, 1) := by decide +kernel
theorem dX0_spread_128 : decode cX0_spread 128 = .ok (.invokestatic 234, 3) := by decide +kernel
theorem dX0_spread_131 : decode cX0_spread 131 = .ok (.iinc 4 1, 3) := by decide +kernel
theorem dX0_spread_134 : decode cX0_spread 134 = .ok (.goto (-110), 3) := by decide +kernel
theorem dX0_spread_137 : decode cX0_spread 137 = .ok (.iinc 3 1, 3) := by decide +kernel
theorem dX0_spread_140 : decode cX0_spread 140 = .ok (.goto (-138), 3) := by decide +kernel
theorem dX0_spread_143 : decode cX0_spread 143 = .ok (.return_, 1) := by decide +kernel
theorem dX0_total_0 : decode cX0_total 0 = .ok (.aload_n 0, 1) := by decide +kernel
theorem dX0_total_1 : decode cX0_total 1 = .ok (.getfield 163, 3) := by decide +kernel
theorem dX0_total_4 : decode cX0_total 4 = .ok (.ifCond .ne 5, 3) := by decide +kernel
theorem dX0_total_7 : decode cX0_total 7 = .ok (.lconst 0, 1) := by decide +kernel
theorem dX0_total_8 : decode cX0_total 8 = .ok (.lreturn, 1) := by decide +kernel
theorem dX0_total_9 : decode cX0_total 9 = .ok (.aload_n 0, 1) := by decide +kernel
theorem dX0_total_10 : decode cX0_total 10 = .ok (.getfield 64, 3) := by decide +kernel
theorem dX0_total_13 : decode cX0_total 13 = .ok (.getfield 119, 3) := by decide +kernel
theorem dX0_total_16 : decode cX0_total 16 = .ok (.ifCond .ne 7, 3) := by decide +kernel
theorem dX0_total_19 : decode cX0_total 19 = .ok (.ldc2_w 88, 3) := by decide +kernel
theorem dX0_total_22 : decode cX0_total 22 = .ok (.lreturn, 1) := by decide +kernel
theorem dX0_total_23 : decode cX0_total 23 = .ok (.aload_n 0, 1) := by decide +kernel
theorem dX0_total_24 : decode cX0_total 24 = .ok (.getfield 64, 3) := by decide +kernel
theorem dX0_total_27 : decode cX0_total 27 = .ok (.getfield 119, 3) := by decide +kernel
theorem dX0_total_30 : decode cX0_total 30 = .ok (.iconst 1, 1) := by decide +kernel
theorem dX0_total_31 : decode cX0_total 31 = .ok (.isub, 1) := by decide +kernel
theorem dX0_total_32 : decode cX0_total 32 = .ok (.bipush 13, 2) := by decide +kernel
theorem dX0_total_34 : decode cX0_total 34 = .ok (.imul, 1) := by decide +kernel
theorem dX0_total_35 : decode cX0_total 35 = .ok (.aload_n 0, 1) := by decide +kernel
theorem dX0_total_36 : decode cX0_total 36 = .ok (.getfield 64, 3) := by decide +kernel
theorem dX0_total_39 : decode cX0_total 39 = .ok (.getfield 142, 3) := by decide +kernel
theorem dX0_total_42 : decode cX0_total 42 = .ok (.iconst 1, 1) := by decide +kernel
theorem dX0_total_43 : decode cX0_total 43 = .ok (.iaload, 1) := by decide +kernel
theorem dX0_total_44 : decode cX0_total 44 = .ok (.iadd, 1) := by decide +kernel
theorem dX0_total_45 : decode cX0_total 45 = .ok (.istore_n 1, 1) := by decide +kernel
theorem dX0_total_46 : decode cX0_total 46 = .ok (.lconst 0, 1) := by decide +kernel
theorem dX0_total_47 : decode cX0_total 47 = .ok (.lstore_n 2, 1) := by decide +kernel
theorem dX0_total_48 : decode cX0_total 48 = .ok (.iconst 0, 1) := by decide +kernel
theorem dX0_total_49 : decode cX0_total 49 = .ok (.istore 4, 2) := by decide +kernel
theorem dX0_total_51 : decode cX0_total 51 = .ok (.iload 4, 2) := by decide +kernel
theorem dX0_total_53 : decode cX0_total 53 = .ok (.aload_n 0, 1) := by decide +kernel
theorem dX0_total_54 : decode cX0_total 54 = .ok (.getfield 163, 3) := by decide +kernel
theorem dX0_total_57 : decode cX0_total 57 = .ok (.if_icmp .ge 52, 3) := by decide +kernel
theorem dX0_total_60 : decode cX0_total 60 = .ok (.lload_n 2, 1) := by decide +kernel
theorem dX0_total_61 : decode cX0_total 61 = .ok (.aload_n 0, 1) := by decide +kernel
theorem dX0_total_62 : decode cX0_total 62 = .ok (.getfield 32, 3) := by decide +kernel
theorem dX0_total_65 : decode cX0_total 65 = .ok (.aload_n 0, 1) := by decide +kernel
theorem dX0_total_66 : decode cX0_total 66 = .ok (.getfield 24, 3) := by decide +kernel
theorem dX0_total_69 : decode cX0_total 69 = .ok (.iload 4, 2) := by decide +kernel
theorem dX0_total_71 : decode cX0_total 71 = .ok (.iaload, 1) := by decide +kernel
theorem dX0_total_72 : decode cX0_total 72 = .ok (.aaload, 1) := by decide +kernel
theorem dX0_total_73 : decode cX0_total 73 = .ok (.iload_n 1, 1) := by decide +kernel
theorem dX0_total_74 : decode cX0_total 74 = .ok (.laload, 1) := by decide +kernel
theorem dX0_total_75 : decode cX0_total 75 = .ok (.ladd, 1) := by decide +kernel
theorem dX0_total_76 : decode cX0_total 76 = .ok (.lstore_n 2, 1) := by decide +kernel
theorem dX0_total_77 : decode cX0_total 77 = .ok (.aload_n 0, 1) := by decide +kernel
theorem dX0_total_78 : decode cX0_total 78 = .ok (.dup, 1) := by decide +kernel
theorem dX0_total_79 : decode cX0_total 79 = .ok (.getfield 78, 3) := by decide +kernel
theorem dX0_total_82 : decode cX0_total 82 = .ok (.aload_n 0, 1) := by decide +kernel
theorem dX0_total_83 : decode cX0_total 83 = .ok (.getfield 32, 3) := by decide +kernel
theorem dX0_total_86 : decode cX0_total 86 = .ok (.aload_n 0, 1) := by decide +kernel
theorem dX0_total_87 : decode cX0_total 87 = .ok (.getfield 24, 3) := by decide +kernel
theorem dX0_total_90 : decode cX0_total 90 = .ok (.iload 4, 2) := by decide +kernel
theorem dX0_total_92 : decode cX0_total 92 = .ok (.iaload, 1) := by decide +kernel
theorem dX0_total_93 : decode cX0_total 93 = .ok (.aaload, 1) := by decide +kernel
theorem dX0_total_94 : decode cX0_total 94 = .ok (.bipush 52, 2) := by decide +kernel
theorem dX0_total_96 : decode cX0_total 96 = .ok (.iload_n 1, 1) := by decide +kernel
theorem dX0_total_97 : decode cX0_total 97 = .ok (.iadd, 1) := by decide +kernel
theorem dX0_total_98 : decode cX0_total 98 = .ok (.laload, 1) := by decide +kernel
theorem dX0_total_99 : decode cX0_total 99 = .ok (.ladd, 1) := by decide +kernel
theorem dX0_total_100 : decode cX0_total 100 = .ok (.putfield 78, 3) := by decide +kernel
theorem dX0_total_103 : decode cX0_total 103 = .ok (.iinc 4 1, 3) := by decide +kernel
theorem dX0_total_106 : decode cX0_total 106 = .ok (.goto (-55), 3) := by decide +kernel
theorem dX0_total_109 : decode cX0_total 109 = .ok (.lload_n 2, 1) := by decide +kernel
theorem dX0_total_110 : decode cX0_total 110 = .ok (.ldc2_w 174, 3) := by decide +kernel
theorem dX0_total_113 : decode cX0_total 113 = .ok (.lcmp, 1) := by decide +kernel
theorem dX0_total_114 : decode cX0_total 114 = .ok (.ifCond .ge 7, 3) := by decide +kernel
theorem dX0_total_117 : decode cX0_total 117 = .ok (.lload_n 2, 1) := by decide +kernel
theorem dX0_total_118 : decode cX0_total 118 = .ok (.goto 6, 3) := by decide +kernel
theorem dX0_total_121 : decode cX0_total 121 = .ok (.ldc2_w 88, 3) := by decide +kernel
theorem dX0_total_124 : decode cX0_total 124 = .ok (.lreturn, 1) := by decide +kernel
theorem dX0_layInto_0 : decode cX0_layInto 0 = .ok (.aload_n 0, 1) := by decide +kernel
theorem dX0_layInto_1 : decode cX0_layInto 1 = .ok (.getfield 64, 3) := by decide +kernel
theorem dX0_layInto_4 : decode cX0_layInto 4 = .ok (.getfield 82, 3) := by decide +kernel
theorem dX0_layInto_7 : decode cX0_layInto 7 = .ok (.iconst (-1), 1) := by decide +kernel
theorem dX0_layInto_8 : decode cX0_layInto 8 = .ok (.if_icmp .ne 4, 3) := by decide +kernel
theorem dX0_layInto_11 : decode cX0_layInto 11 = .ok (.return_, 1) := by decide +kernel
theorem dX0_layInto_12 : decode cX0_layInto 12 = .ok (.aload_n 0, 1) := by decide +kernel
theorem dX0_layInto_13 : decode cX0_layInto 13 = .ok (.iload_n 2, 1) := by decide +kernel
theorem dX0_layInto_14 : decode cX0_layInto 14 = .ok (.invokevirtual 93, 3) := by decide +kernel
theorem dX0_layInto_17 : decode cX0_layInto 17 = .ok (.aload_n 1, 1) := by decide +kernel
theorem dX0_layInto_18 : decode cX0_layInto 18 = .ok (.getfield 238, 3) := by decide +kernel
theorem dX0_layInto_21 : decode cX0_layInto 21 = .ok (.iconst (-1), 1) := by decide +kernel
theorem dX0_layInto_22 : decode cX0_layInto 22 = .ok (.invokestatic 72, 3) := by decide +kernel
theorem dX0_layInto_25 : decode cX0_layInto 25 = .ok (.iconst 1, 1) := by decide +kernel
theorem dX0_layInto_26 : decode cX0_layInto 26 = .ok (.istore 5, 2) := by decide +kernel
theorem dX0_layInto_28 : decode cX0_layInto 28 = .ok (.iload 5, 2) := by decide +kernel
theorem dX0_layInto_30 : decode cX0_layInto 30 = .ok (.aload_n 0, 1) := by decide +kernel
theorem dX0_layInto_31 : decode cX0_layInto 31 = .ok (.getfield 100, 3) := by decide +kernel
theorem dX0_layInto_34 : decode cX0_layInto 34 = .ok (.if_icmp .ge 63, 3) := by decide +kernel
theorem dX0_layInto_37 : decode cX0_layInto 37 = .ok (.aload_n 0, 1) := by decide +kernel
theorem dX0_layInto_38 : decode cX0_layInto 38 = .ok (.getfield 15, 3) := by decide +kernel
theorem dX0_layInto_41 : decode cX0_layInto 41 = .ok (.iload 5, 2) := by decide +kernel
theorem dX0_layInto_43 : decode cX0_layInto 43 = .ok (.iaload, 1) := by decide +kernel
theorem dX0_layInto_44 : decode cX0_layInto 44 = .ok (.istore 6, 2) := by decide +kernel
theorem dX0_layInto_46 : decode cX0_layInto 46 = .ok (.lload_n 3, 1) := by decide +kernel
theorem dX0_layInto_47 : decode cX0_layInto 47 = .ok (.aload_n 0, 1) := by decide +kernel
theorem dX0_layInto_48 : decode cX0_layInto 48 = .ok (.iload 6, 2) := by decide +kernel
theorem dX0_layInto_50 : decode cX0_layInto 50 = .ok (.invokevirtual 227, 3) := by decide +kernel
theorem dX0_layInto_53 : decode cX0_layInto 53 = .ok (.lshr, 1) := by decide +kernel
theorem dX0_layInto_54 : decode cX0_layInto 54 = .ok (.l2i, 1) := by decide +kernel
theorem dX0_layInto_55 : decode cX0_layInto 55 = .ok (.sipush 1023, 3) := by decide +kernel
theorem dX0_layInto_58 : decode cX0_layInto 58 = .ok (.iand, 1) := by decide +kernel
theorem dX0_layInto_59 : decode cX0_layInto 59 = .ok (.istore 7, 2) := by decide +kernel
theorem dX0_layInto_61 : decode cX0_layInto 61 = .ok (.aload_n 1, 1) := by decide +kernel
theorem dX0_layInto_62 : decode cX0_layInto 62 = .ok (.iload 6, 2) := by decide +kernel
theorem dX0_layInto_64 : decode cX0_layInto 64 = .ok (.aload_n 0, 1) := by decide +kernel
theorem dX0_layInto_65 : decode cX0_layInto 65 = .ok (.getfield 11, 3) := by decide +kernel
theorem dX0_layInto_68 : decode cX0_layInto 68 = .ok (.iload 6, 2) := by decide +kernel
theorem dX0_layInto_70 : decode cX0_layInto 70 = .ok (.iaload, 1) := by decide +kernel
theorem dX0_layInto_71 : decode cX0_layInto 71 = .ok (.iload 7, 2) := by decide +kernel
theorem dX0_layInto_73 : decode cX0_layInto 73 = .ok (.bipush 8, 2) := by decide +kernel
theorem dX0_layInto_75 : decode cX0_layInto 75 = .ok (.ishr, 1) := by decide +kernel
theorem dX0_layInto_76 : decode cX0_layInto 76 = .ok (.iload 7, 2) := by decide +kernel
theorem dX0_layInto_78 : decode cX0_layInto 78 = .ok (.iconst 4, 1) := by decide +kernel
theorem dX0_layInto_79 : decode cX0_layInto 79 = .ok (.ishr, 1) := by decide +kernel
theorem dX0_layInto_80 : decode cX0_layInto 80 = .ok (.bipush 15, 2) := by decide +kernel
theorem dX0_layInto_82 : decode cX0_layInto 82 = .ok (.iand, 1) := by decide +kernel
theorem dX0_layInto_83 : decode cX0_layInto 83 = .ok (.iload 7, 2) := by decide +kernel
theorem dX0_layInto_85 : decode cX0_layInto 85 = .ok (.bipush 15, 2) := by decide +kernel
theorem dX0_layInto_87 : decode cX0_layInto 87 = .ok (.iand, 1) := by decide +kernel
theorem dX0_layInto_88 : decode cX0_layInto 88 = .ok (.invokevirtual 241, 3) := by decide +kernel
theorem dX0_layInto_91 : decode cX0_layInto 91 = .ok (.iinc 5 1, 3) := by decide +kernel
theorem dX0_layInto_94 : decode cX0_layInto 94 = .ok (.goto (-66), 3) := by decide +kernel
theorem dX0_layInto_97 : decode cX0_layInto 97 = .ok (.return_, 1) := by decide +kernel
theorem dX1_init_0 : decode cX1_init 0 = .ok (.aload_n 0, 1) := by decide +kernel
theorem dX1_init_1 : decode cX1_init 1 = .ok (.invokespecial 3, 3) := by decide +kernel
theorem dX1_init_4 : decode cX1_init 4 = .ok (.aload_n 0, 1) := by decide +kernel
theorem dX1_init_5 : decode cX1_init 5 = .ok (.bipush 7, 2) := by decide +kernel
theorem dX1_init_7 : decode cX1_init 7 = .ok (.bipush 120, 2) := by decide +kernel
theorem dX1_init_9 : decode cX1_init 9 = .ok (.multianewarray 9 2, 4) := by decide +kernel
theorem dX1_init_13 : decode cX1_init 13 = .ok (.putfield 11, 3) := by decide +kernel
theorem dX1_init_16 : decode cX1_init 16 = .ok (.aload_n 0, 1) := by decide +kernel
theorem dX1_init_17 : decode cX1_init 17 = .ok (.bipush 7, 2) := by decide +kernel
theorem dX1_init_19 : decode cX1_init 19 = .ok (.bipush 120, 2) := by decide +kernel
theorem dX1_init_21 : decode cX1_init 21 = .ok (.multianewarray 9 2, 4) := by decide +kernel
theorem dX1_init_25 : decode cX1_init 25 = .ok (.putfield 16, 3) := by decide +kernel
theorem dX1_init_28 : decode cX1_init 28 = .ok (.aload_n 0, 1) := by decide +kernel
theorem dX1_init_29 : decode cX1_init 29 = .ok (.bipush 7, 2) := by decide +kernel
theorem dX1_init_31 : decode cX1_init 31 = .ok (.newarray .long, 2) := by decide +kernel
theorem dX1_init_33 : decode cX1_init 33 = .ok (.putfield 19, 3) := by decide +kernel
theorem dX1_init_36 : decode cX1_init 36 = .ok (.aload_n 0, 1) := by decide +kernel
theorem dX1_init_37 : decode cX1_init 37 = .ok (.bipush 7, 2) := by decide +kernel
theorem dX1_init_39 : decode cX1_init 39 = .ok (.newarray .int, 2) := by decide +kernel
theorem dX1_init_41 : decode cX1_init 41 = .ok (.putfield 23, 3) := by decide +kernel
theorem dX1_init_44 : decode cX1_init 44 = .ok (.aload_n 0, 1) := by decide +kernel
theorem dX1_init_45 : decode cX1_init 45 = .ok (.bipush 7, 2) := by decide +kernel
theorem dX1_init_47 : decode cX1_init 47 = .ok (.newarray .int, 2) := by decide +kernel
theorem dX1_init_49 : decode cX1_init 49 = .ok (.putfield 27, 3) := by decide +kernel
theorem dX1_init_52 : decode cX1_init 52 = .ok (.aload_n 0, 1) := by decide +kernel
theorem dX1_init_53 : decode cX1_init 53 = .ok (.bipush 7, 2) := by decide +kernel
theorem dX1_init_55 : decode cX1_init 55 = .ok (.newarray .int, 2) := by decide +kernel
theorem dX1_init_57 : decode cX1_init 57 = .ok (.putfield 30, 3) := by decide +kernel
theorem dX1_init_60 : decode cX1_init 60 = .ok (.aload_n 0, 1) := by decide +kernel
theorem dX1_init_61 : decode cX1_init 61 = .ok (.aload_n 1, 1) := by decide +kernel
theorem dX1_init_62 : decode cX1_init 62 = .ok (.putfield 33, 3) := by decide +kernel
theorem dX1_init_65 : decode cX1_init 65 = .ok (.aload_n 0, 1) := by decide +kernel
theorem dX1_init_66 : decode cX1_init 66 = .ok (.aload_n 2, 1) := by decide +kernel
theorem dX1_init_67 : decode cX1_init 67 = .ok (.putfield 36, 3) := by decide +kernel
theorem dX1_init_70 : decode cX1_init 70 = .ok (.aload_n 0, 1) := by decide +kernel
theorem dX1_init_71 : decode cX1_init 71 = .ok (.getfield 19, 3) := by decide +kernel
theorem dX1_init_74 : decode cX1_init 74 = .ok (.ldc2_w 42, 3) := by decide +kernel
theorem dX1_init_77 : decode cX1_init 77 = .ok (.invokestatic 44, 3) := by decide +kernel
theorem dX1_init_80 : decode cX1_init 80 = .ok (.return_, 1) := by decide +kernel
theorem dX1_run_0 : decode cX1_run 0 = .ok (.aload_n 0, 1) := by decide +kernel
theorem dX1_run_1 : decode cX1_run 1 = .ok (.aload_n 1, 1) := by decide +kernel
theorem dX1_run_2 : decode cX1_run 2 = .ok (.putfield 36, 3) := by decide +kernel
theorem dX1_run_5 : decode cX1_run 5 = .ok (.iconst 0, 1) := by decide +kernel
theorem dX1_run_6 : decode cX1_run 6 = .ok (.istore_n 2, 1) := by decide +kernel
theorem dX1_run_7 : decode cX1_run 7 = .ok (.iload_n 2, 1) := by decide +kernel
theorem dX1_run_8 : decode cX1_run 8 = .ok (.aload_n 0, 1) := by decide +kernel
theorem dX1_run_9 : decode cX1_run 9 = .ok (.getfield 36, 3) := by decide +kernel
theorem dX1_run_12 : decode cX1_run 12 = .ok (.getfield 50, 3) := by decide +kernel
theorem dX1_run_15 : decode cX1_run 15 = .ok (.if_icmp .ge 14, 3) := by decide +kernel
theorem dX1_run_18 : decode cX1_run 18 = .ok (.aload_n 0, 1) := by decide +kernel
theorem dX1_run_19 : decode cX1_run 19 = .ok (.iload_n 2, 1) := by decide +kernel
theorem dX1_run_20 : decode cX1_run 20 = .ok (.invokevirtual 56, 3) := by decide +kernel
theorem dX1_run_23 : decode cX1_run 23 = .ok (.iinc 2 1, 3) := by decide +kernel
theorem dX1_run_26 : decode cX1_run 26 = .ok (.goto (-19), 3) := by decide +kernel
theorem dX1_run_29 : decode cX1_run 29 = .ok (.aload_n 0, 1) := by decide +kernel
theorem dX1_run_30 : decode cX1_run 30 = .ok (.invokevirtual 60, 3) := by decide +kernel
theorem dX1_run_33 : decode cX1_run 33 = .ok (.iconst 0, 1) := by decide +kernel
theorem dX1_run_34 : decode cX1_run 34 = .ok (.istore_n 2, 1) := by decide +kernel
theorem dX1_run_35 : decode cX1_run 35 = .ok (.iload_n 2, 1) := by decide +kernel
theorem dX1_run_36 : decode cX1_run 36 = .ok (.aload_n 0, 1) := by decide +kernel
theorem dX1_run_37 : decode cX1_run 37 = .ok (.getfield 63, 3) := by decide +kernel
theorem dX1_run_40 : decode cX1_run 40 = .ok (.if_icmp .ge 34, 3) := by decide +kernel
theorem dX1_run_43 : decode cX1_run 43 = .ok (.aload_n 0, 1) := by decide +kernel
theorem dX1_run_44 : decode cX1_run 44 = .ok (.getfield 33, 3) := by decide +kernel
theorem dX1_run_47 : decode cX1_run 47 = .ok (.aload_n 0, 1) := by decide +kernel
theorem dX1_run_48 : decode cX1_run 48 = .ok (.getfield 27, 3) := by decide +kernel
theorem dX1_run_51 : decode cX1_run 51 = .ok (.iload_n 2, 1) := by decide +kernel
theorem dX1_run_52 : decode cX1_run 52 = .ok (.iaload, 1) := by decide +kernel
theorem dX1_run_53 : decode cX1_run 53 = .ok (.iaload, 1) := by decide +kernel
theorem dX1_run_54 : decode cX1_run 54 = .ok (.iconst (-1), 1) := by decide +kernel
theorem dX1_run_55 : decode cX1_run 55 = .ok (.if_icmp .eq 13, 3) := by decide +kernel
theorem dX1_run_58 : decode cX1_run 58 = .ok (.aload_n 0, 1) := by decide +kernel
theorem dX1_run_59 : decode cX1_run 59 = .ok (.aload_n 0, 1) := by decide +kernel
theorem dX1_run_60 : decode cX1_run 60 = .ok (.getfield 27, 3) := by decide +kernel
theorem dX1_run_63 : decode cX1_run 63 = .ok (.iload_n 2, 1) := by decide +kernel
theorem dX1_run_64 : decode cX1_run 64 = .ok (.iaload, 1) := by decide +kernel
theorem dX1_run_65 : decode cX1_run 65 = .ok (.invokevirtual 66, 3) := by decide +kernel
theorem dX1_run_68 : decode cX1_run 68 = .ok (.iinc 2 1, 3) := by decide +kernel
theorem dX1_run_71 : decode cX1_run 71 = .ok (.goto (-36), 3) := by decide +kernel
theorem dX1_run_74 : decode cX1_run 74 = .ok (.iconst 0, 1) := by decide +kernel
theorem dX1_run_75 : decode cX1_run 75 = .ok (.istore_n 2, 1) := by decide +kernel
theorem dX1_run_76 : decode cX1_run 76 = .ok (.iload_n 2, 1) := by decide +kernel
theorem dX1_run_77 : decode cX1_run 77 = .ok (.aload_n 0, 1) := by decide +kernel
theorem dX1_run_78 : decode cX1_run 78 = .ok (.getfield 36, 3) := by decide +kernel
theorem dX1_run_81 : decode cX1_run 81 = .ok (.getfield 50, 3) := by decide +kernel
theorem dX1_run_84 : decode cX1_run 84 = .ok (.if_icmp .ge 43, 3) := by decide +kernel
theorem dX1_run_87 : decode cX1_run 87 = .ok (.aload_n 0, 1) := by decide +kernel
theorem dX1_run_88 : decode cX1_run 88 = .ok (.getfield 30, 3) := by decide +kernel
theorem dX1_run_91 : decode cX1_run 91 = .ok (.iload_n 2, 1) := by decide +kernel
theorem dX1_run_92 : decode cX1_run 92 = .ok (.iaload, 1) := by decide +kernel
theorem dX1_run_93 : decode cX1_run 93 = .ok (.ifCond .le 23, 3) := by decide +kernel
theorem dX1_run_96 : decode cX1_run 96 = .ok (.aload_n 0, 1) := by decide +kernel
theorem dX1_run_97 : decode cX1_run 97 = .ok (.getfield 11, 3) := by decide +kernel
theorem dX1_run_100 : decode cX1_run 100 = .ok (.iload_n 2, 1) := by decide +kernel
theorem dX1_run_101 : decode cX1_run 101 = .ok (.aaload, 1) := by decide +kernel
theorem dX1_run_102 : decode cX1_run 102 = .ok (.lconst 0, 1) := by decide +kernel
theorem dX1_run_103 : decode cX1_run 103 = .ok (.invokestatic 44, 3) := by decide +kernel
theorem dX1_run_106 : decode cX1_run 106 = .ok (.aload_n 0, 1) := by decide +kernel
theorem dX1_run_107 : decode cX1_run 107 = .ok (.getfield 16, 3) := by decide +kernel
theorem dX1_run_110 : decode cX1_run 110 = .ok (.iload_n 2, 1) := by decide +kernel
theorem dX1_run_111 : decode cX1_run 111 = .ok (.aaload, 1) := by decide +kernel
theorem dX1_run_112 : decode cX1_run 112 = .ok (.lconst 0, 1) := by decide +kernel
theorem dX1_run_113 : decode cX1_run 113 = .ok (.invokestatic 44, 3) := by decide +kernel
theorem dX1_run_116 : decode cX1_run 116 = .ok (.aload_n 0, 1) := by decide +kernel
theorem dX1_run_117 : decode cX1_run 117 = .ok (.iload_n 2, 1) := by decide +kernel
theorem dX1_run_118 : decode cX1_run 118 = .ok (.invokevirtual 69, 3) := by decide +kernel
theorem dX1_run_121 : decode cX1_run 121 = .ok (.iinc 2 1, 3) := by decide +kernel
theorem dX1_run_124 : decode cX1_run 124 = .ok (.goto (-48), 3) := by decide +kernel
theorem dX1_run_127 : decode cX1_run 127 = .ok (.return_, 1) := by decide +kernel
theorem dX1_greatest_0 : decode cX1_greatest 0 = .ok (.aload_n 0, 1) := by decide +kernel
theorem dX1_greatest_1 : decode cX1_greatest 1 = .ok (.getfield 36, 3) := by decide +kernel
theorem dX1_greatest_4 : decode cX1_greatest 4 = .ok (.getfield 72, 3) := by decide +kernel
theorem dX1_greatest_7 : decode cX1_greatest 7 = .ok (.ifCond .ne 7, 3) := by decide +kernel
theorem dX1_greatest_10 : decode cX1_greatest 10 = .ok (.lconst 0, 1) := by decide +kernel
theorem dX1_greatest_11 : decode cX1_greatest 11 = .ok (.goto 16, 3) := by decide +kernel
theorem dX1_greatest_14 : decode cX1_greatest 14 = .ok (.aload_n 0, 1) := by decide +kernel
theorem dX1_greatest_15 : decode cX1_greatest 15 = .ok (.getfield 11, 3) := by decide +kernel
theorem dX1_greatest_18 : decode cX1_greatest 18 = .ok (.iload_n 1, 1) := by decide +kernel
theorem dX1_greatest_19 : decode cX1_greatest 19 = .ok (.aaload, 1) := by decide +kernel
theorem dX1_greatest_20 : decode cX1_greatest 20 = .ok (.aload_n 0, 1) := by decide +kernel
theorem dX1_greatest_21 : decode cX1_greatest 21 = .ok (.getfield 23, 3) := by decide +kernel
theorem dX1_greatest_24 : decode cX1_greatest 24 = .ok (.iload_n 1, 1) := by decide +kernel
theorem dX1_greatest_25 : decode cX1_greatest 25 = .ok (.iaload, 1) := by decide +kernel
theorem dX1_greatest_26 : decode cX1_greatest 26 = .ok (.laload, 1) := by decide +kernel
theorem dX1_greatest_27 : decode cX1_greatest 27 = .ok (.lreturn, 1) := by decide +kernel
theorem dX1_rainOn_0 : decode cX1_rainOn 0 = .ok (.aload_n 0, 1) := by decide +kernel
theorem dX1_rainOn_1 : decode cX1_rainOn 1 = .ok (.getfield 11, 3) := by decide +kernel
theorem dX1_rainOn_4 : decode cX1_rainOn 4 = .ok (.iload_n 1, 1) := by decide +kernel
theorem dX1_rainOn_5 : decode cX1_rainOn 5 = .ok (.aaload, 1) := by decide +kernel
theorem dX1_rainOn_6 : decode cX1_rainOn 6 = .ok (.lconst 0, 1) := by decide +kernel
theorem dX1_rainOn_7 : decode cX1_rainOn 7 = .ok (.invokestatic 44, 3) := by decide +kernel
theorem dX1_rainOn_10 : decode cX1_rainOn 10 = .ok (.aload_n 0, 1) := by decide +kernel
theorem dX1_rainOn_11 : decode cX1_rainOn 11 = .ok (.getfield 36, 3) := by decide +kernel
theorem dX1_rainOn_14 : decode cX1_rainOn 14 = .ok (.getfield 75, 3) := by decide +kernel
theorem dX1_rainOn_17 : decode cX1_rainOn 17 = .ok (.iload_n 1, 1) := by decide +kernel
theorem dX1_rainOn_18 : decode cX1_rainOn 18 = .ok (.aaload, 1) := by decide +kernel
theorem dX1_rainOn_19 : decode cX1_rainOn 19 = .ok (.iconst 1, 1) := by decide +kernel
theorem dX1_rainOn_20 : decode cX1_rainOn 20 = .ok (.iaload, 1) := by decide +kernel
theorem dX1_rainOn_21 : decode cX1_rainOn 21 = .ok (.istore_n 2, 1) := by decide +kernel
theorem dX1_rainOn_22 : decode cX1_rainOn 22 = .ok (.iconst 0, 1) := by decide +kernel
theorem dX1_rainOn_23 : decode cX1_rainOn 23 = .ok (.istore_n 3, 1) := by decide +kernel
theorem dX1_rainOn_24 : decode cX1_rainOn 24 = .ok (.iload_n 3, 1) := by decide +kernel
theorem dX1_rainOn_25 : decode cX1_rainOn 25 = .ok (.aload_n 0, 1) := by decide +kernel
theorem dX1_rainOn_26 : decode cX1_rainOn 26 = .ok (.getfield 36, 3) := by decide +kernel
theorem dX1_rainOn_29 : decode cX1_rainOn 29 = .ok (.getfield 72, 3) := by decide +kernel
theorem dX1_rainOn_32 : decode cX1_rainOn 32 = .ok (.if_icmp .ge 55, 3) := by decide +kernel
theorem dX1_rainOn_35 : decode cX1_rainOn 35 = .ok (.iconst 0, 1) := by decide +kernel
theorem dX1_rainOn_36 : decode cX1_rainOn 36 = .ok (.istore 4, 2) := by decide +kernel
theorem dX1_rainOn_38 : decode cX1_rainOn 38 = .ok (.iload 4, 2) := by decide +kernel
theorem dX1_rainOn_40 : decode cX1_rainOn 40 = .ok (.bipush 6, 2) := by decide +kernel
theorem dX1_rainOn_42 : decode cX1_rainOn 42 = .ok (.if_icmp .ge 39, 3) := by decide +kernel
theorem dX1_rainOn_45 : decode cX1_rainOn 45 = .ok (.aload_n 0, 1) := by decide +kernel
theorem dX1_rainOn_46 : decode cX1_rainOn 46 = .ok (.getfield 11, 3) := by decide +kernel
theorem dX1_rainOn_49 : decode cX1_rainOn 49 = .ok (.iload_n 1, 1) := by decide +kernel
theorem dX1_rainOn_50 : decode cX1_rainOn 50 = .ok (.aaload, 1) := by decide +kernel
theorem dX1_rainOn_51 : decode cX1_rainOn 51 = .ok (.iload_n 3, 1) := by decide +kernel
theorem dX1_rainOn_52 : decode cX1_rainOn 52 = .ok (.bipush 30, 2) := by decide +kernel
theorem dX1_rainOn_54 : decode cX1_rainOn 54 = .ok (.imul, 1) := by decide +kernel
theorem dX1_rainOn_55 : decode cX1_rainOn 55 = .ok (.iload 4, 2) := by decide +kernel
theorem dX1_rainOn_57 : decode cX1_rainOn 57 = .ok (.iadd, 1) := by decide +kernel
theorem dX1_rainOn_58 : decode cX1_rainOn 58 = .ok (.iload_n 2, 1) := by decide +kernel
theorem dX1_rainOn_59 : decode cX1_rainOn 59 = .ok (.i2l, 1) := by decide +kernel
theorem dX1_rainOn_60 : decode cX1_rainOn 60 = .ok (.aload_n 0, 1) := by decide +kernel
theorem dX1_rainOn_61 : decode cX1_rainOn 61 = .ok (.getfield 36, 3) := by decide +kernel
theorem dX1_rainOn_64 : decode cX1_rainOn 64 = .ok (.getfield 79, 3) := by decide +kernel
theorem dX1_rainOn_67 : decode cX1_rainOn 67 = .ok (.iload_n 3, 1) := by decide +kernel
theorem dX1_rainOn_68 : decode cX1_rainOn 68 = .ok (.aaload, 1) := by decide +kernel
theorem dX1_rainOn_69 : decode cX1_rainOn 69 = .ok (.iload 4, 2) := by decide +kernel
theorem dX1_rainOn_71 : decode cX1_rainOn 71 = .ok (.iaload, 1) := by decide +kernel
theorem dX1_rainOn_72 : decode cX1_rainOn 72 = .ok (.i2l, 1) := by decide +kernel
theorem dX1_rainOn_73 : decode cX1_rainOn 73 = .ok (.lmul, 1) := by decide +kernel
theorem dX1_rainOn_74 : decode cX1_rainOn 74 = .ok (.lastore, 1) := by decide +kernel
theorem dX1_rainOn_75 : decode cX1_rainOn 75 = .ok (.iinc 4 1, 3) := by decide +kernel
theorem dX1_rainOn_78 : decode cX1_rainOn 78 = .ok (.goto (-40), 3) := by decide +kernel
theorem dX1_rainOn_81 : decode cX1_rainOn 81 = .ok (.iinc 3 1, 3) := by decide +kernel
theorem dX1_rainOn_84 : decode cX1_rainOn 84 = .ok (.goto (-60), 3) := by decide +kernel
theorem dX1_rainOn_87 : decode cX1_rainOn 87 = .ok (.return_, 1) := by decide +kernel
theorem dX1_sortDownwards_0 : decode cX1_sortDownwards 0 = .ok (.aload_n 0, 1) := by decide +kernel
theorem dX1_sortDownwards_1 : decode cX1_sortDownwards 1 = .ok (.getfield 30, 3) := by decide +kernel
theorem dX1_sortDownwards_4 : decode cX1_sortDownwards 4 = .ok (.iconst 0, 1) := by decide +kernel
theorem dX1_sortDownwards_5 : decode cX1_sortDownwards 5 = .ok (.invokestatic 82, 3) := by decide +kernel
theorem dX1_sortDownwards_8 : decode cX1_sortDownwards 8 = .ok (.iconst 0, 1) := by decide +kernel
theorem dX1_sortDownwards_9 : decode cX1_sortDownwards 9 = .ok (.istore_n 1, 1) := by decide +kernel
theorem dX1_sortDownwards_10 : decode cX1_sortDownwards 10 = .ok (.iload_n 1, 1) := by decide +kernel
theorem dX1_sortDownwards_11 : decode cX1_sortDownwards 11 = .ok (.aload_n 0, 1) := by decide +kernel
theorem dX1_sortDownwards_12 : decode cX1_sortDownwards 12 = .ok (.getfield 36, 3) := by decide +kernel
theorem dX1_sortDownwards_15 : decode cX1_sortDownwards 15 = .ok (.getfield 50, 3) := by decide +kernel
theorem dX1_sortDownwards_18 : decode cX1_sortDownwards 18 = .ok (.if_icmp .ge 42, 3) := by decide +kernel
theorem dX1_sortDownwards_21 : decode cX1_sortDownwards 21 = .ok (.aload_n 0, 1) := by decide +kernel
theorem dX1_sortDownwards_22 : decode cX1_sortDownwards 22 = .ok (.getfield 33, 3) := by decide +kernel
theorem dX1_sortDownwards_25 : decode cX1_sortDownwards 25 = .ok (.iload_n 1, 1) := by decide +kernel
theorem dX1_sortDownwards_26 : decode cX1_sortDownwards 26 = .ok (.iaload, 1) := by decide +kernel
theorem dX1_sortDownwards_27 : decode cX1_sortDownwards 27 = .ok (.iconst (-1), 1) := by decide +kernel
theorem dX1_sortDownwards_28 : decode cX1_sortDownwards 28 = .ok (.if_icmp .eq 26, 3) := by decide +kernel
theorem dX1_sortDownwards_31 : decode cX1_sortDownwards 31 = .ok (.aload_n 0, 1) := by decide +kernel
theorem dX1_sortDownwards_32 : decode cX1_sortDownwards 32 = .ok (.getfield 30, 3) := by decide +kernel
theorem dX1_sortDownwards_35 : decode cX1_sortDownwards 35 = .ok (.aload_n 0, 1) := by decide +kernel
theorem dX1_sortDownwards_36 : decode cX1_sortDownwards 36 = .ok (.getfield 36, 3) := by decide +kernel
theorem dX1_sortDownwards_39 : decode cX1_sortDownwards 39 = .ok (.aload_n 0, 1) := by decide +kernel
theorem dX1_sortDownwards_40 : decode cX1_sortDownwards 40 = .ok (.getfield 33, 3) := by decide +kernel
theorem dX1_sortDownwards_43 : decode cX1_sortDownwards 43 = .ok (.iload_n 1, 1) := by decide +kernel
theorem dX1_sortDownwards_44 : decode cX1_sortDownwards 44 = .ok (.iaload, 1) := by decide +kernel
theorem dX1_sortDownwards_45 : decode cX1_sortDownwards 45 = .ok (.iload_n 1, 1) := by decide +kernel
theorem dX1_sortDownwards_46 : decode cX1_sortDownwards 46 = .ok (.invokevirtual 85, 3) := by decide +kernel
theorem dX1_sortDownwards_49 : decode cX1_sortDownwards 49 = .ok (.dup2, 1) := by decide +kernel
theorem dX1_sortDownwards_50 : decode cX1_sortDownwards 50 = .ok (.iaload, 1) := by decide +kernel
theorem dX1_sortDownwards_51 : decode cX1_sortDownwards 51 = .ok (.iconst 1, 1) := by decide +kernel
theorem dX1_sortDownwards_52 : decode cX1_sortDownwards 52 = .ok (.iadd, 1) := by decide +kernel
theorem dX1_sortDownwards_53 : decode cX1_sortDownwards 53 = .ok (.iastore, 1) := by decide +kernel
theorem dX1_sortDownwards_54 : decode cX1_sortDownwards 54 = .ok (.iinc 1 1, 3) := by decide +kernel
theorem dX1_sortDownwards_57 : decode cX1_sortDownwards 57 = .ok (.goto (-47), 3) := by decide +kernel
theorem dX1_sortDownwards_60 : decode cX1_sortDownwards 60 = .ok (.aload_n 0, 1) := by decide +kernel
theorem dX1_sortDownwards_61 : decode cX1_sortDownwards 61 = .ok (.iconst 0, 1) := by decide +kernel
theorem dX1_sortDownwards_62 : decode cX1_sortDownwards 62 = .ok (.putfield 63, 3) := by decide +kernel
theorem dX1_sortDownwards_65 : decode cX1_sortDownwards 65 = .ok (.iconst 0, 1) := by decide +kernel
theorem dX1_sortDownwards_66 : decode cX1_sortDownwards 66 = .ok (.istore_n 1, 1) := by decide +kernel
theorem dX1_sortDownwards_67 : decode cX1_sortDownwards 67 = .ok (.iload_n 1, 1) := by decide +kernel
theorem dX1_sortDownwards_68 : decode cX1_sortDownwards 68 = .ok (.aload_n 0, 1) := by decide +kernel
theorem dX1_sortDownwards_69 : decode cX1_sortDownwards 69 = .ok (.getfield 36, 3) := by decide +kernel
theorem dX1_sortDownwards_72 : decode cX1_sortDownwards 72 = .ok (.getfield 50, 3) := by decide +kernel
theorem dX1_sortDownwards_75 : decode cX1_sortDownwards 75 = .ok (.if_icmp .ge 38, 3) := by decide +kernel
theorem dX1_sortDownwards_78 : decode cX1_sortDownwards 78 = .ok (.aload_n 0, 1) := by decide +kernel
theorem dX1_sortDownwards_79 : decode cX1_sortDownwards 79 = .ok (.getfield 30, 3) := by decide +kernel
theorem dX1_sortDownwards_82 : decode cX1_sortDownwards 82 = .ok (.iload_n 1, 1) := by decide +kernel
theorem dX1_sortDownwards_83 : decode cX1_sortDownwards 83 = .ok (.iaload, 1) := by decide +kernel
theorem dX1_sortDownwards_84 : decode cX1_sortDownwards 84 = .ok (.ifCond .ne 23, 3) := by decide +kernel
theorem dX1_sortDownwards_87 : decode cX1_sortDownwards 87 = .ok (.aload_n 0, 1) := by decide +kernel
theorem dX1_sortDownwards_88 : decode cX1_sortDownwards 88 = .ok (.getfield 27, 3) := by decide +kernel
theorem dX1_sortDownwards_91 : decode cX1_sortDownwards 91 = .ok (.aload_n 0, 1) := by decide +kernel
theorem dX1_sortDownwards_92 : decode cX1_sortDownwards 92 = .ok (.getfield 63, 3) := by decide +kernel
theorem dX1_sortDownwards_95 : decode cX1_sortDownwards 95 = .ok (.iload_n 1, 1) := by decide +kernel
theorem dX1_sortDownwards_96 : decode cX1_sortDownwards 96 = .ok (.iastore, 1) := by decide +kernel
theorem dX1_sortDownwards_97 : decode cX1_sortDownwards 97 = .ok (.aload_n 0, 1) := by decide +kernel
theorem dX1_sortDownwards_98 : decode cX1_sortDownwards 98 = .ok (.dup, 1) := by decide +kernel
theorem dX1_sortDownwards_99 : decode cX1_sortDownwards 99 = .ok (.getfield 63, 3) := by decide +kernel
theorem dX1_sortDownwards_102 : decode cX1_sortDownwards 102 = .ok (.iconst 1, 1) := by decide +kernel
theorem dX1_sortDownwards_103 : decode cX1_sortDownwards 103 = .ok (.iadd, 1) := by decide +kernel
theorem dX1_sortDownwards_104 : decode cX1_sortDownwards 104 = .ok (.putfield 63, 3) := by decide +kernel
theorem dX1_sortDownwards_107 : decode cX1_sortDownwards 107 = .ok (.iinc 1 1, 3) := by decide +kernel
theorem dX1_sortDownwards_110 : decode cX1_sortDownwards 110 = .ok (.goto (-43), 3) := by decide +kernel
theorem dX1_sortDownwards_113 : decode cX1_sortDownwards 113 = .ok (.iconst 0, 1) := by decide +kernel
theorem dX1_sortDownwards_114 : decode cX1_sortDownwards 114 = .ok (.istore_n 1, 1) := by decide +kernel
theorem dX1_sortDownwards_115 : decode cX1_sortDownwards 115 = .ok (.iload_n 1, 1) := by decide +kernel
theorem dX1_sortDownwards_116 : decode cX1_sortDownwards 116 = .ok (.aload_n 0, 1) := by decide +kernel
theorem dX1_sortDownwards_117 : decode cX1_sortDownwards 117 = .ok (.getfield 63, 3) := by decide +kernel
theorem dX1_sortDownwards_120 : decode cX1_sortDownwards 120 = .ok (.if_icmp .ge 98, 3) := by decide +kernel
theorem dX1_sortDownwards_123 : decode cX1_sortDownwards 123 = .ok (.aload_n 0, 1) := by decide +kernel
theorem dX1_sortDownwards_124 : decode cX1_sortDownwards 124 = .ok (.getfield 33, 3) := by decide +kernel
theorem dX1_sortDownwards_127 : decode cX1_sortDownwards 127 = .ok (.aload_n 0, 1) := by decide +kernel
theorem dX1_sortDownwards_128 : decode cX1_sortDownwards 128 = .ok (.getfield 27, 3) := by decide +kernel
theorem dX1_sortDownwards_131 : decode cX1_sortDownwards 131 = .ok (.iload_n 1, 1) := by decide +kernel
theorem dX1_sortDownwards_132 : decode cX1_sortDownwards 132 = .ok (.iaload, 1) := by decide +kernel
theorem dX1_sortDownwards_133 : decode cX1_sortDownwards 133 = .ok (.iaload, 1) := by decide +kernel
theorem dX1_sortDownwards_134 : decode cX1_sortDownwards 134 = .ok (.istore_n 2, 1) := by decide +kernel
theorem dX1_sortDownwards_135 : decode cX1_sortDownwards 135 = .ok (.iload_n 2, 1) := by decide +kernel
theorem dX1_sortDownwards_136 : decode cX1_sortDownwards 136 = .ok (.iconst (-1), 1) := by decide +kernel
theorem dX1_sortDownwards_137 : decode cX1_sortDownwards 137 = .ok (.if_icmp .ne 7, 3) := by decide +kernel
theorem dX1_sortDownwards_140 : decode cX1_sortDownwards 140 = .ok (.iconst (-1), 1) := by decide +kernel
theorem dX1_sortDownwards_141 : decode cX1_sortDownwards 141 = .ok (.goto 17, 3) := by decide +kernel
theorem dX1_sortDownwards_144 : decode cX1_sortDownwards 144 = .ok (.aload_n 0, 1) := by decide +kernel
theorem dX1_sortDownwards_145 : decode cX1_sortDownwards 145 = .ok (.getfield 36, 3) := by decide +kernel
theorem dX1_sortDownwards_148 : decode cX1_sortDownwards 148 = .ok (.iload_n 2, 1) := by decide +kernel
theorem dX1_sortDownwards_149 : decode cX1_sortDownwards 149 = .ok (.aload_n 0, 1) := by decide +kernel
theorem dX1_sortDownwards_150 : decode cX1_sortDownwards 150 = .ok (.getfield 27, 3) := by decide +kernel
theorem dX1_sortDownwards_153 : decode cX1_sortDownwards 153 = .ok (.iload_n 1, 1) := by decide +kernel
theorem dX1_sortDownwards_154 : decode cX1_sortDownwards 154 = .ok (.iaload, 1) := by decide +kernel
theorem dX1_sortDownwards_155 : decode cX1_sortDownwards 155 = .ok (.invokevirtual 85, 3) := by decide +kernel
theorem dX1_sortDownwards_158 : decode cX1_sortDownwards 158 = .ok (.istore_n 3, 1) := by decide +kernel
theorem dX1_sortDownwards_159 : decode cX1_sortDownwards 159 = .ok (.iload_n 3, 1) := by decide +kernel
theorem dX1_sortDownwards_160 : decode cX1_sortDownwards 160 = .ok (.iconst (-1), 1) := by decide +kernel
theorem dX1_sortDownwards_161 : decode cX1_sortDownwards 161 = .ok (.if_icmp .eq 51, 3) := by decide +kernel
theorem dX1_sortDownwards_164 : decode cX1_sortDownwards 164 = .ok (.aload_n 0, 1) := by decide +kernel
theorem dX1_sortDownwards_165 : decode cX1_sortDownwards 165 = .ok (.getfield 30, 3) := by decide +kernel
theorem dX1_sortDownwards_168 : decode cX1_sortDownwards 168 = .ok (.iload_n 3, 1) := by decide +kernel
theorem dX1_sortDownwards_169 : decode cX1_sortDownwards 169 = .ok (.dup2, 1) := by decide +kernel
theorem dX1_sortDownwards_170 : decode cX1_sortDownwards 170 = .ok (.iaload, 1) := by decide +kernel
theorem dX1_sortDownwards_171 : decode cX1_sortDownwards 171 = .ok (.iconst 1, 1) := by decide +kernel
theorem dX1_sortDownwards_172 : decode cX1_sortDownwards 172 = .ok (.isub, 1) := by decide +kernel
theorem dX1_sortDownwards_173 : decode cX1_sortDownwards 173 = .ok (.iastore, 1) := by decide +kernel
theorem dX1_sortDownwards_174 : decode cX1_sortDownwards 174 = .ok (.aload_n 0, 1) := by decide +kernel
theorem dX1_sortDownwards_175 : decode cX1_sortDownwards 175 = .ok (.getfield 30, 3) := by decide +kernel
theorem dX1_sortDownwards_178 : decode cX1_sortDownwards 178 = .ok (.iload_n 3, 1) := by decide +kernel
theorem dX1_sortDownwards_179 : decode cX1_sortDownwards 179 = .ok (.iaload, 1) := by decide +kernel
theorem dX1_sortDownwards_180 : decode cX1_sortDownwards 180 = .ok (.ifCond .ne 32, 3) := by decide +kernel
theorem dX1_sortDownwards_183 : decode cX1_sortDownwards 183 = .ok (.aload_n 0, 1) := by decide +kernel
theorem dX1_sortDownwards_184 : decode cX1_sortDownwards 184 = .ok (.getfield 63, 3) := by decide +kernel
theorem dX1_sortDownwards_187 : decode cX1_sortDownwards 187 = .ok (.bipush 7, 2) := by decide +kernel
theorem dX1_sortDownwards_189 : decode cX1_sortDownwards 189 = .ok (.if_icmp .ge 23, 3) := by decide +kernel
theorem dX1_sortDownwards_192 : decode cX1_sortDownwards 192 = .ok (.aload_n 0, 1) := by decide +kernel
theorem dX1_sortDownwards_193 : decode cX1_sortDownwards 193 = .ok (.getfield 27, 3) := by decide +kernel
theorem dX1_sortDownwards_196 : decode cX1_sortDownwards 196 = .ok (.aload_n 0, 1) := by decide +kernel
theorem dX1_sortDownwards_197 : decode cX1_sortDownwards 197 = .ok (.getfield 63, 3) := by decide +kernel
theorem dX1_sortDownwards_200 : decode cX1_sortDownwards 200 = .ok (.iload_n 3, 1) := by decide +kernel
theorem dX1_sortDownwards_201 : decode cX1_sortDownwards 201 = .ok (.iastore, 1) := by decide +kernel
theorem dX1_sortDownwards_202 : decode cX1_sortDownwards 202 = .ok (.aload_n 0, 1) := by decide +kernel
theorem dX1_sortDownwards_203 : decode cX1_sortDownwards 203 = .ok (.dup, 1) := by decide +kernel
theorem dX1_sortDownwards_204 : decode cX1_sortDownwards 204 = .ok (.getfield 63, 3) := by decide +kernel
theorem dX1_sortDownwards_207 : decode cX1_sortDownwards 207 = .ok (.iconst 1, 1) := by decide +kernel
theorem dX1_sortDownwards_208 : decode cX1_sortDownwards 208 = .ok (.iadd, 1) := by decide +kernel
theorem dX1_sortDownwards_209 : decode cX1_sortDownwards 209 = .ok (.putfield 63, 3) := by decide +kernel
theorem dX1_sortDownwards_212 : decode cX1_sortDownwards 212 = .ok (.iinc 1 1, 3) := by decide +kernel
theorem dX1_sortDownwards_215 : decode cX1_sortDownwards 215 = .ok (.goto (-100), 3) := by decide +kernel
theorem dX1_sortDownwards_218 : decode cX1_sortDownwards 218 = .ok (.return_, 1) := by decide +kernel
theorem dX1_passOn_0 : decode cX1_passOn 0 = .ok (.aload_n 0, 1) := by decide +kernel
theorem dX1_passOn_1 : decode cX1_passOn 1 = .ok (.getfield 36, 3) := by decide +kernel
theorem dX1_passOn_4 : decode cX1_passOn 4 = .ok (.aload_n 0, 1) := by decide +kernel
theorem dX1_passOn_5 : decode cX1_passOn 5 = .ok (.getfield 33, 3) := by decide +kernel
theorem dX1_passOn_8 : decode cX1_passOn 8 = .ok (.iload_n 1, 1) := by decide +kernel
theorem dX1_passOn_9 : decode cX1_passOn 9 = .ok (.iaload, 1) := by decide +kernel
theorem dX1_passOn_10 : decode cX1_passOn 10 = .ok (.iload_n 1, 1) := by decide +kernel
theorem dX1_passOn_11 : decode cX1_passOn 11 = .ok (.invokevirtual 85, 3) := by decide +kernel
theorem dX1_passOn_14 : decode cX1_passOn 14 = .ok (.istore_n 2, 1) := by decide +kernel
theorem dX1_passOn_15 : decode cX1_passOn 15 = .ok (.aload_n 0, 1) := by decide +kernel
theorem dX1_passOn_16 : decode cX1_passOn 16 = .ok (.getfield 36, 3) := by decide +kernel
theorem dX1_passOn_19 : decode cX1_passOn 19 = .ok (.getfield 89, 3) := by decide +kernel
theorem dX1_passOn_22 : decode cX1_passOn 22 = .ok (.aload_n 0, 1) := by decide +kernel
theorem dX1_passOn_23 : decode cX1_passOn 23 = .ok (.getfield 33, 3) := by decide +kernel
theorem dX1_passOn_26 : decode cX1_passOn 26 = .ok (.iload_n 1, 1) := by decide +kernel
theorem dX1_passOn_27 : decode cX1_passOn 27 = .ok (.iaload, 1) := by decide +kernel
theorem dX1_passOn_28 : decode cX1_passOn 28 = .ok (.aaload, 1) := by decide +kernel
theorem dX1_passOn_29 : decode cX1_passOn 29 = .ok (.iconst 3, 1) := by decide +kernel
theorem dX1_passOn_30 : decode cX1_passOn 30 = .ok (.iaload, 1) := by decide +kernel
theorem dX1_passOn_31 : decode cX1_passOn 31 = .ok (.istore_n 3, 1) := by decide +kernel
theorem dX1_passOn_32 : decode cX1_passOn 32 = .ok (.iconst 0, 1) := by decide +kernel
theorem dX1_passOn_33 : decode cX1_passOn 33 = .ok (.istore 4, 2) := by decide +kernel
theorem dX1_passOn_35 : decode cX1_passOn 35 = .ok (.iload 4, 2) := by decide +kernel
theorem dX1_passOn_37 : decode cX1_passOn 37 = .ok (.aload_n 0, 1) := by decide +kernel
theorem dX1_passOn_38 : decode cX1_passOn 38 = .ok (.getfield 36, 3) := by decide +kernel
theorem dX1_passOn_41 : decode cX1_passOn 41 = .ok (.getfield 72, 3) := by decide +kernel
theorem dX1_passOn_44 : decode cX1_passOn 44 = .ok (.if_icmp .ge 101, 3) := by decide +kernel
theorem dX1_passOn_47 : decode cX1_passOn 47 = .ok (.iconst 0, 1) := by decide +kernel
theorem dX1_passOn_48 : decode cX1_passOn 48 = .ok (.istore 5, 2) := by decide +kernel
theorem dX1_passOn_50 : decode cX1_passOn 50 = .ok (.iload 5, 2) := by decide +kernel
theorem dX1_passOn_52 : decode cX1_passOn 52 = .ok (.bipush 30, 2) := by decide +kernel
theorem dX1_passOn_54 : decode cX1_passOn 54 = .ok (.if_icmp .ge 85, 3) := by decide +kernel
theorem dX1_passOn_57 : decode cX1_passOn 57 = .ok (.iload 4, 2) := by decide +kernel
theorem dX1_passOn_59 : decode cX1_passOn 59 = .ok (.bipush 30, 2) := by decide +kernel
theorem dX1_passOn_61 : decode cX1_passOn 61 = .ok (.imul, 1) := by decide +kernel
theorem dX1_passOn_62 : decode cX1_passOn 62 = .ok (.iload 5, 2) := by decide +kernel
theorem dX1_passOn_64 : decode cX1_passOn 64 = .ok (.iadd, 1) := by decide +kernel
theorem dX1_passOn_65 : decode cX1_passOn 65 = .ok (.istore 6, 2) := by decide +kernel
theorem dX1_passOn_67 : decode cX1_passOn 67 = .ok (.aload_n 0, 1) := by decide +kernel
theorem dX1_passOn_68 : decode cX1_passOn 68 = .ok (.getfield 11, 3) := by decide +kernel
theorem dX1_passOn_71 : decode cX1_passOn 71 = .ok (.iload_n 1, 1) := by decide +kernel
theorem dX1_passOn_72 : decode cX1_passOn 72 = .ok (.aaload, 1) := by decide +kernel
theorem dX1_passOn_73 : decode cX1_passOn 73 = .ok (.iload 6, 2) := by decide +kernel
theorem dX1_passOn_75 : decode cX1_passOn 75 = .ok (.laload, 1) := by decide +kernel
theorem dX1_passOn_76 : decode cX1_passOn 76 = .ok (.aload_n 0, 1) := by decide +kernel
theorem dX1_passOn_77 : decode cX1_passOn 77 = .ok (.getfield 19, 3) := by decide +kernel
theorem dX1_passOn_80 : decode cX1_passOn 80 = .ok (.iload_n 1, 1) := by decide +kernel
theorem dX1_passOn_81 : decode cX1_passOn 81 = .ok (.laload, 1) := by decide +kernel
theorem dX1_passOn_82 : decode cX1_passOn 82 = .ok (.invokestatic 91, 3) := by decide +kernel
theorem dX1_passOn_85 : decode cX1_passOn 85 = .ok (.lstore 7, 2) := by decide +kernel
theorem dX1_passOn_87 : decode cX1_passOn 87 = .ok (.aload_n 0, 1) := by decide +kernel
theorem dX1_passOn_88 : decode cX1_passOn 88 = .ok (.getfield 16, 3) := by decide +kernel
theorem dX1_passOn_91 : decode cX1_passOn 91 = .ok (.iload_n 1, 1) := by decide +kernel
theorem dX1_passOn_92 : decode cX1_passOn 92 = .ok (.aaload, 1) := by decide +kernel
theorem dX1_passOn_93 : decode cX1_passOn 93 = .ok (.iload 6, 2) := by decide +kernel
theorem dX1_passOn_95 : decode cX1_passOn 95 = .ok (.aload_n 0, 1) := by decide +kernel
theorem dX1_passOn_96 : decode cX1_passOn 96 = .ok (.getfield 11, 3) := by decide +kernel
theorem dX1_passOn_99 : decode cX1_passOn 99 = .ok (.iload_n 1, 1) := by decide +kernel
theorem dX1_passOn_100 : decode cX1_passOn 100 = .ok (.aaload, 1) := by decide +kernel
theorem dX1_passOn_101 : decode cX1_passOn 101 = .ok (.iload 6, 2) := by decide +kernel
theorem dX1_passOn_103 : decode cX1_passOn 103 = .ok (.laload, 1) := by decide +kernel
theorem dX1_passOn_104 : decode cX1_passOn 104 = .ok (.lload 7, 2) := by decide +kernel
theorem dX1_passOn_106 : decode cX1_passOn 106 = .ok (.lsub, 1) := by decide +kernel
theorem dX1_passOn_107 : decode cX1_passOn 107 = .ok (.lastore, 1) := by decide +kernel
theorem dX1_passOn_108 : decode cX1_passOn 108 = .ok (.iload 5, 2) := by decide +kernel
theorem dX1_passOn_110 : decode cX1_passOn 110 = .ok (.iload_n 3, 1) := by decide +kernel
theorem dX1_passOn_111 : decode cX1_passOn 111 = .ok (.iadd, 1) := by decide +kernel
theorem dX1_passOn_112 : decode cX1_passOn 112 = .ok (.bipush 30, 2) := by decide +kernel
theorem dX1_passOn_114 : decode cX1_passOn 114 = .ok (.if_icmp .ge 19, 3) := by decide +kernel
theorem dX1_passOn_117 : decode cX1_passOn 117 = .ok (.aload_n 0, 1) := by decide +kernel
theorem dX1_passOn_118 : decode cX1_passOn 118 = .ok (.getfield 11, 3) := by decide +kernel
theorem dX1_passOn_121 : decode cX1_passOn 121 = .ok (.iload_n 2, 1) := by decide +kernel
theorem dX1_passOn_122 : decode cX1_passOn 122 = .ok (.aaload, 1) := by decide +kernel
theorem dX1_passOn_123 : decode cX1_passOn 123 = .ok (.iload 6, 2) := by decide +kernel
theorem dX1_passOn_125 : decode cX1_passOn 125 = .ok (.iload_n 3, 1) := by decide +kernel
theorem dX1_passOn_126 : decode cX1_passOn 126 = .ok (.iadd, 1) := by decide +kernel
theorem dX1_passOn_127 : decode cX1_passOn 127 = .ok (.dup2, 1) := by decide +kernel
theorem dX1_passOn_128 : decode cX1_passOn 128 = .ok (.laload, 1) := by decide +kernel
theorem dX1_passOn_129 : decode cX1_passOn 129 = .ok (.lload 7, 2) := by decide +kernel
theorem dX1_passOn_131 : decode cX1_passOn 131 = .ok (.ladd, 1) := by decide +kernel
theorem dX1_passOn_132 : decode cX1_passOn 132 = .ok (.lastore, 1) := by decide +kernel
theorem dX1_passOn_133 : decode cX1_passOn 133 = .ok (.iinc 5 1, 3) := by decide +kernel
theorem dX1_passOn_136 : decode cX1_passOn 136 = .ok (.goto (-86), 3) := by decide +kernel
theorem dX1_passOn_139 : decode cX1_passOn 139 = .ok (.iinc 4 1, 3) := by decide +kernel
theorem dX1_passOn_142 : decode cX1_passOn 142 = .ok (.goto (-107), 3) := by decide +kernel
theorem dX1_passOn_145 : decode cX1_passOn 145 = .ok (.return_, 1) := by decide +kernel
theorem dX1_findPeak_0 : decode cX1_findPeak 0 = .ok (.iconst 0, 1) := by decide +kernel
theorem dX1_findPeak_1 : decode cX1_findPeak 1 = .ok (.istore_n 2, 1) := by decide +kernel
theorem dX1_findPeak_2 : decode cX1_findPeak 2 = .ok (.iconst 1, 1) := by decide +kernel
theorem dX1_findPeak_3 : decode cX1_findPeak 3 = .ok (.istore_n 3, 1) := by decide +kernel
theorem dX1_findPeak_4 : decode cX1_findPeak 4 = .ok (.iload_n 3, 1) := by decide +kernel
theorem dX1_findPeak_5 : decode cX1_findPeak 5 = .ok (.aload_n 0, 1) := by decide +kernel
theorem dX1_findPeak_6 : decode cX1_findPeak 6 = .ok (.getfield 36, 3) := by decide +kernel
theorem dX1_findPeak_9 : decode cX1_findPeak 9 = .ok (.getfield 72, 3) := by decide +kernel
theorem dX1_findPeak_12 : decode cX1_findPeak 12 = .ok (.bipush 30, 2) := by decide +kernel
theorem dX1_findPeak_14 : decode cX1_findPeak 14 = .ok (.imul, 1) := by decide +kernel
theorem dX1_findPeak_15 : decode cX1_findPeak 15 = .ok (.if_icmp .ge 31, 3) := by decide +kernel
theorem dX1_findPeak_18 : decode cX1_findPeak 18 = .ok (.aload_n 0, 1) := by decide +kernel
theorem dX1_findPeak_19 : decode cX1_findPeak 19 = .ok (.getfield 11, 3) := by decide +kernel
theorem dX1_findPeak_22 : decode cX1_findPeak 22 = .ok (.iload_n 1, 1) := by decide +kernel
theorem dX1_findPeak_23 : decode cX1_findPeak 23 = .ok (.aaload, 1) := by decide +kernel
theorem dX1_findPeak_24 : decode cX1_findPeak 24 = .ok (.iload_n 3, 1) := by decide +kernel
theorem dX1_findPeak_25 : decode cX1_findPeak 25 = .ok (.laload, 1) := by decide +kernel
theorem dX1_findPeak_26 : decode cX1_findPeak 26 = .ok (.aload_n 0, 1) := by decide +kernel
theorem dX1_findPeak_27 : decode cX1_findPeak 27 = .ok (.getfield 11, 3) := by decide +kernel
theorem dX1_findPeak_30 : decode cX1_findPeak 30 = .ok (.iload_n 1, 1) := by decide +kernel
theorem dX1_findPeak_31 : decode cX1_findPeak 31 = .ok (.aaload, 1) := by decide +kernel
theorem dX1_findPeak_32 : decode cX1_findPeak 32 = .ok (.iload_n 2, 1) := by decide +kernel
theorem dX1_findPeak_33 : decode cX1_findPeak 33 = .ok (.laload, 1) := by decide +kernel
theorem dX1_findPeak_34 : decode cX1_findPeak 34 = .ok (.lcmp, 1) := by decide +kernel
theorem dX1_findPeak_35 : decode cX1_findPeak 35 = .ok (.ifCond .le 5, 3) := by decide +kernel
theorem dX1_findPeak_38 : decode cX1_findPeak 38 = .ok (.iload_n 3, 1) := by decide +kernel
theorem dX1_findPeak_39 : decode cX1_findPeak 39 = .ok (.istore_n 2, 1) := by decide +kernel
theorem dX1_findPeak_40 : decode cX1_findPeak 40 = .ok (.iinc 3 1, 3) := by decide +kernel
theorem dX1_findPeak_43 : decode cX1_findPeak 43 = .ok (.goto (-39), 3) := by decide +kernel
theorem dX1_findPeak_46 : decode cX1_findPeak 46 = .ok (.aload_n 0, 1) := by decide +kernel
theorem dX1_findPeak_47 : decode cX1_findPeak 47 = .ok (.getfield 23, 3) := by decide +kernel
theorem dX1_findPeak_50 : decode cX1_findPeak 50 = .ok (.iload_n 1, 1) := by decide +kernel
theorem dX1_findPeak_51 : decode cX1_findPeak 51 = .ok (.iload_n 2, 1) := by decide +kernel
theorem dX1_findPeak_52 : decode cX1_findPeak 52 = .ok (.iastore, 1) := by decide +kernel
theorem dX1_findPeak_53 : decode cX1_findPeak 53 = .ok (.return_, 1) := by decide +kernel
theorem dX2_init_0 : decode cX2_init 0 = .ok (.aload_n 0, 1) := by decide +kernel
theorem dX2_init_1 : decode cX2_init 1 = .ok (.invokespecial 7, 3) := by decide +kernel
theorem dX2_init_4 : decode cX2_init 4 = .ok (.aload_n 0, 1) := by decide +kernel
theorem dX2_init_5 : decode cX2_init 5 = .ok (.bipush 72, 2) := by decide +kernel
theorem dX2_init_7 : decode cX2_init 7 = .ok (.newarray .int, 2) := by decide +kernel
theorem dX2_init_9 : decode cX2_init 9 = .ok (.putfield 13, 3) := by decide +kernel
theorem dX2_init_12 : decode cX2_init 12 = .ok (.aload_n 0, 1) := by decide +kernel
theorem dX2_init_13 : decode cX2_init 13 = .ok (.aload_n 1, 1) := by decide +kernel
theorem dX2_init_14 : decode cX2_init 14 = .ok (.putfield 17, 3) := by decide +kernel
theorem dX2_init_17 : decode cX2_init 17 = .ok (.aload_n 0, 1) := by decide +kernel
theorem dX2_init_18 : decode cX2_init 18 = .ok (.aload_n 2, 1) := by decide +kernel
theorem dX2_init_19 : decode cX2_init 19 = .ok (.putfield 21, 3) := by decide +kernel
theorem dX2_init_22 : decode cX2_init 22 = .ok (.return_, 1) := by decide +kernel
theorem dX2_readLaw_0 : decode cX2_readLaw 0 = .ok (.aload_n 0, 1) := by decide +kernel
theorem dX2_readLaw_1 : decode cX2_readLaw 1 = .ok (.aload_n 1, 1) := by decide +kernel
theorem dX2_readLaw_2 : decode cX2_readLaw 2 = .ok (.putfield 21, 3) := by decide +kernel
theorem dX2_readLaw_5 : decode cX2_readLaw 5 = .ok (.aload_n 0, 1) := by decide +kernel
theorem dX2_readLaw_6 : decode cX2_readLaw 6 = .ok (.iconst 0, 1) := by decide +kernel
theorem dX2_readLaw_7 : decode cX2_readLaw 7 = .ok (.putfield 25, 3) := by decide +kernel
theorem dX2_readLaw_10 : decode cX2_readLaw 10 = .ok (.aload_n 0, 1) := by decide +kernel
theorem dX2_readLaw_11 : decode cX2_readLaw 11 = .ok (.iconst 0, 1) := by decide +kernel
theorem dX2_readLaw_12 : decode cX2_readLaw 12 = .ok (.putfield 29, 3) := by decide +kernel
theorem dX2_readLaw_15 : decode cX2_readLaw 15 = .ok (.aload_n 0, 1) := by decide +kernel
theorem dX2_readLaw_16 : decode cX2_readLaw 16 = .ok (.iconst 1, 1) := by decide +kernel
theorem dX2_readLaw_17 : decode cX2_readLaw 17 = .ok (.putfield 32, 3) := by decide +kernel
theorem dX2_readLaw_20 : decode cX2_readLaw 20 = .ok (.aload_n 0, 1) := by decide +kernel
theorem dX2_readLaw_21 : decode cX2_readLaw 21 = .ok (.iconst 0, 1) := by decide +kernel
theorem dX2_readLaw_22 : decode cX2_readLaw 22 = .ok (.putfield 36, 3) := by decide +kernel
theorem dX2_readLaw_25 : decode cX2_readLaw 25 = .ok (.aload_n 0, 1) := by decide +kernel
theorem dX2_readLaw_26 : decode cX2_readLaw 26 = .ok (.getfield 21, 3) := by decide +kernel
theorem dX2_readLaw_29 : decode cX2_readLaw 29 = .ok (.iload_n 2, 1) := by decide +kernel
theorem dX2_readLaw_30 : decode cX2_readLaw 30 = .ok (.invokevirtual 39, 3) := by decide +kernel
theorem dX2_readLaw_33 : decode cX2_readLaw 33 = .ok (.iconst 0, 1) := by decide +kernel
theorem dX2_readLaw_34 : decode cX2_readLaw 34 = .ok (.istore_n 3, 1) := by decide +kernel
theorem dX2_readLaw_35 : decode cX2_readLaw 35 = .ok (.iload_n 3, 1) := by decide +kernel
theorem dX2_readLaw_36 : decode cX2_readLaw 36 = .ok (.sipush 700, 3) := by decide +kernel
theorem dX2_readLaw_39 : decode cX2_readLaw 39 = .ok (.if_icmp .gt 58, 3) := by decide +kernel
theorem dX2_readLaw_42 : decode cX2_readLaw 42 = .ok (.aload_n 0, 1) := by decide +kernel
theorem dX2_readLaw_43 : decode cX2_readLaw 43 = .ok (.getfield 36, 3) := by decide +kernel
theorem dX2_readLaw_46 : decode cX2_readLaw 46 = .ok (.ifCond .ne 51, 3) := by decide +kernel
theorem dX2_readLaw_49 : decode cX2_readLaw 49 = .ok (.aload_n 0, 1) := by decide +kernel
theorem dX2_readLaw_50 : decode cX2_readLaw 50 = .ok (.getfield 32, 3) := by decide +kernel
theorem dX2_readLaw_53 : decode cX2_readLaw 53 = .ok (.ifCond .eq 10, 3) := by decide +kernel
theorem dX2_readLaw_56 : decode cX2_readLaw 56 = .ok (.aload_n 0, 1) := by decide +kernel
theorem dX2_readLaw_57 : decode cX2_readLaw 57 = .ok (.invokevirtual 43, 3) := by decide +kernel
theorem dX2_readLaw_60 : decode cX2_readLaw 60 = .ok (.goto 7, 3) := by decide +kernel
theorem dX2_readLaw_63 : decode cX2_readLaw 63 = .ok (.aload_n 0, 1) := by decide +kernel
theorem dX2_readLaw_64 : decode cX2_readLaw 64 = .ok (.invokevirtual 47, 3) := by decide +kernel
theorem dX2_readLaw_67 : decode cX2_readLaw 67 = .ok (.istore 4, 2) := by decide +kernel
theorem dX2_readLaw_69 : decode cX2_readLaw 69 = .ok (.iload 4, 2) := by decide +kernel
theorem dX2_readLaw_71 : decode cX2_readLaw 71 = .ok (.ifCond .eq 6, 3) := by decide +kernel
theorem dX2_readLaw_74 : decode cX2_readLaw 74 = .ok (.iload 4, 2) := by decide +kernel
theorem dX2_readLaw_76 : decode cX2_readLaw 76 = .ok (.ireturn, 1) := by decide +kernel
theorem dX2_readLaw_77 : decode cX2_readLaw 77 = .ok (.aload_n 0, 1) := by decide +kernel
theorem dX2_readLaw_78 : decode cX2_readLaw 78 = .ok (.getfield 36, 3) := by decide +kernel
theorem dX2_readLaw_81 : decode cX2_readLaw 81 = .ok (.ifCond .ne 10, 3) := by decide +kernel
theorem dX2_readLaw_84 : decode cX2_readLaw 84 = .ok (.aload_n 0, 1) := by decide +kernel
theorem dX2_readLaw_85 : decode cX2_readLaw 85 = .ok (.getfield 17, 3) := by decide +kernel
theorem dX2_readLaw_88 : decode cX2_readLaw 88 = .ok (.invokevirtual 50, 3) := by decide +kernel
theorem dX2_readLaw_91 : decode cX2_readLaw 91 = .ok (.iinc 3 1, 3) := by decide +kernel
theorem dX2_readLaw_94 : decode cX2_readLaw 94 = .ok (.goto (-59), 3) := by decide +kernel
theorem dX2_readLaw_97 : decode cX2_readLaw 97 = .ok (.aload_n 0, 1) := by decide +kernel
theorem dX2_readLaw_98 : decode cX2_readLaw 98 = .ok (.getfield 21, 3) := by decide +kernel
theorem dX2_readLaw_101 : decode cX2_readLaw 101 = .ok (.iload_n 2, 1) := by decide +kernel
theorem dX2_readLaw_102 : decode cX2_readLaw 102 = .ok (.invokevirtual 55, 3) := by decide +kernel
theorem dX2_readLaw_105 : decode cX2_readLaw 105 = .ok (.iconst 0, 1) := by decide +kernel
theorem dX2_readLaw_106 : decode cX2_readLaw 106 = .ok (.ireturn, 1) := by decide +kernel
theorem dX2_readSide_0 : decode cX2_readSide 0 = .ok (.aload_n 0, 1) := by decide +kernel
theorem dX2_readSide_1 : decode cX2_readSide 1 = .ok (.getfield 17, 3) := by decide +kernel
theorem dX2_readSide_4 : decode cX2_readSide 4 = .ok (.getfield 58, 3) := by decide +kernel
theorem dX2_readSide_7 : decode cX2_readSide 7 = .ok (.iconst 3, 1) := by decide +kernel
theorem dX2_readSide_8 : decode cX2_readSide 8 = .ok (.if_icmp .ne 33, 3) := by decide +kernel
theorem dX2_readSide_11 : decode cX2_readSide 11 = .ok (.aload_n 0, 1) := by decide +kernel
theorem dX2_readSide_12 : decode cX2_readSide 12 = .ok (.getfield 17, 3) := by decide +kernel
theorem dX2_readSide_15 : decode cX2_readSide 15 = .ok (.getfield 61, 3) := by decide +kernel
theorem dX2_readSide_18 : decode cX2_readSide 18 = .ok (.sipush 9999, 3) := by decide +kernel
theorem dX2_readSide_21 : decode cX2_readSide 21 = .ok (.if_icmp .le 7, 3) := by decide +kernel
theorem dX2_readSide_24 : decode cX2_readSide 24 = .ok (.iconst 2, 1) := by decide +kernel
theorem dX2_readSide_25 : decode cX2_readSide 25 = .ok (.goto 15, 3) := by decide +kernel
theorem dX2_readSide_28 : decode cX2_readSide 28 = .ok (.aload_n 0, 1) := by decide +kernel
theorem dX2_readSide_29 : decode cX2_readSide 29 = .ok (.iconst 0, 1) := by decide +kernel
theorem dX2_readSide_30 : decode cX2_readSide 30 = .ok (.aload_n 0, 1) := by decide +kernel
theorem dX2_readSide_31 : decode cX2_readSide 31 = .ok (.getfield 17, 3) := by decide +kernel
theorem dX2_readSide_34 : decode cX2_readSide 34 = .ok (.getfield 61, 3) := by decide +kernel
theorem dX2_readSide_37 : decode cX2_readSide 37 = .ok (.invokevirtual 66, 3) := by decide +kernel
theorem dX2_readSide_40 : decode cX2_readSide 40 = .ok (.ireturn, 1) := by decide +kernel
theorem dX2_readSide_41 : decode cX2_readSide 41 = .ok (.aload_n 0, 1) := by decide +kernel
theorem dX2_readSide_42 : decode cX2_readSide 42 = .ok (.getfield 17, 3) := by decide +kernel
theorem dX2_readSide_45 : decode cX2_readSide 45 = .ok (.bipush 31, 2) := by decide +kernel
theorem dX2_readSide_47 : decode cX2_readSide 47 = .ok (.invokevirtual 70, 3) := by decide +kernel
theorem dX2_readSide_50 : decode cX2_readSide 50 = .ok (.ifCond .eq 8, 3) := by decide +kernel
theorem dX2_readSide_53 : decode cX2_readSide 53 = .ok (.aload_n 0, 1) := by decide +kernel
theorem dX2_readSide_54 : decode cX2_readSide 54 = .ok (.invokevirtual 74, 3) := by decide +kernel
theorem dX2_readSide_57 : decode cX2_readSide 57 = .ok (.ireturn, 1) := by decide +kernel
theorem dX2_readSide_58 : decode cX2_readSide 58 = .ok (.aload_n 0, 1) := by decide +kernel
theorem dX2_readSide_59 : decode cX2_readSide 59 = .ok (.getfield 17, 3) := by decide +kernel
theorem dX2_readSide_62 : decode cX2_readSide 62 = .ok (.bipush 23, 2) := by decide +kernel
theorem dX2_readSide_64 : decode cX2_readSide 64 = .ok (.invokevirtual 77, 3) := by decide +kernel
theorem dX2_readSide_67 : decode cX2_readSide 67 = .ok (.ifCond .eq 16, 3) := by decide +kernel
theorem dX2_readSide_70 : decode cX2_readSide 70 = .ok (.aload_n 0, 1) := by decide +kernel
theorem dX2_readSide_71 : decode cX2_readSide 71 = .ok (.invokevirtual 80, 3) := by decide +kernel
theorem dX2_readSide_74 : decode cX2_readSide 74 = .ok (.ifCond .eq 9, 3) := by decide +kernel
theorem dX2_readSide_77 : decode cX2_readSide 77 = .ok (.aload_n 0, 1) := by decide +kernel
theorem dX2_readSide_78 : decode cX2_readSide 78 = .ok (.iconst 4, 1) := by decide +kernel
theorem dX2_readSide_79 : decode cX2_readSide 79 = .ok (.invokevirtual 84, 3) := by decide +kernel
theorem dX2_readSide_82 : decode cX2_readSide 82 = .ok (.ireturn, 1) := by decide +kernel
theorem dX2_readSide_83 : decode cX2_readSide 83 = .ok (.aload_n 0, 1) := by decide +kernel
theorem dX2_readSide_84 : decode cX2_readSide 84 = .ok (.getfield 17, 3) := by decide +kernel
theorem dX2_readSide_87 : decode cX2_readSide 87 = .ok (.getfield 58, 3) := by decide +kernel
theorem dX2_readSide_90 : decode cX2_readSide 90 = .ok (.iconst 2, 1) := by decide +kernel
theorem dX2_readSide_91 : decode cX2_readSide 91 = .ok (.if_icmp .ne 43, 3) := by decide +kernel
theorem dX2_readSide_94 : decode cX2_readSide 94 = .ok (.aload_n 0, 1) := by decide +kernel
theorem dX2_readSide_95 : decode cX2_readSide 95 = .ok (.getfield 17, 3) := by decide +kernel
theorem dX2_readSide_98 : decode cX2_readSide 98 = .ok (.getfield 61, 3) := by decide +kernel
theorem dX2_readSide_101 : decode cX2_readSide 101 = .ok (.bipush 15, 2) := by decide +kernel
theorem dX2_readSide_103 : decode cX2_readSide 103 = .ok (.if_icmp .lt 31, 3) := by decide +kernel
theorem dX2_readSide_106 : decode cX2_readSide 106 = .ok (.aload_n 0, 1) := by decide +kernel
theorem dX2_readSide_107 : decode cX2_readSide 107 = .ok (.getfield 17, 3) := by decide +kernel
theorem dX2_readSide_110 : decode cX2_readSide 110 = .ok (.getfield 61, 3) := by decide +kernel
theorem dX2_readSide_113 : decode cX2_readSide 113 = .ok (.bipush 20, 2) := by decide +kernel
theorem dX2_readSide_115 : decode cX2_readSide 115 = .ok (.if_icmp .gt 19, 3) := by decide +kernel
theorem dX2_readSide_118 : decode cX2_readSide 118 = .ok (.aload_n 0, 1) := by decide +kernel
theorem dX2_readSide_119 : decode cX2_readSide 119 = .ok (.iconst 1, 1) := by decide +kernel
theorem dX2_readSide_120 : decode cX2_readSide 120 = .ok (.aload_n 0, 1) := by decide +kernel
theorem dX2_readSide_121 : decode cX2_readSide 121 = .ok (.getfield 17, 3) := by decide +kernel
theorem dX2_readSide_124 : decode cX2_readSide 124 = .ok (.getfield 61, 3) := by decide +kernel
theorem dX2_readSide_127 : decode cX2_readSide 127 = .ok (.bipush 15, 2) := by decide +kernel
theorem dX2_readSide_129 : decode cX2_readSide 129 = .ok (.isub, 1) := by decide +kernel
theorem dX2_readSide_130 : decode cX2_readSide 130 = .ok (.invokevirtual 66, 3) := by decide +kernel
theorem dX2_readSide_133 : decode cX2_readSide 133 = .ok (.ireturn, 1) := by decide +kernel
theorem dX2_readSide_134 : decode cX2_readSide 134 = .ok (.iconst 1, 1) := by decide +kernel
theorem dX2_readSide_135 : decode cX2_readSide 135 = .ok (.ireturn, 1) := by decide +kernel
theorem dX2_addLeaf_0 : decode cX2_addLeaf 0 = .ok (.aload_n 0, 1) := by decide +kernel
theorem dX2_addLeaf_1 : decode cX2_addLeaf 1 = .ok (.getfield 21, 3) := by decide +kernel
theorem dX2_addLeaf_4 : decode cX2_addLeaf 4 = .ok (.getfield 88, 3) := by decide +kernel
theorem dX2_addLeaf_7 : decode cX2_addLeaf 7 = .ok (.bipush 64, 2) := by decide +kernel
theorem dX2_addLeaf_9 : decode cX2_addLeaf 9 = .ok (.if_icmp .lt 5, 3) := by decide +kernel
theorem dX2_addLeaf_12 : decode cX2_addLeaf 12 = .ok (.iconst 2, 1) := by decide +kernel
theorem dX2_addLeaf_13 : decode cX2_addLeaf 13 = .ok (.ireturn, 1) := by decide +kernel
theorem dX2_addLeaf_14 : decode cX2_addLeaf 14 = .ok (.aload_n 0, 1) := by decide +kernel
theorem dX2_addLeaf_15 : decode cX2_addLeaf 15 = .ok (.getfield 21, 3) := by decide +kernel
theorem dX2_addLeaf_18 : decode cX2_addLeaf 18 = .ok (.dup, 1) := by decide +kernel
theorem dX2_addLeaf_19 : decode cX2_addLeaf 19 = .ok (.getfield 88, 3) := by decide +kernel
theorem dX2_addLeaf_22 : decode cX2_addLeaf 22 = .ok (.iconst 1, 1) := by decide +kernel
theorem dX2_addLeaf_23 : decode cX2_addLeaf 23 = .ok (.iadd, 1) := by decide +kernel
theorem dX2_addLeaf_24 : decode cX2_addLeaf 24 = .ok (.putfield 88, 3) := by decide +kernel
theorem dX2_addLeaf_27 : decode cX2_addLeaf 27 = .ok (.aload_n 0, 1) := by decide +kernel
theorem dX2_addLeaf_28 : decode cX2_addLeaf 28 = .ok (.getfield 21, 3) := by decide +kernel
theorem dX2_addLeaf_31 : decode cX2_addLeaf 31 = .ok (.iload_n 1, 1) := by decide +kernel
theorem dX2_addLeaf_32 : decode cX2_addLeaf 32 = .ok (.iload_n 2, 1) := by decide +kernel
theorem dX2_addLeaf_33 : decode cX2_addLeaf 33 = .ok (.invokevirtual 91, 3) := by decide +kernel
theorem dX2_addLeaf_36 : decode cX2_addLeaf 36 = .ok (.aload_n 0, 1) := by decide +kernel
theorem dX2_addLeaf_37 : decode cX2_addLeaf 37 = .ok (.iconst 0, 1) := by decide +kernel
theorem dX2_addLeaf_38 : decode cX2_addLeaf 38 = .ok (.putfield 32, 3) := by decide +kernel
theorem dX2_addLeaf_41 : decode cX2_addLeaf 41 = .ok (.iconst 0, 1) := by decide +kernel
theorem dX2_addLeaf_42 : decode cX2_addLeaf 42 = .ok (.ireturn, 1) := by decide +kernel
theorem dX2_mayNegate_0 : decode cX2_mayNegate 0 = .ok (.aload_n 0, 1) := by decide +kernel
theorem dX2_mayNegate_1 : decode cX2_mayNegate 1 = .ok (.getfield 25, 3) := by decide +kernel
theorem dX2_mayNegate_4 : decode cX2_mayNegate 4 = .ok (.ifCond .eq 24, 3) := by decide +kernel
theorem dX2_mayNegate_7 : decode cX2_mayNegate 7 = .ok (.aload_n 0, 1) := by decide +kernel
theorem dX2_mayNegate_8 : decode cX2_mayNegate 8 = .ok (.getfield 13, 3) := by decide +kernel
theorem dX2_mayNegate_11 : decode cX2_mayNegate 11 = .ok (.aload_n 0, 1) := by decide +kernel
theorem dX2_mayNegate_12 : decode cX2_mayNegate 12 = .ok (.getfield 25, 3) := by decide +kernel
theorem dX2_mayNegate_15 : decode cX2_mayNegate 15 = .ok (.iconst 1, 1) := by decide +kernel
theorem dX2_mayNegate_16 : decode cX2_mayNegate 16 = .ok (.isub, 1) := by decide +kernel
theorem dX2_mayNegate_17 : decode cX2_mayNegate 17 = .ok (.iaload, 1) := by decide +kernel
theorem dX2_mayNegate_18 : decode cX2_mayNegate 18 = .ok (.invokestatic 95, 3) := by decide +kernel
theorem dX2_mayNegate_21 : decode cX2_mayNegate 21 = .ok (.iconst 4, 1) := by decide +kernel
theorem dX2_mayNegate_22 : decode cX2_mayNegate 22 = .ok (.invokestatic 95, 3) := by decide +kernel
theorem dX2_mayNegate_25 : decode cX2_mayNegate 25 = .ok (.if_icmp .gt 7, 3) := by decide +kernel
theorem dX2_mayNegate_28 : decode cX2_mayNegate 28 = .ok (.iconst 1, 1) := by decide +kernel
theorem dX2_mayNegate_29 : decode cX2_mayNegate 29 = .ok (.goto 4, 3) := by decide +kernel
theorem dX2_mayNegate_32 : decode cX2_mayNegate 32 = .ok (.iconst 0, 1) := by decide +kernel
theorem dX2_mayNegate_33 : decode cX2_mayNegate 33 = .ok (.ireturn, 1) := by decide +kernel
theorem dX2_openBracket_0 : decode cX2_openBracket 0 = .ok (.aload_n 0, 1) := by decide +kernel
theorem dX2_openBracket_1 : decode cX2_openBracket 1 = .ok (.getfield 29, 3) := by decide +kernel
theorem dX2_openBracket_4 : decode cX2_openBracket 4 = .ok (.bipush 8, 2) := by decide +kernel
theorem dX2_openBracket_6 : decode cX2_openBracket 6 = .ok (.if_icmp .ge 12, 3) := by decide +kernel
theorem dX2_openBracket_9 : decode cX2_openBracket 9 = .ok (.aload_n 0, 1) := by decide +kernel
theorem dX2_openBracket_10 : decode cX2_openBracket 10 = .ok (.getfield 25, 3) := by decide +kernel
theorem dX2_openBracket_13 : decode cX2_openBracket 13 = .ok (.bipush 72, 2) := by decide +kernel
theorem dX2_openBracket_15 : decode cX2_openBracket 15 = .ok (.if_icmp .lt 5, 3) := by decide +kernel
theorem dX2_openBracket_18 : decode cX2_openBracket 18 = .ok (.iconst 2, 1) := by decide +kernel
theorem dX2_openBracket_19 : decode cX2_openBracket 19 = .ok (.ireturn, 1) := by decide +kernel
theorem dX2_openBracket_20 : decode cX2_openBracket 20 = .ok (.aload_n 0, 1) := by decide +kernel
theorem dX2_openBracket_21 : decode cX2_openBracket 21 = .ok (.getfield 13, 3) := by decide +kernel
theorem dX2_openBracket_24 : decode cX2_openBracket 24 = .ok (.aload_n 0, 1) := by decide +kernel
theorem dX2_openBracket_25 : decode cX2_openBracket 25 = .ok (.getfield 25, 3) := by decide +kernel
theorem dX2_openBracket_28 : decode cX2_openBracket 28 = .ok (.bipush 31, 2) := by decide +kernel
theorem dX2_openBracket_30 : decode cX2_openBracket 30 = .ok (.iastore, 1) := by decide +kernel
theorem dX2_openBracket_31 : decode cX2_openBracket 31 = .ok (.aload_n 0, 1) := by decide +kernel
theorem dX2_openBracket_32 : decode cX2_openBracket 32 = .ok (.dup, 1) := by decide +kernel
theorem dX2_openBracket_33 : decode cX2_openBracket 33 = .ok (.getfield 25, 3) := by decide +kernel
theorem dX2_openBracket_36 : decode cX2_openBracket 36 = .ok (.iconst 1, 1) := by decide +kernel
theorem dX2_openBracket_37 : decode cX2_openBracket 37 = .ok (.iadd, 1) := by decide +kernel
theorem dX2_openBracket_38 : decode cX2_openBracket 38 = .ok (.putfield 25, 3) := by decide +kernel
theorem dX2_openBracket_41 : decode cX2_openBracket 41 = .ok (.aload_n 0, 1) := by decide +kernel
theorem dX2_openBracket_42 : decode cX2_openBracket 42 = .ok (.dup, 1) := by decide +kernel
theorem dX2_openBracket_43 : decode cX2_openBracket 43 = .ok (.getfield 29, 3) := by decide +kernel
theorem dX2_openBracket_46 : decode cX2_openBracket 46 = .ok (.iconst 1, 1) := by decide +kernel
theorem dX2_openBracket_47 : decode cX2_openBracket 47 = .ok (.iadd, 1) := by decide +kernel
theorem dX2_openBracket_48 : decode cX2_openBracket 48 = .ok (.putfield 29, 3) := by decide +kernel
theorem dX2_openBracket_51 : decode cX2_openBracket 51 = .ok (.iconst 0, 1) := by decide +kernel
theorem dX2_openBracket_52 : decode cX2_openBracket 52 = .ok (.ireturn, 1) := by decide +kernel
theorem dX2_addWaiting_0 : decode cX2_addWaiting 0 = .ok (.aload_n 0, 1) := by decide +kernel
theorem dX2_addWaiting_1 : decode cX2_addWaiting 1 = .ok (.getfield 21, 3) := by decide +kernel
theorem dX2_addWaiting_4 : decode cX2_addWaiting 4 = .ok (.getfield 88, 3) := by decide +kernel
theorem dX2_addWaiting_7 : decode cX2_addWaiting 7 = .ok (.bipush 64, 2) := by decide +kernel
theorem dX2_addWaiting_9 : decode cX2_addWaiting 9 = .ok (.if_icmp .ge 12, 3) := by decide +kernel
theorem dX2_addWaiting_12 : decode cX2_addWaiting 12 = .ok (.aload_n 0, 1) := by decide +kernel
theorem dX2_addWaiting_13 : decode cX2_addWaiting 13 = .ok (.getfield 25, 3) := by decide +kernel
theorem dX2_addWaiting_16 : decode cX2_addWaiting 16 = .ok (.bipush 72, 2) := by decide +kernel
theorem dX2_addWaiting_18 : decode cX2_addWaiting 18 = .ok (.if_icmp .lt 5, 3) := by decide +kernel
theorem dX2_addWaiting_21 : decode cX2_addWaiting 21 = .ok (.iconst 2, 1) := by decide +kernel
theorem dX2_addWaiting_22 : decode cX2_addWaiting 22 = .ok (.ireturn, 1) := by decide +kernel
theorem dX2_addWaiting_23 : decode cX2_addWaiting 23 = .ok (.aload_n 0, 1) := by decide +kernel
theorem dX2_addWaiting_24 : decode cX2_addWaiting 24 = .ok (.getfield 21, 3) := by decide +kernel
theorem dX2_addWaiting_27 : decode cX2_addWaiting 27 = .ok (.dup, 1) := by decide +kernel
theorem dX2_addWaiting_28 : decode cX2_addWaiting 28 = .ok (.getfield 88, 3) := by decide +kernel
theorem dX2_addWaiting_31 : decode cX2_addWaiting 31 = .ok (.iconst 1, 1) := by decide +kernel
theorem dX2_addWaiting_32 : decode cX2_addWaiting 32 = .ok (.iadd, 1) := by decide +kernel
theorem dX2_addWaiting_33 : decode cX2_addWaiting 33 = .ok (.putfield 88, 3) := by decide +kernel
theorem dX2_addWaiting_36 : decode cX2_addWaiting 36 = .ok (.aload_n 0, 1) := by decide +kernel
theorem dX2_addWaiting_37 : decode cX2_addWaiting 37 = .ok (.getfield 13, 3) := by decide +kernel
theorem dX2_addWaiting_40 : decode cX2_addWaiting 40 = .ok (.aload_n 0, 1) := by decide +kernel
theorem dX2_addWaiting_41 : decode cX2_addWaiting 41 = .ok (.getfield 25, 3) := by decide +kernel
theorem dX2_addWaiting_44 : decode cX2_addWaiting 44 = .ok (.iload_n 1, 1) := by decide +kernel
theorem dX2_addWaiting_45 : decode cX2_addWaiting 45 = .ok (.iastore, 1) := by decide +kernel
theorem dX2_addWaiting_46 : decode cX2_addWaiting 46 = .ok (.aload_n 0, 1) := by decide +kernel
theorem dX2_addWaiting_47 : decode cX2_addWaiting 47 = .ok (.dup, 1) := by decide +kernel
theorem dX2_addWaiting_48 : decode cX2_addWaiting 48 = .ok (.getfield 25, 3) := by decide +kernel
theorem dX2_addWaiting_51 : decode cX2_addWaiting 51 = .ok (.iconst 1, 1) := by decide +kernel
theorem dX2_addWaiting_52 : decode cX2_addWaiting 52 = .ok (.iadd, 1) := by decide +kernel
theorem dX2_addWaiting_53 : decode cX2_addWaiting 53 = .ok (.putfield 25, 3) := by decide +kernel
theorem dX2_addWaiting_56 : decode cX2_addWaiting 56 = .ok (.aload_n 0, 1) := by decide +kernel
theorem dX2_addWaiting_57 : decode cX2_addWaiting 57 = .ok (.iconst 1, 1) := by decide +kernel
theorem dX2_addWaiting_58 : decode cX2_addWaiting 58 = .ok (.putfield 32, 3) := by decide +kernel
theorem dX2_addWaiting_61 : decode cX2_addWaiting 61 = .ok (.iconst 0, 1) := by decide +kernel
theorem dX2_addWaiting_62 : decode cX2_addWaiting 62 = .ok (.ireturn, 1) := by decide +kernel
theorem dX2_readSign_0 : decode cX2_readSign 0 = .ok (.aload_n 0, 1) := by decide +kernel
theorem dX2_readSign_1 : decode cX2_readSign 1 = .ok (.getfield 17, 3) := by decide +kernel
theorem dX2_readSign_4 : decode cX2_readSign 4 = .ok (.bipush 30, 2) := by decide +kernel
theorem dX2_readSign_6 : decode cX2_readSign 6 = .ok (.invokevirtual 70, 3) := by decide +kernel
theorem dX2_readSign_9 : decode cX2_readSign 9 = .ok (.ifCond .eq 22, 3) := by decide +kernel
theorem dX2_readSign_12 : decode cX2_readSign 12 = .ok (.aload_n 0, 1) := by decide +kernel
theorem dX2_readSign_13 : decode cX2_readSign 13 = .ok (.getfield 29, 3) := by decide +kernel
theorem dX2_readSign_16 : decode cX2_readSign 16 = .ok (.ifCond .ne 15, 3) := by decide +kernel
theorem dX2_readSign_19 : decode cX2_readSign 19 = .ok (.aload_n 0, 1) := by decide +kernel
theorem dX2_readSign_20 : decode cX2_readSign 20 = .ok (.iconst 1, 1) := by decide +kernel
theorem dX2_readSign_21 : decode cX2_readSign 21 = .ok (.invokevirtual 98, 3) := by decide +kernel
theorem dX2_readSign_24 : decode cX2_readSign 24 = .ok (.aload_n 0, 1) := by decide +kernel
theorem dX2_readSign_25 : decode cX2_readSign 25 = .ok (.iconst 1, 1) := by decide +kernel
theorem dX2_readSign_26 : decode cX2_readSign 26 = .ok (.putfield 36, 3) := by decide +kernel
theorem dX2_readSign_29 : decode cX2_readSign 29 = .ok (.iconst 0, 1) := by decide +kernel
theorem dX2_readSign_30 : decode cX2_readSign 30 = .ok (.ireturn, 1) := by decide +kernel
theorem dX2_readSign_31 : decode cX2_readSign 31 = .ok (.aload_n 0, 1) := by decide +kernel
theorem dX2_readSign_32 : decode cX2_readSign 32 = .ok (.getfield 17, 3) := by decide +kernel
theorem dX2_readSign_35 : decode cX2_readSign 35 = .ok (.bipush 32, 2) := by decide +kernel
theorem dX2_readSign_37 : decode cX2_readSign 37 = .ok (.invokevirtual 70, 3) := by decide +kernel
theorem dX2_readSign_40 : decode cX2_readSign 40 = .ok (.ifCond .eq 37, 3) := by decide +kernel
theorem dX2_readSign_43 : decode cX2_readSign 43 = .ok (.aload_n 0, 1) := by decide +kernel
theorem dX2_readSign_44 : decode cX2_readSign 44 = .ok (.getfield 29, 3) := by decide +kernel
theorem dX2_readSign_47 : decode cX2_readSign 47 = .ok (.ifCond .le 30, 3) := by decide +kernel
theorem dX2_readSign_50 : decode cX2_readSign 50 = .ok (.aload_n 0, 1) := by decide +kernel
theorem dX2_readSign_51 : decode cX2_readSign 51 = .ok (.iconst 1, 1) := by decide +kernel
theorem dX2_readSign_52 : decode cX2_readSign 52 = .ok (.invokevirtual 98, 3) := by decide +kernel
theorem dX2_readSign_55 : decode cX2_readSign 55 = .ok (.aload_n 0, 1) := by decide +kernel
theorem dX2_readSign_56 : decode cX2_readSign 56 = .ok (.dup, 1) := by decide +kernel
theorem dX2_readSign_57 : decode cX2_readSign 57 = .ok (.getfield 25, 3) := by decide +kernel
theorem dX2_readSign_60 : decode cX2_readSign 60 = .ok (.iconst 1, 1) := by decide +kernel
theorem dX2_readSign_61 : decode cX2_readSign 61 = .ok (.isub, 1) := by decide +kernel
theorem dX2_readSign_62 : decode cX2_readSign 62 = .ok (.putfield 25, 3) := by decide +kernel
theorem dX2_readSign_65 : decode cX2_readSign 65 = .ok (.aload_n 0, 1) := by decide +kernel
theorem dX2_readSign_66 : decode cX2_readSign 66 = .ok (.dup, 1) := by decide +kernel
theorem dX2_readSign_67 : decode cX2_readSign 67 = .ok (.getfield 29, 3) := by decide +kernel
theorem dX2_readSign_70 : decode cX2_readSign 70 = .ok (.iconst 1, 1) := by decide +kernel
theorem dX2_readSign_71 : decode cX2_readSign 71 = .ok (.isub, 1) := by decide +kernel
theorem dX2_readSign_72 : decode cX2_readSign 72 = .ok (.putfield 29, 3) := by decide +kernel
theorem dX2_readSign_75 : decode cX2_readSign 75 = .ok (.iconst 0, 1) := by decide +kernel
theorem dX2_readSign_76 : decode cX2_readSign 76 = .ok (.ireturn, 1) := by decide +kernel
theorem dX2_readSign_77 : decode cX2_readSign 77 = .ok (.aload_n 0, 1) := by decide +kernel
theorem dX2_readSign_78 : decode cX2_readSign 78 = .ok (.invokevirtual 101, 3) := by decide +kernel
theorem dX2_readSign_81 : decode cX2_readSign 81 = .ok (.istore_n 1, 1) := by decide +kernel
theorem dX2_readSign_82 : decode cX2_readSign 82 = .ok (.iload_n 1, 1) := by decide +kernel
theorem dX2_readSign_83 : decode cX2_readSign 83 = .ok (.invokestatic 95, 3) := by decide +kernel
theorem dX2_readSign_86 : decode cX2_readSign 86 = .ok (.istore_n 2, 1) := by decide +kernel
theorem dX2_readSign_87 : decode cX2_readSign 87 = .ok (.iload_n 2, 1) := by decide +kernel
theorem dX2_readSign_88 : decode cX2_readSign 88 = .ok (.ifCond .ne 5, 3) := by decide +kernel
theorem dX2_readSign_91 : decode cX2_readSign 91 = .ok (.iconst 1, 1) := by decide +kernel
theorem dX2_readSign_92 : decode cX2_readSign 92 = .ok (.ireturn, 1) := by decide +kernel
theorem dX2_readSign_93 : decode cX2_readSign 93 = .ok (.iload_n 2, 1) := by decide +kernel
theorem dX2_readSign_94 : decode cX2_readSign 94 = .ok (.iconst 4, 1) := by decide +kernel
theorem dX2_readSign_95 : decode cX2_readSign 95 = .ok (.if_icmp .ne 35, 3) := by decide +kernel
theorem dX2_readSign_98 : decode cX2_readSign 98 = .ok (.aload_n 0, 1) := by decide +kernel
theorem dX2_readSign_99 : decode cX2_readSign 99 = .ok (.iconst 5, 1) := by decide +kernel
theorem dX2_readSign_100 : decode cX2_readSign 100 = .ok (.invokevirtual 98, 3) := by decide +kernel
theorem dX2_readSign_103 : decode cX2_readSign 103 = .ok (.aload_n 0, 1) := by decide +kernel
theorem dX2_readSign_104 : decode cX2_readSign 104 = .ok (.getfield 25, 3) := by decide +kernel
theorem dX2_readSign_107 : decode cX2_readSign 107 = .ok (.ifCond .le 23, 3) := by decide +kernel
theorem dX2_readSign_110 : decode cX2_readSign 110 = .ok (.aload_n 0, 1) := by decide +kernel
theorem dX2_readSign_111 : decode cX2_readSign 111 = .ok (.getfield 13, 3) := by decide +kernel
theorem dX2_readSign_114 : decode cX2_readSign 114 = .ok (.aload_n 0, 1) := by decide +kernel
theorem dX2_readSign_115 : decode cX2_readSign 115 = .ok (.getfield 25, 3) := by decide +kernel
theorem dX2_readSign_118 : decode cX2_readSign 118 = .ok (.iconst 1, 1) := by decide +kernel
theorem dX2_readSign_119 : decode cX2_readSign 119 = .ok (.isub, 1) := by decide +kernel
theorem dX2_readSign_120 : decode cX2_readSign 120 = .ok (.iaload, 1) := by decide +kernel
theorem dX2_readSign_121 : decode cX2_readSign 121 = .ok (.invokestatic 95, 3) := by decide +kernel
theorem dX2_readSign_124 : decode cX2_readSign 124 = .ok (.iconst 4, 1) := by decide +kernel
theorem dX2_readSign_125 : decode cX2_readSign 125 = .ok (.if_icmp .ne 5, 3) := by decide +kernel
theorem dX2_readSign_128 : decode cX2_readSign 128 = .ok (.iconst 1, 1) := by decide +kernel
theorem dX2_readSign_129 : decode cX2_readSign 129 = .ok (.ireturn, 1) := by decide +kernel
theorem dX2_readSign_130 : decode cX2_readSign 130 = .ok (.aload_n 0, 1) := by decide +kernel
theorem dX2_readSign_131 : decode cX2_readSign 131 = .ok (.iload_n 2, 1) := by decide +kernel
theorem dX2_readSign_132 : decode cX2_readSign 132 = .ok (.invokevirtual 98, 3) := by decide +kernel
theorem dX2_readSign_135 : decode cX2_readSign 135 = .ok (.aload_n 0, 1) := by decide +kernel
theorem dX2_readSign_136 : decode cX2_readSign 136 = .ok (.iload_n 1, 1) := by decide +kernel
theorem dX2_readSign_137 : decode cX2_readSign 137 = .ok (.invokevirtual 84, 3) := by decide +kernel
theorem dX2_readSign_140 : decode cX2_readSign 140 = .ok (.ireturn, 1) := by decide +kernel
theorem dX2_joiningSign_0 : decode cX2_joiningSign 0 = .ok (.aload_n 0, 1) := by decide +kernel
theorem dX2_joiningSign_1 : decode cX2_joiningSign 1 = .ok (.getfield 17, 3) := by decide +kernel
theorem dX2_joiningSign_4 : decode cX2_joiningSign 4 = .ok (.bipush 21, 2) := by decide +kernel
theorem dX2_joiningSign_6 : decode cX2_joiningSign 6 = .ok (.invokevirtual 77, 3) := by decide +kernel
theorem dX2_joiningSign_9 : decode cX2_joiningSign 9 = .ok (.ifCond .eq 5, 3) := by decide +kernel
theorem dX2_joiningSign_12 : decode cX2_joiningSign 12 = .ok (.iconst 2, 1) := by decide +kernel
theorem dX2_joiningSign_13 : decode cX2_joiningSign 13 = .ok (.ireturn, 1) := by decide +kernel
theorem dX2_joiningSign_14 : decode cX2_joiningSign 14 = .ok (.aload_n 0, 1) := by decide +kernel
theorem dX2_joiningSign_15 : decode cX2_joiningSign 15 = .ok (.getfield 17, 3) := by decide +kernel
theorem dX2_joiningSign_18 : decode cX2_joiningSign 18 = .ok (.bipush 22, 2) := by decide +kernel
theorem dX2_joiningSign_20 : decode cX2_joiningSign 20 = .ok (.invokevirtual 77, 3) := by decide +kernel
theorem dX2_joiningSign_23 : decode cX2_joiningSign 23 = .ok (.ifCond .eq 5, 3) := by decide +kernel
theorem dX2_joiningSign_26 : decode cX2_joiningSign 26 = .ok (.iconst 3, 1) := by decide +kernel
theorem dX2_joiningSign_27 : decode cX2_joiningSign 27 = .ok (.ireturn, 1) := by decide +kernel
theorem dX2_joiningSign_28 : decode cX2_joiningSign 28 = .ok (.aload_n 0, 1) := by decide +kernel
theorem dX2_joiningSign_29 : decode cX2_joiningSign 29 = .ok (.getfield 17, 3) := by decide +kernel
theorem dX2_joiningSign_32 : decode cX2_joiningSign 32 = .ok (.getfield 58, 3) := by decide +kernel
theorem dX2_joiningSign_35 : decode cX2_joiningSign 35 = .ok (.iconst 4, 1) := by decide +kernel
theorem dX2_joiningSign_36 : decode cX2_joiningSign 36 = .ok (.if_icmp .ne 13, 3) := by decide +kernel
theorem dX2_joiningSign_39 : decode cX2_joiningSign 39 = .ok (.aload_n 0, 1) := by decide +kernel
theorem dX2_joiningSign_40 : decode cX2_joiningSign 40 = .ok (.getfield 17, 3) := by decide +kernel
theorem dX2_joiningSign_43 : decode cX2_joiningSign 43 = .ok (.getfield 61, 3) := by decide +kernel
theorem dX2_joiningSign_46 : decode cX2_joiningSign 46 = .ok (.goto 4, 3) := by decide +kernel
theorem dX2_joiningSign_49 : decode cX2_joiningSign 49 = .ok (.iconst (-1), 1) := by decide +kernel
theorem dX2_joiningSign_50 : decode cX2_joiningSign 50 = .ok (.ireturn, 1) := by decide +kernel
theorem dX2_release_0 : decode cX2_release 0 = .ok (.aload_n 0, 1) := by decide +kernel
theorem dX2_release_1 : decode cX2_release 1 = .ok (.getfield 25, 3) := by decide +kernel
theorem dX2_release_4 : decode cX2_release 4 = .ok (.ifCond .le 51, 3) := by decide +kernel
theorem dX2_release_7 : decode cX2_release 7 = .ok (.aload_n 0, 1) := by decide +kernel
theorem dX2_release_8 : decode cX2_release 8 = .ok (.getfield 13, 3) := by decide +kernel
theorem dX2_release_11 : decode cX2_release 11 = .ok (.aload_n 0, 1) := by decide +kernel
theorem dX2_release_12 : decode cX2_release 12 = .ok (.getfield 25, 3) := by decide +kernel
theorem dX2_release_15 : decode cX2_release 15 = .ok (.iconst 1, 1) := by decide +kernel
theorem dX2_release_16 : decode cX2_release 16 = .ok (.isub, 1) := by decide +kernel
theorem dX2_release_17 : decode cX2_release 17 = .ok (.iaload, 1) := by decide +kernel
theorem dX2_release_18 : decode cX2_release 18 = .ok (.invokestatic 95, 3) := by decide +kernel
theorem dX2_release_21 : decode cX2_release 21 = .ok (.iload_n 1, 1) := by decide +kernel
theorem dX2_release_22 : decode cX2_release 22 = .ok (.if_icmp .lt 33, 3) := by decide +kernel
theorem dX2_release_25 : decode cX2_release 25 = .ok (.aload_n 0, 1) := by decide +kernel
theorem dX2_release_26 : decode cX2_release 26 = .ok (.dup, 1) := by decide +kernel
theorem dX2_release_27 : decode cX2_release 27 = .ok (.getfield 25, 3) := by decide +kernel
theorem dX2_release_30 : decode cX2_release 30 = .ok (.iconst 1, 1) := by decide +kernel
theorem dX2_release_31 : decode cX2_release 31 = .ok (.isub, 1) := by decide +kernel
theorem dX2_release_32 : decode cX2_release 32 = .ok (.putfield 25, 3) := by decide +kernel
theorem dX2_release_35 : decode cX2_release 35 = .ok (.aload_n 0, 1) := by decide +kernel
theorem dX2_release_36 : decode cX2_release 36 = .ok (.getfield 21, 3) := by decide +kernel
theorem dX2_release_39 : decode cX2_release 39 = .ok (.aload_n 0, 1) := by decide +kernel
theorem dX2_release_40 : decode cX2_release 40 = .ok (.getfield 13, 3) := by decide +kernel
theorem dX2_release_43 : decode cX2_release 43 = .ok (.aload_n 0, 1) := by decide +kernel
theorem dX2_release_44 : decode cX2_release 44 = .ok (.getfield 25, 3) := by decide +kernel
theorem dX2_release_47 : decode cX2_release 47 = .ok (.iaload, 1) := by decide +kernel
theorem dX2_release_48 : decode cX2_release 48 = .ok (.iconst 0, 1) := by decide +kernel
theorem dX2_release_49 : decode cX2_release 49 = .ok (.invokevirtual 91, 3) := by decide +kernel
theorem dX2_release_52 : decode cX2_release 52 = .ok (.goto (-52), 3) := by decide +kernel
theorem dX2_release_55 : decode cX2_release 55 = .ok (.return_, 1) := by decide +kernel
theorem dX2_bindingOf_0 : decode cX2_bindingOf 0 = .ok (.iload_n 0, 1) := by decide +kernel
theorem dX2_bindingOf_1 : decode cX2_bindingOf 1 = .ok (.tableswitch 80 2 14 #[67, 69, 71, 73, 73, 73, 73, 73, 73, 75, 75, 77, 77], 67) := by decide +kernel
theorem dX2_bindingOf_68 : decode cX2_bindingOf 68 = .ok (.iconst 1, 1) := by decide +kernel
theorem dX2_bindingOf_69 : decode cX2_bindingOf 69 = .ok (.ireturn, 1) := by decide +kernel
theorem dX2_bindingOf_70 : decode cX2_bindingOf 70 = .ok (.iconst 2, 1) := by decide +kernel
theorem dX2_bindingOf_71 : decode cX2_bindingOf 71 = .ok (.ireturn, 1) := by decide +kernel
theorem dX2_bindingOf_72 : decode cX2_bindingOf 72 = .ok (.iconst 3, 1) := by decide +kernel
theorem dX2_bindingOf_73 : decode cX2_bindingOf 73 = .ok (.ireturn, 1) := by decide +kernel
theorem dX2_bindingOf_74 : decode cX2_bindingOf 74 = .ok (.iconst 4, 1) := by decide +kernel
theorem dX2_bindingOf_75 : decode cX2_bindingOf 75 = .ok (.ireturn, 1) := by decide +kernel
theorem dX2_bindingOf_76 : decode cX2_bindingOf 76 = .ok (.iconst 5, 1) := by decide +kernel
theorem dX2_bindingOf_77 : decode cX2_bindingOf 77 = .ok (.ireturn, 1) := by decide +kernel
theorem dX2_bindingOf_78 : decode cX2_bindingOf 78 = .ok (.bipush 6, 2) := by decide +kernel
theorem dX2_bindingOf_80 : decode cX2_bindingOf 80 = .ok (.ireturn, 1) := by decide +kernel
theorem dX2_bindingOf_81 : decode cX2_bindingOf 81 = .ok (.iconst 0, 1) := by decide +kernel
theorem dX2_bindingOf_82 : decode cX2_bindingOf 82 = .ok (.ireturn, 1) := by decide +kernel
theorem dX3_init_0 : decode cX3_init 0 = .ok (.aload_n 0, 1) := by decide +kernel
theorem dX3_init_1 : decode cX3_init 1 = .ok (.invokespecial 3, 3) := by decide +kernel
theorem dX3_init_4 : decode cX3_init 4 = .ok (.aload_n 0, 1) := by decide +kernel
theorem dX3_init_5 : decode cX3_init 5 = .ok (.aload_n 1, 1) := by decide +kernel
theorem dX3_init_6 : decode cX3_init 6 = .ok (.putfield 9, 3) := by decide +kernel
theorem dX3_init_9 : decode cX3_init 9 = .ok (.aload_n 0, 1) := by decide +kernel
theorem dX3_init_10 : decode cX3_init 10 = .ok (.new 15, 3) := by decide +kernel
theorem dX3_init_13 : decode cX3_init 13 = .ok (.dup, 1) := by decide +kernel
theorem dX3_init_14 : decode cX3_init 14 = .ok (.aload_n 1, 1) := by decide +kernel
theorem dX3_init_15 : decode cX3_init 15 = .ok (.getfield 17, 3) := by decide +kernel
theorem dX3_init_18 : decode cX3_init 18 = .ok (.aload_n 2, 1) := by decide +kernel
theorem dX3_init_19 : decode cX3_init 19 = .ok (.invokespecial 23, 3) := by decide +kernel
theorem dX3_init_22 : decode cX3_init 22 = .ok (.putfield 26, 3) := by decide +kernel
theorem dX3_init_25 : decode cX3_init 25 = .ok (.aload_n 0, 1) := by decide +kernel
theorem dX3_init_26 : decode cX3_init 26 = .ok (.new 15, 3) := by decide +kernel
theorem dX3_init_29 : decode cX3_init 29 = .ok (.dup, 1) := by decide +kernel
theorem dX3_init_30 : decode cX3_init 30 = .ok (.aload_n 1, 1) := by decide +kernel
theorem dX3_init_31 : decode cX3_init 31 = .ok (.getfield 17, 3) := by decide +kernel
theorem dX3_init_34 : decode cX3_init 34 = .ok (.aload_n 2, 1) := by decide +kernel
theorem dX3_init_35 : decode cX3_init 35 = .ok (.invokespecial 23, 3) := by decide +kernel
theorem dX3_init_38 : decode cX3_init 38 = .ok (.putfield 30, 3) := by decide +kernel
theorem dX3_init_41 : decode cX3_init 41 = .ok (.aload_n 0, 1) := by decide +kernel
theorem dX3_init_42 : decode cX3_init 42 = .ok (.aload_n 2, 1) := by decide +kernel
theorem dX3_init_43 : decode cX3_init 43 = .ok (.invokevirtual 33, 3) := by decide +kernel
theorem dX3_init_46 : decode cX3_init 46 = .ok (.return_, 1) := by decide +kernel
theorem dX3_serve_0 : decode cX3_serve 0 = .ok (.aload_n 0, 1) := by decide +kernel
theorem dX3_serve_1 : decode cX3_serve 1 = .ok (.aload_n 1, 1) := by decide +kernel
theorem dX3_serve_2 : decode cX3_serve 2 = .ok (.putfield 37, 3) := by decide +kernel
theorem dX3_serve_5 : decode cX3_serve 5 = .ok (.aload_n 0, 1) := by decide +kernel
theorem dX3_serve_6 : decode cX3_serve 6 = .ok (.iconst 0, 1) := by decide +kernel
theorem dX3_serve_7 : decode cX3_serve 7 = .ok (.putfield 41, 3) := by decide +kernel
theorem dX3_serve_10 : decode cX3_serve 10 = .ok (.return_, 1) := by decide +kernel
theorem dX3_refresh_0 : decode cX3_refresh 0 = .ok (.aload_n 0, 1) := by decide +kernel
theorem dX3_refresh_1 : decode cX3_refresh 1 = .ok (.getfield 41, 3) := by decide +kernel
theorem dX3_refresh_4 : decode cX3_refresh 4 = .ok (.ifCond .eq 4, 3) := by decide +kernel
theorem dX3_refresh_7 : decode cX3_refresh 7 = .ok (.return_, 1) := by decide +kernel
theorem dX3_refresh_8 : decode cX3_refresh 8 = .ok (.iconst 0, 1) := by decide +kernel
theorem dX3_refresh_9 : decode cX3_refresh 9 = .ok (.istore_n 1, 1) := by decide +kernel
theorem dX3_refresh_10 : decode cX3_refresh 10 = .ok (.iload_n 1, 1) := by decide +kernel
theorem dX3_refresh_11 : decode cX3_refresh 11 = .ok (.aload_n 0, 1) := by decide +kernel
theorem dX3_refresh_12 : decode cX3_refresh 12 = .ok (.getfield 37, 3) := by decide +kernel
theorem dX3_refresh_15 : decode cX3_refresh 15 = .ok (.getfield 45, 3) := by decide +kernel
theorem dX3_refresh_18 : decode cX3_refresh 18 = .ok (.if_icmp .ge 40, 3) := by decide +kernel
theorem dX3_refresh_21 : decode cX3_refresh 21 = .ok (.aload_n 0, 1) := by decide +kernel
theorem dX3_refresh_22 : decode cX3_refresh 22 = .ok (.getfield 30, 3) := by decide +kernel
theorem dX3_refresh_25 : decode cX3_refresh 25 = .ok (.getfield 51, 3) := by decide +kernel
theorem dX3_refresh_28 : decode cX3_refresh 28 = .ok (.iload_n 1, 1) := by decide +kernel
theorem dX3_refresh_29 : decode cX3_refresh 29 = .ok (.aload_n 0, 1) := by decide +kernel
theorem dX3_refresh_30 : decode cX3_refresh 30 = .ok (.getfield 9, 3) := by decide +kernel
theorem dX3_refresh_33 : decode cX3_refresh 33 = .ok (.getfield 17, 3) := by decide +kernel
theorem dX3_refresh_36 : decode cX3_refresh 36 = .ok (.iload_n 1, 1) := by decide +kernel
theorem dX3_refresh_37 : decode cX3_refresh 37 = .ok (.iaload, 1) := by decide +kernel
theorem dX3_refresh_38 : decode cX3_refresh 38 = .ok (.iconst (-1), 1) := by decide +kernel
theorem dX3_refresh_39 : decode cX3_refresh 39 = .ok (.if_icmp .ne 7, 3) := by decide +kernel
theorem dX3_refresh_42 : decode cX3_refresh 42 = .ok (.lconst 0, 1) := by decide +kernel
theorem dX3_refresh_43 : decode cX3_refresh 43 = .ok (.goto 8, 3) := by decide +kernel
theorem dX3_refresh_46 : decode cX3_refresh 46 = .ok (.aload_n 0, 1) := by decide +kernel
theorem dX3_refresh_47 : decode cX3_refresh 47 = .ok (.iload_n 1, 1) := by decide +kernel
theorem dX3_refresh_48 : decode cX3_refresh 48 = .ok (.invokevirtual 55, 3) := by decide +kernel
theorem dX3_refresh_51 : decode cX3_refresh 51 = .ok (.lastore, 1) := by decide +kernel
theorem dX3_refresh_52 : decode cX3_refresh 52 = .ok (.iinc 1 1, 3) := by decide +kernel
theorem dX3_refresh_55 : decode cX3_refresh 55 = .ok (.goto (-45), 3) := by decide +kernel
theorem dX3_refresh_58 : decode cX3_refresh 58 = .ok (.aload_n 0, 1) := by decide +kernel
theorem dX3_refresh_59 : decode cX3_refresh 59 = .ok (.getfield 26, 3) := by decide +kernel
theorem dX3_refresh_62 : decode cX3_refresh 62 = .ok (.aload_n 0, 1) := by decide +kernel
theorem dX3_refresh_63 : decode cX3_refresh 63 = .ok (.getfield 37, 3) := by decide +kernel
theorem dX3_refresh_66 : decode cX3_refresh 66 = .ok (.invokevirtual 59, 3) := by decide +kernel
theorem dX3_refresh_69 : decode cX3_refresh 69 = .ok (.aload_n 0, 1) := by decide +kernel
theorem dX3_refresh_70 : decode cX3_refresh 70 = .ok (.getfield 30, 3) := by decide +kernel
theorem dX3_refresh_73 : decode cX3_refresh 73 = .ok (.aload_n 0, 1) := by decide +kernel
theorem dX3_refresh_74 : decode cX3_refresh 74 = .ok (.getfield 37, 3) := by decide +kernel
theorem dX3_refresh_77 : decode cX3_refresh 77 = .ok (.invokevirtual 59, 3) := by decide +kernel
theorem dX3_refresh_80 : decode cX3_refresh 80 = .ok (.aload_n 0, 1) := by decide +kernel
theorem dX3_refresh_81 : decode cX3_refresh 81 = .ok (.iconst 1, 1) := by decide +kernel
theorem dX3_refresh_82 : decode cX3_refresh 82 = .ok (.putfield 41, 3) := by decide +kernel
theorem dX3_refresh_85 : decode cX3_refresh 85 = .ok (.return_, 1) := by decide +kernel
theorem dX3_fallOf_0 : decode cX3_fallOf 0 = .ok (.aload_n 0, 1) := by decide +kernel
theorem dX3_fallOf_1 : decode cX3_fallOf 1 = .ok (.getfield 37, 3) := by decide +kernel
theorem dX3_fallOf_4 : decode cX3_fallOf 4 = .ok (.aload_n 0, 1) := by decide +kernel
theorem dX3_fallOf_5 : decode cX3_fallOf 5 = .ok (.getfield 9, 3) := by decide +kernel
theorem dX3_fallOf_8 : decode cX3_fallOf 8 = .ok (.getfield 17, 3) := by decide +kernel
theorem dX3_fallOf_11 : decode cX3_fallOf 11 = .ok (.iload_n 1, 1) := by decide +kernel
theorem dX3_fallOf_12 : decode cX3_fallOf 12 = .ok (.iaload, 1) := by decide +kernel
theorem dX3_fallOf_13 : decode cX3_fallOf 13 = .ok (.iload_n 1, 1) := by decide +kernel
theorem dX3_fallOf_14 : decode cX3_fallOf 14 = .ok (.invokevirtual 62, 3) := by decide +kernel
theorem dX3_fallOf_17 : decode cX3_fallOf 17 = .ok (.istore_n 2, 1) := by decide +kernel
theorem dX3_fallOf_18 : decode cX3_fallOf 18 = .ok (.aload_n 0, 1) := by decide +kernel
theorem dX3_fallOf_19 : decode cX3_fallOf 19 = .ok (.getfield 37, 3) := by decide +kernel
theorem dX3_fallOf_22 : decode cX3_fallOf 22 = .ok (.getfield 66, 3) := by decide +kernel
theorem dX3_fallOf_25 : decode cX3_fallOf 25 = .ok (.iload_n 1, 1) := by decide +kernel
theorem dX3_fallOf_26 : decode cX3_fallOf 26 = .ok (.aaload, 1) := by decide +kernel
theorem dX3_fallOf_27 : decode cX3_fallOf 27 = .ok (.iconst 0, 1) := by decide +kernel
theorem dX3_fallOf_28 : decode cX3_fallOf 28 = .ok (.iaload, 1) := by decide +kernel
theorem dX3_fallOf_29 : decode cX3_fallOf 29 = .ok (.aload_n 0, 1) := by decide +kernel
theorem dX3_fallOf_30 : decode cX3_fallOf 30 = .ok (.getfield 9, 3) := by decide +kernel
theorem dX3_fallOf_33 : decode cX3_fallOf 33 = .ok (.getfield 70, 3) := by decide +kernel
theorem dX3_fallOf_36 : decode cX3_fallOf 36 = .ok (.iload_n 1, 1) := by decide +kernel
theorem dX3_fallOf_37 : decode cX3_fallOf 37 = .ok (.iaload, 1) := by decide +kernel
theorem dX3_fallOf_38 : decode cX3_fallOf 38 = .ok (.isub, 1) := by decide +kernel
theorem dX3_fallOf_39 : decode cX3_fallOf 39 = .ok (.istore_n 3, 1) := by decide +kernel
theorem dX3_fallOf_40 : decode cX3_fallOf 40 = .ok (.iload_n 3, 1) := by decide +kernel
theorem dX3_fallOf_41 : decode cX3_fallOf 41 = .ok (.aload_n 0, 1) := by decide +kernel
theorem dX3_fallOf_42 : decode cX3_fallOf 42 = .ok (.getfield 37, 3) := by decide +kernel
theorem dX3_fallOf_45 : decode cX3_fallOf 45 = .ok (.getfield 66, 3) := by decide +kernel
theorem dX3_fallOf_48 : decode cX3_fallOf 48 = .ok (.iload_n 2, 1) := by decide +kernel
theorem dX3_fallOf_49 : decode cX3_fallOf 49 = .ok (.aaload, 1) := by decide +kernel
theorem dX3_fallOf_50 : decode cX3_fallOf 50 = .ok (.iconst 0, 1) := by decide +kernel
theorem dX3_fallOf_51 : decode cX3_fallOf 51 = .ok (.iaload, 1) := by decide +kernel
theorem dX3_fallOf_52 : decode cX3_fallOf 52 = .ok (.aload_n 0, 1) := by decide +kernel
theorem dX3_fallOf_53 : decode cX3_fallOf 53 = .ok (.getfield 9, 3) := by decide +kernel
theorem dX3_fallOf_56 : decode cX3_fallOf 56 = .ok (.getfield 73, 3) := by decide +kernel
theorem dX3_fallOf_59 : decode cX3_fallOf 59 = .ok (.iload_n 1, 1) := by decide +kernel
theorem dX3_fallOf_60 : decode cX3_fallOf 60 = .ok (.iaload, 1) := by decide +kernel
theorem dX3_fallOf_61 : decode cX3_fallOf 61 = .ok (.isub, 1) := by decide +kernel
theorem dX3_fallOf_62 : decode cX3_fallOf 62 = .ok (.isub, 1) := by decide +kernel
theorem dX3_fallOf_63 : decode cX3_fallOf 63 = .ok (.ireturn, 1) := by decide +kernel
theorem dX3_carriedBy_0 : decode cX3_carriedBy 0 = .ok (.aload_n 0, 1) := by decide +kernel
theorem dX3_carriedBy_1 : decode cX3_carriedBy 1 = .ok (.getfield 37, 3) := by decide +kernel
theorem dX3_carriedBy_4 : decode cX3_carriedBy 4 = .ok (.getfield 76, 3) := by decide +kernel
theorem dX3_carriedBy_7 : decode cX3_carriedBy 7 = .ok (.aload_n 0, 1) := by decide +kernel
theorem dX3_carriedBy_8 : decode cX3_carriedBy 8 = .ok (.getfield 9, 3) := by decide +kernel
theorem dX3_carriedBy_11 : decode cX3_carriedBy 11 = .ok (.getfield 79, 3) := by decide +kernel
theorem dX3_carriedBy_14 : decode cX3_carriedBy 14 = .ok (.iload_n 1, 1) := by decide +kernel
theorem dX3_carriedBy_15 : decode cX3_carriedBy 15 = .ok (.iaload, 1) := by decide +kernel
theorem dX3_carriedBy_16 : decode cX3_carriedBy 16 = .ok (.aaload, 1) := by decide +kernel
theorem dX3_carriedBy_17 : decode cX3_carriedBy 17 = .ok (.iconst 0, 1) := by decide +kernel
theorem dX3_carriedBy_18 : decode cX3_carriedBy 18 = .ok (.iaload, 1) := by decide +kernel
theorem dX3_carriedBy_19 : decode cX3_carriedBy 19 = .ok (.istore_n 2, 1) := by decide +kernel
theorem dX3_carriedBy_20 : decode cX3_carriedBy 20 = .ok (.aload_n 0, 1) := by decide +kernel
theorem dX3_carriedBy_21 : decode cX3_carriedBy 21 = .ok (.getfield 37, 3) := by decide +kernel
theorem dX3_carriedBy_24 : decode cX3_carriedBy 24 = .ok (.getfield 82, 3) := by decide +kernel
theorem dX3_carriedBy_27 : decode cX3_carriedBy 27 = .ok (.iload_n 2, 1) := by decide +kernel
theorem dX3_carriedBy_28 : decode cX3_carriedBy 28 = .ok (.aload_n 0, 1) := by decide +kernel
theorem dX3_carriedBy_29 : decode cX3_carriedBy 29 = .ok (.getfield 37, 3) := by decide +kernel
theorem dX3_carriedBy_32 : decode cX3_carriedBy 32 = .ok (.aload_n 0, 1) := by decide +kernel
theorem dX3_carriedBy_33 : decode cX3_carriedBy 33 = .ok (.getfield 9, 3) := by decide +kernel
theorem dX3_carriedBy_36 : decode cX3_carriedBy 36 = .ok (.getfield 17, 3) := by decide +kernel
theorem dX3_carriedBy_39 : decode cX3_carriedBy 39 = .ok (.iload_n 1, 1) := by decide +kernel
theorem dX3_carriedBy_40 : decode cX3_carriedBy 40 = .ok (.iaload, 1) := by decide +kernel
theorem dX3_carriedBy_41 : decode cX3_carriedBy 41 = .ok (.aload_n 0, 1) := by decide +kernel
theorem dX3_carriedBy_42 : decode cX3_carriedBy 42 = .ok (.iload_n 1, 1) := by decide +kernel
theorem dX3_carriedBy_43 : decode cX3_carriedBy 43 = .ok (.invokevirtual 86, 3) := by decide +kernel
theorem dX3_carriedBy_46 : decode cX3_carriedBy 46 = .ok (.invokevirtual 90, 3) := by decide +kernel
theorem dX3_carriedBy_49 : decode cX3_carriedBy 49 = .ok (.invokevirtual 93, 3) := by decide +kernel
theorem dX3_carriedBy_52 : decode cX3_carriedBy 52 = .ok (.lreturn, 1) := by decide +kernel
theorem dX3_pipeCost_0 : decode cX3_pipeCost 0 = .ok (.aload_n 0, 1) := by decide +kernel
theorem dX3_pipeCost_1 : decode cX3_pipeCost 1 = .ok (.getfield 37, 3) := by decide +kernel
theorem dX3_pipeCost_4 : decode cX3_pipeCost 4 = .ok (.getfield 76, 3) := by decide +kernel
theorem dX3_pipeCost_7 : decode cX3_pipeCost 7 = .ok (.aload_n 0, 1) := by decide +kernel
theorem dX3_pipeCost_8 : decode cX3_pipeCost 8 = .ok (.getfield 9, 3) := by decide +kernel
theorem dX3_pipeCost_11 : decode cX3_pipeCost 11 = .ok (.getfield 79, 3) := by decide +kernel
theorem dX3_pipeCost_14 : decode cX3_pipeCost 14 = .ok (.iload_n 1, 1) := by decide +kernel
theorem dX3_pipeCost_15 : decode cX3_pipeCost 15 = .ok (.iaload, 1) := by decide +kernel
theorem dX3_pipeCost_16 : decode cX3_pipeCost 16 = .ok (.aaload, 1) := by decide +kernel
theorem dX3_pipeCost_17 : decode cX3_pipeCost 17 = .ok (.astore_n 2, 1) := by decide +kernel
theorem dX3_pipeCost_18 : decode cX3_pipeCost 18 = .ok (.aload_n 0, 1) := by decide +kernel
theorem dX3_pipeCost_19 : decode cX3_pipeCost 19 = .ok (.getfield 9, 3) := by decide +kernel
theorem dX3_pipeCost_22 : decode cX3_pipeCost 22 = .ok (.getfield 70, 3) := by decide +kernel
theorem dX3_pipeCost_25 : decode cX3_pipeCost 25 = .ok (.iload_n 1, 1) := by decide +kernel
theorem dX3_pipeCost_26 : decode cX3_pipeCost 26 = .ok (.iaload, 1) := by decide +kernel
theorem dX3_pipeCost_27 : decode cX3_pipeCost 27 = .ok (.aload_n 0, 1) := by decide +kernel
theorem dX3_pipeCost_28 : decode cX3_pipeCost 28 = .ok (.getfield 9, 3) := by decide +kernel
theorem dX3_pipeCost_31 : decode cX3_pipeCost 31 = .ok (.getfield 73, 3) := by decide +kernel
theorem dX3_pipeCost_34 : decode cX3_pipeCost 34 = .ok (.iload_n 1, 1) := by decide +kernel
theorem dX3_pipeCost_35 : decode cX3_pipeCost 35 = .ok (.iaload, 1) := by decide +kernel
theorem dX3_pipeCost_36 : decode cX3_pipeCost 36 = .ok (.iadd, 1) := by decide +kernel
theorem dX3_pipeCost_37 : decode cX3_pipeCost 37 = .ok (.iconst 2, 1) := by decide +kernel
theorem dX3_pipeCost_38 : decode cX3_pipeCost 38 = .ok (.idiv, 1) := by decide +kernel
theorem dX3_pipeCost_39 : decode cX3_pipeCost 39 = .ok (.istore_n 3, 1) := by decide +kernel
theorem dX3_pipeCost_40 : decode cX3_pipeCost 40 = .ok (.aload_n 0, 1) := by decide +kernel
theorem dX3_pipeCost_41 : decode cX3_pipeCost 41 = .ok (.getfield 37, 3) := by decide +kernel
theorem dX3_pipeCost_44 : decode cX3_pipeCost 44 = .ok (.getfield 82, 3) := by decide +kernel
theorem dX3_pipeCost_47 : decode cX3_pipeCost 47 = .ok (.aload_n 2, 1) := by decide +kernel
theorem dX3_pipeCost_48 : decode cX3_pipeCost 48 = .ok (.iconst 0, 1) := by decide +kernel
theorem dX3_pipeCost_49 : decode cX3_pipeCost 49 = .ok (.iaload, 1) := by decide +kernel
theorem dX3_pipeCost_50 : decode cX3_pipeCost 50 = .ok (.iload_n 3, 1) := by decide +kernel
theorem dX3_pipeCost_51 : decode cX3_pipeCost 51 = .ok (.aload_n 0, 1) := by decide +kernel
theorem dX3_pipeCost_52 : decode cX3_pipeCost 52 = .ok (.getfield 37, 3) := by decide +kernel
theorem dX3_pipeCost_55 : decode cX3_pipeCost 55 = .ok (.iload_n 1, 1) := by decide +kernel
theorem dX3_pipeCost_56 : decode cX3_pipeCost 56 = .ok (.iload_n 3, 1) := by decide +kernel
theorem dX3_pipeCost_57 : decode cX3_pipeCost 57 = .ok (.invokevirtual 99, 3) := by decide +kernel
theorem dX3_pipeCost_60 : decode cX3_pipeCost 60 = .ok (.invokevirtual 102, 3) := by decide +kernel
theorem dX3_pipeCost_63 : decode cX3_pipeCost 63 = .ok (.lstore 4, 2) := by decide +kernel
theorem dX3_pipeCost_65 : decode cX3_pipeCost 65 = .ok (.aload_n 0, 1) := by decide +kernel
theorem dX3_pipeCost_66 : decode cX3_pipeCost 66 = .ok (.getfield 37, 3) := by decide +kernel
theorem dX3_pipeCost_69 : decode cX3_pipeCost 69 = .ok (.getfield 106, 3) := by decide +kernel
theorem dX3_pipeCost_72 : decode cX3_pipeCost 72 = .ok (.aload_n 0, 1) := by decide +kernel
theorem dX3_pipeCost_73 : decode cX3_pipeCost 73 = .ok (.getfield 9, 3) := by decide +kernel
theorem dX3_pipeCost_76 : decode cX3_pipeCost 76 = .ok (.getfield 17, 3) := by decide +kernel
theorem dX3_pipeCost_79 : decode cX3_pipeCost 79 = .ok (.iload_n 1, 1) := by decide +kernel
theorem dX3_pipeCost_80 : decode cX3_pipeCost 80 = .ok (.iaload, 1) := by decide +kernel
theorem dX3_pipeCost_81 : decode cX3_pipeCost 81 = .ok (.aaload, 1) := by decide +kernel
theorem dX3_pipeCost_82 : decode cX3_pipeCost 82 = .ok (.iconst 2, 1) := by decide +kernel
theorem dX3_pipeCost_83 : decode cX3_pipeCost 83 = .ok (.iaload, 1) := by decide +kernel
theorem dX3_pipeCost_84 : decode cX3_pipeCost 84 = .ok (.i2l, 1) := by decide +kernel
theorem dX3_pipeCost_85 : decode cX3_pipeCost 85 = .ok (.aload_n 2, 1) := by decide +kernel
theorem dX3_pipeCost_86 : decode cX3_pipeCost 86 = .ok (.iconst 1, 1) := by decide +kernel
theorem dX3_pipeCost_87 : decode cX3_pipeCost 87 = .ok (.iaload, 1) := by decide +kernel
theorem dX3_pipeCost_88 : decode cX3_pipeCost 88 = .ok (.i2l, 1) := by decide +kernel
theorem dX3_pipeCost_89 : decode cX3_pipeCost 89 = .ok (.lload 4, 2) := by decide +kernel
theorem dX3_pipeCost_91 : decode cX3_pipeCost 91 = .ok (.ladd, 1) := by decide +kernel
theorem dX3_pipeCost_92 : decode cX3_pipeCost 92 = .ok (.lmul, 1) := by decide +kernel
theorem dX3_pipeCost_93 : decode cX3_pipeCost 93 = .ok (.lreturn, 1) := by decide +kernel
theorem dX3_pumpCost_0 : decode cX3_pumpCost 0 = .ok (.aload_n 0, 1) := by decide +kernel
theorem dX3_pumpCost_1 : decode cX3_pumpCost 1 = .ok (.iload_n 1, 1) := by decide +kernel
theorem dX3_pumpCost_2 : decode cX3_pumpCost 2 = .ok (.invokevirtual 108, 3) := by decide +kernel
theorem dX3_pumpCost_5 : decode cX3_pumpCost 5 = .ok (.istore_n 2, 1) := by decide +kernel
theorem dX3_pumpCost_6 : decode cX3_pumpCost 6 = .ok (.iload_n 2, 1) := by decide +kernel
theorem dX3_pumpCost_7 : decode cX3_pumpCost 7 = .ok (.ifCond .ne 5, 3) := by decide +kernel
theorem dX3_pumpCost_10 : decode cX3_pumpCost 10 = .ok (.lconst 0, 1) := by decide +kernel
theorem dX3_pumpCost_11 : decode cX3_pumpCost 11 = .ok (.lreturn, 1) := by decide +kernel
theorem dX3_pumpCost_12 : decode cX3_pumpCost 12 = .ok (.aload_n 0, 1) := by decide +kernel
theorem dX3_pumpCost_13 : decode cX3_pumpCost 13 = .ok (.invokevirtual 111, 3) := by decide +kernel
theorem dX3_pumpCost_16 : decode cX3_pumpCost 16 = .ok (.aload_n 0, 1) := by decide +kernel
theorem dX3_pumpCost_17 : decode cX3_pumpCost 17 = .ok (.getfield 37, 3) := by decide +kernel
theorem dX3_pumpCost_20 : decode cX3_pumpCost 20 = .ok (.getfield 82, 3) := by decide +kernel
theorem dX3_pumpCost_23 : decode cX3_pumpCost 23 = .ok (.iload_n 2, 1) := by decide +kernel
theorem dX3_pumpCost_24 : decode cX3_pumpCost 24 = .ok (.aload_n 0, 1) := by decide +kernel
theorem dX3_pumpCost_25 : decode cX3_pumpCost 25 = .ok (.getfield 26, 3) := by decide +kernel
theorem dX3_pumpCost_28 : decode cX3_pumpCost 28 = .ok (.iload_n 1, 1) := by decide +kernel
theorem dX3_pumpCost_29 : decode cX3_pumpCost 29 = .ok (.invokevirtual 114, 3) := by decide +kernel
theorem dX3_pumpCost_32 : decode cX3_pumpCost 32 = .ok (.invokevirtual 117, 3) := by decide +kernel
theorem dX3_pumpCost_35 : decode cX3_pumpCost 35 = .ok (.lreturn, 1) := by decide +kernel
theorem dX3_runsTo_0 : decode cX3_runsTo 0 = .ok (.aload_n 0, 1) := by decide +kernel
theorem dX3_runsTo_1 : decode cX3_runsTo 1 = .ok (.getfield 9, 3) := by decide +kernel
theorem dX3_runsTo_4 : decode cX3_runsTo 4 = .ok (.getfield 17, 3) := by decide +kernel
theorem dX3_runsTo_7 : decode cX3_runsTo 7 = .ok (.iload_n 1, 1) := by decide +kernel
theorem dX3_runsTo_8 : decode cX3_runsTo 8 = .ok (.iaload, 1) := by decide +kernel
theorem dX3_runsTo_9 : decode cX3_runsTo 9 = .ok (.iconst (-1), 1) := by decide +kernel
theorem dX3_runsTo_10 : decode cX3_runsTo 10 = .ok (.if_icmp .eq 28, 3) := by decide +kernel
theorem dX3_runsTo_13 : decode cX3_runsTo 13 = .ok (.aload_n 0, 1) := by decide +kernel
theorem dX3_runsTo_14 : decode cX3_runsTo 14 = .ok (.getfield 37, 3) := by decide +kernel
theorem dX3_runsTo_17 : decode cX3_runsTo 17 = .ok (.aload_n 0, 1) := by decide +kernel
theorem dX3_runsTo_18 : decode cX3_runsTo 18 = .ok (.getfield 9, 3) := by decide +kernel
theorem dX3_runsTo_21 : decode cX3_runsTo 21 = .ok (.getfield 17, 3) := by decide +kernel
theorem dX3_runsTo_24 : decode cX3_runsTo 24 = .ok (.iload_n 1, 1) := by decide +kernel
theorem dX3_runsTo_25 : decode cX3_runsTo 25 = .ok (.iaload, 1) := by decide +kernel
theorem dX3_runsTo_26 : decode cX3_runsTo 26 = .ok (.iload_n 1, 1) := by decide +kernel
theorem dX3_runsTo_27 : decode cX3_runsTo 27 = .ok (.invokevirtual 62, 3) := by decide +kernel
theorem dX3_runsTo_30 : decode cX3_runsTo 30 = .ok (.iload_n 2, 1) := by decide +kernel
theorem dX3_runsTo_31 : decode cX3_runsTo 31 = .ok (.if_icmp .ne 7, 3) := by decide +kernel
theorem dX3_runsTo_34 : decode cX3_runsTo 34 = .ok (.iconst 1, 1) := by decide +kernel
theorem dX3_runsTo_35 : decode cX3_runsTo 35 = .ok (.goto 4, 3) := by decide +kernel
theorem dX3_runsTo_38 : decode cX3_runsTo 38 = .ok (.iconst 0, 1) := by decide +kernel
theorem dX3_runsTo_39 : decode cX3_runsTo 39 = .ok (.ireturn, 1) := by decide +kernel
theorem dX3_liftAt_0 : decode cX3_liftAt 0 = .ok (.iconst 0, 1) := by decide +kernel
theorem dX3_liftAt_1 : decode cX3_liftAt 1 = .ok (.istore_n 2, 1) := by decide +kernel
theorem dX3_liftAt_2 : decode cX3_liftAt 2 = .ok (.iconst 0, 1) := by decide +kernel
theorem dX3_liftAt_3 : decode cX3_liftAt 3 = .ok (.istore_n 3, 1) := by decide +kernel
theorem dX3_liftAt_4 : decode cX3_liftAt 4 = .ok (.iload_n 3, 1) := by decide +kernel
theorem dX3_liftAt_5 : decode cX3_liftAt 5 = .ok (.aload_n 0, 1) := by decide +kernel
theorem dX3_liftAt_6 : decode cX3_liftAt 6 = .ok (.getfield 37, 3) := by decide +kernel
theorem dX3_liftAt_9 : decode cX3_liftAt 9 = .ok (.getfield 45, 3) := by decide +kernel
theorem dX3_liftAt_12 : decode cX3_liftAt 12 = .ok (.if_icmp .ge 42, 3) := by decide +kernel
theorem dX3_liftAt_15 : decode cX3_liftAt 15 = .ok (.aload_n 0, 1) := by decide +kernel
theorem dX3_liftAt_16 : decode cX3_liftAt 16 = .ok (.iload_n 3, 1) := by decide +kernel
theorem dX3_liftAt_17 : decode cX3_liftAt 17 = .ok (.iload_n 1, 1) := by decide +kernel
theorem dX3_liftAt_18 : decode cX3_liftAt 18 = .ok (.invokevirtual 121, 3) := by decide +kernel
theorem dX3_liftAt_21 : decode cX3_liftAt 21 = .ok (.ifCond .eq 27, 3) := by decide +kernel
theorem dX3_liftAt_24 : decode cX3_liftAt 24 = .ok (.iload_n 2, 1) := by decide +kernel
theorem dX3_liftAt_25 : decode cX3_liftAt 25 = .ok (.aload_n 0, 1) := by decide +kernel
theorem dX3_liftAt_26 : decode cX3_liftAt 26 = .ok (.getfield 9, 3) := by decide +kernel
theorem dX3_liftAt_29 : decode cX3_liftAt 29 = .ok (.getfield 73, 3) := by decide +kernel
theorem dX3_liftAt_32 : decode cX3_liftAt 32 = .ok (.iload_n 3, 1) := by decide +kernel
theorem dX3_liftAt_33 : decode cX3_liftAt 33 = .ok (.iaload, 1) := by decide +kernel
theorem dX3_liftAt_34 : decode cX3_liftAt 34 = .ok (.aload_n 0, 1) := by decide +kernel
theorem dX3_liftAt_35 : decode cX3_liftAt 35 = .ok (.getfield 9, 3) := by decide +kernel
theorem dX3_liftAt_38 : decode cX3_liftAt 38 = .ok (.getfield 70, 3) := by decide +kernel
theorem dX3_liftAt_41 : decode cX3_liftAt 41 = .ok (.iload_n 1, 1) := by decide +kernel
theorem dX3_liftAt_42 : decode cX3_liftAt 42 = .ok (.iaload, 1) := by decide +kernel
theorem dX3_liftAt_43 : decode cX3_liftAt 43 = .ok (.isub, 1) := by decide +kernel
theorem dX3_liftAt_44 : decode cX3_liftAt 44 = .ok (.invokestatic 125, 3) := by decide +kernel
theorem dX3_liftAt_47 : decode cX3_liftAt 47 = .ok (.istore_n 2, 1) := by decide +kernel
theorem dX3_liftAt_48 : decode cX3_liftAt 48 = .ok (.iinc 3 1, 3) := by decide +kernel
theorem dX3_liftAt_51 : decode cX3_liftAt 51 = .ok (.goto (-47), 3) := by decide +kernel
theorem dX3_liftAt_54 : decode cX3_liftAt 54 = .ok (.iload_n 2, 1) := by decide +kernel
theorem dX3_liftAt_55 : decode cX3_liftAt 55 = .ok (.ireturn, 1) := by decide +kernel
theorem dX3_meetsWider_0 : decode cX3_meetsWider 0 = .ok (.iconst 0, 1) := by decide +kernel
theorem dX3_meetsWider_1 : decode cX3_meetsWider 1 = .ok (.istore_n 2, 1) := by decide +kernel
theorem dX3_meetsWider_2 : decode cX3_meetsWider 2 = .ok (.iload_n 2, 1) := by decide +kernel
theorem dX3_meetsWider_3 : decode cX3_meetsWider 3 = .ok (.aload_n 0, 1) := by decide +kernel
theorem dX3_meetsWider_4 : decode cX3_meetsWider 4 = .ok (.getfield 37, 3) := by decide +kernel
theorem dX3_meetsWider_7 : decode cX3_meetsWider 7 = .ok (.getfield 45, 3) := by decide +kernel
theorem dX3_meetsWider_10 : decode cX3_meetsWider 10 = .ok (.if_icmp .ge 41, 3) := by decide +kernel
theorem dX3_meetsWider_13 : decode cX3_meetsWider 13 = .ok (.aload_n 0, 1) := by decide +kernel
theorem dX3_meetsWider_14 : decode cX3_meetsWider 14 = .ok (.iload_n 2, 1) := by decide +kernel
theorem dX3_meetsWider_15 : decode cX3_meetsWider 15 = .ok (.iload_n 1, 1) := by decide +kernel
theorem dX3_meetsWider_16 : decode cX3_meetsWider 16 = .ok (.invokevirtual 121, 3) := by decide +kernel
theorem dX3_meetsWider_19 : decode cX3_meetsWider 19 = .ok (.ifCond .eq 26, 3) := by decide +kernel
theorem dX3_meetsWider_22 : decode cX3_meetsWider 22 = .ok (.aload_n 0, 1) := by decide +kernel
theorem dX3_meetsWider_23 : decode cX3_meetsWider 23 = .ok (.getfield 9, 3) := by decide +kernel
theorem dX3_meetsWider_26 : decode cX3_meetsWider 26 = .ok (.getfield 79, 3) := by decide +kernel
theorem dX3_meetsWider_29 : decode cX3_meetsWider 29 = .ok (.iload_n 2, 1) := by decide +kernel
theorem dX3_meetsWider_30 : decode cX3_meetsWider 30 = .ok (.iaload, 1) := by decide +kernel
theorem dX3_meetsWider_31 : decode cX3_meetsWider 31 = .ok (.aload_n 0, 1) := by decide +kernel
theorem dX3_meetsWider_32 : decode cX3_meetsWider 32 = .ok (.getfield 9, 3) := by decide +kernel
theorem dX3_meetsWider_35 : decode cX3_meetsWider 35 = .ok (.getfield 79, 3) := by decide +kernel
theorem dX3_meetsWider_38 : decode cX3_meetsWider 38 = .ok (.iload_n 1, 1) := by decide +kernel
theorem dX3_meetsWider_39 : decode cX3_meetsWider 39 = .ok (.iaload, 1) := by decide +kernel
theorem dX3_meetsWider_40 : decode cX3_meetsWider 40 = .ok (.if_icmp .le 5, 3) := by decide +kernel
theorem dX3_meetsWider_43 : decode cX3_meetsWider 43 = .ok (.iconst 1, 1) := by decide +kernel
theorem dX3_meetsWider_44 : decode cX3_meetsWider 44 = .ok (.ireturn, 1) := by decide +kernel
theorem dX3_meetsWider_45 : decode cX3_meetsWider 45 = .ok (.iinc 2 1, 3) := by decide +kernel
theorem dX3_meetsWider_48 : decode cX3_meetsWider 48 = .ok (.goto (-46), 3) := by decide +kernel
theorem dX3_meetsWider_51 : decode cX3_meetsWider 51 = .ok (.iconst 0, 1) := by decide +kernel
theorem dX3_meetsWider_52 : decode cX3_meetsWider 52 = .ok (.ireturn, 1) := by decide +kernel
theorem dX3_isCovered_0 : decode cX3_isCovered 0 = .ok (.iload_n 1, 1) := by decide +kernel
theorem dX3_isCovered_1 : decode cX3_isCovered 1 = .ok (.aload_n 0, 1) := by decide +kernel
theorem dX3_isCovered_2 : decode cX3_isCovered 2 = .ok (.getfield 37, 3) := by decide +kernel
theorem dX3_isCovered_5 : decode cX3_isCovered 5 = .ok (.getfield 130, 3) := by decide +kernel
theorem dX3_isCovered_8 : decode cX3_isCovered 8 = .ok (.iconst 0, 1) := by decide +kernel
theorem dX3_isCovered_9 : decode cX3_isCovered 9 = .ok (.iaload, 1) := by decide +kernel
theorem dX3_isCovered_10 : decode cX3_isCovered 10 = .ok (.if_icmp .lt 20, 3) := by decide +kernel
theorem dX3_isCovered_13 : decode cX3_isCovered 13 = .ok (.iload_n 1, 1) := by decide +kernel
theorem dX3_isCovered_14 : decode cX3_isCovered 14 = .ok (.aload_n 0, 1) := by decide +kernel
theorem dX3_isCovered_15 : decode cX3_isCovered 15 = .ok (.getfield 37, 3) := by decide +kernel
theorem dX3_isCovered_18 : decode cX3_isCovered 18 = .ok (.getfield 130, 3) := by decide +kernel
theorem dX3_isCovered_21 : decode cX3_isCovered 21 = .ok (.iconst 1, 1) := by decide +kernel
theorem dX3_isCovered_22 : decode cX3_isCovered 22 = .ok (.iaload, 1) := by decide +kernel
theorem dX3_isCovered_23 : decode cX3_isCovered 23 = .ok (.if_icmp .gt 7, 3) := by decide +kernel
theorem dX3_isCovered_26 : decode cX3_isCovered 26 = .ok (.iconst 1, 1) := by decide +kernel
theorem dX3_isCovered_27 : decode cX3_isCovered 27 = .ok (.goto 4, 3) := by decide +kernel
theorem dX3_isCovered_30 : decode cX3_isCovered 30 = .ok (.iconst 0, 1) := by decide +kernel
theorem dX3_isCovered_31 : decode cX3_isCovered 31 = .ok (.ireturn, 1) := by decide +kernel
theorem dX3_lawBrokenBy_0 : decode cX3_lawBrokenBy 0 = .ok (.aload_n 0, 1) := by decide +kernel
theorem dX3_lawBrokenBy_1 : decode cX3_lawBrokenBy 1 = .ok (.aload_n 0, 1) := by decide +kernel
theorem dX3_lawBrokenBy_2 : decode cX3_lawBrokenBy 2 = .ok (.getfield 9, 3) := by decide +kernel
theorem dX3_lawBrokenBy_5 : decode cX3_lawBrokenBy 5 = .ok (.getfield 70, 3) := by decide +kernel
theorem dX3_lawBrokenBy_8 : decode cX3_lawBrokenBy 8 = .ok (.iload_n 1, 1) := by decide +kernel
theorem dX3_lawBrokenBy_9 : decode cX3_lawBrokenBy 9 = .ok (.iaload, 1) := by decide +kernel
theorem dX3_lawBrokenBy_10 : decode cX3_lawBrokenBy 10 = .ok (.invokevirtual 133, 3) := by decide +kernel
theorem dX3_lawBrokenBy_13 : decode cX3_lawBrokenBy 13 = .ok (.ifCond .eq 19, 3) := by decide +kernel
theorem dX3_lawBrokenBy_16 : decode cX3_lawBrokenBy 16 = .ok (.aload_n 0, 1) := by decide +kernel
theorem dX3_lawBrokenBy_17 : decode cX3_lawBrokenBy 17 = .ok (.aload_n 0, 1) := by decide +kernel
theorem dX3_lawBrokenBy_18 : decode cX3_lawBrokenBy 18 = .ok (.getfield 9, 3) := by decide +kernel
theorem dX3_lawBrokenBy_21 : decode cX3_lawBrokenBy 21 = .ok (.getfield 73, 3) := by decide +kernel
theorem dX3_lawBrokenBy_24 : decode cX3_lawBrokenBy 24 = .ok (.iload_n 1, 1) := by decide +kernel
theorem dX3_lawBrokenBy_25 : decode cX3_lawBrokenBy 25 = .ok (.iaload, 1) := by decide +kernel
theorem dX3_lawBrokenBy_26 : decode cX3_lawBrokenBy 26 = .ok (.invokevirtual 133, 3) := by decide +kernel
theorem dX3_lawBrokenBy_29 : decode cX3_lawBrokenBy 29 = .ok (.ifCond .ne 5, 3) := by decide +kernel
theorem dX3_lawBrokenBy_32 : decode cX3_lawBrokenBy 32 = .ok (.iconst 1, 1) := by decide +kernel
theorem dX3_lawBrokenBy_33 : decode cX3_lawBrokenBy 33 = .ok (.ireturn, 1) := by decide +kernel
theorem dX3_lawBrokenBy_34 : decode cX3_lawBrokenBy 34 = .ok (.aload_n 0, 1) := by decide +kernel
theorem dX3_lawBrokenBy_35 : decode cX3_lawBrokenBy 35 = .ok (.iload_n 1, 1) := by decide +kernel
theorem dX3_lawBrokenBy_36 : decode cX3_lawBrokenBy 36 = .ok (.invokevirtual 86, 3) := by decide +kernel
theorem dX3_lawBrokenBy_39 : decode cX3_lawBrokenBy 39 = .ok (.istore_n 2, 1) := by decide +kernel
theorem dX3_lawBrokenBy_40 : decode cX3_lawBrokenBy 40 = .ok (.aload_n 0, 1) := by decide +kernel
theorem dX3_lawBrokenBy_41 : decode cX3_lawBrokenBy 41 = .ok (.getfield 37, 3) := by decide +kernel
theorem dX3_lawBrokenBy_44 : decode cX3_lawBrokenBy 44 = .ok (.getfield 106, 3) := by decide +kernel
theorem dX3_lawBrokenBy_47 : decode cX3_lawBrokenBy 47 = .ok (.aload_n 0, 1) := by decide +kernel
theorem dX3_lawBrokenBy_48 : decode cX3_lawBrokenBy 48 = .ok (.getfield 9, 3) := by decide +kernel
theorem dX3_lawBrokenBy_51 : decode cX3_lawBrokenBy 51 = .ok (.getfield 17, 3) := by decide +kernel
theorem dX3_lawBrokenBy_54 : decode cX3_lawBrokenBy 54 = .ok (.iload_n 1, 1) := by decide +kernel
theorem dX3_lawBrokenBy_55 : decode cX3_lawBrokenBy 55 = .ok (.iaload, 1) := by decide +kernel
theorem dX3_lawBrokenBy_56 : decode cX3_lawBrokenBy 56 = .ok (.aaload, 1) := by decide +kernel
theorem dX3_lawBrokenBy_57 : decode cX3_lawBrokenBy 57 = .ok (.iconst 2, 1) := by decide +kernel
theorem dX3_lawBrokenBy_58 : decode cX3_lawBrokenBy 58 = .ok (.iaload, 1) := by decide +kernel
theorem dX3_lawBrokenBy_59 : decode cX3_lawBrokenBy 59 = .ok (.istore_n 3, 1) := by decide +kernel
theorem dX3_lawBrokenBy_60 : decode cX3_lawBrokenBy 60 = .ok (.iload_n 2, 1) := by decide +kernel
theorem dX3_lawBrokenBy_61 : decode cX3_lawBrokenBy 61 = .ok (.iload_n 3, 1) := by decide +kernel
theorem dX3_lawBrokenBy_62 : decode cX3_lawBrokenBy 62 = .ok (.aload_n 0, 1) := by decide +kernel
theorem dX3_lawBrokenBy_63 : decode cX3_lawBrokenBy 63 = .ok (.getfield 37, 3) := by decide +kernel
theorem dX3_lawBrokenBy_66 : decode cX3_lawBrokenBy 66 = .ok (.getfield 137, 3) := by decide +kernel
theorem dX3_lawBrokenBy_69 : decode cX3_lawBrokenBy 69 = .ok (.iconst 0, 1) := by decide +kernel
theorem dX3_lawBrokenBy_70 : decode cX3_lawBrokenBy 70 = .ok (.iaload, 1) := by decide +kernel
theorem dX3_lawBrokenBy_71 : decode cX3_lawBrokenBy 71 = .ok (.imul, 1) := by decide +kernel
theorem dX3_lawBrokenBy_72 : decode cX3_lawBrokenBy 72 = .ok (.if_icmp .ge 5, 3) := by decide +kernel
theorem dX3_lawBrokenBy_75 : decode cX3_lawBrokenBy 75 = .ok (.iconst 2, 1) := by decide +kernel
theorem dX3_lawBrokenBy_76 : decode cX3_lawBrokenBy 76 = .ok (.ireturn, 1) := by decide +kernel
theorem dX3_lawBrokenBy_77 : decode cX3_lawBrokenBy 77 = .ok (.iload_n 2, 1) := by decide +kernel
theorem dX3_lawBrokenBy_78 : decode cX3_lawBrokenBy 78 = .ok (.iload_n 3, 1) := by decide +kernel
theorem dX3_lawBrokenBy_79 : decode cX3_lawBrokenBy 79 = .ok (.aload_n 0, 1) := by decide +kernel
theorem dX3_lawBrokenBy_80 : decode cX3_lawBrokenBy 80 = .ok (.getfield 37, 3) := by decide +kernel
theorem dX3_lawBrokenBy_83 : decode cX3_lawBrokenBy 83 = .ok (.getfield 137, 3) := by decide +kernel
theorem dX3_lawBrokenBy_86 : decode cX3_lawBrokenBy 86 = .ok (.iconst 1, 1) := by decide +kernel
theorem dX3_lawBrokenBy_87 : decode cX3_lawBrokenBy 87 = .ok (.iaload, 1) := by decide +kernel
theorem dX3_lawBrokenBy_88 : decode cX3_lawBrokenBy 88 = .ok (.imul, 1) := by decide +kernel
theorem dX3_lawBrokenBy_89 : decode cX3_lawBrokenBy 89 = .ok (.if_icmp .le 5, 3) := by decide +kernel
theorem dX3_lawBrokenBy_92 : decode cX3_lawBrokenBy 92 = .ok (.iconst 3, 1) := by decide +kernel
theorem dX3_lawBrokenBy_93 : decode cX3_lawBrokenBy 93 = .ok (.ireturn, 1) := by decide +kernel
theorem dX3_lawBrokenBy_94 : decode cX3_lawBrokenBy 94 = .ok (.aload_n 0, 1) := by decide +kernel
theorem dX3_lawBrokenBy_95 : decode cX3_lawBrokenBy 95 = .ok (.iload_n 1, 1) := by decide +kernel
theorem dX3_lawBrokenBy_96 : decode cX3_lawBrokenBy 96 = .ok (.invokevirtual 140, 3) := by decide +kernel
theorem dX3_lawBrokenBy_99 : decode cX3_lawBrokenBy 99 = .ok (.ifCond .eq 5, 3) := by decide +kernel
theorem dX3_lawBrokenBy_102 : decode cX3_lawBrokenBy 102 = .ok (.iconst 4, 1) := by decide +kernel
theorem dX3_lawBrokenBy_103 : decode cX3_lawBrokenBy 103 = .ok (.ireturn, 1) := by decide +kernel
theorem dX3_lawBrokenBy_104 : decode cX3_lawBrokenBy 104 = .ok (.aload_n 0, 1) := by decide +kernel
theorem dX3_lawBrokenBy_105 : decode cX3_lawBrokenBy 105 = .ok (.iload_n 1, 1) := by decide +kernel
theorem dX3_lawBrokenBy_106 : decode cX3_lawBrokenBy 106 = .ok (.invokevirtual 108, 3) := by decide +kernel
theorem dX3_lawBrokenBy_109 : decode cX3_lawBrokenBy 109 = .ok (.ifCond .le 19, 3) := by decide +kernel
theorem dX3_lawBrokenBy_112 : decode cX3_lawBrokenBy 112 = .ok (.aload_n 0, 1) := by decide +kernel
theorem dX3_lawBrokenBy_113 : decode cX3_lawBrokenBy 113 = .ok (.getfield 37, 3) := by decide +kernel
theorem dX3_lawBrokenBy_116 : decode cX3_lawBrokenBy 116 = .ok (.getfield 82, 3) := by decide +kernel
theorem dX3_lawBrokenBy_119 : decode cX3_lawBrokenBy 119 = .ok (.iconst 2, 1) := by decide +kernel
theorem dX3_lawBrokenBy_120 : decode cX3_lawBrokenBy 120 = .ok (.invokevirtual 143, 3) := by decide +kernel
theorem dX3_lawBrokenBy_123 : decode cX3_lawBrokenBy 123 = .ok (.ifCond .ne 5, 3) := by decide +kernel
theorem dX3_lawBrokenBy_126 : decode cX3_lawBrokenBy 126 = .ok (.iconst 5, 1) := by decide +kernel
theorem dX3_lawBrokenBy_127 : decode cX3_lawBrokenBy 127 = .ok (.ireturn, 1) := by decide +kernel
theorem dX3_lawBrokenBy_128 : decode cX3_lawBrokenBy 128 = .ok (.aload_n 0, 1) := by decide +kernel
theorem dX3_lawBrokenBy_129 : decode cX3_lawBrokenBy 129 = .ok (.invokevirtual 111, 3) := by decide +kernel
theorem dX3_lawBrokenBy_132 : decode cX3_lawBrokenBy 132 = .ok (.aload_n 0, 1) := by decide +kernel
theorem dX3_lawBrokenBy_133 : decode cX3_lawBrokenBy 133 = .ok (.getfield 26, 3) := by decide +kernel
theorem dX3_lawBrokenBy_136 : decode cX3_lawBrokenBy 136 = .ok (.iload_n 1, 1) := by decide +kernel
theorem dX3_lawBrokenBy_137 : decode cX3_lawBrokenBy 137 = .ok (.invokevirtual 114, 3) := by decide +kernel
theorem dX3_lawBrokenBy_140 : decode cX3_lawBrokenBy 140 = .ok (.aload_n 0, 1) := by decide +kernel
theorem dX3_lawBrokenBy_141 : decode cX3_lawBrokenBy 141 = .ok (.iload_n 1, 1) := by decide +kernel
theorem dX3_lawBrokenBy_142 : decode cX3_lawBrokenBy 142 = .ok (.invokevirtual 55, 3) := by decide +kernel
theorem dX3_lawBrokenBy_145 : decode cX3_lawBrokenBy 145 = .ok (.lcmp, 1) := by decide +kernel
theorem dX3_lawBrokenBy_146 : decode cX3_lawBrokenBy 146 = .ok (.ifCond .le 8, 3) := by decide +kernel
theorem dX3_lawBrokenBy_149 : decode cX3_lawBrokenBy 149 = .ok (.bipush 6, 2) := by decide +kernel
theorem dX3_lawBrokenBy_151 : decode cX3_lawBrokenBy 151 = .ok (.goto 4, 3) := by decide +kernel
theorem dX3_lawBrokenBy_154 : decode cX3_lawBrokenBy 154 = .ok (.iconst 0, 1) := by decide +kernel
theorem dX3_lawBrokenBy_155 : decode cX3_lawBrokenBy 155 = .ok (.ireturn, 1) := by decide +kernel
theorem dX3_allRunOut_0 : decode cX3_allRunOut 0 = .ok (.aload_n 0, 1) := by decide +kernel
theorem dX3_allRunOut_1 : decode cX3_allRunOut 1 = .ok (.getfield 37, 3) := by decide +kernel
theorem dX3_allRunOut_4 : decode cX3_allRunOut 4 = .ok (.getfield 146, 3) := by decide +kernel
theorem dX3_allRunOut_7 : decode cX3_allRunOut 7 = .ok (.iconst (-1), 1) := by decide +kernel
theorem dX3_allRunOut_8 : decode cX3_allRunOut 8 = .ok (.if_icmp .ne 5, 3) := by decide +kernel
theorem dX3_allRunOut_11 : decode cX3_allRunOut 11 = .ok (.iconst 0, 1) := by decide +kernel
theorem dX3_allRunOut_12 : decode cX3_allRunOut 12 = .ok (.ireturn, 1) := by decide +kernel
theorem dX3_allRunOut_13 : decode cX3_allRunOut 13 = .ok (.iconst 1, 1) := by decide +kernel
theorem dX3_allRunOut_14 : decode cX3_allRunOut 14 = .ok (.aload_n 0, 1) := by decide +kernel
theorem dX3_allRunOut_15 : decode cX3_allRunOut 15 = .ok (.getfield 37, 3) := by decide +kernel
theorem dX3_allRunOut_18 : decode cX3_allRunOut 18 = .ok (.getfield 146, 3) := by decide +kernel
theorem dX3_allRunOut_21 : decode cX3_allRunOut 21 = .ok (.ishl, 1) := by decide +kernel
theorem dX3_allRunOut_22 : decode cX3_allRunOut 22 = .ok (.istore_n 1, 1) := by decide +kernel
theorem dX3_allRunOut_23 : decode cX3_allRunOut 23 = .ok (.iconst 1, 1) := by decide +kernel
theorem dX3_allRunOut_24 : decode cX3_allRunOut 24 = .ok (.istore_n 2, 1) := by decide +kernel
theorem dX3_allRunOut_25 : decode cX3_allRunOut 25 = .ok (.iload_n 2, 1) := by decide +kernel
theorem dX3_allRunOut_26 : decode cX3_allRunOut 26 = .ok (.aload_n 0, 1) := by decide +kernel
theorem dX3_allRunOut_27 : decode cX3_allRunOut 27 = .ok (.getfield 37, 3) := by decide +kernel
theorem dX3_allRunOut_30 : decode cX3_allRunOut 30 = .ok (.getfield 45, 3) := by decide +kernel
theorem dX3_allRunOut_33 : decode cX3_allRunOut 33 = .ok (.if_icmp .ge 68, 3) := by decide +kernel
theorem dX3_allRunOut_36 : decode cX3_allRunOut 36 = .ok (.iconst 0, 1) := by decide +kernel
theorem dX3_allRunOut_37 : decode cX3_allRunOut 37 = .ok (.istore_n 3, 1) := by decide +kernel
theorem dX3_allRunOut_38 : decode cX3_allRunOut 38 = .ok (.iload_n 3, 1) := by decide +kernel
theorem dX3_allRunOut_39 : decode cX3_allRunOut 39 = .ok (.aload_n 0, 1) := by decide +kernel
theorem dX3_allRunOut_40 : decode cX3_allRunOut 40 = .ok (.getfield 37, 3) := by decide +kernel
theorem dX3_allRunOut_43 : decode cX3_allRunOut 43 = .ok (.getfield 45, 3) := by decide +kernel
theorem dX3_allRunOut_46 : decode cX3_allRunOut 46 = .ok (.if_icmp .ge 49, 3) := by decide +kernel
theorem dX3_allRunOut_49 : decode cX3_allRunOut 49 = .ok (.aload_n 0, 1) := by decide +kernel
theorem dX3_allRunOut_50 : decode cX3_allRunOut 50 = .ok (.getfield 9, 3) := by decide +kernel
theorem dX3_allRunOut_53 : decode cX3_allRunOut 53 = .ok (.getfield 17, 3) := by decide +kernel
theorem dX3_allRunOut_56 : decode cX3_allRunOut 56 = .ok (.iload_n 3, 1) := by decide +kernel
theorem dX3_allRunOut_57 : decode cX3_allRunOut 57 = .ok (.iaload, 1) := by decide +kernel
theorem dX3_allRunOut_58 : decode cX3_allRunOut 58 = .ok (.istore 4, 2) := by decide +kernel
theorem dX3_allRunOut_60 : decode cX3_allRunOut 60 = .ok (.iload 4, 2) := by decide +kernel
theorem dX3_allRunOut_62 : decode cX3_allRunOut 62 = .ok (.iconst (-1), 1) := by decide +kernel
theorem dX3_allRunOut_63 : decode cX3_allRunOut 63 = .ok (.if_icmp .eq 26, 3) := by decide +kernel
theorem dX3_allRunOut_66 : decode cX3_allRunOut 66 = .ok (.iload_n 1, 1) := by decide +kernel
theorem dX3_allRunOut_67 : decode cX3_allRunOut 67 = .ok (.aload_n 0, 1) := by decide +kernel
theorem dX3_allRunOut_68 : decode cX3_allRunOut 68 = .ok (.getfield 37, 3) := by decide +kernel
theorem dX3_allRunOut_71 : decode cX3_allRunOut 71 = .ok (.iload 4, 2) := by decide +kernel
theorem dX3_allRunOut_73 : decode cX3_allRunOut 73 = .ok (.iload_n 3, 1) := by decide +kernel
theorem dX3_allRunOut_74 : decode cX3_allRunOut 74 = .ok (.invokevirtual 62, 3) := by decide +kernel
theorem dX3_allRunOut_77 : decode cX3_allRunOut 77 = .ok (.ishr, 1) := by decide +kernel
theorem dX3_allRunOut_78 : decode cX3_allRunOut 78 = .ok (.iconst 1, 1) := by decide +kernel
theorem dX3_allRunOut_79 : decode cX3_allRunOut 79 = .ok (.iand, 1) := by decide +kernel
theorem dX3_allRunOut_80 : decode cX3_allRunOut 80 = .ok (.ifCond .eq 9, 3) := by decide +kernel
theorem dX3_allRunOut_83 : decode cX3_allRunOut 83 = .ok (.iload_n 1, 1) := by decide +kernel
theorem dX3_allRunOut_84 : decode cX3_allRunOut 84 = .ok (.iconst 1, 1) := by decide +kernel
theorem dX3_allRunOut_85 : decode cX3_allRunOut 85 = .ok (.iload_n 3, 1) := by decide +kernel
theorem dX3_allRunOut_86 : decode cX3_allRunOut 86 = .ok (.ishl, 1) := by decide +kernel
theorem dX3_allRunOut_87 : decode cX3_allRunOut 87 = .ok (.ior, 1) := by decide +kernel
theorem dX3_allRunOut_88 : decode cX3_allRunOut 88 = .ok (.istore_n 1, 1) := by decide +kernel
theorem dX3_allRunOut_89 : decode cX3_allRunOut 89 = .ok (.iinc 3 1, 3) := by decide +kernel
theorem dX3_allRunOut_92 : decode cX3_allRunOut 92 = .ok (.goto (-54), 3) := by decide +kernel
theorem dX3_allRunOut_95 : decode cX3_allRunOut 95 = .ok (.iinc 2 1, 3) := by decide +kernel
theorem dX3_allRunOut_98 : decode cX3_allRunOut 98 = .ok (.goto (-73), 3) := by decide +kernel
theorem dX3_allRunOut_101 : decode cX3_allRunOut 101 = .ok (.iload_n 1, 1) := by decide +kernel
theorem dX3_allRunOut_102 : decode cX3_allRunOut 102 = .ok (.iconst 1, 1) := by decide +kernel
theorem dX3_allRunOut_103 : decode cX3_allRunOut 103 = .ok (.aload_n 0, 1) := by decide +kernel
theorem dX3_allRunOut_104 : decode cX3_allRunOut 104 = .ok (.getfield 37, 3) := by decide +kernel
theorem dX3_allRunOut_107 : decode cX3_allRunOut 107 = .ok (.getfield 45, 3) := by decide +kernel
theorem dX3_allRunOut_110 : decode cX3_allRunOut 110 = .ok (.ishl, 1) := by decide +kernel
theorem dX3_allRunOut_111 : decode cX3_allRunOut 111 = .ok (.iconst 1, 1) := by decide +kernel
theorem dX3_allRunOut_112 : decode cX3_allRunOut 112 = .ok (.isub, 1) := by decide +kernel
theorem dX3_allRunOut_113 : decode cX3_allRunOut 113 = .ok (.if_icmp .ne 7, 3) := by decide +kernel
theorem dX3_allRunOut_116 : decode cX3_allRunOut 116 = .ok (.iconst 1, 1) := by decide +kernel
theorem dX3_allRunOut_117 : decode cX3_allRunOut 117 = .ok (.goto 4, 3) := by decide +kernel
theorem dX3_allRunOut_120 : decode cX3_allRunOut 120 = .ok (.iconst 0, 1) := by decide +kernel
theorem dX3_allRunOut_121 : decode cX3_allRunOut 121 = .ok (.ireturn, 1) := by decide +kernel
theorem dX3_judgeNet_0 : decode cX3_judgeNet 0 = .ok (.aload_n 0, 1) := by decide +kernel
theorem dX3_judgeNet_1 : decode cX3_judgeNet 1 = .ok (.bipush 7, 2) := by decide +kernel
theorem dX3_judgeNet_3 : decode cX3_judgeNet 3 = .ok (.putfield 149, 3) := by decide +kernel
theorem dX3_judgeNet_6 : decode cX3_judgeNet 6 = .ok (.aload_n 0, 1) := by decide +kernel
theorem dX3_judgeNet_7 : decode cX3_judgeNet 7 = .ok (.iconst (-1), 1) := by decide +kernel
theorem dX3_judgeNet_8 : decode cX3_judgeNet 8 = .ok (.putfield 152, 3) := by decide +kernel
theorem dX3_judgeNet_11 : decode cX3_judgeNet 11 = .ok (.aload_n 0, 1) := by decide +kernel
theorem dX3_judgeNet_12 : decode cX3_judgeNet 12 = .ok (.invokevirtual 155, 3) := by decide +kernel
theorem dX3_judgeNet_15 : decode cX3_judgeNet 15 = .ok (.ifCond .ne 4, 3) := by decide +kernel
theorem dX3_judgeNet_18 : decode cX3_judgeNet 18 = .ok (.return_, 1) := by decide +kernel
theorem dX3_judgeNet_19 : decode cX3_judgeNet 19 = .ok (.iconst 0, 1) := by decide +kernel
theorem dX3_judgeNet_20 : decode cX3_judgeNet 20 = .ok (.istore_n 1, 1) := by decide +kernel
theorem dX3_judgeNet_21 : decode cX3_judgeNet 21 = .ok (.iload_n 1, 1) := by decide +kernel
theorem dX3_judgeNet_22 : decode cX3_judgeNet 22 = .ok (.aload_n 0, 1) := by decide +kernel
theorem dX3_judgeNet_23 : decode cX3_judgeNet 23 = .ok (.getfield 37, 3) := by decide +kernel
theorem dX3_judgeNet_26 : decode cX3_judgeNet 26 = .ok (.getfield 45, 3) := by decide +kernel
theorem dX3_judgeNet_29 : decode cX3_judgeNet 29 = .ok (.if_icmp .ge 47, 3) := by decide +kernel
theorem dX3_judgeNet_32 : decode cX3_judgeNet 32 = .ok (.aload_n 0, 1) := by decide +kernel
theorem dX3_judgeNet_33 : decode cX3_judgeNet 33 = .ok (.getfield 9, 3) := by decide +kernel
theorem dX3_judgeNet_36 : decode cX3_judgeNet 36 = .ok (.getfield 17, 3) := by decide +kernel
theorem dX3_judgeNet_39 : decode cX3_judgeNet 39 = .ok (.iload_n 1, 1) := by decide +kernel
theorem dX3_judgeNet_40 : decode cX3_judgeNet 40 = .ok (.iaload, 1) := by decide +kernel
theorem dX3_judgeNet_41 : decode cX3_judgeNet 41 = .ok (.iconst (-1), 1) := by decide +kernel
theorem dX3_judgeNet_42 : decode cX3_judgeNet 42 = .ok (.if_icmp .ne 7, 3) := by decide +kernel
theorem dX3_judgeNet_45 : decode cX3_judgeNet 45 = .ok (.iconst 0, 1) := by decide +kernel
theorem dX3_judgeNet_46 : decode cX3_judgeNet 46 = .ok (.goto 8, 3) := by decide +kernel
theorem dX3_judgeNet_49 : decode cX3_judgeNet 49 = .ok (.aload_n 0, 1) := by decide +kernel
theorem dX3_judgeNet_50 : decode cX3_judgeNet 50 = .ok (.iload_n 1, 1) := by decide +kernel
theorem dX3_judgeNet_51 : decode cX3_judgeNet 51 = .ok (.invokevirtual 159, 3) := by decide +kernel
theorem dX3_judgeNet_54 : decode cX3_judgeNet 54 = .ok (.istore_n 2, 1) := by decide +kernel
theorem dX3_judgeNet_55 : decode cX3_judgeNet 55 = .ok (.iload_n 2, 1) := by decide +kernel
theorem dX3_judgeNet_56 : decode cX3_judgeNet 56 = .ok (.ifCond .eq 14, 3) := by decide +kernel
theorem dX3_judgeNet_59 : decode cX3_judgeNet 59 = .ok (.aload_n 0, 1) := by decide +kernel
theorem dX3_judgeNet_60 : decode cX3_judgeNet 60 = .ok (.iload_n 2, 1) := by decide +kernel
theorem dX3_judgeNet_61 : decode cX3_judgeNet 61 = .ok (.putfield 149, 3) := by decide +kernel
theorem dX3_judgeNet_64 : decode cX3_judgeNet 64 = .ok (.aload_n 0, 1) := by decide +kernel
theorem dX3_judgeNet_65 : decode cX3_judgeNet 65 = .ok (.iload_n 1, 1) := by decide +kernel
theorem dX3_judgeNet_66 : decode cX3_judgeNet 66 = .ok (.putfield 152, 3) := by decide +kernel
theorem dX3_judgeNet_69 : decode cX3_judgeNet 69 = .ok (.return_, 1) := by decide +kernel
theorem dX3_judgeNet_70 : decode cX3_judgeNet 70 = .ok (.iinc 1 1, 3) := by decide +kernel
theorem dX3_judgeNet_73 : decode cX3_judgeNet 73 = .ok (.goto (-52), 3) := by decide +kernel
theorem dX3_judgeNet_76 : decode cX3_judgeNet 76 = .ok (.aload_n 0, 1) := by decide +kernel
theorem dX3_judgeNet_77 : decode cX3_judgeNet 77 = .ok (.iconst 0, 1) := by decide +kernel
theorem dX3_judgeNet_78 : decode cX3_judgeNet 78 = .ok (.putfield 149, 3) := by decide +kernel
theorem dX3_judgeNet_81 : decode cX3_judgeNet 81 = .ok (.aload_n 0, 1) := by decide +kernel
theorem dX3_judgeNet_82 : decode cX3_judgeNet 82 = .ok (.getfield 37, 3) := by decide +kernel
theorem dX3_judgeNet_85 : decode cX3_judgeNet 85 = .ok (.getfield 45, 3) := by decide +kernel
theorem dX3_judgeNet_88 : decode cX3_judgeNet 88 = .ok (.iconst 1, 1) := by decide +kernel
theorem dX3_judgeNet_89 : decode cX3_judgeNet 89 = .ok (.isub, 1) := by decide +kernel
theorem dX3_judgeNet_90 : decode cX3_judgeNet 90 = .ok (.istore_n 1, 1) := by decide +kernel
theorem dX3_judgeNet_91 : decode cX3_judgeNet 91 = .ok (.iload_n 1, 1) := by decide +kernel
theorem dX3_judgeNet_92 : decode cX3_judgeNet 92 = .ok (.ifCond .lt 43, 3) := by decide +kernel
theorem dX3_judgeNet_95 : decode cX3_judgeNet 95 = .ok (.aload_n 0, 1) := by decide +kernel
theorem dX3_judgeNet_96 : decode cX3_judgeNet 96 = .ok (.iload_n 1, 1) := by decide +kernel
theorem dX3_judgeNet_97 : decode cX3_judgeNet 97 = .ok (.aload_n 0, 1) := by decide +kernel
theorem dX3_judgeNet_98 : decode cX3_judgeNet 98 = .ok (.getfield 37, 3) := by decide +kernel
theorem dX3_judgeNet_101 : decode cX3_judgeNet 101 = .ok (.getfield 146, 3) := by decide +kernel
theorem dX3_judgeNet_104 : decode cX3_judgeNet 104 = .ok (.invokevirtual 121, 3) := by decide +kernel
theorem dX3_judgeNet_107 : decode cX3_judgeNet 107 = .ok (.ifCond .eq 22, 3) := by decide +kernel
theorem dX3_judgeNet_110 : decode cX3_judgeNet 110 = .ok (.aload_n 0, 1) := by decide +kernel
theorem dX3_judgeNet_111 : decode cX3_judgeNet 111 = .ok (.iload_n 1, 1) := by decide +kernel
theorem dX3_judgeNet_112 : decode cX3_judgeNet 112 = .ok (.invokevirtual 162, 3) := by decide +kernel
theorem dX3_judgeNet_115 : decode cX3_judgeNet 115 = .ok (.ifCond .eq 14, 3) := by decide +kernel
theorem dX3_judgeNet_118 : decode cX3_judgeNet 118 = .ok (.aload_n 0, 1) := by decide +kernel
theorem dX3_judgeNet_119 : decode cX3_judgeNet 119 = .ok (.bipush 8, 2) := by decide +kernel
theorem dX3_judgeNet_121 : decode cX3_judgeNet 121 = .ok (.putfield 149, 3) := by decide +kernel
theorem dX3_judgeNet_124 : decode cX3_judgeNet 124 = .ok (.aload_n 0, 1) := by decide +kernel
theorem dX3_judgeNet_125 : decode cX3_judgeNet 125 = .ok (.iload_n 1, 1) := by decide +kernel
theorem dX3_judgeNet_126 : decode cX3_judgeNet 126 = .ok (.putfield 152, 3) := by decide +kernel
theorem dX3_judgeNet_129 : decode cX3_judgeNet 129 = .ok (.iinc 1 (-1), 3) := by decide +kernel
theorem dX3_judgeNet_132 : decode cX3_judgeNet 132 = .ok (.goto (-41), 3) := by decide +kernel
theorem dX3_judgeNet_135 : decode cX3_judgeNet 135 = .ok (.return_, 1) := by decide +kernel
theorem dX3_endsBelowRiver_0 : decode cX3_endsBelowRiver 0 = .ok (.aload_n 0, 1) := by decide +kernel
theorem dX3_endsBelowRiver_1 : decode cX3_endsBelowRiver 1 = .ok (.getfield 37, 3) := by decide +kernel
theorem dX3_endsBelowRiver_4 : decode cX3_endsBelowRiver 4 = .ok (.getfield 66, 3) := by decide +kernel
theorem dX3_endsBelowRiver_7 : decode cX3_endsBelowRiver 7 = .ok (.aload_n 0, 1) := by decide +kernel
theorem dX3_endsBelowRiver_8 : decode cX3_endsBelowRiver 8 = .ok (.getfield 37, 3) := by decide +kernel
theorem dX3_endsBelowRiver_11 : decode cX3_endsBelowRiver 11 = .ok (.getfield 146, 3) := by decide +kernel
theorem dX3_endsBelowRiver_14 : decode cX3_endsBelowRiver 14 = .ok (.aaload, 1) := by decide +kernel
theorem dX3_endsBelowRiver_15 : decode cX3_endsBelowRiver 15 = .ok (.iconst 0, 1) := by decide +kernel
theorem dX3_endsBelowRiver_16 : decode cX3_endsBelowRiver 16 = .ok (.iaload, 1) := by decide +kernel
theorem dX3_endsBelowRiver_17 : decode cX3_endsBelowRiver 17 = .ok (.aload_n 0, 1) := by decide +kernel
theorem dX3_endsBelowRiver_18 : decode cX3_endsBelowRiver 18 = .ok (.getfield 9, 3) := by decide +kernel
theorem dX3_endsBelowRiver_21 : decode cX3_endsBelowRiver 21 = .ok (.getfield 73, 3) := by decide +kernel
theorem dX3_endsBelowRiver_24 : decode cX3_endsBelowRiver 24 = .ok (.iload_n 1, 1) := by decide +kernel
theorem dX3_endsBelowRiver_25 : decode cX3_endsBelowRiver 25 = .ok (.iaload, 1) := by decide +kernel
theorem dX3_endsBelowRiver_26 : decode cX3_endsBelowRiver 26 = .ok (.isub, 1) := by decide +kernel
theorem dX3_endsBelowRiver_27 : decode cX3_endsBelowRiver 27 = .ok (.aload_n 0, 1) := by decide +kernel
theorem dX3_endsBelowRiver_28 : decode cX3_endsBelowRiver 28 = .ok (.getfield 37, 3) := by decide +kernel
theorem dX3_endsBelowRiver_31 : decode cX3_endsBelowRiver 31 = .ok (.getfield 165, 3) := by decide +kernel
theorem dX3_endsBelowRiver_34 : decode cX3_endsBelowRiver 34 = .ok (.if_icmp .ge 7, 3) := by decide +kernel
theorem dX3_endsBelowRiver_37 : decode cX3_endsBelowRiver 37 = .ok (.iconst 1, 1) := by decide +kernel
theorem dX3_endsBelowRiver_38 : decode cX3_endsBelowRiver 38 = .ok (.goto 4, 3) := by decide +kernel
theorem dX3_endsBelowRiver_41 : decode cX3_endsBelowRiver 41 = .ok (.iconst 0, 1) := by decide +kernel
theorem dX3_endsBelowRiver_42 : decode cX3_endsBelowRiver 42 = .ok (.ireturn, 1) := by decide +kernel
theorem dX3_burstOf_0 : decode cX3_burstOf 0 = .ok (.aload_n 0, 1) := by decide +kernel
theorem dX3_burstOf_1 : decode cX3_burstOf 1 = .ok (.invokevirtual 111, 3) := by decide +kernel
theorem dX3_burstOf_4 : decode cX3_burstOf 4 = .ok (.aload_n 0, 1) := by decide +kernel
theorem dX3_burstOf_5 : decode cX3_burstOf 5 = .ok (.getfield 26, 3) := by decide +kernel
theorem dX3_burstOf_8 : decode cX3_burstOf 8 = .ok (.iload_n 1, 1) := by decide +kernel
theorem dX3_burstOf_9 : decode cX3_burstOf 9 = .ok (.invokevirtual 114, 3) := by decide +kernel
theorem dX3_burstOf_12 : decode cX3_burstOf 12 = .ok (.lstore_n 2, 1) := by decide +kernel
theorem dX3_burstOf_13 : decode cX3_burstOf 13 = .ok (.lload_n 2, 1) := by decide +kernel
theorem dX3_burstOf_14 : decode cX3_burstOf 14 = .ok (.lconst 0, 1) := by decide +kernel
theorem dX3_burstOf_15 : decode cX3_burstOf 15 = .ok (.lcmp, 1) := by decide +kernel
theorem dX3_burstOf_16 : decode cX3_burstOf 16 = .ok (.ifCond .gt 7, 3) := by decide +kernel
theorem dX3_burstOf_19 : decode cX3_burstOf 19 = .ok (.sipush 9999, 3) := by decide +kernel
theorem dX3_burstOf_22 : decode cX3_burstOf 22 = .ok (.ireturn, 1) := by decide +kernel
theorem dX3_burstOf_23 : decode cX3_burstOf 23 = .ok (.ldc2_w 168, 3) := by decide +kernel
theorem dX3_burstOf_26 : decode cX3_burstOf 26 = .ok (.aload_n 0, 1) := by decide +kernel
theorem dX3_burstOf_27 : decode cX3_burstOf 27 = .ok (.iload_n 1, 1) := by decide +kernel
theorem dX3_burstOf_28 : decode cX3_burstOf 28 = .ok (.invokevirtual 55, 3) := by decide +kernel
theorem dX3_burstOf_31 : decode cX3_burstOf 31 = .ok (.ldc2_w 170, 3) := by decide +kernel
theorem dX3_burstOf_34 : decode cX3_burstOf 34 = .ok (.lmul, 1) := by decide +kernel
theorem dX3_burstOf_35 : decode cX3_burstOf 35 = .ok (.lload_n 2, 1) := by decide +kernel
theorem dX3_burstOf_36 : decode cX3_burstOf 36 = .ok (.ldiv, 1) := by decide +kernel
theorem dX3_burstOf_37 : decode cX3_burstOf 37 = .ok (.lconst 1, 1) := by decide +kernel
theorem dX3_burstOf_38 : decode cX3_burstOf 38 = .ok (.ladd, 1) := by decide +kernel
theorem dX3_burstOf_39 : decode cX3_burstOf 39 = .ok (.invokestatic 172, 3) := by decide +kernel
theorem dX3_burstOf_42 : decode cX3_burstOf 42 = .ok (.l2i, 1) := by decide +kernel
theorem dX3_burstOf_43 : decode cX3_burstOf 43 = .ok (.ireturn, 1) := by decide +kernel
theorem dX3_dangerOf_0 : decode cX3_dangerOf 0 = .ok (.iconst 1, 1) := by decide +kernel
theorem dX3_dangerOf_1 : decode cX3_dangerOf 1 = .ok (.iload_n 1, 1) := by decide +kernel
theorem dX3_dangerOf_2 : decode cX3_dangerOf 2 = .ok (.ishl, 1) := by decide +kernel
theorem dX3_dangerOf_3 : decode cX3_dangerOf 3 = .ok (.istore_n 2, 1) := by decide +kernel
theorem dX3_dangerOf_4 : decode cX3_dangerOf 4 = .ok (.iconst 1, 1) := by decide +kernel
theorem dX3_dangerOf_5 : decode cX3_dangerOf 5 = .ok (.istore_n 3, 1) := by decide +kernel
theorem dX3_dangerOf_6 : decode cX3_dangerOf 6 = .ok (.iload_n 3, 1) := by decide +kernel
theorem dX3_dangerOf_7 : decode cX3_dangerOf 7 = .ok (.aload_n 0, 1) := by decide +kernel
theorem dX3_dangerOf_8 : decode cX3_dangerOf 8 = .ok (.getfield 37, 3) := by decide +kernel
theorem dX3_dangerOf_11 : decode cX3_dangerOf 11 = .ok (.getfield 45, 3) := by decide +kernel
theorem dX3_dangerOf_14 : decode cX3_dangerOf 14 = .ok (.if_icmp .ge 73, 3) := by decide +kernel
theorem dX3_dangerOf_17 : decode cX3_dangerOf 17 = .ok (.iconst 0, 1) := by decide +kernel
theorem dX3_dangerOf_18 : decode cX3_dangerOf 18 = .ok (.istore 4, 2) := by decide +kernel
theorem dX3_dangerOf_20 : decode cX3_dangerOf 20 = .ok (.iload 4, 2) := by decide +kernel
theorem dX3_dangerOf_22 : decode cX3_dangerOf 22 = .ok (.aload_n 0, 1) := by decide +kernel
theorem dX3_dangerOf_23 : decode cX3_dangerOf 23 = .ok (.getfield 37, 3) := by decide +kernel
theorem dX3_dangerOf_26 : decode cX3_dangerOf 26 = .ok (.getfield 45, 3) := by decide +kernel
theorem dX3_dangerOf_29 : decode cX3_dangerOf 29 = .ok (.if_icmp .ge 52, 3) := by decide +kernel
theorem dX3_dangerOf_32 : decode cX3_dangerOf 32 = .ok (.aload_n 0, 1) := by decide +kernel
theorem dX3_dangerOf_33 : decode cX3_dangerOf 33 = .ok (.getfield 9, 3) := by decide +kernel
theorem dX3_dangerOf_36 : decode cX3_dangerOf 36 = .ok (.getfield 17, 3) := by decide +kernel
theorem dX3_dangerOf_39 : decode cX3_dangerOf 39 = .ok (.iload 4, 2) := by decide +kernel
theorem dX3_dangerOf_41 : decode cX3_dangerOf 41 = .ok (.iaload, 1) := by decide +kernel
theorem dX3_dangerOf_42 : decode cX3_dangerOf 42 = .ok (.istore 5, 2) := by decide +kernel
theorem dX3_dangerOf_44 : decode cX3_dangerOf 44 = .ok (.iload 5, 2) := by decide +kernel
theorem dX3_dangerOf_46 : decode cX3_dangerOf 46 = .ok (.iconst (-1), 1) := by decide +kernel
theorem dX3_dangerOf_47 : decode cX3_dangerOf 47 = .ok (.if_icmp .eq 28, 3) := by decide +kernel
theorem dX3_dangerOf_50 : decode cX3_dangerOf 50 = .ok (.iload_n 2, 1) := by decide +kernel
theorem dX3_dangerOf_51 : decode cX3_dangerOf 51 = .ok (.aload_n 0, 1) := by decide +kernel
theorem dX3_dangerOf_52 : decode cX3_dangerOf 52 = .ok (.getfield 37, 3) := by decide +kernel
theorem dX3_dangerOf_55 : decode cX3_dangerOf 55 = .ok (.iload 5, 2) := by decide +kernel
theorem dX3_dangerOf_57 : decode cX3_dangerOf 57 = .ok (.iload 4, 2) := by decide +kernel
theorem dX3_dangerOf_59 : decode cX3_dangerOf 59 = .ok (.invokevirtual 62, 3) := by decide +kernel
theorem dX3_dangerOf_62 : decode cX3_dangerOf 62 = .ok (.ishr, 1) := by decide +kernel
theorem dX3_dangerOf_63 : decode cX3_dangerOf 63 = .ok (.iconst 1, 1) := by decide +kernel
theorem dX3_dangerOf_64 : decode cX3_dangerOf 64 = .ok (.iand, 1) := by decide +kernel
theorem dX3_dangerOf_65 : decode cX3_dangerOf 65 = .ok (.ifCond .eq 10, 3) := by decide +kernel
theorem dX3_dangerOf_68 : decode cX3_dangerOf 68 = .ok (.iload_n 2, 1) := by decide +kernel
theorem dX3_dangerOf_69 : decode cX3_dangerOf 69 = .ok (.iconst 1, 1) := by decide +kernel
theorem dX3_dangerOf_70 : decode cX3_dangerOf 70 = .ok (.iload 4, 2) := by decide +kernel
theorem dX3_dangerOf_72 : decode cX3_dangerOf 72 = .ok (.ishl, 1) := by decide +kernel
theorem dX3_dangerOf_73 : decode cX3_dangerOf 73 = .ok (.ior, 1) := by decide +kernel
theorem dX3_dangerOf_74 : decode cX3_dangerOf 74 = .ok (.istore_n 2, 1) := by decide +kernel
theorem dX3_dangerOf_75 : decode cX3_dangerOf 75 = .ok (.iinc 4 1, 3) := by decide +kernel
theorem dX3_dangerOf_78 : decode cX3_dangerOf 78 = .ok (.goto (-58), 3) := by decide +kernel
theorem dX3_dangerOf_81 : decode cX3_dangerOf 81 = .ok (.iinc 3 1, 3) := by decide +kernel
theorem dX3_dangerOf_84 : decode cX3_dangerOf 84 = .ok (.goto (-78), 3) := by decide +kernel
theorem dX3_dangerOf_87 : decode cX3_dangerOf 87 = .ok (.iconst 0, 1) := by decide +kernel
theorem dX3_dangerOf_88 : decode cX3_dangerOf 88 = .ok (.istore_n 3, 1) := by decide +kernel
theorem dX3_dangerOf_89 : decode cX3_dangerOf 89 = .ok (.iconst 0, 1) := by decide +kernel
theorem dX3_dangerOf_90 : decode cX3_dangerOf 90 = .ok (.istore 4, 2) := by decide +kernel
theorem dX3_dangerOf_92 : decode cX3_dangerOf 92 = .ok (.iload 4, 2) := by decide +kernel
theorem dX3_dangerOf_94 : decode cX3_dangerOf 94 = .ok (.aload_n 0, 1) := by decide +kernel
theorem dX3_dangerOf_95 : decode cX3_dangerOf 95 = .ok (.getfield 37, 3) := by decide +kernel
theorem dX3_dangerOf_98 : decode cX3_dangerOf 98 = .ok (.getfield 45, 3) := by decide +kernel
theorem dX3_dangerOf_101 : decode cX3_dangerOf 101 = .ok (.if_icmp .ge 31, 3) := by decide +kernel
theorem dX3_dangerOf_104 : decode cX3_dangerOf 104 = .ok (.iload_n 3, 1) := by decide +kernel
theorem dX3_dangerOf_105 : decode cX3_dangerOf 105 = .ok (.iload_n 2, 1) := by decide +kernel
theorem dX3_dangerOf_106 : decode cX3_dangerOf 106 = .ok (.iload 4, 2) := by decide +kernel
theorem dX3_dangerOf_108 : decode cX3_dangerOf 108 = .ok (.ishr, 1) := by decide +kernel
theorem dX3_dangerOf_109 : decode cX3_dangerOf 109 = .ok (.iconst 1, 1) := by decide +kernel
theorem dX3_dangerOf_110 : decode cX3_dangerOf 110 = .ok (.iand, 1) := by decide +kernel
theorem dX3_dangerOf_111 : decode cX3_dangerOf 111 = .ok (.aload_n 0, 1) := by decide +kernel
theorem dX3_dangerOf_112 : decode cX3_dangerOf 112 = .ok (.getfield 37, 3) := by decide +kernel
theorem dX3_dangerOf_115 : decode cX3_dangerOf 115 = .ok (.getfield 66, 3) := by decide +kernel
theorem dX3_dangerOf_118 : decode cX3_dangerOf 118 = .ok (.iload 4, 2) := by decide +kernel
theorem dX3_dangerOf_120 : decode cX3_dangerOf 120 = .ok (.aaload, 1) := by decide +kernel
theorem dX3_dangerOf_121 : decode cX3_dangerOf 121 = .ok (.iconst 1, 1) := by decide +kernel
theorem dX3_dangerOf_122 : decode cX3_dangerOf 122 = .ok (.iaload, 1) := by decide +kernel
theorem dX3_dangerOf_123 : decode cX3_dangerOf 123 = .ok (.imul, 1) := by decide +kernel
theorem dX3_dangerOf_124 : decode cX3_dangerOf 124 = .ok (.iadd, 1) := by decide +kernel
theorem dX3_dangerOf_125 : decode cX3_dangerOf 125 = .ok (.istore_n 3, 1) := by decide +kernel
theorem dX3_dangerOf_126 : decode cX3_dangerOf 126 = .ok (.iinc 4 1, 3) := by decide +kernel
theorem dX3_dangerOf_129 : decode cX3_dangerOf 129 = .ok (.goto (-37), 3) := by decide +kernel
theorem dX3_dangerOf_132 : decode cX3_dangerOf 132 = .ok (.iload_n 3, 1) := by decide +kernel
theorem dX3_dangerOf_133 : decode cX3_dangerOf 133 = .ok (.aload_n 0, 1) := by decide +kernel
theorem dX3_dangerOf_134 : decode cX3_dangerOf 134 = .ok (.getfield 37, 3) := by decide +kernel
theorem dX3_dangerOf_137 : decode cX3_dangerOf 137 = .ok (.getfield 106, 3) := by decide +kernel
theorem dX3_dangerOf_140 : decode cX3_dangerOf 140 = .ok (.aload_n 0, 1) := by decide +kernel
theorem dX3_dangerOf_141 : decode cX3_dangerOf 141 = .ok (.getfield 9, 3) := by decide +kernel
theorem dX3_dangerOf_144 : decode cX3_dangerOf 144 = .ok (.getfield 17, 3) := by decide +kernel
theorem dX3_dangerOf_147 : decode cX3_dangerOf 147 = .ok (.iload_n 1, 1) := by decide +kernel
theorem dX3_dangerOf_148 : decode cX3_dangerOf 148 = .ok (.iaload, 1) := by decide +kernel
theorem dX3_dangerOf_149 : decode cX3_dangerOf 149 = .ok (.aaload, 1) := by decide +kernel
theorem dX3_dangerOf_150 : decode cX3_dangerOf 150 = .ok (.iconst 4, 1) := by decide +kernel
theorem dX3_dangerOf_151 : decode cX3_dangerOf 151 = .ok (.iaload, 1) := by decide +kernel
theorem dX3_dangerOf_152 : decode cX3_dangerOf 152 = .ok (.imul, 1) := by decide +kernel
theorem dX3_dangerOf_153 : decode cX3_dangerOf 153 = .ok (.ireturn, 1) := by decide +kernel
theorem dX4_init_0 : decode cX4_init 0 = .ok (.aload_n 0, 1) := by decide +kernel
theorem dX4_init_1 : decode cX4_init 1 = .ok (.invokespecial 3, 3) := by decide +kernel
theorem dX4_init_4 : decode cX4_init 4 = .ok (.aload_n 0, 1) := by decide +kernel
theorem dX4_init_5 : decode cX4_init 5 = .ok (.bipush 64, 2) := by decide +kernel
theorem dX4_init_7 : decode cX4_init 7 = .ok (.newarray .int, 2) := by decide +kernel
theorem dX4_init_9 : decode cX4_init 9 = .ok (.putfield 11, 3) := by decide +kernel
theorem dX4_init_12 : decode cX4_init 12 = .ok (.aload_n 0, 1) := by decide +kernel
theorem dX4_init_13 : decode cX4_init 13 = .ok (.bipush 64, 2) := by decide +kernel
theorem dX4_init_15 : decode cX4_init 15 = .ok (.newarray .int, 2) := by decide +kernel
theorem dX4_init_17 : decode cX4_init 17 = .ok (.putfield 15, 3) := by decide +kernel
theorem dX4_init_20 : decode cX4_init 20 = .ok (.aload_n 0, 1) := by decide +kernel
theorem dX4_init_21 : decode cX4_init 21 = .ok (.iconst 3, 1) := by decide +kernel
theorem dX4_init_22 : decode cX4_init 22 = .ok (.newarray .int, 2) := by decide +kernel
theorem dX4_init_24 : decode cX4_init 24 = .ok (.putfield 18, 3) := by decide +kernel
theorem dX4_init_27 : decode cX4_init 27 = .ok (.aload_n 0, 1) := by decide +kernel
theorem dX4_init_28 : decode cX4_init 28 = .ok (.iconst 3, 1) := by decide +kernel
theorem dX4_init_29 : decode cX4_init 29 = .ok (.newarray .int, 2) := by decide +kernel
theorem dX4_init_31 : decode cX4_init 31 = .ok (.putfield 21, 3) := by decide +kernel
theorem dX4_init_34 : decode cX4_init 34 = .ok (.aload_n 0, 1) := by decide +kernel
theorem dX4_init_35 : decode cX4_init 35 = .ok (.bipush 6, 2) := by decide +kernel
theorem dX4_init_37 : decode cX4_init 37 = .ok (.newarray .long, 2) := by decide +kernel
theorem dX4_init_39 : decode cX4_init 39 = .ok (.putfield 24, 3) := by decide +kernel
theorem dX4_init_42 : decode cX4_init 42 = .ok (.aload_n 0, 1) := by decide +kernel
theorem dX4_init_43 : decode cX4_init 43 = .ok (.bipush 64, 2) := by decide +kernel
theorem dX4_init_45 : decode cX4_init 45 = .ok (.newarray .long, 2) := by decide +kernel
theorem dX4_init_47 : decode cX4_init 47 = .ok (.putfield 28, 3) := by decide +kernel
theorem dX4_init_50 : decode cX4_init 50 = .ok (.return_, 1) := by decide +kernel
theorem dX4_clear_0 : decode cX4_clear 0 = .ok (.aload_n 0, 1) := by decide +kernel
theorem dX4_clear_1 : decode cX4_clear 1 = .ok (.iconst 0, 1) := by decide +kernel
theorem dX4_clear_2 : decode cX4_clear 2 = .ok (.putfield 31, 3) := by decide +kernel
theorem dX4_clear_5 : decode cX4_clear 5 = .ok (.aload_n 0, 1) := by decide +kernel
theorem dX4_clear_6 : decode cX4_clear 6 = .ok (.iconst 0, 1) := by decide +kernel
theorem dX4_clear_7 : decode cX4_clear 7 = .ok (.putfield 35, 3) := by decide +kernel
theorem dX4_clear_10 : decode cX4_clear 10 = .ok (.aload_n 0, 1) := by decide +kernel
theorem dX4_clear_11 : decode cX4_clear 11 = .ok (.getfield 18, 3) := by decide +kernel
theorem dX4_clear_14 : decode cX4_clear 14 = .ok (.iconst 0, 1) := by decide +kernel
theorem dX4_clear_15 : decode cX4_clear 15 = .ok (.invokestatic 38, 3) := by decide +kernel
theorem dX4_clear_18 : decode cX4_clear 18 = .ok (.aload_n 0, 1) := by decide +kernel
theorem dX4_clear_19 : decode cX4_clear 19 = .ok (.getfield 21, 3) := by decide +kernel
theorem dX4_clear_22 : decode cX4_clear 22 = .ok (.iconst 0, 1) := by decide +kernel
theorem dX4_clear_23 : decode cX4_clear 23 = .ok (.invokestatic 38, 3) := by decide +kernel
theorem dX4_clear_26 : decode cX4_clear 26 = .ok (.return_, 1) := by decide +kernel
theorem dX4_isTold_0 : decode cX4_isTold 0 = .ok (.aload_n 0, 1) := by decide +kernel
theorem dX4_isTold_1 : decode cX4_isTold 1 = .ok (.getfield 21, 3) := by decide +kernel
theorem dX4_isTold_4 : decode cX4_isTold 4 = .ok (.iload_n 1, 1) := by decide +kernel
theorem dX4_isTold_5 : decode cX4_isTold 5 = .ok (.iaload, 1) := by decide +kernel
theorem dX4_isTold_6 : decode cX4_isTold 6 = .ok (.aload_n 0, 1) := by decide +kernel
theorem dX4_isTold_7 : decode cX4_isTold 7 = .ok (.getfield 18, 3) := by decide +kernel
theorem dX4_isTold_10 : decode cX4_isTold 10 = .ok (.iload_n 1, 1) := by decide +kernel
theorem dX4_isTold_11 : decode cX4_isTold 11 = .ok (.iaload, 1) := by decide +kernel
theorem dX4_isTold_12 : decode cX4_isTold 12 = .ok (.if_icmp .le 7, 3) := by decide +kernel
theorem dX4_isTold_15 : decode cX4_isTold 15 = .ok (.iconst 1, 1) := by decide +kernel
theorem dX4_isTold_16 : decode cX4_isTold 16 = .ok (.goto 4, 3) := by decide +kernel
theorem dX4_isTold_19 : decode cX4_isTold 19 = .ok (.iconst 0, 1) := by decide +kernel
theorem dX4_isTold_20 : decode cX4_isTold 20 = .ok (.ireturn, 1) := by decide +kernel
theorem dX4_start_0 : decode cX4_start 0 = .ok (.aload_n 0, 1) := by decide +kernel
theorem dX4_start_1 : decode cX4_start 1 = .ok (.getfield 18, 3) := by decide +kernel
theorem dX4_start_4 : decode cX4_start 4 = .ok (.iload_n 1, 1) := by decide +kernel
theorem dX4_start_5 : decode cX4_start 5 = .ok (.aload_n 0, 1) := by decide +kernel
theorem dX4_start_6 : decode cX4_start 6 = .ok (.getfield 35, 3) := by decide +kernel
theorem dX4_start_9 : decode cX4_start 9 = .ok (.iastore, 1) := by decide +kernel
theorem dX4_start_10 : decode cX4_start 10 = .ok (.return_, 1) := by decide +kernel
theorem dX4_finish_0 : decode cX4_finish 0 = .ok (.aload_n 0, 1) := by decide +kernel
theorem dX4_finish_1 : decode cX4_finish 1 = .ok (.getfield 21, 3) := by decide +kernel
theorem dX4_finish_4 : decode cX4_finish 4 = .ok (.iload_n 1, 1) := by decide +kernel
theorem dX4_finish_5 : decode cX4_finish 5 = .ok (.aload_n 0, 1) := by decide +kernel
theorem dX4_finish_6 : decode cX4_finish 6 = .ok (.getfield 35, 3) := by decide +kernel
theorem dX4_finish_9 : decode cX4_finish 9 = .ok (.iastore, 1) := by decide +kernel
theorem dX4_finish_10 : decode cX4_finish 10 = .ok (.return_, 1) := by decide +kernel
theorem dX4_append_0 : decode cX4_append 0 = .ok (.aload_n 0, 1) := by decide +kernel
theorem dX4_append_1 : decode cX4_append 1 = .ok (.getfield 35, 3) := by decide +kernel
theorem dX4_append_4 : decode cX4_append 4 = .ok (.bipush 64, 2) := by decide +kernel
theorem dX4_append_6 : decode cX4_append 6 = .ok (.if_icmp .ge 33, 3) := by decide +kernel
theorem dX4_append_9 : decode cX4_append 9 = .ok (.aload_n 0, 1) := by decide +kernel
theorem dX4_append_10 : decode cX4_append 10 = .ok (.getfield 11, 3) := by decide +kernel
theorem dX4_append_13 : decode cX4_append 13 = .ok (.aload_n 0, 1) := by decide +kernel
theorem dX4_append_14 : decode cX4_append 14 = .ok (.getfield 35, 3) := by decide +kernel
theorem dX4_append_17 : decode cX4_append 17 = .ok (.iload_n 1, 1) := by decide +kernel
theorem dX4_append_18 : decode cX4_append 18 = .ok (.iastore, 1) := by decide +kernel
theorem dX4_append_19 : decode cX4_append 19 = .ok (.aload_n 0, 1) := by decide +kernel
theorem dX4_append_20 : decode cX4_append 20 = .ok (.getfield 15, 3) := by decide +kernel
theorem dX4_append_23 : decode cX4_append 23 = .ok (.aload_n 0, 1) := by decide +kernel
theorem dX4_append_24 : decode cX4_append 24 = .ok (.getfield 35, 3) := by decide +kernel
theorem dX4_append_27 : decode cX4_append 27 = .ok (.iload_n 2, 1) := by decide +kernel
theorem dX4_append_28 : decode cX4_append 28 = .ok (.iastore, 1) := by decide +kernel
theorem dX4_append_29 : decode cX4_append 29 = .ok (.aload_n 0, 1) := by decide +kernel
theorem dX4_append_30 : decode cX4_append 30 = .ok (.dup, 1) := by decide +kernel
theorem dX4_append_31 : decode cX4_append 31 = .ok (.getfield 35, 3) := by decide +kernel
theorem dX4_append_34 : decode cX4_append 34 = .ok (.iconst 1, 1) := by decide +kernel
theorem dX4_append_35 : decode cX4_append 35 = .ok (.iadd, 1) := by decide +kernel
theorem dX4_append_36 : decode cX4_append 36 = .ok (.putfield 35, 3) := by decide +kernel
theorem dX4_append_39 : decode cX4_append 39 = .ok (.return_, 1) := by decide +kernel
theorem dX4_carried_0 : decode cX4_carried 0 = .ok (.aload_n 0, 1) := by decide +kernel
theorem dX4_carried_1 : decode cX4_carried 1 = .ok (.iconst 0, 1) := by decide +kernel
theorem dX4_carried_2 : decode cX4_carried 2 = .ok (.invokevirtual 44, 3) := by decide +kernel
theorem dX4_carried_5 : decode cX4_carried 5 = .ok (.ifCond .ne 13, 3) := by decide +kernel
theorem dX4_carried_8 : decode cX4_carried 8 = .ok (.lconst 0, 1) := by decide +kernel
theorem dX4_carried_9 : decode cX4_carried 9 = .ok (.iload_n 1, 1) := by decide +kernel
theorem dX4_carried_10 : decode cX4_carried 10 = .ok (.i2l, 1) := by decide +kernel
theorem dX4_carried_11 : decode cX4_carried 11 = .ok (.iload_n 2, 1) := by decide +kernel
theorem dX4_carried_12 : decode cX4_carried 12 = .ok (.i2l, 1) := by decide +kernel
theorem dX4_carried_13 : decode cX4_carried 13 = .ok (.lmul, 1) := by decide +kernel
theorem dX4_carried_14 : decode cX4_carried 14 = .ok (.invokestatic 48, 3) := by decide +kernel
theorem dX4_carried_17 : decode cX4_carried 17 = .ok (.lreturn, 1) := by decide +kernel
theorem dX4_carried_18 : decode cX4_carried 18 = .ok (.aload_n 0, 1) := by decide +kernel
theorem dX4_carried_19 : decode cX4_carried 19 = .ok (.getfield 24, 3) := by decide +kernel
theorem dX4_carried_22 : decode cX4_carried 22 = .ok (.lconst 0, 1) := by decide +kernel
theorem dX4_carried_23 : decode cX4_carried 23 = .ok (.invokestatic 54, 3) := by decide +kernel
theorem dX4_carried_26 : decode cX4_carried 26 = .ok (.aload_n 0, 1) := by decide +kernel
theorem dX4_carried_27 : decode cX4_carried 27 = .ok (.getfield 24, 3) := by decide +kernel
theorem dX4_carried_30 : decode cX4_carried 30 = .ok (.iconst 0, 1) := by decide +kernel
theorem dX4_carried_31 : decode cX4_carried 31 = .ok (.iload_n 1, 1) := by decide +kernel
theorem dX4_carried_32 : decode cX4_carried 32 = .ok (.i2l, 1) := by decide +kernel
theorem dX4_carried_33 : decode cX4_carried 33 = .ok (.lastore, 1) := by decide +kernel
theorem dX4_carried_34 : decode cX4_carried 34 = .ok (.aload_n 0, 1) := by decide +kernel
theorem dX4_carried_35 : decode cX4_carried 35 = .ok (.getfield 24, 3) := by decide +kernel
theorem dX4_carried_38 : decode cX4_carried 38 = .ok (.iconst 1, 1) := by decide +kernel
theorem dX4_carried_39 : decode cX4_carried 39 = .ok (.iload_n 2, 1) := by decide +kernel
theorem dX4_carried_40 : decode cX4_carried 40 = .ok (.i2l, 1) := by decide +kernel
theorem dX4_carried_41 : decode cX4_carried 41 = .ok (.lastore, 1) := by decide +kernel
theorem dX4_carried_42 : decode cX4_carried 42 = .ok (.aload_n 0, 1) := by decide +kernel
theorem dX4_carried_43 : decode cX4_carried 43 = .ok (.iconst 0, 1) := by decide +kernel
theorem dX4_carried_44 : decode cX4_carried 44 = .ok (.invokevirtual 57, 3) := by decide +kernel
theorem dX4_carried_47 : decode cX4_carried 47 = .ok (.lstore_n 3, 1) := by decide +kernel
theorem dX4_carried_48 : decode cX4_carried 48 = .ok (.lload_n 3, 1) := by decide +kernel
theorem dX4_carried_49 : decode cX4_carried 49 = .ok (.ldc2_w 61, 3) := by decide +kernel
theorem dX4_carried_52 : decode cX4_carried 52 = .ok (.lcmp, 1) := by decide +kernel
theorem dX4_carried_53 : decode cX4_carried 53 = .ok (.ifCond .ne 7, 3) := by decide +kernel
theorem dX4_carried_56 : decode cX4_carried 56 = .ok (.lconst 0, 1) := by decide +kernel
theorem dX4_carried_57 : decode cX4_carried 57 = .ok (.goto 8, 3) := by decide +kernel
theorem dX4_carried_60 : decode cX4_carried 60 = .ok (.lconst 0, 1) := by decide +kernel
theorem dX4_carried_61 : decode cX4_carried 61 = .ok (.lload_n 3, 1) := by decide +kernel
theorem dX4_carried_62 : decode cX4_carried 62 = .ok (.invokestatic 48, 3) := by decide +kernel
theorem dX4_carried_65 : decode cX4_carried 65 = .ok (.lreturn, 1) := by decide +kernel
theorem dX4_digs_0 : decode cX4_digs 0 = .ok (.aload_n 0, 1) := by decide +kernel
theorem dX4_digs_1 : decode cX4_digs 1 = .ok (.iconst 1, 1) := by decide +kernel
theorem dX4_digs_2 : decode cX4_digs 2 = .ok (.invokevirtual 44, 3) := by decide +kernel
theorem dX4_digs_5 : decode cX4_digs 5 = .ok (.ifCond .ne 6, 3) := by decide +kernel
theorem dX4_digs_8 : decode cX4_digs 8 = .ok (.iload_n 2, 1) := by decide +kernel
theorem dX4_digs_9 : decode cX4_digs 9 = .ok (.i2l, 1) := by decide +kernel
theorem dX4_digs_10 : decode cX4_digs 10 = .ok (.lreturn, 1) := by decide +kernel
theorem dX4_digs_11 : decode cX4_digs 11 = .ok (.aload_n 0, 1) := by decide +kernel
theorem dX4_digs_12 : decode cX4_digs 12 = .ok (.getfield 24, 3) := by decide +kernel
theorem dX4_digs_15 : decode cX4_digs 15 = .ok (.lconst 0, 1) := by decide +kernel
theorem dX4_digs_16 : decode cX4_digs 16 = .ok (.invokestatic 54, 3) := by decide +kernel
theorem dX4_digs_19 : decode cX4_digs 19 = .ok (.aload_n 0, 1) := by decide +kernel
theorem dX4_digs_20 : decode cX4_digs 20 = .ok (.getfield 24, 3) := by decide +kernel
theorem dX4_digs_23 : decode cX4_digs 23 = .ok (.iconst 0, 1) := by decide +kernel
theorem dX4_digs_24 : decode cX4_digs 24 = .ok (.iload_n 1, 1) := by decide +kernel
theorem dX4_digs_25 : decode cX4_digs 25 = .ok (.i2l, 1) := by decide +kernel
theorem dX4_digs_26 : decode cX4_digs 26 = .ok (.lastore, 1) := by decide +kernel
theorem dX4_digs_27 : decode cX4_digs 27 = .ok (.aload_n 0, 1) := by decide +kernel
theorem dX4_digs_28 : decode cX4_digs 28 = .ok (.getfield 24, 3) := by decide +kernel
theorem dX4_digs_31 : decode cX4_digs 31 = .ok (.iconst 2, 1) := by decide +kernel
theorem dX4_digs_32 : decode cX4_digs 32 = .ok (.iload_n 2, 1) := by decide +kernel
theorem dX4_digs_33 : decode cX4_digs 33 = .ok (.i2l, 1) := by decide +kernel
theorem dX4_digs_34 : decode cX4_digs 34 = .ok (.lastore, 1) := by decide +kernel
theorem dX4_digs_35 : decode cX4_digs 35 = .ok (.aload_n 0, 1) := by decide +kernel
theorem dX4_digs_36 : decode cX4_digs 36 = .ok (.getfield 24, 3) := by decide +kernel
theorem dX4_digs_39 : decode cX4_digs 39 = .ok (.iconst 3, 1) := by decide +kernel
theorem dX4_digs_40 : decode cX4_digs 40 = .ok (.iload_n 3, 1) := by decide +kernel
theorem dX4_digs_41 : decode cX4_digs 41 = .ok (.i2l, 1) := by decide +kernel
theorem dX4_digs_42 : decode cX4_digs 42 = .ok (.lastore, 1) := by decide +kernel
theorem dX4_digs_43 : decode cX4_digs 43 = .ok (.aload_n 0, 1) := by decide +kernel
theorem dX4_digs_44 : decode cX4_digs 44 = .ok (.iconst 1, 1) := by decide +kernel
theorem dX4_digs_45 : decode cX4_digs 45 = .ok (.invokevirtual 57, 3) := by decide +kernel
theorem dX4_digs_48 : decode cX4_digs 48 = .ok (.lstore 4, 2) := by decide +kernel
theorem dX4_digs_50 : decode cX4_digs 50 = .ok (.lload 4, 2) := by decide +kernel
theorem dX4_digs_52 : decode cX4_digs 52 = .ok (.ldc2_w 61, 3) := by decide +kernel
theorem dX4_digs_55 : decode cX4_digs 55 = .ok (.lcmp, 1) := by decide +kernel
theorem dX4_digs_56 : decode cX4_digs 56 = .ok (.ifCond .ne 9, 3) := by decide +kernel
theorem dX4_digs_59 : decode cX4_digs 59 = .ok (.ldc2_w 63, 3) := by decide +kernel
theorem dX4_digs_62 : decode cX4_digs 62 = .ok (.goto 9, 3) := by decide +kernel
theorem dX4_digs_65 : decode cX4_digs 65 = .ok (.lconst 0, 1) := by decide +kernel
theorem dX4_digs_66 : decode cX4_digs 66 = .ok (.lload 4, 2) := by decide +kernel
theorem dX4_digs_68 : decode cX4_digs 68 = .ok (.invokestatic 48, 3) := by decide +kernel
theorem dX4_digs_71 : decode cX4_digs 71 = .ok (.lreturn, 1) := by decide +kernel
theorem dX4_pumps_0 : decode cX4_pumps 0 = .ok (.aload_n 0, 1) := by decide +kernel
theorem dX4_pumps_1 : decode cX4_pumps 1 = .ok (.iconst 2, 1) := by decide +kernel
theorem dX4_pumps_2 : decode cX4_pumps 2 = .ok (.invokevirtual 44, 3) := by decide +kernel
theorem dX4_pumps_5 : decode cX4_pumps 5 = .ok (.ifCond .ne 5, 3) := by decide +kernel
theorem dX4_pumps_8 : decode cX4_pumps 8 = .ok (.lconst 0, 1) := by decide +kernel
theorem dX4_pumps_9 : decode cX4_pumps 9 = .ok (.lreturn, 1) := by decide +kernel
theorem dX4_pumps_10 : decode cX4_pumps 10 = .ok (.aload_n 0, 1) := by decide +kernel
theorem dX4_pumps_11 : decode cX4_pumps 11 = .ok (.getfield 24, 3) := by decide +kernel
theorem dX4_pumps_14 : decode cX4_pumps 14 = .ok (.lconst 0, 1) := by decide +kernel
theorem dX4_pumps_15 : decode cX4_pumps 15 = .ok (.invokestatic 54, 3) := by decide +kernel
theorem dX4_pumps_18 : decode cX4_pumps 18 = .ok (.aload_n 0, 1) := by decide +kernel
theorem dX4_pumps_19 : decode cX4_pumps 19 = .ok (.getfield 24, 3) := by decide +kernel
theorem dX4_pumps_22 : decode cX4_pumps 22 = .ok (.iconst 4, 1) := by decide +kernel
theorem dX4_pumps_23 : decode cX4_pumps 23 = .ok (.iload_n 1, 1) := by decide +kernel
theorem dX4_pumps_24 : decode cX4_pumps 24 = .ok (.i2l, 1) := by decide +kernel
theorem dX4_pumps_25 : decode cX4_pumps 25 = .ok (.lastore, 1) := by decide +kernel
theorem dX4_pumps_26 : decode cX4_pumps 26 = .ok (.aload_n 0, 1) := by decide +kernel
theorem dX4_pumps_27 : decode cX4_pumps 27 = .ok (.getfield 24, 3) := by decide +kernel
theorem dX4_pumps_30 : decode cX4_pumps 30 = .ok (.iconst 5, 1) := by decide +kernel
theorem dX4_pumps_31 : decode cX4_pumps 31 = .ok (.lload_n 2, 1) := by decide +kernel
theorem dX4_pumps_32 : decode cX4_pumps 32 = .ok (.lastore, 1) := by decide +kernel
theorem dX4_pumps_33 : decode cX4_pumps 33 = .ok (.aload_n 0, 1) := by decide +kernel
theorem dX4_pumps_34 : decode cX4_pumps 34 = .ok (.iconst 2, 1) := by decide +kernel
theorem dX4_pumps_35 : decode cX4_pumps 35 = .ok (.invokevirtual 57, 3) := by decide +kernel
theorem dX4_pumps_38 : decode cX4_pumps 38 = .ok (.lstore 4, 2) := by decide +kernel
theorem dX4_pumps_40 : decode cX4_pumps 40 = .ok (.lload 4, 2) := by decide +kernel
theorem dX4_pumps_42 : decode cX4_pumps 42 = .ok (.ldc2_w 61, 3) := by decide +kernel
theorem dX4_pumps_45 : decode cX4_pumps 45 = .ok (.lcmp, 1) := by decide +kernel
theorem dX4_pumps_46 : decode cX4_pumps 46 = .ok (.ifCond .ne 9, 3) := by decide +kernel
theorem dX4_pumps_49 : decode cX4_pumps 49 = .ok (.ldc2_w 63, 3) := by decide +kernel
theorem dX4_pumps_52 : decode cX4_pumps 52 = .ok (.goto 9, 3) := by decide +kernel
theorem dX4_pumps_55 : decode cX4_pumps 55 = .ok (.lconst 0, 1) := by decide +kernel
theorem dX4_pumps_56 : decode cX4_pumps 56 = .ok (.lload 4, 2) := by decide +kernel
theorem dX4_pumps_58 : decode cX4_pumps 58 = .ok (.invokestatic 48, 3) := by decide +kernel
theorem dX4_pumps_61 : decode cX4_pumps 61 = .ok (.lreturn, 1) := by decide +kernel
theorem dX4_work_0 : decode cX4_work 0 = .ok (.iconst 0, 1) := by decide +kernel
theorem dX4_work_1 : decode cX4_work 1 = .ok (.istore_n 2, 1) := by decide +kernel
theorem dX4_work_2 : decode cX4_work 2 = .ok (.aload_n 0, 1) := by decide +kernel
theorem dX4_work_3 : decode cX4_work 3 = .ok (.getfield 18, 3) := by decide +kernel
theorem dX4_work_6 : decode cX4_work 6 = .ok (.iload_n 1, 1) := by decide +kernel
theorem dX4_work_7 : decode cX4_work 7 = .ok (.iaload, 1) := by decide +kernel
theorem dX4_work_8 : decode cX4_work 8 = .ok (.istore_n 3, 1) := by decide +kernel
theorem dX4_work_9 : decode cX4_work 9 = .ok (.iload_n 3, 1) := by decide +kernel
theorem dX4_work_10 : decode cX4_work 10 = .ok (.aload_n 0, 1) := by decide +kernel
theorem dX4_work_11 : decode cX4_work 11 = .ok (.getfield 21, 3) := by decide +kernel
theorem dX4_work_14 : decode cX4_work 14 = .ok (.iload_n 1, 1) := by decide +kernel
theorem dX4_work_15 : decode cX4_work 15 = .ok (.iaload, 1) := by decide +kernel
theorem dX4_work_16 : decode cX4_work 16 = .ok (.if_icmp .ge 199, 3) := by decide +kernel
theorem dX4_work_19 : decode cX4_work 19 = .ok (.aload_n 0, 1) := by decide +kernel
theorem dX4_work_20 : decode cX4_work 20 = .ok (.getfield 11, 3) := by decide +kernel
theorem dX4_work_23 : decode cX4_work 23 = .ok (.iload_n 3, 1) := by decide +kernel
theorem dX4_work_24 : decode cX4_work 24 = .ok (.iaload, 1) := by decide +kernel
theorem dX4_work_25 : decode cX4_work 25 = .ok (.ifCond .eq 13, 3) := by decide +kernel
theorem dX4_work_28 : decode cX4_work 28 = .ok (.aload_n 0, 1) := by decide +kernel
theorem dX4_work_29 : decode cX4_work 29 = .ok (.getfield 11, 3) := by decide +kernel
theorem dX4_work_32 : decode cX4_work 32 = .ok (.iload_n 3, 1) := by decide +kernel
theorem dX4_work_33 : decode cX4_work 33 = .ok (.iaload, 1) := by decide +kernel
theorem dX4_work_34 : decode cX4_work 34 = .ok (.iconst 1, 1) := by decide +kernel
theorem dX4_work_35 : decode cX4_work 35 = .ok (.if_icmp .ne 55, 3) := by decide +kernel
theorem dX4_work_38 : decode cX4_work 38 = .ok (.iload_n 2, 1) := by decide +kernel
theorem dX4_work_39 : decode cX4_work 39 = .ok (.bipush 64, 2) := by decide +kernel
theorem dX4_work_41 : decode cX4_work 41 = .ok (.if_icmp .lt 7, 3) := by decide +kernel
theorem dX4_work_44 : decode cX4_work 44 = .ok (.ldc2_w 61, 3) := by decide +kernel
theorem dX4_work_47 : decode cX4_work 47 = .ok (.lreturn, 1) := by decide +kernel
theorem dX4_work_48 : decode cX4_work 48 = .ok (.aload_n 0, 1) := by decide +kernel
theorem dX4_work_49 : decode cX4_work 49 = .ok (.getfield 28, 3) := by decide +kernel
theorem dX4_work_52 : decode cX4_work 52 = .ok (.iload_n 2, 1) := by decide +kernel
theorem dX4_work_53 : decode cX4_work 53 = .ok (.aload_n 0, 1) := by decide +kernel
theorem dX4_work_54 : decode cX4_work 54 = .ok (.getfield 11, 3) := by decide +kernel
theorem dX4_work_57 : decode cX4_work 57 = .ok (.iload_n 3, 1) := by decide +kernel
theorem dX4_work_58 : decode cX4_work 58 = .ok (.iaload, 1) := by decide +kernel
theorem dX4_work_59 : decode cX4_work 59 = .ok (.ifCond .ne 13, 3) := by decide +kernel
theorem dX4_work_62 : decode cX4_work 62 = .ok (.aload_n 0, 1) := by decide +kernel
theorem dX4_work_63 : decode cX4_work 63 = .ok (.getfield 15, 3) := by decide +kernel
theorem dX4_work_66 : decode cX4_work 66 = .ok (.iload_n 3, 1) := by decide +kernel
theorem dX4_work_67 : decode cX4_work 67 = .ok (.iaload, 1) := by decide +kernel
theorem dX4_work_68 : decode cX4_work 68 = .ok (.i2l, 1) := by decide +kernel
theorem dX4_work_69 : decode cX4_work 69 = .ok (.goto 14, 3) := by decide +kernel
theorem dX4_work_72 : decode cX4_work 72 = .ok (.aload_n 0, 1) := by decide +kernel
theorem dX4_work_73 : decode cX4_work 73 = .ok (.getfield 24, 3) := by decide +kernel
theorem dX4_work_76 : decode cX4_work 76 = .ok (.aload_n 0, 1) := by decide +kernel
theorem dX4_work_77 : decode cX4_work 77 = .ok (.getfield 15, 3) := by decide +kernel
theorem dX4_work_80 : decode cX4_work 80 = .ok (.iload_n 3, 1) := by decide +kernel
theorem dX4_work_81 : decode cX4_work 81 = .ok (.iaload, 1) := by decide +kernel
theorem dX4_work_82 : decode cX4_work 82 = .ok (.laload, 1) := by decide +kernel
theorem dX4_work_83 : decode cX4_work 83 = .ok (.lastore, 1) := by decide +kernel
theorem dX4_work_84 : decode cX4_work 84 = .ok (.iinc 2 1, 3) := by decide +kernel
theorem dX4_work_87 : decode cX4_work 87 = .ok (.goto 122, 3) := by decide +kernel
theorem dX4_work_90 : decode cX4_work 90 = .ok (.aload_n 0, 1) := by decide +kernel
theorem dX4_work_91 : decode cX4_work 91 = .ok (.getfield 11, 3) := by decide +kernel
theorem dX4_work_94 : decode cX4_work 94 = .ok (.iload_n 3, 1) := by decide +kernel
theorem dX4_work_95 : decode cX4_work 95 = .ok (.iaload, 1) := by decide +kernel
theorem dX4_work_96 : decode cX4_work 96 = .ok (.iconst 4, 1) := by decide +kernel
theorem dX4_work_97 : decode cX4_work 97 = .ok (.if_icmp .ne 7, 3) := by decide +kernel
theorem dX4_work_100 : decode cX4_work 100 = .ok (.iconst 1, 1) := by decide +kernel
theorem dX4_work_101 : decode cX4_work 101 = .ok (.goto 4, 3) := by decide +kernel
theorem dX4_work_104 : decode cX4_work 104 = .ok (.iconst 2, 1) := by decide +kernel
theorem dX4_work_105 : decode cX4_work 105 = .ok (.istore 4, 2) := by decide +kernel
theorem dX4_work_107 : decode cX4_work 107 = .ok (.iload_n 2, 1) := by decide +kernel
theorem dX4_work_108 : decode cX4_work 108 = .ok (.iload 4, 2) := by decide +kernel
theorem dX4_work_110 : decode cX4_work 110 = .ok (.if_icmp .ge 7, 3) := by decide +kernel
theorem dX4_work_113 : decode cX4_work 113 = .ok (.ldc2_w 61, 3) := by decide +kernel
theorem dX4_work_116 : decode cX4_work 116 = .ok (.lreturn, 1) := by decide +kernel
theorem dX4_work_117 : decode cX4_work 117 = .ok (.iload_n 2, 1) := by decide +kernel
theorem dX4_work_118 : decode cX4_work 118 = .ok (.iload 4, 2) := by decide +kernel
theorem dX4_work_120 : decode cX4_work 120 = .ok (.iconst 1, 1) := by decide +kernel
theorem dX4_work_121 : decode cX4_work 121 = .ok (.isub, 1) := by decide +kernel
theorem dX4_work_122 : decode cX4_work 122 = .ok (.isub, 1) := by decide +kernel
theorem dX4_work_123 : decode cX4_work 123 = .ok (.istore_n 2, 1) := by decide +kernel
theorem dX4_work_124 : decode cX4_work 124 = .ok (.aload_n 0, 1) := by decide +kernel
theorem dX4_work_125 : decode cX4_work 125 = .ok (.getfield 28, 3) := by decide +kernel
theorem dX4_work_128 : decode cX4_work 128 = .ok (.iload_n 2, 1) := by decide +kernel
theorem dX4_work_129 : decode cX4_work 129 = .ok (.iconst 1, 1) := by decide +kernel
theorem dX4_work_130 : decode cX4_work 130 = .ok (.isub, 1) := by decide +kernel
theorem dX4_work_131 : decode cX4_work 131 = .ok (.laload, 1) := by decide +kernel
theorem dX4_work_132 : decode cX4_work 132 = .ok (.lstore 5, 2) := by decide +kernel
theorem dX4_work_134 : decode cX4_work 134 = .ok (.iload 4, 2) := by decide +kernel
theorem dX4_work_136 : decode cX4_work 136 = .ok (.iconst 1, 1) := by decide +kernel
theorem dX4_work_137 : decode cX4_work 137 = .ok (.if_icmp .ne 21, 3) := by decide +kernel
theorem dX4_work_140 : decode cX4_work 140 = .ok (.lload 5, 2) := by decide +kernel
theorem dX4_work_142 : decode cX4_work 142 = .ok (.lconst 0, 1) := by decide +kernel
theorem dX4_work_143 : decode cX4_work 143 = .ok (.lcmp, 1) := by decide +kernel
theorem dX4_work_144 : decode cX4_work 144 = .ok (.ifCond .ne 7, 3) := by decide +kernel
theorem dX4_work_147 : decode cX4_work 147 = .ok (.iconst 1, 1) := by decide +kernel
theorem dX4_work_148 : decode cX4_work 148 = .ok (.goto 4, 3) := by decide +kernel
theorem dX4_work_151 : decode cX4_work 151 = .ok (.iconst 0, 1) := by decide +kernel
theorem dX4_work_152 : decode cX4_work 152 = .ok (.invokestatic 65, 3) := by decide +kernel
theorem dX4_work_155 : decode cX4_work 155 = .ok (.goto 20, 3) := by decide +kernel
theorem dX4_work_158 : decode cX4_work 158 = .ok (.aload_n 0, 1) := by decide +kernel
theorem dX4_work_159 : decode cX4_work 159 = .ok (.getfield 11, 3) := by decide +kernel
theorem dX4_work_162 : decode cX4_work 162 = .ok (.iload_n 3, 1) := by decide +kernel
theorem dX4_work_163 : decode cX4_work 163 = .ok (.iaload, 1) := by decide +kernel
theorem dX4_work_164 : decode cX4_work 164 = .ok (.lload 5, 2) := by decide +kernel
theorem dX4_work_166 : decode cX4_work 166 = .ok (.aload_n 0, 1) := by decide +kernel
theorem dX4_work_167 : decode cX4_work 167 = .ok (.getfield 28, 3) := by decide +kernel
theorem dX4_work_170 : decode cX4_work 170 = .ok (.iload_n 2, 1) := by decide +kernel
theorem dX4_work_171 : decode cX4_work 171 = .ok (.laload, 1) := by decide +kernel
theorem dX4_work_172 : decode cX4_work 172 = .ok (.invokestatic 69, 3) := by decide +kernel
theorem dX4_work_175 : decode cX4_work 175 = .ok (.lstore 7, 2) := by decide +kernel
theorem dX4_work_177 : decode cX4_work 177 = .ok (.lload 7, 2) := by decide +kernel
theorem dX4_work_179 : decode cX4_work 179 = .ok (.ldc2_w 73, 3) := by decide +kernel
theorem dX4_work_182 : decode cX4_work 182 = .ok (.lcmp, 1) := by decide +kernel
theorem dX4_work_183 : decode cX4_work 183 = .ok (.ifCond .gt 12, 3) := by decide +kernel
theorem dX4_work_186 : decode cX4_work 186 = .ok (.lload 7, 2) := by decide +kernel
theorem dX4_work_188 : decode cX4_work 188 = .ok (.ldc2_w 75, 3) := by decide +kernel
theorem dX4_work_191 : decode cX4_work 191 = .ok (.lcmp, 1) := by decide +kernel
theorem dX4_work_192 : decode cX4_work 192 = .ok (.ifCond .ge 7, 3) := by decide +kernel
theorem dX4_work_195 : decode cX4_work 195 = .ok (.ldc2_w 61, 3) := by decide +kernel
theorem dX4_work_198 : decode cX4_work 198 = .ok (.lreturn, 1) := by decide +kernel
theorem dX4_work_199 : decode cX4_work 199 = .ok (.aload_n 0, 1) := by decide +kernel
theorem dX4_work_200 : decode cX4_work 200 = .ok (.getfield 28, 3) := by decide +kernel
theorem dX4_work_203 : decode cX4_work 203 = .ok (.iload_n 2, 1) := by decide +kernel
theorem dX4_work_204 : decode cX4_work 204 = .ok (.iconst 1, 1) := by decide +kernel
theorem dX4_work_205 : decode cX4_work 205 = .ok (.isub, 1) := by decide +kernel
theorem dX4_work_206 : decode cX4_work 206 = .ok (.lload 7, 2) := by decide +kernel
theorem dX4_work_208 : decode cX4_work 208 = .ok (.lastore, 1) := by decide +kernel
theorem dX4_work_209 : decode cX4_work 209 = .ok (.iinc 3 1, 3) := by decide +kernel
theorem dX4_work_212 : decode cX4_work 212 = .ok (.goto (-203), 3) := by decide +kernel
theorem dX4_work_215 : decode cX4_work 215 = .ok (.iload_n 2, 1) := by decide +kernel
theorem dX4_work_216 : decode cX4_work 216 = .ok (.iconst 1, 1) := by decide +kernel
theorem dX4_work_217 : decode cX4_work 217 = .ok (.if_icmp .ne 12, 3) := by decide +kernel
theorem dX4_work_220 : decode cX4_work 220 = .ok (.aload_n 0, 1) := by decide +kernel
theorem dX4_work_221 : decode cX4_work 221 = .ok (.getfield 28, 3) := by decide +kernel
theorem dX4_work_224 : decode cX4_work 224 = .ok (.iconst 0, 1) := by decide +kernel
theorem dX4_work_225 : decode cX4_work 225 = .ok (.laload, 1) := by decide +kernel
theorem dX4_work_226 : decode cX4_work 226 = .ok (.goto 6, 3) := by decide +kernel
theorem dX4_work_229 : decode cX4_work 229 = .ok (.ldc2_w 61, 3) := by decide +kernel
theorem dX4_work_232 : decode cX4_work 232 = .ok (.lreturn, 1) := by decide +kernel
theorem dX4_truth_0 : decode cX4_truth 0 = .ok (.iload_n 0, 1) := by decide +kernel
theorem dX4_truth_1 : decode cX4_truth 1 = .ok (.ifCond .eq 7, 3) := by decide +kernel
theorem dX4_truth_4 : decode cX4_truth 4 = .ok (.lconst 1, 1) := by decide +kernel
theorem dX4_truth_5 : decode cX4_truth 5 = .ok (.goto 4, 3) := by decide +kernel
theorem dX4_truth_8 : decode cX4_truth 8 = .ok (.lconst 0, 1) := by decide +kernel
theorem dX4_truth_9 : decode cX4_truth 9 = .ok (.lreturn, 1) := by decide +kernel
theorem dX4_joined_0 : decode cX4_joined 0 = .ok (.iload_n 0, 1) := by decide +kernel
theorem dX4_joined_1 : decode cX4_joined 1 = .ok (.tableswitch 247 2 14 #[67, 85, 247, 103, 115, 127, 139, 151, 163, 175, 179, 183, 231], 67) := by decide +kernel
theorem dX4_joined_68 : decode cX4_joined 68 = .ok (.lload_n 1, 1) := by decide +kernel
theorem dX4_joined_69 : decode cX4_joined 69 = .ok (.lconst 0, 1) := by decide +kernel
theorem dX4_joined_70 : decode cX4_joined 70 = .ok (.lcmp, 1) := by decide +kernel
theorem dX4_joined_71 : decode cX4_joined 71 = .ok (.ifCond .ne 9, 3) := by decide +kernel
theorem dX4_joined_74 : decode cX4_joined 74 = .ok (.lload_n 3, 1) := by decide +kernel
theorem dX4_joined_75 : decode cX4_joined 75 = .ok (.lconst 0, 1) := by decide +kernel
theorem dX4_joined_76 : decode cX4_joined 76 = .ok (.lcmp, 1) := by decide +kernel
theorem dX4_joined_77 : decode cX4_joined 77 = .ok (.ifCond .eq 7, 3) := by decide +kernel
theorem dX4_joined_80 : decode cX4_joined 80 = .ok (.lconst 1, 1) := by decide +kernel
theorem dX4_joined_81 : decode cX4_joined 81 = .ok (.goto 4, 3) := by decide +kernel
theorem dX4_joined_84 : decode cX4_joined 84 = .ok (.lconst 0, 1) := by decide +kernel
theorem dX4_joined_85 : decode cX4_joined 85 = .ok (.lreturn, 1) := by decide +kernel
theorem dX4_joined_86 : decode cX4_joined 86 = .ok (.lload_n 1, 1) := by decide +kernel
theorem dX4_joined_87 : decode cX4_joined 87 = .ok (.lconst 0, 1) := by decide +kernel
theorem dX4_joined_88 : decode cX4_joined 88 = .ok (.lcmp, 1) := by decide +kernel
theorem dX4_joined_89 : decode cX4_joined 89 = .ok (.ifCond .eq 13, 3) := by decide +kernel
theorem dX4_joined_92 : decode cX4_joined 92 = .ok (.lload_n 3, 1) := by decide +kernel
theorem dX4_joined_93 : decode cX4_joined 93 = .ok (.lconst 0, 1) := by decide +kernel
theorem dX4_joined_94 : decode cX4_joined 94 = .ok (.lcmp, 1) := by decide +kernel
theorem dX4_joined_95 : decode cX4_joined 95 = .ok (.ifCond .eq 7, 3) := by decide +kernel
theorem dX4_joined_98 : decode cX4_joined 98 = .ok (.lconst 1, 1) := by decide +kernel
theorem dX4_joined_99 : decode cX4_joined 99 = .ok (.goto 4, 3) := by decide +kernel
theorem dX4_joined_102 : decode cX4_joined 102 = .ok (.lconst 0, 1) := by decide +kernel
theorem dX4_joined_103 : decode cX4_joined 103 = .ok (.lreturn, 1) := by decide +kernel
theorem dX4_joined_104 : decode cX4_joined 104 = .ok (.lload_n 1, 1) := by decide +kernel
theorem dX4_joined_105 : decode cX4_joined 105 = .ok (.lload_n 3, 1) := by decide +kernel
theorem dX4_joined_106 : decode cX4_joined 106 = .ok (.lcmp, 1) := by decide +kernel
theorem dX4_joined_107 : decode cX4_joined 107 = .ok (.ifCond .ge 7, 3) := by decide +kernel
theorem dX4_joined_110 : decode cX4_joined 110 = .ok (.lconst 1, 1) := by decide +kernel
theorem dX4_joined_111 : decode cX4_joined 111 = .ok (.goto 4, 3) := by decide +kernel
theorem dX4_joined_114 : decode cX4_joined 114 = .ok (.lconst 0, 1) := by decide +kernel
theorem dX4_joined_115 : decode cX4_joined 115 = .ok (.lreturn, 1) := by decide +kernel
theorem dX4_joined_116 : decode cX4_joined 116 = .ok (.lload_n 1, 1) := by decide +kernel
theorem dX4_joined_117 : decode cX4_joined 117 = .ok (.lload_n 3, 1) := by decide +kernel
theorem dX4_joined_118 : decode cX4_joined 118 = .ok (.lcmp, 1) := by decide +kernel
theorem dX4_joined_119 : decode cX4_joined 119 = .ok (.ifCond .gt 7, 3) := by decide +kernel
theorem dX4_joined_122 : decode cX4_joined 122 = .ok (.lconst 1, 1) := by decide +kernel
theorem dX4_joined_123 : decode cX4_joined 123 = .ok (.goto 4, 3) := by decide +kernel
theorem dX4_joined_126 : decode cX4_joined 126 = .ok (.lconst 0, 1) := by decide +kernel
theorem dX4_joined_127 : decode cX4_joined 127 = .ok (.lreturn, 1) := by decide +kernel
theorem dX4_joined_128 : decode cX4_joined 128 = .ok (.lload_n 1, 1) := by decide +kernel
theorem dX4_joined_129 : decode cX4_joined 129 = .ok (.lload_n 3, 1) := by decide +kernel
theorem dX4_joined_130 : decode cX4_joined 130 = .ok (.lcmp, 1) := by decide +kernel
theorem dX4_joined_131 : decode cX4_joined 131 = .ok (.ifCond .ne 7, 3) := by decide +kernel
theorem dX4_joined_134 : decode cX4_joined 134 = .ok (.lconst 1, 1) := by decide +kernel
theorem dX4_joined_135 : decode cX4_joined 135 = .ok (.goto 4, 3) := by decide +kernel
theorem dX4_joined_138 : decode cX4_joined 138 = .ok (.lconst 0, 1) := by decide +kernel
theorem dX4_joined_139 : decode cX4_joined 139 = .ok (.lreturn, 1) := by decide +kernel
theorem dX4_joined_140 : decode cX4_joined 140 = .ok (.lload_n 1, 1) := by decide +kernel
theorem dX4_joined_141 : decode cX4_joined 141 = .ok (.lload_n 3, 1) := by decide +kernel
theorem dX4_joined_142 : decode cX4_joined 142 = .ok (.lcmp, 1) := by decide +kernel
theorem dX4_joined_143 : decode cX4_joined 143 = .ok (.ifCond .eq 7, 3) := by decide +kernel
theorem dX4_joined_146 : decode cX4_joined 146 = .ok (.lconst 1, 1) := by decide +kernel
theorem dX4_joined_147 : decode cX4_joined 147 = .ok (.goto 4, 3) := by decide +kernel
theorem dX4_joined_150 : decode cX4_joined 150 = .ok (.lconst 0, 1) := by decide +kernel
theorem dX4_joined_151 : decode cX4_joined 151 = .ok (.lreturn, 1) := by decide +kernel
theorem dX4_joined_152 : decode cX4_joined 152 = .ok (.lload_n 1, 1) := by decide +kernel
theorem dX4_joined_153 : decode cX4_joined 153 = .ok (.lload_n 3, 1) := by decide +kernel
theorem dX4_joined_154 : decode cX4_joined 154 = .ok (.lcmp, 1) := by decide +kernel
theorem dX4_joined_155 : decode cX4_joined 155 = .ok (.ifCond .lt 7, 3) := by decide +kernel
theorem dX4_joined_158 : decode cX4_joined 158 = .ok (.lconst 1, 1) := by decide +kernel
theorem dX4_joined_159 : decode cX4_joined 159 = .ok (.goto 4, 3) := by decide +kernel
theorem dX4_joined_162 : decode cX4_joined 162 = .ok (.lconst 0, 1) := by decide +kernel
theorem dX4_joined_163 : decode cX4_joined 163 = .ok (.lreturn, 1) := by decide +kernel
theorem dX4_joined_164 : decode cX4_joined 164 = .ok (.lload_n 1, 1) := by decide +kernel
theorem dX4_joined_165 : decode cX4_joined 165 = .ok (.lload_n 3, 1) := by decide +kernel
theorem dX4_joined_166 : decode cX4_joined 166 = .ok (.lcmp, 1) := by decide +kernel
theorem dX4_joined_167 : decode cX4_joined 167 = .ok (.ifCond .le 7, 3) := by decide +kernel
theorem dX4_joined_170 : decode cX4_joined 170 = .ok (.lconst 1, 1) := by decide +kernel
theorem dX4_joined_171 : decode cX4_joined 171 = .ok (.goto 4, 3) := by decide +kernel
theorem dX4_joined_174 : decode cX4_joined 174 = .ok (.lconst 0, 1) := by decide +kernel
theorem dX4_joined_175 : decode cX4_joined 175 = .ok (.lreturn, 1) := by decide +kernel
theorem dX4_joined_176 : decode cX4_joined 176 = .ok (.lload_n 1, 1) := by decide +kernel
theorem dX4_joined_177 : decode cX4_joined 177 = .ok (.lload_n 3, 1) := by decide +kernel
theorem dX4_joined_178 : decode cX4_joined 178 = .ok (.ladd, 1) := by decide +kernel
theorem dX4_joined_179 : decode cX4_joined 179 = .ok (.lreturn, 1) := by decide +kernel
theorem dX4_joined_180 : decode cX4_joined 180 = .ok (.lload_n 1, 1) := by decide +kernel
theorem dX4_joined_181 : decode cX4_joined 181 = .ok (.lload_n 3, 1) := by decide +kernel
theorem dX4_joined_182 : decode cX4_joined 182 = .ok (.lsub, 1) := by decide +kernel
theorem dX4_joined_183 : decode cX4_joined 183 = .ok (.lreturn, 1) := by decide +kernel
theorem dX4_joined_184 : decode cX4_joined 184 = .ok (.lload_n 3, 1) := by decide +kernel
theorem dX4_joined_185 : decode cX4_joined 185 = .ok (.lconst 0, 1) := by decide +kernel
theorem dX4_joined_186 : decode cX4_joined 186 = .ok (.lcmp, 1) := by decide +kernel
theorem dX4_joined_187 : decode cX4_joined 187 = .ok (.ifCond .eq 41, 3) := by decide +kernel
theorem dX4_joined_190 : decode cX4_joined 190 = .ok (.lload_n 1, 1) := by decide +kernel
theorem dX4_joined_191 : decode cX4_joined 191 = .ok (.lconst 0, 1) := by decide +kernel
theorem dX4_joined_192 : decode cX4_joined 192 = .ok (.lcmp, 1) := by decide +kernel
theorem dX4_joined_193 : decode cX4_joined 193 = .ok (.ifCond .ge 8, 3) := by decide +kernel
theorem dX4_joined_196 : decode cX4_joined 196 = .ok (.lload_n 1, 1) := by decide +kernel
theorem dX4_joined_197 : decode cX4_joined 197 = .ok (.lneg, 1) := by decide +kernel
theorem dX4_joined_198 : decode cX4_joined 198 = .ok (.goto 4, 3) := by decide +kernel
theorem dX4_joined_201 : decode cX4_joined 201 = .ok (.lload_n 1, 1) := by decide +kernel
theorem dX4_joined_202 : decode cX4_joined 202 = .ok (.ldc2_w 73, 3) := by decide +kernel
theorem dX4_joined_205 : decode cX4_joined 205 = .ok (.lload_n 3, 1) := by decide +kernel
theorem dX4_joined_206 : decode cX4_joined 206 = .ok (.lconst 0, 1) := by decide +kernel
theorem dX4_joined_207 : decode cX4_joined 207 = .ok (.lcmp, 1) := by decide +kernel
theorem dX4_joined_208 : decode cX4_joined 208 = .ok (.ifCond .ge 8, 3) := by decide +kernel
theorem dX4_joined_211 : decode cX4_joined 211 = .ok (.lload_n 3, 1) := by decide +kernel
theorem dX4_joined_212 : decode cX4_joined 212 = .ok (.lneg, 1) := by decide +kernel
theorem dX4_joined_213 : decode cX4_joined 213 = .ok (.goto 4, 3) := by decide +kernel
theorem dX4_joined_216 : decode cX4_joined 216 = .ok (.lload_n 3, 1) := by decide +kernel
theorem dX4_joined_217 : decode cX4_joined 217 = .ok (.ldiv, 1) := by decide +kernel
theorem dX4_joined_218 : decode cX4_joined 218 = .ok (.lcmp, 1) := by decide +kernel
theorem dX4_joined_219 : decode cX4_joined 219 = .ok (.ifCond .le 9, 3) := by decide +kernel
theorem dX4_joined_222 : decode cX4_joined 222 = .ok (.ldc2_w 61, 3) := by decide +kernel
theorem dX4_joined_225 : decode cX4_joined 225 = .ok (.goto 6, 3) := by decide +kernel
theorem dX4_joined_228 : decode cX4_joined 228 = .ok (.lload_n 1, 1) := by decide +kernel
theorem dX4_joined_229 : decode cX4_joined 229 = .ok (.lload_n 3, 1) := by decide +kernel
theorem dX4_joined_230 : decode cX4_joined 230 = .ok (.lmul, 1) := by decide +kernel
theorem dX4_joined_231 : decode cX4_joined 231 = .ok (.lreturn, 1) := by decide +kernel
theorem dX4_joined_232 : decode cX4_joined 232 = .ok (.lload_n 3, 1) := by decide +kernel
theorem dX4_joined_233 : decode cX4_joined 233 = .ok (.lconst 0, 1) := by decide +kernel
theorem dX4_joined_234 : decode cX4_joined 234 = .ok (.lcmp, 1) := by decide +kernel
theorem dX4_joined_235 : decode cX4_joined 235 = .ok (.ifCond .ne 9, 3) := by decide +kernel
theorem dX4_joined_238 : decode cX4_joined 238 = .ok (.ldc2_w 61, 3) := by decide +kernel
theorem dX4_joined_241 : decode cX4_joined 241 = .ok (.goto 6, 3) := by decide +kernel
theorem dX4_joined_244 : decode cX4_joined 244 = .ok (.lload_n 1, 1) := by decide +kernel
theorem dX4_joined_245 : decode cX4_joined 245 = .ok (.lload_n 3, 1) := by decide +kernel
theorem dX4_joined_246 : decode cX4_joined 246 = .ok (.ldiv, 1) := by decide +kernel
theorem dX4_joined_247 : decode cX4_joined 247 = .ok (.lreturn, 1) := by decide +kernel
theorem dX4_joined_248 : decode cX4_joined 248 = .ok (.ldc2_w 61, 3) := by decide +kernel
theorem dX4_joined_251 : decode cX4_joined 251 = .ok (.lreturn, 1) := by decide +kernel
theorem dX5_init_0 : decode cX5_init 0 = .ok (.aload_n 0, 1) := by decide +kernel
theorem dX5_init_1 : decode cX5_init 1 = .ok (.invokespecial 3, 3) := by decide +kernel
theorem dX5_init_4 : decode cX5_init 4 = .ok (.aload_n 0, 1) := by decide +kernel
theorem dX5_init_5 : decode cX5_init 5 = .ok (.bipush 7, 2) := by decide +kernel
theorem dX5_init_7 : decode cX5_init 7 = .ok (.newarray .int, 2) := by decide +kernel
theorem dX5_init_9 : decode cX5_init 9 = .ok (.putfield 9, 3) := by decide +kernel
theorem dX5_init_12 : decode cX5_init 12 = .ok (.aload_n 0, 1) := by decide +kernel
theorem dX5_init_13 : decode cX5_init 13 = .ok (.bipush 7, 2) := by decide +kernel
theorem dX5_init_15 : decode cX5_init 15 = .ok (.newarray .int, 2) := by decide +kernel
theorem dX5_init_17 : decode cX5_init 17 = .ok (.putfield 15, 3) := by decide +kernel
theorem dX5_init_20 : decode cX5_init 20 = .ok (.aload_n 0, 1) := by decide +kernel
theorem dX5_init_21 : decode cX5_init 21 = .ok (.bipush 7, 2) := by decide +kernel
theorem dX5_init_23 : decode cX5_init 23 = .ok (.newarray .int, 2) := by decide +kernel
theorem dX5_init_25 : decode cX5_init 25 = .ok (.putfield 18, 3) := by decide +kernel
theorem dX5_init_28 : decode cX5_init 28 = .ok (.aload_n 0, 1) := by decide +kernel
theorem dX5_init_29 : decode cX5_init 29 = .ok (.bipush 7, 2) := by decide +kernel
theorem dX5_init_31 : decode cX5_init 31 = .ok (.newarray .int, 2) := by decide +kernel
theorem dX5_init_33 : decode cX5_init 33 = .ok (.putfield 21, 3) := by decide +kernel
theorem dX5_init_36 : decode cX5_init 36 = .ok (.aload_n 0, 1) := by decide +kernel
theorem dX5_init_37 : decode cX5_init 37 = .ok (.bipush 20, 2) := by decide +kernel
theorem dX5_init_39 : decode cX5_init 39 = .ok (.bipush 28, 2) := by decide +kernel
theorem dX5_init_41 : decode cX5_init 41 = .ok (.multianewarray 24 2, 4) := by decide +kernel
theorem dX5_init_45 : decode cX5_init 45 = .ok (.putfield 26, 3) := by decide +kernel
theorem dX5_init_48 : decode cX5_init 48 = .ok (.aload_n 0, 1) := by decide +kernel
theorem dX5_init_49 : decode cX5_init 49 = .ok (.bipush 28, 2) := by decide +kernel
theorem dX5_init_51 : decode cX5_init 51 = .ok (.newarray .int, 2) := by decide +kernel
theorem dX5_init_53 : decode cX5_init 53 = .ok (.putfield 29, 3) := by decide +kernel
theorem dX5_init_56 : decode cX5_init 56 = .ok (.aload_n 0, 1) := by decide +kernel
theorem dX5_init_57 : decode cX5_init 57 = .ok (.invokevirtual 32, 3) := by decide +kernel
theorem dX5_init_60 : decode cX5_init 60 = .ok (.return_, 1) := by decide +kernel
theorem dX5_clear_0 : decode cX5_clear 0 = .ok (.aload_n 0, 1) := by decide +kernel
theorem dX5_clear_1 : decode cX5_clear 1 = .ok (.getfield 9, 3) := by decide +kernel
theorem dX5_clear_4 : decode cX5_clear 4 = .ok (.iconst (-1), 1) := by decide +kernel
theorem dX5_clear_5 : decode cX5_clear 5 = .ok (.invokestatic 35, 3) := by decide +kernel
theorem dX5_clear_8 : decode cX5_clear 8 = .ok (.aload_n 0, 1) := by decide +kernel
theorem dX5_clear_9 : decode cX5_clear 9 = .ok (.iconst 0, 1) := by decide +kernel
theorem dX5_clear_10 : decode cX5_clear 10 = .ok (.putfield 41, 3) := by decide +kernel
theorem dX5_clear_13 : decode cX5_clear 13 = .ok (.aload_n 0, 1) := by decide +kernel
theorem dX5_clear_14 : decode cX5_clear 14 = .ok (.iconst 0, 1) := by decide +kernel
theorem dX5_clear_15 : decode cX5_clear 15 = .ok (.putfield 45, 3) := by decide +kernel
theorem dX5_clear_18 : decode cX5_clear 18 = .ok (.aload_n 0, 1) := by decide +kernel
theorem dX5_clear_19 : decode cX5_clear 19 = .ok (.iconst 0, 1) := by decide +kernel
theorem dX5_clear_20 : decode cX5_clear 20 = .ok (.putfield 48, 3) := by decide +kernel
theorem dX5_clear_23 : decode cX5_clear 23 = .ok (.return_, 1) := by decide +kernel
theorem dX5_put_0 : decode cX5_put 0 = .ok (.aload_n 0, 1) := by decide +kernel
theorem dX5_put_1 : decode cX5_put 1 = .ok (.getfield 9, 3) := by decide +kernel
theorem dX5_put_4 : decode cX5_put 4 = .ok (.iload_n 1, 1) := by decide +kernel
theorem dX5_put_5 : decode cX5_put 5 = .ok (.iload_n 2, 1) := by decide +kernel
theorem dX5_put_6 : decode cX5_put 6 = .ok (.iastore, 1) := by decide +kernel
theorem dX5_put_7 : decode cX5_put 7 = .ok (.aload_n 0, 1) := by decide +kernel
theorem dX5_put_8 : decode cX5_put 8 = .ok (.getfield 15, 3) := by decide +kernel
theorem dX5_put_11 : decode cX5_put 11 = .ok (.iload_n 1, 1) := by decide +kernel
theorem dX5_put_12 : decode cX5_put 12 = .ok (.iload_n 3, 1) := by decide +kernel
theorem dX5_put_13 : decode cX5_put 13 = .ok (.iastore, 1) := by decide +kernel
theorem dX5_put_14 : decode cX5_put 14 = .ok (.aload_n 0, 1) := by decide +kernel
theorem dX5_put_15 : decode cX5_put 15 = .ok (.getfield 18, 3) := by decide +kernel
theorem dX5_put_18 : decode cX5_put 18 = .ok (.iload_n 1, 1) := by decide +kernel
theorem dX5_put_19 : decode cX5_put 19 = .ok (.iload 4, 2) := by decide +kernel
theorem dX5_put_21 : decode cX5_put 21 = .ok (.iastore, 1) := by decide +kernel
theorem dX5_put_22 : decode cX5_put 22 = .ok (.aload_n 0, 1) := by decide +kernel
theorem dX5_put_23 : decode cX5_put 23 = .ok (.getfield 21, 3) := by decide +kernel
theorem dX5_put_26 : decode cX5_put 26 = .ok (.iload_n 1, 1) := by decide +kernel
theorem dX5_put_27 : decode cX5_put 27 = .ok (.iload 5, 2) := by decide +kernel
theorem dX5_put_29 : decode cX5_put 29 = .ok (.iastore, 1) := by decide +kernel
theorem dX5_put_30 : decode cX5_put 30 = .ok (.return_, 1) := by decide +kernel
theorem dX5_pipesLaid_0 : decode cX5_pipesLaid 0 = .ok (.iconst 0, 1) := by decide +kernel
theorem dX5_pipesLaid_1 : decode cX5_pipesLaid 1 = .ok (.istore_n 1, 1) := by decide +kernel
theorem dX5_pipesLaid_2 : decode cX5_pipesLaid 2 = .ok (.iconst 0, 1) := by decide +kernel
theorem dX5_pipesLaid_3 : decode cX5_pipesLaid 3 = .ok (.istore_n 2, 1) := by decide +kernel
theorem dX5_pipesLaid_4 : decode cX5_pipesLaid 4 = .ok (.iload_n 2, 1) := by decide +kernel
theorem dX5_pipesLaid_5 : decode cX5_pipesLaid 5 = .ok (.bipush 7, 2) := by decide +kernel
theorem dX5_pipesLaid_7 : decode cX5_pipesLaid 7 = .ok (.if_icmp .ge 22, 3) := by decide +kernel
theorem dX5_pipesLaid_10 : decode cX5_pipesLaid 10 = .ok (.aload_n 0, 1) := by decide +kernel
theorem dX5_pipesLaid_11 : decode cX5_pipesLaid 11 = .ok (.getfield 9, 3) := by decide +kernel
theorem dX5_pipesLaid_14 : decode cX5_pipesLaid 14 = .ok (.iload_n 2, 1) := by decide +kernel
theorem dX5_pipesLaid_15 : decode cX5_pipesLaid 15 = .ok (.iaload, 1) := by decide +kernel
theorem dX5_pipesLaid_16 : decode cX5_pipesLaid 16 = .ok (.iconst (-1), 1) := by decide +kernel
theorem dX5_pipesLaid_17 : decode cX5_pipesLaid 17 = .ok (.if_icmp .eq 6, 3) := by decide +kernel
theorem dX5_pipesLaid_20 : decode cX5_pipesLaid 20 = .ok (.iinc 1 1, 3) := by decide +kernel
theorem dX5_pipesLaid_23 : decode cX5_pipesLaid 23 = .ok (.iinc 2 1, 3) := by decide +kernel
theorem dX5_pipesLaid_26 : decode cX5_pipesLaid 26 = .ok (.goto (-22), 3) := by decide +kernel
theorem dX5_pipesLaid_29 : decode cX5_pipesLaid 29 = .ok (.iload_n 1, 1) := by decide +kernel
theorem dX5_pipesLaid_30 : decode cX5_pipesLaid 30 = .ok (.ireturn, 1) := by decide +kernel
theorem dX5_remember_0 : decode cX5_remember 0 = .ok (.aload_n 0, 1) := by decide +kernel
theorem dX5_remember_1 : decode cX5_remember 1 = .ok (.aload_n 0, 1) := by decide +kernel
theorem dX5_remember_2 : decode cX5_remember 2 = .ok (.getfield 26, 3) := by decide +kernel
theorem dX5_remember_5 : decode cX5_remember 5 = .ok (.aload_n 0, 1) := by decide +kernel
theorem dX5_remember_6 : decode cX5_remember 6 = .ok (.getfield 45, 3) := by decide +kernel
theorem dX5_remember_9 : decode cX5_remember 9 = .ok (.aload_n 0, 1) := by decide +kernel
theorem dX5_remember_10 : decode cX5_remember 10 = .ok (.getfield 41, 3) := by decide +kernel
theorem dX5_remember_13 : decode cX5_remember 13 = .ok (.iadd, 1) := by decide +kernel
theorem dX5_remember_14 : decode cX5_remember 14 = .ok (.bipush 20, 2) := by decide +kernel
theorem dX5_remember_16 : decode cX5_remember 16 = .ok (.irem, 1) := by decide +kernel
theorem dX5_remember_17 : decode cX5_remember 17 = .ok (.aaload, 1) := by decide +kernel
theorem dX5_remember_18 : decode cX5_remember 18 = .ok (.invokevirtual 52, 3) := by decide +kernel
theorem dX5_remember_21 : decode cX5_remember 21 = .ok (.aload_n 0, 1) := by decide +kernel
theorem dX5_remember_22 : decode cX5_remember 22 = .ok (.getfield 41, 3) := by decide +kernel
theorem dX5_remember_25 : decode cX5_remember 25 = .ok (.bipush 20, 2) := by decide +kernel
theorem dX5_remember_27 : decode cX5_remember 27 = .ok (.if_icmp .ge 16, 3) := by decide +kernel
theorem dX5_remember_30 : decode cX5_remember 30 = .ok (.aload_n 0, 1) := by decide +kernel
theorem dX5_remember_31 : decode cX5_remember 31 = .ok (.dup, 1) := by decide +kernel
theorem dX5_remember_32 : decode cX5_remember 32 = .ok (.getfield 41, 3) := by decide +kernel
theorem dX5_remember_35 : decode cX5_remember 35 = .ok (.iconst 1, 1) := by decide +kernel
theorem dX5_remember_36 : decode cX5_remember 36 = .ok (.iadd, 1) := by decide +kernel
theorem dX5_remember_37 : decode cX5_remember 37 = .ok (.putfield 41, 3) := by decide +kernel
theorem dX5_remember_40 : decode cX5_remember 40 = .ok (.goto 16, 3) := by decide +kernel
theorem dX5_remember_43 : decode cX5_remember 43 = .ok (.aload_n 0, 1) := by decide +kernel
theorem dX5_remember_44 : decode cX5_remember 44 = .ok (.aload_n 0, 1) := by decide +kernel
theorem dX5_remember_45 : decode cX5_remember 45 = .ok (.getfield 45, 3) := by decide +kernel
theorem dX5_remember_48 : decode cX5_remember 48 = .ok (.iconst 1, 1) := by decide +kernel
theorem dX5_remember_49 : decode cX5_remember 49 = .ok (.iadd, 1) := by decide +kernel
theorem dX5_remember_50 : decode cX5_remember 50 = .ok (.bipush 20, 2) := by decide +kernel
theorem dX5_remember_52 : decode cX5_remember 52 = .ok (.irem, 1) := by decide +kernel
theorem dX5_remember_53 : decode cX5_remember 53 = .ok (.putfield 45, 3) := by decide +kernel
theorem dX5_remember_56 : decode cX5_remember 56 = .ok (.return_, 1) := by decide +kernel
theorem dX5_goBack_0 : decode cX5_goBack 0 = .ok (.aload_n 0, 1) := by decide +kernel
theorem dX5_goBack_1 : decode cX5_goBack 1 = .ok (.getfield 41, 3) := by decide +kernel
theorem dX5_goBack_4 : decode cX5_goBack 4 = .ok (.ifCond .le 34, 3) := by decide +kernel
theorem dX5_goBack_7 : decode cX5_goBack 7 = .ok (.aload_n 0, 1) := by decide +kernel
theorem dX5_goBack_8 : decode cX5_goBack 8 = .ok (.dup, 1) := by decide +kernel
theorem dX5_goBack_9 : decode cX5_goBack 9 = .ok (.getfield 41, 3) := by decide +kernel
theorem dX5_goBack_12 : decode cX5_goBack 12 = .ok (.iconst 1, 1) := by decide +kernel
theorem dX5_goBack_13 : decode cX5_goBack 13 = .ok (.isub, 1) := by decide +kernel
theorem dX5_goBack_14 : decode cX5_goBack 14 = .ok (.putfield 41, 3) := by decide +kernel
theorem dX5_goBack_17 : decode cX5_goBack 17 = .ok (.aload_n 0, 1) := by decide +kernel
theorem dX5_goBack_18 : decode cX5_goBack 18 = .ok (.aload_n 0, 1) := by decide +kernel
theorem dX5_goBack_19 : decode cX5_goBack 19 = .ok (.getfield 26, 3) := by decide +kernel
theorem dX5_goBack_22 : decode cX5_goBack 22 = .ok (.aload_n 0, 1) := by decide +kernel
theorem dX5_goBack_23 : decode cX5_goBack 23 = .ok (.getfield 45, 3) := by decide +kernel
theorem dX5_goBack_26 : decode cX5_goBack 26 = .ok (.aload_n 0, 1) := by decide +kernel
theorem dX5_goBack_27 : decode cX5_goBack 27 = .ok (.getfield 41, 3) := by decide +kernel
theorem dX5_goBack_30 : decode cX5_goBack 30 = .ok (.iadd, 1) := by decide +kernel
theorem dX5_goBack_31 : decode cX5_goBack 31 = .ok (.bipush 20, 2) := by decide +kernel
theorem dX5_goBack_33 : decode cX5_goBack 33 = .ok (.irem, 1) := by decide +kernel
theorem dX5_goBack_34 : decode cX5_goBack 34 = .ok (.aaload, 1) := by decide +kernel
theorem dX5_goBack_35 : decode cX5_goBack 35 = .ok (.invokevirtual 56, 3) := by decide +kernel
theorem dX5_goBack_38 : decode cX5_goBack 38 = .ok (.return_, 1) := by decide +kernel
theorem dX5_keepImage_0 : decode cX5_keepImage 0 = .ok (.aload_n 0, 1) := by decide +kernel
theorem dX5_keepImage_1 : decode cX5_keepImage 1 = .ok (.aload_n 0, 1) := by decide +kernel
theorem dX5_keepImage_2 : decode cX5_keepImage 2 = .ok (.getfield 29, 3) := by decide +kernel
theorem dX5_keepImage_5 : decode cX5_keepImage 5 = .ok (.invokevirtual 52, 3) := by decide +kernel
theorem dX5_keepImage_8 : decode cX5_keepImage 8 = .ok (.aload_n 0, 1) := by decide +kernel
theorem dX5_keepImage_9 : decode cX5_keepImage 9 = .ok (.iconst 1, 1) := by decide +kernel
theorem dX5_keepImage_10 : decode cX5_keepImage 10 = .ok (.putfield 48, 3) := by decide +kernel
theorem dX5_keepImage_13 : decode cX5_keepImage 13 = .ok (.return_, 1) := by decide +kernel
theorem dX5_takeImage_0 : decode cX5_takeImage 0 = .ok (.aload_n 0, 1) := by decide +kernel
theorem dX5_takeImage_1 : decode cX5_takeImage 1 = .ok (.aload_n 0, 1) := by decide +kernel
theorem dX5_takeImage_2 : decode cX5_takeImage 2 = .ok (.getfield 29, 3) := by decide +kernel
theorem dX5_takeImage_5 : decode cX5_takeImage 5 = .ok (.invokevirtual 56, 3) := by decide +kernel
theorem dX5_takeImage_8 : decode cX5_takeImage 8 = .ok (.aload_n 0, 1) := by decide +kernel
theorem dX5_takeImage_9 : decode cX5_takeImage 9 = .ok (.iconst 0, 1) := by decide +kernel
theorem dX5_takeImage_10 : decode cX5_takeImage 10 = .ok (.putfield 41, 3) := by decide +kernel
theorem dX5_takeImage_13 : decode cX5_takeImage 13 = .ok (.return_, 1) := by decide +kernel
theorem dX5_writeTo_0 : decode cX5_writeTo 0 = .ok (.aload_n 0, 1) := by decide +kernel
theorem dX5_writeTo_1 : decode cX5_writeTo 1 = .ok (.getfield 9, 3) := by decide +kernel
theorem dX5_writeTo_4 : decode cX5_writeTo 4 = .ok (.iconst 0, 1) := by decide +kernel
theorem dX5_writeTo_5 : decode cX5_writeTo 5 = .ok (.aload_n 1, 1) := by decide +kernel
theorem dX5_writeTo_6 : decode cX5_writeTo 6 = .ok (.iconst 0, 1) := by decide +kernel
theorem dX5_writeTo_7 : decode cX5_writeTo 7 = .ok (.bipush 7, 2) := by decide +kernel
theorem dX5_writeTo_9 : decode cX5_writeTo 9 = .ok (.invokestatic 59, 3) := by decide +kernel
theorem dX5_writeTo_12 : decode cX5_writeTo 12 = .ok (.aload_n 0, 1) := by decide +kernel
theorem dX5_writeTo_13 : decode cX5_writeTo 13 = .ok (.getfield 15, 3) := by decide +kernel
theorem dX5_writeTo_16 : decode cX5_writeTo 16 = .ok (.iconst 0, 1) := by decide +kernel
theorem dX5_writeTo_17 : decode cX5_writeTo 17 = .ok (.aload_n 1, 1) := by decide +kernel
theorem dX5_writeTo_18 : decode cX5_writeTo 18 = .ok (.bipush 7, 2) := by decide +kernel
theorem dX5_writeTo_20 : decode cX5_writeTo 20 = .ok (.bipush 7, 2) := by decide +kernel
theorem dX5_writeTo_22 : decode cX5_writeTo 22 = .ok (.invokestatic 59, 3) := by decide +kernel
theorem dX5_writeTo_25 : decode cX5_writeTo 25 = .ok (.aload_n 0, 1) := by decide +kernel
theorem dX5_writeTo_26 : decode cX5_writeTo 26 = .ok (.getfield 18, 3) := by decide +kernel
theorem dX5_writeTo_29 : decode cX5_writeTo 29 = .ok (.iconst 0, 1) := by decide +kernel
theorem dX5_writeTo_30 : decode cX5_writeTo 30 = .ok (.aload_n 1, 1) := by decide +kernel
theorem dX5_writeTo_31 : decode cX5_writeTo 31 = .ok (.bipush 14, 2) := by decide +kernel
theorem dX5_writeTo_33 : decode cX5_writeTo 33 = .ok (.bipush 7, 2) := by decide +kernel
theorem dX5_writeTo_35 : decode cX5_writeTo 35 = .ok (.invokestatic 59, 3) := by decide +kernel
theorem dX5_writeTo_38 : decode cX5_writeTo 38 = .ok (.aload_n 0, 1) := by decide +kernel
theorem dX5_writeTo_39 : decode cX5_writeTo 39 = .ok (.getfield 21, 3) := by decide +kernel
theorem dX5_writeTo_42 : decode cX5_writeTo 42 = .ok (.iconst 0, 1) := by decide +kernel
theorem dX5_writeTo_43 : decode cX5_writeTo 43 = .ok (.aload_n 1, 1) := by decide +kernel
theorem dX5_writeTo_44 : decode cX5_writeTo 44 = .ok (.bipush 21, 2) := by decide +kernel
theorem dX5_writeTo_46 : decode cX5_writeTo 46 = .ok (.bipush 7, 2) := by decide +kernel
theorem dX5_writeTo_48 : decode cX5_writeTo 48 = .ok (.invokestatic 59, 3) := by decide +kernel
theorem dX5_writeTo_51 : decode cX5_writeTo 51 = .ok (.return_, 1) := by decide +kernel
theorem dX5_readFrom_0 : decode cX5_readFrom 0 = .ok (.aload_n 1, 1) := by decide +kernel
theorem dX5_readFrom_1 : decode cX5_readFrom 1 = .ok (.iconst 0, 1) := by decide +kernel
theorem dX5_readFrom_2 : decode cX5_readFrom 2 = .ok (.aload_n 0, 1) := by decide +kernel
theorem dX5_readFrom_3 : decode cX5_readFrom 3 = .ok (.getfield 9, 3) := by decide +kernel
theorem dX5_readFrom_6 : decode cX5_readFrom 6 = .ok (.iconst 0, 1) := by decide +kernel
theorem dX5_readFrom_7 : decode cX5_readFrom 7 = .ok (.bipush 7, 2) := by decide +kernel
theorem dX5_readFrom_9 : decode cX5_readFrom 9 = .ok (.invokestatic 59, 3) := by decide +kernel
theorem dX5_readFrom_12 : decode cX5_readFrom 12 = .ok (.aload_n 1, 1) := by decide +kernel
theorem dX5_readFrom_13 : decode cX5_readFrom 13 = .ok (.bipush 7, 2) := by decide +kernel
theorem dX5_readFrom_15 : decode cX5_readFrom 15 = .ok (.aload_n 0, 1) := by decide +kernel
theorem dX5_readFrom_16 : decode cX5_readFrom 16 = .ok (.getfield 15, 3) := by decide +kernel
theorem dX5_readFrom_19 : decode cX5_readFrom 19 = .ok (.iconst 0, 1) := by decide +kernel
theorem dX5_readFrom_20 : decode cX5_readFrom 20 = .ok (.bipush 7, 2) := by decide +kernel
theorem dX5_readFrom_22 : decode cX5_readFrom 22 = .ok (.invokestatic 59, 3) := by decide +kernel
theorem dX5_readFrom_25 : decode cX5_readFrom 25 = .ok (.aload_n 1, 1) := by decide +kernel
theorem dX5_readFrom_26 : decode cX5_readFrom 26 = .ok (.bipush 14, 2) := by decide +kernel
theorem dX5_readFrom_28 : decode cX5_readFrom 28 = .ok (.aload_n 0, 1) := by decide +kernel
theorem dX5_readFrom_29 : decode cX5_readFrom 29 = .ok (.getfield 18, 3) := by decide +kernel
theorem dX5_readFrom_32 : decode cX5_readFrom 32 = .ok (.iconst 0, 1) := by decide +kernel
theorem dX5_readFrom_33 : decode cX5_readFrom 33 = .ok (.bipush 7, 2) := by decide +kernel
theorem dX5_readFrom_35 : decode cX5_readFrom 35 = .ok (.invokestatic 59, 3) := by decide +kernel
theorem dX5_readFrom_38 : decode cX5_readFrom 38 = .ok (.aload_n 1, 1) := by decide +kernel
theorem dX5_readFrom_39 : decode cX5_readFrom 39 = .ok (.bipush 21, 2) := by decide +kernel
theorem dX5_readFrom_41 : decode cX5_readFrom 41 = .ok (.aload_n 0, 1) := by decide +kernel
theorem dX5_readFrom_42 : decode cX5_readFrom 42 = .ok (.getfield 21, 3) := by decide +kernel
theorem dX5_readFrom_45 : decode cX5_readFrom 45 = .ok (.iconst 0, 1) := by decide +kernel
theorem dX5_readFrom_46 : decode cX5_readFrom 46 = .ok (.bipush 7, 2) := by decide +kernel
theorem dX5_readFrom_48 : decode cX5_readFrom 48 = .ok (.invokestatic 59, 3) := by decide +kernel
theorem dX5_readFrom_51 : decode cX5_readFrom 51 = .ok (.return_, 1) := by decide +kernel
theorem dX6_init_0 : decode cX6_init 0 = .ok (.aload_n 0, 1) := by decide +kernel
theorem dX6_init_1 : decode cX6_init 1 = .ok (.invokespecial 5, 3) := by decide +kernel
theorem dX6_init_4 : decode cX6_init 4 = .ok (.aload_n 0, 1) := by decide +kernel
theorem dX6_init_5 : decode cX6_init 5 = .ok (.bipush 7, 2) := by decide +kernel
theorem dX6_init_7 : decode cX6_init 7 = .ok (.newarray .int, 2) := by decide +kernel
theorem dX6_init_9 : decode cX6_init 9 = .ok (.putfield 11, 3) := by decide +kernel
theorem dX6_init_12 : decode cX6_init 12 = .ok (.aload_n 0, 1) := by decide +kernel
theorem dX6_init_13 : decode cX6_init 13 = .ok (.sipush 128, 3) := by decide +kernel
theorem dX6_init_16 : decode cX6_init 16 = .ok (.newarray .long, 2) := by decide +kernel
theorem dX6_init_18 : decode cX6_init 18 = .ok (.putfield 17, 3) := by decide +kernel
theorem dX6_init_21 : decode cX6_init 21 = .ok (.aload_n 0, 1) := by decide +kernel
theorem dX6_init_22 : decode cX6_init 22 = .ok (.aload_n 1, 1) := by decide +kernel
theorem dX6_init_23 : decode cX6_init 23 = .ok (.putfield 21, 3) := by decide +kernel
theorem dX6_init_26 : decode cX6_init 26 = .ok (.aload_n 0, 1) := by decide +kernel
theorem dX6_init_27 : decode cX6_init 27 = .ok (.aload_n 2, 1) := by decide +kernel
theorem dX6_init_28 : decode cX6_init 28 = .ok (.putfield 25, 3) := by decide +kernel
theorem dX6_init_31 : decode cX6_init 31 = .ok (.return_, 1) := by decide +kernel
theorem dX6_settle_0 : decode cX6_settle 0 = .ok (.aload_n 0, 1) := by decide +kernel
theorem dX6_settle_1 : decode cX6_settle 1 = .ok (.aload_n 1, 1) := by decide +kernel
theorem dX6_settle_2 : decode cX6_settle 2 = .ok (.putfield 25, 3) := by decide +kernel
theorem dX6_settle_5 : decode cX6_settle 5 = .ok (.iconst 1, 1) := by decide +kernel
theorem dX6_settle_6 : decode cX6_settle 6 = .ok (.aload_n 0, 1) := by decide +kernel
theorem dX6_settle_7 : decode cX6_settle 7 = .ok (.getfield 25, 3) := by decide +kernel
theorem dX6_settle_10 : decode cX6_settle 10 = .ok (.getfield 29, 3) := by decide +kernel
theorem dX6_settle_13 : decode cX6_settle 13 = .ok (.ishl, 1) := by decide +kernel
theorem dX6_settle_14 : decode cX6_settle 14 = .ok (.iconst 1, 1) := by decide +kernel
theorem dX6_settle_15 : decode cX6_settle 15 = .ok (.isub, 1) := by decide +kernel
theorem dX6_settle_16 : decode cX6_settle 16 = .ok (.istore_n 2, 1) := by decide +kernel
theorem dX6_settle_17 : decode cX6_settle 17 = .ok (.aload_n 0, 1) := by decide +kernel
theorem dX6_settle_18 : decode cX6_settle 18 = .ok (.getfield 17, 3) := by decide +kernel
theorem dX6_settle_21 : decode cX6_settle 21 = .ok (.iload_n 2, 1) := by decide +kernel
theorem dX6_settle_22 : decode cX6_settle 22 = .ok (.lconst 0, 1) := by decide +kernel
theorem dX6_settle_23 : decode cX6_settle 23 = .ok (.lastore, 1) := by decide +kernel
theorem dX6_settle_24 : decode cX6_settle 24 = .ok (.iload_n 2, 1) := by decide +kernel
theorem dX6_settle_25 : decode cX6_settle 25 = .ok (.iconst 1, 1) := by decide +kernel
theorem dX6_settle_26 : decode cX6_settle 26 = .ok (.isub, 1) := by decide +kernel
theorem dX6_settle_27 : decode cX6_settle 27 = .ok (.istore_n 3, 1) := by decide +kernel
theorem dX6_settle_28 : decode cX6_settle 28 = .ok (.iload_n 3, 1) := by decide +kernel
theorem dX6_settle_29 : decode cX6_settle 29 = .ok (.ifCond .lt 81, 3) := by decide +kernel
theorem dX6_settle_32 : decode cX6_settle 32 = .ok (.aload_n 0, 1) := by decide +kernel
theorem dX6_settle_33 : decode cX6_settle 33 = .ok (.getfield 17, 3) := by decide +kernel
theorem dX6_settle_36 : decode cX6_settle 36 = .ok (.iload_n 3, 1) := by decide +kernel
theorem dX6_settle_37 : decode cX6_settle 37 = .ok (.ldc2_w 35, 3) := by decide +kernel
theorem dX6_settle_40 : decode cX6_settle 40 = .ok (.lastore, 1) := by decide +kernel
theorem dX6_settle_41 : decode cX6_settle 41 = .ok (.iconst 0, 1) := by decide +kernel
theorem dX6_settle_42 : decode cX6_settle 42 = .ok (.istore 4, 2) := by decide +kernel
theorem dX6_settle_44 : decode cX6_settle 44 = .ok (.iload 4, 2) := by decide +kernel
theorem dX6_settle_46 : decode cX6_settle 46 = .ok (.aload_n 0, 1) := by decide +kernel
theorem dX6_settle_47 : decode cX6_settle 47 = .ok (.getfield 25, 3) := by decide +kernel
theorem dX6_settle_50 : decode cX6_settle 50 = .ok (.getfield 29, 3) := by decide +kernel
theorem dX6_settle_53 : decode cX6_settle 53 = .ok (.if_icmp .ge 51, 3) := by decide +kernel
theorem dX6_settle_56 : decode cX6_settle 56 = .ok (.aload_n 0, 1) := by decide +kernel
theorem dX6_settle_57 : decode cX6_settle 57 = .ok (.iload 4, 2) := by decide +kernel
theorem dX6_settle_59 : decode cX6_settle 59 = .ok (.iload_n 3, 1) := by decide +kernel
theorem dX6_settle_60 : decode cX6_settle 60 = .ok (.invokevirtual 37, 3) := by decide +kernel
theorem dX6_settle_63 : decode cX6_settle 63 = .ok (.ifCond .eq 35, 3) := by decide +kernel
theorem dX6_settle_66 : decode cX6_settle 66 = .ok (.aload_n 0, 1) := by decide +kernel
theorem dX6_settle_67 : decode cX6_settle 67 = .ok (.getfield 17, 3) := by decide +kernel
theorem dX6_settle_70 : decode cX6_settle 70 = .ok (.iload_n 3, 1) := by decide +kernel
theorem dX6_settle_71 : decode cX6_settle 71 = .ok (.aload_n 0, 1) := by decide +kernel
theorem dX6_settle_72 : decode cX6_settle 72 = .ok (.getfield 17, 3) := by decide +kernel
theorem dX6_settle_75 : decode cX6_settle 75 = .ok (.iload_n 3, 1) := by decide +kernel
theorem dX6_settle_76 : decode cX6_settle 76 = .ok (.laload, 1) := by decide +kernel
theorem dX6_settle_77 : decode cX6_settle 77 = .ok (.aload_n 0, 1) := by decide +kernel
theorem dX6_settle_78 : decode cX6_settle 78 = .ok (.iload_n 3, 1) := by decide +kernel
theorem dX6_settle_79 : decode cX6_settle 79 = .ok (.invokevirtual 41, 3) := by decide +kernel
theorem dX6_settle_82 : decode cX6_settle 82 = .ok (.aload_n 0, 1) := by decide +kernel
theorem dX6_settle_83 : decode cX6_settle 83 = .ok (.getfield 17, 3) := by decide +kernel
theorem dX6_settle_86 : decode cX6_settle 86 = .ok (.iload_n 3, 1) := by decide +kernel
theorem dX6_settle_87 : decode cX6_settle 87 = .ok (.iconst 1, 1) := by decide +kernel
theorem dX6_settle_88 : decode cX6_settle 88 = .ok (.iload 4, 2) := by decide +kernel
theorem dX6_settle_90 : decode cX6_settle 90 = .ok (.ishl, 1) := by decide +kernel
theorem dX6_settle_91 : decode cX6_settle 91 = .ok (.ior, 1) := by decide +kernel
theorem dX6_settle_92 : decode cX6_settle 92 = .ok (.laload, 1) := by decide +kernel
theorem dX6_settle_93 : decode cX6_settle 93 = .ok (.ladd, 1) := by decide +kernel
theorem dX6_settle_94 : decode cX6_settle 94 = .ok (.invokestatic 45, 3) := by decide +kernel
theorem dX6_settle_97 : decode cX6_settle 97 = .ok (.lastore, 1) := by decide +kernel
theorem dX6_settle_98 : decode cX6_settle 98 = .ok (.iinc 4 1, 3) := by decide +kernel
theorem dX6_settle_101 : decode cX6_settle 101 = .ok (.goto (-57), 3) := by decide +kernel
theorem dX6_settle_104 : decode cX6_settle 104 = .ok (.iinc 3 (-1), 3) := by decide +kernel
theorem dX6_settle_107 : decode cX6_settle 107 = .ok (.goto (-79), 3) := by decide +kernel
theorem dX6_settle_110 : decode cX6_settle 110 = .ok (.aload_n 0, 1) := by decide +kernel
theorem dX6_settle_111 : decode cX6_settle 111 = .ok (.invokevirtual 51, 3) := by decide +kernel
theorem dX6_settle_114 : decode cX6_settle 114 = .ok (.return_, 1) := by decide +kernel
theorem dX6_writeOrder_0 : decode cX6_writeOrder 0 = .ok (.iconst 1, 1) := by decide +kernel
theorem dX6_writeOrder_1 : decode cX6_writeOrder 1 = .ok (.aload_n 0, 1) := by decide +kernel
theorem dX6_writeOrder_2 : decode cX6_writeOrder 2 = .ok (.getfield 25, 3) := by decide +kernel
theorem dX6_writeOrder_5 : decode cX6_writeOrder 5 = .ok (.getfield 54, 3) := by decide +kernel
theorem dX6_writeOrder_8 : decode cX6_writeOrder 8 = .ok (.ishl, 1) := by decide +kernel
theorem dX6_writeOrder_9 : decode cX6_writeOrder 9 = .ok (.istore_n 1, 1) := by decide +kernel
theorem dX6_writeOrder_10 : decode cX6_writeOrder 10 = .ok (.aload_n 0, 1) := by decide +kernel
theorem dX6_writeOrder_11 : decode cX6_writeOrder 11 = .ok (.aload_n 0, 1) := by decide +kernel
