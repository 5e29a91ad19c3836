theorem dX4_init_0 : decode cX4_init 0 = .ok (.aload_n 0, 1) := by decide +kernel
theorem dX4_init_1 : decode cX4_init 1 = .ok (.invokespecial 3, 3) := by decide +kernel
theorem dX4_init_4 : decode cX4_init 4 = .ok (.aload_n 0, 1) := by decide +kernel
theorem dX4_init_5 : decode cX4_init 5 = .ok (.bipush 59, 2) := by decide +kernel
theorem dX4_init_7 : decode cX4_init 7 = .ok (.newarray .int, 2) := by decide +kernel
theorem dX4_init_9 : decode cX4_init 9 = .ok (.putfield 9, 3) := by decide +kernel
theorem dX4_init_12 : decode cX4_init 12 = .ok (.aload_n 0, 1) := by decide +kernel
theorem dX4_init_13 : decode cX4_init 13 = .ok (.iconst 0, 1) := by decide +kernel
theorem dX4_init_14 : decode cX4_init 14 = .ok (.putfield 15, 3) := by decide +kernel
theorem dX4_init_17 : decode cX4_init 17 = .ok (.return_, 1) := by decide +kernel
theorem dX4_find_0 : decode cX4_find 0 = .ok (.iload_n 1, 1) := by decide +kernel
theorem dX4_find_1 : decode cX4_find 1 = .ok (.bipush 11, 2) := by decide +kernel
theorem dX4_find_3 : decode cX4_find 3 = .ok (.iadd, 1) := by decide +kernel
theorem dX4_find_4 : decode cX4_find 4 = .ok (.istore 4, 2) := by decide +kernel
theorem dX4_find_6 : decode cX4_find 6 = .ok (.iload_n 2, 1) := by decide +kernel
theorem dX4_find_7 : decode cX4_find 7 = .ok (.i2l, 1) := by decide +kernel
theorem dX4_find_8 : decode cX4_find 8 = .ok (.ldc2_w 19, 3) := by decide +kernel
theorem dX4_find_11 : decode cX4_find 11 = .ok (.iload_n 3, 1) := by decide +kernel
theorem dX4_find_12 : decode cX4_find 12 = .ok (.i2l, 1) := by decide +kernel
theorem dX4_find_13 : decode cX4_find 13 = .ok (.lmul, 1) := by decide +kernel
theorem dX4_find_14 : decode cX4_find 14 = .ok (.ladd, 1) := by decide +kernel
theorem dX4_find_15 : decode cX4_find 15 = .ok (.lstore 5, 2) := by decide +kernel
theorem dX4_find_17 : decode cX4_find 17 = .ok (.lload 5, 2) := by decide +kernel
theorem dX4_find_19 : decode cX4_find 19 = .ok (.iconst 0, 1) := by decide +kernel
theorem dX4_find_20 : decode cX4_find 20 = .ok (.sipush 1000, 3) := by decide +kernel
theorem dX4_find_23 : decode cX4_find 23 = .ok (.invokestatic 21, 3) := by decide +kernel
theorem dX4_find_26 : decode cX4_find 26 = .ok (.invokestatic 25, 3) := by decide +kernel
theorem dX4_find_29 : decode cX4_find 29 = .ok (.iload 4, 2) := by decide +kernel
theorem dX4_find_31 : decode cX4_find 31 = .ok (.invokestatic 29, 3) := by decide +kernel
theorem dX4_find_34 : decode cX4_find 34 = .ok (.istore 7, 2) := by decide +kernel
theorem dX4_find_36 : decode cX4_find 36 = .ok (.iload 4, 2) := by decide +kernel
theorem dX4_find_38 : decode cX4_find 38 = .ok (.invokestatic 35, 3) := by decide +kernel
theorem dX4_find_41 : decode cX4_find 41 = .ok (.istore 8, 2) := by decide +kernel
theorem dX4_find_43 : decode cX4_find 43 = .ok (.lload 5, 2) := by decide +kernel
theorem dX4_find_45 : decode cX4_find 45 = .ok (.iconst 2, 1) := by decide +kernel
theorem dX4_find_46 : decode cX4_find 46 = .ok (.iload 8, 2) := by decide +kernel
theorem dX4_find_48 : decode cX4_find 48 = .ok (.invokestatic 21, 3) := by decide +kernel
theorem dX4_find_51 : decode cX4_find 51 = .ok (.istore 9, 2) := by decide +kernel
theorem dX4_find_53 : decode cX4_find 53 = .ok (.iconst 1, 1) := by decide +kernel
theorem dX4_find_54 : decode cX4_find 54 = .ok (.lload 5, 2) := by decide +kernel
theorem dX4_find_56 : decode cX4_find 56 = .ok (.iconst 1, 1) := by decide +kernel
theorem dX4_find_57 : decode cX4_find 57 = .ok (.iload 8, 2) := by decide +kernel
theorem dX4_find_59 : decode cX4_find 59 = .ok (.iconst 1, 1) := by decide +kernel
theorem dX4_find_60 : decode cX4_find 60 = .ok (.isub, 1) := by decide +kernel
theorem dX4_find_61 : decode cX4_find 61 = .ok (.invokestatic 21, 3) := by decide +kernel
theorem dX4_find_64 : decode cX4_find 64 = .ok (.iadd, 1) := by decide +kernel
theorem dX4_find_65 : decode cX4_find 65 = .ok (.istore 10, 2) := by decide +kernel
theorem dX4_find_67 : decode cX4_find 67 = .ok (.aload_n 0, 1) := by decide +kernel
theorem dX4_find_68 : decode cX4_find 68 = .ok (.iconst 0, 1) := by decide +kernel
theorem dX4_find_69 : decode cX4_find 69 = .ok (.putfield 15, 3) := by decide +kernel
theorem dX4_find_72 : decode cX4_find 72 = .ok (.iconst 0, 1) := by decide +kernel
theorem dX4_find_73 : decode cX4_find 73 = .ok (.istore 11, 2) := by decide +kernel
theorem dX4_find_75 : decode cX4_find 75 = .ok (.iload 11, 2) := by decide +kernel
theorem dX4_find_77 : decode cX4_find 77 = .ok (.iload 8, 2) := by decide +kernel
theorem dX4_find_79 : decode cX4_find 79 = .ok (.if_icmp .ge 56, 3) := by decide +kernel
theorem dX4_find_82 : decode cX4_find 82 = .ok (.aload_n 0, 1) := by decide +kernel
theorem dX4_find_83 : decode cX4_find 83 = .ok (.getfield 15, 3) := by decide +kernel
theorem dX4_find_86 : decode cX4_find 86 = .ok (.iload 7, 2) := by decide +kernel
theorem dX4_find_88 : decode cX4_find 88 = .ok (.if_icmp .ge 47, 3) := by decide +kernel
theorem dX4_find_91 : decode cX4_find 91 = .ok (.iload 9, 2) := by decide +kernel
theorem dX4_find_93 : decode cX4_find 93 = .ok (.iload 4, 2) := by decide +kernel
theorem dX4_find_95 : decode cX4_find 95 = .ok (.if_icmp .ge 24, 3) := by decide +kernel
theorem dX4_find_98 : decode cX4_find 98 = .ok (.aload_n 0, 1) := by decide +kernel
theorem dX4_find_99 : decode cX4_find 99 = .ok (.getfield 9, 3) := by decide +kernel
theorem dX4_find_102 : decode cX4_find 102 = .ok (.aload_n 0, 1) := by decide +kernel
theorem dX4_find_103 : decode cX4_find 103 = .ok (.getfield 15, 3) := by decide +kernel
theorem dX4_find_106 : decode cX4_find 106 = .ok (.iload 9, 2) := by decide +kernel
theorem dX4_find_108 : decode cX4_find 108 = .ok (.iastore, 1) := by decide +kernel
theorem dX4_find_109 : decode cX4_find 109 = .ok (.aload_n 0, 1) := by decide +kernel
theorem dX4_find_110 : decode cX4_find 110 = .ok (.dup, 1) := by decide +kernel
theorem dX4_find_111 : decode cX4_find 111 = .ok (.getfield 15, 3) := by decide +kernel
theorem dX4_find_114 : decode cX4_find 114 = .ok (.iconst 1, 1) := by decide +kernel
theorem dX4_find_115 : decode cX4_find 115 = .ok (.iadd, 1) := by decide +kernel
theorem dX4_find_116 : decode cX4_find 116 = .ok (.putfield 15, 3) := by decide +kernel
theorem dX4_find_119 : decode cX4_find 119 = .ok (.iload 9, 2) := by decide +kernel
theorem dX4_find_121 : decode cX4_find 121 = .ok (.iload 10, 2) := by decide +kernel
theorem dX4_find_123 : decode cX4_find 123 = .ok (.iadd, 1) := by decide +kernel
theorem dX4_find_124 : decode cX4_find 124 = .ok (.iload 8, 2) := by decide +kernel
theorem dX4_find_126 : decode cX4_find 126 = .ok (.irem, 1) := by decide +kernel
theorem dX4_find_127 : decode cX4_find 127 = .ok (.istore 9, 2) := by decide +kernel
theorem dX4_find_129 : decode cX4_find 129 = .ok (.iinc 11 1, 3) := by decide +kernel
theorem dX4_find_132 : decode cX4_find 132 = .ok (.goto (-57), 3) := by decide +kernel
theorem dX4_find_135 : decode cX4_find 135 = .ok (.return_, 1) := by decide +kernel
theorem dX4_greatest_0 : decode cX4_greatest 0 = .ok (.iconst (-1), 1) := by decide +kernel
theorem dX4_greatest_1 : decode cX4_greatest 1 = .ok (.istore_n 1, 1) := by decide +kernel
theorem dX4_greatest_2 : decode cX4_greatest 2 = .ok (.iconst 0, 1) := by decide +kernel
theorem dX4_greatest_3 : decode cX4_greatest 3 = .ok (.istore_n 2, 1) := by decide +kernel
theorem dX4_greatest_4 : decode cX4_greatest 4 = .ok (.iload_n 2, 1) := by decide +kernel
theorem dX4_greatest_5 : decode cX4_greatest 5 = .ok (.aload_n 0, 1) := by decide +kernel
theorem dX4_greatest_6 : decode cX4_greatest 6 = .ok (.getfield 15, 3) := by decide +kernel
theorem dX4_greatest_9 : decode cX4_greatest 9 = .ok (.if_icmp .ge 20, 3) := by decide +kernel
theorem dX4_greatest_12 : decode cX4_greatest 12 = .ok (.iload_n 1, 1) := by decide +kernel
theorem dX4_greatest_13 : decode cX4_greatest 13 = .ok (.aload_n 0, 1) := by decide +kernel
theorem dX4_greatest_14 : decode cX4_greatest 14 = .ok (.getfield 9, 3) := by decide +kernel
theorem dX4_greatest_17 : decode cX4_greatest 17 = .ok (.iload_n 2, 1) := by decide +kernel
theorem dX4_greatest_18 : decode cX4_greatest 18 = .ok (.iaload, 1) := by decide +kernel
theorem dX4_greatest_19 : decode cX4_greatest 19 = .ok (.invokestatic 38, 3) := by decide +kernel
theorem dX4_greatest_22 : decode cX4_greatest 22 = .ok (.istore_n 1, 1) := by decide +kernel
theorem dX4_greatest_23 : decode cX4_greatest 23 = .ok (.iinc 2 1, 3) := by decide +kernel
theorem dX4_greatest_26 : decode cX4_greatest 26 = .ok (.goto (-22), 3) := by decide +kernel
theorem dX4_greatest_29 : decode cX4_greatest 29 = .ok (.iload_n 1, 1) := by decide +kernel
theorem dX4_greatest_30 : decode cX4_greatest 30 = .ok (.ireturn, 1) := by decide +kernel
theorem dX4_sizeFor_0 : decode cX4_sizeFor 0 = .ok (.iconst 0, 1) := by decide +kernel
theorem dX4_sizeFor_1 : decode cX4_sizeFor 1 = .ok (.istore_n 1, 1) := by decide +kernel
theorem dX4_sizeFor_2 : decode cX4_sizeFor 2 = .ok (.iload_n 1, 1) := by decide +kernel
theorem dX4_sizeFor_3 : decode cX4_sizeFor 3 = .ok (.getstatic 41, 3) := by decide +kernel
theorem dX4_sizeFor_6 : decode cX4_sizeFor 6 = .ok (.arraylength, 1) := by decide +kernel
theorem dX4_sizeFor_7 : decode cX4_sizeFor 7 = .ok (.if_icmp .ge 24, 3) := by decide +kernel
theorem dX4_sizeFor_10 : decode cX4_sizeFor 10 = .ok (.iload_n 0, 1) := by decide +kernel
theorem dX4_sizeFor_11 : decode cX4_sizeFor 11 = .ok (.getstatic 41, 3) := by decide +kernel
theorem dX4_sizeFor_14 : decode cX4_sizeFor 14 = .ok (.iload_n 1, 1) := by decide +kernel
theorem dX4_sizeFor_15 : decode cX4_sizeFor 15 = .ok (.iaload, 1) := by decide +kernel
theorem dX4_sizeFor_16 : decode cX4_sizeFor 16 = .ok (.if_icmp .ge 9, 3) := by decide +kernel
theorem dX4_sizeFor_19 : decode cX4_sizeFor 19 = .ok (.getstatic 44, 3) := by decide +kernel
theorem dX4_sizeFor_22 : decode cX4_sizeFor 22 = .ok (.iload_n 1, 1) := by decide +kernel
theorem dX4_sizeFor_23 : decode cX4_sizeFor 23 = .ok (.iaload, 1) := by decide +kernel
theorem dX4_sizeFor_24 : decode cX4_sizeFor 24 = .ok (.ireturn, 1) := by decide +kernel
theorem dX4_sizeFor_25 : decode cX4_sizeFor 25 = .ok (.iinc 1 1, 3) := by decide +kernel
theorem dX4_sizeFor_28 : decode cX4_sizeFor 28 = .ok (.goto (-26), 3) := by decide +kernel
theorem dX4_sizeFor_31 : decode cX4_sizeFor 31 = .ok (.getstatic 44, 3) := by decide +kernel
theorem dX4_sizeFor_34 : decode cX4_sizeFor 34 = .ok (.getstatic 44, 3) := by decide +kernel
theorem dX4_sizeFor_37 : decode cX4_sizeFor 37 = .ok (.arraylength, 1) := by decide +kernel
theorem dX4_sizeFor_38 : decode cX4_sizeFor 38 = .ok (.iconst 1, 1) := by decide +kernel
theorem dX4_sizeFor_39 : decode cX4_sizeFor 39 = .ok (.isub, 1) := by decide +kernel
theorem dX4_sizeFor_40 : decode cX4_sizeFor 40 = .ok (.iaload, 1) := by decide +kernel
theorem dX4_sizeFor_41 : decode cX4_sizeFor 41 = .ok (.ireturn, 1) := by decide +kernel
theorem dX4_chance_0 : decode cX4_chance 0 = .ok (.lload_n 0, 1) := by decide +kernel
theorem dX4_chance_1 : decode cX4_chance 1 = .ok (.iload_n 2, 1) := by decide +kernel
theorem dX4_chance_2 : decode cX4_chance 2 = .ok (.invokestatic 47, 3) := by decide +kernel
theorem dX4_chance_5 : decode cX4_chance 5 = .ok (.bipush 32, 2) := by decide +kernel
theorem dX4_chance_7 : decode cX4_chance 7 = .ok (.lushr, 1) := by decide +kernel
theorem dX4_chance_8 : decode cX4_chance 8 = .ok (.iload_n 3, 1) := by decide +kernel
theorem dX4_chance_9 : decode cX4_chance 9 = .ok (.i2l, 1) := by decide +kernel
theorem dX4_chance_10 : decode cX4_chance 10 = .ok (.lrem, 1) := by decide +kernel
theorem dX4_chance_11 : decode cX4_chance 11 = .ok (.l2i, 1) := by decide +kernel
theorem dX4_chance_12 : decode cX4_chance 12 = .ok (.ireturn, 1) := by decide +kernel
theorem dX4_mix_0 : decode cX4_mix 0 = .ok (.lload_n 0, 1) := by decide +kernel
theorem dX4_mix_1 : decode cX4_mix 1 = .ok (.iload_n 2, 1) := by decide +kernel
theorem dX4_mix_2 : decode cX4_mix 2 = .ok (.iconst 1, 1) := by decide +kernel
theorem dX4_mix_3 : decode cX4_mix 3 = .ok (.iadd, 1) := by decide +kernel
theorem dX4_mix_4 : decode cX4_mix 4 = .ok (.i2l, 1) := by decide +kernel
theorem dX4_mix_5 : decode cX4_mix 5 = .ok (.ldc2_w 51, 3) := by decide +kernel
theorem dX4_mix_8 : decode cX4_mix 8 = .ok (.lmul, 1) := by decide +kernel
theorem dX4_mix_9 : decode cX4_mix 9 = .ok (.ladd, 1) := by decide +kernel
theorem dX4_mix_10 : decode cX4_mix 10 = .ok (.lstore_n 3, 1) := by decide +kernel
theorem dX4_mix_11 : decode cX4_mix 11 = .ok (.lload_n 3, 1) := by decide +kernel
theorem dX4_mix_12 : decode cX4_mix 12 = .ok (.lload_n 3, 1) := by decide +kernel
theorem dX4_mix_13 : decode cX4_mix 13 = .ok (.bipush 30, 2) := by decide +kernel
theorem dX4_mix_15 : decode cX4_mix 15 = .ok (.lushr, 1) := by decide +kernel
theorem dX4_mix_16 : decode cX4_mix 16 = .ok (.lxor, 1) := by decide +kernel
theorem dX4_mix_17 : decode cX4_mix 17 = .ok (.ldc2_w 53, 3) := by decide +kernel
theorem dX4_mix_20 : decode cX4_mix 20 = .ok (.lmul, 1) := by decide +kernel
theorem dX4_mix_21 : decode cX4_mix 21 = .ok (.lstore_n 3, 1) := by decide +kernel
theorem dX4_mix_22 : decode cX4_mix 22 = .ok (.lload_n 3, 1) := by decide +kernel
theorem dX4_mix_23 : decode cX4_mix 23 = .ok (.lload_n 3, 1) := by decide +kernel
theorem dX4_mix_24 : decode cX4_mix 24 = .ok (.bipush 27, 2) := by decide +kernel
theorem dX4_mix_26 : decode cX4_mix 26 = .ok (.lushr, 1) := by decide +kernel
theorem dX4_mix_27 : decode cX4_mix 27 = .ok (.lxor, 1) := by decide +kernel
theorem dX4_mix_28 : decode cX4_mix 28 = .ok (.ldc2_w 55, 3) := by decide +kernel
theorem dX4_mix_31 : decode cX4_mix 31 = .ok (.lmul, 1) := by decide +kernel
theorem dX4_mix_32 : decode cX4_mix 32 = .ok (.lstore_n 3, 1) := by decide +kernel
theorem dX4_mix_33 : decode cX4_mix 33 = .ok (.lload_n 3, 1) := by decide +kernel
theorem dX4_mix_34 : decode cX4_mix 34 = .ok (.lload_n 3, 1) := by decide +kernel
theorem dX4_mix_35 : decode cX4_mix 35 = .ok (.bipush 31, 2) := by decide +kernel
theorem dX4_mix_37 : decode cX4_mix 37 = .ok (.lushr, 1) := by decide +kernel
theorem dX4_mix_38 : decode cX4_mix 38 = .ok (.lxor, 1) := by decide +kernel
theorem dX4_mix_39 : decode cX4_mix 39 = .ok (.lreturn, 1) := by decide +kernel
theorem dX4_leastPrimeFrom_0 : decode cX4_leastPrimeFrom 0 = .ok (.iload_n 0, 1) := by decide +kernel
theorem dX4_leastPrimeFrom_1 : decode cX4_leastPrimeFrom 1 = .ok (.istore_n 1, 1) := by decide +kernel
theorem dX4_leastPrimeFrom_2 : decode cX4_leastPrimeFrom 2 = .ok (.iload_n 1, 1) := by decide +kernel
theorem dX4_leastPrimeFrom_3 : decode cX4_leastPrimeFrom 3 = .ok (.iconst 2, 1) := by decide +kernel
theorem dX4_leastPrimeFrom_4 : decode cX4_leastPrimeFrom 4 = .ok (.iload_n 0, 1) := by decide +kernel
theorem dX4_leastPrimeFrom_5 : decode cX4_leastPrimeFrom 5 = .ok (.imul, 1) := by decide +kernel
theorem dX4_leastPrimeFrom_6 : decode cX4_leastPrimeFrom 6 = .ok (.if_icmp .ge 16, 3) := by decide +kernel
theorem dX4_leastPrimeFrom_9 : decode cX4_leastPrimeFrom 9 = .ok (.iload_n 1, 1) := by decide +kernel
theorem dX4_leastPrimeFrom_10 : decode cX4_leastPrimeFrom 10 = .ok (.invokestatic 57, 3) := by decide +kernel
theorem dX4_leastPrimeFrom_13 : decode cX4_leastPrimeFrom 13 = .ok (.ifCond .ne 9, 3) := by decide +kernel
theorem dX4_leastPrimeFrom_16 : decode cX4_leastPrimeFrom 16 = .ok (.iinc 1 1, 3) := by decide +kernel
theorem dX4_leastPrimeFrom_19 : decode cX4_leastPrimeFrom 19 = .ok (.goto (-17), 3) := by decide +kernel
theorem dX4_leastPrimeFrom_22 : decode cX4_leastPrimeFrom 22 = .ok (.iload_n 1, 1) := by decide +kernel
theorem dX4_leastPrimeFrom_23 : decode cX4_leastPrimeFrom 23 = .ok (.ireturn, 1) := by decide +kernel
theorem dX4_isPrime_0 : decode cX4_isPrime 0 = .ok (.iconst 2, 1) := by decide +kernel
theorem dX4_isPrime_1 : decode cX4_isPrime 1 = .ok (.istore_n 1, 1) := by decide +kernel
theorem dX4_isPrime_2 : decode cX4_isPrime 2 = .ok (.iload_n 1, 1) := by decide +kernel
theorem dX4_isPrime_3 : decode cX4_isPrime 3 = .ok (.iload_n 1, 1) := by decide +kernel
theorem dX4_isPrime_4 : decode cX4_isPrime 4 = .ok (.imul, 1) := by decide +kernel
theorem dX4_isPrime_5 : decode cX4_isPrime 5 = .ok (.iload_n 0, 1) := by decide +kernel
theorem dX4_isPrime_6 : decode cX4_isPrime 6 = .ok (.if_icmp .gt 17, 3) := by decide +kernel
theorem dX4_isPrime_9 : decode cX4_isPrime 9 = .ok (.iload_n 0, 1) := by decide +kernel
theorem dX4_isPrime_10 : decode cX4_isPrime 10 = .ok (.iload_n 1, 1) := by decide +kernel
theorem dX4_isPrime_11 : decode cX4_isPrime 11 = .ok (.irem, 1) := by decide +kernel
theorem dX4_isPrime_12 : decode cX4_isPrime 12 = .ok (.ifCond .ne 5, 3) := by decide +kernel
theorem dX4_isPrime_15 : decode cX4_isPrime 15 = .ok (.iconst 0, 1) := by decide +kernel
theorem dX4_isPrime_16 : decode cX4_isPrime 16 = .ok (.ireturn, 1) := by decide +kernel
theorem dX4_isPrime_17 : decode cX4_isPrime 17 = .ok (.iinc 1 1, 3) := by decide +kernel
theorem dX4_isPrime_20 : decode cX4_isPrime 20 = .ok (.goto (-18), 3) := by decide +kernel
theorem dX4_isPrime_23 : decode cX4_isPrime 23 = .ok (.iconst 1, 1) := by decide +kernel
theorem dX4_isPrime_24 : decode cX4_isPrime 24 = .ok (.ireturn, 1) := by decide +kernel
theorem dX5_init_0 : decode cX5_init 0 = .ok (.aload_n 0, 1) := by decide +kernel
theorem dX5_init_1 : decode cX5_init 1 = .ok (.invokespecial 1, 3) := by decide +kernel
theorem dX5_init_4 : decode cX5_init 4 = .ok (.aload_n 0, 1) := by decide +kernel
theorem dX5_init_5 : decode cX5_init 5 = .ok (.sipush 800, 3) := by decide +kernel
theorem dX5_init_8 : decode cX5_init 8 = .ok (.newarray .int, 2) := by decide +kernel
theorem dX5_init_10 : decode cX5_init 10 = .ok (.putfield 9, 3) := by decide +kernel
theorem dX5_init_13 : decode cX5_init 13 = .ok (.aload_n 0, 1) := by decide +kernel
theorem dX5_init_14 : decode cX5_init 14 = .ok (.iconst 0, 1) := by decide +kernel
theorem dX5_init_15 : decode cX5_init 15 = .ok (.putfield 13, 3) := by decide +kernel
theorem dX5_init_18 : decode cX5_init 18 = .ok (.return_, 1) := by decide +kernel
theorem dX5_hasRoom_0 : decode cX5_hasRoom 0 = .ok (.aload_n 0, 1) := by decide +kernel
theorem dX5_hasRoom_1 : decode cX5_hasRoom 1 = .ok (.getfield 13, 3) := by decide +kernel
theorem dX5_hasRoom_4 : decode cX5_hasRoom 4 = .ok (.iload_n 1, 1) := by decide +kernel
theorem dX5_hasRoom_5 : decode cX5_hasRoom 5 = .ok (.iadd, 1) := by decide +kernel
theorem dX5_hasRoom_6 : decode cX5_hasRoom 6 = .ok (.sipush 800, 3) := by decide +kernel
theorem dX5_hasRoom_9 : decode cX5_hasRoom 9 = .ok (.if_icmp .gt 7, 3) := by decide +kernel
theorem dX5_hasRoom_12 : decode cX5_hasRoom 12 = .ok (.iconst 1, 1) := by decide +kernel
theorem dX5_hasRoom_13 : decode cX5_hasRoom 13 = .ok (.goto 4, 3) := by decide +kernel
theorem dX5_hasRoom_16 : decode cX5_hasRoom 16 = .ok (.iconst 0, 1) := by decide +kernel
theorem dX5_hasRoom_17 : decode cX5_hasRoom 17 = .ok (.ireturn, 1) := by decide +kernel
theorem dX5_append_0 : decode cX5_append 0 = .ok (.bipush 24, 2) := by decide +kernel
theorem dX5_append_2 : decode cX5_append 2 = .ok (.istore_n 2, 1) := by decide +kernel
theorem dX5_append_3 : decode cX5_append 3 = .ok (.iload_n 2, 1) := by decide +kernel
theorem dX5_append_4 : decode cX5_append 4 = .ok (.ifCond .lt 35, 3) := by decide +kernel
theorem dX5_append_7 : decode cX5_append 7 = .ok (.aload_n 0, 1) := by decide +kernel
theorem dX5_append_8 : decode cX5_append 8 = .ok (.getfield 9, 3) := by decide +kernel
theorem dX5_append_11 : decode cX5_append 11 = .ok (.aload_n 0, 1) := by decide +kernel
theorem dX5_append_12 : decode cX5_append 12 = .ok (.getfield 13, 3) := by decide +kernel
theorem dX5_append_15 : decode cX5_append 15 = .ok (.iload_n 1, 1) := by decide +kernel
theorem dX5_append_16 : decode cX5_append 16 = .ok (.iload_n 2, 1) := by decide +kernel
theorem dX5_append_17 : decode cX5_append 17 = .ok (.iushr, 1) := by decide +kernel
theorem dX5_append_18 : decode cX5_append 18 = .ok (.sipush 255, 3) := by decide +kernel
theorem dX5_append_21 : decode cX5_append 21 = .ok (.iand, 1) := by decide +kernel
theorem dX5_append_22 : decode cX5_append 22 = .ok (.iastore, 1) := by decide +kernel
theorem dX5_append_23 : decode cX5_append 23 = .ok (.aload_n 0, 1) := by decide +kernel
theorem dX5_append_24 : decode cX5_append 24 = .ok (.dup, 1) := by decide +kernel
theorem dX5_append_25 : decode cX5_append 25 = .ok (.getfield 13, 3) := by decide +kernel
theorem dX5_append_28 : decode cX5_append 28 = .ok (.iconst 1, 1) := by decide +kernel
theorem dX5_append_29 : decode cX5_append 29 = .ok (.iadd, 1) := by decide +kernel
theorem dX5_append_30 : decode cX5_append 30 = .ok (.putfield 13, 3) := by decide +kernel
theorem dX5_append_33 : decode cX5_append 33 = .ok (.iinc 2 (-8), 3) := by decide +kernel
theorem dX5_append_36 : decode cX5_append 36 = .ok (.goto (-33), 3) := by decide +kernel
theorem dX5_append_39 : decode cX5_append 39 = .ok (.return_, 1) := by decide +kernel
theorem dX6_init_0 : decode cX6_init 0 = .ok (.aload_n 0, 1) := by decide +kernel
theorem dX6_init_1 : decode cX6_init 1 = .ok (.invokespecial 3, 3) := by decide +kernel
theorem dX6_init_4 : decode cX6_init 4 = .ok (.aload_n 0, 1) := by decide +kernel
theorem dX6_init_5 : decode cX6_init 5 = .ok (.aload_n 1, 1) := by decide +kernel
theorem dX6_init_6 : decode cX6_init 6 = .ok (.putfield 9, 3) := by decide +kernel
theorem dX6_init_9 : decode cX6_init 9 = .ok (.aload_n 0, 1) := by decide +kernel
theorem dX6_init_10 : decode cX6_init 10 = .ok (.aload_n 2, 1) := by decide +kernel
theorem dX6_init_11 : decode cX6_init 11 = .ok (.putfield 15, 3) := by decide +kernel
theorem dX6_init_14 : decode cX6_init 14 = .ok (.aload_n 0, 1) := by decide +kernel
theorem dX6_init_15 : decode cX6_init 15 = .ok (.bipush 49, 2) := by decide +kernel
theorem dX6_init_17 : decode cX6_init 17 = .ok (.newarray .int, 2) := by decide +kernel
theorem dX6_init_19 : decode cX6_init 19 = .ok (.putfield 19, 3) := by decide +kernel
theorem dX6_init_22 : decode cX6_init 22 = .ok (.aload_n 0, 1) := by decide +kernel
theorem dX6_init_23 : decode cX6_init 23 = .ok (.getfield 19, 3) := by decide +kernel
theorem dX6_init_26 : decode cX6_init 26 = .ok (.iconst (-1), 1) := by decide +kernel
theorem dX6_init_27 : decode cX6_init 27 = .ok (.invokestatic 23, 3) := by decide +kernel
theorem dX6_init_30 : decode cX6_init 30 = .ok (.return_, 1) := by decide +kernel
theorem dX6_of_0 : decode cX6_of 0 = .ok (.aload_n 0, 1) := by decide +kernel
theorem dX6_of_1 : decode cX6_of 1 = .ok (.getfield 19, 3) := by decide +kernel
theorem dX6_of_4 : decode cX6_of 4 = .ok (.iload_n 1, 1) := by decide +kernel
theorem dX6_of_5 : decode cX6_of 5 = .ok (.iaload, 1) := by decide +kernel
theorem dX6_of_6 : decode cX6_of 6 = .ok (.iconst (-1), 1) := by decide +kernel
theorem dX6_of_7 : decode cX6_of 7 = .ok (.if_icmp .ne 34, 3) := by decide +kernel
theorem dX6_of_10 : decode cX6_of 10 = .ok (.iconst 0, 1) := by decide +kernel
theorem dX6_of_11 : decode cX6_of 11 = .ok (.istore_n 2, 1) := by decide +kernel
theorem dX6_of_12 : decode cX6_of 12 = .ok (.iload_n 2, 1) := by decide +kernel
theorem dX6_of_13 : decode cX6_of 13 = .ok (.sipush 1000, 3) := by decide +kernel
theorem dX6_of_16 : decode cX6_of 16 = .ok (.if_icmp .ge 18, 3) := by decide +kernel
theorem dX6_of_19 : decode cX6_of 19 = .ok (.aload_n 0, 1) := by decide +kernel
theorem dX6_of_20 : decode cX6_of 20 = .ok (.iload_n 1, 1) := by decide +kernel
theorem dX6_of_21 : decode cX6_of 21 = .ok (.iload_n 2, 1) := by decide +kernel
theorem dX6_of_22 : decode cX6_of 22 = .ok (.invokevirtual 29, 3) := by decide +kernel
theorem dX6_of_25 : decode cX6_of 25 = .ok (.ifCond .ne 9, 3) := by decide +kernel
theorem dX6_of_28 : decode cX6_of 28 = .ok (.iinc 2 1, 3) := by decide +kernel
theorem dX6_of_31 : decode cX6_of 31 = .ok (.goto (-19), 3) := by decide +kernel
theorem dX6_of_34 : decode cX6_of 34 = .ok (.aload_n 0, 1) := by decide +kernel
theorem dX6_of_35 : decode cX6_of 35 = .ok (.getfield 19, 3) := by decide +kernel
theorem dX6_of_38 : decode cX6_of 38 = .ok (.iload_n 1, 1) := by decide +kernel
theorem dX6_of_39 : decode cX6_of 39 = .ok (.iload_n 2, 1) := by decide +kernel
theorem dX6_of_40 : decode cX6_of 40 = .ok (.iastore, 1) := by decide +kernel
theorem dX6_of_41 : decode cX6_of 41 = .ok (.aload_n 0, 1) := by decide +kernel
theorem dX6_of_42 : decode cX6_of 42 = .ok (.getfield 19, 3) := by decide +kernel
theorem dX6_of_45 : decode cX6_of 45 = .ok (.iload_n 1, 1) := by decide +kernel
theorem dX6_of_46 : decode cX6_of 46 = .ok (.iaload, 1) := by decide +kernel
theorem dX6_of_47 : decode cX6_of 47 = .ok (.ireturn, 1) := by decide +kernel
theorem dX6_fillsRank_0 : decode cX6_fillsRank 0 = .ok (.aload_n 0, 1) := by decide +kernel
theorem dX6_fillsRank_1 : decode cX6_fillsRank 1 = .ok (.getfield 9, 3) := by decide +kernel
theorem dX6_fillsRank_4 : decode cX6_fillsRank 4 = .ok (.iload_n 1, 1) := by decide +kernel
theorem dX6_fillsRank_5 : decode cX6_fillsRank 5 = .ok (.iconst 0, 1) := by decide +kernel
theorem dX6_fillsRank_6 : decode cX6_fillsRank 6 = .ok (.invokevirtual 33, 3) := by decide +kernel
theorem dX6_fillsRank_9 : decode cX6_fillsRank 9 = .ok (.iconst 0, 1) := by decide +kernel
theorem dX6_fillsRank_10 : decode cX6_fillsRank 10 = .ok (.istore_n 3, 1) := by decide +kernel
theorem dX6_fillsRank_11 : decode cX6_fillsRank 11 = .ok (.iload_n 3, 1) := by decide +kernel
theorem dX6_fillsRank_12 : decode cX6_fillsRank 12 = .ok (.iload_n 1, 1) := by decide +kernel
theorem dX6_fillsRank_13 : decode cX6_fillsRank 13 = .ok (.if_icmp .ge 43, 3) := by decide +kernel
theorem dX6_fillsRank_16 : decode cX6_fillsRank 16 = .ok (.aload_n 0, 1) := by decide +kernel
theorem dX6_fillsRank_17 : decode cX6_fillsRank 17 = .ok (.getfield 15, 3) := by decide +kernel
theorem dX6_fillsRank_20 : decode cX6_fillsRank 20 = .ok (.iload_n 1, 1) := by decide +kernel
theorem dX6_fillsRank_21 : decode cX6_fillsRank 21 = .ok (.iload_n 3, 1) := by decide +kernel
theorem dX6_fillsRank_22 : decode cX6_fillsRank 22 = .ok (.iload_n 2, 1) := by decide +kernel
theorem dX6_fillsRank_23 : decode cX6_fillsRank 23 = .ok (.invokevirtual 39, 3) := by decide +kernel
theorem dX6_fillsRank_26 : decode cX6_fillsRank 26 = .ok (.aload_n 0, 1) := by decide +kernel
theorem dX6_fillsRank_27 : decode cX6_fillsRank 27 = .ok (.getfield 9, 3) := by decide +kernel
theorem dX6_fillsRank_30 : decode cX6_fillsRank 30 = .ok (.aload_n 0, 1) := by decide +kernel
theorem dX6_fillsRank_31 : decode cX6_fillsRank 31 = .ok (.getfield 15, 3) := by decide +kernel
theorem dX6_fillsRank_34 : decode cX6_fillsRank 34 = .ok (.invokevirtual 45, 3) := by decide +kernel
theorem dX6_fillsRank_37 : decode cX6_fillsRank 37 = .ok (.aload_n 0, 1) := by decide +kernel
theorem dX6_fillsRank_38 : decode cX6_fillsRank 38 = .ok (.getfield 9, 3) := by decide +kernel
theorem dX6_fillsRank_41 : decode cX6_fillsRank 41 = .ok (.invokevirtual 49, 3) := by decide +kernel
theorem dX6_fillsRank_44 : decode cX6_fillsRank 44 = .ok (.iconst 1, 1) := by decide +kernel
theorem dX6_fillsRank_45 : decode cX6_fillsRank 45 = .ok (.if_icmp .eq 5, 3) := by decide +kernel
theorem dX6_fillsRank_48 : decode cX6_fillsRank 48 = .ok (.iconst 0, 1) := by decide +kernel
theorem dX6_fillsRank_49 : decode cX6_fillsRank 49 = .ok (.ireturn, 1) := by decide +kernel
theorem dX6_fillsRank_50 : decode cX6_fillsRank 50 = .ok (.iinc 3 1, 3) := by decide +kernel
theorem dX6_fillsRank_53 : decode cX6_fillsRank 53 = .ok (.goto (-42), 3) := by decide +kernel
theorem dX6_fillsRank_56 : decode cX6_fillsRank 56 = .ok (.iconst 1, 1) := by decide +kernel
theorem dX6_fillsRank_57 : decode cX6_fillsRank 57 = .ok (.ireturn, 1) := by decide +kernel
theorem dX7_init_0 : decode cX7_init 0 = .ok (.aload_n 0, 1) := by decide +kernel
theorem dX7_init_1 : decode cX7_init 1 = .ok (.invokespecial 3, 3) := by decide +kernel
theorem dX7_init_4 : decode cX7_init 4 = .ok (.aload_n 0, 1) := by decide +kernel
theorem dX7_init_5 : decode cX7_init 5 = .ok (.new 9, 3) := by decide +kernel
theorem dX7_init_8 : decode cX7_init 8 = .ok (.dup, 1) := by decide +kernel
theorem dX7_init_9 : decode cX7_init 9 = .ok (.invokespecial 11, 3) := by decide +kernel
theorem dX7_init_12 : decode cX7_init 12 = .ok (.putfield 12, 3) := by decide +kernel
theorem dX7_init_15 : decode cX7_init 15 = .ok (.aload_n 0, 1) := by decide +kernel
theorem dX7_init_16 : decode cX7_init 16 = .ok (.new 16, 3) := by decide +kernel
theorem dX7_init_19 : decode cX7_init 19 = .ok (.dup, 1) := by decide +kernel
theorem dX7_init_20 : decode cX7_init 20 = .ok (.invokespecial 18, 3) := by decide +kernel
theorem dX7_init_23 : decode cX7_init 23 = .ok (.putfield 19, 3) := by decide +kernel
theorem dX7_init_26 : decode cX7_init 26 = .ok (.aload_n 0, 1) := by decide +kernel
theorem dX7_init_27 : decode cX7_init 27 = .ok (.new 23, 3) := by decide +kernel
theorem dX7_init_30 : decode cX7_init 30 = .ok (.dup, 1) := by decide +kernel
theorem dX7_init_31 : decode cX7_init 31 = .ok (.invokespecial 25, 3) := by decide +kernel
theorem dX7_init_34 : decode cX7_init 34 = .ok (.putfield 26, 3) := by decide +kernel
theorem dX7_init_37 : decode cX7_init 37 = .ok (.aload_n 0, 1) := by decide +kernel
theorem dX7_init_38 : decode cX7_init 38 = .ok (.new 30, 3) := by decide +kernel
theorem dX7_init_41 : decode cX7_init 41 = .ok (.dup, 1) := by decide +kernel
theorem dX7_init_42 : decode cX7_init 42 = .ok (.aload_n 0, 1) := by decide +kernel
theorem dX7_init_43 : decode cX7_init 43 = .ok (.getfield 12, 3) := by decide +kernel
theorem dX7_init_46 : decode cX7_init 46 = .ok (.invokespecial 32, 3) := by decide +kernel
theorem dX7_init_49 : decode cX7_init 49 = .ok (.putfield 35, 3) := by decide +kernel
theorem dX7_init_52 : decode cX7_init 52 = .ok (.aload_n 0, 1) := by decide +kernel
theorem dX7_init_53 : decode cX7_init 53 = .ok (.new 39, 3) := by decide +kernel
theorem dX7_init_56 : decode cX7_init 56 = .ok (.dup, 1) := by decide +kernel
theorem dX7_init_57 : decode cX7_init 57 = .ok (.aload_n 0, 1) := by decide +kernel
theorem dX7_init_58 : decode cX7_init 58 = .ok (.getfield 35, 3) := by decide +kernel
theorem dX7_init_61 : decode cX7_init 61 = .ok (.aload_n 0, 1) := by decide +kernel
theorem dX7_init_62 : decode cX7_init 62 = .ok (.getfield 26, 3) := by decide +kernel
theorem dX7_init_65 : decode cX7_init 65 = .ok (.invokespecial 41, 3) := by decide +kernel
theorem dX7_init_68 : decode cX7_init 68 = .ok (.putfield 44, 3) := by decide +kernel
theorem dX7_init_71 : decode cX7_init 71 = .ok (.aload_n 0, 1) := by decide +kernel
theorem dX7_init_72 : decode cX7_init 72 = .ok (.new 48, 3) := by decide +kernel
theorem dX7_init_75 : decode cX7_init 75 = .ok (.dup, 1) := by decide +kernel
theorem dX7_init_76 : decode cX7_init 76 = .ok (.invokespecial 50, 3) := by decide +kernel
theorem dX7_init_79 : decode cX7_init 79 = .ok (.putfield 51, 3) := by decide +kernel
theorem dX7_init_82 : decode cX7_init 82 = .ok (.aload_n 0, 1) := by decide +kernel
theorem dX7_init_83 : decode cX7_init 83 = .ok (.new 55, 3) := by decide +kernel
theorem dX7_init_86 : decode cX7_init 86 = .ok (.dup, 1) := by decide +kernel
theorem dX7_init_87 : decode cX7_init 87 = .ok (.aload_n 0, 1) := by decide +kernel
theorem dX7_init_88 : decode cX7_init 88 = .ok (.getfield 12, 3) := by decide +kernel
theorem dX7_init_91 : decode cX7_init 91 = .ok (.invokespecial 57, 3) := by decide +kernel
theorem dX7_init_94 : decode cX7_init 94 = .ok (.putfield 58, 3) := by decide +kernel
theorem dX7_init_97 : decode cX7_init 97 = .ok (.return_, 1) := by decide +kernel
theorem dX7_feed_0 : decode cX7_feed 0 = .ok (.aload_n 0, 1) := by decide +kernel
theorem dX7_feed_1 : decode cX7_feed 1 = .ok (.getfield 19, 3) := by decide +kernel
theorem dX7_feed_4 : decode cX7_feed 4 = .ok (.bipush 20, 2) := by decide +kernel
theorem dX7_feed_6 : decode cX7_feed 6 = .ok (.invokevirtual 62, 3) := by decide +kernel
theorem dX7_feed_9 : decode cX7_feed 9 = .ok (.ifCond .ne 11, 3) := by decide +kernel
theorem dX7_feed_12 : decode cX7_feed 12 = .ok (.new 66, 3) := by decide +kernel
theorem dX7_feed_15 : decode cX7_feed 15 = .ok (.dup, 1) := by decide +kernel
theorem dX7_feed_16 : decode cX7_feed 16 = .ok (.invokespecial 68, 3) := by decide +kernel
theorem dX7_feed_19 : decode cX7_feed 19 = .ok (.athrow, 1) := by decide +kernel
theorem dX7_feed_20 : decode cX7_feed 20 = .ok (.aload_n 0, 1) := by decide +kernel
theorem dX7_feed_21 : decode cX7_feed 21 = .ok (.getfield 19, 3) := by decide +kernel
theorem dX7_feed_24 : decode cX7_feed 24 = .ok (.iload_n 1, 1) := by decide +kernel
theorem dX7_feed_25 : decode cX7_feed 25 = .ok (.invokevirtual 69, 3) := by decide +kernel
theorem dX7_feed_28 : decode cX7_feed 28 = .ok (.aload_n 0, 1) := by decide +kernel
theorem dX7_feed_29 : decode cX7_feed 29 = .ok (.getfield 19, 3) := by decide +kernel
theorem dX7_feed_32 : decode cX7_feed 32 = .ok (.iload_n 2, 1) := by decide +kernel
theorem dX7_feed_33 : decode cX7_feed 33 = .ok (.invokevirtual 69, 3) := by decide +kernel
theorem dX7_feed_36 : decode cX7_feed 36 = .ok (.aload_n 0, 1) := by decide +kernel
theorem dX7_feed_37 : decode cX7_feed 37 = .ok (.getfield 19, 3) := by decide +kernel
theorem dX7_feed_40 : decode cX7_feed 40 = .ok (.iload_n 3, 1) := by decide +kernel
theorem dX7_feed_41 : decode cX7_feed 41 = .ok (.invokevirtual 69, 3) := by decide +kernel
theorem dX7_feed_44 : decode cX7_feed 44 = .ok (.aload_n 0, 1) := by decide +kernel
theorem dX7_feed_45 : decode cX7_feed 45 = .ok (.getfield 19, 3) := by decide +kernel
theorem dX7_feed_48 : decode cX7_feed 48 = .ok (.iload 4, 2) := by decide +kernel
theorem dX7_feed_50 : decode cX7_feed 50 = .ok (.invokevirtual 69, 3) := by decide +kernel
theorem dX7_feed_53 : decode cX7_feed 53 = .ok (.aload_n 0, 1) := by decide +kernel
theorem dX7_feed_54 : decode cX7_feed 54 = .ok (.getfield 19, 3) := by decide +kernel
theorem dX7_feed_57 : decode cX7_feed 57 = .ok (.iload 5, 2) := by decide +kernel
theorem dX7_feed_59 : decode cX7_feed 59 = .ok (.invokevirtual 69, 3) := by decide +kernel
theorem dX7_feed_62 : decode cX7_feed 62 = .ok (.aload_n 0, 1) := by decide +kernel
theorem dX7_feed_63 : decode cX7_feed 63 = .ok (.getfield 19, 3) := by decide +kernel
theorem dX7_feed_66 : decode cX7_feed 66 = .ok (.getfield 73, 3) := by decide +kernel
theorem dX7_feed_69 : decode cX7_feed 69 = .ok (.ireturn, 1) := by decide +kernel
theorem dX7_end_0 : decode cX7_end 0 = .ok (.iload_n 1, 1) := by decide +kernel
theorem dX7_end_1 : decode cX7_end 1 = .ok (.ifCond .lt 14, 3) := by decide +kernel
theorem dX7_end_4 : decode cX7_end 4 = .ok (.iload_n 1, 1) := by decide +kernel
theorem dX7_end_5 : decode cX7_end 5 = .ok (.aload_n 0, 1) := by decide +kernel
theorem dX7_end_6 : decode cX7_end 6 = .ok (.getfield 19, 3) := by decide +kernel
theorem dX7_end_9 : decode cX7_end 9 = .ok (.getfield 73, 3) := by decide +kernel
theorem dX7_end_12 : decode cX7_end 12 = .ok (.if_icmp .le 11, 3) := by decide +kernel
theorem dX7_end_15 : decode cX7_end 15 = .ok (.new 77, 3) := by decide +kernel
theorem dX7_end_18 : decode cX7_end 18 = .ok (.dup, 1) := by decide +kernel
theorem dX7_end_19 : decode cX7_end 19 = .ok (.invokespecial 79, 3) := by decide +kernel
theorem dX7_end_22 : decode cX7_end 22 = .ok (.athrow, 1) := by decide +kernel
theorem dX7_end_23 : decode cX7_end 23 = .ok (.aload_n 0, 1) := by decide +kernel
theorem dX7_end_24 : decode cX7_end 24 = .ok (.getfield 19, 3) := by decide +kernel
theorem dX7_end_27 : decode cX7_end 27 = .ok (.iload_n 1, 1) := by decide +kernel
theorem dX7_end_28 : decode cX7_end 28 = .ok (.putfield 73, 3) := by decide +kernel
theorem dX7_end_31 : decode cX7_end 31 = .ok (.return_, 1) := by decide +kernel
theorem dX7_turn_0 : decode cX7_turn 0 = .ok (.iload_n 1, 1) := by decide +kernel
theorem dX7_turn_1 : decode cX7_turn 1 = .ok (.invokestatic 80, 3) := by decide +kernel
theorem dX7_turn_4 : decode cX7_turn 4 = .ok (.ifCond .ne 11, 3) := by decide +kernel
theorem dX7_turn_7 : decode cX7_turn 7 = .ok (.new 77, 3) := by decide +kernel
theorem dX7_turn_10 : decode cX7_turn 10 = .ok (.dup, 1) := by decide +kernel
theorem dX7_turn_11 : decode cX7_turn 11 = .ok (.invokespecial 79, 3) := by decide +kernel
theorem dX7_turn_14 : decode cX7_turn 14 = .ok (.athrow, 1) := by decide +kernel
theorem dX7_turn_15 : decode cX7_turn 15 = .ok (.aload_n 0, 1) := by decide +kernel
theorem dX7_turn_16 : decode cX7_turn 16 = .ok (.getfield 44, 3) := by decide +kernel
theorem dX7_turn_19 : decode cX7_turn 19 = .ok (.iload_n 1, 1) := by decide +kernel
theorem dX7_turn_20 : decode cX7_turn 20 = .ok (.invokevirtual 83, 3) := by decide +kernel
theorem dX7_turn_23 : decode cX7_turn 23 = .ok (.ireturn, 1) := by decide +kernel
theorem dX7_block_0 : decode cX7_block 0 = .ok (.iload_n 1, 1) := by decide +kernel
theorem dX7_block_1 : decode cX7_block 1 = .ok (.invokestatic 80, 3) := by decide +kernel
theorem dX7_block_4 : decode cX7_block 4 = .ok (.ifCond .eq 23, 3) := by decide +kernel
theorem dX7_block_7 : decode cX7_block 7 = .ok (.iload_n 2, 1) := by decide +kernel
theorem dX7_block_8 : decode cX7_block 8 = .ok (.invokestatic 87, 3) := by decide +kernel
theorem dX7_block_11 : decode cX7_block 11 = .ok (.ifCond .eq 16, 3) := by decide +kernel
theorem dX7_block_14 : decode cX7_block 14 = .ok (.aload_n 0, 1) := by decide +kernel
theorem dX7_block_15 : decode cX7_block 15 = .ok (.getfield 19, 3) := by decide +kernel
theorem dX7_block_18 : decode cX7_block 18 = .ok (.getfield 73, 3) := by decide +kernel
theorem dX7_block_21 : decode cX7_block 21 = .ok (.iload_n 1, 1) := by decide +kernel
theorem dX7_block_22 : decode cX7_block 22 = .ok (.iload_n 2, 1) := by decide +kernel
theorem dX7_block_23 : decode cX7_block 23 = .ok (.imul, 1) := by decide +kernel
theorem dX7_block_24 : decode cX7_block 24 = .ok (.if_icmp .eq 11, 3) := by decide +kernel
theorem dX7_block_27 : decode cX7_block 27 = .ok (.new 77, 3) := by decide +kernel
theorem dX7_block_30 : decode cX7_block 30 = .ok (.dup, 1) := by decide +kernel
theorem dX7_block_31 : decode cX7_block 31 = .ok (.invokespecial 79, 3) := by decide +kernel
theorem dX7_block_34 : decode cX7_block 34 = .ok (.athrow, 1) := by decide +kernel
theorem dX7_block_35 : decode cX7_block 35 = .ok (.aload_n 0, 1) := by decide +kernel
theorem dX7_block_36 : decode cX7_block 36 = .ok (.getfield 44, 3) := by decide +kernel
theorem dX7_block_39 : decode cX7_block 39 = .ok (.iload_n 1, 1) := by decide +kernel
theorem dX7_block_40 : decode cX7_block 40 = .ok (.invokevirtual 83, 3) := by decide +kernel
theorem dX7_block_43 : decode cX7_block 43 = .ok (.istore_n 3, 1) := by decide +kernel
theorem dX7_block_44 : decode cX7_block 44 = .ok (.aload_n 0, 1) := by decide +kernel
theorem dX7_block_45 : decode cX7_block 45 = .ok (.iload_n 1, 1) := by decide +kernel
theorem dX7_block_46 : decode cX7_block 46 = .ok (.iload_n 2, 1) := by decide +kernel
theorem dX7_block_47 : decode cX7_block 47 = .ok (.iload_n 3, 1) := by decide +kernel
theorem dX7_block_48 : decode cX7_block 48 = .ok (.invokevirtual 90, 3) := by decide +kernel
theorem dX7_block_51 : decode cX7_block 51 = .ok (.aload_n 0, 1) := by decide +kernel
theorem dX7_block_52 : decode cX7_block 52 = .ok (.getfield 51, 3) := by decide +kernel
theorem dX7_block_55 : decode cX7_block 55 = .ok (.aload_n 0, 1) := by decide +kernel
theorem dX7_block_56 : decode cX7_block 56 = .ok (.getfield 35, 3) := by decide +kernel
theorem dX7_block_59 : decode cX7_block 59 = .ok (.iload_n 1, 1) := by decide +kernel
theorem dX7_block_60 : decode cX7_block 60 = .ok (.iload_n 3, 1) := by decide +kernel
theorem dX7_block_61 : decode cX7_block 61 = .ok (.invokevirtual 94, 3) := by decide +kernel
theorem dX7_block_64 : decode cX7_block 64 = .ok (.aload_n 0, 1) := by decide +kernel
theorem dX7_block_65 : decode cX7_block 65 = .ok (.getfield 19, 3) := by decide +kernel
theorem dX7_block_68 : decode cX7_block 68 = .ok (.iconst 0, 1) := by decide +kernel
theorem dX7_block_69 : decode cX7_block 69 = .ok (.putfield 73, 3) := by decide +kernel
theorem dX7_block_72 : decode cX7_block 72 = .ok (.return_, 1) := by decide +kernel
theorem dX7_byteAt_0 : decode cX7_byteAt 0 = .ok (.aload_n 0, 1) := by decide +kernel
theorem dX7_byteAt_1 : decode cX7_byteAt 1 = .ok (.getfield 51, 3) := by decide +kernel
theorem dX7_byteAt_4 : decode cX7_byteAt 4 = .ok (.getfield 98, 3) := by decide +kernel
theorem dX7_byteAt_7 : decode cX7_byteAt 7 = .ok (.ifCond .ne 11, 3) := by decide +kernel
theorem dX7_byteAt_10 : decode cX7_byteAt 10 = .ok (.new 101, 3) := by decide +kernel
theorem dX7_byteAt_13 : decode cX7_byteAt 13 = .ok (.dup, 1) := by decide +kernel
theorem dX7_byteAt_14 : decode cX7_byteAt 14 = .ok (.invokespecial 103, 3) := by decide +kernel
theorem dX7_byteAt_17 : decode cX7_byteAt 17 = .ok (.athrow, 1) := by decide +kernel
theorem dX7_byteAt_18 : decode cX7_byteAt 18 = .ok (.iload_n 1, 1) := by decide +kernel
theorem dX7_byteAt_19 : decode cX7_byteAt 19 = .ok (.invokestatic 104, 3) := by decide +kernel
theorem dX7_byteAt_22 : decode cX7_byteAt 22 = .ok (.ifCond .eq 18, 3) := by decide +kernel
theorem dX7_byteAt_25 : decode cX7_byteAt 25 = .ok (.iload_n 2, 1) := by decide +kernel
theorem dX7_byteAt_26 : decode cX7_byteAt 26 = .ok (.ifCond .lt 14, 3) := by decide +kernel
theorem dX7_byteAt_29 : decode cX7_byteAt 29 = .ok (.iload_n 2, 1) := by decide +kernel
theorem dX7_byteAt_30 : decode cX7_byteAt 30 = .ok (.aload_n 0, 1) := by decide +kernel
theorem dX7_byteAt_31 : decode cX7_byteAt 31 = .ok (.getfield 51, 3) := by decide +kernel
theorem dX7_byteAt_34 : decode cX7_byteAt 34 = .ok (.getfield 107, 3) := by decide +kernel
theorem dX7_byteAt_37 : decode cX7_byteAt 37 = .ok (.if_icmp .lt 11, 3) := by decide +kernel
theorem dX7_byteAt_40 : decode cX7_byteAt 40 = .ok (.new 110, 3) := by decide +kernel
theorem dX7_byteAt_43 : decode cX7_byteAt 43 = .ok (.dup, 1) := by decide +kernel
theorem dX7_byteAt_44 : decode cX7_byteAt 44 = .ok (.invokespecial 112, 3) := by decide +kernel
theorem dX7_byteAt_47 : decode cX7_byteAt 47 = .ok (.athrow, 1) := by decide +kernel
theorem dX7_byteAt_48 : decode cX7_byteAt 48 = .ok (.aload_n 0, 1) := by decide +kernel
theorem dX7_byteAt_49 : decode cX7_byteAt 49 = .ok (.getfield 26, 3) := by decide +kernel
theorem dX7_byteAt_52 : decode cX7_byteAt 52 = .ok (.aload_n 0, 1) := by decide +kernel
theorem dX7_byteAt_53 : decode cX7_byteAt 53 = .ok (.getfield 51, 3) := by decide +kernel
theorem dX7_byteAt_56 : decode cX7_byteAt 56 = .ok (.getfield 98, 3) := by decide +kernel
theorem dX7_byteAt_59 : decode cX7_byteAt 59 = .ok (.iload_n 1, 1) := by decide +kernel
theorem dX7_byteAt_60 : decode cX7_byteAt 60 = .ok (.aload_n 0, 1) := by decide +kernel
theorem dX7_byteAt_61 : decode cX7_byteAt 61 = .ok (.getfield 51, 3) := by decide +kernel
theorem dX7_byteAt_64 : decode cX7_byteAt 64 = .ok (.getfield 113, 3) := by decide +kernel
theorem dX7_byteAt_67 : decode cX7_byteAt 67 = .ok (.invokevirtual 116, 3) := by decide +kernel
theorem dX7_byteAt_70 : decode cX7_byteAt 70 = .ok (.aload_n 0, 1) := by decide +kernel
theorem dX7_byteAt_71 : decode cX7_byteAt 71 = .ok (.getfield 51, 3) := by decide +kernel
theorem dX7_byteAt_74 : decode cX7_byteAt 74 = .ok (.aload_n 0, 1) := by decide +kernel
theorem dX7_byteAt_75 : decode cX7_byteAt 75 = .ok (.getfield 26, 3) := by decide +kernel
theorem dX7_byteAt_78 : decode cX7_byteAt 78 = .ok (.iload_n 2, 1) := by decide +kernel
theorem dX7_byteAt_79 : decode cX7_byteAt 79 = .ok (.invokevirtual 119, 3) := by decide +kernel
theorem dX7_byteAt_82 : decode cX7_byteAt 82 = .ok (.ireturn, 1) := by decide +kernel
theorem dX7_row_0 : decode cX7_row 0 = .ok (.iload_n 1, 1) := by decide +kernel
theorem dX7_row_1 : decode cX7_row 1 = .ok (.invokestatic 80, 3) := by decide +kernel
theorem dX7_row_4 : decode cX7_row 4 = .ok (.ifCond .ne 11, 3) := by decide +kernel
theorem dX7_row_7 : decode cX7_row 7 = .ok (.new 77, 3) := by decide +kernel
theorem dX7_row_10 : decode cX7_row 10 = .ok (.dup, 1) := by decide +kernel
theorem dX7_row_11 : decode cX7_row 11 = .ok (.invokespecial 79, 3) := by decide +kernel
theorem dX7_row_14 : decode cX7_row 14 = .ok (.athrow, 1) := by decide +kernel
theorem dX7_row_15 : decode cX7_row 15 = .ok (.iload_n 2, 1) := by decide +kernel
theorem dX7_row_16 : decode cX7_row 16 = .ok (.invokestatic 104, 3) := by decide +kernel
theorem dX7_row_19 : decode cX7_row 19 = .ok (.ifCond .ne 11, 3) := by decide +kernel
theorem dX7_row_22 : decode cX7_row 22 = .ok (.new 110, 3) := by decide +kernel
theorem dX7_row_25 : decode cX7_row 25 = .ok (.dup, 1) := by decide +kernel
theorem dX7_row_26 : decode cX7_row 26 = .ok (.invokespecial 112, 3) := by decide +kernel
theorem dX7_row_29 : decode cX7_row 29 = .ok (.athrow, 1) := by decide +kernel
theorem dX7_row_30 : decode cX7_row 30 = .ok (.aload_n 0, 1) := by decide +kernel
theorem dX7_row_31 : decode cX7_row 31 = .ok (.getfield 26, 3) := by decide +kernel
theorem dX7_row_34 : decode cX7_row 34 = .ok (.iload_n 1, 1) := by decide +kernel
theorem dX7_row_35 : decode cX7_row 35 = .ok (.iload_n 2, 1) := by decide +kernel
theorem dX7_row_36 : decode cX7_row 36 = .ok (.aload_n 0, 1) := by decide +kernel
theorem dX7_row_37 : decode cX7_row 37 = .ok (.getfield 44, 3) := by decide +kernel
theorem dX7_row_40 : decode cX7_row 40 = .ok (.iload_n 1, 1) := by decide +kernel
theorem dX7_row_41 : decode cX7_row 41 = .ok (.invokevirtual 83, 3) := by decide +kernel
theorem dX7_row_44 : decode cX7_row 44 = .ok (.invokevirtual 116, 3) := by decide +kernel
theorem dX7_row_47 : decode cX7_row 47 = .ok (.iload_n 3, 1) := by decide +kernel
theorem dX7_row_48 : decode cX7_row 48 = .ok (.ifCond .eq 13, 3) := by decide +kernel
theorem dX7_row_51 : decode cX7_row 51 = .ok (.aload_n 0, 1) := by decide +kernel
theorem dX7_row_52 : decode cX7_row 52 = .ok (.getfield 26, 3) := by decide +kernel
theorem dX7_row_55 : decode cX7_row 55 = .ok (.invokevirtual 123, 3) := by decide +kernel
theorem dX7_row_58 : decode cX7_row 58 = .ok (.goto 10, 3) := by decide +kernel
theorem dX7_row_61 : decode cX7_row 61 = .ok (.aload_n 0, 1) := by decide +kernel
theorem dX7_row_62 : decode cX7_row 62 = .ok (.getfield 26, 3) := by decide +kernel
theorem dX7_row_65 : decode cX7_row 65 = .ok (.getfield 127, 3) := by decide +kernel
theorem dX7_row_68 : decode cX7_row 68 = .ok (.ireturn, 1) := by decide +kernel
theorem dX7_open_0 : decode cX7_open 0 = .ok (.iload_n 1, 1) := by decide +kernel
theorem dX7_open_1 : decode cX7_open 1 = .ok (.invokestatic 80, 3) := by decide +kernel
theorem dX7_open_4 : decode cX7_open 4 = .ok (.ifCond .eq 10, 3) := by decide +kernel
theorem dX7_open_7 : decode cX7_open 7 = .ok (.iload_n 2, 1) := by decide +kernel
theorem dX7_open_8 : decode cX7_open 8 = .ok (.invokestatic 87, 3) := by decide +kernel
theorem dX7_open_11 : decode cX7_open 11 = .ok (.ifCond .ne 11, 3) := by decide +kernel
theorem dX7_open_14 : decode cX7_open 14 = .ok (.new 77, 3) := by decide +kernel
theorem dX7_open_17 : decode cX7_open 17 = .ok (.dup, 1) := by decide +kernel
theorem dX7_open_18 : decode cX7_open 18 = .ok (.invokespecial 79, 3) := by decide +kernel
theorem dX7_open_21 : decode cX7_open 21 = .ok (.athrow, 1) := by decide +kernel
theorem dX7_open_22 : decode cX7_open 22 = .ok (.aload_n 0, 1) := by decide +kernel
theorem dX7_open_23 : decode cX7_open 23 = .ok (.getfield 58, 3) := by decide +kernel
theorem dX7_open_26 : decode cX7_open 26 = .ok (.iload_n 1, 1) := by decide +kernel
theorem dX7_open_27 : decode cX7_open 27 = .ok (.iload_n 2, 1) := by decide +kernel
theorem dX7_open_28 : decode cX7_open 28 = .ok (.aload_n 0, 1) := by decide +kernel
theorem dX7_open_29 : decode cX7_open 29 = .ok (.getfield 44, 3) := by decide +kernel
theorem dX7_open_32 : decode cX7_open 32 = .ok (.iload_n 1, 1) := by decide +kernel
theorem dX7_open_33 : decode cX7_open 33 = .ok (.invokevirtual 83, 3) := by decide +kernel
theorem dX7_open_36 : decode cX7_open 36 = .ok (.invokevirtual 130, 3) := by decide +kernel
theorem dX7_open_39 : decode cX7_open 39 = .ok (.return_, 1) := by decide +kernel
theorem dX7_take_0 : decode cX7_take 0 = .ok (.aload_n 0, 1) := by decide +kernel
theorem dX7_take_1 : decode cX7_take 1 = .ok (.invokevirtual 133, 3) := by decide +kernel
theorem dX7_take_4 : decode cX7_take 4 = .ok (.ifCond .ne 11, 3) := by decide +kernel
theorem dX7_take_7 : decode cX7_take 7 = .ok (.new 101, 3) := by decide +kernel
theorem dX7_take_10 : decode cX7_take 10 = .ok (.dup, 1) := by decide +kernel
theorem dX7_take_11 : decode cX7_take 11 = .ok (.invokespecial 103, 3) := by decide +kernel
theorem dX7_take_14 : decode cX7_take 14 = .ok (.athrow, 1) := by decide +kernel
theorem dX7_take_15 : decode cX7_take 15 = .ok (.iload_n 1, 1) := by decide +kernel
theorem dX7_take_16 : decode cX7_take 16 = .ok (.invokestatic 104, 3) := by decide +kernel
theorem dX7_take_19 : decode cX7_take 19 = .ok (.ifCond .ne 11, 3) := by decide +kernel
theorem dX7_take_22 : decode cX7_take 22 = .ok (.new 110, 3) := by decide +kernel
theorem dX7_take_25 : decode cX7_take 25 = .ok (.dup, 1) := by decide +kernel
theorem dX7_take_26 : decode cX7_take 26 = .ok (.invokespecial 112, 3) := by decide +kernel
theorem dX7_take_29 : decode cX7_take 29 = .ok (.athrow, 1) := by decide +kernel
theorem dX7_take_30 : decode cX7_take 30 = .ok (.aload_n 0, 1) := by decide +kernel
theorem dX7_take_31 : decode cX7_take 31 = .ok (.iload_n 1, 1) := by decide +kernel
theorem dX7_take_32 : decode cX7_take 32 = .ok (.invokevirtual 137, 3) := by decide +kernel
theorem dX7_take_35 : decode cX7_take 35 = .ok (.istore_n 2, 1) := by decide +kernel
theorem dX7_take_36 : decode cX7_take 36 = .ok (.iload_n 2, 1) := by decide +kernel
theorem dX7_take_37 : decode cX7_take 37 = .ok (.iconst (-1), 1) := by decide +kernel
theorem dX7_take_38 : decode cX7_take 38 = .ok (.if_icmp .ne 11, 3) := by decide +kernel
theorem dX7_take_41 : decode cX7_take 41 = .ok (.new 66, 3) := by decide +kernel
theorem dX7_take_44 : decode cX7_take 44 = .ok (.dup, 1) := by decide +kernel
theorem dX7_take_45 : decode cX7_take 45 = .ok (.invokespecial 68, 3) := by decide +kernel
theorem dX7_take_48 : decode cX7_take 48 = .ok (.athrow, 1) := by decide +kernel
theorem dX7_take_49 : decode cX7_take 49 = .ok (.iload_n 2, 1) := by decide +kernel
theorem dX7_take_50 : decode cX7_take 50 = .ok (.iconst 1, 1) := by decide +kernel
theorem dX7_take_51 : decode cX7_take 51 = .ok (.if_icmp .ne 7, 3) := by decide +kernel
theorem dX7_take_54 : decode cX7_take 54 = .ok (.iconst 1, 1) := by decide +kernel
theorem dX7_take_55 : decode cX7_take 55 = .ok (.goto 4, 3) := by decide +kernel
theorem dX7_take_58 : decode cX7_take 58 = .ok (.iconst 0, 1) := by decide +kernel
theorem dX7_take_59 : decode cX7_take 59 = .ok (.ireturn, 1) := by decide +kernel
theorem dX7_takeAll_0 : decode cX7_takeAll 0 = .ok (.aload_n 0, 1) := by decide +kernel
theorem dX7_takeAll_1 : decode cX7_takeAll 1 = .ok (.invokevirtual 133, 3) := by decide +kernel
theorem dX7_takeAll_4 : decode cX7_takeAll 4 = .ok (.ifCond .ne 11, 3) := by decide +kernel
theorem dX7_takeAll_7 : decode cX7_takeAll 7 = .ok (.new 101, 3) := by decide +kernel
theorem dX7_takeAll_10 : decode cX7_takeAll 10 = .ok (.dup, 1) := by decide +kernel
theorem dX7_takeAll_11 : decode cX7_takeAll 11 = .ok (.invokespecial 103, 3) := by decide +kernel
theorem dX7_takeAll_14 : decode cX7_takeAll 14 = .ok (.athrow, 1) := by decide +kernel
theorem dX7_takeAll_15 : decode cX7_takeAll 15 = .ok (.iload_n 1, 1) := by decide +kernel
theorem dX7_takeAll_16 : decode cX7_takeAll 16 = .ok (.invokestatic 104, 3) := by decide +kernel
theorem dX7_takeAll_19 : decode cX7_takeAll 19 = .ok (.ifCond .ne 11, 3) := by decide +kernel
theorem dX7_takeAll_22 : decode cX7_takeAll 22 = .ok (.new 110, 3) := by decide +kernel
theorem dX7_takeAll_25 : decode cX7_takeAll 25 = .ok (.dup, 1) := by decide +kernel
theorem dX7_takeAll_26 : decode cX7_takeAll 26 = .ok (.invokespecial 112, 3) := by decide +kernel
theorem dX7_takeAll_29 : decode cX7_takeAll 29 = .ok (.athrow, 1) := by decide +kernel
theorem dX7_takeAll_30 : decode cX7_takeAll 30 = .ok (.iload_n 3, 1) := by decide +kernel
theorem dX7_takeAll_31 : decode cX7_takeAll 31 = .ok (.ifCond .lt 9, 3) := by decide +kernel
theorem dX7_takeAll_34 : decode cX7_takeAll 34 = .ok (.iload_n 3, 1) := by decide +kernel
theorem dX7_takeAll_35 : decode cX7_takeAll 35 = .ok (.bipush 100, 2) := by decide +kernel
theorem dX7_takeAll_37 : decode cX7_takeAll 37 = .ok (.if_icmp .le 11, 3) := by decide +kernel
theorem dX7_takeAll_40 : decode cX7_takeAll 40 = .ok (.new 77, 3) := by decide +kernel
theorem dX7_takeAll_43 : decode cX7_takeAll 43 = .ok (.dup, 1) := by decide +kernel
theorem dX7_takeAll_44 : decode cX7_takeAll 44 = .ok (.invokespecial 79, 3) := by decide +kernel
theorem dX7_takeAll_47 : decode cX7_takeAll 47 = .ok (.athrow, 1) := by decide +kernel
theorem dX7_takeAll_48 : decode cX7_takeAll 48 = .ok (.iconst 0, 1) := by decide +kernel
theorem dX7_takeAll_49 : decode cX7_takeAll 49 = .ok (.istore 4, 2) := by decide +kernel
theorem dX7_takeAll_51 : decode cX7_takeAll 51 = .ok (.iload_n 1, 1) := by decide +kernel
theorem dX7_takeAll_52 : decode cX7_takeAll 52 = .ok (.istore 5, 2) := by decide +kernel
theorem dX7_takeAll_54 : decode cX7_takeAll 54 = .ok (.iconst 0, 1) := by decide +kernel
theorem dX7_takeAll_55 : decode cX7_takeAll 55 = .ok (.istore 6, 2) := by decide +kernel
theorem dX7_takeAll_57 : decode cX7_takeAll 57 = .ok (.iload 6, 2) := by decide +kernel
theorem dX7_takeAll_59 : decode cX7_takeAll 59 = .ok (.iload_n 3, 1) := by decide +kernel
theorem dX7_takeAll_60 : decode cX7_takeAll 60 = .ok (.if_icmp .ge 44, 3) := by decide +kernel
theorem dX7_takeAll_63 : decode cX7_takeAll 63 = .ok (.aload_n 0, 1) := by decide +kernel
theorem dX7_takeAll_64 : decode cX7_takeAll 64 = .ok (.iload 5, 2) := by decide +kernel
theorem dX7_takeAll_66 : decode cX7_takeAll 66 = .ok (.invokevirtual 137, 3) := by decide +kernel
theorem dX7_takeAll_69 : decode cX7_takeAll 69 = .ok (.istore 7, 2) := by decide +kernel
theorem dX7_takeAll_71 : decode cX7_takeAll 71 = .ok (.iload 7, 2) := by decide +kernel
theorem dX7_takeAll_73 : decode cX7_takeAll 73 = .ok (.iconst (-1), 1) := by decide +kernel
theorem dX7_takeAll_74 : decode cX7_takeAll 74 = .ok (.if_icmp .ne 6, 3) := by decide +kernel
theorem dX7_takeAll_77 : decode cX7_takeAll 77 = .ok (.iload 4, 2) := by decide +kernel
theorem dX7_takeAll_79 : decode cX7_takeAll 79 = .ok (.ireturn, 1) := by decide +kernel
theorem dX7_takeAll_80 : decode cX7_takeAll 80 = .ok (.iload 4, 2) := by decide +kernel
theorem dX7_takeAll_82 : decode cX7_takeAll 82 = .ok (.iload 7, 2) := by decide +kernel
theorem dX7_takeAll_84 : decode cX7_takeAll 84 = .ok (.iadd, 1) := by decide +kernel
theorem dX7_takeAll_85 : decode cX7_takeAll 85 = .ok (.istore 4, 2) := by decide +kernel
theorem dX7_takeAll_87 : decode cX7_takeAll 87 = .ok (.iload 5, 2) := by decide +kernel
theorem dX7_takeAll_89 : decode cX7_takeAll 89 = .ok (.iload_n 2, 1) := by decide +kernel
theorem dX7_takeAll_90 : decode cX7_takeAll 90 = .ok (.iadd, 1) := by decide +kernel
theorem dX7_takeAll_91 : decode cX7_takeAll 91 = .ok (.ldc 140, 2) := by decide +kernel
theorem dX7_takeAll_93 : decode cX7_takeAll 93 = .ok (.invokestatic 141, 3) := by decide +kernel
theorem dX7_takeAll_96 : decode cX7_takeAll 96 = .ok (.istore 5, 2) := by decide +kernel
theorem dX7_takeAll_98 : decode cX7_takeAll 98 = .ok (.iinc 6 1, 3) := by decide +kernel
theorem dX7_takeAll_101 : decode cX7_takeAll 101 = .ok (.goto (-44), 3) := by decide +kernel
theorem dX7_takeAll_104 : decode cX7_takeAll 104 = .ok (.iload 4, 2) := by decide +kernel
theorem dX7_takeAll_106 : decode cX7_takeAll 106 = .ok (.ireturn, 1) := by decide +kernel
theorem dX7_give_0 : decode cX7_give 0 = .ok (.aload_n 0, 1) := by decide +kernel
theorem dX7_give_1 : decode cX7_give 1 = .ok (.getfield 58, 3) := by decide +kernel
theorem dX7_give_4 : decode cX7_give 4 = .ok (.getfield 147, 3) := by decide +kernel
theorem dX7_give_7 : decode cX7_give 7 = .ok (.ifCond .ne 11, 3) := by decide +kernel
theorem dX7_give_10 : decode cX7_give 10 = .ok (.new 101, 3) := by decide +kernel
theorem dX7_give_13 : decode cX7_give 13 = .ok (.dup, 1) := by decide +kernel
theorem dX7_give_14 : decode cX7_give 14 = .ok (.invokespecial 103, 3) := by decide +kernel
theorem dX7_give_17 : decode cX7_give 17 = .ok (.athrow, 1) := by decide +kernel
theorem dX7_give_18 : decode cX7_give 18 = .ok (.iload_n 1, 1) := by decide +kernel
theorem dX7_give_19 : decode cX7_give 19 = .ok (.invokestatic 104, 3) := by decide +kernel
theorem dX7_give_22 : decode cX7_give 22 = .ok (.ifCond .ne 11, 3) := by decide +kernel
theorem dX7_give_25 : decode cX7_give 25 = .ok (.new 110, 3) := by decide +kernel
theorem dX7_give_28 : decode cX7_give 28 = .ok (.dup, 1) := by decide +kernel
theorem dX7_give_29 : decode cX7_give 29 = .ok (.invokespecial 112, 3) := by decide +kernel
theorem dX7_give_32 : decode cX7_give 32 = .ok (.athrow, 1) := by decide +kernel
theorem dX7_give_33 : decode cX7_give 33 = .ok (.aload_n 0, 1) := by decide +kernel
theorem dX7_give_34 : decode cX7_give 34 = .ok (.getfield 19, 3) := by decide +kernel
theorem dX7_give_37 : decode cX7_give 37 = .ok (.getfield 73, 3) := by decide +kernel
theorem dX7_give_40 : decode cX7_give 40 = .ok (.aload_n 0, 1) := by decide +kernel
theorem dX7_give_41 : decode cX7_give 41 = .ok (.getfield 58, 3) := by decide +kernel
theorem dX7_give_44 : decode cX7_give 44 = .ok (.getfield 148, 3) := by decide +kernel
theorem dX7_give_47 : decode cX7_give 47 = .ok (.if_icmp .eq 11, 3) := by decide +kernel
theorem dX7_give_50 : decode cX7_give 50 = .ok (.new 77, 3) := by decide +kernel
theorem dX7_give_53 : decode cX7_give 53 = .ok (.dup, 1) := by decide +kernel
theorem dX7_give_54 : decode cX7_give 54 = .ok (.invokespecial 79, 3) := by decide +kernel
theorem dX7_give_57 : decode cX7_give 57 = .ok (.athrow, 1) := by decide +kernel
theorem dX7_give_58 : decode cX7_give 58 = .ok (.aload_n 0, 1) := by decide +kernel
theorem dX7_give_59 : decode cX7_give 59 = .ok (.iload_n 1, 1) := by decide +kernel
theorem dX7_give_60 : decode cX7_give 60 = .ok (.invokevirtual 149, 3) := by decide +kernel
theorem dX7_give_63 : decode cX7_give 63 = .ok (.istore_n 2, 1) := by decide +kernel
theorem dX7_give_64 : decode cX7_give 64 = .ok (.iload_n 2, 1) := by decide +kernel
theorem dX7_give_65 : decode cX7_give 65 = .ok (.iconst (-1), 1) := by decide +kernel
theorem dX7_give_66 : decode cX7_give 66 = .ok (.if_icmp .ne 11, 3) := by decide +kernel
theorem dX7_give_69 : decode cX7_give 69 = .ok (.new 66, 3) := by decide +kernel
theorem dX7_give_72 : decode cX7_give 72 = .ok (.dup, 1) := by decide +kernel
theorem dX7_give_73 : decode cX7_give 73 = .ok (.invokespecial 68, 3) := by decide +kernel
theorem dX7_give_76 : decode cX7_give 76 = .ok (.athrow, 1) := by decide +kernel
theorem dX7_give_77 : decode cX7_give 77 = .ok (.aload_n 0, 1) := by decide +kernel
theorem dX7_give_78 : decode cX7_give 78 = .ok (.getfield 19, 3) := by decide +kernel
theorem dX7_give_81 : decode cX7_give 81 = .ok (.iconst 0, 1) := by decide +kernel
theorem dX7_give_82 : decode cX7_give 82 = .ok (.putfield 73, 3) := by decide +kernel
theorem dX7_give_85 : decode cX7_give 85 = .ok (.iload_n 2, 1) := by decide +kernel
theorem dX7_give_86 : decode cX7_give 86 = .ok (.iconst 1, 1) := by decide +kernel
theorem dX7_give_87 : decode cX7_give 87 = .ok (.if_icmp .ne 7, 3) := by decide +kernel
theorem dX7_give_90 : decode cX7_give 90 = .ok (.iconst 1, 1) := by decide +kernel
theorem dX7_give_91 : decode cX7_give 91 = .ok (.goto 4, 3) := by decide +kernel
theorem dX7_give_94 : decode cX7_give 94 = .ok (.iconst 0, 1) := by decide +kernel
theorem dX7_give_95 : decode cX7_give 95 = .ok (.ireturn, 1) := by decide +kernel
theorem dX7_rank_0 : decode cX7_rank 0 = .ok (.aload_n 0, 1) := by decide +kernel
theorem dX7_rank_1 : decode cX7_rank 1 = .ok (.getfield 58, 3) := by decide +kernel
theorem dX7_rank_4 : decode cX7_rank 4 = .ok (.getfield 147, 3) := by decide +kernel
theorem dX7_rank_7 : decode cX7_rank 7 = .ok (.ifCond .ne 11, 3) := by decide +kernel
theorem dX7_rank_10 : decode cX7_rank 10 = .ok (.new 101, 3) := by decide +kernel
theorem dX7_rank_13 : decode cX7_rank 13 = .ok (.dup, 1) := by decide +kernel
theorem dX7_rank_14 : decode cX7_rank 14 = .ok (.invokespecial 103, 3) := by decide +kernel
theorem dX7_rank_17 : decode cX7_rank 17 = .ok (.athrow, 1) := by decide +kernel
theorem dX7_rank_18 : decode cX7_rank 18 = .ok (.aload_n 0, 1) := by decide +kernel
theorem dX7_rank_19 : decode cX7_rank 19 = .ok (.getfield 58, 3) := by decide +kernel
theorem dX7_rank_22 : decode cX7_rank 22 = .ok (.getfield 152, 3) := by decide +kernel
theorem dX7_rank_25 : decode cX7_rank 25 = .ok (.getfield 155, 3) := by decide +kernel
theorem dX7_rank_28 : decode cX7_rank 28 = .ok (.ireturn, 1) := by decide +kernel
theorem dX7_follows_0 : decode cX7_follows 0 = .ok (.aload_n 0, 1) := by decide +kernel
theorem dX7_follows_1 : decode cX7_follows 1 = .ok (.getfield 58, 3) := by decide +kernel
theorem dX7_follows_4 : decode cX7_follows 4 = .ok (.getfield 147, 3) := by decide +kernel
theorem dX7_follows_7 : decode cX7_follows 7 = .ok (.ifCond .ne 11, 3) := by decide +kernel
theorem dX7_follows_10 : decode cX7_follows 10 = .ok (.new 101, 3) := by decide +kernel
theorem dX7_follows_13 : decode cX7_follows 13 = .ok (.dup, 1) := by decide +kernel
theorem dX7_follows_14 : decode cX7_follows 14 = .ok (.invokespecial 103, 3) := by decide +kernel
theorem dX7_follows_17 : decode cX7_follows 17 = .ok (.athrow, 1) := by decide +kernel
theorem dX7_follows_18 : decode cX7_follows 18 = .ok (.iload_n 1, 1) := by decide +kernel
theorem dX7_follows_19 : decode cX7_follows 19 = .ok (.invokestatic 104, 3) := by decide +kernel
theorem dX7_follows_22 : decode cX7_follows 22 = .ok (.ifCond .ne 11, 3) := by decide +kernel
theorem dX7_follows_25 : decode cX7_follows 25 = .ok (.new 110, 3) := by decide +kernel
theorem dX7_follows_28 : decode cX7_follows 28 = .ok (.dup, 1) := by decide +kernel
theorem dX7_follows_29 : decode cX7_follows 29 = .ok (.invokespecial 112, 3) := by decide +kernel
theorem dX7_follows_32 : decode cX7_follows 32 = .ok (.athrow, 1) := by decide +kernel
theorem dX7_follows_33 : decode cX7_follows 33 = .ok (.aload_n 0, 1) := by decide +kernel
theorem dX7_follows_34 : decode cX7_follows 34 = .ok (.iload_n 1, 1) := by decide +kernel
theorem dX7_follows_35 : decode cX7_follows 35 = .ok (.invokevirtual 158, 3) := by decide +kernel
theorem dX7_follows_38 : decode cX7_follows 38 = .ok (.ireturn, 1) := by decide +kernel
theorem dX7_known_0 : decode cX7_known 0 = .ok (.aload_n 0, 1) := by decide +kernel
theorem dX7_known_1 : decode cX7_known 1 = .ok (.getfield 58, 3) := by decide +kernel
theorem dX7_known_4 : decode cX7_known 4 = .ok (.getfield 147, 3) := by decide +kernel
theorem dX7_known_7 : decode cX7_known 7 = .ok (.ifCond .ne 11, 3) := by decide +kernel
theorem dX7_known_10 : decode cX7_known 10 = .ok (.new 101, 3) := by decide +kernel
theorem dX7_known_13 : decode cX7_known 13 = .ok (.dup, 1) := by decide +kernel
theorem dX7_known_14 : decode cX7_known 14 = .ok (.invokespecial 103, 3) := by decide +kernel
theorem dX7_known_17 : decode cX7_known 17 = .ok (.athrow, 1) := by decide +kernel
theorem dX7_known_18 : decode cX7_known 18 = .ok (.iload_n 1, 1) := by decide +kernel
theorem dX7_known_19 : decode cX7_known 19 = .ok (.invokestatic 104, 3) := by decide +kernel
theorem dX7_known_22 : decode cX7_known 22 = .ok (.ifCond .ne 11, 3) := by decide +kernel
theorem dX7_known_25 : decode cX7_known 25 = .ok (.new 110, 3) := by decide +kernel
theorem dX7_known_28 : decode cX7_known 28 = .ok (.dup, 1) := by decide +kernel
theorem dX7_known_29 : decode cX7_known 29 = .ok (.invokespecial 112, 3) := by decide +kernel
theorem dX7_known_32 : decode cX7_known 32 = .ok (.athrow, 1) := by decide +kernel
theorem dX7_known_33 : decode cX7_known 33 = .ok (.aload_n 0, 1) := by decide +kernel
theorem dX7_known_34 : decode cX7_known 34 = .ok (.iload_n 1, 1) := by decide +kernel
theorem dX7_known_35 : decode cX7_known 35 = .ok (.invokevirtual 158, 3) := by decide +kernel
theorem dX7_known_38 : decode cX7_known 38 = .ok (.ifCond .ne 11, 3) := by decide +kernel
theorem dX7_known_41 : decode cX7_known 41 = .ok (.new 101, 3) := by decide +kernel
theorem dX7_known_44 : decode cX7_known 44 = .ok (.dup, 1) := by decide +kernel
theorem dX7_known_45 : decode cX7_known 45 = .ok (.invokespecial 103, 3) := by decide +kernel
theorem dX7_known_48 : decode cX7_known 48 = .ok (.athrow, 1) := by decide +kernel
theorem dX7_known_49 : decode cX7_known 49 = .ok (.iload_n 2, 1) := by decide +kernel
theorem dX7_known_50 : decode cX7_known 50 = .ok (.ifCond .lt 14, 3) := by decide +kernel
theorem dX7_known_53 : decode cX7_known 53 = .ok (.iload_n 2, 1) := by decide +kernel
theorem dX7_known_54 : decode cX7_known 54 = .ok (.aload_n 0, 1) := by decide +kernel
theorem dX7_known_55 : decode cX7_known 55 = .ok (.getfield 58, 3) := by decide +kernel
theorem dX7_known_58 : decode cX7_known 58 = .ok (.getfield 148, 3) := by decide +kernel
theorem dX7_known_61 : decode cX7_known 61 = .ok (.if_icmp .lt 11, 3) := by decide +kernel
theorem dX7_known_64 : decode cX7_known 64 = .ok (.new 110, 3) := by decide +kernel
theorem dX7_known_67 : decode cX7_known 67 = .ok (.dup, 1) := by decide +kernel
theorem dX7_known_68 : decode cX7_known 68 = .ok (.invokespecial 112, 3) := by decide +kernel
theorem dX7_known_71 : decode cX7_known 71 = .ok (.athrow, 1) := by decide +kernel
theorem dX7_known_72 : decode cX7_known 72 = .ok (.aload_n 0, 1) := by decide +kernel
theorem dX7_known_73 : decode cX7_known 73 = .ok (.getfield 58, 3) := by decide +kernel
theorem dX7_known_76 : decode cX7_known 76 = .ok (.getfield 152, 3) := by decide +kernel
theorem dX7_known_79 : decode cX7_known 79 = .ok (.iload_n 2, 1) := by decide +kernel
theorem dX7_known_80 : decode cX7_known 80 = .ok (.invokevirtual 161, 3) := by decide +kernel
theorem dX7_known_83 : decode cX7_known 83 = .ok (.ireturn, 1) := by decide +kernel
theorem dX7_product_0 : decode cX7_product 0 = .ok (.aload_n 0, 1) := by decide +kernel
theorem dX7_product_1 : decode cX7_product 1 = .ok (.getfield 12, 3) := by decide +kernel
theorem dX7_product_4 : decode cX7_product 4 = .ok (.iload_n 1, 1) := by decide +kernel
theorem dX7_product_5 : decode cX7_product 5 = .ok (.sipush 255, 3) := by decide +kernel
theorem dX7_product_8 : decode cX7_product 8 = .ok (.iand, 1) := by decide +kernel
theorem dX7_product_9 : decode cX7_product 9 = .ok (.iload_n 2, 1) := by decide +kernel
theorem dX7_product_10 : decode cX7_product 10 = .ok (.sipush 255, 3) := by decide +kernel
theorem dX7_product_13 : decode cX7_product 13 = .ok (.iand, 1) := by decide +kernel
theorem dX7_product_14 : decode cX7_product 14 = .ok (.invokevirtual 164, 3) := by decide +kernel
theorem dX7_product_17 : decode cX7_product 17 = .ok (.ireturn, 1) := by decide +kernel
theorem dX7_count_0 : decode cX7_count 0 = .ok (.iload_n 1, 1) := by decide +kernel
theorem dX7_count_1 : decode cX7_count 1 = .ok (.tableswitch 96 0 6 #[43, 51, 59, 67, 75, 83, 91], 43) := by decide +kernel
theorem dX7_count_44 : decode cX7_count 44 = .ok (.aload_n 0, 1) := by decide +kernel
theorem dX7_count_45 : decode cX7_count 45 = .ok (.getfield 19, 3) := by decide +kernel
theorem dX7_count_48 : decode cX7_count 48 = .ok (.getfield 73, 3) := by decide +kernel
theorem dX7_count_51 : decode cX7_count 51 = .ok (.ireturn, 1) := by decide +kernel
theorem dX7_count_52 : decode cX7_count 52 = .ok (.aload_n 0, 1) := by decide +kernel
theorem dX7_count_53 : decode cX7_count 53 = .ok (.getfield 51, 3) := by decide +kernel
theorem dX7_count_56 : decode cX7_count 56 = .ok (.getfield 98, 3) := by decide +kernel
theorem dX7_count_59 : decode cX7_count 59 = .ok (.ireturn, 1) := by decide +kernel
theorem dX7_count_60 : decode cX7_count 60 = .ok (.aload_n 0, 1) := by decide +kernel
theorem dX7_count_61 : decode cX7_count 61 = .ok (.getfield 51, 3) := by decide +kernel
theorem dX7_count_64 : decode cX7_count 64 = .ok (.getfield 107, 3) := by decide +kernel
theorem dX7_count_67 : decode cX7_count 67 = .ok (.ireturn, 1) := by decide +kernel
theorem dX7_count_68 : decode cX7_count 68 = .ok (.aload_n 0, 1) := by decide +kernel
theorem dX7_count_69 : decode cX7_count 69 = .ok (.getfield 58, 3) := by decide +kernel
theorem dX7_count_72 : decode cX7_count 72 = .ok (.getfield 147, 3) := by decide +kernel
theorem dX7_count_75 : decode cX7_count 75 = .ok (.ireturn, 1) := by decide +kernel
theorem dX7_count_76 : decode cX7_count 76 = .ok (.aload_n 0, 1) := by decide +kernel
theorem dX7_count_77 : decode cX7_count 77 = .ok (.getfield 58, 3) := by decide +kernel
theorem dX7_count_80 : decode cX7_count 80 = .ok (.getfield 148, 3) := by decide +kernel
theorem dX7_count_83 : decode cX7_count 83 = .ok (.ireturn, 1) := by decide +kernel
theorem dX7_count_84 : decode cX7_count 84 = .ok (.aload_n 0, 1) := by decide +kernel
theorem dX7_count_85 : decode cX7_count 85 = .ok (.getfield 58, 3) := by decide +kernel
theorem dX7_count_88 : decode cX7_count 88 = .ok (.getfield 167, 3) := by decide +kernel
theorem dX7_count_91 : decode cX7_count 91 = .ok (.ireturn, 1) := by decide +kernel
theorem dX7_count_92 : decode cX7_count 92 = .ok (.aload_n 0, 1) := by decide +kernel
theorem dX7_count_93 : decode cX7_count 93 = .ok (.invokevirtual 170, 3) := by decide +kernel
theorem dX7_count_96 : decode cX7_count 96 = .ok (.ireturn, 1) := by decide +kernel
theorem dX7_count_97 : decode cX7_count 97 = .ok (.new 77, 3) := by decide +kernel
theorem dX7_count_100 : decode cX7_count 100 = .ok (.dup, 1) := by decide +kernel
theorem dX7_count_101 : decode cX7_count 101 = .ok (.invokespecial 79, 3) := by decide +kernel
theorem dX7_count_104 : decode cX7_count 104 = .ok (.athrow, 1) := by decide +kernel
theorem dX7_isSymbolCount_0 : decode cX7_isSymbolCount 0 = .ok (.iload_n 0, 1) := by decide +kernel
theorem dX7_isSymbolCount_1 : decode cX7_isSymbolCount 1 = .ok (.iconst 1, 1) := by decide +kernel
theorem dX7_isSymbolCount_2 : decode cX7_isSymbolCount 2 = .ok (.if_icmp .lt 13, 3) := by decide +kernel
theorem dX7_isSymbolCount_5 : decode cX7_isSymbolCount 5 = .ok (.iload_n 0, 1) := by decide +kernel
theorem dX7_isSymbolCount_6 : decode cX7_isSymbolCount 6 = .ok (.bipush 48, 2) := by decide +kernel
theorem dX7_isSymbolCount_8 : decode cX7_isSymbolCount 8 = .ok (.if_icmp .gt 7, 3) := by decide +kernel
theorem dX7_isSymbolCount_11 : decode cX7_isSymbolCount 11 = .ok (.iconst 1, 1) := by decide +kernel
theorem dX7_isSymbolCount_12 : decode cX7_isSymbolCount 12 = .ok (.goto 4, 3) := by decide +kernel
theorem dX7_isSymbolCount_15 : decode cX7_isSymbolCount 15 = .ok (.iconst 0, 1) := by decide +kernel
theorem dX7_isSymbolCount_16 : decode cX7_isSymbolCount 16 = .ok (.ireturn, 1) := by decide +kernel
theorem dX7_isByteCount_0 : decode cX7_isByteCount 0 = .ok (.iload_n 0, 1) := by decide +kernel
theorem dX7_isByteCount_1 : decode cX7_isByteCount 1 = .ok (.iconst 1, 1) := by decide +kernel
theorem dX7_isByteCount_2 : decode cX7_isByteCount 2 = .ok (.if_icmp .lt 13, 3) := by decide +kernel
theorem dX7_isByteCount_5 : decode cX7_isByteCount 5 = .ok (.iload_n 0, 1) := by decide +kernel
theorem dX7_isByteCount_6 : decode cX7_isByteCount 6 = .ok (.bipush 16, 2) := by decide +kernel
theorem dX7_isByteCount_8 : decode cX7_isByteCount 8 = .ok (.if_icmp .gt 7, 3) := by decide +kernel
theorem dX7_isByteCount_11 : decode cX7_isByteCount 11 = .ok (.iconst 1, 1) := by decide +kernel
theorem dX7_isByteCount_12 : decode cX7_isByteCount 12 = .ok (.goto 4, 3) := by decide +kernel
theorem dX7_isByteCount_15 : decode cX7_isByteCount 15 = .ok (.iconst 0, 1) := by decide +kernel
theorem dX7_isByteCount_16 : decode cX7_isByteCount 16 = .ok (.ireturn, 1) := by decide +kernel
theorem dX7_isPacket_0 : decode cX7_isPacket 0 = .ok (.iload_n 0, 1) := by decide +kernel
theorem dX7_isPacket_1 : decode cX7_isPacket 1 = .ok (.ifCond .lt 13, 3) := by decide +kernel
theorem dX7_isPacket_4 : decode cX7_isPacket 4 = .ok (.iload_n 0, 1) := by decide +kernel
theorem dX7_isPacket_5 : decode cX7_isPacket 5 = .ok (.ldc 140, 2) := by decide +kernel
theorem dX7_isPacket_7 : decode cX7_isPacket 7 = .ok (.if_icmp .ge 7, 3) := by decide +kernel
theorem dX7_isPacket_10 : decode cX7_isPacket 10 = .ok (.iconst 1, 1) := by decide +kernel
theorem dX7_isPacket_11 : decode cX7_isPacket 11 = .ok (.goto 4, 3) := by decide +kernel
theorem dX7_isPacket_14 : decode cX7_isPacket 14 = .ok (.iconst 0, 1) := by decide +kernel
theorem dX7_isPacket_15 : decode cX7_isPacket 15 = .ok (.ireturn, 1) := by decide +kernel
theorem dX7_blockFitsCatcher_0 : decode cX7_blockFitsCatcher 0 = .ok (.aload_n 0, 1) := by decide +kernel
theorem dX7_blockFitsCatcher_1 : decode cX7_blockFitsCatcher 1 = .ok (.getfield 51, 3) := by decide +kernel
theorem dX7_blockFitsCatcher_4 : decode cX7_blockFitsCatcher 4 = .ok (.getfield 98, 3) := by decide +kernel
theorem dX7_blockFitsCatcher_7 : decode cX7_blockFitsCatcher 7 = .ok (.ifCond .eq 41, 3) := by decide +kernel
theorem dX7_blockFitsCatcher_10 : decode cX7_blockFitsCatcher 10 = .ok (.aload_n 0, 1) := by decide +kernel
theorem dX7_blockFitsCatcher_11 : decode cX7_blockFitsCatcher 11 = .ok (.getfield 51, 3) := by decide +kernel
theorem dX7_blockFitsCatcher_14 : decode cX7_blockFitsCatcher 14 = .ok (.getfield 98, 3) := by decide +kernel
theorem dX7_blockFitsCatcher_17 : decode cX7_blockFitsCatcher 17 = .ok (.aload_n 0, 1) := by decide +kernel
theorem dX7_blockFitsCatcher_18 : decode cX7_blockFitsCatcher 18 = .ok (.getfield 58, 3) := by decide +kernel
theorem dX7_blockFitsCatcher_21 : decode cX7_blockFitsCatcher 21 = .ok (.getfield 147, 3) := by decide +kernel
theorem dX7_blockFitsCatcher_24 : decode cX7_blockFitsCatcher 24 = .ok (.if_icmp .ne 24, 3) := by decide +kernel
theorem dX7_blockFitsCatcher_27 : decode cX7_blockFitsCatcher 27 = .ok (.aload_n 0, 1) := by decide +kernel
theorem dX7_blockFitsCatcher_28 : decode cX7_blockFitsCatcher 28 = .ok (.getfield 51, 3) := by decide +kernel
theorem dX7_blockFitsCatcher_31 : decode cX7_blockFitsCatcher 31 = .ok (.getfield 107, 3) := by decide +kernel
theorem dX7_blockFitsCatcher_34 : decode cX7_blockFitsCatcher 34 = .ok (.aload_n 0, 1) := by decide +kernel
theorem dX7_blockFitsCatcher_35 : decode cX7_blockFitsCatcher 35 = .ok (.getfield 58, 3) := by decide +kernel
theorem dX7_blockFitsCatcher_38 : decode cX7_blockFitsCatcher 38 = .ok (.getfield 148, 3) := by decide +kernel
theorem dX7_blockFitsCatcher_41 : decode cX7_blockFitsCatcher 41 = .ok (.if_icmp .ne 7, 3) := by decide +kernel
theorem dX7_blockFitsCatcher_44 : decode cX7_blockFitsCatcher 44 = .ok (.iconst 1, 1) := by decide +kernel
theorem dX7_blockFitsCatcher_45 : decode cX7_blockFitsCatcher 45 = .ok (.goto 4, 3) := by decide +kernel
theorem dX7_blockFitsCatcher_48 : decode cX7_blockFitsCatcher 48 = .ok (.iconst 0, 1) := by decide +kernel
theorem dX7_blockFitsCatcher_49 : decode cX7_blockFitsCatcher 49 = .ok (.ireturn, 1) := by decide +kernel
theorem dX7_solveTape_0 : decode cX7_solveTape 0 = .ok (.aload_n 0, 1) := by decide +kernel
theorem dX7_solveTape_1 : decode cX7_solveTape 1 = .ok (.getfield 35, 3) := by decide +kernel
theorem dX7_solveTape_4 : decode cX7_solveTape 4 = .ok (.iload_n 1, 1) := by decide +kernel
theorem dX7_solveTape_5 : decode cX7_solveTape 5 = .ok (.iload_n 2, 1) := by decide +kernel
theorem dX7_solveTape_6 : decode cX7_solveTape 6 = .ok (.invokevirtual 173, 3) := by decide +kernel
theorem dX7_solveTape_9 : decode cX7_solveTape 9 = .ok (.iconst 0, 1) := by decide +kernel
theorem dX7_solveTape_10 : decode cX7_solveTape 10 = .ok (.istore 4, 2) := by decide +kernel
theorem dX7_solveTape_12 : decode cX7_solveTape 12 = .ok (.iload 4, 2) := by decide +kernel
theorem dX7_solveTape_14 : decode cX7_solveTape 14 = .ok (.iload_n 1, 1) := by decide +kernel
theorem dX7_solveTape_15 : decode cX7_solveTape 15 = .ok (.if_icmp .ge 78, 3) := by decide +kernel
theorem dX7_solveTape_18 : decode cX7_solveTape 18 = .ok (.aload_n 0, 1) := by decide +kernel
theorem dX7_solveTape_19 : decode cX7_solveTape 19 = .ok (.getfield 26, 3) := by decide +kernel
theorem dX7_solveTape_22 : decode cX7_solveTape 22 = .ok (.iload_n 1, 1) := by decide +kernel
theorem dX7_solveTape_23 : decode cX7_solveTape 23 = .ok (.iload 4, 2) := by decide +kernel
theorem dX7_solveTape_25 : decode cX7_solveTape 25 = .ok (.iload_n 3, 1) := by decide +kernel
theorem dX7_solveTape_26 : decode cX7_solveTape 26 = .ok (.invokevirtual 116, 3) := by decide +kernel
theorem dX7_solveTape_29 : decode cX7_solveTape 29 = .ok (.aload_n 0, 1) := by decide +kernel
theorem dX7_solveTape_30 : decode cX7_solveTape 30 = .ok (.getfield 35, 3) := by decide +kernel
theorem dX7_solveTape_33 : decode cX7_solveTape 33 = .ok (.aload_n 0, 1) := by decide +kernel
theorem dX7_solveTape_34 : decode cX7_solveTape 34 = .ok (.getfield 26, 3) := by decide +kernel
theorem dX7_solveTape_37 : decode cX7_solveTape 37 = .ok (.invokevirtual 177, 3) := by decide +kernel
theorem dX7_solveTape_40 : decode cX7_solveTape 40 = .ok (.iconst 0, 1) := by decide +kernel
theorem dX7_solveTape_41 : decode cX7_solveTape 41 = .ok (.istore 5, 2) := by decide +kernel
theorem dX7_solveTape_43 : decode cX7_solveTape 43 = .ok (.iload 5, 2) := by decide +kernel
theorem dX7_solveTape_45 : decode cX7_solveTape 45 = .ok (.iload_n 2, 1) := by decide +kernel
theorem dX7_solveTape_46 : decode cX7_solveTape 46 = .ok (.if_icmp .ge 33, 3) := by decide +kernel
theorem dX7_solveTape_49 : decode cX7_solveTape 49 = .ok (.aload_n 0, 1) := by decide +kernel
theorem dX7_solveTape_50 : decode cX7_solveTape 50 = .ok (.getfield 35, 3) := by decide +kernel
theorem dX7_solveTape_53 : decode cX7_solveTape 53 = .ok (.iload 5, 2) := by decide +kernel
theorem dX7_solveTape_55 : decode cX7_solveTape 55 = .ok (.aload_n 0, 1) := by decide +kernel
theorem dX7_solveTape_56 : decode cX7_solveTape 56 = .ok (.getfield 19, 3) := by decide +kernel
theorem dX7_solveTape_59 : decode cX7_solveTape 59 = .ok (.getfield 181, 3) := by decide +kernel
theorem dX7_solveTape_62 : decode cX7_solveTape 62 = .ok (.iload 4, 2) := by decide +kernel
theorem dX7_solveTape_64 : decode cX7_solveTape 64 = .ok (.iload_n 2, 1) := by decide +kernel
theorem dX7_solveTape_65 : decode cX7_solveTape 65 = .ok (.imul, 1) := by decide +kernel
theorem dX7_solveTape_66 : decode cX7_solveTape 66 = .ok (.iload 5, 2) := by decide +kernel
theorem dX7_solveTape_68 : decode cX7_solveTape 68 = .ok (.iadd, 1) := by decide +kernel
theorem dX7_solveTape_69 : decode cX7_solveTape 69 = .ok (.iaload, 1) := by decide +kernel
theorem dX7_solveTape_70 : decode cX7_solveTape 70 = .ok (.invokevirtual 185, 3) := by decide +kernel
theorem dX7_solveTape_73 : decode cX7_solveTape 73 = .ok (.iinc 5 1, 3) := by decide +kernel
theorem dX7_solveTape_76 : decode cX7_solveTape 76 = .ok (.goto (-33), 3) := by decide +kernel
theorem dX7_solveTape_79 : decode cX7_solveTape 79 = .ok (.aload_n 0, 1) := by decide +kernel
theorem dX7_solveTape_80 : decode cX7_solveTape 80 = .ok (.getfield 35, 3) := by decide +kernel
theorem dX7_solveTape_83 : decode cX7_solveTape 83 = .ok (.invokevirtual 188, 3) := by decide +kernel
theorem dX7_solveTape_86 : decode cX7_solveTape 86 = .ok (.pop, 1) := by decide +kernel
theorem dX7_solveTape_87 : decode cX7_solveTape 87 = .ok (.iinc 4 1, 3) := by decide +kernel
theorem dX7_solveTape_90 : decode cX7_solveTape 90 = .ok (.goto (-78), 3) := by decide +kernel
theorem dX7_solveTape_93 : decode cX7_solveTape 93 = .ok (.return_, 1) := by decide +kernel
theorem dX7_catchFromBlock_0 : decode cX7_catchFromBlock 0 = .ok (.aload_n 0, 1) := by decide +kernel
theorem dX7_catchFromBlock_1 : decode cX7_catchFromBlock 1 = .ok (.getfield 26, 3) := by decide +kernel
theorem dX7_catchFromBlock_4 : decode cX7_catchFromBlock 4 = .ok (.aload_n 0, 1) := by decide +kernel
theorem dX7_catchFromBlock_5 : decode cX7_catchFromBlock 5 = .ok (.getfield 58, 3) := by decide +kernel
theorem dX7_catchFromBlock_8 : decode cX7_catchFromBlock 8 = .ok (.getfield 147, 3) := by decide +kernel
theorem dX7_catchFromBlock_11 : decode cX7_catchFromBlock 11 = .ok (.iload_n 1, 1) := by decide +kernel
theorem dX7_catchFromBlock_12 : decode cX7_catchFromBlock 12 = .ok (.aload_n 0, 1) := by decide +kernel
theorem dX7_catchFromBlock_13 : decode cX7_catchFromBlock 13 = .ok (.getfield 58, 3) := by decide +kernel
theorem dX7_catchFromBlock_16 : decode cX7_catchFromBlock 16 = .ok (.getfield 191, 3) := by decide +kernel
theorem dX7_catchFromBlock_19 : decode cX7_catchFromBlock 19 = .ok (.invokevirtual 116, 3) := by decide +kernel
theorem dX7_catchFromBlock_22 : decode cX7_catchFromBlock 22 = .ok (.aload_n 0, 1) := by decide +kernel
theorem dX7_catchFromBlock_23 : decode cX7_catchFromBlock 23 = .ok (.getfield 58, 3) := by decide +kernel
theorem dX7_catchFromBlock_26 : decode cX7_catchFromBlock 26 = .ok (.getfield 152, 3) := by decide +kernel
theorem dX7_catchFromBlock_29 : decode cX7_catchFromBlock 29 = .ok (.aload_n 0, 1) := by decide +kernel
theorem dX7_catchFromBlock_30 : decode cX7_catchFromBlock 30 = .ok (.getfield 26, 3) := by decide +kernel
theorem dX7_catchFromBlock_33 : decode cX7_catchFromBlock 33 = .ok (.invokevirtual 177, 3) := by decide +kernel
theorem dX7_catchFromBlock_36 : decode cX7_catchFromBlock 36 = .ok (.iconst 0, 1) := by decide +kernel
theorem dX7_catchFromBlock_37 : decode cX7_catchFromBlock 37 = .ok (.istore_n 2, 1) := by decide +kernel
theorem dX7_catchFromBlock_38 : decode cX7_catchFromBlock 38 = .ok (.iload_n 2, 1) := by decide +kernel
theorem dX7_catchFromBlock_39 : decode cX7_catchFromBlock 39 = .ok (.aload_n 0, 1) := by decide +kernel
theorem dX7_catchFromBlock_40 : decode cX7_catchFromBlock 40 = .ok (.getfield 58, 3) := by decide +kernel
theorem dX7_catchFromBlock_43 : decode cX7_catchFromBlock 43 = .ok (.getfield 148, 3) := by decide +kernel
theorem dX7_catchFromBlock_46 : decode cX7_catchFromBlock 46 = .ok (.if_icmp .ge 32, 3) := by decide +kernel
theorem dX7_catchFromBlock_49 : decode cX7_catchFromBlock 49 = .ok (.aload_n 0, 1) := by decide +kernel
theorem dX7_catchFromBlock_50 : decode cX7_catchFromBlock 50 = .ok (.getfield 58, 3) := by decide +kernel
theorem dX7_catchFromBlock_53 : decode cX7_catchFromBlock 53 = .ok (.getfield 152, 3) := by decide +kernel
theorem dX7_catchFromBlock_56 : decode cX7_catchFromBlock 56 = .ok (.iload_n 2, 1) := by decide +kernel
theorem dX7_catchFromBlock_57 : decode cX7_catchFromBlock 57 = .ok (.aload_n 0, 1) := by decide +kernel
theorem dX7_catchFromBlock_58 : decode cX7_catchFromBlock 58 = .ok (.getfield 51, 3) := by decide +kernel
theorem dX7_catchFromBlock_61 : decode cX7_catchFromBlock 61 = .ok (.aload_n 0, 1) := by decide +kernel
theorem dX7_catchFromBlock_62 : decode cX7_catchFromBlock 62 = .ok (.getfield 26, 3) := by decide +kernel
theorem dX7_catchFromBlock_65 : decode cX7_catchFromBlock 65 = .ok (.iload_n 2, 1) := by decide +kernel
theorem dX7_catchFromBlock_66 : decode cX7_catchFromBlock 66 = .ok (.invokevirtual 119, 3) := by decide +kernel
theorem dX7_catchFromBlock_69 : decode cX7_catchFromBlock 69 = .ok (.invokevirtual 185, 3) := by decide +kernel
theorem dX7_catchFromBlock_72 : decode cX7_catchFromBlock 72 = .ok (.iinc 2 1, 3) := by decide +kernel
theorem dX7_catchFromBlock_75 : decode cX7_catchFromBlock 75 = .ok (.goto (-37), 3) := by decide +kernel
theorem dX7_catchFromBlock_78 : decode cX7_catchFromBlock 78 = .ok (.aload_n 0, 1) := by decide +kernel
theorem dX7_catchFromBlock_79 : decode cX7_catchFromBlock 79 = .ok (.getfield 58, 3) := by decide +kernel
theorem dX7_catchFromBlock_82 : decode cX7_catchFromBlock 82 = .ok (.invokevirtual 192, 3) := by decide +kernel
theorem dX7_catchFromBlock_85 : decode cX7_catchFromBlock 85 = .ok (.ireturn, 1) := by decide +kernel
theorem dX7_catchFromTape_0 : decode cX7_catchFromTape 0 = .ok (.aload_n 0, 1) := by decide +kernel
theorem dX7_catchFromTape_1 : decode cX7_catchFromTape 1 = .ok (.getfield 26, 3) := by decide +kernel
theorem dX7_catchFromTape_4 : decode cX7_catchFromTape 4 = .ok (.aload_n 0, 1) := by decide +kernel
theorem dX7_catchFromTape_5 : decode cX7_catchFromTape 5 = .ok (.getfield 58, 3) := by decide +kernel
theorem dX7_catchFromTape_8 : decode cX7_catchFromTape 8 = .ok (.getfield 147, 3) := by decide +kernel
theorem dX7_catchFromTape_11 : decode cX7_catchFromTape 11 = .ok (.iload_n 1, 1) := by decide +kernel
theorem dX7_catchFromTape_12 : decode cX7_catchFromTape 12 = .ok (.aload_n 0, 1) := by decide +kernel
theorem dX7_catchFromTape_13 : decode cX7_catchFromTape 13 = .ok (.getfield 58, 3) := by decide +kernel
theorem dX7_catchFromTape_16 : decode cX7_catchFromTape 16 = .ok (.getfield 191, 3) := by decide +kernel
theorem dX7_catchFromTape_19 : decode cX7_catchFromTape 19 = .ok (.invokevirtual 116, 3) := by decide +kernel
theorem dX7_catchFromTape_22 : decode cX7_catchFromTape 22 = .ok (.aload_n 0, 1) := by decide +kernel
theorem dX7_catchFromTape_23 : decode cX7_catchFromTape 23 = .ok (.getfield 58, 3) := by decide +kernel
theorem dX7_catchFromTape_26 : decode cX7_catchFromTape 26 = .ok (.getfield 152, 3) := by decide +kernel
theorem dX7_catchFromTape_29 : decode cX7_catchFromTape 29 = .ok (.aload_n 0, 1) := by decide +kernel
theorem dX7_catchFromTape_30 : decode cX7_catchFromTape 30 = .ok (.getfield 26, 3) := by decide +kernel
theorem dX7_catchFromTape_33 : decode cX7_catchFromTape 33 = .ok (.invokevirtual 177, 3) := by decide +kernel
theorem dX7_catchFromTape_36 : decode cX7_catchFromTape 36 = .ok (.iconst 0, 1) := by decide +kernel
theorem dX7_catchFromTape_37 : decode cX7_catchFromTape 37 = .ok (.istore_n 2, 1) := by decide +kernel
theorem dX7_catchFromTape_38 : decode cX7_catchFromTape 38 = .ok (.iload_n 2, 1) := by decide +kernel
theorem dX7_catchFromTape_39 : decode cX7_catchFromTape 39 = .ok (.aload_n 0, 1) := by decide +kernel
theorem dX7_catchFromTape_40 : decode cX7_catchFromTape 40 = .ok (.getfield 58, 3) := by decide +kernel
theorem dX7_catchFromTape_43 : decode cX7_catchFromTape 43 = .ok (.getfield 148, 3) := by decide +kernel
theorem dX7_catchFromTape_46 : decode cX7_catchFromTape 46 = .ok (.if_icmp .ge 29, 3) := by decide +kernel
theorem dX7_catchFromTape_49 : decode cX7_catchFromTape 49 = .ok (.aload_n 0, 1) := by decide +kernel
theorem dX7_catchFromTape_50 : decode cX7_catchFromTape 50 = .ok (.getfield 58, 3) := by decide +kernel
theorem dX7_catchFromTape_53 : decode cX7_catchFromTape 53 = .ok (.getfield 152, 3) := by decide +kernel
theorem dX7_catchFromTape_56 : decode cX7_catchFromTape 56 = .ok (.iload_n 2, 1) := by decide +kernel
theorem dX7_catchFromTape_57 : decode cX7_catchFromTape 57 = .ok (.aload_n 0, 1) := by decide +kernel
theorem dX7_catchFromTape_58 : decode cX7_catchFromTape 58 = .ok (.getfield 19, 3) := by decide +kernel
theorem dX7_catchFromTape_61 : decode cX7_catchFromTape 61 = .ok (.getfield 181, 3) := by decide +kernel
theorem dX7_catchFromTape_64 : decode cX7_catchFromTape 64 = .ok (.iload_n 2, 1) := by decide +kernel
theorem dX7_catchFromTape_65 : decode cX7_catchFromTape 65 = .ok (.iaload, 1) := by decide +kernel
theorem dX7_catchFromTape_66 : decode cX7_catchFromTape 66 = .ok (.invokevirtual 185, 3) := by decide +kernel
theorem dX7_catchFromTape_69 : decode cX7_catchFromTape 69 = .ok (.iinc 2 1, 3) := by decide +kernel
theorem dX7_catchFromTape_72 : decode cX7_catchFromTape 72 = .ok (.goto (-34), 3) := by decide +kernel
theorem dX7_catchFromTape_75 : decode cX7_catchFromTape 75 = .ok (.aload_n 0, 1) := by decide +kernel
theorem dX7_catchFromTape_76 : decode cX7_catchFromTape 76 = .ok (.getfield 58, 3) := by decide +kernel
theorem dX7_catchFromTape_79 : decode cX7_catchFromTape 79 = .ok (.invokevirtual 192, 3) := by decide +kernel
theorem dX7_catchFromTape_82 : decode cX7_catchFromTape 82 = .ok (.ireturn, 1) := by decide +kernel
theorem dX7_catcherDerives_0 : decode cX7_catcherDerives 0 = .ok (.aload_n 0, 1) := by decide +kernel
theorem dX7_catcherDerives_1 : decode cX7_catcherDerives 1 = .ok (.getfield 26, 3) := by decide +kernel
theorem dX7_catcherDerives_4 : decode cX7_catcherDerives 4 = .ok (.aload_n 0, 1) := by decide +kernel
theorem dX7_catcherDerives_5 : decode cX7_catcherDerives 5 = .ok (.getfield 58, 3) := by decide +kernel
theorem dX7_catcherDerives_8 : decode cX7_catcherDerives 8 = .ok (.getfield 147, 3) := by decide +kernel
theorem dX7_catcherDerives_11 : decode cX7_catcherDerives 11 = .ok (.iload_n 1, 1) := by decide +kernel
theorem dX7_catcherDerives_12 : decode cX7_catcherDerives 12 = .ok (.aload_n 0, 1) := by decide +kernel
theorem dX7_catcherDerives_13 : decode cX7_catcherDerives 13 = .ok (.getfield 58, 3) := by decide +kernel
theorem dX7_catcherDerives_16 : decode cX7_catcherDerives 16 = .ok (.getfield 191, 3) := by decide +kernel
theorem dX7_catcherDerives_19 : decode cX7_catcherDerives 19 = .ok (.invokevirtual 116, 3) := by decide +kernel
theorem dX7_catcherDerives_22 : decode cX7_catcherDerives 22 = .ok (.aload_n 0, 1) := by decide +kernel
theorem dX7_catcherDerives_23 : decode cX7_catcherDerives 23 = .ok (.getfield 58, 3) := by decide +kernel
theorem dX7_catcherDerives_26 : decode cX7_catcherDerives 26 = .ok (.getfield 152, 3) := by decide +kernel
theorem dX7_catcherDerives_29 : decode cX7_catcherDerives 29 = .ok (.aload_n 0, 1) := by decide +kernel
theorem dX7_catcherDerives_30 : decode cX7_catcherDerives 30 = .ok (.getfield 26, 3) := by decide +kernel
theorem dX7_catcherDerives_33 : decode cX7_catcherDerives 33 = .ok (.invokevirtual 195, 3) := by decide +kernel
theorem dX7_catcherDerives_36 : decode cX7_catcherDerives 36 = .ok (.ireturn, 1) := by decide +kernel
theorem dX7_symbolsThatFollow_0 : decode cX7_symbolsThatFollow 0 = .ok (.iconst 0, 1) := by decide +kernel
theorem dX7_symbolsThatFollow_1 : decode cX7_symbolsThatFollow 1 = .ok (.istore_n 1, 1) := by decide +kernel
theorem dX7_symbolsThatFollow_2 : decode cX7_symbolsThatFollow 2 = .ok (.iconst 0, 1) := by decide +kernel
theorem dX7_symbolsThatFollow_3 : decode cX7_symbolsThatFollow 3 = .ok (.istore_n 2, 1) := by decide +kernel
theorem dX7_symbolsThatFollow_4 : decode cX7_symbolsThatFollow 4 = .ok (.iload_n 2, 1) := by decide +kernel
theorem dX7_symbolsThatFollow_5 : decode cX7_symbolsThatFollow 5 = .ok (.aload_n 0, 1) := by decide +kernel
theorem dX7_symbolsThatFollow_6 : decode cX7_symbolsThatFollow 6 = .ok (.getfield 58, 3) := by decide +kernel
theorem dX7_symbolsThatFollow_9 : decode cX7_symbolsThatFollow 9 = .ok (.getfield 147, 3) := by decide +kernel
theorem dX7_symbolsThatFollow_12 : decode cX7_symbolsThatFollow 12 = .ok (.if_icmp .ge 20, 3) := by decide +kernel
theorem dX7_symbolsThatFollow_15 : decode cX7_symbolsThatFollow 15 = .ok (.aload_n 0, 1) := by decide +kernel
theorem dX7_symbolsThatFollow_16 : decode cX7_symbolsThatFollow 16 = .ok (.iload_n 2, 1) := by decide +kernel
theorem dX7_symbolsThatFollow_17 : decode cX7_symbolsThatFollow 17 = .ok (.invokevirtual 158, 3) := by decide +kernel
theorem dX7_symbolsThatFollow_20 : decode cX7_symbolsThatFollow 20 = .ok (.ifCond .eq 6, 3) := by decide +kernel
theorem dX7_symbolsThatFollow_23 : decode cX7_symbolsThatFollow 23 = .ok (.iinc 1 1, 3) := by decide +kernel
theorem dX7_symbolsThatFollow_26 : decode cX7_symbolsThatFollow 26 = .ok (.iinc 2 1, 3) := by decide +kernel
theorem dX7_symbolsThatFollow_29 : decode cX7_symbolsThatFollow 29 = .ok (.goto (-25), 3) := by decide +kernel
theorem dX7_symbolsThatFollow_32 : decode cX7_symbolsThatFollow 32 = .ok (.iload_n 1, 1) := by decide +kernel
theorem dX7_symbolsThatFollow_33 : decode cX7_symbolsThatFollow 33 = .ok (.ireturn, 1) := by decide +kernel
