theorem dX8_init_0 : decode cX8_init 0 = .ok (.aload_n 0, 1) := by decide +kernel
theorem dX8_init_1 : decode cX8_init 1 = .ok (.invokespecial 1, 3) := by decide +kernel
theorem dX8_init_4 : decode cX8_init 4 = .ok (.aload_n 0, 1) := by decide +kernel
theorem dX8_init_5 : decode cX8_init 5 = .ok (.sipush 800, 3) := by decide +kernel
theorem dX8_init_8 : decode cX8_init 8 = .ok (.newarray .byte, 2) := by decide +kernel
theorem dX8_init_10 : decode cX8_init 10 = .ok (.putfield 7, 3) := by decide +kernel
theorem dX8_init_13 : decode cX8_init 13 = .ok (.aload_n 0, 1) := by decide +kernel
theorem dX8_init_14 : decode cX8_init 14 = .ok (.bipush 49, 2) := by decide +kernel
theorem dX8_init_16 : decode cX8_init 16 = .ok (.newarray .int, 2) := by decide +kernel
theorem dX8_init_18 : decode cX8_init 18 = .ok (.putfield 13, 3) := by decide +kernel
theorem dX8_init_21 : decode cX8_init 21 = .ok (.aload_n 0, 1) := by decide +kernel
theorem dX8_init_22 : decode cX8_init 22 = .ok (.sipush 944, 3) := by decide +kernel
theorem dX8_init_25 : decode cX8_init 25 = .ok (.newarray .int, 2) := by decide +kernel
theorem dX8_init_27 : decode cX8_init 27 = .ok (.putfield 17, 3) := by decide +kernel
theorem dX8_init_30 : decode cX8_init 30 = .ok (.aload_n 0, 1) := by decide +kernel
theorem dX8_init_31 : decode cX8_init 31 = .ok (.sipush 4425, 3) := by decide +kernel
theorem dX8_init_34 : decode cX8_init 34 = .ok (.newarray .int, 2) := by decide +kernel
theorem dX8_init_36 : decode cX8_init 36 = .ok (.putfield 20, 3) := by decide +kernel
theorem dX8_init_39 : decode cX8_init 39 = .ok (.aload_n 0, 1) := by decide +kernel
theorem dX8_init_40 : decode cX8_init 40 = .ok (.sipush 9000, 3) := by decide +kernel
theorem dX8_init_43 : decode cX8_init 43 = .ok (.newarray .int, 2) := by decide +kernel
theorem dX8_init_45 : decode cX8_init 45 = .ok (.putfield 23, 3) := by decide +kernel
theorem dX8_init_48 : decode cX8_init 48 = .ok (.aload_n 0, 1) := by decide +kernel
theorem dX8_init_49 : decode cX8_init 49 = .ok (.bipush 120, 2) := by decide +kernel
theorem dX8_init_51 : decode cX8_init 51 = .ok (.newarray .int, 2) := by decide +kernel
theorem dX8_init_53 : decode cX8_init 53 = .ok (.putfield 26, 3) := by decide +kernel
theorem dX8_init_56 : decode cX8_init 56 = .ok (.aload_n 0, 1) := by decide +kernel
theorem dX8_init_57 : decode cX8_init 57 = .ok (.bipush 75, 2) := by decide +kernel
theorem dX8_init_59 : decode cX8_init 59 = .ok (.newarray .int, 2) := by decide +kernel
theorem dX8_init_61 : decode cX8_init 61 = .ok (.putfield 29, 3) := by decide +kernel
theorem dX8_init_64 : decode cX8_init 64 = .ok (.aload_n 0, 1) := by decide +kernel
theorem dX8_init_65 : decode cX8_init 65 = .ok (.sipush 255, 3) := by decide +kernel
theorem dX8_init_68 : decode cX8_init 68 = .ok (.newarray .int, 2) := by decide +kernel
theorem dX8_init_70 : decode cX8_init 70 = .ok (.putfield 32, 3) := by decide +kernel
theorem dX8_init_73 : decode cX8_init 73 = .ok (.aload_n 0, 1) := by decide +kernel
theorem dX8_init_74 : decode cX8_init 74 = .ok (.bipush 16, 2) := by decide +kernel
theorem dX8_init_76 : decode cX8_init 76 = .ok (.newarray .int, 2) := by decide +kernel
theorem dX8_init_78 : decode cX8_init 78 = .ok (.putfield 35, 3) := by decide +kernel
theorem dX8_init_81 : decode cX8_init 81 = .ok (.iconst 0, 1) := by decide +kernel
theorem dX8_init_82 : decode cX8_init 82 = .ok (.istore_n 1, 1) := by decide +kernel
theorem dX8_init_83 : decode cX8_init 83 = .ok (.iload_n 1, 1) := by decide +kernel
theorem dX8_init_84 : decode cX8_init 84 = .ok (.bipush 48, 2) := by decide +kernel
theorem dX8_init_86 : decode cX8_init 86 = .ok (.if_icmp .gt 16, 3) := by decide +kernel
theorem dX8_init_89 : decode cX8_init 89 = .ok (.aload_n 0, 1) := by decide +kernel
theorem dX8_init_90 : decode cX8_init 90 = .ok (.getfield 13, 3) := by decide +kernel
theorem dX8_init_93 : decode cX8_init 93 = .ok (.iload_n 1, 1) := by decide +kernel
theorem dX8_init_94 : decode cX8_init 94 = .ok (.iconst (-1), 1) := by decide +kernel
theorem dX8_init_95 : decode cX8_init 95 = .ok (.iastore, 1) := by decide +kernel
theorem dX8_init_96 : decode cX8_init 96 = .ok (.iinc 1 1, 3) := by decide +kernel
theorem dX8_init_99 : decode cX8_init 99 = .ok (.goto (-16), 3) := by decide +kernel
theorem dX8_init_102 : decode cX8_init 102 = .ok (.iconst 1, 1) := by decide +kernel
theorem dX8_init_103 : decode cX8_init 103 = .ok (.istore_n 1, 1) := by decide +kernel
theorem dX8_init_104 : decode cX8_init 104 = .ok (.iconst 0, 1) := by decide +kernel
theorem dX8_init_105 : decode cX8_init 105 = .ok (.istore_n 2, 1) := by decide +kernel
theorem dX8_init_106 : decode cX8_init 106 = .ok (.iload_n 2, 1) := by decide +kernel
theorem dX8_init_107 : decode cX8_init 107 = .ok (.sipush 255, 3) := by decide +kernel
theorem dX8_init_110 : decode cX8_init 110 = .ok (.if_icmp .ge 22, 3) := by decide +kernel
theorem dX8_init_113 : decode cX8_init 113 = .ok (.aload_n 0, 1) := by decide +kernel
theorem dX8_init_114 : decode cX8_init 114 = .ok (.getfield 32, 3) := by decide +kernel
theorem dX8_init_117 : decode cX8_init 117 = .ok (.iload_n 2, 1) := by decide +kernel
theorem dX8_init_118 : decode cX8_init 118 = .ok (.iload_n 1, 1) := by decide +kernel
theorem dX8_init_119 : decode cX8_init 119 = .ok (.iastore, 1) := by decide +kernel
theorem dX8_init_120 : decode cX8_init 120 = .ok (.iload_n 1, 1) := by decide +kernel
theorem dX8_init_121 : decode cX8_init 121 = .ok (.iconst 2, 1) := by decide +kernel
theorem dX8_init_122 : decode cX8_init 122 = .ok (.invokestatic 38, 3) := by decide +kernel
theorem dX8_init_125 : decode cX8_init 125 = .ok (.istore_n 1, 1) := by decide +kernel
theorem dX8_init_126 : decode cX8_init 126 = .ok (.iinc 2 1, 3) := by decide +kernel
theorem dX8_init_129 : decode cX8_init 129 = .ok (.goto (-23), 3) := by decide +kernel
theorem dX8_init_132 : decode cX8_init 132 = .ok (.return_, 1) := by decide +kernel
theorem dX8_thrown_0 : decode cX8_thrown 0 = .ok (.aload_n 0, 1) := by decide +kernel
theorem dX8_thrown_1 : decode cX8_thrown 1 = .ok (.getfield 42, 3) := by decide +kernel
theorem dX8_thrown_4 : decode cX8_thrown 4 = .ok (.ireturn, 1) := by decide +kernel
theorem dX8_feed_0 : decode cX8_feed 0 = .ok (.aload_n 0, 1) := by decide +kernel
theorem dX8_feed_1 : decode cX8_feed 1 = .ok (.aload_n 0, 1) := by decide +kernel
theorem dX8_feed_2 : decode cX8_feed 2 = .ok (.getfield 46, 3) := by decide +kernel
theorem dX8_feed_5 : decode cX8_feed 5 = .ok (.bipush 20, 2) := by decide +kernel
theorem dX8_feed_7 : decode cX8_feed 7 = .ok (.iadd, 1) := by decide +kernel
theorem dX8_feed_8 : decode cX8_feed 8 = .ok (.sipush 800, 3) := by decide +kernel
theorem dX8_feed_11 : decode cX8_feed 11 = .ok (.if_icmp .le 7, 3) := by decide +kernel
theorem dX8_feed_14 : decode cX8_feed 14 = .ok (.iconst 1, 1) := by decide +kernel
theorem dX8_feed_15 : decode cX8_feed 15 = .ok (.goto 4, 3) := by decide +kernel
theorem dX8_feed_18 : decode cX8_feed 18 = .ok (.iconst 0, 1) := by decide +kernel
theorem dX8_feed_19 : decode cX8_feed 19 = .ok (.putfield 42, 3) := by decide +kernel
theorem dX8_feed_22 : decode cX8_feed 22 = .ok (.aload_n 0, 1) := by decide +kernel
theorem dX8_feed_23 : decode cX8_feed 23 = .ok (.getfield 42, 3) := by decide +kernel
theorem dX8_feed_26 : decode cX8_feed 26 = .ok (.ifCond .le 5, 3) := by decide +kernel
theorem dX8_feed_29 : decode cX8_feed 29 = .ok (.iconst 0, 1) := by decide +kernel
theorem dX8_feed_30 : decode cX8_feed 30 = .ok (.ireturn, 1) := by decide +kernel
theorem dX8_feed_31 : decode cX8_feed 31 = .ok (.iconst 0, 1) := by decide +kernel
theorem dX8_feed_32 : decode cX8_feed 32 = .ok (.istore 6, 2) := by decide +kernel
theorem dX8_feed_34 : decode cX8_feed 34 = .ok (.iload 6, 2) := by decide +kernel
theorem dX8_feed_36 : decode cX8_feed 36 = .ok (.bipush 20, 2) := by decide +kernel
theorem dX8_feed_38 : decode cX8_feed 38 = .ok (.if_icmp .ge 90, 3) := by decide +kernel
theorem dX8_feed_41 : decode cX8_feed 41 = .ok (.iload 6, 2) := by decide +kernel
theorem dX8_feed_43 : decode cX8_feed 43 = .ok (.iconst 4, 1) := by decide +kernel
theorem dX8_feed_44 : decode cX8_feed 44 = .ok (.if_icmp .ge 7, 3) := by decide +kernel
theorem dX8_feed_47 : decode cX8_feed 47 = .ok (.iload_n 1, 1) := by decide +kernel
theorem dX8_feed_48 : decode cX8_feed 48 = .ok (.goto 39, 3) := by decide +kernel
theorem dX8_feed_51 : decode cX8_feed 51 = .ok (.iload 6, 2) := by decide +kernel
theorem dX8_feed_53 : decode cX8_feed 53 = .ok (.bipush 8, 2) := by decide +kernel
theorem dX8_feed_55 : decode cX8_feed 55 = .ok (.if_icmp .ge 7, 3) := by decide +kernel
theorem dX8_feed_58 : decode cX8_feed 58 = .ok (.iload_n 2, 1) := by decide +kernel
theorem dX8_feed_59 : decode cX8_feed 59 = .ok (.goto 28, 3) := by decide +kernel
theorem dX8_feed_62 : decode cX8_feed 62 = .ok (.iload 6, 2) := by decide +kernel
theorem dX8_feed_64 : decode cX8_feed 64 = .ok (.bipush 12, 2) := by decide +kernel
theorem dX8_feed_66 : decode cX8_feed 66 = .ok (.if_icmp .ge 7, 3) := by decide +kernel
theorem dX8_feed_69 : decode cX8_feed 69 = .ok (.iload_n 3, 1) := by decide +kernel
theorem dX8_feed_70 : decode cX8_feed 70 = .ok (.goto 17, 3) := by decide +kernel
theorem dX8_feed_73 : decode cX8_feed 73 = .ok (.iload 6, 2) := by decide +kernel
theorem dX8_feed_75 : decode cX8_feed 75 = .ok (.bipush 16, 2) := by decide +kernel
theorem dX8_feed_77 : decode cX8_feed 77 = .ok (.if_icmp .ge 8, 3) := by decide +kernel
theorem dX8_feed_80 : decode cX8_feed 80 = .ok (.iload 4, 2) := by decide +kernel
theorem dX8_feed_82 : decode cX8_feed 82 = .ok (.goto 5, 3) := by decide +kernel
theorem dX8_feed_85 : decode cX8_feed 85 = .ok (.iload 5, 2) := by decide +kernel
theorem dX8_feed_87 : decode cX8_feed 87 = .ok (.istore 7, 2) := by decide +kernel
theorem dX8_feed_89 : decode cX8_feed 89 = .ok (.aload_n 0, 1) := by decide +kernel
theorem dX8_feed_90 : decode cX8_feed 90 = .ok (.getfield 7, 3) := by decide +kernel
theorem dX8_feed_93 : decode cX8_feed 93 = .ok (.aload_n 0, 1) := by decide +kernel
theorem dX8_feed_94 : decode cX8_feed 94 = .ok (.getfield 46, 3) := by decide +kernel
theorem dX8_feed_97 : decode cX8_feed 97 = .ok (.iload 7, 2) := by decide +kernel
theorem dX8_feed_99 : decode cX8_feed 99 = .ok (.bipush 24, 2) := by decide +kernel
theorem dX8_feed_101 : decode cX8_feed 101 = .ok (.bipush 8, 2) := by decide +kernel
theorem dX8_feed_103 : decode cX8_feed 103 = .ok (.iload 6, 2) := by decide +kernel
theorem dX8_feed_105 : decode cX8_feed 105 = .ok (.iconst 4, 1) := by decide +kernel
theorem dX8_feed_106 : decode cX8_feed 106 = .ok (.irem, 1) := by decide +kernel
theorem dX8_feed_107 : decode cX8_feed 107 = .ok (.imul, 1) := by decide +kernel
theorem dX8_feed_108 : decode cX8_feed 108 = .ok (.isub, 1) := by decide +kernel
theorem dX8_feed_109 : decode cX8_feed 109 = .ok (.ishr, 1) := by decide +kernel
theorem dX8_feed_110 : decode cX8_feed 110 = .ok (.i2b, 1) := by decide +kernel
theorem dX8_feed_111 : decode cX8_feed 111 = .ok (.bastore, 1) := by decide +kernel
theorem dX8_feed_112 : decode cX8_feed 112 = .ok (.aload_n 0, 1) := by decide +kernel
theorem dX8_feed_113 : decode cX8_feed 113 = .ok (.dup, 1) := by decide +kernel
theorem dX8_feed_114 : decode cX8_feed 114 = .ok (.getfield 46, 3) := by decide +kernel
theorem dX8_feed_117 : decode cX8_feed 117 = .ok (.iconst 1, 1) := by decide +kernel
theorem dX8_feed_118 : decode cX8_feed 118 = .ok (.iadd, 1) := by decide +kernel
theorem dX8_feed_119 : decode cX8_feed 119 = .ok (.putfield 46, 3) := by decide +kernel
theorem dX8_feed_122 : decode cX8_feed 122 = .ok (.iinc 6 1, 3) := by decide +kernel
theorem dX8_feed_125 : decode cX8_feed 125 = .ok (.goto (-91), 3) := by decide +kernel
theorem dX8_feed_128 : decode cX8_feed 128 = .ok (.aload_n 0, 1) := by decide +kernel
theorem dX8_feed_129 : decode cX8_feed 129 = .ok (.getfield 46, 3) := by decide +kernel
theorem dX8_feed_132 : decode cX8_feed 132 = .ok (.ireturn, 1) := by decide +kernel
theorem dX8_end_0 : decode cX8_end 0 = .ok (.aload_n 0, 1) := by decide +kernel
theorem dX8_end_1 : decode cX8_end 1 = .ok (.iload_n 1, 1) := by decide +kernel
theorem dX8_end_2 : decode cX8_end 2 = .ok (.ifCond .lt 11, 3) := by decide +kernel
theorem dX8_end_5 : decode cX8_end 5 = .ok (.iload_n 1, 1) := by decide +kernel
theorem dX8_end_6 : decode cX8_end 6 = .ok (.aload_n 0, 1) := by decide +kernel
theorem dX8_end_7 : decode cX8_end 7 = .ok (.getfield 46, 3) := by decide +kernel
theorem dX8_end_10 : decode cX8_end 10 = .ok (.if_icmp .le 7, 3) := by decide +kernel
theorem dX8_end_13 : decode cX8_end 13 = .ok (.iconst 1, 1) := by decide +kernel
theorem dX8_end_14 : decode cX8_end 14 = .ok (.goto 4, 3) := by decide +kernel
theorem dX8_end_17 : decode cX8_end 17 = .ok (.iconst 0, 1) := by decide +kernel
theorem dX8_end_18 : decode cX8_end 18 = .ok (.putfield 42, 3) := by decide +kernel
theorem dX8_end_21 : decode cX8_end 21 = .ok (.aload_n 0, 1) := by decide +kernel
theorem dX8_end_22 : decode cX8_end 22 = .ok (.aload_n 0, 1) := by decide +kernel
theorem dX8_end_23 : decode cX8_end 23 = .ok (.getfield 42, 3) := by decide +kernel
theorem dX8_end_26 : decode cX8_end 26 = .ok (.ifCond .ne 7, 3) := by decide +kernel
theorem dX8_end_29 : decode cX8_end 29 = .ok (.iload_n 1, 1) := by decide +kernel
theorem dX8_end_30 : decode cX8_end 30 = .ok (.goto 7, 3) := by decide +kernel
theorem dX8_end_33 : decode cX8_end 33 = .ok (.aload_n 0, 1) := by decide +kernel
theorem dX8_end_34 : decode cX8_end 34 = .ok (.getfield 46, 3) := by decide +kernel
theorem dX8_end_37 : decode cX8_end 37 = .ok (.putfield 46, 3) := by decide +kernel
theorem dX8_end_40 : decode cX8_end 40 = .ok (.return_, 1) := by decide +kernel
theorem dX8_times_0 : decode cX8_times 0 = .ok (.iconst 0, 1) := by decide +kernel
theorem dX8_times_1 : decode cX8_times 1 = .ok (.istore_n 2, 1) := by decide +kernel
theorem dX8_times_2 : decode cX8_times 2 = .ok (.iload_n 0, 1) := by decide +kernel
theorem dX8_times_3 : decode cX8_times 3 = .ok (.istore_n 3, 1) := by decide +kernel
theorem dX8_times_4 : decode cX8_times 4 = .ok (.iconst 0, 1) := by decide +kernel
theorem dX8_times_5 : decode cX8_times 5 = .ok (.istore 4, 2) := by decide +kernel
theorem dX8_times_7 : decode cX8_times 7 = .ok (.iload 4, 2) := by decide +kernel
theorem dX8_times_9 : decode cX8_times 9 = .ok (.bipush 8, 2) := by decide +kernel
theorem dX8_times_11 : decode cX8_times 11 = .ok (.if_icmp .ge 48, 3) := by decide +kernel
theorem dX8_times_14 : decode cX8_times 14 = .ok (.iload_n 2, 1) := by decide +kernel
theorem dX8_times_15 : decode cX8_times 15 = .ok (.iload_n 1, 1) := by decide +kernel
theorem dX8_times_16 : decode cX8_times 16 = .ok (.iload 4, 2) := by decide +kernel
theorem dX8_times_18 : decode cX8_times 18 = .ok (.ishr, 1) := by decide +kernel
theorem dX8_times_19 : decode cX8_times 19 = .ok (.iconst 1, 1) := by decide +kernel
theorem dX8_times_20 : decode cX8_times 20 = .ok (.iand, 1) := by decide +kernel
theorem dX8_times_21 : decode cX8_times 21 = .ok (.iconst 1, 1) := by decide +kernel
theorem dX8_times_22 : decode cX8_times 22 = .ok (.if_icmp .ne 7, 3) := by decide +kernel
theorem dX8_times_25 : decode cX8_times 25 = .ok (.iload_n 3, 1) := by decide +kernel
theorem dX8_times_26 : decode cX8_times 26 = .ok (.goto 4, 3) := by decide +kernel
theorem dX8_times_29 : decode cX8_times 29 = .ok (.iconst 0, 1) := by decide +kernel
theorem dX8_times_30 : decode cX8_times 30 = .ok (.ixor, 1) := by decide +kernel
theorem dX8_times_31 : decode cX8_times 31 = .ok (.istore_n 2, 1) := by decide +kernel
theorem dX8_times_32 : decode cX8_times 32 = .ok (.iload_n 3, 1) := by decide +kernel
theorem dX8_times_33 : decode cX8_times 33 = .ok (.sipush 128, 3) := by decide +kernel
theorem dX8_times_36 : decode cX8_times 36 = .ok (.if_icmp .ge 9, 3) := by decide +kernel
theorem dX8_times_39 : decode cX8_times 39 = .ok (.iconst 2, 1) := by decide +kernel
theorem dX8_times_40 : decode cX8_times 40 = .ok (.iload_n 3, 1) := by decide +kernel
theorem dX8_times_41 : decode cX8_times 41 = .ok (.imul, 1) := by decide +kernel
theorem dX8_times_42 : decode cX8_times 42 = .ok (.goto 10, 3) := by decide +kernel
theorem dX8_times_45 : decode cX8_times 45 = .ok (.iconst 2, 1) := by decide +kernel
theorem dX8_times_46 : decode cX8_times 46 = .ok (.iload_n 3, 1) := by decide +kernel
theorem dX8_times_47 : decode cX8_times 47 = .ok (.imul, 1) := by decide +kernel
theorem dX8_times_48 : decode cX8_times 48 = .ok (.sipush 285, 3) := by decide +kernel
theorem dX8_times_51 : decode cX8_times 51 = .ok (.ixor, 1) := by decide +kernel
theorem dX8_times_52 : decode cX8_times 52 = .ok (.istore_n 3, 1) := by decide +kernel
theorem dX8_times_53 : decode cX8_times 53 = .ok (.iinc 4 1, 3) := by decide +kernel
theorem dX8_times_56 : decode cX8_times 56 = .ok (.goto (-49), 3) := by decide +kernel
theorem dX8_times_59 : decode cX8_times 59 = .ok (.iload_n 2, 1) := by decide +kernel
theorem dX8_times_60 : decode cX8_times 60 = .ok (.ireturn, 1) := by decide +kernel
theorem dX8_inverse_0 : decode cX8_inverse 0 = .ok (.iconst 1, 1) := by decide +kernel
theorem dX8_inverse_1 : decode cX8_inverse 1 = .ok (.istore_n 1, 1) := by decide +kernel
theorem dX8_inverse_2 : decode cX8_inverse 2 = .ok (.iload_n 0, 1) := by decide +kernel
theorem dX8_inverse_3 : decode cX8_inverse 3 = .ok (.iload_n 1, 1) := by decide +kernel
theorem dX8_inverse_4 : decode cX8_inverse 4 = .ok (.invokestatic 38, 3) := by decide +kernel
theorem dX8_inverse_7 : decode cX8_inverse 7 = .ok (.iconst 1, 1) := by decide +kernel
theorem dX8_inverse_8 : decode cX8_inverse 8 = .ok (.if_icmp .eq 9, 3) := by decide +kernel
theorem dX8_inverse_11 : decode cX8_inverse 11 = .ok (.iinc 1 1, 3) := by decide +kernel
theorem dX8_inverse_14 : decode cX8_inverse 14 = .ok (.goto (-12), 3) := by decide +kernel
theorem dX8_inverse_17 : decode cX8_inverse 17 = .ok (.iload_n 1, 1) := by decide +kernel
theorem dX8_inverse_18 : decode cX8_inverse 18 = .ok (.ireturn, 1) := by decide +kernel
theorem dX8_power_0 : decode cX8_power 0 = .ok (.aload_n 0, 1) := by decide +kernel
theorem dX8_power_1 : decode cX8_power 1 = .ok (.getfield 32, 3) := by decide +kernel
theorem dX8_power_4 : decode cX8_power 4 = .ok (.iload_n 1, 1) := by decide +kernel
theorem dX8_power_5 : decode cX8_power 5 = .ok (.sipush 255, 3) := by decide +kernel
theorem dX8_power_8 : decode cX8_power 8 = .ok (.irem, 1) := by decide +kernel
theorem dX8_power_9 : decode cX8_power 9 = .ok (.iaload, 1) := by decide +kernel
theorem dX8_power_10 : decode cX8_power 10 = .ok (.ireturn, 1) := by decide +kernel
theorem dX8_chance_0 : decode cX8_chance 0 = .ok (.lload_n 0, 1) := by decide +kernel
theorem dX8_chance_1 : decode cX8_chance 1 = .ok (.iload_n 2, 1) := by decide +kernel
theorem dX8_chance_2 : decode cX8_chance 2 = .ok (.i2l, 1) := by decide +kernel
theorem dX8_chance_3 : decode cX8_chance 3 = .ok (.lconst 1, 1) := by decide +kernel
theorem dX8_chance_4 : decode cX8_chance 4 = .ok (.ladd, 1) := by decide +kernel
theorem dX8_chance_5 : decode cX8_chance 5 = .ok (.ldc2_w 49, 3) := by decide +kernel
theorem dX8_chance_8 : decode cX8_chance 8 = .ok (.lmul, 1) := by decide +kernel
theorem dX8_chance_9 : decode cX8_chance 9 = .ok (.ladd, 1) := by decide +kernel
theorem dX8_chance_10 : decode cX8_chance 10 = .ok (.lstore 4, 2) := by decide +kernel
theorem dX8_chance_12 : decode cX8_chance 12 = .ok (.lload 4, 2) := by decide +kernel
theorem dX8_chance_14 : decode cX8_chance 14 = .ok (.lload 4, 2) := by decide +kernel
theorem dX8_chance_16 : decode cX8_chance 16 = .ok (.bipush 30, 2) := by decide +kernel
theorem dX8_chance_18 : decode cX8_chance 18 = .ok (.lushr, 1) := by decide +kernel
theorem dX8_chance_19 : decode cX8_chance 19 = .ok (.lxor, 1) := by decide +kernel
theorem dX8_chance_20 : decode cX8_chance 20 = .ok (.ldc2_w 51, 3) := by decide +kernel
theorem dX8_chance_23 : decode cX8_chance 23 = .ok (.lmul, 1) := by decide +kernel
theorem dX8_chance_24 : decode cX8_chance 24 = .ok (.lstore 4, 2) := by decide +kernel
theorem dX8_chance_26 : decode cX8_chance 26 = .ok (.lload 4, 2) := by decide +kernel
theorem dX8_chance_28 : decode cX8_chance 28 = .ok (.lload 4, 2) := by decide +kernel
theorem dX8_chance_30 : decode cX8_chance 30 = .ok (.bipush 27, 2) := by decide +kernel
theorem dX8_chance_32 : decode cX8_chance 32 = .ok (.lushr, 1) := by decide +kernel
theorem dX8_chance_33 : decode cX8_chance 33 = .ok (.lxor, 1) := by decide +kernel
theorem dX8_chance_34 : decode cX8_chance 34 = .ok (.ldc2_w 53, 3) := by decide +kernel
theorem dX8_chance_37 : decode cX8_chance 37 = .ok (.lmul, 1) := by decide +kernel
theorem dX8_chance_38 : decode cX8_chance 38 = .ok (.lstore 4, 2) := by decide +kernel
theorem dX8_chance_40 : decode cX8_chance 40 = .ok (.lload 4, 2) := by decide +kernel
theorem dX8_chance_42 : decode cX8_chance 42 = .ok (.lload 4, 2) := by decide +kernel
theorem dX8_chance_44 : decode cX8_chance 44 = .ok (.bipush 31, 2) := by decide +kernel
theorem dX8_chance_46 : decode cX8_chance 46 = .ok (.lushr, 1) := by decide +kernel
theorem dX8_chance_47 : decode cX8_chance 47 = .ok (.lxor, 1) := by decide +kernel
theorem dX8_chance_48 : decode cX8_chance 48 = .ok (.lstore 4, 2) := by decide +kernel
theorem dX8_chance_50 : decode cX8_chance 50 = .ok (.lload 4, 2) := by decide +kernel
theorem dX8_chance_52 : decode cX8_chance 52 = .ok (.bipush 32, 2) := by decide +kernel
theorem dX8_chance_54 : decode cX8_chance 54 = .ok (.lushr, 1) := by decide +kernel
theorem dX8_chance_55 : decode cX8_chance 55 = .ok (.iload_n 3, 1) := by decide +kernel
theorem dX8_chance_56 : decode cX8_chance 56 = .ok (.i2l, 1) := by decide +kernel
theorem dX8_chance_57 : decode cX8_chance 57 = .ok (.lrem, 1) := by decide +kernel
theorem dX8_chance_58 : decode cX8_chance 58 = .ok (.l2i, 1) := by decide +kernel
theorem dX8_chance_59 : decode cX8_chance 59 = .ok (.ireturn, 1) := by decide +kernel
theorem dX8_blank_0 : decode cX8_blank 0 = .ok (.iconst 0, 1) := by decide +kernel
theorem dX8_blank_1 : decode cX8_blank 1 = .ok (.istore_n 1, 1) := by decide +kernel
theorem dX8_blank_2 : decode cX8_blank 2 = .ok (.iload_n 1, 1) := by decide +kernel
theorem dX8_blank_3 : decode cX8_blank 3 = .ok (.bipush 75, 2) := by decide +kernel
theorem dX8_blank_5 : decode cX8_blank 5 = .ok (.if_icmp .ge 16, 3) := by decide +kernel
theorem dX8_blank_8 : decode cX8_blank 8 = .ok (.aload_n 0, 1) := by decide +kernel
theorem dX8_blank_9 : decode cX8_blank 9 = .ok (.getfield 29, 3) := by decide +kernel
theorem dX8_blank_12 : decode cX8_blank 12 = .ok (.iload_n 1, 1) := by decide +kernel
theorem dX8_blank_13 : decode cX8_blank 13 = .ok (.iconst 0, 1) := by decide +kernel
theorem dX8_blank_14 : decode cX8_blank 14 = .ok (.iastore, 1) := by decide +kernel
theorem dX8_blank_15 : decode cX8_blank 15 = .ok (.iinc 1 1, 3) := by decide +kernel
theorem dX8_blank_18 : decode cX8_blank 18 = .ok (.goto (-16), 3) := by decide +kernel
theorem dX8_blank_21 : decode cX8_blank 21 = .ok (.return_, 1) := by decide +kernel
theorem dX8_fixed_0 : decode cX8_fixed 0 = .ok (.aload_n 0, 1) := by decide +kernel
theorem dX8_fixed_1 : decode cX8_fixed 1 = .ok (.invokevirtual 55, 3) := by decide +kernel
theorem dX8_fixed_4 : decode cX8_fixed 4 = .ok (.aload_n 0, 1) := by decide +kernel
theorem dX8_fixed_5 : decode cX8_fixed 5 = .ok (.getfield 29, 3) := by decide +kernel
theorem dX8_fixed_8 : decode cX8_fixed 8 = .ok (.iload_n 1, 1) := by decide +kernel
theorem dX8_fixed_9 : decode cX8_fixed 9 = .ok (.iload_n 2, 1) := by decide +kernel
theorem dX8_fixed_10 : decode cX8_fixed 10 = .ok (.iadd, 1) := by decide +kernel
theorem dX8_fixed_11 : decode cX8_fixed 11 = .ok (.iconst 1, 1) := by decide +kernel
theorem dX8_fixed_12 : decode cX8_fixed 12 = .ok (.iastore, 1) := by decide +kernel
theorem dX8_fixed_13 : decode cX8_fixed 13 = .ok (.iload_n 2, 1) := by decide +kernel
theorem dX8_fixed_14 : decode cX8_fixed 14 = .ok (.bipush 7, 2) := by decide +kernel
theorem dX8_fixed_16 : decode cX8_fixed 16 = .ok (.if_icmp .lt 36, 3) := by decide +kernel
theorem dX8_fixed_19 : decode cX8_fixed 19 = .ok (.iconst 0, 1) := by decide +kernel
theorem dX8_fixed_20 : decode cX8_fixed 20 = .ok (.istore_n 3, 1) := by decide +kernel
theorem dX8_fixed_21 : decode cX8_fixed 21 = .ok (.iload_n 3, 1) := by decide +kernel
theorem dX8_fixed_22 : decode cX8_fixed 22 = .ok (.iload_n 1, 1) := by decide +kernel
theorem dX8_fixed_23 : decode cX8_fixed 23 = .ok (.bipush 7, 2) := by decide +kernel
theorem dX8_fixed_25 : decode cX8_fixed 25 = .ok (.iadd, 1) := by decide +kernel
theorem dX8_fixed_26 : decode cX8_fixed 26 = .ok (.if_icmp .ge 25, 3) := by decide +kernel
theorem dX8_fixed_29 : decode cX8_fixed 29 = .ok (.aload_n 0, 1) := by decide +kernel
theorem dX8_fixed_30 : decode cX8_fixed 30 = .ok (.getfield 29, 3) := by decide +kernel
theorem dX8_fixed_33 : decode cX8_fixed 33 = .ok (.iload_n 3, 1) := by decide +kernel
theorem dX8_fixed_34 : decode cX8_fixed 34 = .ok (.aload_n 0, 1) := by decide +kernel
theorem dX8_fixed_35 : decode cX8_fixed 35 = .ok (.iload_n 3, 1) := by decide +kernel
theorem dX8_fixed_36 : decode cX8_fixed 36 = .ok (.iload_n 2, 1) := by decide +kernel
theorem dX8_fixed_37 : decode cX8_fixed 37 = .ok (.bipush 6, 2) := by decide +kernel
theorem dX8_fixed_39 : decode cX8_fixed 39 = .ok (.isub, 1) := by decide +kernel
theorem dX8_fixed_40 : decode cX8_fixed 40 = .ok (.imul, 1) := by decide +kernel
theorem dX8_fixed_41 : decode cX8_fixed 41 = .ok (.invokevirtual 58, 3) := by decide +kernel
theorem dX8_fixed_44 : decode cX8_fixed 44 = .ok (.iastore, 1) := by decide +kernel
theorem dX8_fixed_45 : decode cX8_fixed 45 = .ok (.iinc 3 1, 3) := by decide +kernel
theorem dX8_fixed_48 : decode cX8_fixed 48 = .ok (.goto (-27), 3) := by decide +kernel
theorem dX8_fixed_51 : decode cX8_fixed 51 = .ok (.return_, 1) := by decide +kernel
theorem dX8_fixed_52 : decode cX8_fixed 52 = .ok (.iconst 0, 1) := by decide +kernel
theorem dX8_fixed_53 : decode cX8_fixed 53 = .ok (.istore_n 3, 1) := by decide +kernel
theorem dX8_fixed_54 : decode cX8_fixed 54 = .ok (.iload_n 3, 1) := by decide +kernel
theorem dX8_fixed_55 : decode cX8_fixed 55 = .ok (.iload_n 1, 1) := by decide +kernel
theorem dX8_fixed_56 : decode cX8_fixed 56 = .ok (.if_icmp .ge 63, 3) := by decide +kernel
theorem dX8_fixed_59 : decode cX8_fixed 59 = .ok (.iconst 1, 1) := by decide +kernel
theorem dX8_fixed_60 : decode cX8_fixed 60 = .ok (.iload_n 3, 1) := by decide +kernel
theorem dX8_fixed_61 : decode cX8_fixed 61 = .ok (.bipush 7, 2) := by decide +kernel
theorem dX8_fixed_63 : decode cX8_fixed 63 = .ok (.idiv, 1) := by decide +kernel
theorem dX8_fixed_64 : decode cX8_fixed 64 = .ok (.bipush 6, 2) := by decide +kernel
theorem dX8_fixed_66 : decode cX8_fixed 66 = .ok (.irem, 1) := by decide +kernel
theorem dX8_fixed_67 : decode cX8_fixed 67 = .ok (.iadd, 1) := by decide +kernel
theorem dX8_fixed_68 : decode cX8_fixed 68 = .ok (.istore 4, 2) := by decide +kernel
theorem dX8_fixed_70 : decode cX8_fixed 70 = .ok (.aload_n 0, 1) := by decide +kernel
theorem dX8_fixed_71 : decode cX8_fixed 71 = .ok (.getfield 29, 3) := by decide +kernel
theorem dX8_fixed_74 : decode cX8_fixed 74 = .ok (.iload_n 3, 1) := by decide +kernel
theorem dX8_fixed_75 : decode cX8_fixed 75 = .ok (.iload_n 3, 1) := by decide +kernel
theorem dX8_fixed_76 : decode cX8_fixed 76 = .ok (.bipush 7, 2) := by decide +kernel
theorem dX8_fixed_78 : decode cX8_fixed 78 = .ok (.irem, 1) := by decide +kernel
theorem dX8_fixed_79 : decode cX8_fixed 79 = .ok (.iload_n 2, 1) := by decide +kernel
theorem dX8_fixed_80 : decode cX8_fixed 80 = .ok (.if_icmp .eq 27, 3) := by decide +kernel
theorem dX8_fixed_83 : decode cX8_fixed 83 = .ok (.iload_n 3, 1) := by decide +kernel
theorem dX8_fixed_84 : decode cX8_fixed 84 = .ok (.iload 4, 2) := by decide +kernel
theorem dX8_fixed_86 : decode cX8_fixed 86 = .ok (.iadd, 1) := by decide +kernel
theorem dX8_fixed_87 : decode cX8_fixed 87 = .ok (.bipush 7, 2) := by decide +kernel
theorem dX8_fixed_89 : decode cX8_fixed 89 = .ok (.irem, 1) := by decide +kernel
theorem dX8_fixed_90 : decode cX8_fixed 90 = .ok (.iload_n 2, 1) := by decide +kernel
theorem dX8_fixed_91 : decode cX8_fixed 91 = .ok (.if_icmp .eq 16, 3) := by decide +kernel
theorem dX8_fixed_94 : decode cX8_fixed 94 = .ok (.iload_n 3, 1) := by decide +kernel
theorem dX8_fixed_95 : decode cX8_fixed 95 = .ok (.iconst 2, 1) := by decide +kernel
theorem dX8_fixed_96 : decode cX8_fixed 96 = .ok (.iload 4, 2) := by decide +kernel
theorem dX8_fixed_98 : decode cX8_fixed 98 = .ok (.imul, 1) := by decide +kernel
theorem dX8_fixed_99 : decode cX8_fixed 99 = .ok (.iadd, 1) := by decide +kernel
theorem dX8_fixed_100 : decode cX8_fixed 100 = .ok (.bipush 7, 2) := by decide +kernel
theorem dX8_fixed_102 : decode cX8_fixed 102 = .ok (.irem, 1) := by decide +kernel
theorem dX8_fixed_103 : decode cX8_fixed 103 = .ok (.iload_n 2, 1) := by decide +kernel
theorem dX8_fixed_104 : decode cX8_fixed 104 = .ok (.if_icmp .ne 7, 3) := by decide +kernel
theorem dX8_fixed_107 : decode cX8_fixed 107 = .ok (.iconst 1, 1) := by decide +kernel
theorem dX8_fixed_108 : decode cX8_fixed 108 = .ok (.goto 4, 3) := by decide +kernel
theorem dX8_fixed_111 : decode cX8_fixed 111 = .ok (.iconst 0, 1) := by decide +kernel
theorem dX8_fixed_112 : decode cX8_fixed 112 = .ok (.iastore, 1) := by decide +kernel
theorem dX8_fixed_113 : decode cX8_fixed 113 = .ok (.iinc 3 1, 3) := by decide +kernel
theorem dX8_fixed_116 : decode cX8_fixed 116 = .ok (.goto (-62), 3) := by decide +kernel
theorem dX8_fixed_119 : decode cX8_fixed 119 = .ok (.return_, 1) := by decide +kernel
theorem dX8_prime_0 : decode cX8_prime 0 = .ok (.iload_n 0, 1) := by decide +kernel
theorem dX8_prime_1 : decode cX8_prime 1 = .ok (.istore_n 1, 1) := by decide +kernel
theorem dX8_prime_2 : decode cX8_prime 2 = .ok (.iconst 0, 1) := by decide +kernel
theorem dX8_prime_3 : decode cX8_prime 3 = .ok (.istore_n 2, 1) := by decide +kernel
theorem dX8_prime_4 : decode cX8_prime 4 = .ok (.iload_n 2, 1) := by decide +kernel
theorem dX8_prime_5 : decode cX8_prime 5 = .ok (.ifCond .ne 49, 3) := by decide +kernel
theorem dX8_prime_8 : decode cX8_prime 8 = .ok (.iconst 1, 1) := by decide +kernel
theorem dX8_prime_9 : decode cX8_prime 9 = .ok (.istore_n 2, 1) := by decide +kernel
theorem dX8_prime_10 : decode cX8_prime 10 = .ok (.iconst 2, 1) := by decide +kernel
theorem dX8_prime_11 : decode cX8_prime 11 = .ok (.istore_n 3, 1) := by decide +kernel
theorem dX8_prime_12 : decode cX8_prime 12 = .ok (.iload_n 3, 1) := by decide +kernel
theorem dX8_prime_13 : decode cX8_prime 13 = .ok (.iload_n 1, 1) := by decide +kernel
theorem dX8_prime_14 : decode cX8_prime 14 = .ok (.if_icmp .ge 25, 3) := by decide +kernel
theorem dX8_prime_17 : decode cX8_prime 17 = .ok (.iload_n 2, 1) := by decide +kernel
theorem dX8_prime_18 : decode cX8_prime 18 = .ok (.ifCond .eq 13, 3) := by decide +kernel
theorem dX8_prime_21 : decode cX8_prime 21 = .ok (.iload_n 1, 1) := by decide +kernel
theorem dX8_prime_22 : decode cX8_prime 22 = .ok (.iload_n 3, 1) := by decide +kernel
theorem dX8_prime_23 : decode cX8_prime 23 = .ok (.irem, 1) := by decide +kernel
theorem dX8_prime_24 : decode cX8_prime 24 = .ok (.ifCond .eq 7, 3) := by decide +kernel
theorem dX8_prime_27 : decode cX8_prime 27 = .ok (.iconst 1, 1) := by decide +kernel
theorem dX8_prime_28 : decode cX8_prime 28 = .ok (.goto 4, 3) := by decide +kernel
theorem dX8_prime_31 : decode cX8_prime 31 = .ok (.iconst 0, 1) := by decide +kernel
theorem dX8_prime_32 : decode cX8_prime 32 = .ok (.istore_n 2, 1) := by decide +kernel
theorem dX8_prime_33 : decode cX8_prime 33 = .ok (.iinc 3 1, 3) := by decide +kernel
theorem dX8_prime_36 : decode cX8_prime 36 = .ok (.goto (-24), 3) := by decide +kernel
theorem dX8_prime_39 : decode cX8_prime 39 = .ok (.iload_n 1, 1) := by decide +kernel
theorem dX8_prime_40 : decode cX8_prime 40 = .ok (.iload_n 2, 1) := by decide +kernel
theorem dX8_prime_41 : decode cX8_prime 41 = .ok (.ifCond .eq 7, 3) := by decide +kernel
theorem dX8_prime_44 : decode cX8_prime 44 = .ok (.iconst 0, 1) := by decide +kernel
theorem dX8_prime_45 : decode cX8_prime 45 = .ok (.goto 4, 3) := by decide +kernel
theorem dX8_prime_48 : decode cX8_prime 48 = .ok (.iconst 1, 1) := by decide +kernel
theorem dX8_prime_49 : decode cX8_prime 49 = .ok (.iadd, 1) := by decide +kernel
theorem dX8_prime_50 : decode cX8_prime 50 = .ok (.istore_n 1, 1) := by decide +kernel
theorem dX8_prime_51 : decode cX8_prime 51 = .ok (.goto (-47), 3) := by decide +kernel
theorem dX8_prime_54 : decode cX8_prime 54 = .ok (.iload_n 1, 1) := by decide +kernel
theorem dX8_prime_55 : decode cX8_prime 55 = .ok (.ireturn, 1) := by decide +kernel
theorem dX8_degree_0 : decode cX8_degree 0 = .ok (.iload_n 0, 1) := by decide +kernel
theorem dX8_degree_1 : decode cX8_degree 1 = .ok (.iconst 5, 1) := by decide +kernel
theorem dX8_degree_2 : decode cX8_degree 2 = .ok (.if_icmp .ge 7, 3) := by decide +kernel
theorem dX8_degree_5 : decode cX8_degree 5 = .ok (.iconst 1, 1) := by decide +kernel
theorem dX8_degree_6 : decode cX8_degree 6 = .ok (.goto 109, 3) := by decide +kernel
theorem dX8_degree_9 : decode cX8_degree 9 = .ok (.iload_n 0, 1) := by decide +kernel
theorem dX8_degree_10 : decode cX8_degree 10 = .ok (.sipush 505, 3) := by decide +kernel
theorem dX8_degree_13 : decode cX8_degree 13 = .ok (.if_icmp .ge 7, 3) := by decide +kernel
theorem dX8_degree_16 : decode cX8_degree 16 = .ok (.iconst 2, 1) := by decide +kernel
theorem dX8_degree_17 : decode cX8_degree 17 = .ok (.goto 98, 3) := by decide +kernel
theorem dX8_degree_20 : decode cX8_degree 20 = .ok (.iload_n 0, 1) := by decide +kernel
theorem dX8_degree_21 : decode cX8_degree 21 = .ok (.sipush 671, 3) := by decide +kernel
theorem dX8_degree_24 : decode cX8_degree 24 = .ok (.if_icmp .ge 7, 3) := by decide +kernel
theorem dX8_degree_27 : decode cX8_degree 27 = .ok (.iconst 3, 1) := by decide +kernel
theorem dX8_degree_28 : decode cX8_degree 28 = .ok (.goto 87, 3) := by decide +kernel
theorem dX8_degree_31 : decode cX8_degree 31 = .ok (.iload_n 0, 1) := by decide +kernel
theorem dX8_degree_32 : decode cX8_degree 32 = .ok (.sipush 754, 3) := by decide +kernel
theorem dX8_degree_35 : decode cX8_degree 35 = .ok (.if_icmp .ge 7, 3) := by decide +kernel
theorem dX8_degree_38 : decode cX8_degree 38 = .ok (.iconst 4, 1) := by decide +kernel
theorem dX8_degree_39 : decode cX8_degree 39 = .ok (.goto 76, 3) := by decide +kernel
theorem dX8_degree_42 : decode cX8_degree 42 = .ok (.iload_n 0, 1) := by decide +kernel
theorem dX8_degree_43 : decode cX8_degree 43 = .ok (.sipush 804, 3) := by decide +kernel
theorem dX8_degree_46 : decode cX8_degree 46 = .ok (.if_icmp .ge 7, 3) := by decide +kernel
theorem dX8_degree_49 : decode cX8_degree 49 = .ok (.iconst 5, 1) := by decide +kernel
theorem dX8_degree_50 : decode cX8_degree 50 = .ok (.goto 65, 3) := by decide +kernel
theorem dX8_degree_53 : decode cX8_degree 53 = .ok (.iload_n 0, 1) := by decide +kernel
theorem dX8_degree_54 : decode cX8_degree 54 = .ok (.sipush 837, 3) := by decide +kernel
theorem dX8_degree_57 : decode cX8_degree 57 = .ok (.if_icmp .ge 8, 3) := by decide +kernel
theorem dX8_degree_60 : decode cX8_degree 60 = .ok (.bipush 6, 2) := by decide +kernel
theorem dX8_degree_62 : decode cX8_degree 62 = .ok (.goto 53, 3) := by decide +kernel
theorem dX8_degree_65 : decode cX8_degree 65 = .ok (.iload_n 0, 1) := by decide +kernel
theorem dX8_degree_66 : decode cX8_degree 66 = .ok (.sipush 861, 3) := by decide +kernel
theorem dX8_degree_69 : decode cX8_degree 69 = .ok (.if_icmp .ge 8, 3) := by decide +kernel
theorem dX8_degree_72 : decode cX8_degree 72 = .ok (.bipush 7, 2) := by decide +kernel
theorem dX8_degree_74 : decode cX8_degree 74 = .ok (.goto 41, 3) := by decide +kernel
theorem dX8_degree_77 : decode cX8_degree 77 = .ok (.iload_n 0, 1) := by decide +kernel
theorem dX8_degree_78 : decode cX8_degree 78 = .ok (.sipush 879, 3) := by decide +kernel
theorem dX8_degree_81 : decode cX8_degree 81 = .ok (.if_icmp .ge 8, 3) := by decide +kernel
theorem dX8_degree_84 : decode cX8_degree 84 = .ok (.bipush 8, 2) := by decide +kernel
theorem dX8_degree_86 : decode cX8_degree 86 = .ok (.goto 29, 3) := by decide +kernel
theorem dX8_degree_89 : decode cX8_degree 89 = .ok (.iload_n 0, 1) := by decide +kernel
theorem dX8_degree_90 : decode cX8_degree 90 = .ok (.sipush 900, 3) := by decide +kernel
theorem dX8_degree_93 : decode cX8_degree 93 = .ok (.if_icmp .ge 8, 3) := by decide +kernel
theorem dX8_degree_96 : decode cX8_degree 96 = .ok (.bipush 10, 2) := by decide +kernel
theorem dX8_degree_98 : decode cX8_degree 98 = .ok (.goto 17, 3) := by decide +kernel
theorem dX8_degree_101 : decode cX8_degree 101 = .ok (.iload_n 0, 1) := by decide +kernel
theorem dX8_degree_102 : decode cX8_degree 102 = .ok (.sipush 960, 3) := by decide +kernel
theorem dX8_degree_105 : decode cX8_degree 105 = .ok (.if_icmp .ge 8, 3) := by decide +kernel
theorem dX8_degree_108 : decode cX8_degree 108 = .ok (.bipush 20, 2) := by decide +kernel
theorem dX8_degree_110 : decode cX8_degree 110 = .ok (.goto 5, 3) := by decide +kernel
theorem dX8_degree_113 : decode cX8_degree 113 = .ok (.bipush 40, 2) := by decide +kernel
theorem dX8_degree_115 : decode cX8_degree 115 = .ok (.ireturn, 1) := by decide +kernel
theorem dX8_packet_0 : decode cX8_packet 0 = .ok (.aload_n 0, 1) := by decide +kernel
theorem dX8_packet_1 : decode cX8_packet 1 = .ok (.invokevirtual 55, 3) := by decide +kernel
theorem dX8_packet_4 : decode cX8_packet 4 = .ok (.iload_n 1, 1) := by decide +kernel
theorem dX8_packet_5 : decode cX8_packet 5 = .ok (.bipush 11, 2) := by decide +kernel
theorem dX8_packet_7 : decode cX8_packet 7 = .ok (.iadd, 1) := by decide +kernel
theorem dX8_packet_8 : decode cX8_packet 8 = .ok (.istore 4, 2) := by decide +kernel
theorem dX8_packet_10 : decode cX8_packet 10 = .ok (.iload_n 3, 1) := by decide +kernel
theorem dX8_packet_11 : decode cX8_packet 11 = .ok (.i2l, 1) := by decide +kernel
theorem dX8_packet_12 : decode cX8_packet 12 = .ok (.ldc2_w 62, 3) := by decide +kernel
theorem dX8_packet_15 : decode cX8_packet 15 = .ok (.iload_n 2, 1) := by decide +kernel
theorem dX8_packet_16 : decode cX8_packet 16 = .ok (.i2l, 1) := by decide +kernel
theorem dX8_packet_17 : decode cX8_packet 17 = .ok (.lmul, 1) := by decide +kernel
theorem dX8_packet_18 : decode cX8_packet 18 = .ok (.ladd, 1) := by decide +kernel
theorem dX8_packet_19 : decode cX8_packet 19 = .ok (.lstore 5, 2) := by decide +kernel
theorem dX8_packet_21 : decode cX8_packet 21 = .ok (.lload 5, 2) := by decide +kernel
theorem dX8_packet_23 : decode cX8_packet 23 = .ok (.iconst 0, 1) := by decide +kernel
theorem dX8_packet_24 : decode cX8_packet 24 = .ok (.sipush 1000, 3) := by decide +kernel
theorem dX8_packet_27 : decode cX8_packet 27 = .ok (.invokestatic 64, 3) := by decide +kernel
theorem dX8_packet_30 : decode cX8_packet 30 = .ok (.invokestatic 68, 3) := by decide +kernel
theorem dX8_packet_33 : decode cX8_packet 33 = .ok (.istore 7, 2) := by decide +kernel
theorem dX8_packet_35 : decode cX8_packet 35 = .ok (.iload 7, 2) := by decide +kernel
theorem dX8_packet_37 : decode cX8_packet 37 = .ok (.iload 4, 2) := by decide +kernel
theorem dX8_packet_39 : decode cX8_packet 39 = .ok (.if_icmp .le 8, 3) := by decide +kernel
theorem dX8_packet_42 : decode cX8_packet 42 = .ok (.iload 4, 2) := by decide +kernel
theorem dX8_packet_44 : decode cX8_packet 44 = .ok (.goto 5, 3) := by decide +kernel
theorem dX8_packet_47 : decode cX8_packet 47 = .ok (.iload 7, 2) := by decide +kernel
theorem dX8_packet_49 : decode cX8_packet 49 = .ok (.istore 7, 2) := by decide +kernel
theorem dX8_packet_51 : decode cX8_packet 51 = .ok (.iload 4, 2) := by decide +kernel
theorem dX8_packet_53 : decode cX8_packet 53 = .ok (.invokestatic 71, 3) := by decide +kernel
theorem dX8_packet_56 : decode cX8_packet 56 = .ok (.istore 8, 2) := by decide +kernel
theorem dX8_packet_58 : decode cX8_packet 58 = .ok (.lload 5, 2) := by decide +kernel
theorem dX8_packet_60 : decode cX8_packet 60 = .ok (.iconst 2, 1) := by decide +kernel
theorem dX8_packet_61 : decode cX8_packet 61 = .ok (.iload 8, 2) := by decide +kernel
theorem dX8_packet_63 : decode cX8_packet 63 = .ok (.invokestatic 64, 3) := by decide +kernel
theorem dX8_packet_66 : decode cX8_packet 66 = .ok (.istore 9, 2) := by decide +kernel
theorem dX8_packet_68 : decode cX8_packet 68 = .ok (.iconst 1, 1) := by decide +kernel
theorem dX8_packet_69 : decode cX8_packet 69 = .ok (.lload 5, 2) := by decide +kernel
theorem dX8_packet_71 : decode cX8_packet 71 = .ok (.iconst 1, 1) := by decide +kernel
theorem dX8_packet_72 : decode cX8_packet 72 = .ok (.iload 8, 2) := by decide +kernel
theorem dX8_packet_74 : decode cX8_packet 74 = .ok (.iconst 1, 1) := by decide +kernel
theorem dX8_packet_75 : decode cX8_packet 75 = .ok (.isub, 1) := by decide +kernel
theorem dX8_packet_76 : decode cX8_packet 76 = .ok (.invokestatic 64, 3) := by decide +kernel
theorem dX8_packet_79 : decode cX8_packet 79 = .ok (.iadd, 1) := by decide +kernel
theorem dX8_packet_80 : decode cX8_packet 80 = .ok (.istore 10, 2) := by decide +kernel
theorem dX8_packet_82 : decode cX8_packet 82 = .ok (.iconst 0, 1) := by decide +kernel
theorem dX8_packet_83 : decode cX8_packet 83 = .ok (.istore 11, 2) := by decide +kernel
theorem dX8_packet_85 : decode cX8_packet 85 = .ok (.iload 11, 2) := by decide +kernel
theorem dX8_packet_87 : decode cX8_packet 87 = .ok (.iload 7, 2) := by decide +kernel
theorem dX8_packet_89 : decode cX8_packet 89 = .ok (.if_icmp .ge 34, 3) := by decide +kernel
theorem dX8_packet_92 : decode cX8_packet 92 = .ok (.iload 9, 2) := by decide +kernel
theorem dX8_packet_94 : decode cX8_packet 94 = .ok (.iload 4, 2) := by decide +kernel
theorem dX8_packet_96 : decode cX8_packet 96 = .ok (.if_icmp .ge 14, 3) := by decide +kernel
theorem dX8_packet_99 : decode cX8_packet 99 = .ok (.aload_n 0, 1) := by decide +kernel
theorem dX8_packet_100 : decode cX8_packet 100 = .ok (.getfield 29, 3) := by decide +kernel
theorem dX8_packet_103 : decode cX8_packet 103 = .ok (.iload 9, 2) := by decide +kernel
theorem dX8_packet_105 : decode cX8_packet 105 = .ok (.iconst 1, 1) := by decide +kernel
theorem dX8_packet_106 : decode cX8_packet 106 = .ok (.iastore, 1) := by decide +kernel
theorem dX8_packet_107 : decode cX8_packet 107 = .ok (.iinc 11 1, 3) := by decide +kernel
theorem dX8_packet_110 : decode cX8_packet 110 = .ok (.iload 9, 2) := by decide +kernel
theorem dX8_packet_112 : decode cX8_packet 112 = .ok (.iload 10, 2) := by decide +kernel
theorem dX8_packet_114 : decode cX8_packet 114 = .ok (.iadd, 1) := by decide +kernel
theorem dX8_packet_115 : decode cX8_packet 115 = .ok (.iload 8, 2) := by decide +kernel
theorem dX8_packet_117 : decode cX8_packet 117 = .ok (.irem, 1) := by decide +kernel
theorem dX8_packet_118 : decode cX8_packet 118 = .ok (.istore 9, 2) := by decide +kernel
theorem dX8_packet_120 : decode cX8_packet 120 = .ok (.goto (-35), 3) := by decide +kernel
theorem dX8_packet_123 : decode cX8_packet 123 = .ok (.iload 7, 2) := by decide +kernel
theorem dX8_packet_125 : decode cX8_packet 125 = .ok (.ireturn, 1) := by decide +kernel
theorem dX8_isReduced_0 : decode cX8_isReduced 0 = .ok (.iconst 0, 1) := by decide +kernel
theorem dX8_isReduced_1 : decode cX8_isReduced 1 = .ok (.istore_n 2, 1) := by decide +kernel
theorem dX8_isReduced_2 : decode cX8_isReduced 2 = .ok (.iload_n 2, 1) := by decide +kernel
theorem dX8_isReduced_3 : decode cX8_isReduced 3 = .ok (.aload_n 0, 1) := by decide +kernel
theorem dX8_isReduced_4 : decode cX8_isReduced 4 = .ok (.getfield 74, 3) := by decide +kernel
theorem dX8_isReduced_7 : decode cX8_isReduced 7 = .ok (.if_icmp .ge 67, 3) := by decide +kernel
theorem dX8_isReduced_10 : decode cX8_isReduced 10 = .ok (.aload_n 0, 1) := by decide +kernel
theorem dX8_isReduced_11 : decode cX8_isReduced 11 = .ok (.getfield 29, 3) := by decide +kernel
theorem dX8_isReduced_14 : decode cX8_isReduced 14 = .ok (.aload_n 0, 1) := by decide +kernel
theorem dX8_isReduced_15 : decode cX8_isReduced 15 = .ok (.getfield 26, 3) := by decide +kernel
theorem dX8_isReduced_18 : decode cX8_isReduced 18 = .ok (.iload_n 2, 1) := by decide +kernel
theorem dX8_isReduced_19 : decode cX8_isReduced 19 = .ok (.iaload, 1) := by decide +kernel
theorem dX8_isReduced_20 : decode cX8_isReduced 20 = .ok (.iaload, 1) := by decide +kernel
theorem dX8_isReduced_21 : decode cX8_isReduced 21 = .ok (.istore_n 3, 1) := by decide +kernel
theorem dX8_isReduced_22 : decode cX8_isReduced 22 = .ok (.iconst 0, 1) := by decide +kernel
theorem dX8_isReduced_23 : decode cX8_isReduced 23 = .ok (.istore 4, 2) := by decide +kernel
theorem dX8_isReduced_25 : decode cX8_isReduced 25 = .ok (.iload 4, 2) := by decide +kernel
theorem dX8_isReduced_27 : decode cX8_isReduced 27 = .ok (.bipush 75, 2) := by decide +kernel
theorem dX8_isReduced_29 : decode cX8_isReduced 29 = .ok (.if_icmp .ge 39, 3) := by decide +kernel
theorem dX8_isReduced_32 : decode cX8_isReduced 32 = .ok (.iload_n 3, 1) := by decide +kernel
theorem dX8_isReduced_33 : decode cX8_isReduced 33 = .ok (.ifCond .eq 35, 3) := by decide +kernel
theorem dX8_isReduced_36 : decode cX8_isReduced 36 = .ok (.aload_n 0, 1) := by decide +kernel
theorem dX8_isReduced_37 : decode cX8_isReduced 37 = .ok (.getfield 29, 3) := by decide +kernel
theorem dX8_isReduced_40 : decode cX8_isReduced 40 = .ok (.iload 4, 2) := by decide +kernel
theorem dX8_isReduced_42 : decode cX8_isReduced 42 = .ok (.dup2, 1) := by decide +kernel
theorem dX8_isReduced_43 : decode cX8_isReduced 43 = .ok (.iaload, 1) := by decide +kernel
theorem dX8_isReduced_44 : decode cX8_isReduced 44 = .ok (.iload_n 3, 1) := by decide +kernel
theorem dX8_isReduced_45 : decode cX8_isReduced 45 = .ok (.aload_n 0, 1) := by decide +kernel
theorem dX8_isReduced_46 : decode cX8_isReduced 46 = .ok (.getfield 23, 3) := by decide +kernel
theorem dX8_isReduced_49 : decode cX8_isReduced 49 = .ok (.bipush 75, 2) := by decide +kernel
theorem dX8_isReduced_51 : decode cX8_isReduced 51 = .ok (.iload_n 2, 1) := by decide +kernel
theorem dX8_isReduced_52 : decode cX8_isReduced 52 = .ok (.imul, 1) := by decide +kernel
theorem dX8_isReduced_53 : decode cX8_isReduced 53 = .ok (.iload 4, 2) := by decide +kernel
theorem dX8_isReduced_55 : decode cX8_isReduced 55 = .ok (.iadd, 1) := by decide +kernel
theorem dX8_isReduced_56 : decode cX8_isReduced 56 = .ok (.iaload, 1) := by decide +kernel
theorem dX8_isReduced_57 : decode cX8_isReduced 57 = .ok (.invokestatic 38, 3) := by decide +kernel
theorem dX8_isReduced_60 : decode cX8_isReduced 60 = .ok (.ixor, 1) := by decide +kernel
theorem dX8_isReduced_61 : decode cX8_isReduced 61 = .ok (.iastore, 1) := by decide +kernel
theorem dX8_isReduced_62 : decode cX8_isReduced 62 = .ok (.iinc 4 1, 3) := by decide +kernel
theorem dX8_isReduced_65 : decode cX8_isReduced 65 = .ok (.goto (-40), 3) := by decide +kernel
theorem dX8_isReduced_68 : decode cX8_isReduced 68 = .ok (.iinc 2 1, 3) := by decide +kernel
theorem dX8_isReduced_71 : decode cX8_isReduced 71 = .ok (.goto (-69), 3) := by decide +kernel
theorem dX8_isReduced_74 : decode cX8_isReduced 74 = .ok (.iconst 1, 1) := by decide +kernel
theorem dX8_isReduced_75 : decode cX8_isReduced 75 = .ok (.istore_n 2, 1) := by decide +kernel
theorem dX8_isReduced_76 : decode cX8_isReduced 76 = .ok (.iconst 0, 1) := by decide +kernel
theorem dX8_isReduced_77 : decode cX8_isReduced 77 = .ok (.istore_n 3, 1) := by decide +kernel
theorem dX8_isReduced_78 : decode cX8_isReduced 78 = .ok (.iload_n 3, 1) := by decide +kernel
theorem dX8_isReduced_79 : decode cX8_isReduced 79 = .ok (.iload_n 1, 1) := by decide +kernel
theorem dX8_isReduced_80 : decode cX8_isReduced 80 = .ok (.if_icmp .ge 28, 3) := by decide +kernel
theorem dX8_isReduced_83 : decode cX8_isReduced 83 = .ok (.iload_n 2, 1) := by decide +kernel
theorem dX8_isReduced_84 : decode cX8_isReduced 84 = .ok (.ifCond .eq 16, 3) := by decide +kernel
theorem dX8_isReduced_87 : decode cX8_isReduced 87 = .ok (.aload_n 0, 1) := by decide +kernel
theorem dX8_isReduced_88 : decode cX8_isReduced 88 = .ok (.getfield 29, 3) := by decide +kernel
theorem dX8_isReduced_91 : decode cX8_isReduced 91 = .ok (.iload_n 3, 1) := by decide +kernel
theorem dX8_isReduced_92 : decode cX8_isReduced 92 = .ok (.iaload, 1) := by decide +kernel
theorem dX8_isReduced_93 : decode cX8_isReduced 93 = .ok (.ifCond .ne 7, 3) := by decide +kernel
theorem dX8_isReduced_96 : decode cX8_isReduced 96 = .ok (.iconst 1, 1) := by decide +kernel
theorem dX8_isReduced_97 : decode cX8_isReduced 97 = .ok (.goto 4, 3) := by decide +kernel
theorem dX8_isReduced_100 : decode cX8_isReduced 100 = .ok (.iconst 0, 1) := by decide +kernel
theorem dX8_isReduced_101 : decode cX8_isReduced 101 = .ok (.istore_n 2, 1) := by decide +kernel
theorem dX8_isReduced_102 : decode cX8_isReduced 102 = .ok (.iinc 3 1, 3) := by decide +kernel
theorem dX8_isReduced_105 : decode cX8_isReduced 105 = .ok (.goto (-27), 3) := by decide +kernel
theorem dX8_isReduced_108 : decode cX8_isReduced 108 = .ok (.iload_n 2, 1) := by decide +kernel
theorem dX8_isReduced_109 : decode cX8_isReduced 109 = .ok (.ireturn, 1) := by decide +kernel
theorem dX8_isAdded_0 : decode cX8_isAdded 0 = .ok (.aload_n 0, 1) := by decide +kernel
theorem dX8_isAdded_1 : decode cX8_isAdded 1 = .ok (.iload_n 1, 1) := by decide +kernel
theorem dX8_isAdded_2 : decode cX8_isAdded 2 = .ok (.invokevirtual 77, 3) := by decide +kernel
theorem dX8_isAdded_5 : decode cX8_isAdded 5 = .ok (.ifCond .eq 5, 3) := by decide +kernel
theorem dX8_isAdded_8 : decode cX8_isAdded 8 = .ok (.iconst 0, 1) := by decide +kernel
theorem dX8_isAdded_9 : decode cX8_isAdded 9 = .ok (.ireturn, 1) := by decide +kernel
theorem dX8_isAdded_10 : decode cX8_isAdded 10 = .ok (.iconst 0, 1) := by decide +kernel
theorem dX8_isAdded_11 : decode cX8_isAdded 11 = .ok (.istore_n 2, 1) := by decide +kernel
theorem dX8_isAdded_12 : decode cX8_isAdded 12 = .ok (.aload_n 0, 1) := by decide +kernel
theorem dX8_isAdded_13 : decode cX8_isAdded 13 = .ok (.getfield 29, 3) := by decide +kernel
theorem dX8_isAdded_16 : decode cX8_isAdded 16 = .ok (.iload_n 2, 1) := by decide +kernel
theorem dX8_isAdded_17 : decode cX8_isAdded 17 = .ok (.iaload, 1) := by decide +kernel
theorem dX8_isAdded_18 : decode cX8_isAdded 18 = .ok (.ifCond .ne 9, 3) := by decide +kernel
theorem dX8_isAdded_21 : decode cX8_isAdded 21 = .ok (.iinc 2 1, 3) := by decide +kernel
theorem dX8_isAdded_24 : decode cX8_isAdded 24 = .ok (.goto (-12), 3) := by decide +kernel
theorem dX8_isAdded_27 : decode cX8_isAdded 27 = .ok (.aload_n 0, 1) := by decide +kernel
theorem dX8_isAdded_28 : decode cX8_isAdded 28 = .ok (.getfield 29, 3) := by decide +kernel
theorem dX8_isAdded_31 : decode cX8_isAdded 31 = .ok (.iload_n 2, 1) := by decide +kernel
theorem dX8_isAdded_32 : decode cX8_isAdded 32 = .ok (.iaload, 1) := by decide +kernel
theorem dX8_isAdded_33 : decode cX8_isAdded 33 = .ok (.invokestatic 81, 3) := by decide +kernel
theorem dX8_isAdded_36 : decode cX8_isAdded 36 = .ok (.istore_n 3, 1) := by decide +kernel
theorem dX8_isAdded_37 : decode cX8_isAdded 37 = .ok (.iconst 0, 1) := by decide +kernel
theorem dX8_isAdded_38 : decode cX8_isAdded 38 = .ok (.istore 4, 2) := by decide +kernel
theorem dX8_isAdded_40 : decode cX8_isAdded 40 = .ok (.iload 4, 2) := by decide +kernel
theorem dX8_isAdded_42 : decode cX8_isAdded 42 = .ok (.bipush 75, 2) := by decide +kernel
theorem dX8_isAdded_44 : decode cX8_isAdded 44 = .ok (.if_icmp .ge 35, 3) := by decide +kernel
theorem dX8_isAdded_47 : decode cX8_isAdded 47 = .ok (.aload_n 0, 1) := by decide +kernel
theorem dX8_isAdded_48 : decode cX8_isAdded 48 = .ok (.getfield 23, 3) := by decide +kernel
theorem dX8_isAdded_51 : decode cX8_isAdded 51 = .ok (.bipush 75, 2) := by decide +kernel
theorem dX8_isAdded_53 : decode cX8_isAdded 53 = .ok (.aload_n 0, 1) := by decide +kernel
theorem dX8_isAdded_54 : decode cX8_isAdded 54 = .ok (.getfield 74, 3) := by decide +kernel
theorem dX8_isAdded_57 : decode cX8_isAdded 57 = .ok (.imul, 1) := by decide +kernel
theorem dX8_isAdded_58 : decode cX8_isAdded 58 = .ok (.iload 4, 2) := by decide +kernel
theorem dX8_isAdded_60 : decode cX8_isAdded 60 = .ok (.iadd, 1) := by decide +kernel
theorem dX8_isAdded_61 : decode cX8_isAdded 61 = .ok (.iload_n 3, 1) := by decide +kernel
theorem dX8_isAdded_62 : decode cX8_isAdded 62 = .ok (.aload_n 0, 1) := by decide +kernel
theorem dX8_isAdded_63 : decode cX8_isAdded 63 = .ok (.getfield 29, 3) := by decide +kernel
theorem dX8_isAdded_66 : decode cX8_isAdded 66 = .ok (.iload 4, 2) := by decide +kernel
theorem dX8_isAdded_68 : decode cX8_isAdded 68 = .ok (.iaload, 1) := by decide +kernel
theorem dX8_isAdded_69 : decode cX8_isAdded 69 = .ok (.invokestatic 38, 3) := by decide +kernel
theorem dX8_isAdded_72 : decode cX8_isAdded 72 = .ok (.iastore, 1) := by decide +kernel
theorem dX8_isAdded_73 : decode cX8_isAdded 73 = .ok (.iinc 4 1, 3) := by decide +kernel
theorem dX8_isAdded_76 : decode cX8_isAdded 76 = .ok (.goto (-36), 3) := by decide +kernel
theorem dX8_isAdded_79 : decode cX8_isAdded 79 = .ok (.aload_n 0, 1) := by decide +kernel
theorem dX8_isAdded_80 : decode cX8_isAdded 80 = .ok (.getfield 26, 3) := by decide +kernel
theorem dX8_isAdded_83 : decode cX8_isAdded 83 = .ok (.aload_n 0, 1) := by decide +kernel
theorem dX8_isAdded_84 : decode cX8_isAdded 84 = .ok (.getfield 74, 3) := by decide +kernel
theorem dX8_isAdded_87 : decode cX8_isAdded 87 = .ok (.iload_n 2, 1) := by decide +kernel
theorem dX8_isAdded_88 : decode cX8_isAdded 88 = .ok (.iastore, 1) := by decide +kernel
theorem dX8_isAdded_89 : decode cX8_isAdded 89 = .ok (.aload_n 0, 1) := by decide +kernel
theorem dX8_isAdded_90 : decode cX8_isAdded 90 = .ok (.dup, 1) := by decide +kernel
theorem dX8_isAdded_91 : decode cX8_isAdded 91 = .ok (.getfield 74, 3) := by decide +kernel
theorem dX8_isAdded_94 : decode cX8_isAdded 94 = .ok (.iconst 1, 1) := by decide +kernel
theorem dX8_isAdded_95 : decode cX8_isAdded 95 = .ok (.iadd, 1) := by decide +kernel
theorem dX8_isAdded_96 : decode cX8_isAdded 96 = .ok (.putfield 74, 3) := by decide +kernel
theorem dX8_isAdded_99 : decode cX8_isAdded 99 = .ok (.iconst 0, 1) := by decide +kernel
theorem dX8_isAdded_100 : decode cX8_isAdded 100 = .ok (.istore 4, 2) := by decide +kernel
theorem dX8_isAdded_102 : decode cX8_isAdded 102 = .ok (.iload 4, 2) := by decide +kernel
theorem dX8_isAdded_104 : decode cX8_isAdded 104 = .ok (.aload_n 0, 1) := by decide +kernel
theorem dX8_isAdded_105 : decode cX8_isAdded 105 = .ok (.getfield 74, 3) := by decide +kernel
theorem dX8_isAdded_108 : decode cX8_isAdded 108 = .ok (.iconst 1, 1) := by decide +kernel
theorem dX8_isAdded_109 : decode cX8_isAdded 109 = .ok (.isub, 1) := by decide +kernel
theorem dX8_isAdded_110 : decode cX8_isAdded 110 = .ok (.if_icmp .ge 82, 3) := by decide +kernel
theorem dX8_isAdded_113 : decode cX8_isAdded 113 = .ok (.aload_n 0, 1) := by decide +kernel
theorem dX8_isAdded_114 : decode cX8_isAdded 114 = .ok (.getfield 23, 3) := by decide +kernel
theorem dX8_isAdded_117 : decode cX8_isAdded 117 = .ok (.bipush 75, 2) := by decide +kernel
theorem dX8_isAdded_119 : decode cX8_isAdded 119 = .ok (.iload 4, 2) := by decide +kernel
theorem dX8_isAdded_121 : decode cX8_isAdded 121 = .ok (.imul, 1) := by decide +kernel
theorem dX8_isAdded_122 : decode cX8_isAdded 122 = .ok (.iload_n 2, 1) := by decide +kernel
theorem dX8_isAdded_123 : decode cX8_isAdded 123 = .ok (.iadd, 1) := by decide +kernel
theorem dX8_isAdded_124 : decode cX8_isAdded 124 = .ok (.iaload, 1) := by decide +kernel
theorem dX8_isAdded_125 : decode cX8_isAdded 125 = .ok (.istore 5, 2) := by decide +kernel
theorem dX8_isAdded_127 : decode cX8_isAdded 127 = .ok (.iconst 0, 1) := by decide +kernel
theorem dX8_isAdded_128 : decode cX8_isAdded 128 = .ok (.istore 6, 2) := by decide +kernel
theorem dX8_isAdded_130 : decode cX8_isAdded 130 = .ok (.iload 6, 2) := by decide +kernel
theorem dX8_isAdded_132 : decode cX8_isAdded 132 = .ok (.bipush 75, 2) := by decide +kernel
theorem dX8_isAdded_134 : decode cX8_isAdded 134 = .ok (.if_icmp .ge 52, 3) := by decide +kernel
theorem dX8_isAdded_137 : decode cX8_isAdded 137 = .ok (.iload 5, 2) := by decide +kernel
theorem dX8_isAdded_139 : decode cX8_isAdded 139 = .ok (.ifCond .eq 47, 3) := by decide +kernel
theorem dX8_isAdded_142 : decode cX8_isAdded 142 = .ok (.aload_n 0, 1) := by decide +kernel
theorem dX8_isAdded_143 : decode cX8_isAdded 143 = .ok (.getfield 23, 3) := by decide +kernel
theorem dX8_isAdded_146 : decode cX8_isAdded 146 = .ok (.bipush 75, 2) := by decide +kernel
theorem dX8_isAdded_148 : decode cX8_isAdded 148 = .ok (.iload 4, 2) := by decide +kernel
theorem dX8_isAdded_150 : decode cX8_isAdded 150 = .ok (.imul, 1) := by decide +kernel
theorem dX8_isAdded_151 : decode cX8_isAdded 151 = .ok (.iload 6, 2) := by decide +kernel
theorem dX8_isAdded_153 : decode cX8_isAdded 153 = .ok (.iadd, 1) := by decide +kernel
theorem dX8_isAdded_154 : decode cX8_isAdded 154 = .ok (.dup2, 1) := by decide +kernel
theorem dX8_isAdded_155 : decode cX8_isAdded 155 = .ok (.iaload, 1) := by decide +kernel
theorem dX8_isAdded_156 : decode cX8_isAdded 156 = .ok (.iload 5, 2) := by decide +kernel
theorem dX8_isAdded_158 : decode cX8_isAdded 158 = .ok (.aload_n 0, 1) := by decide +kernel
theorem dX8_isAdded_159 : decode cX8_isAdded 159 = .ok (.getfield 23, 3) := by decide +kernel
theorem dX8_isAdded_162 : decode cX8_isAdded 162 = .ok (.bipush 75, 2) := by decide +kernel
theorem dX8_isAdded_164 : decode cX8_isAdded 164 = .ok (.aload_n 0, 1) := by decide +kernel
theorem dX8_isAdded_165 : decode cX8_isAdded 165 = .ok (.getfield 74, 3) := by decide +kernel
theorem dX8_isAdded_168 : decode cX8_isAdded 168 = .ok (.iconst 1, 1) := by decide +kernel
theorem dX8_isAdded_169 : decode cX8_isAdded 169 = .ok (.isub, 1) := by decide +kernel
theorem dX8_isAdded_170 : decode cX8_isAdded 170 = .ok (.imul, 1) := by decide +kernel
theorem dX8_isAdded_171 : decode cX8_isAdded 171 = .ok (.iload 6, 2) := by decide +kernel
theorem dX8_isAdded_173 : decode cX8_isAdded 173 = .ok (.iadd, 1) := by decide +kernel
theorem dX8_isAdded_174 : decode cX8_isAdded 174 = .ok (.iaload, 1) := by decide +kernel
theorem dX8_isAdded_175 : decode cX8_isAdded 175 = .ok (.invokestatic 38, 3) := by decide +kernel
theorem dX8_isAdded_178 : decode cX8_isAdded 178 = .ok (.ixor, 1) := by decide +kernel
theorem dX8_isAdded_179 : decode cX8_isAdded 179 = .ok (.iastore, 1) := by decide +kernel
theorem dX8_isAdded_180 : decode cX8_isAdded 180 = .ok (.iinc 6 1, 3) := by decide +kernel
theorem dX8_isAdded_183 : decode cX8_isAdded 183 = .ok (.goto (-53), 3) := by decide +kernel
theorem dX8_isAdded_186 : decode cX8_isAdded 186 = .ok (.iinc 4 1, 3) := by decide +kernel
theorem dX8_isAdded_189 : decode cX8_isAdded 189 = .ok (.goto (-87), 3) := by decide +kernel
theorem dX8_isAdded_192 : decode cX8_isAdded 192 = .ok (.iconst 1, 1) := by decide +kernel
theorem dX8_isAdded_193 : decode cX8_isAdded 193 = .ok (.ireturn, 1) := by decide +kernel
theorem dX8_start_0 : decode cX8_start 0 = .ok (.aload_n 0, 1) := by decide +kernel
theorem dX8_start_1 : decode cX8_start 1 = .ok (.iconst 0, 1) := by decide +kernel
theorem dX8_start_2 : decode cX8_start 2 = .ok (.putfield 84, 3) := by decide +kernel
theorem dX8_start_5 : decode cX8_start 5 = .ok (.aload_n 0, 1) := by decide +kernel
theorem dX8_start_6 : decode cX8_start 6 = .ok (.iconst 0, 1) := by decide +kernel
theorem dX8_start_7 : decode cX8_start 7 = .ok (.putfield 74, 3) := by decide +kernel
theorem dX8_start_10 : decode cX8_start 10 = .ok (.iconst 0, 1) := by decide +kernel
theorem dX8_start_11 : decode cX8_start 11 = .ok (.istore_n 2, 1) := by decide +kernel
theorem dX8_start_12 : decode cX8_start 12 = .ok (.iload_n 2, 1) := by decide +kernel
theorem dX8_start_13 : decode cX8_start 13 = .ok (.bipush 11, 2) := by decide +kernel
theorem dX8_start_15 : decode cX8_start 15 = .ok (.if_icmp .ge 24, 3) := by decide +kernel
theorem dX8_start_18 : decode cX8_start 18 = .ok (.aload_n 0, 1) := by decide +kernel
theorem dX8_start_19 : decode cX8_start 19 = .ok (.iload_n 1, 1) := by decide +kernel
theorem dX8_start_20 : decode cX8_start 20 = .ok (.iload_n 2, 1) := by decide +kernel
theorem dX8_start_21 : decode cX8_start 21 = .ok (.invokevirtual 88, 3) := by decide +kernel
theorem dX8_start_24 : decode cX8_start 24 = .ok (.aload_n 0, 1) := by decide +kernel
theorem dX8_start_25 : decode cX8_start 25 = .ok (.iload_n 1, 1) := by decide +kernel
theorem dX8_start_26 : decode cX8_start 26 = .ok (.bipush 11, 2) := by decide +kernel
theorem dX8_start_28 : decode cX8_start 28 = .ok (.iadd, 1) := by decide +kernel
theorem dX8_start_29 : decode cX8_start 29 = .ok (.invokevirtual 92, 3) := by decide +kernel
theorem dX8_start_32 : decode cX8_start 32 = .ok (.pop, 1) := by decide +kernel
theorem dX8_start_33 : decode cX8_start 33 = .ok (.iinc 2 1, 3) := by decide +kernel
theorem dX8_start_36 : decode cX8_start 36 = .ok (.goto (-24), 3) := by decide +kernel
theorem dX8_start_39 : decode cX8_start 39 = .ok (.return_, 1) := by decide +kernel
theorem dX8_isK_0 : decode cX8_isK 0 = .ok (.iload_n 0, 1) := by decide +kernel
theorem dX8_isK_1 : decode cX8_isK 1 = .ok (.iconst 1, 1) := by decide +kernel
theorem dX8_isK_2 : decode cX8_isK 2 = .ok (.if_icmp .lt 13, 3) := by decide +kernel
theorem dX8_isK_5 : decode cX8_isK 5 = .ok (.iload_n 0, 1) := by decide +kernel
theorem dX8_isK_6 : decode cX8_isK 6 = .ok (.bipush 48, 2) := by decide +kernel
theorem dX8_isK_8 : decode cX8_isK 8 = .ok (.if_icmp .gt 7, 3) := by decide +kernel
theorem dX8_isK_11 : decode cX8_isK 11 = .ok (.iconst 1, 1) := by decide +kernel
theorem dX8_isK_12 : decode cX8_isK 12 = .ok (.goto 4, 3) := by decide +kernel
theorem dX8_isK_15 : decode cX8_isK 15 = .ok (.iconst 0, 1) := by decide +kernel
theorem dX8_isK_16 : decode cX8_isK 16 = .ok (.ireturn, 1) := by decide +kernel
theorem dX8_isT_0 : decode cX8_isT 0 = .ok (.iload_n 0, 1) := by decide +kernel
theorem dX8_isT_1 : decode cX8_isT 1 = .ok (.iconst 1, 1) := by decide +kernel
theorem dX8_isT_2 : decode cX8_isT 2 = .ok (.if_icmp .lt 13, 3) := by decide +kernel
theorem dX8_isT_5 : decode cX8_isT 5 = .ok (.iload_n 0, 1) := by decide +kernel
theorem dX8_isT_6 : decode cX8_isT 6 = .ok (.bipush 16, 2) := by decide +kernel
theorem dX8_isT_8 : decode cX8_isT 8 = .ok (.if_icmp .gt 7, 3) := by decide +kernel
theorem dX8_isT_11 : decode cX8_isT 11 = .ok (.iconst 1, 1) := by decide +kernel
theorem dX8_isT_12 : decode cX8_isT 12 = .ok (.goto 4, 3) := by decide +kernel
theorem dX8_isT_15 : decode cX8_isT 15 = .ok (.iconst 0, 1) := by decide +kernel
theorem dX8_isT_16 : decode cX8_isT 16 = .ok (.ireturn, 1) := by decide +kernel
theorem dX8_isFull_0 : decode cX8_isFull 0 = .ok (.aload_n 0, 1) := by decide +kernel
theorem dX8_isFull_1 : decode cX8_isFull 1 = .ok (.iload_n 1, 1) := by decide +kernel
theorem dX8_isFull_2 : decode cX8_isFull 2 = .ok (.invokevirtual 95, 3) := by decide +kernel
theorem dX8_isFull_5 : decode cX8_isFull 5 = .ok (.iconst 0, 1) := by decide +kernel
theorem dX8_isFull_6 : decode cX8_isFull 6 = .ok (.istore_n 3, 1) := by decide +kernel
theorem dX8_isFull_7 : decode cX8_isFull 7 = .ok (.iload_n 3, 1) := by decide +kernel
theorem dX8_isFull_8 : decode cX8_isFull 8 = .ok (.iload_n 1, 1) := by decide +kernel
theorem dX8_isFull_9 : decode cX8_isFull 9 = .ok (.if_icmp .ge 26, 3) := by decide +kernel
theorem dX8_isFull_12 : decode cX8_isFull 12 = .ok (.aload_n 0, 1) := by decide +kernel
theorem dX8_isFull_13 : decode cX8_isFull 13 = .ok (.iload_n 1, 1) := by decide +kernel
theorem dX8_isFull_14 : decode cX8_isFull 14 = .ok (.iload_n 2, 1) := by decide +kernel
theorem dX8_isFull_15 : decode cX8_isFull 15 = .ok (.iload_n 3, 1) := by decide +kernel
theorem dX8_isFull_16 : decode cX8_isFull 16 = .ok (.invokevirtual 99, 3) := by decide +kernel
theorem dX8_isFull_19 : decode cX8_isFull 19 = .ok (.pop, 1) := by decide +kernel
theorem dX8_isFull_20 : decode cX8_isFull 20 = .ok (.aload_n 0, 1) := by decide +kernel
theorem dX8_isFull_21 : decode cX8_isFull 21 = .ok (.iload_n 1, 1) := by decide +kernel
theorem dX8_isFull_22 : decode cX8_isFull 22 = .ok (.bipush 11, 2) := by decide +kernel
theorem dX8_isFull_24 : decode cX8_isFull 24 = .ok (.iadd, 1) := by decide +kernel
theorem dX8_isFull_25 : decode cX8_isFull 25 = .ok (.invokevirtual 92, 3) := by decide +kernel
theorem dX8_isFull_28 : decode cX8_isFull 28 = .ok (.pop, 1) := by decide +kernel
theorem dX8_isFull_29 : decode cX8_isFull 29 = .ok (.iinc 3 1, 3) := by decide +kernel
theorem dX8_isFull_32 : decode cX8_isFull 32 = .ok (.goto (-25), 3) := by decide +kernel
theorem dX8_isFull_35 : decode cX8_isFull 35 = .ok (.aload_n 0, 1) := by decide +kernel
theorem dX8_isFull_36 : decode cX8_isFull 36 = .ok (.getfield 74, 3) := by decide +kernel
theorem dX8_isFull_39 : decode cX8_isFull 39 = .ok (.iload_n 1, 1) := by decide +kernel
theorem dX8_isFull_40 : decode cX8_isFull 40 = .ok (.bipush 11, 2) := by decide +kernel
theorem dX8_isFull_42 : decode cX8_isFull 42 = .ok (.iadd, 1) := by decide +kernel
theorem dX8_isFull_43 : decode cX8_isFull 43 = .ok (.if_icmp .ne 7, 3) := by decide +kernel
theorem dX8_isFull_46 : decode cX8_isFull 46 = .ok (.iconst 1, 1) := by decide +kernel
theorem dX8_isFull_47 : decode cX8_isFull 47 = .ok (.goto 4, 3) := by decide +kernel
theorem dX8_isFull_50 : decode cX8_isFull 50 = .ok (.iconst 0, 1) := by decide +kernel
theorem dX8_isFull_51 : decode cX8_isFull 51 = .ok (.ireturn, 1) := by decide +kernel
theorem dX8_turnOf_0 : decode cX8_turnOf 0 = .ok (.aload_n 0, 1) := by decide +kernel
theorem dX8_turnOf_1 : decode cX8_turnOf 1 = .ok (.getfield 13, 3) := by decide +kernel
theorem dX8_turnOf_4 : decode cX8_turnOf 4 = .ok (.iload_n 1, 1) := by decide +kernel
theorem dX8_turnOf_5 : decode cX8_turnOf 5 = .ok (.iaload, 1) := by decide +kernel
theorem dX8_turnOf_6 : decode cX8_turnOf 6 = .ok (.iconst (-1), 1) := by decide +kernel
theorem dX8_turnOf_7 : decode cX8_turnOf 7 = .ok (.if_icmp .ne 27, 3) := by decide +kernel
theorem dX8_turnOf_10 : decode cX8_turnOf 10 = .ok (.iconst 0, 1) := by decide +kernel
theorem dX8_turnOf_11 : decode cX8_turnOf 11 = .ok (.istore_n 2, 1) := by decide +kernel
theorem dX8_turnOf_12 : decode cX8_turnOf 12 = .ok (.aload_n 0, 1) := by decide +kernel
theorem dX8_turnOf_13 : decode cX8_turnOf 13 = .ok (.iload_n 1, 1) := by decide +kernel
theorem dX8_turnOf_14 : decode cX8_turnOf 14 = .ok (.iload_n 2, 1) := by decide +kernel
theorem dX8_turnOf_15 : decode cX8_turnOf 15 = .ok (.invokevirtual 103, 3) := by decide +kernel
theorem dX8_turnOf_18 : decode cX8_turnOf 18 = .ok (.ifCond .ne 9, 3) := by decide +kernel
theorem dX8_turnOf_21 : decode cX8_turnOf 21 = .ok (.iinc 2 1, 3) := by decide +kernel
theorem dX8_turnOf_24 : decode cX8_turnOf 24 = .ok (.goto (-12), 3) := by decide +kernel
theorem dX8_turnOf_27 : decode cX8_turnOf 27 = .ok (.aload_n 0, 1) := by decide +kernel
theorem dX8_turnOf_28 : decode cX8_turnOf 28 = .ok (.getfield 13, 3) := by decide +kernel
theorem dX8_turnOf_31 : decode cX8_turnOf 31 = .ok (.iload_n 1, 1) := by decide +kernel
theorem dX8_turnOf_32 : decode cX8_turnOf 32 = .ok (.iload_n 2, 1) := by decide +kernel
theorem dX8_turnOf_33 : decode cX8_turnOf 33 = .ok (.iastore, 1) := by decide +kernel
theorem dX8_turnOf_34 : decode cX8_turnOf 34 = .ok (.aload_n 0, 1) := by decide +kernel
theorem dX8_turnOf_35 : decode cX8_turnOf 35 = .ok (.getfield 13, 3) := by decide +kernel
theorem dX8_turnOf_38 : decode cX8_turnOf 38 = .ok (.iload_n 1, 1) := by decide +kernel
theorem dX8_turnOf_39 : decode cX8_turnOf 39 = .ok (.iaload, 1) := by decide +kernel
theorem dX8_turnOf_40 : decode cX8_turnOf 40 = .ok (.ireturn, 1) := by decide +kernel
theorem dX8_turn_0 : decode cX8_turn 0 = .ok (.aload_n 0, 1) := by decide +kernel
theorem dX8_turn_1 : decode cX8_turn 1 = .ok (.iload_n 1, 1) := by decide +kernel
theorem dX8_turn_2 : decode cX8_turn 2 = .ok (.invokestatic 107, 3) := by decide +kernel
theorem dX8_turn_5 : decode cX8_turn 5 = .ok (.ifCond .eq 7, 3) := by decide +kernel
theorem dX8_turn_8 : decode cX8_turn 8 = .ok (.iconst 0, 1) := by decide +kernel
theorem dX8_turn_9 : decode cX8_turn 9 = .ok (.goto 4, 3) := by decide +kernel
theorem dX8_turn_12 : decode cX8_turn 12 = .ok (.iconst 1, 1) := by decide +kernel
theorem dX8_turn_13 : decode cX8_turn 13 = .ok (.putfield 42, 3) := by decide +kernel
theorem dX8_turn_16 : decode cX8_turn 16 = .ok (.aload_n 0, 1) := by decide +kernel
theorem dX8_turn_17 : decode cX8_turn 17 = .ok (.getfield 42, 3) := by decide +kernel
theorem dX8_turn_20 : decode cX8_turn 20 = .ok (.ifCond .le 7, 3) := by decide +kernel
theorem dX8_turn_23 : decode cX8_turn 23 = .ok (.iconst 0, 1) := by decide +kernel
theorem dX8_turn_24 : decode cX8_turn 24 = .ok (.goto 8, 3) := by decide +kernel
theorem dX8_turn_27 : decode cX8_turn 27 = .ok (.aload_n 0, 1) := by decide +kernel
theorem dX8_turn_28 : decode cX8_turn 28 = .ok (.iload_n 1, 1) := by decide +kernel
theorem dX8_turn_29 : decode cX8_turn 29 = .ok (.invokevirtual 110, 3) := by decide +kernel
theorem dX8_turn_32 : decode cX8_turn 32 = .ok (.ireturn, 1) := by decide +kernel
theorem dX8_block_0 : decode cX8_block 0 = .ok (.aload_n 0, 1) := by decide +kernel
theorem dX8_block_1 : decode cX8_block 1 = .ok (.iload_n 1, 1) := by decide +kernel
theorem dX8_block_2 : decode cX8_block 2 = .ok (.invokestatic 107, 3) := by decide +kernel
theorem dX8_block_5 : decode cX8_block 5 = .ok (.ifCond .eq 20, 3) := by decide +kernel
theorem dX8_block_8 : decode cX8_block 8 = .ok (.iload_n 2, 1) := by decide +kernel
theorem dX8_block_9 : decode cX8_block 9 = .ok (.invokestatic 113, 3) := by decide +kernel
theorem dX8_block_12 : decode cX8_block 12 = .ok (.ifCond .eq 13, 3) := by decide +kernel
theorem dX8_block_15 : decode cX8_block 15 = .ok (.aload_n 0, 1) := by decide +kernel
theorem dX8_block_16 : decode cX8_block 16 = .ok (.getfield 46, 3) := by decide +kernel
theorem dX8_block_19 : decode cX8_block 19 = .ok (.iload_n 1, 1) := by decide +kernel
theorem dX8_block_20 : decode cX8_block 20 = .ok (.iload_n 2, 1) := by decide +kernel
theorem dX8_block_21 : decode cX8_block 21 = .ok (.imul, 1) := by decide +kernel
theorem dX8_block_22 : decode cX8_block 22 = .ok (.if_icmp .eq 7, 3) := by decide +kernel
theorem dX8_block_25 : decode cX8_block 25 = .ok (.iconst 1, 1) := by decide +kernel
theorem dX8_block_26 : decode cX8_block 26 = .ok (.goto 4, 3) := by decide +kernel
theorem dX8_block_29 : decode cX8_block 29 = .ok (.iconst 0, 1) := by decide +kernel
theorem dX8_block_30 : decode cX8_block 30 = .ok (.putfield 42, 3) := by decide +kernel
theorem dX8_block_33 : decode cX8_block 33 = .ok (.aload_n 0, 1) := by decide +kernel
theorem dX8_block_34 : decode cX8_block 34 = .ok (.getfield 42, 3) := by decide +kernel
theorem dX8_block_37 : decode cX8_block 37 = .ok (.ifCond .le 4, 3) := by decide +kernel
theorem dX8_block_40 : decode cX8_block 40 = .ok (.return_, 1) := by decide +kernel
theorem dX8_block_41 : decode cX8_block 41 = .ok (.aload_n 0, 1) := by decide +kernel
theorem dX8_block_42 : decode cX8_block 42 = .ok (.iload_n 1, 1) := by decide +kernel
theorem dX8_block_43 : decode cX8_block 43 = .ok (.invokevirtual 110, 3) := by decide +kernel
theorem dX8_block_46 : decode cX8_block 46 = .ok (.istore_n 3, 1) := by decide +kernel
theorem dX8_block_47 : decode cX8_block 47 = .ok (.iload_n 1, 1) := by decide +kernel
theorem dX8_block_48 : decode cX8_block 48 = .ok (.bipush 11, 2) := by decide +kernel
theorem dX8_block_50 : decode cX8_block 50 = .ok (.iadd, 1) := by decide +kernel
theorem dX8_block_51 : decode cX8_block 51 = .ok (.istore 4, 2) := by decide +kernel
theorem dX8_block_53 : decode cX8_block 53 = .ok (.aload_n 0, 1) := by decide +kernel
theorem dX8_block_54 : decode cX8_block 54 = .ok (.iload_n 1, 1) := by decide +kernel
theorem dX8_block_55 : decode cX8_block 55 = .ok (.invokevirtual 95, 3) := by decide +kernel
theorem dX8_block_58 : decode cX8_block 58 = .ok (.iconst 0, 1) := by decide +kernel
theorem dX8_block_59 : decode cX8_block 59 = .ok (.istore 5, 2) := by decide +kernel
theorem dX8_block_61 : decode cX8_block 61 = .ok (.iload 5, 2) := by decide +kernel
theorem dX8_block_63 : decode cX8_block 63 = .ok (.iload_n 1, 1) := by decide +kernel
theorem dX8_block_64 : decode cX8_block 64 = .ok (.if_icmp .ge 66, 3) := by decide +kernel
theorem dX8_block_67 : decode cX8_block 67 = .ok (.aload_n 0, 1) := by decide +kernel
theorem dX8_block_68 : decode cX8_block 68 = .ok (.iload_n 1, 1) := by decide +kernel
theorem dX8_block_69 : decode cX8_block 69 = .ok (.iload_n 3, 1) := by decide +kernel
theorem dX8_block_70 : decode cX8_block 70 = .ok (.iload 5, 2) := by decide +kernel
theorem dX8_block_72 : decode cX8_block 72 = .ok (.invokevirtual 99, 3) := by decide +kernel
theorem dX8_block_75 : decode cX8_block 75 = .ok (.pop, 1) := by decide +kernel
theorem dX8_block_76 : decode cX8_block 76 = .ok (.iconst 0, 1) := by decide +kernel
theorem dX8_block_77 : decode cX8_block 77 = .ok (.istore 6, 2) := by decide +kernel
theorem dX8_block_79 : decode cX8_block 79 = .ok (.iload 6, 2) := by decide +kernel
theorem dX8_block_81 : decode cX8_block 81 = .ok (.iload_n 2, 1) := by decide +kernel
theorem dX8_block_82 : decode cX8_block 82 = .ok (.if_icmp .ge 35, 3) := by decide +kernel
theorem dX8_block_85 : decode cX8_block 85 = .ok (.aload_n 0, 1) := by decide +kernel
theorem dX8_block_86 : decode cX8_block 86 = .ok (.getfield 29, 3) := by decide +kernel
theorem dX8_block_89 : decode cX8_block 89 = .ok (.bipush 59, 2) := by decide +kernel
theorem dX8_block_91 : decode cX8_block 91 = .ok (.iload 6, 2) := by decide +kernel
theorem dX8_block_93 : decode cX8_block 93 = .ok (.iadd, 1) := by decide +kernel
theorem dX8_block_94 : decode cX8_block 94 = .ok (.aload_n 0, 1) := by decide +kernel
theorem dX8_block_95 : decode cX8_block 95 = .ok (.getfield 7, 3) := by decide +kernel
theorem dX8_block_98 : decode cX8_block 98 = .ok (.iload_n 2, 1) := by decide +kernel
theorem dX8_block_99 : decode cX8_block 99 = .ok (.iload 5, 2) := by decide +kernel
theorem dX8_block_101 : decode cX8_block 101 = .ok (.imul, 1) := by decide +kernel
theorem dX8_block_102 : decode cX8_block 102 = .ok (.iload 6, 2) := by decide +kernel
theorem dX8_block_104 : decode cX8_block 104 = .ok (.iadd, 1) := by decide +kernel
theorem dX8_block_105 : decode cX8_block 105 = .ok (.baload, 1) := by decide +kernel
theorem dX8_block_106 : decode cX8_block 106 = .ok (.sipush 255, 3) := by decide +kernel
theorem dX8_block_109 : decode cX8_block 109 = .ok (.iand, 1) := by decide +kernel
theorem dX8_block_110 : decode cX8_block 110 = .ok (.iastore, 1) := by decide +kernel
theorem dX8_block_111 : decode cX8_block 111 = .ok (.iinc 6 1, 3) := by decide +kernel
theorem dX8_block_114 : decode cX8_block 114 = .ok (.goto (-35), 3) := by decide +kernel
theorem dX8_block_117 : decode cX8_block 117 = .ok (.aload_n 0, 1) := by decide +kernel
theorem dX8_block_118 : decode cX8_block 118 = .ok (.iload 4, 2) := by decide +kernel
theorem dX8_block_120 : decode cX8_block 120 = .ok (.invokevirtual 92, 3) := by decide +kernel
theorem dX8_block_123 : decode cX8_block 123 = .ok (.pop, 1) := by decide +kernel
theorem dX8_block_124 : decode cX8_block 124 = .ok (.iinc 5 1, 3) := by decide +kernel
theorem dX8_block_127 : decode cX8_block 127 = .ok (.goto (-66), 3) := by decide +kernel
theorem dX8_block_130 : decode cX8_block 130 = .ok (.iconst 0, 1) := by decide +kernel
theorem dX8_block_131 : decode cX8_block 131 = .ok (.istore 5, 2) := by decide +kernel
theorem dX8_block_133 : decode cX8_block 133 = .ok (.iload 5, 2) := by decide +kernel
theorem dX8_block_135 : decode cX8_block 135 = .ok (.iload 4, 2) := by decide +kernel
theorem dX8_block_137 : decode cX8_block 137 = .ok (.if_icmp .ge 58, 3) := by decide +kernel
theorem dX8_block_140 : decode cX8_block 140 = .ok (.iconst 0, 1) := by decide +kernel
theorem dX8_block_141 : decode cX8_block 141 = .ok (.istore 6, 2) := by decide +kernel
theorem dX8_block_143 : decode cX8_block 143 = .ok (.iload 6, 2) := by decide +kernel
theorem dX8_block_145 : decode cX8_block 145 = .ok (.iload_n 2, 1) := by decide +kernel
theorem dX8_block_146 : decode cX8_block 146 = .ok (.if_icmp .ge 43, 3) := by decide +kernel
theorem dX8_block_149 : decode cX8_block 149 = .ok (.aload_n 0, 1) := by decide +kernel
theorem dX8_block_150 : decode cX8_block 150 = .ok (.getfield 17, 3) := by decide +kernel
theorem dX8_block_153 : decode cX8_block 153 = .ok (.bipush 16, 2) := by decide +kernel
theorem dX8_block_155 : decode cX8_block 155 = .ok (.aload_n 0, 1) := by decide +kernel
theorem dX8_block_156 : decode cX8_block 156 = .ok (.getfield 26, 3) := by decide +kernel
theorem dX8_block_159 : decode cX8_block 159 = .ok (.iload 5, 2) := by decide +kernel
theorem dX8_block_161 : decode cX8_block 161 = .ok (.iaload, 1) := by decide +kernel
theorem dX8_block_162 : decode cX8_block 162 = .ok (.imul, 1) := by decide +kernel
theorem dX8_block_163 : decode cX8_block 163 = .ok (.iload 6, 2) := by decide +kernel
theorem dX8_block_165 : decode cX8_block 165 = .ok (.iadd, 1) := by decide +kernel
theorem dX8_block_166 : decode cX8_block 166 = .ok (.aload_n 0, 1) := by decide +kernel
theorem dX8_block_167 : decode cX8_block 167 = .ok (.getfield 23, 3) := by decide +kernel
theorem dX8_block_170 : decode cX8_block 170 = .ok (.bipush 75, 2) := by decide +kernel
theorem dX8_block_172 : decode cX8_block 172 = .ok (.iload 5, 2) := by decide +kernel
theorem dX8_block_174 : decode cX8_block 174 = .ok (.imul, 1) := by decide +kernel
theorem dX8_block_175 : decode cX8_block 175 = .ok (.bipush 59, 2) := by decide +kernel
theorem dX8_block_177 : decode cX8_block 177 = .ok (.iadd, 1) := by decide +kernel
theorem dX8_block_178 : decode cX8_block 178 = .ok (.iload 6, 2) := by decide +kernel
theorem dX8_block_180 : decode cX8_block 180 = .ok (.iadd, 1) := by decide +kernel
theorem dX8_block_181 : decode cX8_block 181 = .ok (.iaload, 1) := by decide +kernel
theorem dX8_block_182 : decode cX8_block 182 = .ok (.iastore, 1) := by decide +kernel
theorem dX8_block_183 : decode cX8_block 183 = .ok (.iinc 6 1, 3) := by decide +kernel
theorem dX8_block_186 : decode cX8_block 186 = .ok (.goto (-43), 3) := by decide +kernel
theorem dX8_block_189 : decode cX8_block 189 = .ok (.iinc 5 1, 3) := by decide +kernel
theorem dX8_block_192 : decode cX8_block 192 = .ok (.goto (-59), 3) := by decide +kernel
theorem dX8_block_195 : decode cX8_block 195 = .ok (.aload_n 0, 1) := by decide +kernel
theorem dX8_block_196 : decode cX8_block 196 = .ok (.iload_n 1, 1) := by decide +kernel
theorem dX8_block_197 : decode cX8_block 197 = .ok (.putfield 116, 3) := by decide +kernel
theorem dX8_block_200 : decode cX8_block 200 = .ok (.aload_n 0, 1) := by decide +kernel
theorem dX8_block_201 : decode cX8_block 201 = .ok (.iload_n 2, 1) := by decide +kernel
theorem dX8_block_202 : decode cX8_block 202 = .ok (.putfield 119, 3) := by decide +kernel
theorem dX8_block_205 : decode cX8_block 205 = .ok (.aload_n 0, 1) := by decide +kernel
theorem dX8_block_206 : decode cX8_block 206 = .ok (.iconst 0, 1) := by decide +kernel
theorem dX8_block_207 : decode cX8_block 207 = .ok (.putfield 46, 3) := by decide +kernel
theorem dX8_block_210 : decode cX8_block 210 = .ok (.return_, 1) := by decide +kernel
theorem dX8_isPacket_0 : decode cX8_isPacket 0 = .ok (.iload_n 0, 1) := by decide +kernel
theorem dX8_isPacket_1 : decode cX8_isPacket 1 = .ok (.ifCond .lt 13, 3) := by decide +kernel
theorem dX8_isPacket_4 : decode cX8_isPacket 4 = .ok (.iload_n 0, 1) := by decide +kernel
theorem dX8_isPacket_5 : decode cX8_isPacket 5 = .ok (.ldc 122, 2) := by decide +kernel
theorem dX8_isPacket_7 : decode cX8_isPacket 7 = .ok (.if_icmp .ge 7, 3) := by decide +kernel
theorem dX8_isPacket_10 : decode cX8_isPacket 10 = .ok (.iconst 1, 1) := by decide +kernel
theorem dX8_isPacket_11 : decode cX8_isPacket 11 = .ok (.goto 4, 3) := by decide +kernel
theorem dX8_isPacket_14 : decode cX8_isPacket 14 = .ok (.iconst 0, 1) := by decide +kernel
theorem dX8_isPacket_15 : decode cX8_isPacket 15 = .ok (.ireturn, 1) := by decide +kernel
theorem dX8_summed_0 : decode cX8_summed 0 = .ok (.iconst 0, 1) := by decide +kernel
theorem dX8_summed_1 : decode cX8_summed 1 = .ok (.istore_n 2, 1) := by decide +kernel
theorem dX8_summed_2 : decode cX8_summed 2 = .ok (.iconst 0, 1) := by decide +kernel
theorem dX8_summed_3 : decode cX8_summed 3 = .ok (.istore_n 3, 1) := by decide +kernel
theorem dX8_summed_4 : decode cX8_summed 4 = .ok (.iload_n 3, 1) := by decide +kernel
theorem dX8_summed_5 : decode cX8_summed 5 = .ok (.aload_n 0, 1) := by decide +kernel
theorem dX8_summed_6 : decode cX8_summed 6 = .ok (.getfield 116, 3) := by decide +kernel
theorem dX8_summed_9 : decode cX8_summed 9 = .ok (.bipush 11, 2) := by decide +kernel
theorem dX8_summed_11 : decode cX8_summed 11 = .ok (.iadd, 1) := by decide +kernel
theorem dX8_summed_12 : decode cX8_summed 12 = .ok (.if_icmp .ge 37, 3) := by decide +kernel
theorem dX8_summed_15 : decode cX8_summed 15 = .ok (.iload_n 2, 1) := by decide +kernel
theorem dX8_summed_16 : decode cX8_summed 16 = .ok (.aload_n 0, 1) := by decide +kernel
theorem dX8_summed_17 : decode cX8_summed 17 = .ok (.getfield 29, 3) := by decide +kernel
theorem dX8_summed_20 : decode cX8_summed 20 = .ok (.iload_n 3, 1) := by decide +kernel
theorem dX8_summed_21 : decode cX8_summed 21 = .ok (.iaload, 1) := by decide +kernel
theorem dX8_summed_22 : decode cX8_summed 22 = .ok (.iconst 1, 1) := by decide +kernel
theorem dX8_summed_23 : decode cX8_summed 23 = .ok (.if_icmp .ne 17, 3) := by decide +kernel
theorem dX8_summed_26 : decode cX8_summed 26 = .ok (.aload_n 0, 1) := by decide +kernel
theorem dX8_summed_27 : decode cX8_summed 27 = .ok (.getfield 17, 3) := by decide +kernel
theorem dX8_summed_30 : decode cX8_summed 30 = .ok (.bipush 16, 2) := by decide +kernel
theorem dX8_summed_32 : decode cX8_summed 32 = .ok (.iload_n 3, 1) := by decide +kernel
theorem dX8_summed_33 : decode cX8_summed 33 = .ok (.imul, 1) := by decide +kernel
theorem dX8_summed_34 : decode cX8_summed 34 = .ok (.iload_n 1, 1) := by decide +kernel
theorem dX8_summed_35 : decode cX8_summed 35 = .ok (.iadd, 1) := by decide +kernel
theorem dX8_summed_36 : decode cX8_summed 36 = .ok (.iaload, 1) := by decide +kernel
theorem dX8_summed_37 : decode cX8_summed 37 = .ok (.goto 4, 3) := by decide +kernel
theorem dX8_summed_40 : decode cX8_summed 40 = .ok (.iconst 0, 1) := by decide +kernel
theorem dX8_summed_41 : decode cX8_summed 41 = .ok (.ixor, 1) := by decide +kernel
theorem dX8_summed_42 : decode cX8_summed 42 = .ok (.istore_n 2, 1) := by decide +kernel
theorem dX8_summed_43 : decode cX8_summed 43 = .ok (.iinc 3 1, 3) := by decide +kernel
theorem dX8_summed_46 : decode cX8_summed 46 = .ok (.goto (-42), 3) := by decide +kernel
theorem dX8_summed_49 : decode cX8_summed 49 = .ok (.iload_n 2, 1) := by decide +kernel
theorem dX8_summed_50 : decode cX8_summed 50 = .ok (.ireturn, 1) := by decide +kernel
theorem dX8_byteAt_0 : decode cX8_byteAt 0 = .ok (.aload_n 0, 1) := by decide +kernel
theorem dX8_byteAt_1 : decode cX8_byteAt 1 = .ok (.aload_n 0, 1) := by decide +kernel
theorem dX8_byteAt_2 : decode cX8_byteAt 2 = .ok (.getfield 116, 3) := by decide +kernel
theorem dX8_byteAt_5 : decode cX8_byteAt 5 = .ok (.ifCond .ne 7, 3) := by decide +kernel
theorem dX8_byteAt_8 : decode cX8_byteAt 8 = .ok (.iconst 1, 1) := by decide +kernel
theorem dX8_byteAt_9 : decode cX8_byteAt 9 = .ok (.goto 27, 3) := by decide +kernel
theorem dX8_byteAt_12 : decode cX8_byteAt 12 = .ok (.iload_n 1, 1) := by decide +kernel
theorem dX8_byteAt_13 : decode cX8_byteAt 13 = .ok (.invokestatic 123, 3) := by decide +kernel
theorem dX8_byteAt_16 : decode cX8_byteAt 16 = .ok (.ifCond .eq 15, 3) := by decide +kernel
theorem dX8_byteAt_19 : decode cX8_byteAt 19 = .ok (.iload_n 2, 1) := by decide +kernel
theorem dX8_byteAt_20 : decode cX8_byteAt 20 = .ok (.ifCond .lt 11, 3) := by decide +kernel
theorem dX8_byteAt_23 : decode cX8_byteAt 23 = .ok (.iload_n 2, 1) := by decide +kernel
theorem dX8_byteAt_24 : decode cX8_byteAt 24 = .ok (.aload_n 0, 1) := by decide +kernel
theorem dX8_byteAt_25 : decode cX8_byteAt 25 = .ok (.getfield 119, 3) := by decide +kernel
theorem dX8_byteAt_28 : decode cX8_byteAt 28 = .ok (.if_icmp .lt 7, 3) := by decide +kernel
theorem dX8_byteAt_31 : decode cX8_byteAt 31 = .ok (.iconst 2, 1) := by decide +kernel
theorem dX8_byteAt_32 : decode cX8_byteAt 32 = .ok (.goto 4, 3) := by decide +kernel
theorem dX8_byteAt_35 : decode cX8_byteAt 35 = .ok (.iconst 0, 1) := by decide +kernel
theorem dX8_byteAt_36 : decode cX8_byteAt 36 = .ok (.putfield 42, 3) := by decide +kernel
theorem dX8_byteAt_39 : decode cX8_byteAt 39 = .ok (.aload_n 0, 1) := by decide +kernel
theorem dX8_byteAt_40 : decode cX8_byteAt 40 = .ok (.getfield 42, 3) := by decide +kernel
theorem dX8_byteAt_43 : decode cX8_byteAt 43 = .ok (.ifCond .le 5, 3) := by decide +kernel
theorem dX8_byteAt_46 : decode cX8_byteAt 46 = .ok (.iconst 0, 1) := by decide +kernel
theorem dX8_byteAt_47 : decode cX8_byteAt 47 = .ok (.ireturn, 1) := by decide +kernel
theorem dX8_byteAt_48 : decode cX8_byteAt 48 = .ok (.aload_n 0, 1) := by decide +kernel
theorem dX8_byteAt_49 : decode cX8_byteAt 49 = .ok (.aload_n 0, 1) := by decide +kernel
theorem dX8_byteAt_50 : decode cX8_byteAt 50 = .ok (.getfield 116, 3) := by decide +kernel
theorem dX8_byteAt_53 : decode cX8_byteAt 53 = .ok (.aload_n 0, 1) := by decide +kernel
theorem dX8_byteAt_54 : decode cX8_byteAt 54 = .ok (.aload_n 0, 1) := by decide +kernel
theorem dX8_byteAt_55 : decode cX8_byteAt 55 = .ok (.getfield 116, 3) := by decide +kernel
theorem dX8_byteAt_58 : decode cX8_byteAt 58 = .ok (.invokevirtual 110, 3) := by decide +kernel
theorem dX8_byteAt_61 : decode cX8_byteAt 61 = .ok (.iload_n 1, 1) := by decide +kernel
theorem dX8_byteAt_62 : decode cX8_byteAt 62 = .ok (.invokevirtual 99, 3) := by decide +kernel
theorem dX8_byteAt_65 : decode cX8_byteAt 65 = .ok (.pop, 1) := by decide +kernel
theorem dX8_byteAt_66 : decode cX8_byteAt 66 = .ok (.aload_n 0, 1) := by decide +kernel
theorem dX8_byteAt_67 : decode cX8_byteAt 67 = .ok (.iload_n 2, 1) := by decide +kernel
theorem dX8_byteAt_68 : decode cX8_byteAt 68 = .ok (.invokevirtual 126, 3) := by decide +kernel
theorem dX8_byteAt_71 : decode cX8_byteAt 71 = .ok (.ireturn, 1) := by decide +kernel
theorem dX8_row_0 : decode cX8_row 0 = .ok (.aload_n 0, 1) := by decide +kernel
theorem dX8_row_1 : decode cX8_row 1 = .ok (.iload_n 1, 1) := by decide +kernel
theorem dX8_row_2 : decode cX8_row 2 = .ok (.invokestatic 107, 3) := by decide +kernel
theorem dX8_row_5 : decode cX8_row 5 = .ok (.ifCond .ne 7, 3) := by decide +kernel
theorem dX8_row_8 : decode cX8_row 8 = .ok (.iconst 1, 1) := by decide +kernel
theorem dX8_row_9 : decode cX8_row 9 = .ok (.goto 15, 3) := by decide +kernel
theorem dX8_row_12 : decode cX8_row 12 = .ok (.iload_n 2, 1) := by decide +kernel
theorem dX8_row_13 : decode cX8_row 13 = .ok (.invokestatic 123, 3) := by decide +kernel
theorem dX8_row_16 : decode cX8_row 16 = .ok (.ifCond .eq 7, 3) := by decide +kernel
theorem dX8_row_19 : decode cX8_row 19 = .ok (.iconst 0, 1) := by decide +kernel
theorem dX8_row_20 : decode cX8_row 20 = .ok (.goto 4, 3) := by decide +kernel
theorem dX8_row_23 : decode cX8_row 23 = .ok (.iconst 2, 1) := by decide +kernel
theorem dX8_row_24 : decode cX8_row 24 = .ok (.putfield 42, 3) := by decide +kernel
theorem dX8_row_27 : decode cX8_row 27 = .ok (.aload_n 0, 1) := by decide +kernel
theorem dX8_row_28 : decode cX8_row 28 = .ok (.getfield 42, 3) := by decide +kernel
theorem dX8_row_31 : decode cX8_row 31 = .ok (.ifCond .le 5, 3) := by decide +kernel
theorem dX8_row_34 : decode cX8_row 34 = .ok (.iconst 0, 1) := by decide +kernel
theorem dX8_row_35 : decode cX8_row 35 = .ok (.ireturn, 1) := by decide +kernel
theorem dX8_row_36 : decode cX8_row 36 = .ok (.aload_n 0, 1) := by decide +kernel
theorem dX8_row_37 : decode cX8_row 37 = .ok (.iload_n 1, 1) := by decide +kernel
theorem dX8_row_38 : decode cX8_row 38 = .ok (.aload_n 0, 1) := by decide +kernel
theorem dX8_row_39 : decode cX8_row 39 = .ok (.iload_n 1, 1) := by decide +kernel
theorem dX8_row_40 : decode cX8_row 40 = .ok (.invokevirtual 110, 3) := by decide +kernel
theorem dX8_row_43 : decode cX8_row 43 = .ok (.iload_n 2, 1) := by decide +kernel
theorem dX8_row_44 : decode cX8_row 44 = .ok (.invokevirtual 99, 3) := by decide +kernel
theorem dX8_row_47 : decode cX8_row 47 = .ok (.istore 4, 2) := by decide +kernel
theorem dX8_row_49 : decode cX8_row 49 = .ok (.iload_n 1, 1) := by decide +kernel
theorem dX8_row_50 : decode cX8_row 50 = .ok (.bipush 10, 2) := by decide +kernel
theorem dX8_row_52 : decode cX8_row 52 = .ok (.iadd, 1) := by decide +kernel
theorem dX8_row_53 : decode cX8_row 53 = .ok (.istore 5, 2) := by decide +kernel
theorem dX8_row_55 : decode cX8_row 55 = .ok (.aload_n 0, 1) := by decide +kernel
theorem dX8_row_56 : decode cX8_row 56 = .ok (.getfield 29, 3) := by decide +kernel
theorem dX8_row_59 : decode cX8_row 59 = .ok (.iload 5, 2) := by decide +kernel
theorem dX8_row_61 : decode cX8_row 61 = .ok (.iaload, 1) := by decide +kernel
theorem dX8_row_62 : decode cX8_row 62 = .ok (.ifCond .ne 9, 3) := by decide +kernel
theorem dX8_row_65 : decode cX8_row 65 = .ok (.iinc 5 (-1), 3) := by decide +kernel
theorem dX8_row_68 : decode cX8_row 68 = .ok (.goto (-13), 3) := by decide +kernel
theorem dX8_row_71 : decode cX8_row 71 = .ok (.iload_n 3, 1) := by decide +kernel
theorem dX8_row_72 : decode cX8_row 72 = .ok (.ifCond .eq 8, 3) := by decide +kernel
theorem dX8_row_75 : decode cX8_row 75 = .ok (.iload 5, 2) := by decide +kernel
theorem dX8_row_77 : decode cX8_row 77 = .ok (.goto 5, 3) := by decide +kernel
theorem dX8_row_80 : decode cX8_row 80 = .ok (.iload 4, 2) := by decide +kernel
theorem dX8_row_82 : decode cX8_row 82 = .ok (.ireturn, 1) := by decide +kernel
theorem dX8_open_0 : decode cX8_open 0 = .ok (.aload_n 0, 1) := by decide +kernel
theorem dX8_open_1 : decode cX8_open 1 = .ok (.iload_n 1, 1) := by decide +kernel
theorem dX8_open_2 : decode cX8_open 2 = .ok (.invokestatic 107, 3) := by decide +kernel
theorem dX8_open_5 : decode cX8_open 5 = .ok (.ifCond .eq 14, 3) := by decide +kernel
theorem dX8_open_8 : decode cX8_open 8 = .ok (.iload_n 2, 1) := by decide +kernel
theorem dX8_open_9 : decode cX8_open 9 = .ok (.invokestatic 113, 3) := by decide +kernel
theorem dX8_open_12 : decode cX8_open 12 = .ok (.ifCond .eq 7, 3) := by decide +kernel
theorem dX8_open_15 : decode cX8_open 15 = .ok (.iconst 0, 1) := by decide +kernel
theorem dX8_open_16 : decode cX8_open 16 = .ok (.goto 4, 3) := by decide +kernel
theorem dX8_open_19 : decode cX8_open 19 = .ok (.iconst 1, 1) := by decide +kernel
theorem dX8_open_20 : decode cX8_open 20 = .ok (.putfield 42, 3) := by decide +kernel
theorem dX8_open_23 : decode cX8_open 23 = .ok (.aload_n 0, 1) := by decide +kernel
theorem dX8_open_24 : decode cX8_open 24 = .ok (.getfield 42, 3) := by decide +kernel
theorem dX8_open_27 : decode cX8_open 27 = .ok (.ifCond .ne 34, 3) := by decide +kernel
theorem dX8_open_30 : decode cX8_open 30 = .ok (.aload_n 0, 1) := by decide +kernel
theorem dX8_open_31 : decode cX8_open 31 = .ok (.iload_n 1, 1) := by decide +kernel
theorem dX8_open_32 : decode cX8_open 32 = .ok (.invokevirtual 110, 3) := by decide +kernel
theorem dX8_open_35 : decode cX8_open 35 = .ok (.pop, 1) := by decide +kernel
theorem dX8_open_36 : decode cX8_open 36 = .ok (.aload_n 0, 1) := by decide +kernel
theorem dX8_open_37 : decode cX8_open 37 = .ok (.iload_n 1, 1) := by decide +kernel
theorem dX8_open_38 : decode cX8_open 38 = .ok (.putfield 129, 3) := by decide +kernel
theorem dX8_open_41 : decode cX8_open 41 = .ok (.aload_n 0, 1) := by decide +kernel
theorem dX8_open_42 : decode cX8_open 42 = .ok (.iload_n 2, 1) := by decide +kernel
theorem dX8_open_43 : decode cX8_open 43 = .ok (.putfield 132, 3) := by decide +kernel
theorem dX8_open_46 : decode cX8_open 46 = .ok (.aload_n 0, 1) := by decide +kernel
theorem dX8_open_47 : decode cX8_open 47 = .ok (.iconst 0, 1) := by decide +kernel
theorem dX8_open_48 : decode cX8_open 48 = .ok (.putfield 84, 3) := by decide +kernel
theorem dX8_open_51 : decode cX8_open 51 = .ok (.aload_n 0, 1) := by decide +kernel
theorem dX8_open_52 : decode cX8_open 52 = .ok (.iconst 0, 1) := by decide +kernel
theorem dX8_open_53 : decode cX8_open 53 = .ok (.putfield 135, 3) := by decide +kernel
theorem dX8_open_56 : decode cX8_open 56 = .ok (.aload_n 0, 1) := by decide +kernel
theorem dX8_open_57 : decode cX8_open 57 = .ok (.iconst 0, 1) := by decide +kernel
theorem dX8_open_58 : decode cX8_open 58 = .ok (.putfield 138, 3) := by decide +kernel
theorem dX8_open_61 : decode cX8_open 61 = .ok (.return_, 1) := by decide +kernel
theorem dX8_gather_0 : decode cX8_gather 0 = .ok (.aload_n 0, 1) := by decide +kernel
theorem dX8_gather_1 : decode cX8_gather 1 = .ok (.getfield 84, 3) := by decide +kernel
theorem dX8_gather_4 : decode cX8_gather 4 = .ok (.ifCond .eq 4, 3) := by decide +kernel
theorem dX8_gather_7 : decode cX8_gather 7 = .ok (.return_, 1) := by decide +kernel
theorem dX8_gather_8 : decode cX8_gather 8 = .ok (.aload_n 0, 1) := by decide +kernel
theorem dX8_gather_9 : decode cX8_gather 9 = .ok (.aload_n 0, 1) := by decide +kernel
theorem dX8_gather_10 : decode cX8_gather 10 = .ok (.getfield 129, 3) := by decide +kernel
theorem dX8_gather_13 : decode cX8_gather 13 = .ok (.invokevirtual 95, 3) := by decide +kernel
theorem dX8_gather_16 : decode cX8_gather 16 = .ok (.iconst 0, 1) := by decide +kernel
theorem dX8_gather_17 : decode cX8_gather 17 = .ok (.istore_n 1, 1) := by decide +kernel
theorem dX8_gather_18 : decode cX8_gather 18 = .ok (.iload_n 1, 1) := by decide +kernel
theorem dX8_gather_19 : decode cX8_gather 19 = .ok (.aload_n 0, 1) := by decide +kernel
theorem dX8_gather_20 : decode cX8_gather 20 = .ok (.getfield 135, 3) := by decide +kernel
theorem dX8_gather_23 : decode cX8_gather 23 = .ok (.if_icmp .ge 52, 3) := by decide +kernel
theorem dX8_gather_26 : decode cX8_gather 26 = .ok (.iconst 0, 1) := by decide +kernel
theorem dX8_gather_27 : decode cX8_gather 27 = .ok (.istore_n 2, 1) := by decide +kernel
theorem dX8_gather_28 : decode cX8_gather 28 = .ok (.iload_n 2, 1) := by decide +kernel
theorem dX8_gather_29 : decode cX8_gather 29 = .ok (.bipush 75, 2) := by decide +kernel
theorem dX8_gather_31 : decode cX8_gather 31 = .ok (.if_icmp .ge 26, 3) := by decide +kernel
theorem dX8_gather_34 : decode cX8_gather 34 = .ok (.aload_n 0, 1) := by decide +kernel
theorem dX8_gather_35 : decode cX8_gather 35 = .ok (.getfield 29, 3) := by decide +kernel
theorem dX8_gather_38 : decode cX8_gather 38 = .ok (.iload_n 2, 1) := by decide +kernel
theorem dX8_gather_39 : decode cX8_gather 39 = .ok (.aload_n 0, 1) := by decide +kernel
theorem dX8_gather_40 : decode cX8_gather 40 = .ok (.getfield 20, 3) := by decide +kernel
theorem dX8_gather_43 : decode cX8_gather 43 = .ok (.bipush 75, 2) := by decide +kernel
theorem dX8_gather_45 : decode cX8_gather 45 = .ok (.iload_n 1, 1) := by decide +kernel
theorem dX8_gather_46 : decode cX8_gather 46 = .ok (.imul, 1) := by decide +kernel
theorem dX8_gather_47 : decode cX8_gather 47 = .ok (.iload_n 2, 1) := by decide +kernel
theorem dX8_gather_48 : decode cX8_gather 48 = .ok (.iadd, 1) := by decide +kernel
theorem dX8_gather_49 : decode cX8_gather 49 = .ok (.iaload, 1) := by decide +kernel
theorem dX8_gather_50 : decode cX8_gather 50 = .ok (.iastore, 1) := by decide +kernel
theorem dX8_gather_51 : decode cX8_gather 51 = .ok (.iinc 2 1, 3) := by decide +kernel
theorem dX8_gather_54 : decode cX8_gather 54 = .ok (.goto (-26), 3) := by decide +kernel
theorem dX8_gather_57 : decode cX8_gather 57 = .ok (.aload_n 0, 1) := by decide +kernel
theorem dX8_gather_58 : decode cX8_gather 58 = .ok (.aload_n 0, 1) := by decide +kernel
theorem dX8_gather_59 : decode cX8_gather 59 = .ok (.getfield 129, 3) := by decide +kernel
theorem dX8_gather_62 : decode cX8_gather 62 = .ok (.bipush 11, 2) := by decide +kernel
theorem dX8_gather_64 : decode cX8_gather 64 = .ok (.iadd, 1) := by decide +kernel
theorem dX8_gather_65 : decode cX8_gather 65 = .ok (.invokevirtual 92, 3) := by decide +kernel
theorem dX8_gather_68 : decode cX8_gather 68 = .ok (.pop, 1) := by decide +kernel
theorem dX8_gather_69 : decode cX8_gather 69 = .ok (.iinc 1 1, 3) := by decide +kernel
theorem dX8_gather_72 : decode cX8_gather 72 = .ok (.goto (-54), 3) := by decide +kernel
theorem dX8_gather_75 : decode cX8_gather 75 = .ok (.aload_n 0, 1) := by decide +kernel
theorem dX8_gather_76 : decode cX8_gather 76 = .ok (.iconst 1, 1) := by decide +kernel
theorem dX8_gather_77 : decode cX8_gather 77 = .ok (.putfield 84, 3) := by decide +kernel
theorem dX8_gather_80 : decode cX8_gather 80 = .ok (.return_, 1) := by decide +kernel
theorem dX8_comes_0 : decode cX8_comes 0 = .ok (.aload_n 0, 1) := by decide +kernel
theorem dX8_comes_1 : decode cX8_comes 1 = .ok (.aload_n 0, 1) := by decide +kernel
theorem dX8_comes_2 : decode cX8_comes 2 = .ok (.getfield 129, 3) := by decide +kernel
theorem dX8_comes_5 : decode cX8_comes 5 = .ok (.invokevirtual 110, 3) := by decide +kernel
theorem dX8_comes_8 : decode cX8_comes 8 = .ok (.pop, 1) := by decide +kernel
theorem dX8_comes_9 : decode cX8_comes 9 = .ok (.aload_n 0, 1) := by decide +kernel
theorem dX8_comes_10 : decode cX8_comes 10 = .ok (.invokevirtual 141, 3) := by decide +kernel
theorem dX8_comes_13 : decode cX8_comes 13 = .ok (.aload_n 0, 1) := by decide +kernel
theorem dX8_comes_14 : decode cX8_comes 14 = .ok (.aload_n 0, 1) := by decide +kernel
theorem dX8_comes_15 : decode cX8_comes 15 = .ok (.getfield 129, 3) := by decide +kernel
theorem dX8_comes_18 : decode cX8_comes 18 = .ok (.aload_n 0, 1) := by decide +kernel
theorem dX8_comes_19 : decode cX8_comes 19 = .ok (.getfield 13, 3) := by decide +kernel
theorem dX8_comes_22 : decode cX8_comes 22 = .ok (.aload_n 0, 1) := by decide +kernel
theorem dX8_comes_23 : decode cX8_comes 23 = .ok (.getfield 129, 3) := by decide +kernel
theorem dX8_comes_26 : decode cX8_comes 26 = .ok (.iaload, 1) := by decide +kernel
theorem dX8_comes_27 : decode cX8_comes 27 = .ok (.iload_n 1, 1) := by decide +kernel
theorem dX8_comes_28 : decode cX8_comes 28 = .ok (.invokevirtual 99, 3) := by decide +kernel
theorem dX8_comes_31 : decode cX8_comes 31 = .ok (.pop, 1) := by decide +kernel
theorem dX8_comes_32 : decode cX8_comes 32 = .ok (.iconst 0, 1) := by decide +kernel
theorem dX8_comes_33 : decode cX8_comes 33 = .ok (.istore_n 2, 1) := by decide +kernel
theorem dX8_comes_34 : decode cX8_comes 34 = .ok (.iload_n 2, 1) := by decide +kernel
theorem dX8_comes_35 : decode cX8_comes 35 = .ok (.aload_n 0, 1) := by decide +kernel
theorem dX8_comes_36 : decode cX8_comes 36 = .ok (.getfield 132, 3) := by decide +kernel
theorem dX8_comes_39 : decode cX8_comes 39 = .ok (.if_icmp .ge 24, 3) := by decide +kernel
theorem dX8_comes_42 : decode cX8_comes 42 = .ok (.aload_n 0, 1) := by decide +kernel
theorem dX8_comes_43 : decode cX8_comes 43 = .ok (.getfield 29, 3) := by decide +kernel
theorem dX8_comes_46 : decode cX8_comes 46 = .ok (.bipush 59, 2) := by decide +kernel
theorem dX8_comes_48 : decode cX8_comes 48 = .ok (.iload_n 2, 1) := by decide +kernel
theorem dX8_comes_49 : decode cX8_comes 49 = .ok (.iadd, 1) := by decide +kernel
theorem dX8_comes_50 : decode cX8_comes 50 = .ok (.aload_n 0, 1) := by decide +kernel
theorem dX8_comes_51 : decode cX8_comes 51 = .ok (.getfield 35, 3) := by decide +kernel
theorem dX8_comes_54 : decode cX8_comes 54 = .ok (.iload_n 2, 1) := by decide +kernel
theorem dX8_comes_55 : decode cX8_comes 55 = .ok (.iaload, 1) := by decide +kernel
theorem dX8_comes_56 : decode cX8_comes 56 = .ok (.iastore, 1) := by decide +kernel
theorem dX8_comes_57 : decode cX8_comes 57 = .ok (.iinc 2 1, 3) := by decide +kernel
theorem dX8_comes_60 : decode cX8_comes 60 = .ok (.goto (-26), 3) := by decide +kernel
theorem dX8_comes_63 : decode cX8_comes 63 = .ok (.iconst 0, 1) := by decide +kernel
theorem dX8_comes_64 : decode cX8_comes 64 = .ok (.istore_n 2, 1) := by decide +kernel
theorem dX8_comes_65 : decode cX8_comes 65 = .ok (.iload_n 2, 1) := by decide +kernel
theorem dX8_comes_66 : decode cX8_comes 66 = .ok (.bipush 75, 2) := by decide +kernel
theorem dX8_comes_68 : decode cX8_comes 68 = .ok (.if_icmp .ge 29, 3) := by decide +kernel
theorem dX8_comes_71 : decode cX8_comes 71 = .ok (.aload_n 0, 1) := by decide +kernel
theorem dX8_comes_72 : decode cX8_comes 72 = .ok (.getfield 20, 3) := by decide +kernel
theorem dX8_comes_75 : decode cX8_comes 75 = .ok (.bipush 75, 2) := by decide +kernel
theorem dX8_comes_77 : decode cX8_comes 77 = .ok (.aload_n 0, 1) := by decide +kernel
theorem dX8_comes_78 : decode cX8_comes 78 = .ok (.getfield 135, 3) := by decide +kernel
theorem dX8_comes_81 : decode cX8_comes 81 = .ok (.imul, 1) := by decide +kernel
theorem dX8_comes_82 : decode cX8_comes 82 = .ok (.iload_n 2, 1) := by decide +kernel
theorem dX8_comes_83 : decode cX8_comes 83 = .ok (.iadd, 1) := by decide +kernel
theorem dX8_comes_84 : decode cX8_comes 84 = .ok (.aload_n 0, 1) := by decide +kernel
theorem dX8_comes_85 : decode cX8_comes 85 = .ok (.getfield 29, 3) := by decide +kernel
theorem dX8_comes_88 : decode cX8_comes 88 = .ok (.iload_n 2, 1) := by decide +kernel
theorem dX8_comes_89 : decode cX8_comes 89 = .ok (.iaload, 1) := by decide +kernel
theorem dX8_comes_90 : decode cX8_comes 90 = .ok (.iastore, 1) := by decide +kernel
theorem dX8_comes_91 : decode cX8_comes 91 = .ok (.iinc 2 1, 3) := by decide +kernel
theorem dX8_comes_94 : decode cX8_comes 94 = .ok (.goto (-29), 3) := by decide +kernel
theorem dX8_comes_97 : decode cX8_comes 97 = .ok (.aload_n 0, 1) := by decide +kernel
theorem dX8_comes_98 : decode cX8_comes 98 = .ok (.aload_n 0, 1) := by decide +kernel
theorem dX8_comes_99 : decode cX8_comes 99 = .ok (.getfield 129, 3) := by decide +kernel
theorem dX8_comes_102 : decode cX8_comes 102 = .ok (.bipush 11, 2) := by decide +kernel
theorem dX8_comes_104 : decode cX8_comes 104 = .ok (.iadd, 1) := by decide +kernel
theorem dX8_comes_105 : decode cX8_comes 105 = .ok (.invokevirtual 92, 3) := by decide +kernel
theorem dX8_comes_108 : decode cX8_comes 108 = .ok (.ifCond .eq 25, 3) := by decide +kernel
theorem dX8_comes_111 : decode cX8_comes 111 = .ok (.aload_n 0, 1) := by decide +kernel
theorem dX8_comes_112 : decode cX8_comes 112 = .ok (.dup, 1) := by decide +kernel
theorem dX8_comes_113 : decode cX8_comes 113 = .ok (.getfield 135, 3) := by decide +kernel
theorem dX8_comes_116 : decode cX8_comes 116 = .ok (.iconst 1, 1) := by decide +kernel
theorem dX8_comes_117 : decode cX8_comes 117 = .ok (.iadd, 1) := by decide +kernel
theorem dX8_comes_118 : decode cX8_comes 118 = .ok (.putfield 135, 3) := by decide +kernel
theorem dX8_comes_121 : decode cX8_comes 121 = .ok (.aload_n 0, 1) := by decide +kernel
theorem dX8_comes_122 : decode cX8_comes 122 = .ok (.dup, 1) := by decide +kernel
theorem dX8_comes_123 : decode cX8_comes 123 = .ok (.getfield 138, 3) := by decide +kernel
theorem dX8_comes_126 : decode cX8_comes 126 = .ok (.iconst 1, 1) := by decide +kernel
theorem dX8_comes_127 : decode cX8_comes 127 = .ok (.iadd, 1) := by decide +kernel
theorem dX8_comes_128 : decode cX8_comes 128 = .ok (.putfield 138, 3) := by decide +kernel
theorem dX8_comes_131 : decode cX8_comes 131 = .ok (.iconst 1, 1) := by decide +kernel
theorem dX8_comes_132 : decode cX8_comes 132 = .ok (.ireturn, 1) := by decide +kernel
theorem dX8_comes_133 : decode cX8_comes 133 = .ok (.iconst 0, 1) := by decide +kernel
theorem dX8_comes_134 : decode cX8_comes 134 = .ok (.istore_n 2, 1) := by decide +kernel
theorem dX8_comes_135 : decode cX8_comes 135 = .ok (.iload_n 2, 1) := by decide +kernel
theorem dX8_comes_136 : decode cX8_comes 136 = .ok (.aload_n 0, 1) := by decide +kernel
theorem dX8_comes_137 : decode cX8_comes 137 = .ok (.getfield 132, 3) := by decide +kernel
theorem dX8_comes_140 : decode cX8_comes 140 = .ok (.if_icmp .ge 23, 3) := by decide +kernel
theorem dX8_comes_143 : decode cX8_comes 143 = .ok (.aload_n 0, 1) := by decide +kernel
theorem dX8_comes_144 : decode cX8_comes 144 = .ok (.getfield 29, 3) := by decide +kernel
theorem dX8_comes_147 : decode cX8_comes 147 = .ok (.bipush 59, 2) := by decide +kernel
theorem dX8_comes_149 : decode cX8_comes 149 = .ok (.iload_n 2, 1) := by decide +kernel
theorem dX8_comes_150 : decode cX8_comes 150 = .ok (.iadd, 1) := by decide +kernel
theorem dX8_comes_151 : decode cX8_comes 151 = .ok (.iaload, 1) := by decide +kernel
theorem dX8_comes_152 : decode cX8_comes 152 = .ok (.ifCond .eq 5, 3) := by decide +kernel
theorem dX8_comes_155 : decode cX8_comes 155 = .ok (.iconst (-1), 1) := by decide +kernel
theorem dX8_comes_156 : decode cX8_comes 156 = .ok (.ireturn, 1) := by decide +kernel
theorem dX8_comes_157 : decode cX8_comes 157 = .ok (.iinc 2 1, 3) := by decide +kernel
theorem dX8_comes_160 : decode cX8_comes 160 = .ok (.goto (-25), 3) := by decide +kernel
theorem dX8_comes_163 : decode cX8_comes 163 = .ok (.aload_n 0, 1) := by decide +kernel
theorem dX8_comes_164 : decode cX8_comes 164 = .ok (.dup, 1) := by decide +kernel
theorem dX8_comes_165 : decode cX8_comes 165 = .ok (.getfield 138, 3) := by decide +kernel
theorem dX8_comes_168 : decode cX8_comes 168 = .ok (.iconst 1, 1) := by decide +kernel
theorem dX8_comes_169 : decode cX8_comes 169 = .ok (.iadd, 1) := by decide +kernel
theorem dX8_comes_170 : decode cX8_comes 170 = .ok (.putfield 138, 3) := by decide +kernel
theorem dX8_comes_173 : decode cX8_comes 173 = .ok (.iconst 0, 1) := by decide +kernel
theorem dX8_comes_174 : decode cX8_comes 174 = .ok (.ireturn, 1) := by decide +kernel
theorem dX8_taken_0 : decode cX8_taken 0 = .ok (.aload_n 0, 1) := by decide +kernel
theorem dX8_taken_1 : decode cX8_taken 1 = .ok (.aload_n 0, 1) := by decide +kernel
theorem dX8_taken_2 : decode cX8_taken 2 = .ok (.getfield 116, 3) := by decide +kernel
theorem dX8_taken_5 : decode cX8_taken 5 = .ok (.aload_n 0, 1) := by decide +kernel
theorem dX8_taken_6 : decode cX8_taken 6 = .ok (.aload_n 0, 1) := by decide +kernel
theorem dX8_taken_7 : decode cX8_taken 7 = .ok (.getfield 116, 3) := by decide +kernel
theorem dX8_taken_10 : decode cX8_taken 10 = .ok (.invokevirtual 110, 3) := by decide +kernel
theorem dX8_taken_13 : decode cX8_taken 13 = .ok (.iload_n 1, 1) := by decide +kernel
theorem dX8_taken_14 : decode cX8_taken 14 = .ok (.invokevirtual 99, 3) := by decide +kernel
theorem dX8_taken_17 : decode cX8_taken 17 = .ok (.pop, 1) := by decide +kernel
theorem dX8_taken_18 : decode cX8_taken 18 = .ok (.iconst 0, 1) := by decide +kernel
theorem dX8_taken_19 : decode cX8_taken 19 = .ok (.istore_n 2, 1) := by decide +kernel
theorem dX8_taken_20 : decode cX8_taken 20 = .ok (.iload_n 2, 1) := by decide +kernel
theorem dX8_taken_21 : decode cX8_taken 21 = .ok (.aload_n 0, 1) := by decide +kernel
theorem dX8_taken_22 : decode cX8_taken 22 = .ok (.getfield 119, 3) := by decide +kernel
theorem dX8_taken_25 : decode cX8_taken 25 = .ok (.if_icmp .ge 20, 3) := by decide +kernel
theorem dX8_taken_28 : decode cX8_taken 28 = .ok (.aload_n 0, 1) := by decide +kernel
theorem dX8_taken_29 : decode cX8_taken 29 = .ok (.getfield 35, 3) := by decide +kernel
theorem dX8_taken_32 : decode cX8_taken 32 = .ok (.iload_n 2, 1) := by decide +kernel
theorem dX8_taken_33 : decode cX8_taken 33 = .ok (.aload_n 0, 1) := by decide +kernel
theorem dX8_taken_34 : decode cX8_taken 34 = .ok (.iload_n 2, 1) := by decide +kernel
theorem dX8_taken_35 : decode cX8_taken 35 = .ok (.invokevirtual 126, 3) := by decide +kernel
theorem dX8_taken_38 : decode cX8_taken 38 = .ok (.iastore, 1) := by decide +kernel
theorem dX8_taken_39 : decode cX8_taken 39 = .ok (.iinc 2 1, 3) := by decide +kernel
theorem dX8_taken_42 : decode cX8_taken 42 = .ok (.goto (-22), 3) := by decide +kernel
theorem dX8_taken_45 : decode cX8_taken 45 = .ok (.aload_n 0, 1) := by decide +kernel
theorem dX8_taken_46 : decode cX8_taken 46 = .ok (.iload_n 1, 1) := by decide +kernel
theorem dX8_taken_47 : decode cX8_taken 47 = .ok (.invokevirtual 144, 3) := by decide +kernel
theorem dX8_taken_50 : decode cX8_taken 50 = .ok (.ireturn, 1) := by decide +kernel
theorem dX8_isSame_0 : decode cX8_isSame 0 = .ok (.aload_n 0, 1) := by decide +kernel
theorem dX8_isSame_1 : decode cX8_isSame 1 = .ok (.getfield 116, 3) := by decide +kernel
theorem dX8_isSame_4 : decode cX8_isSame 4 = .ok (.ifCond .le 36, 3) := by decide +kernel
theorem dX8_isSame_7 : decode cX8_isSame 7 = .ok (.aload_n 0, 1) := by decide +kernel
theorem dX8_isSame_8 : decode cX8_isSame 8 = .ok (.getfield 129, 3) := by decide +kernel
theorem dX8_isSame_11 : decode cX8_isSame 11 = .ok (.ifCond .le 29, 3) := by decide +kernel
theorem dX8_isSame_14 : decode cX8_isSame 14 = .ok (.aload_n 0, 1) := by decide +kernel
theorem dX8_isSame_15 : decode cX8_isSame 15 = .ok (.getfield 116, 3) := by decide +kernel
theorem dX8_isSame_18 : decode cX8_isSame 18 = .ok (.aload_n 0, 1) := by decide +kernel
theorem dX8_isSame_19 : decode cX8_isSame 19 = .ok (.getfield 129, 3) := by decide +kernel
theorem dX8_isSame_22 : decode cX8_isSame 22 = .ok (.if_icmp .ne 18, 3) := by decide +kernel
theorem dX8_isSame_25 : decode cX8_isSame 25 = .ok (.aload_n 0, 1) := by decide +kernel
theorem dX8_isSame_26 : decode cX8_isSame 26 = .ok (.getfield 119, 3) := by decide +kernel
theorem dX8_isSame_29 : decode cX8_isSame 29 = .ok (.aload_n 0, 1) := by decide +kernel
theorem dX8_isSame_30 : decode cX8_isSame 30 = .ok (.getfield 132, 3) := by decide +kernel
theorem dX8_isSame_33 : decode cX8_isSame 33 = .ok (.if_icmp .ne 7, 3) := by decide +kernel
theorem dX8_isSame_36 : decode cX8_isSame 36 = .ok (.iconst 1, 1) := by decide +kernel
theorem dX8_isSame_37 : decode cX8_isSame 37 = .ok (.goto 4, 3) := by decide +kernel
theorem dX8_isSame_40 : decode cX8_isSame 40 = .ok (.iconst 0, 1) := by decide +kernel
theorem dX8_isSame_41 : decode cX8_isSame 41 = .ok (.ireturn, 1) := by decide +kernel
theorem dX8_take_0 : decode cX8_take 0 = .ok (.aload_n 0, 1) := by decide +kernel
theorem dX8_take_1 : decode cX8_take 1 = .ok (.aload_n 0, 1) := by decide +kernel
theorem dX8_take_2 : decode cX8_take 2 = .ok (.invokevirtual 147, 3) := by decide +kernel
theorem dX8_take_5 : decode cX8_take 5 = .ok (.ifCond .ne 7, 3) := by decide +kernel
theorem dX8_take_8 : decode cX8_take 8 = .ok (.iconst 1, 1) := by decide +kernel
theorem dX8_take_9 : decode cX8_take 9 = .ok (.goto 15, 3) := by decide +kernel
theorem dX8_take_12 : decode cX8_take 12 = .ok (.iload_n 1, 1) := by decide +kernel
theorem dX8_take_13 : decode cX8_take 13 = .ok (.invokestatic 123, 3) := by decide +kernel
theorem dX8_take_16 : decode cX8_take 16 = .ok (.ifCond .eq 7, 3) := by decide +kernel
theorem dX8_take_19 : decode cX8_take 19 = .ok (.iconst 0, 1) := by decide +kernel
theorem dX8_take_20 : decode cX8_take 20 = .ok (.goto 4, 3) := by decide +kernel
theorem dX8_take_23 : decode cX8_take 23 = .ok (.iconst 2, 1) := by decide +kernel
theorem dX8_take_24 : decode cX8_take 24 = .ok (.putfield 42, 3) := by decide +kernel
theorem dX8_take_27 : decode cX8_take 27 = .ok (.aload_n 0, 1) := by decide +kernel
theorem dX8_take_28 : decode cX8_take 28 = .ok (.getfield 42, 3) := by decide +kernel
theorem dX8_take_31 : decode cX8_take 31 = .ok (.ifCond .le 5, 3) := by decide +kernel
theorem dX8_take_34 : decode cX8_take 34 = .ok (.iconst 0, 1) := by decide +kernel
theorem dX8_take_35 : decode cX8_take 35 = .ok (.ireturn, 1) := by decide +kernel
theorem dX8_take_36 : decode cX8_take 36 = .ok (.aload_n 0, 1) := by decide +kernel
theorem dX8_take_37 : decode cX8_take 37 = .ok (.iload_n 1, 1) := by decide +kernel
theorem dX8_take_38 : decode cX8_take 38 = .ok (.invokevirtual 151, 3) := by decide +kernel
theorem dX8_take_41 : decode cX8_take 41 = .ok (.istore_n 2, 1) := by decide +kernel
theorem dX8_take_42 : decode cX8_take 42 = .ok (.aload_n 0, 1) := by decide +kernel
theorem dX8_take_43 : decode cX8_take 43 = .ok (.iload_n 2, 1) := by decide +kernel
theorem dX8_take_44 : decode cX8_take 44 = .ok (.ifCond .ge 7, 3) := by decide +kernel
theorem dX8_take_47 : decode cX8_take 47 = .ok (.iconst 3, 1) := by decide +kernel
theorem dX8_take_48 : decode cX8_take 48 = .ok (.goto 4, 3) := by decide +kernel
theorem dX8_take_51 : decode cX8_take 51 = .ok (.iconst 0, 1) := by decide +kernel
theorem dX8_take_52 : decode cX8_take 52 = .ok (.putfield 42, 3) := by decide +kernel
theorem dX8_take_55 : decode cX8_take 55 = .ok (.iload_n 2, 1) := by decide +kernel
theorem dX8_take_56 : decode cX8_take 56 = .ok (.iconst 1, 1) := by decide +kernel
theorem dX8_take_57 : decode cX8_take 57 = .ok (.if_icmp .ne 7, 3) := by decide +kernel
theorem dX8_take_60 : decode cX8_take 60 = .ok (.iconst 1, 1) := by decide +kernel
theorem dX8_take_61 : decode cX8_take 61 = .ok (.goto 4, 3) := by decide +kernel
theorem dX8_take_64 : decode cX8_take 64 = .ok (.iconst 0, 1) := by decide +kernel
theorem dX8_take_65 : decode cX8_take 65 = .ok (.ireturn, 1) := by decide +kernel
theorem dX8_takeAll_0 : decode cX8_takeAll 0 = .ok (.aload_n 0, 1) := by decide +kernel
theorem dX8_takeAll_1 : decode cX8_takeAll 1 = .ok (.aload_n 0, 1) := by decide +kernel
theorem dX8_takeAll_2 : decode cX8_takeAll 2 = .ok (.invokevirtual 147, 3) := by decide +kernel
theorem dX8_takeAll_5 : decode cX8_takeAll 5 = .ok (.ifCond .ne 7, 3) := by decide +kernel
theorem dX8_takeAll_8 : decode cX8_takeAll 8 = .ok (.iconst 1, 1) := by decide +kernel
theorem dX8_takeAll_9 : decode cX8_takeAll 9 = .ok (.goto 29, 3) := by decide +kernel
theorem dX8_takeAll_12 : decode cX8_takeAll 12 = .ok (.iload_n 1, 1) := by decide +kernel
theorem dX8_takeAll_13 : decode cX8_takeAll 13 = .ok (.invokestatic 123, 3) := by decide +kernel
theorem dX8_takeAll_16 : decode cX8_takeAll 16 = .ok (.ifCond .ne 7, 3) := by decide +kernel
theorem dX8_takeAll_19 : decode cX8_takeAll 19 = .ok (.iconst 2, 1) := by decide +kernel
theorem dX8_takeAll_20 : decode cX8_takeAll 20 = .ok (.goto 18, 3) := by decide +kernel
theorem dX8_takeAll_23 : decode cX8_takeAll 23 = .ok (.iload_n 3, 1) := by decide +kernel
theorem dX8_takeAll_24 : decode cX8_takeAll 24 = .ok (.ifCond .lt 9, 3) := by decide +kernel
theorem dX8_takeAll_27 : decode cX8_takeAll 27 = .ok (.iload_n 3, 1) := by decide +kernel
theorem dX8_takeAll_28 : decode cX8_takeAll 28 = .ok (.bipush 100, 2) := by decide +kernel
theorem dX8_takeAll_30 : decode cX8_takeAll 30 = .ok (.if_icmp .le 7, 3) := by decide +kernel
theorem dX8_takeAll_33 : decode cX8_takeAll 33 = .ok (.iconst 3, 1) := by decide +kernel
theorem dX8_takeAll_34 : decode cX8_takeAll 34 = .ok (.goto 4, 3) := by decide +kernel
theorem dX8_takeAll_37 : decode cX8_takeAll 37 = .ok (.iconst 0, 1) := by decide +kernel
theorem dX8_takeAll_38 : decode cX8_takeAll 38 = .ok (.putfield 42, 3) := by decide +kernel
theorem dX8_takeAll_41 : decode cX8_takeAll 41 = .ok (.iconst 0, 1) := by decide +kernel
theorem dX8_takeAll_42 : decode cX8_takeAll 42 = .ok (.istore 4, 2) := by decide +kernel
theorem dX8_takeAll_44 : decode cX8_takeAll 44 = .ok (.iload_n 1, 1) := by decide +kernel
theorem dX8_takeAll_45 : decode cX8_takeAll 45 = .ok (.istore 5, 2) := by decide +kernel
theorem dX8_takeAll_47 : decode cX8_takeAll 47 = .ok (.iconst 0, 1) := by decide +kernel
theorem dX8_takeAll_48 : decode cX8_takeAll 48 = .ok (.istore 6, 2) := by decide +kernel
theorem dX8_takeAll_50 : decode cX8_takeAll 50 = .ok (.iload 6, 2) := by decide +kernel
theorem dX8_takeAll_52 : decode cX8_takeAll 52 = .ok (.iload_n 3, 1) := by decide +kernel
theorem dX8_takeAll_53 : decode cX8_takeAll 53 = .ok (.if_icmp .ge 48, 3) := by decide +kernel
theorem dX8_takeAll_56 : decode cX8_takeAll 56 = .ok (.aload_n 0, 1) := by decide +kernel
theorem dX8_takeAll_57 : decode cX8_takeAll 57 = .ok (.getfield 42, 3) := by decide +kernel
theorem dX8_takeAll_60 : decode cX8_takeAll 60 = .ok (.ifCond .ne 41, 3) := by decide +kernel
theorem dX8_takeAll_63 : decode cX8_takeAll 63 = .ok (.aload_n 0, 1) := by decide +kernel
theorem dX8_takeAll_64 : decode cX8_takeAll 64 = .ok (.iload 5, 2) := by decide +kernel
theorem dX8_takeAll_66 : decode cX8_takeAll 66 = .ok (.invokevirtual 151, 3) := by decide +kernel
theorem dX8_takeAll_69 : decode cX8_takeAll 69 = .ok (.istore 7, 2) := by decide +kernel
theorem dX8_takeAll_71 : decode cX8_takeAll 71 = .ok (.iload 7, 2) := by decide +kernel
theorem dX8_takeAll_73 : decode cX8_takeAll 73 = .ok (.ifCond .ge 6, 3) := by decide +kernel
theorem dX8_takeAll_76 : decode cX8_takeAll 76 = .ok (.iload 4, 2) := by decide +kernel
theorem dX8_takeAll_78 : decode cX8_takeAll 78 = .ok (.ireturn, 1) := by decide +kernel
theorem dX8_takeAll_79 : decode cX8_takeAll 79 = .ok (.iload 4, 2) := by decide +kernel
theorem dX8_takeAll_81 : decode cX8_takeAll 81 = .ok (.iload 7, 2) := by decide +kernel
theorem dX8_takeAll_83 : decode cX8_takeAll 83 = .ok (.iadd, 1) := by decide +kernel
theorem dX8_takeAll_84 : decode cX8_takeAll 84 = .ok (.istore 4, 2) := by decide +kernel
theorem dX8_takeAll_86 : decode cX8_takeAll 86 = .ok (.iload 5, 2) := by decide +kernel
theorem dX8_takeAll_88 : decode cX8_takeAll 88 = .ok (.iload_n 2, 1) := by decide +kernel
theorem dX8_takeAll_89 : decode cX8_takeAll 89 = .ok (.iadd, 1) := by decide +kernel
theorem dX8_takeAll_90 : decode cX8_takeAll 90 = .ok (.ldc 154, 2) := by decide +kernel
theorem dX8_takeAll_92 : decode cX8_takeAll 92 = .ok (.iand, 1) := by decide +kernel
theorem dX8_takeAll_93 : decode cX8_takeAll 93 = .ok (.istore 5, 2) := by decide +kernel
theorem dX8_takeAll_95 : decode cX8_takeAll 95 = .ok (.iinc 6 1, 3) := by decide +kernel
theorem dX8_takeAll_98 : decode cX8_takeAll 98 = .ok (.goto (-48), 3) := by decide +kernel
theorem dX8_takeAll_101 : decode cX8_takeAll 101 = .ok (.iload 4, 2) := by decide +kernel
theorem dX8_takeAll_103 : decode cX8_takeAll 103 = .ok (.ireturn, 1) := by decide +kernel
theorem dX8_give_0 : decode cX8_give 0 = .ok (.aload_n 0, 1) := by decide +kernel
theorem dX8_give_1 : decode cX8_give 1 = .ok (.aload_n 0, 1) := by decide +kernel
theorem dX8_give_2 : decode cX8_give 2 = .ok (.getfield 129, 3) := by decide +kernel
theorem dX8_give_5 : decode cX8_give 5 = .ok (.ifCond .ne 7, 3) := by decide +kernel
theorem dX8_give_8 : decode cX8_give 8 = .ok (.iconst 1, 1) := by decide +kernel
theorem dX8_give_9 : decode cX8_give 9 = .ok (.goto 30, 3) := by decide +kernel
theorem dX8_give_12 : decode cX8_give 12 = .ok (.iload_n 1, 1) := by decide +kernel
theorem dX8_give_13 : decode cX8_give 13 = .ok (.invokestatic 123, 3) := by decide +kernel
theorem dX8_give_16 : decode cX8_give 16 = .ok (.ifCond .ne 7, 3) := by decide +kernel
theorem dX8_give_19 : decode cX8_give 19 = .ok (.iconst 2, 1) := by decide +kernel
theorem dX8_give_20 : decode cX8_give 20 = .ok (.goto 19, 3) := by decide +kernel
theorem dX8_give_23 : decode cX8_give 23 = .ok (.aload_n 0, 1) := by decide +kernel
theorem dX8_give_24 : decode cX8_give 24 = .ok (.getfield 46, 3) := by decide +kernel
theorem dX8_give_27 : decode cX8_give 27 = .ok (.aload_n 0, 1) := by decide +kernel
theorem dX8_give_28 : decode cX8_give 28 = .ok (.getfield 132, 3) := by decide +kernel
theorem dX8_give_31 : decode cX8_give 31 = .ok (.if_icmp .eq 7, 3) := by decide +kernel
theorem dX8_give_34 : decode cX8_give 34 = .ok (.iconst 3, 1) := by decide +kernel
theorem dX8_give_35 : decode cX8_give 35 = .ok (.goto 4, 3) := by decide +kernel
theorem dX8_give_38 : decode cX8_give 38 = .ok (.iconst 0, 1) := by decide +kernel
theorem dX8_give_39 : decode cX8_give 39 = .ok (.putfield 42, 3) := by decide +kernel
theorem dX8_give_42 : decode cX8_give 42 = .ok (.aload_n 0, 1) := by decide +kernel
theorem dX8_give_43 : decode cX8_give 43 = .ok (.getfield 42, 3) := by decide +kernel
theorem dX8_give_46 : decode cX8_give 46 = .ok (.ifCond .le 5, 3) := by decide +kernel
theorem dX8_give_49 : decode cX8_give 49 = .ok (.iconst 0, 1) := by decide +kernel
theorem dX8_give_50 : decode cX8_give 50 = .ok (.ireturn, 1) := by decide +kernel
theorem dX8_give_51 : decode cX8_give 51 = .ok (.iconst 0, 1) := by decide +kernel
theorem dX8_give_52 : decode cX8_give 52 = .ok (.istore_n 2, 1) := by decide +kernel
theorem dX8_give_53 : decode cX8_give 53 = .ok (.iload_n 2, 1) := by decide +kernel
theorem dX8_give_54 : decode cX8_give 54 = .ok (.aload_n 0, 1) := by decide +kernel
theorem dX8_give_55 : decode cX8_give 55 = .ok (.getfield 132, 3) := by decide +kernel
theorem dX8_give_58 : decode cX8_give 58 = .ok (.if_icmp .ge 25, 3) := by decide +kernel
theorem dX8_give_61 : decode cX8_give 61 = .ok (.aload_n 0, 1) := by decide +kernel
theorem dX8_give_62 : decode cX8_give 62 = .ok (.getfield 35, 3) := by decide +kernel
theorem dX8_give_65 : decode cX8_give 65 = .ok (.iload_n 2, 1) := by decide +kernel
theorem dX8_give_66 : decode cX8_give 66 = .ok (.aload_n 0, 1) := by decide +kernel
theorem dX8_give_67 : decode cX8_give 67 = .ok (.getfield 7, 3) := by decide +kernel
theorem dX8_give_70 : decode cX8_give 70 = .ok (.iload_n 2, 1) := by decide +kernel
theorem dX8_give_71 : decode cX8_give 71 = .ok (.baload, 1) := by decide +kernel
theorem dX8_give_72 : decode cX8_give 72 = .ok (.sipush 255, 3) := by decide +kernel
theorem dX8_give_75 : decode cX8_give 75 = .ok (.iand, 1) := by decide +kernel
theorem dX8_give_76 : decode cX8_give 76 = .ok (.iastore, 1) := by decide +kernel
theorem dX8_give_77 : decode cX8_give 77 = .ok (.iinc 2 1, 3) := by decide +kernel
theorem dX8_give_80 : decode cX8_give 80 = .ok (.goto (-27), 3) := by decide +kernel
theorem dX8_give_83 : decode cX8_give 83 = .ok (.aload_n 0, 1) := by decide +kernel
theorem dX8_give_84 : decode cX8_give 84 = .ok (.iload_n 1, 1) := by decide +kernel
theorem dX8_give_85 : decode cX8_give 85 = .ok (.invokevirtual 144, 3) := by decide +kernel
theorem dX8_give_88 : decode cX8_give 88 = .ok (.istore_n 2, 1) := by decide +kernel
theorem dX8_give_89 : decode cX8_give 89 = .ok (.aload_n 0, 1) := by decide +kernel
theorem dX8_give_90 : decode cX8_give 90 = .ok (.iload_n 2, 1) := by decide +kernel
theorem dX8_give_91 : decode cX8_give 91 = .ok (.ifCond .ge 7, 3) := by decide +kernel
theorem dX8_give_94 : decode cX8_give 94 = .ok (.iconst 4, 1) := by decide +kernel
theorem dX8_give_95 : decode cX8_give 95 = .ok (.goto 4, 3) := by decide +kernel
theorem dX8_give_98 : decode cX8_give 98 = .ok (.iconst 0, 1) := by decide +kernel
theorem dX8_give_99 : decode cX8_give 99 = .ok (.putfield 42, 3) := by decide +kernel
theorem dX8_give_102 : decode cX8_give 102 = .ok (.aload_n 0, 1) := by decide +kernel
theorem dX8_give_103 : decode cX8_give 103 = .ok (.iload_n 2, 1) := by decide +kernel
theorem dX8_give_104 : decode cX8_give 104 = .ok (.ifCond .ge 10, 3) := by decide +kernel
theorem dX8_give_107 : decode cX8_give 107 = .ok (.aload_n 0, 1) := by decide +kernel
theorem dX8_give_108 : decode cX8_give 108 = .ok (.getfield 46, 3) := by decide +kernel
theorem dX8_give_111 : decode cX8_give 111 = .ok (.goto 4, 3) := by decide +kernel
theorem dX8_give_114 : decode cX8_give 114 = .ok (.iconst 0, 1) := by decide +kernel
theorem dX8_give_115 : decode cX8_give 115 = .ok (.putfield 46, 3) := by decide +kernel
theorem dX8_give_118 : decode cX8_give 118 = .ok (.iload_n 2, 1) := by decide +kernel
theorem dX8_give_119 : decode cX8_give 119 = .ok (.iconst 1, 1) := by decide +kernel
theorem dX8_give_120 : decode cX8_give 120 = .ok (.if_icmp .ne 7, 3) := by decide +kernel
theorem dX8_give_123 : decode cX8_give 123 = .ok (.iconst 1, 1) := by decide +kernel
theorem dX8_give_124 : decode cX8_give 124 = .ok (.goto 4, 3) := by decide +kernel
theorem dX8_give_127 : decode cX8_give 127 = .ok (.iconst 0, 1) := by decide +kernel
theorem dX8_give_128 : decode cX8_give 128 = .ok (.ireturn, 1) := by decide +kernel
theorem dX8_rank_0 : decode cX8_rank 0 = .ok (.aload_n 0, 1) := by decide +kernel
theorem dX8_rank_1 : decode cX8_rank 1 = .ok (.aload_n 0, 1) := by decide +kernel
theorem dX8_rank_2 : decode cX8_rank 2 = .ok (.getfield 129, 3) := by decide +kernel
theorem dX8_rank_5 : decode cX8_rank 5 = .ok (.ifCond .ne 7, 3) := by decide +kernel
theorem dX8_rank_8 : decode cX8_rank 8 = .ok (.iconst 1, 1) := by decide +kernel
theorem dX8_rank_9 : decode cX8_rank 9 = .ok (.goto 4, 3) := by decide +kernel
theorem dX8_rank_12 : decode cX8_rank 12 = .ok (.iconst 0, 1) := by decide +kernel
theorem dX8_rank_13 : decode cX8_rank 13 = .ok (.putfield 42, 3) := by decide +kernel
theorem dX8_rank_16 : decode cX8_rank 16 = .ok (.aload_n 0, 1) := by decide +kernel
theorem dX8_rank_17 : decode cX8_rank 17 = .ok (.getfield 42, 3) := by decide +kernel
theorem dX8_rank_20 : decode cX8_rank 20 = .ok (.ifCond .le 7, 3) := by decide +kernel
theorem dX8_rank_23 : decode cX8_rank 23 = .ok (.iconst 0, 1) := by decide +kernel
theorem dX8_rank_24 : decode cX8_rank 24 = .ok (.goto 10, 3) := by decide +kernel
theorem dX8_rank_27 : decode cX8_rank 27 = .ok (.bipush 11, 2) := by decide +kernel
theorem dX8_rank_29 : decode cX8_rank 29 = .ok (.aload_n 0, 1) := by decide +kernel
theorem dX8_rank_30 : decode cX8_rank 30 = .ok (.getfield 135, 3) := by decide +kernel
theorem dX8_rank_33 : decode cX8_rank 33 = .ok (.iadd, 1) := by decide +kernel
theorem dX8_rank_34 : decode cX8_rank 34 = .ok (.ireturn, 1) := by decide +kernel
theorem dX8_isKnown_0 : decode cX8_isKnown 0 = .ok (.aload_n 0, 1) := by decide +kernel
theorem dX8_isKnown_1 : decode cX8_isKnown 1 = .ok (.aload_n 0, 1) := by decide +kernel
theorem dX8_isKnown_2 : decode cX8_isKnown 2 = .ok (.getfield 129, 3) := by decide +kernel
theorem dX8_isKnown_5 : decode cX8_isKnown 5 = .ok (.aload_n 0, 1) := by decide +kernel
theorem dX8_isKnown_6 : decode cX8_isKnown 6 = .ok (.getfield 13, 3) := by decide +kernel
theorem dX8_isKnown_9 : decode cX8_isKnown 9 = .ok (.aload_n 0, 1) := by decide +kernel
theorem dX8_isKnown_10 : decode cX8_isKnown 10 = .ok (.getfield 129, 3) := by decide +kernel
theorem dX8_isKnown_13 : decode cX8_isKnown 13 = .ok (.iaload, 1) := by decide +kernel
theorem dX8_isKnown_14 : decode cX8_isKnown 14 = .ok (.iload_n 1, 1) := by decide +kernel
theorem dX8_isKnown_15 : decode cX8_isKnown 15 = .ok (.invokevirtual 99, 3) := by decide +kernel
theorem dX8_isKnown_18 : decode cX8_isKnown 18 = .ok (.pop, 1) := by decide +kernel
theorem dX8_isKnown_19 : decode cX8_isKnown 19 = .ok (.aload_n 0, 1) := by decide +kernel
theorem dX8_isKnown_20 : decode cX8_isKnown 20 = .ok (.aload_n 0, 1) := by decide +kernel
theorem dX8_isKnown_21 : decode cX8_isKnown 21 = .ok (.getfield 129, 3) := by decide +kernel
theorem dX8_isKnown_24 : decode cX8_isKnown 24 = .ok (.bipush 11, 2) := by decide +kernel
theorem dX8_isKnown_26 : decode cX8_isKnown 26 = .ok (.iadd, 1) := by decide +kernel
theorem dX8_isKnown_27 : decode cX8_isKnown 27 = .ok (.invokevirtual 77, 3) := by decide +kernel
theorem dX8_isKnown_30 : decode cX8_isKnown 30 = .ok (.ireturn, 1) := by decide +kernel
theorem dX8_follows_0 : decode cX8_follows 0 = .ok (.aload_n 0, 1) := by decide +kernel
theorem dX8_follows_1 : decode cX8_follows 1 = .ok (.aload_n 0, 1) := by decide +kernel
theorem dX8_follows_2 : decode cX8_follows 2 = .ok (.getfield 129, 3) := by decide +kernel
theorem dX8_follows_5 : decode cX8_follows 5 = .ok (.ifCond .ne 7, 3) := by decide +kernel
theorem dX8_follows_8 : decode cX8_follows 8 = .ok (.iconst 1, 1) := by decide +kernel
theorem dX8_follows_9 : decode cX8_follows 9 = .ok (.goto 15, 3) := by decide +kernel
theorem dX8_follows_12 : decode cX8_follows 12 = .ok (.iload_n 1, 1) := by decide +kernel
theorem dX8_follows_13 : decode cX8_follows 13 = .ok (.invokestatic 123, 3) := by decide +kernel
theorem dX8_follows_16 : decode cX8_follows 16 = .ok (.ifCond .eq 7, 3) := by decide +kernel
theorem dX8_follows_19 : decode cX8_follows 19 = .ok (.iconst 0, 1) := by decide +kernel
theorem dX8_follows_20 : decode cX8_follows 20 = .ok (.goto 4, 3) := by decide +kernel
theorem dX8_follows_23 : decode cX8_follows 23 = .ok (.iconst 2, 1) := by decide +kernel
theorem dX8_follows_24 : decode cX8_follows 24 = .ok (.putfield 42, 3) := by decide +kernel
theorem dX8_follows_27 : decode cX8_follows 27 = .ok (.aload_n 0, 1) := by decide +kernel
theorem dX8_follows_28 : decode cX8_follows 28 = .ok (.getfield 42, 3) := by decide +kernel
theorem dX8_follows_31 : decode cX8_follows 31 = .ok (.ifCond .le 5, 3) := by decide +kernel
theorem dX8_follows_34 : decode cX8_follows 34 = .ok (.iconst 0, 1) := by decide +kernel
theorem dX8_follows_35 : decode cX8_follows 35 = .ok (.ireturn, 1) := by decide +kernel
theorem dX8_follows_36 : decode cX8_follows 36 = .ok (.aload_n 0, 1) := by decide +kernel
theorem dX8_follows_37 : decode cX8_follows 37 = .ok (.invokevirtual 141, 3) := by decide +kernel
theorem dX8_follows_40 : decode cX8_follows 40 = .ok (.aload_n 0, 1) := by decide +kernel
theorem dX8_follows_41 : decode cX8_follows 41 = .ok (.iload_n 1, 1) := by decide +kernel
theorem dX8_follows_42 : decode cX8_follows 42 = .ok (.invokevirtual 155, 3) := by decide +kernel
theorem dX8_follows_45 : decode cX8_follows 45 = .ok (.ireturn, 1) := by decide +kernel
theorem dX8_known_0 : decode cX8_known 0 = .ok (.aload_n 0, 1) := by decide +kernel
theorem dX8_known_1 : decode cX8_known 1 = .ok (.aload_n 0, 1) := by decide +kernel
theorem dX8_known_2 : decode cX8_known 2 = .ok (.getfield 129, 3) := by decide +kernel
theorem dX8_known_5 : decode cX8_known 5 = .ok (.ifCond .ne 7, 3) := by decide +kernel
theorem dX8_known_8 : decode cX8_known 8 = .ok (.iconst 1, 1) := by decide +kernel
theorem dX8_known_9 : decode cX8_known 9 = .ok (.goto 15, 3) := by decide +kernel
theorem dX8_known_12 : decode cX8_known 12 = .ok (.iload_n 1, 1) := by decide +kernel
theorem dX8_known_13 : decode cX8_known 13 = .ok (.invokestatic 123, 3) := by decide +kernel
theorem dX8_known_16 : decode cX8_known 16 = .ok (.ifCond .eq 7, 3) := by decide +kernel
theorem dX8_known_19 : decode cX8_known 19 = .ok (.iconst 0, 1) := by decide +kernel
theorem dX8_known_20 : decode cX8_known 20 = .ok (.goto 4, 3) := by decide +kernel
theorem dX8_known_23 : decode cX8_known 23 = .ok (.iconst 2, 1) := by decide +kernel
theorem dX8_known_24 : decode cX8_known 24 = .ok (.putfield 42, 3) := by decide +kernel
theorem dX8_known_27 : decode cX8_known 27 = .ok (.aload_n 0, 1) := by decide +kernel
theorem dX8_known_28 : decode cX8_known 28 = .ok (.getfield 42, 3) := by decide +kernel
theorem dX8_known_31 : decode cX8_known 31 = .ok (.ifCond .le 5, 3) := by decide +kernel
theorem dX8_known_34 : decode cX8_known 34 = .ok (.iconst 0, 1) := by decide +kernel
theorem dX8_known_35 : decode cX8_known 35 = .ok (.ireturn, 1) := by decide +kernel
theorem dX8_known_36 : decode cX8_known 36 = .ok (.aload_n 0, 1) := by decide +kernel
theorem dX8_known_37 : decode cX8_known 37 = .ok (.invokevirtual 141, 3) := by decide +kernel
theorem dX8_known_40 : decode cX8_known 40 = .ok (.aload_n 0, 1) := by decide +kernel
theorem dX8_known_41 : decode cX8_known 41 = .ok (.iload_n 1, 1) := by decide +kernel
theorem dX8_known_42 : decode cX8_known 42 = .ok (.invokevirtual 155, 3) := by decide +kernel
theorem dX8_known_45 : decode cX8_known 45 = .ok (.ifCond .ne 10, 3) := by decide +kernel
theorem dX8_known_48 : decode cX8_known 48 = .ok (.aload_n 0, 1) := by decide +kernel
theorem dX8_known_49 : decode cX8_known 49 = .ok (.iconst 1, 1) := by decide +kernel
theorem dX8_known_50 : decode cX8_known 50 = .ok (.putfield 42, 3) := by decide +kernel
theorem dX8_known_53 : decode cX8_known 53 = .ok (.iconst 0, 1) := by decide +kernel
theorem dX8_known_54 : decode cX8_known 54 = .ok (.ireturn, 1) := by decide +kernel
theorem dX8_known_55 : decode cX8_known 55 = .ok (.aload_n 0, 1) := by decide +kernel
theorem dX8_known_56 : decode cX8_known 56 = .ok (.iload_n 2, 1) := by decide +kernel
theorem dX8_known_57 : decode cX8_known 57 = .ok (.ifCond .lt 11, 3) := by decide +kernel
theorem dX8_known_60 : decode cX8_known 60 = .ok (.iload_n 2, 1) := by decide +kernel
theorem dX8_known_61 : decode cX8_known 61 = .ok (.aload_n 0, 1) := by decide +kernel
theorem dX8_known_62 : decode cX8_known 62 = .ok (.getfield 132, 3) := by decide +kernel
theorem dX8_known_65 : decode cX8_known 65 = .ok (.if_icmp .lt 7, 3) := by decide +kernel
theorem dX8_known_68 : decode cX8_known 68 = .ok (.iconst 2, 1) := by decide +kernel
theorem dX8_known_69 : decode cX8_known 69 = .ok (.goto 4, 3) := by decide +kernel
theorem dX8_known_72 : decode cX8_known 72 = .ok (.iconst 0, 1) := by decide +kernel
theorem dX8_known_73 : decode cX8_known 73 = .ok (.putfield 42, 3) := by decide +kernel
theorem dX8_known_76 : decode cX8_known 76 = .ok (.aload_n 0, 1) := by decide +kernel
theorem dX8_known_77 : decode cX8_known 77 = .ok (.getfield 42, 3) := by decide +kernel
theorem dX8_known_80 : decode cX8_known 80 = .ok (.ifCond .le 7, 3) := by decide +kernel
theorem dX8_known_83 : decode cX8_known 83 = .ok (.iconst 0, 1) := by decide +kernel
theorem dX8_known_84 : decode cX8_known 84 = .ok (.goto 12, 3) := by decide +kernel
theorem dX8_known_87 : decode cX8_known 87 = .ok (.aload_n 0, 1) := by decide +kernel
theorem dX8_known_88 : decode cX8_known 88 = .ok (.getfield 29, 3) := by decide +kernel
theorem dX8_known_91 : decode cX8_known 91 = .ok (.bipush 59, 2) := by decide +kernel
theorem dX8_known_93 : decode cX8_known 93 = .ok (.iload_n 2, 1) := by decide +kernel
theorem dX8_known_94 : decode cX8_known 94 = .ok (.iadd, 1) := by decide +kernel
theorem dX8_known_95 : decode cX8_known 95 = .ok (.iaload, 1) := by decide +kernel
theorem dX8_known_96 : decode cX8_known 96 = .ok (.ireturn, 1) := by decide +kernel
theorem dX8_product_0 : decode cX8_product 0 = .ok (.aload_n 0, 1) := by decide +kernel
theorem dX8_product_1 : decode cX8_product 1 = .ok (.iconst 0, 1) := by decide +kernel
theorem dX8_product_2 : decode cX8_product 2 = .ok (.putfield 42, 3) := by decide +kernel
theorem dX8_product_5 : decode cX8_product 5 = .ok (.iload_n 1, 1) := by decide +kernel
theorem dX8_product_6 : decode cX8_product 6 = .ok (.sipush 255, 3) := by decide +kernel
theorem dX8_product_9 : decode cX8_product 9 = .ok (.iand, 1) := by decide +kernel
theorem dX8_product_10 : decode cX8_product 10 = .ok (.iload_n 2, 1) := by decide +kernel
theorem dX8_product_11 : decode cX8_product 11 = .ok (.sipush 255, 3) := by decide +kernel
theorem dX8_product_14 : decode cX8_product 14 = .ok (.iand, 1) := by decide +kernel
theorem dX8_product_15 : decode cX8_product 15 = .ok (.invokestatic 38, 3) := by decide +kernel
theorem dX8_product_18 : decode cX8_product 18 = .ok (.ireturn, 1) := by decide +kernel
theorem dX8_count_0 : decode cX8_count 0 = .ok (.aload_n 0, 1) := by decide +kernel
theorem dX8_count_1 : decode cX8_count 1 = .ok (.iload_n 1, 1) := by decide +kernel
theorem dX8_count_2 : decode cX8_count 2 = .ok (.ifCond .lt 9, 3) := by decide +kernel
theorem dX8_count_5 : decode cX8_count 5 = .ok (.iload_n 1, 1) := by decide +kernel
theorem dX8_count_6 : decode cX8_count 6 = .ok (.bipush 6, 2) := by decide +kernel
theorem dX8_count_8 : decode cX8_count 8 = .ok (.if_icmp .le 7, 3) := by decide +kernel
theorem dX8_count_11 : decode cX8_count 11 = .ok (.iconst 1, 1) := by decide +kernel
theorem dX8_count_12 : decode cX8_count 12 = .ok (.goto 4, 3) := by decide +kernel
theorem dX8_count_15 : decode cX8_count 15 = .ok (.iconst 0, 1) := by decide +kernel
theorem dX8_count_16 : decode cX8_count 16 = .ok (.putfield 42, 3) := by decide +kernel
theorem dX8_count_19 : decode cX8_count 19 = .ok (.aload_n 0, 1) := by decide +kernel
theorem dX8_count_20 : decode cX8_count 20 = .ok (.getfield 42, 3) := by decide +kernel
theorem dX8_count_23 : decode cX8_count 23 = .ok (.ifCond .le 5, 3) := by decide +kernel
theorem dX8_count_26 : decode cX8_count 26 = .ok (.iconst 0, 1) := by decide +kernel
theorem dX8_count_27 : decode cX8_count 27 = .ok (.ireturn, 1) := by decide +kernel
theorem dX8_count_28 : decode cX8_count 28 = .ok (.iload_n 1, 1) := by decide +kernel
theorem dX8_count_29 : decode cX8_count 29 = .ok (.bipush 6, 2) := by decide +kernel
theorem dX8_count_31 : decode cX8_count 31 = .ok (.if_icmp .ge 67, 3) := by decide +kernel
theorem dX8_count_34 : decode cX8_count 34 = .ok (.iload_n 1, 1) := by decide +kernel
theorem dX8_count_35 : decode cX8_count 35 = .ok (.ifCond .ne 10, 3) := by decide +kernel
theorem dX8_count_38 : decode cX8_count 38 = .ok (.aload_n 0, 1) := by decide +kernel
theorem dX8_count_39 : decode cX8_count 39 = .ok (.getfield 46, 3) := by decide +kernel
theorem dX8_count_42 : decode cX8_count 42 = .ok (.goto 55, 3) := by decide +kernel
theorem dX8_count_45 : decode cX8_count 45 = .ok (.iload_n 1, 1) := by decide +kernel
theorem dX8_count_46 : decode cX8_count 46 = .ok (.iconst 1, 1) := by decide +kernel
theorem dX8_count_47 : decode cX8_count 47 = .ok (.if_icmp .ne 10, 3) := by decide +kernel
theorem dX8_count_50 : decode cX8_count 50 = .ok (.aload_n 0, 1) := by decide +kernel
theorem dX8_count_51 : decode cX8_count 51 = .ok (.getfield 116, 3) := by decide +kernel
theorem dX8_count_54 : decode cX8_count 54 = .ok (.goto 43, 3) := by decide +kernel
theorem dX8_count_57 : decode cX8_count 57 = .ok (.iload_n 1, 1) := by decide +kernel
theorem dX8_count_58 : decode cX8_count 58 = .ok (.iconst 2, 1) := by decide +kernel
theorem dX8_count_59 : decode cX8_count 59 = .ok (.if_icmp .ne 10, 3) := by decide +kernel
theorem dX8_count_62 : decode cX8_count 62 = .ok (.aload_n 0, 1) := by decide +kernel
theorem dX8_count_63 : decode cX8_count 63 = .ok (.getfield 119, 3) := by decide +kernel
theorem dX8_count_66 : decode cX8_count 66 = .ok (.goto 31, 3) := by decide +kernel
theorem dX8_count_69 : decode cX8_count 69 = .ok (.iload_n 1, 1) := by decide +kernel
theorem dX8_count_70 : decode cX8_count 70 = .ok (.iconst 3, 1) := by decide +kernel
theorem dX8_count_71 : decode cX8_count 71 = .ok (.if_icmp .ne 10, 3) := by decide +kernel
theorem dX8_count_74 : decode cX8_count 74 = .ok (.aload_n 0, 1) := by decide +kernel
theorem dX8_count_75 : decode cX8_count 75 = .ok (.getfield 129, 3) := by decide +kernel
theorem dX8_count_78 : decode cX8_count 78 = .ok (.goto 19, 3) := by decide +kernel
theorem dX8_count_81 : decode cX8_count 81 = .ok (.iload_n 1, 1) := by decide +kernel
theorem dX8_count_82 : decode cX8_count 82 = .ok (.iconst 4, 1) := by decide +kernel
theorem dX8_count_83 : decode cX8_count 83 = .ok (.if_icmp .ne 10, 3) := by decide +kernel
theorem dX8_count_86 : decode cX8_count 86 = .ok (.aload_n 0, 1) := by decide +kernel
theorem dX8_count_87 : decode cX8_count 87 = .ok (.getfield 132, 3) := by decide +kernel
theorem dX8_count_90 : decode cX8_count 90 = .ok (.goto 7, 3) := by decide +kernel
theorem dX8_count_93 : decode cX8_count 93 = .ok (.aload_n 0, 1) := by decide +kernel
theorem dX8_count_94 : decode cX8_count 94 = .ok (.getfield 138, 3) := by decide +kernel
theorem dX8_count_97 : decode cX8_count 97 = .ok (.ireturn, 1) := by decide +kernel
theorem dX8_count_98 : decode cX8_count 98 = .ok (.iconst 0, 1) := by decide +kernel
theorem dX8_count_99 : decode cX8_count 99 = .ok (.istore_n 2, 1) := by decide +kernel
theorem dX8_count_100 : decode cX8_count 100 = .ok (.aload_n 0, 1) := by decide +kernel
theorem dX8_count_101 : decode cX8_count 101 = .ok (.getfield 129, 3) := by decide +kernel
theorem dX8_count_104 : decode cX8_count 104 = .ok (.ifCond .le 7, 3) := by decide +kernel
theorem dX8_count_107 : decode cX8_count 107 = .ok (.aload_n 0, 1) := by decide +kernel
theorem dX8_count_108 : decode cX8_count 108 = .ok (.invokevirtual 141, 3) := by decide +kernel
theorem dX8_count_111 : decode cX8_count 111 = .ok (.iconst 0, 1) := by decide +kernel
theorem dX8_count_112 : decode cX8_count 112 = .ok (.istore_n 3, 1) := by decide +kernel
theorem dX8_count_113 : decode cX8_count 113 = .ok (.iload_n 3, 1) := by decide +kernel
theorem dX8_count_114 : decode cX8_count 114 = .ok (.aload_n 0, 1) := by decide +kernel
theorem dX8_count_115 : decode cX8_count 115 = .ok (.getfield 129, 3) := by decide +kernel
theorem dX8_count_118 : decode cX8_count 118 = .ok (.if_icmp .ge 25, 3) := by decide +kernel
theorem dX8_count_121 : decode cX8_count 121 = .ok (.iload_n 2, 1) := by decide +kernel
theorem dX8_count_122 : decode cX8_count 122 = .ok (.aload_n 0, 1) := by decide +kernel
theorem dX8_count_123 : decode cX8_count 123 = .ok (.iload_n 3, 1) := by decide +kernel
theorem dX8_count_124 : decode cX8_count 124 = .ok (.invokevirtual 155, 3) := by decide +kernel
theorem dX8_count_127 : decode cX8_count 127 = .ok (.ifCond .eq 7, 3) := by decide +kernel
theorem dX8_count_130 : decode cX8_count 130 = .ok (.iconst 1, 1) := by decide +kernel
theorem dX8_count_131 : decode cX8_count 131 = .ok (.goto 4, 3) := by decide +kernel
theorem dX8_count_134 : decode cX8_count 134 = .ok (.iconst 0, 1) := by decide +kernel
theorem dX8_count_135 : decode cX8_count 135 = .ok (.iadd, 1) := by decide +kernel
theorem dX8_count_136 : decode cX8_count 136 = .ok (.istore_n 2, 1) := by decide +kernel
theorem dX8_count_137 : decode cX8_count 137 = .ok (.iinc 3 1, 3) := by decide +kernel
theorem dX8_count_140 : decode cX8_count 140 = .ok (.goto (-27), 3) := by decide +kernel
theorem dX8_count_143 : decode cX8_count 143 = .ok (.iload_n 2, 1) := by decide +kernel
theorem dX8_count_144 : decode cX8_count 144 = .ok (.ireturn, 1) := by decide +kernel
