theorem dX0_init_0 : decode cX0_init 0 = .ok (.aload_n 0, 1) := by decide +kernel
theorem dX0_init_1 : decode cX0_init 1 = .ok (.invokespecial 3, 3) := by decide +kernel
theorem dX0_init_4 : decode cX0_init 4 = .ok (.aload_n 0, 1) := by decide +kernel
theorem dX0_init_5 : decode cX0_init 5 = .ok (.bipush 59, 2) := by decide +kernel
theorem dX0_init_7 : decode cX0_init 7 = .ok (.bipush 16, 2) := by decide +kernel
theorem dX0_init_9 : decode cX0_init 9 = .ok (.multianewarray 9 2, 4) := by decide +kernel
theorem dX0_init_13 : decode cX0_init 13 = .ok (.putfield 11, 3) := by decide +kernel
theorem dX0_init_16 : decode cX0_init 16 = .ok (.aload_n 0, 1) := by decide +kernel
theorem dX0_init_17 : decode cX0_init 17 = .ok (.iconst 0, 1) := by decide +kernel
theorem dX0_init_18 : decode cX0_init 18 = .ok (.putfield 16, 3) := by decide +kernel
theorem dX0_init_21 : decode cX0_init 21 = .ok (.aload_n 0, 1) := by decide +kernel
theorem dX0_init_22 : decode cX0_init 22 = .ok (.iconst 0, 1) := by decide +kernel
theorem dX0_init_23 : decode cX0_init 23 = .ok (.putfield 20, 3) := by decide +kernel
theorem dX0_init_26 : decode cX0_init 26 = .ok (.aload_n 0, 1) := by decide +kernel
theorem dX0_init_27 : decode cX0_init 27 = .ok (.iconst 0, 1) := by decide +kernel
theorem dX0_init_28 : decode cX0_init 28 = .ok (.putfield 23, 3) := by decide +kernel
theorem dX0_init_31 : decode cX0_init 31 = .ok (.return_, 1) := by decide +kernel
theorem dX0_load_0 : decode cX0_load 0 = .ok (.aload_n 0, 1) := by decide +kernel
theorem dX0_load_1 : decode cX0_load 1 = .ok (.iload_n 2, 1) := by decide +kernel
theorem dX0_load_2 : decode cX0_load 2 = .ok (.putfield 16, 3) := by decide +kernel
theorem dX0_load_5 : decode cX0_load 5 = .ok (.aload_n 0, 1) := by decide +kernel
theorem dX0_load_6 : decode cX0_load 6 = .ok (.iload_n 3, 1) := by decide +kernel
theorem dX0_load_7 : decode cX0_load 7 = .ok (.putfield 23, 3) := by decide +kernel
theorem dX0_load_10 : decode cX0_load 10 = .ok (.aload_n 0, 1) := by decide +kernel
theorem dX0_load_11 : decode cX0_load 11 = .ok (.aload_n 1, 1) := by decide +kernel
theorem dX0_load_12 : decode cX0_load 12 = .ok (.getfield 26, 3) := by decide +kernel
theorem dX0_load_15 : decode cX0_load 15 = .ok (.putfield 20, 3) := by decide +kernel
theorem dX0_load_18 : decode cX0_load 18 = .ok (.iconst 0, 1) := by decide +kernel
theorem dX0_load_19 : decode cX0_load 19 = .ok (.istore 4, 2) := by decide +kernel
theorem dX0_load_21 : decode cX0_load 21 = .ok (.iload 4, 2) := by decide +kernel
theorem dX0_load_23 : decode cX0_load 23 = .ok (.aload_n 1, 1) := by decide +kernel
theorem dX0_load_24 : decode cX0_load 24 = .ok (.getfield 29, 3) := by decide +kernel
theorem dX0_load_27 : decode cX0_load 27 = .ok (.if_icmp .ge 32, 3) := by decide +kernel
theorem dX0_load_30 : decode cX0_load 30 = .ok (.aload_n 1, 1) := by decide +kernel
theorem dX0_load_31 : decode cX0_load 31 = .ok (.getfield 32, 3) := by decide +kernel
theorem dX0_load_34 : decode cX0_load 34 = .ok (.iload 4, 2) := by decide +kernel
theorem dX0_load_36 : decode cX0_load 36 = .ok (.aaload, 1) := by decide +kernel
theorem dX0_load_37 : decode cX0_load 37 = .ok (.iconst 0, 1) := by decide +kernel
theorem dX0_load_38 : decode cX0_load 38 = .ok (.aload_n 0, 1) := by decide +kernel
theorem dX0_load_39 : decode cX0_load 39 = .ok (.getfield 11, 3) := by decide +kernel
theorem dX0_load_42 : decode cX0_load 42 = .ok (.iload 4, 2) := by decide +kernel
theorem dX0_load_44 : decode cX0_load 44 = .ok (.aaload, 1) := by decide +kernel
theorem dX0_load_45 : decode cX0_load 45 = .ok (.iconst 0, 1) := by decide +kernel
theorem dX0_load_46 : decode cX0_load 46 = .ok (.aload_n 0, 1) := by decide +kernel
theorem dX0_load_47 : decode cX0_load 47 = .ok (.getfield 20, 3) := by decide +kernel
theorem dX0_load_50 : decode cX0_load 50 = .ok (.invokestatic 35, 3) := by decide +kernel
theorem dX0_load_53 : decode cX0_load 53 = .ok (.iinc 4 1, 3) := by decide +kernel
theorem dX0_load_56 : decode cX0_load 56 = .ok (.goto (-35), 3) := by decide +kernel
theorem dX0_load_59 : decode cX0_load 59 = .ok (.return_, 1) := by decide +kernel
theorem dX0_valueOf_0 : decode cX0_valueOf 0 = .ok (.iconst 0, 1) := by decide +kernel
theorem dX0_valueOf_1 : decode cX0_valueOf 1 = .ok (.istore_n 3, 1) := by decide +kernel
theorem dX0_valueOf_2 : decode cX0_valueOf 2 = .ok (.iconst 0, 1) := by decide +kernel
theorem dX0_valueOf_3 : decode cX0_valueOf 3 = .ok (.istore 4, 2) := by decide +kernel
theorem dX0_valueOf_5 : decode cX0_valueOf 5 = .ok (.iload 4, 2) := by decide +kernel
theorem dX0_valueOf_7 : decode cX0_valueOf 7 = .ok (.aload_n 1, 1) := by decide +kernel
theorem dX0_valueOf_8 : decode cX0_valueOf 8 = .ok (.getfield 41, 3) := by decide +kernel
theorem dX0_valueOf_11 : decode cX0_valueOf 11 = .ok (.if_icmp .ge 26, 3) := by decide +kernel
theorem dX0_valueOf_14 : decode cX0_valueOf 14 = .ok (.iload_n 3, 1) := by decide +kernel
theorem dX0_valueOf_15 : decode cX0_valueOf 15 = .ok (.aload_n 0, 1) := by decide +kernel
theorem dX0_valueOf_16 : decode cX0_valueOf 16 = .ok (.getfield 11, 3) := by decide +kernel
theorem dX0_valueOf_19 : decode cX0_valueOf 19 = .ok (.aload_n 1, 1) := by decide +kernel
theorem dX0_valueOf_20 : decode cX0_valueOf 20 = .ok (.getfield 46, 3) := by decide +kernel
theorem dX0_valueOf_23 : decode cX0_valueOf 23 = .ok (.iload 4, 2) := by decide +kernel
theorem dX0_valueOf_25 : decode cX0_valueOf 25 = .ok (.iaload, 1) := by decide +kernel
theorem dX0_valueOf_26 : decode cX0_valueOf 26 = .ok (.aaload, 1) := by decide +kernel
theorem dX0_valueOf_27 : decode cX0_valueOf 27 = .ok (.iload_n 2, 1) := by decide +kernel
theorem dX0_valueOf_28 : decode cX0_valueOf 28 = .ok (.iaload, 1) := by decide +kernel
theorem dX0_valueOf_29 : decode cX0_valueOf 29 = .ok (.ixor, 1) := by decide +kernel
theorem dX0_valueOf_30 : decode cX0_valueOf 30 = .ok (.istore_n 3, 1) := by decide +kernel
theorem dX0_valueOf_31 : decode cX0_valueOf 31 = .ok (.iinc 4 1, 3) := by decide +kernel
theorem dX0_valueOf_34 : decode cX0_valueOf 34 = .ok (.goto (-29), 3) := by decide +kernel
theorem dX0_valueOf_37 : decode cX0_valueOf 37 = .ok (.iload_n 3, 1) := by decide +kernel
theorem dX0_valueOf_38 : decode cX0_valueOf 38 = .ok (.ireturn, 1) := by decide +kernel
theorem dX1_init_0 : decode cX1_init 0 = .ok (.aload_n 0, 1) := by decide +kernel
theorem dX1_init_1 : decode cX1_init 1 = .ok (.invokespecial 3, 3) := by decide +kernel
theorem dX1_init_4 : decode cX1_init 4 = .ok (.aload_n 0, 1) := by decide +kernel
theorem dX1_init_5 : decode cX1_init 5 = .ok (.new 9, 3) := by decide +kernel
theorem dX1_init_8 : decode cX1_init 8 = .ok (.dup, 1) := by decide +kernel
theorem dX1_init_9 : decode cX1_init 9 = .ok (.aload_n 1, 1) := by decide +kernel
theorem dX1_init_10 : decode cX1_init 10 = .ok (.invokespecial 11, 3) := by decide +kernel
theorem dX1_init_13 : decode cX1_init 13 = .ok (.putfield 14, 3) := by decide +kernel
theorem dX1_init_16 : decode cX1_init 16 = .ok (.aload_n 0, 1) := by decide +kernel
theorem dX1_init_17 : decode cX1_init 17 = .ok (.iconst 0, 1) := by decide +kernel
theorem dX1_init_18 : decode cX1_init 18 = .ok (.putfield 20, 3) := by decide +kernel
theorem dX1_init_21 : decode cX1_init 21 = .ok (.aload_n 0, 1) := by decide +kernel
theorem dX1_init_22 : decode cX1_init 22 = .ok (.iconst 0, 1) := by decide +kernel
theorem dX1_init_23 : decode cX1_init 23 = .ok (.putfield 24, 3) := by decide +kernel
theorem dX1_init_26 : decode cX1_init 26 = .ok (.aload_n 0, 1) := by decide +kernel
theorem dX1_init_27 : decode cX1_init 27 = .ok (.iconst 0, 1) := by decide +kernel
theorem dX1_init_28 : decode cX1_init 28 = .ok (.putfield 27, 3) := by decide +kernel
theorem dX1_init_31 : decode cX1_init 31 = .ok (.aload_n 0, 1) := by decide +kernel
theorem dX1_init_32 : decode cX1_init 32 = .ok (.iconst 0, 1) := by decide +kernel
theorem dX1_init_33 : decode cX1_init 33 = .ok (.putfield 30, 3) := by decide +kernel
theorem dX1_init_36 : decode cX1_init 36 = .ok (.return_, 1) := by decide +kernel
theorem dX1_begin_0 : decode cX1_begin 0 = .ok (.aload_n 0, 1) := by decide +kernel
theorem dX1_begin_1 : decode cX1_begin 1 = .ok (.iload_n 1, 1) := by decide +kernel
theorem dX1_begin_2 : decode cX1_begin 2 = .ok (.putfield 20, 3) := by decide +kernel
theorem dX1_begin_5 : decode cX1_begin 5 = .ok (.aload_n 0, 1) := by decide +kernel
theorem dX1_begin_6 : decode cX1_begin 6 = .ok (.iload_n 2, 1) := by decide +kernel
theorem dX1_begin_7 : decode cX1_begin 7 = .ok (.putfield 24, 3) := by decide +kernel
theorem dX1_begin_10 : decode cX1_begin 10 = .ok (.aload_n 0, 1) := by decide +kernel
theorem dX1_begin_11 : decode cX1_begin 11 = .ok (.iload_n 3, 1) := by decide +kernel
theorem dX1_begin_12 : decode cX1_begin 12 = .ok (.putfield 27, 3) := by decide +kernel
theorem dX1_begin_15 : decode cX1_begin 15 = .ok (.aload_n 0, 1) := by decide +kernel
theorem dX1_begin_16 : decode cX1_begin 16 = .ok (.iconst 0, 1) := by decide +kernel
theorem dX1_begin_17 : decode cX1_begin 17 = .ok (.putfield 30, 3) := by decide +kernel
theorem dX1_begin_20 : decode cX1_begin 20 = .ok (.aload_n 0, 1) := by decide +kernel
theorem dX1_begin_21 : decode cX1_begin 21 = .ok (.getfield 14, 3) := by decide +kernel
theorem dX1_begin_24 : decode cX1_begin 24 = .ok (.iload_n 1, 1) := by decide +kernel
theorem dX1_begin_25 : decode cX1_begin 25 = .ok (.iload_n 2, 1) := by decide +kernel
theorem dX1_begin_26 : decode cX1_begin 26 = .ok (.invokevirtual 33, 3) := by decide +kernel
theorem dX1_begin_29 : decode cX1_begin 29 = .ok (.return_, 1) := by decide +kernel
theorem dX1_catchLine_0 : decode cX1_catchLine 0 = .ok (.aload_n 0, 1) := by decide +kernel
theorem dX1_catchLine_1 : decode cX1_catchLine 1 = .ok (.getfield 14, 3) := by decide +kernel
theorem dX1_catchLine_4 : decode cX1_catchLine 4 = .ok (.invokevirtual 37, 3) := by decide +kernel
theorem dX1_catchLine_7 : decode cX1_catchLine 7 = .ok (.istore_n 1, 1) := by decide +kernel
theorem dX1_catchLine_8 : decode cX1_catchLine 8 = .ok (.iload_n 1, 1) := by decide +kernel
theorem dX1_catchLine_9 : decode cX1_catchLine 9 = .ok (.iconst (-1), 1) := by decide +kernel
theorem dX1_catchLine_10 : decode cX1_catchLine 10 = .ok (.if_icmp .eq 13, 3) := by decide +kernel
theorem dX1_catchLine_13 : decode cX1_catchLine 13 = .ok (.aload_n 0, 1) := by decide +kernel
theorem dX1_catchLine_14 : decode cX1_catchLine 14 = .ok (.dup, 1) := by decide +kernel
theorem dX1_catchLine_15 : decode cX1_catchLine 15 = .ok (.getfield 30, 3) := by decide +kernel
theorem dX1_catchLine_18 : decode cX1_catchLine 18 = .ok (.iconst 1, 1) := by decide +kernel
theorem dX1_catchLine_19 : decode cX1_catchLine 19 = .ok (.iadd, 1) := by decide +kernel
theorem dX1_catchLine_20 : decode cX1_catchLine 20 = .ok (.putfield 30, 3) := by decide +kernel
theorem dX1_catchLine_23 : decode cX1_catchLine 23 = .ok (.iload_n 1, 1) := by decide +kernel
theorem dX1_catchLine_24 : decode cX1_catchLine 24 = .ok (.ireturn, 1) := by decide +kernel
theorem dX2_init_0 : decode cX2_init 0 = .ok (.aload_n 0, 1) := by decide +kernel
theorem dX2_init_1 : decode cX2_init 1 = .ok (.invokespecial 3, 3) := by decide +kernel
theorem dX2_init_4 : decode cX2_init 4 = .ok (.aload_n 0, 1) := by decide +kernel
theorem dX2_init_5 : decode cX2_init 5 = .ok (.aload_n 1, 1) := by decide +kernel
theorem dX2_init_6 : decode cX2_init 6 = .ok (.putfield 9, 3) := by decide +kernel
theorem dX2_init_9 : decode cX2_init 9 = .ok (.aload_n 0, 1) := by decide +kernel
theorem dX2_init_10 : decode cX2_init 10 = .ok (.bipush 59, 2) := by decide +kernel
theorem dX2_init_12 : decode cX2_init 12 = .ok (.bipush 75, 2) := by decide +kernel
theorem dX2_init_14 : decode cX2_init 14 = .ok (.multianewarray 15 2, 4) := by decide +kernel
theorem dX2_init_18 : decode cX2_init 18 = .ok (.putfield 17, 3) := by decide +kernel
theorem dX2_init_21 : decode cX2_init 21 = .ok (.aload_n 0, 1) := by decide +kernel
theorem dX2_init_22 : decode cX2_init 22 = .ok (.bipush 59, 2) := by decide +kernel
theorem dX2_init_24 : decode cX2_init 24 = .ok (.newarray .boolean, 2) := by decide +kernel
theorem dX2_init_26 : decode cX2_init 26 = .ok (.putfield 20, 3) := by decide +kernel
theorem dX2_init_29 : decode cX2_init 29 = .ok (.aload_n 0, 1) := by decide +kernel
theorem dX2_init_30 : decode cX2_init 30 = .ok (.bipush 75, 2) := by decide +kernel
theorem dX2_init_32 : decode cX2_init 32 = .ok (.newarray .int, 2) := by decide +kernel
theorem dX2_init_34 : decode cX2_init 34 = .ok (.putfield 24, 3) := by decide +kernel
theorem dX2_init_37 : decode cX2_init 37 = .ok (.aload_n 0, 1) := by decide +kernel
theorem dX2_init_38 : decode cX2_init 38 = .ok (.iconst 0, 1) := by decide +kernel
theorem dX2_init_39 : decode cX2_init 39 = .ok (.putfield 28, 3) := by decide +kernel
theorem dX2_init_42 : decode cX2_init 42 = .ok (.aload_n 0, 1) := by decide +kernel
theorem dX2_init_43 : decode cX2_init 43 = .ok (.iconst 0, 1) := by decide +kernel
theorem dX2_init_44 : decode cX2_init 44 = .ok (.putfield 32, 3) := by decide +kernel
theorem dX2_init_47 : decode cX2_init 47 = .ok (.aload_n 0, 1) := by decide +kernel
theorem dX2_init_48 : decode cX2_init 48 = .ok (.iconst 0, 1) := by decide +kernel
theorem dX2_init_49 : decode cX2_init 49 = .ok (.putfield 35, 3) := by decide +kernel
theorem dX2_init_52 : decode cX2_init 52 = .ok (.return_, 1) := by decide +kernel
theorem dX2_start_0 : decode cX2_start 0 = .ok (.aload_n 0, 1) := by decide +kernel
theorem dX2_start_1 : decode cX2_start 1 = .ok (.iload_n 1, 1) := by decide +kernel
theorem dX2_start_2 : decode cX2_start 2 = .ok (.bipush 11, 2) := by decide +kernel
theorem dX2_start_4 : decode cX2_start 4 = .ok (.iadd, 1) := by decide +kernel
theorem dX2_start_5 : decode cX2_start 5 = .ok (.putfield 28, 3) := by decide +kernel
theorem dX2_start_8 : decode cX2_start 8 = .ok (.aload_n 0, 1) := by decide +kernel
theorem dX2_start_9 : decode cX2_start 9 = .ok (.iload_n 2, 1) := by decide +kernel
theorem dX2_start_10 : decode cX2_start 10 = .ok (.putfield 32, 3) := by decide +kernel
theorem dX2_start_13 : decode cX2_start 13 = .ok (.aload_n 0, 1) := by decide +kernel
theorem dX2_start_14 : decode cX2_start 14 = .ok (.iconst 0, 1) := by decide +kernel
theorem dX2_start_15 : decode cX2_start 15 = .ok (.putfield 35, 3) := by decide +kernel
theorem dX2_start_18 : decode cX2_start 18 = .ok (.iconst 0, 1) := by decide +kernel
theorem dX2_start_19 : decode cX2_start 19 = .ok (.istore_n 3, 1) := by decide +kernel
theorem dX2_start_20 : decode cX2_start 20 = .ok (.iload_n 3, 1) := by decide +kernel
theorem dX2_start_21 : decode cX2_start 21 = .ok (.bipush 59, 2) := by decide +kernel
theorem dX2_start_23 : decode cX2_start 23 = .ok (.if_icmp .ge 16, 3) := by decide +kernel
theorem dX2_start_26 : decode cX2_start 26 = .ok (.aload_n 0, 1) := by decide +kernel
theorem dX2_start_27 : decode cX2_start 27 = .ok (.getfield 20, 3) := by decide +kernel
theorem dX2_start_30 : decode cX2_start 30 = .ok (.iload_n 3, 1) := by decide +kernel
theorem dX2_start_31 : decode cX2_start 31 = .ok (.iconst 0, 1) := by decide +kernel
theorem dX2_start_32 : decode cX2_start 32 = .ok (.bastore, 1) := by decide +kernel
theorem dX2_start_33 : decode cX2_start 33 = .ok (.iinc 3 1, 3) := by decide +kernel
theorem dX2_start_36 : decode cX2_start 36 = .ok (.goto (-16), 3) := by decide +kernel
theorem dX2_start_39 : decode cX2_start 39 = .ok (.iconst 0, 1) := by decide +kernel
theorem dX2_start_40 : decode cX2_start 40 = .ok (.istore_n 3, 1) := by decide +kernel
theorem dX2_start_41 : decode cX2_start 41 = .ok (.iload_n 3, 1) := by decide +kernel
theorem dX2_start_42 : decode cX2_start 42 = .ok (.bipush 7, 2) := by decide +kernel
theorem dX2_start_44 : decode cX2_start 44 = .ok (.if_icmp .ge 20, 3) := by decide +kernel
theorem dX2_start_47 : decode cX2_start 47 = .ok (.aload_n 0, 1) := by decide +kernel
theorem dX2_start_48 : decode cX2_start 48 = .ok (.iload_n 1, 1) := by decide +kernel
theorem dX2_start_49 : decode cX2_start 49 = .ok (.iload_n 3, 1) := by decide +kernel
theorem dX2_start_50 : decode cX2_start 50 = .ok (.invokevirtual 38, 3) := by decide +kernel
theorem dX2_start_53 : decode cX2_start 53 = .ok (.aload_n 0, 1) := by decide +kernel
theorem dX2_start_54 : decode cX2_start 54 = .ok (.invokevirtual 42, 3) := by decide +kernel
theorem dX2_start_57 : decode cX2_start 57 = .ok (.pop, 1) := by decide +kernel
theorem dX2_start_58 : decode cX2_start 58 = .ok (.iinc 3 1, 3) := by decide +kernel
theorem dX2_start_61 : decode cX2_start 61 = .ok (.goto (-20), 3) := by decide +kernel
theorem dX2_start_64 : decode cX2_start 64 = .ok (.iconst 0, 1) := by decide +kernel
theorem dX2_start_65 : decode cX2_start 65 = .ok (.istore_n 3, 1) := by decide +kernel
theorem dX2_start_66 : decode cX2_start 66 = .ok (.iload_n 3, 1) := by decide +kernel
theorem dX2_start_67 : decode cX2_start 67 = .ok (.iconst 4, 1) := by decide +kernel
theorem dX2_start_68 : decode cX2_start 68 = .ok (.if_icmp .ge 20, 3) := by decide +kernel
theorem dX2_start_71 : decode cX2_start 71 = .ok (.aload_n 0, 1) := by decide +kernel
theorem dX2_start_72 : decode cX2_start 72 = .ok (.iload_n 1, 1) := by decide +kernel
theorem dX2_start_73 : decode cX2_start 73 = .ok (.iload_n 3, 1) := by decide +kernel
theorem dX2_start_74 : decode cX2_start 74 = .ok (.invokevirtual 46, 3) := by decide +kernel
theorem dX2_start_77 : decode cX2_start 77 = .ok (.aload_n 0, 1) := by decide +kernel
theorem dX2_start_78 : decode cX2_start 78 = .ok (.invokevirtual 42, 3) := by decide +kernel
theorem dX2_start_81 : decode cX2_start 81 = .ok (.pop, 1) := by decide +kernel
theorem dX2_start_82 : decode cX2_start 82 = .ok (.iinc 3 1, 3) := by decide +kernel
theorem dX2_start_85 : decode cX2_start 85 = .ok (.goto (-19), 3) := by decide +kernel
theorem dX2_start_88 : decode cX2_start 88 = .ok (.return_, 1) := by decide +kernel
theorem dX2_setLine_0 : decode cX2_setLine 0 = .ok (.aload_n 0, 1) := by decide +kernel
theorem dX2_setLine_1 : decode cX2_setLine 1 = .ok (.getfield 24, 3) := by decide +kernel
theorem dX2_setLine_4 : decode cX2_setLine 4 = .ok (.iconst 0, 1) := by decide +kernel
theorem dX2_setLine_5 : decode cX2_setLine 5 = .ok (.invokestatic 49, 3) := by decide +kernel
theorem dX2_setLine_8 : decode cX2_setLine 8 = .ok (.iconst 0, 1) := by decide +kernel
theorem dX2_setLine_9 : decode cX2_setLine 9 = .ok (.istore_n 2, 1) := by decide +kernel
theorem dX2_setLine_10 : decode cX2_setLine 10 = .ok (.iload_n 2, 1) := by decide +kernel
theorem dX2_setLine_11 : decode cX2_setLine 11 = .ok (.aload_n 1, 1) := by decide +kernel
theorem dX2_setLine_12 : decode cX2_setLine 12 = .ok (.getfield 55, 3) := by decide +kernel
theorem dX2_setLine_15 : decode cX2_setLine 15 = .ok (.if_icmp .ge 26, 3) := by decide +kernel
theorem dX2_setLine_18 : decode cX2_setLine 18 = .ok (.aload_n 0, 1) := by decide +kernel
theorem dX2_setLine_19 : decode cX2_setLine 19 = .ok (.getfield 24, 3) := by decide +kernel
theorem dX2_setLine_22 : decode cX2_setLine 22 = .ok (.aload_n 0, 1) := by decide +kernel
theorem dX2_setLine_23 : decode cX2_setLine 23 = .ok (.getfield 32, 3) := by decide +kernel
theorem dX2_setLine_26 : decode cX2_setLine 26 = .ok (.aload_n 1, 1) := by decide +kernel
theorem dX2_setLine_27 : decode cX2_setLine 27 = .ok (.getfield 60, 3) := by decide +kernel
theorem dX2_setLine_30 : decode cX2_setLine 30 = .ok (.iload_n 2, 1) := by decide +kernel
theorem dX2_setLine_31 : decode cX2_setLine 31 = .ok (.iaload, 1) := by decide +kernel
theorem dX2_setLine_32 : decode cX2_setLine 32 = .ok (.iadd, 1) := by decide +kernel
theorem dX2_setLine_33 : decode cX2_setLine 33 = .ok (.iconst 1, 1) := by decide +kernel
theorem dX2_setLine_34 : decode cX2_setLine 34 = .ok (.iastore, 1) := by decide +kernel
theorem dX2_setLine_35 : decode cX2_setLine 35 = .ok (.iinc 2 1, 3) := by decide +kernel
theorem dX2_setLine_38 : decode cX2_setLine 38 = .ok (.goto (-28), 3) := by decide +kernel
theorem dX2_setLine_41 : decode cX2_setLine 41 = .ok (.return_, 1) := by decide +kernel
theorem dX2_setValue_0 : decode cX2_setValue 0 = .ok (.aload_n 0, 1) := by decide +kernel
theorem dX2_setValue_1 : decode cX2_setValue 1 = .ok (.getfield 24, 3) := by decide +kernel
theorem dX2_setValue_4 : decode cX2_setValue 4 = .ok (.iload_n 1, 1) := by decide +kernel
theorem dX2_setValue_5 : decode cX2_setValue 5 = .ok (.iload_n 2, 1) := by decide +kernel
theorem dX2_setValue_6 : decode cX2_setValue 6 = .ok (.iastore, 1) := by decide +kernel
theorem dX2_setValue_7 : decode cX2_setValue 7 = .ok (.return_, 1) := by decide +kernel
theorem dX2_learn_0 : decode cX2_learn 0 = .ok (.aload_n 0, 1) := by decide +kernel
theorem dX2_learn_1 : decode cX2_learn 1 = .ok (.invokevirtual 63, 3) := by decide +kernel
theorem dX2_learn_4 : decode cX2_learn 4 = .ok (.aload_n 0, 1) := by decide +kernel
theorem dX2_learn_5 : decode cX2_learn 5 = .ok (.invokevirtual 66, 3) := by decide +kernel
theorem dX2_learn_8 : decode cX2_learn 8 = .ok (.istore_n 1, 1) := by decide +kernel
theorem dX2_learn_9 : decode cX2_learn 9 = .ok (.iload_n 1, 1) := by decide +kernel
theorem dX2_learn_10 : decode cX2_learn 10 = .ok (.iconst (-1), 1) := by decide +kernel
theorem dX2_learn_11 : decode cX2_learn 11 = .ok (.if_icmp .ne 16, 3) := by decide +kernel
theorem dX2_learn_14 : decode cX2_learn 14 = .ok (.aload_n 0, 1) := by decide +kernel
theorem dX2_learn_15 : decode cX2_learn 15 = .ok (.invokevirtual 69, 3) := by decide +kernel
theorem dX2_learn_18 : decode cX2_learn 18 = .ok (.ifCond .eq 7, 3) := by decide +kernel
theorem dX2_learn_21 : decode cX2_learn 21 = .ok (.iconst (-1), 1) := by decide +kernel
theorem dX2_learn_22 : decode cX2_learn 22 = .ok (.goto 4, 3) := by decide +kernel
theorem dX2_learn_25 : decode cX2_learn 25 = .ok (.iconst 0, 1) := by decide +kernel
theorem dX2_learn_26 : decode cX2_learn 26 = .ok (.ireturn, 1) := by decide +kernel
theorem dX2_learn_27 : decode cX2_learn 27 = .ok (.aload_n 0, 1) := by decide +kernel
theorem dX2_learn_28 : decode cX2_learn 28 = .ok (.iload_n 1, 1) := by decide +kernel
theorem dX2_learn_29 : decode cX2_learn 29 = .ok (.invokevirtual 73, 3) := by decide +kernel
theorem dX2_learn_32 : decode cX2_learn 32 = .ok (.iconst 1, 1) := by decide +kernel
theorem dX2_learn_33 : decode cX2_learn 33 = .ok (.ireturn, 1) := by decide +kernel
theorem dX2_derive_0 : decode cX2_derive 0 = .ok (.aload_n 0, 1) := by decide +kernel
theorem dX2_derive_1 : decode cX2_derive 1 = .ok (.aload_n 1, 1) := by decide +kernel
theorem dX2_derive_2 : decode cX2_derive 2 = .ok (.invokevirtual 77, 3) := by decide +kernel
theorem dX2_derive_5 : decode cX2_derive 5 = .ok (.aload_n 0, 1) := by decide +kernel
theorem dX2_derive_6 : decode cX2_derive 6 = .ok (.invokevirtual 63, 3) := by decide +kernel
theorem dX2_derive_9 : decode cX2_derive 9 = .ok (.aload_n 0, 1) := by decide +kernel
theorem dX2_derive_10 : decode cX2_derive 10 = .ok (.invokevirtual 66, 3) := by decide +kernel
theorem dX2_derive_13 : decode cX2_derive 13 = .ok (.iconst (-1), 1) := by decide +kernel
theorem dX2_derive_14 : decode cX2_derive 14 = .ok (.if_icmp .ne 7, 3) := by decide +kernel
theorem dX2_derive_17 : decode cX2_derive 17 = .ok (.iconst 1, 1) := by decide +kernel
theorem dX2_derive_18 : decode cX2_derive 18 = .ok (.goto 4, 3) := by decide +kernel
theorem dX2_derive_21 : decode cX2_derive 21 = .ok (.iconst 0, 1) := by decide +kernel
theorem dX2_derive_22 : decode cX2_derive 22 = .ok (.ireturn, 1) := by decide +kernel
theorem dX2_derivedValue_0 : decode cX2_derivedValue 0 = .ok (.aload_n 0, 1) := by decide +kernel
theorem dX2_derivedValue_1 : decode cX2_derivedValue 1 = .ok (.getfield 24, 3) := by decide +kernel
theorem dX2_derivedValue_4 : decode cX2_derivedValue 4 = .ok (.iload_n 1, 1) := by decide +kernel
theorem dX2_derivedValue_5 : decode cX2_derivedValue 5 = .ok (.iaload, 1) := by decide +kernel
theorem dX2_derivedValue_6 : decode cX2_derivedValue 6 = .ok (.ireturn, 1) := by decide +kernel
theorem dX2_setSumLine_0 : decode cX2_setSumLine 0 = .ok (.aload_n 0, 1) := by decide +kernel
theorem dX2_setSumLine_1 : decode cX2_setSumLine 1 = .ok (.getfield 24, 3) := by decide +kernel
theorem dX2_setSumLine_4 : decode cX2_setSumLine 4 = .ok (.iconst 0, 1) := by decide +kernel
theorem dX2_setSumLine_5 : decode cX2_setSumLine 5 = .ok (.invokestatic 49, 3) := by decide +kernel
theorem dX2_setSumLine_8 : decode cX2_setSumLine 8 = .ok (.iconst 0, 1) := by decide +kernel
theorem dX2_setSumLine_9 : decode cX2_setSumLine 9 = .ok (.istore_n 3, 1) := by decide +kernel
theorem dX2_setSumLine_10 : decode cX2_setSumLine 10 = .ok (.iload_n 3, 1) := by decide +kernel
theorem dX2_setSumLine_11 : decode cX2_setSumLine 11 = .ok (.iload_n 1, 1) := by decide +kernel
theorem dX2_setSumLine_12 : decode cX2_setSumLine 12 = .ok (.if_icmp .ge 64, 3) := by decide +kernel
theorem dX2_setSumLine_15 : decode cX2_setSumLine 15 = .ok (.iconst 1, 1) := by decide +kernel
theorem dX2_setSumLine_16 : decode cX2_setSumLine 16 = .ok (.iload_n 3, 1) := by decide +kernel
theorem dX2_setSumLine_17 : decode cX2_setSumLine 17 = .ok (.bipush 7, 2) := by decide +kernel
theorem dX2_setSumLine_19 : decode cX2_setSumLine 19 = .ok (.idiv, 1) := by decide +kernel
theorem dX2_setSumLine_20 : decode cX2_setSumLine 20 = .ok (.bipush 6, 2) := by decide +kernel
theorem dX2_setSumLine_22 : decode cX2_setSumLine 22 = .ok (.irem, 1) := by decide +kernel
theorem dX2_setSumLine_23 : decode cX2_setSumLine 23 = .ok (.iadd, 1) := by decide +kernel
theorem dX2_setSumLine_24 : decode cX2_setSumLine 24 = .ok (.istore 4, 2) := by decide +kernel
theorem dX2_setSumLine_26 : decode cX2_setSumLine 26 = .ok (.iload_n 3, 1) := by decide +kernel
theorem dX2_setSumLine_27 : decode cX2_setSumLine 27 = .ok (.bipush 7, 2) := by decide +kernel
theorem dX2_setSumLine_29 : decode cX2_setSumLine 29 = .ok (.irem, 1) := by decide +kernel
theorem dX2_setSumLine_30 : decode cX2_setSumLine 30 = .ok (.iload_n 2, 1) := by decide +kernel
theorem dX2_setSumLine_31 : decode cX2_setSumLine 31 = .ok (.if_icmp .eq 27, 3) := by decide +kernel
theorem dX2_setSumLine_34 : decode cX2_setSumLine 34 = .ok (.iload_n 3, 1) := by decide +kernel
theorem dX2_setSumLine_35 : decode cX2_setSumLine 35 = .ok (.iload 4, 2) := by decide +kernel
theorem dX2_setSumLine_37 : decode cX2_setSumLine 37 = .ok (.iadd, 1) := by decide +kernel
theorem dX2_setSumLine_38 : decode cX2_setSumLine 38 = .ok (.bipush 7, 2) := by decide +kernel
theorem dX2_setSumLine_40 : decode cX2_setSumLine 40 = .ok (.irem, 1) := by decide +kernel
theorem dX2_setSumLine_41 : decode cX2_setSumLine 41 = .ok (.iload_n 2, 1) := by decide +kernel
theorem dX2_setSumLine_42 : decode cX2_setSumLine 42 = .ok (.if_icmp .eq 16, 3) := by decide +kernel
theorem dX2_setSumLine_45 : decode cX2_setSumLine 45 = .ok (.iload_n 3, 1) := by decide +kernel
theorem dX2_setSumLine_46 : decode cX2_setSumLine 46 = .ok (.iconst 2, 1) := by decide +kernel
theorem dX2_setSumLine_47 : decode cX2_setSumLine 47 = .ok (.iload 4, 2) := by decide +kernel
theorem dX2_setSumLine_49 : decode cX2_setSumLine 49 = .ok (.imul, 1) := by decide +kernel
theorem dX2_setSumLine_50 : decode cX2_setSumLine 50 = .ok (.iadd, 1) := by decide +kernel
theorem dX2_setSumLine_51 : decode cX2_setSumLine 51 = .ok (.bipush 7, 2) := by decide +kernel
theorem dX2_setSumLine_53 : decode cX2_setSumLine 53 = .ok (.irem, 1) := by decide +kernel
theorem dX2_setSumLine_54 : decode cX2_setSumLine 54 = .ok (.iload_n 2, 1) := by decide +kernel
theorem dX2_setSumLine_55 : decode cX2_setSumLine 55 = .ok (.if_icmp .ne 15, 3) := by decide +kernel
theorem dX2_setSumLine_58 : decode cX2_setSumLine 58 = .ok (.aload_n 0, 1) := by decide +kernel
theorem dX2_setSumLine_59 : decode cX2_setSumLine 59 = .ok (.getfield 24, 3) := by decide +kernel
theorem dX2_setSumLine_62 : decode cX2_setSumLine 62 = .ok (.aload_n 0, 1) := by decide +kernel
theorem dX2_setSumLine_63 : decode cX2_setSumLine 63 = .ok (.getfield 32, 3) := by decide +kernel
theorem dX2_setSumLine_66 : decode cX2_setSumLine 66 = .ok (.iload_n 3, 1) := by decide +kernel
theorem dX2_setSumLine_67 : decode cX2_setSumLine 67 = .ok (.iadd, 1) := by decide +kernel
theorem dX2_setSumLine_68 : decode cX2_setSumLine 68 = .ok (.iconst 1, 1) := by decide +kernel
theorem dX2_setSumLine_69 : decode cX2_setSumLine 69 = .ok (.iastore, 1) := by decide +kernel
theorem dX2_setSumLine_70 : decode cX2_setSumLine 70 = .ok (.iinc 3 1, 3) := by decide +kernel
theorem dX2_setSumLine_73 : decode cX2_setSumLine 73 = .ok (.goto (-63), 3) := by decide +kernel
theorem dX2_setSumLine_76 : decode cX2_setSumLine 76 = .ok (.aload_n 0, 1) := by decide +kernel
theorem dX2_setSumLine_77 : decode cX2_setSumLine 77 = .ok (.getfield 24, 3) := by decide +kernel
theorem dX2_setSumLine_80 : decode cX2_setSumLine 80 = .ok (.aload_n 0, 1) := by decide +kernel
theorem dX2_setSumLine_81 : decode cX2_setSumLine 81 = .ok (.getfield 32, 3) := by decide +kernel
theorem dX2_setSumLine_84 : decode cX2_setSumLine 84 = .ok (.iload_n 1, 1) := by decide +kernel
theorem dX2_setSumLine_85 : decode cX2_setSumLine 85 = .ok (.iadd, 1) := by decide +kernel
theorem dX2_setSumLine_86 : decode cX2_setSumLine 86 = .ok (.iload_n 2, 1) := by decide +kernel
theorem dX2_setSumLine_87 : decode cX2_setSumLine 87 = .ok (.iadd, 1) := by decide +kernel
theorem dX2_setSumLine_88 : decode cX2_setSumLine 88 = .ok (.iconst 1, 1) := by decide +kernel
theorem dX2_setSumLine_89 : decode cX2_setSumLine 89 = .ok (.iastore, 1) := by decide +kernel
theorem dX2_setSumLine_90 : decode cX2_setSumLine 90 = .ok (.return_, 1) := by decide +kernel
theorem dX2_setPowerLine_0 : decode cX2_setPowerLine 0 = .ok (.aload_n 0, 1) := by decide +kernel
theorem dX2_setPowerLine_1 : decode cX2_setPowerLine 1 = .ok (.getfield 24, 3) := by decide +kernel
theorem dX2_setPowerLine_4 : decode cX2_setPowerLine 4 = .ok (.iconst 0, 1) := by decide +kernel
theorem dX2_setPowerLine_5 : decode cX2_setPowerLine 5 = .ok (.invokestatic 49, 3) := by decide +kernel
theorem dX2_setPowerLine_8 : decode cX2_setPowerLine 8 = .ok (.iconst 0, 1) := by decide +kernel
theorem dX2_setPowerLine_9 : decode cX2_setPowerLine 9 = .ok (.istore_n 3, 1) := by decide +kernel
theorem dX2_setPowerLine_10 : decode cX2_setPowerLine 10 = .ok (.iload_n 3, 1) := by decide +kernel
theorem dX2_setPowerLine_11 : decode cX2_setPowerLine 11 = .ok (.iload_n 1, 1) := by decide +kernel
theorem dX2_setPowerLine_12 : decode cX2_setPowerLine 12 = .ok (.bipush 7, 2) := by decide +kernel
theorem dX2_setPowerLine_14 : decode cX2_setPowerLine 14 = .ok (.iadd, 1) := by decide +kernel
theorem dX2_setPowerLine_15 : decode cX2_setPowerLine 15 = .ok (.if_icmp .ge 32, 3) := by decide +kernel
theorem dX2_setPowerLine_18 : decode cX2_setPowerLine 18 = .ok (.aload_n 0, 1) := by decide +kernel
theorem dX2_setPowerLine_19 : decode cX2_setPowerLine 19 = .ok (.getfield 24, 3) := by decide +kernel
theorem dX2_setPowerLine_22 : decode cX2_setPowerLine 22 = .ok (.aload_n 0, 1) := by decide +kernel
theorem dX2_setPowerLine_23 : decode cX2_setPowerLine 23 = .ok (.getfield 32, 3) := by decide +kernel
theorem dX2_setPowerLine_26 : decode cX2_setPowerLine 26 = .ok (.iload_n 3, 1) := by decide +kernel
theorem dX2_setPowerLine_27 : decode cX2_setPowerLine 27 = .ok (.iadd, 1) := by decide +kernel
theorem dX2_setPowerLine_28 : decode cX2_setPowerLine 28 = .ok (.aload_n 0, 1) := by decide +kernel
theorem dX2_setPowerLine_29 : decode cX2_setPowerLine 29 = .ok (.getfield 9, 3) := by decide +kernel
theorem dX2_setPowerLine_32 : decode cX2_setPowerLine 32 = .ok (.iload_n 3, 1) := by decide +kernel
theorem dX2_setPowerLine_33 : decode cX2_setPowerLine 33 = .ok (.iload_n 2, 1) := by decide +kernel
theorem dX2_setPowerLine_34 : decode cX2_setPowerLine 34 = .ok (.iconst 1, 1) := by decide +kernel
theorem dX2_setPowerLine_35 : decode cX2_setPowerLine 35 = .ok (.iadd, 1) := by decide +kernel
theorem dX2_setPowerLine_36 : decode cX2_setPowerLine 36 = .ok (.imul, 1) := by decide +kernel
theorem dX2_setPowerLine_37 : decode cX2_setPowerLine 37 = .ok (.invokevirtual 81, 3) := by decide +kernel
theorem dX2_setPowerLine_40 : decode cX2_setPowerLine 40 = .ok (.iastore, 1) := by decide +kernel
theorem dX2_setPowerLine_41 : decode cX2_setPowerLine 41 = .ok (.iinc 3 1, 3) := by decide +kernel
theorem dX2_setPowerLine_44 : decode cX2_setPowerLine 44 = .ok (.goto (-34), 3) := by decide +kernel
theorem dX2_setPowerLine_47 : decode cX2_setPowerLine 47 = .ok (.aload_n 0, 1) := by decide +kernel
theorem dX2_setPowerLine_48 : decode cX2_setPowerLine 48 = .ok (.getfield 24, 3) := by decide +kernel
theorem dX2_setPowerLine_51 : decode cX2_setPowerLine 51 = .ok (.aload_n 0, 1) := by decide +kernel
theorem dX2_setPowerLine_52 : decode cX2_setPowerLine 52 = .ok (.getfield 32, 3) := by decide +kernel
theorem dX2_setPowerLine_55 : decode cX2_setPowerLine 55 = .ok (.iload_n 1, 1) := by decide +kernel
theorem dX2_setPowerLine_56 : decode cX2_setPowerLine 56 = .ok (.iadd, 1) := by decide +kernel
theorem dX2_setPowerLine_57 : decode cX2_setPowerLine 57 = .ok (.bipush 7, 2) := by decide +kernel
theorem dX2_setPowerLine_59 : decode cX2_setPowerLine 59 = .ok (.iadd, 1) := by decide +kernel
theorem dX2_setPowerLine_60 : decode cX2_setPowerLine 60 = .ok (.iload_n 2, 1) := by decide +kernel
theorem dX2_setPowerLine_61 : decode cX2_setPowerLine 61 = .ok (.iadd, 1) := by decide +kernel
theorem dX2_setPowerLine_62 : decode cX2_setPowerLine 62 = .ok (.iconst 1, 1) := by decide +kernel
theorem dX2_setPowerLine_63 : decode cX2_setPowerLine 63 = .ok (.iastore, 1) := by decide +kernel
theorem dX2_setPowerLine_64 : decode cX2_setPowerLine 64 = .ok (.return_, 1) := by decide +kernel
theorem dX2_reduceLine_0 : decode cX2_reduceLine 0 = .ok (.iconst 0, 1) := by decide +kernel
theorem dX2_reduceLine_1 : decode cX2_reduceLine 1 = .ok (.istore_n 1, 1) := by decide +kernel
theorem dX2_reduceLine_2 : decode cX2_reduceLine 2 = .ok (.iload_n 1, 1) := by decide +kernel
theorem dX2_reduceLine_3 : decode cX2_reduceLine 3 = .ok (.aload_n 0, 1) := by decide +kernel
theorem dX2_reduceLine_4 : decode cX2_reduceLine 4 = .ok (.getfield 28, 3) := by decide +kernel
theorem dX2_reduceLine_7 : decode cX2_reduceLine 7 = .ok (.if_icmp .ge 60, 3) := by decide +kernel
theorem dX2_reduceLine_10 : decode cX2_reduceLine 10 = .ok (.aload_n 0, 1) := by decide +kernel
theorem dX2_reduceLine_11 : decode cX2_reduceLine 11 = .ok (.getfield 24, 3) := by decide +kernel
theorem dX2_reduceLine_14 : decode cX2_reduceLine 14 = .ok (.aload_n 0, 1) := by decide +kernel
theorem dX2_reduceLine_15 : decode cX2_reduceLine 15 = .ok (.getfield 32, 3) := by decide +kernel
theorem dX2_reduceLine_18 : decode cX2_reduceLine 18 = .ok (.iload_n 1, 1) := by decide +kernel
theorem dX2_reduceLine_19 : decode cX2_reduceLine 19 = .ok (.iadd, 1) := by decide +kernel
theorem dX2_reduceLine_20 : decode cX2_reduceLine 20 = .ok (.iaload, 1) := by decide +kernel
theorem dX2_reduceLine_21 : decode cX2_reduceLine 21 = .ok (.istore_n 2, 1) := by decide +kernel
theorem dX2_reduceLine_22 : decode cX2_reduceLine 22 = .ok (.iload_n 2, 1) := by decide +kernel
theorem dX2_reduceLine_23 : decode cX2_reduceLine 23 = .ok (.ifCond .eq 38, 3) := by decide +kernel
theorem dX2_reduceLine_26 : decode cX2_reduceLine 26 = .ok (.aload_n 0, 1) := by decide +kernel
theorem dX2_reduceLine_27 : decode cX2_reduceLine 27 = .ok (.getfield 20, 3) := by decide +kernel
theorem dX2_reduceLine_30 : decode cX2_reduceLine 30 = .ok (.iload_n 1, 1) := by decide +kernel
theorem dX2_reduceLine_31 : decode cX2_reduceLine 31 = .ok (.baload, 1) := by decide +kernel
theorem dX2_reduceLine_32 : decode cX2_reduceLine 32 = .ok (.ifCond .eq 29, 3) := by decide +kernel
theorem dX2_reduceLine_35 : decode cX2_reduceLine 35 = .ok (.aload_n 0, 1) := by decide +kernel
theorem dX2_reduceLine_36 : decode cX2_reduceLine 36 = .ok (.getfield 9, 3) := by decide +kernel
theorem dX2_reduceLine_39 : decode cX2_reduceLine 39 = .ok (.aload_n 0, 1) := by decide +kernel
theorem dX2_reduceLine_40 : decode cX2_reduceLine 40 = .ok (.getfield 24, 3) := by decide +kernel
theorem dX2_reduceLine_43 : decode cX2_reduceLine 43 = .ok (.aload_n 0, 1) := by decide +kernel
theorem dX2_reduceLine_44 : decode cX2_reduceLine 44 = .ok (.getfield 17, 3) := by decide +kernel
theorem dX2_reduceLine_47 : decode cX2_reduceLine 47 = .ok (.iload_n 1, 1) := by decide +kernel
theorem dX2_reduceLine_48 : decode cX2_reduceLine 48 = .ok (.aaload, 1) := by decide +kernel
theorem dX2_reduceLine_49 : decode cX2_reduceLine 49 = .ok (.iload_n 2, 1) := by decide +kernel
theorem dX2_reduceLine_50 : decode cX2_reduceLine 50 = .ok (.aload_n 0, 1) := by decide +kernel
theorem dX2_reduceLine_51 : decode cX2_reduceLine 51 = .ok (.getfield 32, 3) := by decide +kernel
theorem dX2_reduceLine_54 : decode cX2_reduceLine 54 = .ok (.iload_n 1, 1) := by decide +kernel
theorem dX2_reduceLine_55 : decode cX2_reduceLine 55 = .ok (.iadd, 1) := by decide +kernel
theorem dX2_reduceLine_56 : decode cX2_reduceLine 56 = .ok (.iconst 1, 1) := by decide +kernel
theorem dX2_reduceLine_57 : decode cX2_reduceLine 57 = .ok (.iadd, 1) := by decide +kernel
theorem dX2_reduceLine_58 : decode cX2_reduceLine 58 = .ok (.invokevirtual 87, 3) := by decide +kernel
theorem dX2_reduceLine_61 : decode cX2_reduceLine 61 = .ok (.iinc 1 1, 3) := by decide +kernel
theorem dX2_reduceLine_64 : decode cX2_reduceLine 64 = .ok (.goto (-62), 3) := by decide +kernel
theorem dX2_reduceLine_67 : decode cX2_reduceLine 67 = .ok (.return_, 1) := by decide +kernel
theorem dX2_lineLead_0 : decode cX2_lineLead 0 = .ok (.aload_n 0, 1) := by decide +kernel
theorem dX2_lineLead_1 : decode cX2_lineLead 1 = .ok (.getfield 28, 3) := by decide +kernel
theorem dX2_lineLead_4 : decode cX2_lineLead 4 = .ok (.iconst 1, 1) := by decide +kernel
theorem dX2_lineLead_5 : decode cX2_lineLead 5 = .ok (.isub, 1) := by decide +kernel
theorem dX2_lineLead_6 : decode cX2_lineLead 6 = .ok (.istore_n 1, 1) := by decide +kernel
theorem dX2_lineLead_7 : decode cX2_lineLead 7 = .ok (.iload_n 1, 1) := by decide +kernel
theorem dX2_lineLead_8 : decode cX2_lineLead 8 = .ok (.ifCond .lt 25, 3) := by decide +kernel
theorem dX2_lineLead_11 : decode cX2_lineLead 11 = .ok (.aload_n 0, 1) := by decide +kernel
theorem dX2_lineLead_12 : decode cX2_lineLead 12 = .ok (.getfield 24, 3) := by decide +kernel
theorem dX2_lineLead_15 : decode cX2_lineLead 15 = .ok (.aload_n 0, 1) := by decide +kernel
theorem dX2_lineLead_16 : decode cX2_lineLead 16 = .ok (.getfield 32, 3) := by decide +kernel
theorem dX2_lineLead_19 : decode cX2_lineLead 19 = .ok (.iload_n 1, 1) := by decide +kernel
theorem dX2_lineLead_20 : decode cX2_lineLead 20 = .ok (.iadd, 1) := by decide +kernel
theorem dX2_lineLead_21 : decode cX2_lineLead 21 = .ok (.iaload, 1) := by decide +kernel
theorem dX2_lineLead_22 : decode cX2_lineLead 22 = .ok (.ifCond .eq 5, 3) := by decide +kernel
theorem dX2_lineLead_25 : decode cX2_lineLead 25 = .ok (.iload_n 1, 1) := by decide +kernel
theorem dX2_lineLead_26 : decode cX2_lineLead 26 = .ok (.ireturn, 1) := by decide +kernel
theorem dX2_lineLead_27 : decode cX2_lineLead 27 = .ok (.iinc 1 (-1), 3) := by decide +kernel
theorem dX2_lineLead_30 : decode cX2_lineLead 30 = .ok (.goto (-23), 3) := by decide +kernel
theorem dX2_lineLead_33 : decode cX2_lineLead 33 = .ok (.iconst (-1), 1) := by decide +kernel
theorem dX2_lineLead_34 : decode cX2_lineLead 34 = .ok (.ireturn, 1) := by decide +kernel
theorem dX2_hasValueLeft_0 : decode cX2_hasValueLeft 0 = .ok (.iconst 0, 1) := by decide +kernel
theorem dX2_hasValueLeft_1 : decode cX2_hasValueLeft 1 = .ok (.istore_n 1, 1) := by decide +kernel
theorem dX2_hasValueLeft_2 : decode cX2_hasValueLeft 2 = .ok (.iload_n 1, 1) := by decide +kernel
theorem dX2_hasValueLeft_3 : decode cX2_hasValueLeft 3 = .ok (.aload_n 0, 1) := by decide +kernel
theorem dX2_hasValueLeft_4 : decode cX2_hasValueLeft 4 = .ok (.getfield 32, 3) := by decide +kernel
theorem dX2_hasValueLeft_7 : decode cX2_hasValueLeft 7 = .ok (.if_icmp .ge 20, 3) := by decide +kernel
theorem dX2_hasValueLeft_10 : decode cX2_hasValueLeft 10 = .ok (.aload_n 0, 1) := by decide +kernel
theorem dX2_hasValueLeft_11 : decode cX2_hasValueLeft 11 = .ok (.getfield 24, 3) := by decide +kernel
theorem dX2_hasValueLeft_14 : decode cX2_hasValueLeft 14 = .ok (.iload_n 1, 1) := by decide +kernel
theorem dX2_hasValueLeft_15 : decode cX2_hasValueLeft 15 = .ok (.iaload, 1) := by decide +kernel
theorem dX2_hasValueLeft_16 : decode cX2_hasValueLeft 16 = .ok (.ifCond .eq 5, 3) := by decide +kernel
theorem dX2_hasValueLeft_19 : decode cX2_hasValueLeft 19 = .ok (.iconst 1, 1) := by decide +kernel
theorem dX2_hasValueLeft_20 : decode cX2_hasValueLeft 20 = .ok (.ireturn, 1) := by decide +kernel
theorem dX2_hasValueLeft_21 : decode cX2_hasValueLeft 21 = .ok (.iinc 1 1, 3) := by decide +kernel
theorem dX2_hasValueLeft_24 : decode cX2_hasValueLeft 24 = .ok (.goto (-22), 3) := by decide +kernel
theorem dX2_hasValueLeft_27 : decode cX2_hasValueLeft 27 = .ok (.iconst 0, 1) := by decide +kernel
theorem dX2_hasValueLeft_28 : decode cX2_hasValueLeft 28 = .ok (.ireturn, 1) := by decide +kernel
theorem dX2_keepLine_0 : decode cX2_keepLine 0 = .ok (.aload_n 0, 1) := by decide +kernel
theorem dX2_keepLine_1 : decode cX2_keepLine 1 = .ok (.getfield 9, 3) := by decide +kernel
theorem dX2_keepLine_4 : decode cX2_keepLine 4 = .ok (.aload_n 0, 1) := by decide +kernel
theorem dX2_keepLine_5 : decode cX2_keepLine 5 = .ok (.getfield 24, 3) := by decide +kernel
theorem dX2_keepLine_8 : decode cX2_keepLine 8 = .ok (.aload_n 0, 1) := by decide +kernel
theorem dX2_keepLine_9 : decode cX2_keepLine 9 = .ok (.getfield 32, 3) := by decide +kernel
theorem dX2_keepLine_12 : decode cX2_keepLine 12 = .ok (.iload_n 1, 1) := by decide +kernel
theorem dX2_keepLine_13 : decode cX2_keepLine 13 = .ok (.iadd, 1) := by decide +kernel
theorem dX2_keepLine_14 : decode cX2_keepLine 14 = .ok (.iaload, 1) := by decide +kernel
theorem dX2_keepLine_15 : decode cX2_keepLine 15 = .ok (.invokevirtual 91, 3) := by decide +kernel
theorem dX2_keepLine_18 : decode cX2_keepLine 18 = .ok (.istore_n 2, 1) := by decide +kernel
theorem dX2_keepLine_19 : decode cX2_keepLine 19 = .ok (.aload_n 0, 1) := by decide +kernel
theorem dX2_keepLine_20 : decode cX2_keepLine 20 = .ok (.getfield 17, 3) := by decide +kernel
theorem dX2_keepLine_23 : decode cX2_keepLine 23 = .ok (.iload_n 1, 1) := by decide +kernel
theorem dX2_keepLine_24 : decode cX2_keepLine 24 = .ok (.aaload, 1) := by decide +kernel
theorem dX2_keepLine_25 : decode cX2_keepLine 25 = .ok (.astore_n 3, 1) := by decide +kernel
theorem dX2_keepLine_26 : decode cX2_keepLine 26 = .ok (.iconst 0, 1) := by decide +kernel
theorem dX2_keepLine_27 : decode cX2_keepLine 27 = .ok (.istore 4, 2) := by decide +kernel
theorem dX2_keepLine_29 : decode cX2_keepLine 29 = .ok (.iload 4, 2) := by decide +kernel
theorem dX2_keepLine_31 : decode cX2_keepLine 31 = .ok (.aload_n 0, 1) := by decide +kernel
theorem dX2_keepLine_32 : decode cX2_keepLine 32 = .ok (.getfield 32, 3) := by decide +kernel
theorem dX2_keepLine_35 : decode cX2_keepLine 35 = .ok (.aload_n 0, 1) := by decide +kernel
theorem dX2_keepLine_36 : decode cX2_keepLine 36 = .ok (.getfield 28, 3) := by decide +kernel
theorem dX2_keepLine_39 : decode cX2_keepLine 39 = .ok (.iadd, 1) := by decide +kernel
theorem dX2_keepLine_40 : decode cX2_keepLine 40 = .ok (.if_icmp .ge 28, 3) := by decide +kernel
theorem dX2_keepLine_43 : decode cX2_keepLine 43 = .ok (.aload_n 3, 1) := by decide +kernel
theorem dX2_keepLine_44 : decode cX2_keepLine 44 = .ok (.iload 4, 2) := by decide +kernel
theorem dX2_keepLine_46 : decode cX2_keepLine 46 = .ok (.aload_n 0, 1) := by decide +kernel
theorem dX2_keepLine_47 : decode cX2_keepLine 47 = .ok (.getfield 9, 3) := by decide +kernel
theorem dX2_keepLine_50 : decode cX2_keepLine 50 = .ok (.iload_n 2, 1) := by decide +kernel
theorem dX2_keepLine_51 : decode cX2_keepLine 51 = .ok (.aload_n 0, 1) := by decide +kernel
theorem dX2_keepLine_52 : decode cX2_keepLine 52 = .ok (.getfield 24, 3) := by decide +kernel
theorem dX2_keepLine_55 : decode cX2_keepLine 55 = .ok (.iload 4, 2) := by decide +kernel
theorem dX2_keepLine_57 : decode cX2_keepLine 57 = .ok (.iaload, 1) := by decide +kernel
theorem dX2_keepLine_58 : decode cX2_keepLine 58 = .ok (.invokevirtual 94, 3) := by decide +kernel
theorem dX2_keepLine_61 : decode cX2_keepLine 61 = .ok (.iastore, 1) := by decide +kernel
theorem dX2_keepLine_62 : decode cX2_keepLine 62 = .ok (.iinc 4 1, 3) := by decide +kernel
theorem dX2_keepLine_65 : decode cX2_keepLine 65 = .ok (.goto (-36), 3) := by decide +kernel
theorem dX2_keepLine_68 : decode cX2_keepLine 68 = .ok (.iload_n 1, 1) := by decide +kernel
theorem dX2_keepLine_69 : decode cX2_keepLine 69 = .ok (.iconst 1, 1) := by decide +kernel
theorem dX2_keepLine_70 : decode cX2_keepLine 70 = .ok (.iadd, 1) := by decide +kernel
theorem dX2_keepLine_71 : decode cX2_keepLine 71 = .ok (.istore 4, 2) := by decide +kernel
theorem dX2_keepLine_73 : decode cX2_keepLine 73 = .ok (.iload 4, 2) := by decide +kernel
theorem dX2_keepLine_75 : decode cX2_keepLine 75 = .ok (.aload_n 0, 1) := by decide +kernel
theorem dX2_keepLine_76 : decode cX2_keepLine 76 = .ok (.getfield 28, 3) := by decide +kernel
theorem dX2_keepLine_79 : decode cX2_keepLine 79 = .ok (.if_icmp .ge 65, 3) := by decide +kernel
theorem dX2_keepLine_82 : decode cX2_keepLine 82 = .ok (.aload_n 0, 1) := by decide +kernel
theorem dX2_keepLine_83 : decode cX2_keepLine 83 = .ok (.getfield 17, 3) := by decide +kernel
theorem dX2_keepLine_86 : decode cX2_keepLine 86 = .ok (.iload 4, 2) := by decide +kernel
theorem dX2_keepLine_88 : decode cX2_keepLine 88 = .ok (.aaload, 1) := by decide +kernel
theorem dX2_keepLine_89 : decode cX2_keepLine 89 = .ok (.aload_n 0, 1) := by decide +kernel
theorem dX2_keepLine_90 : decode cX2_keepLine 90 = .ok (.getfield 32, 3) := by decide +kernel
theorem dX2_keepLine_93 : decode cX2_keepLine 93 = .ok (.iload_n 1, 1) := by decide +kernel
theorem dX2_keepLine_94 : decode cX2_keepLine 94 = .ok (.iadd, 1) := by decide +kernel
theorem dX2_keepLine_95 : decode cX2_keepLine 95 = .ok (.iaload, 1) := by decide +kernel
theorem dX2_keepLine_96 : decode cX2_keepLine 96 = .ok (.istore 5, 2) := by decide +kernel
theorem dX2_keepLine_98 : decode cX2_keepLine 98 = .ok (.iload 5, 2) := by decide +kernel
theorem dX2_keepLine_100 : decode cX2_keepLine 100 = .ok (.ifCond .eq 38, 3) := by decide +kernel
theorem dX2_keepLine_103 : decode cX2_keepLine 103 = .ok (.aload_n 0, 1) := by decide +kernel
theorem dX2_keepLine_104 : decode cX2_keepLine 104 = .ok (.getfield 20, 3) := by decide +kernel
theorem dX2_keepLine_107 : decode cX2_keepLine 107 = .ok (.iload 4, 2) := by decide +kernel
theorem dX2_keepLine_109 : decode cX2_keepLine 109 = .ok (.baload, 1) := by decide +kernel
theorem dX2_keepLine_110 : decode cX2_keepLine 110 = .ok (.ifCond .eq 28, 3) := by decide +kernel
theorem dX2_keepLine_113 : decode cX2_keepLine 113 = .ok (.aload_n 0, 1) := by decide +kernel
theorem dX2_keepLine_114 : decode cX2_keepLine 114 = .ok (.getfield 9, 3) := by decide +kernel
theorem dX2_keepLine_117 : decode cX2_keepLine 117 = .ok (.aload_n 0, 1) := by decide +kernel
theorem dX2_keepLine_118 : decode cX2_keepLine 118 = .ok (.getfield 17, 3) := by decide +kernel
theorem dX2_keepLine_121 : decode cX2_keepLine 121 = .ok (.iload 4, 2) := by decide +kernel
theorem dX2_keepLine_123 : decode cX2_keepLine 123 = .ok (.aaload, 1) := by decide +kernel
theorem dX2_keepLine_124 : decode cX2_keepLine 124 = .ok (.aload_n 3, 1) := by decide +kernel
theorem dX2_keepLine_125 : decode cX2_keepLine 125 = .ok (.iload 5, 2) := by decide +kernel
theorem dX2_keepLine_127 : decode cX2_keepLine 127 = .ok (.aload_n 0, 1) := by decide +kernel
theorem dX2_keepLine_128 : decode cX2_keepLine 128 = .ok (.getfield 32, 3) := by decide +kernel
theorem dX2_keepLine_131 : decode cX2_keepLine 131 = .ok (.iload_n 1, 1) := by decide +kernel
theorem dX2_keepLine_132 : decode cX2_keepLine 132 = .ok (.iadd, 1) := by decide +kernel
theorem dX2_keepLine_133 : decode cX2_keepLine 133 = .ok (.iconst 1, 1) := by decide +kernel
theorem dX2_keepLine_134 : decode cX2_keepLine 134 = .ok (.iadd, 1) := by decide +kernel
theorem dX2_keepLine_135 : decode cX2_keepLine 135 = .ok (.invokevirtual 87, 3) := by decide +kernel
theorem dX2_keepLine_138 : decode cX2_keepLine 138 = .ok (.iinc 4 1, 3) := by decide +kernel
theorem dX2_keepLine_141 : decode cX2_keepLine 141 = .ok (.goto (-68), 3) := by decide +kernel
theorem dX2_keepLine_144 : decode cX2_keepLine 144 = .ok (.aload_n 0, 1) := by decide +kernel
theorem dX2_keepLine_145 : decode cX2_keepLine 145 = .ok (.getfield 20, 3) := by decide +kernel
theorem dX2_keepLine_148 : decode cX2_keepLine 148 = .ok (.iload_n 1, 1) := by decide +kernel
theorem dX2_keepLine_149 : decode cX2_keepLine 149 = .ok (.iconst 1, 1) := by decide +kernel
theorem dX2_keepLine_150 : decode cX2_keepLine 150 = .ok (.bastore, 1) := by decide +kernel
theorem dX2_keepLine_151 : decode cX2_keepLine 151 = .ok (.aload_n 0, 1) := by decide +kernel
theorem dX2_keepLine_152 : decode cX2_keepLine 152 = .ok (.dup, 1) := by decide +kernel
theorem dX2_keepLine_153 : decode cX2_keepLine 153 = .ok (.getfield 35, 3) := by decide +kernel
theorem dX2_keepLine_156 : decode cX2_keepLine 156 = .ok (.iconst 1, 1) := by decide +kernel
theorem dX2_keepLine_157 : decode cX2_keepLine 157 = .ok (.iadd, 1) := by decide +kernel
theorem dX2_keepLine_158 : decode cX2_keepLine 158 = .ok (.putfield 35, 3) := by decide +kernel
theorem dX2_keepLine_161 : decode cX2_keepLine 161 = .ok (.return_, 1) := by decide +kernel
theorem dX3_init_0 : decode cX3_init 0 = .ok (.aload_n 0, 1) := by decide +kernel
theorem dX3_init_1 : decode cX3_init 1 = .ok (.invokespecial 1, 3) := by decide +kernel
theorem dX3_init_4 : decode cX3_init 4 = .ok (.aload_n 0, 1) := by decide +kernel
theorem dX3_init_5 : decode cX3_init 5 = .ok (.sipush 510, 3) := by decide +kernel
theorem dX3_init_8 : decode cX3_init 8 = .ok (.newarray .int, 2) := by decide +kernel
theorem dX3_init_10 : decode cX3_init 10 = .ok (.putfield 9, 3) := by decide +kernel
theorem dX3_init_13 : decode cX3_init 13 = .ok (.aload_n 0, 1) := by decide +kernel
theorem dX3_init_14 : decode cX3_init 14 = .ok (.sipush 256, 3) := by decide +kernel
theorem dX3_init_17 : decode cX3_init 17 = .ok (.newarray .int, 2) := by decide +kernel
theorem dX3_init_19 : decode cX3_init 19 = .ok (.putfield 13, 3) := by decide +kernel
theorem dX3_init_22 : decode cX3_init 22 = .ok (.iconst 1, 1) := by decide +kernel
theorem dX3_init_23 : decode cX3_init 23 = .ok (.istore_n 1, 1) := by decide +kernel
theorem dX3_init_24 : decode cX3_init 24 = .ok (.iconst 0, 1) := by decide +kernel
theorem dX3_init_25 : decode cX3_init 25 = .ok (.istore_n 2, 1) := by decide +kernel
theorem dX3_init_26 : decode cX3_init 26 = .ok (.iload_n 2, 1) := by decide +kernel
theorem dX3_init_27 : decode cX3_init 27 = .ok (.sipush 255, 3) := by decide +kernel
theorem dX3_init_30 : decode cX3_init 30 = .ok (.if_icmp .ge 51, 3) := by decide +kernel
theorem dX3_init_33 : decode cX3_init 33 = .ok (.aload_n 0, 1) := by decide +kernel
theorem dX3_init_34 : decode cX3_init 34 = .ok (.getfield 9, 3) := by decide +kernel
theorem dX3_init_37 : decode cX3_init 37 = .ok (.iload_n 2, 1) := by decide +kernel
theorem dX3_init_38 : decode cX3_init 38 = .ok (.iload_n 1, 1) := by decide +kernel
theorem dX3_init_39 : decode cX3_init 39 = .ok (.iastore, 1) := by decide +kernel
theorem dX3_init_40 : decode cX3_init 40 = .ok (.aload_n 0, 1) := by decide +kernel
theorem dX3_init_41 : decode cX3_init 41 = .ok (.getfield 9, 3) := by decide +kernel
theorem dX3_init_44 : decode cX3_init 44 = .ok (.iload_n 2, 1) := by decide +kernel
theorem dX3_init_45 : decode cX3_init 45 = .ok (.sipush 255, 3) := by decide +kernel
theorem dX3_init_48 : decode cX3_init 48 = .ok (.iadd, 1) := by decide +kernel
theorem dX3_init_49 : decode cX3_init 49 = .ok (.iload_n 1, 1) := by decide +kernel
theorem dX3_init_50 : decode cX3_init 50 = .ok (.iastore, 1) := by decide +kernel
theorem dX3_init_51 : decode cX3_init 51 = .ok (.aload_n 0, 1) := by decide +kernel
theorem dX3_init_52 : decode cX3_init 52 = .ok (.getfield 13, 3) := by decide +kernel
theorem dX3_init_55 : decode cX3_init 55 = .ok (.iload_n 1, 1) := by decide +kernel
theorem dX3_init_56 : decode cX3_init 56 = .ok (.iload_n 2, 1) := by decide +kernel
theorem dX3_init_57 : decode cX3_init 57 = .ok (.iastore, 1) := by decide +kernel
theorem dX3_init_58 : decode cX3_init 58 = .ok (.iload_n 1, 1) := by decide +kernel
theorem dX3_init_59 : decode cX3_init 59 = .ok (.iconst 1, 1) := by decide +kernel
theorem dX3_init_60 : decode cX3_init 60 = .ok (.ishl, 1) := by decide +kernel
theorem dX3_init_61 : decode cX3_init 61 = .ok (.istore_n 1, 1) := by decide +kernel
theorem dX3_init_62 : decode cX3_init 62 = .ok (.iload_n 1, 1) := by decide +kernel
theorem dX3_init_63 : decode cX3_init 63 = .ok (.sipush 255, 3) := by decide +kernel
theorem dX3_init_66 : decode cX3_init 66 = .ok (.if_icmp .le 9, 3) := by decide +kernel
theorem dX3_init_69 : decode cX3_init 69 = .ok (.iload_n 1, 1) := by decide +kernel
theorem dX3_init_70 : decode cX3_init 70 = .ok (.sipush 285, 3) := by decide +kernel
theorem dX3_init_73 : decode cX3_init 73 = .ok (.ixor, 1) := by decide +kernel
theorem dX3_init_74 : decode cX3_init 74 = .ok (.istore_n 1, 1) := by decide +kernel
theorem dX3_init_75 : decode cX3_init 75 = .ok (.iinc 2 1, 3) := by decide +kernel
theorem dX3_init_78 : decode cX3_init 78 = .ok (.goto (-52), 3) := by decide +kernel
theorem dX3_init_81 : decode cX3_init 81 = .ok (.return_, 1) := by decide +kernel
theorem dX3_times_0 : decode cX3_times 0 = .ok (.iload_n 1, 1) := by decide +kernel
theorem dX3_times_1 : decode cX3_times 1 = .ok (.ifCond .eq 7, 3) := by decide +kernel
theorem dX3_times_4 : decode cX3_times 4 = .ok (.iload_n 2, 1) := by decide +kernel
theorem dX3_times_5 : decode cX3_times 5 = .ok (.ifCond .ne 7, 3) := by decide +kernel
theorem dX3_times_8 : decode cX3_times 8 = .ok (.iconst 0, 1) := by decide +kernel
theorem dX3_times_9 : decode cX3_times 9 = .ok (.goto 21, 3) := by decide +kernel
theorem dX3_times_12 : decode cX3_times 12 = .ok (.aload_n 0, 1) := by decide +kernel
theorem dX3_times_13 : decode cX3_times 13 = .ok (.getfield 9, 3) := by decide +kernel
theorem dX3_times_16 : decode cX3_times 16 = .ok (.aload_n 0, 1) := by decide +kernel
theorem dX3_times_17 : decode cX3_times 17 = .ok (.getfield 13, 3) := by decide +kernel
theorem dX3_times_20 : decode cX3_times 20 = .ok (.iload_n 1, 1) := by decide +kernel
theorem dX3_times_21 : decode cX3_times 21 = .ok (.iaload, 1) := by decide +kernel
theorem dX3_times_22 : decode cX3_times 22 = .ok (.aload_n 0, 1) := by decide +kernel
theorem dX3_times_23 : decode cX3_times 23 = .ok (.getfield 13, 3) := by decide +kernel
theorem dX3_times_26 : decode cX3_times 26 = .ok (.iload_n 2, 1) := by decide +kernel
theorem dX3_times_27 : decode cX3_times 27 = .ok (.iaload, 1) := by decide +kernel
theorem dX3_times_28 : decode cX3_times 28 = .ok (.iadd, 1) := by decide +kernel
theorem dX3_times_29 : decode cX3_times 29 = .ok (.iaload, 1) := by decide +kernel
theorem dX3_times_30 : decode cX3_times 30 = .ok (.ireturn, 1) := by decide +kernel
theorem dX3_inverse_0 : decode cX3_inverse 0 = .ok (.aload_n 0, 1) := by decide +kernel
theorem dX3_inverse_1 : decode cX3_inverse 1 = .ok (.getfield 9, 3) := by decide +kernel
theorem dX3_inverse_4 : decode cX3_inverse 4 = .ok (.sipush 255, 3) := by decide +kernel
theorem dX3_inverse_7 : decode cX3_inverse 7 = .ok (.aload_n 0, 1) := by decide +kernel
theorem dX3_inverse_8 : decode cX3_inverse 8 = .ok (.getfield 13, 3) := by decide +kernel
theorem dX3_inverse_11 : decode cX3_inverse 11 = .ok (.iload_n 1, 1) := by decide +kernel
theorem dX3_inverse_12 : decode cX3_inverse 12 = .ok (.iaload, 1) := by decide +kernel
theorem dX3_inverse_13 : decode cX3_inverse 13 = .ok (.isub, 1) := by decide +kernel
theorem dX3_inverse_14 : decode cX3_inverse 14 = .ok (.iaload, 1) := by decide +kernel
theorem dX3_inverse_15 : decode cX3_inverse 15 = .ok (.ireturn, 1) := by decide +kernel
theorem dX3_powerOfTwo_0 : decode cX3_powerOfTwo 0 = .ok (.aload_n 0, 1) := by decide +kernel
theorem dX3_powerOfTwo_1 : decode cX3_powerOfTwo 1 = .ok (.getfield 9, 3) := by decide +kernel
theorem dX3_powerOfTwo_4 : decode cX3_powerOfTwo 4 = .ok (.iload_n 1, 1) := by decide +kernel
theorem dX3_powerOfTwo_5 : decode cX3_powerOfTwo 5 = .ok (.sipush 255, 3) := by decide +kernel
theorem dX3_powerOfTwo_8 : decode cX3_powerOfTwo 8 = .ok (.irem, 1) := by decide +kernel
theorem dX3_powerOfTwo_9 : decode cX3_powerOfTwo 9 = .ok (.iaload, 1) := by decide +kernel
theorem dX3_powerOfTwo_10 : decode cX3_powerOfTwo 10 = .ok (.ireturn, 1) := by decide +kernel
theorem dX3_addTimes_0 : decode cX3_addTimes 0 = .ok (.aload_n 0, 1) := by decide +kernel
theorem dX3_addTimes_1 : decode cX3_addTimes 1 = .ok (.getfield 13, 3) := by decide +kernel
theorem dX3_addTimes_4 : decode cX3_addTimes 4 = .ok (.iload_n 3, 1) := by decide +kernel
theorem dX3_addTimes_5 : decode cX3_addTimes 5 = .ok (.iaload, 1) := by decide +kernel
theorem dX3_addTimes_6 : decode cX3_addTimes 6 = .ok (.istore 5, 2) := by decide +kernel
theorem dX3_addTimes_8 : decode cX3_addTimes 8 = .ok (.iconst 0, 1) := by decide +kernel
theorem dX3_addTimes_9 : decode cX3_addTimes 9 = .ok (.istore 6, 2) := by decide +kernel
theorem dX3_addTimes_11 : decode cX3_addTimes 11 = .ok (.iload 6, 2) := by decide +kernel
theorem dX3_addTimes_13 : decode cX3_addTimes 13 = .ok (.iload 4, 2) := by decide +kernel
theorem dX3_addTimes_15 : decode cX3_addTimes 15 = .ok (.if_icmp .ge 42, 3) := by decide +kernel
theorem dX3_addTimes_18 : decode cX3_addTimes 18 = .ok (.aload_n 2, 1) := by decide +kernel
theorem dX3_addTimes_19 : decode cX3_addTimes 19 = .ok (.iload 6, 2) := by decide +kernel
theorem dX3_addTimes_21 : decode cX3_addTimes 21 = .ok (.iaload, 1) := by decide +kernel
theorem dX3_addTimes_22 : decode cX3_addTimes 22 = .ok (.istore 7, 2) := by decide +kernel
theorem dX3_addTimes_24 : decode cX3_addTimes 24 = .ok (.iload 7, 2) := by decide +kernel
theorem dX3_addTimes_26 : decode cX3_addTimes 26 = .ok (.ifCond .eq 25, 3) := by decide +kernel
theorem dX3_addTimes_29 : decode cX3_addTimes 29 = .ok (.aload_n 1, 1) := by decide +kernel
theorem dX3_addTimes_30 : decode cX3_addTimes 30 = .ok (.iload 6, 2) := by decide +kernel
theorem dX3_addTimes_32 : decode cX3_addTimes 32 = .ok (.dup2, 1) := by decide +kernel
theorem dX3_addTimes_33 : decode cX3_addTimes 33 = .ok (.iaload, 1) := by decide +kernel
theorem dX3_addTimes_34 : decode cX3_addTimes 34 = .ok (.aload_n 0, 1) := by decide +kernel
theorem dX3_addTimes_35 : decode cX3_addTimes 35 = .ok (.getfield 9, 3) := by decide +kernel
theorem dX3_addTimes_38 : decode cX3_addTimes 38 = .ok (.iload 5, 2) := by decide +kernel
theorem dX3_addTimes_40 : decode cX3_addTimes 40 = .ok (.aload_n 0, 1) := by decide +kernel
theorem dX3_addTimes_41 : decode cX3_addTimes 41 = .ok (.getfield 13, 3) := by decide +kernel
theorem dX3_addTimes_44 : decode cX3_addTimes 44 = .ok (.iload 7, 2) := by decide +kernel
theorem dX3_addTimes_46 : decode cX3_addTimes 46 = .ok (.iaload, 1) := by decide +kernel
theorem dX3_addTimes_47 : decode cX3_addTimes 47 = .ok (.iadd, 1) := by decide +kernel
theorem dX3_addTimes_48 : decode cX3_addTimes 48 = .ok (.iaload, 1) := by decide +kernel
theorem dX3_addTimes_49 : decode cX3_addTimes 49 = .ok (.ixor, 1) := by decide +kernel
theorem dX3_addTimes_50 : decode cX3_addTimes 50 = .ok (.iastore, 1) := by decide +kernel
theorem dX3_addTimes_51 : decode cX3_addTimes 51 = .ok (.iinc 6 1, 3) := by decide +kernel
theorem dX3_addTimes_54 : decode cX3_addTimes 54 = .ok (.goto (-43), 3) := by decide +kernel
theorem dX3_addTimes_57 : decode cX3_addTimes 57 = .ok (.return_, 1) := by decide +kernel
theorem dJ9_floorMod_7cf53_0 : decode cJ9_floorMod_7cf53 0 = .ok (.iload_n 0, 1) := by decide +kernel
theorem dJ9_floorMod_7cf53_1 : decode cJ9_floorMod_7cf53 1 = .ok (.iload_n 1, 1) := by decide +kernel
theorem dJ9_floorMod_7cf53_2 : decode cJ9_floorMod_7cf53 2 = .ok (.irem, 1) := by decide +kernel
theorem dJ9_floorMod_7cf53_3 : decode cJ9_floorMod_7cf53 3 = .ok (.istore_n 2, 1) := by decide +kernel
theorem dJ9_floorMod_7cf53_4 : decode cJ9_floorMod_7cf53 4 = .ok (.iload_n 0, 1) := by decide +kernel
theorem dJ9_floorMod_7cf53_5 : decode cJ9_floorMod_7cf53 5 = .ok (.iload_n 1, 1) := by decide +kernel
theorem dJ9_floorMod_7cf53_6 : decode cJ9_floorMod_7cf53 6 = .ok (.ixor, 1) := by decide +kernel
theorem dJ9_floorMod_7cf53_7 : decode cJ9_floorMod_7cf53 7 = .ok (.ifCond .ge 11, 3) := by decide +kernel
theorem dJ9_floorMod_7cf53_10 : decode cJ9_floorMod_7cf53 10 = .ok (.iload_n 2, 1) := by decide +kernel
theorem dJ9_floorMod_7cf53_11 : decode cJ9_floorMod_7cf53 11 = .ok (.ifCond .eq 7, 3) := by decide +kernel
theorem dJ9_floorMod_7cf53_14 : decode cJ9_floorMod_7cf53 14 = .ok (.iload_n 2, 1) := by decide +kernel
theorem dJ9_floorMod_7cf53_15 : decode cJ9_floorMod_7cf53 15 = .ok (.iload_n 1, 1) := by decide +kernel
theorem dJ9_floorMod_7cf53_16 : decode cJ9_floorMod_7cf53 16 = .ok (.iadd, 1) := by decide +kernel
theorem dJ9_floorMod_7cf53_17 : decode cJ9_floorMod_7cf53 17 = .ok (.ireturn, 1) := by decide +kernel
theorem dJ9_floorMod_7cf53_18 : decode cJ9_floorMod_7cf53 18 = .ok (.iload_n 2, 1) := by decide +kernel
theorem dJ9_floorMod_7cf53_19 : decode cJ9_floorMod_7cf53 19 = .ok (.ireturn, 1) := by decide +kernel
theorem dJ9_max_7cf53_0 : decode cJ9_max_7cf53 0 = .ok (.iload_n 0, 1) := by decide +kernel
theorem dJ9_max_7cf53_1 : decode cJ9_max_7cf53 1 = .ok (.iload_n 1, 1) := by decide +kernel
theorem dJ9_max_7cf53_2 : decode cJ9_max_7cf53 2 = .ok (.if_icmp .lt 7, 3) := by decide +kernel
theorem dJ9_max_7cf53_5 : decode cJ9_max_7cf53 5 = .ok (.iload_n 0, 1) := by decide +kernel
theorem dJ9_max_7cf53_6 : decode cJ9_max_7cf53 6 = .ok (.goto 4, 3) := by decide +kernel
theorem dJ9_max_7cf53_9 : decode cJ9_max_7cf53 9 = .ok (.iload_n 1, 1) := by decide +kernel
theorem dJ9_max_7cf53_10 : decode cJ9_max_7cf53 10 = .ok (.ireturn, 1) := by decide +kernel
theorem dJ9_min_7cf53_0 : decode cJ9_min_7cf53 0 = .ok (.iload_n 0, 1) := by decide +kernel
theorem dJ9_min_7cf53_1 : decode cJ9_min_7cf53 1 = .ok (.iload_n 1, 1) := by decide +kernel
theorem dJ9_min_7cf53_2 : decode cJ9_min_7cf53 2 = .ok (.if_icmp .gt 7, 3) := by decide +kernel
theorem dJ9_min_7cf53_5 : decode cJ9_min_7cf53 5 = .ok (.iload_n 0, 1) := by decide +kernel
theorem dJ9_min_7cf53_6 : decode cJ9_min_7cf53 6 = .ok (.goto 4, 3) := by decide +kernel
theorem dJ9_min_7cf53_9 : decode cJ9_min_7cf53 9 = .ok (.iload_n 1, 1) := by decide +kernel
theorem dJ9_min_7cf53_10 : decode cJ9_min_7cf53 10 = .ok (.ireturn, 1) := by decide +kernel
theorem dJ7_fill_53178_0 : decode cJ7_fill_53178 0 = .ok (.iconst 0, 1) := by decide +kernel
theorem dJ7_fill_53178_1 : decode cJ7_fill_53178 1 = .ok (.istore_n 2, 1) := by decide +kernel
theorem dJ7_fill_53178_2 : decode cJ7_fill_53178 2 = .ok (.aload_n 0, 1) := by decide +kernel
theorem dJ7_fill_53178_3 : decode cJ7_fill_53178 3 = .ok (.arraylength, 1) := by decide +kernel
theorem dJ7_fill_53178_4 : decode cJ7_fill_53178 4 = .ok (.istore_n 3, 1) := by decide +kernel
theorem dJ7_fill_53178_5 : decode cJ7_fill_53178 5 = .ok (.iload_n 2, 1) := by decide +kernel
theorem dJ7_fill_53178_6 : decode cJ7_fill_53178 6 = .ok (.iload_n 3, 1) := by decide +kernel
theorem dJ7_fill_53178_7 : decode cJ7_fill_53178 7 = .ok (.if_icmp .ge 13, 3) := by decide +kernel
theorem dJ7_fill_53178_10 : decode cJ7_fill_53178 10 = .ok (.aload_n 0, 1) := by decide +kernel
theorem dJ7_fill_53178_11 : decode cJ7_fill_53178 11 = .ok (.iload_n 2, 1) := by decide +kernel
theorem dJ7_fill_53178_12 : decode cJ7_fill_53178 12 = .ok (.iload_n 1, 1) := by decide +kernel
theorem dJ7_fill_53178_13 : decode cJ7_fill_53178 13 = .ok (.iastore, 1) := by decide +kernel
theorem dJ7_fill_53178_14 : decode cJ7_fill_53178 14 = .ok (.iinc 2 1, 3) := by decide +kernel
theorem dJ7_fill_53178_17 : decode cJ7_fill_53178 17 = .ok (.goto (-12), 3) := by decide +kernel
theorem dJ7_fill_53178_20 : decode cJ7_fill_53178 20 = .ok (.return_, 1) := by decide +kernel
