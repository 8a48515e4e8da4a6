theorem dX0_init_0 : decode cX0_init 0 = .ok (.aload_n 0, 1) := by decide +kernel
theorem dX0_init_1 : decode cX0_init 1 = .ok (.invokespecial 3, 3) := by decide +kernel
theorem dX0_init_4 : decode cX0_init 4 = .ok (.aload_n 0, 1) := by decide +kernel
theorem dX0_init_5 : decode cX0_init 5 = .ok (.bipush 12, 2) := by decide +kernel
theorem dX0_init_7 : decode cX0_init 7 = .ok (.newarray .int, 2) := by decide +kernel
theorem dX0_init_9 : decode cX0_init 9 = .ok (.putfield 9, 3) := by decide +kernel
theorem dX0_init_12 : decode cX0_init 12 = .ok (.aload_n 0, 1) := by decide +kernel
theorem dX0_init_13 : decode cX0_init 13 = .ok (.bipush 12, 2) := by decide +kernel
theorem dX0_init_15 : decode cX0_init 15 = .ok (.newarray .int, 2) := by decide +kernel
theorem dX0_init_17 : decode cX0_init 17 = .ok (.putfield 15, 3) := by decide +kernel
theorem dX0_init_20 : decode cX0_init 20 = .ok (.aload_n 0, 1) := by decide +kernel
theorem dX0_init_21 : decode cX0_init 21 = .ok (.bipush 12, 2) := by decide +kernel
theorem dX0_init_23 : decode cX0_init 23 = .ok (.newarray .int, 2) := by decide +kernel
theorem dX0_init_25 : decode cX0_init 25 = .ok (.putfield 18, 3) := by decide +kernel
theorem dX0_init_28 : decode cX0_init 28 = .ok (.aload_n 0, 1) := by decide +kernel
theorem dX0_init_29 : decode cX0_init 29 = .ok (.bipush 12, 2) := by decide +kernel
theorem dX0_init_31 : decode cX0_init 31 = .ok (.newarray .int, 2) := by decide +kernel
theorem dX0_init_33 : decode cX0_init 33 = .ok (.putfield 21, 3) := by decide +kernel
theorem dX0_init_36 : decode cX0_init 36 = .ok (.aload_n 0, 1) := by decide +kernel
theorem dX0_init_37 : decode cX0_init 37 = .ok (.bipush 12, 2) := by decide +kernel
theorem dX0_init_39 : decode cX0_init 39 = .ok (.newarray .int, 2) := by decide +kernel
theorem dX0_init_41 : decode cX0_init 41 = .ok (.putfield 24, 3) := by decide +kernel
theorem dX0_init_44 : decode cX0_init 44 = .ok (.aload_n 0, 1) := by decide +kernel
theorem dX0_init_45 : decode cX0_init 45 = .ok (.bipush 12, 2) := by decide +kernel
theorem dX0_init_47 : decode cX0_init 47 = .ok (.newarray .int, 2) := by decide +kernel
theorem dX0_init_49 : decode cX0_init 49 = .ok (.putfield 27, 3) := by decide +kernel
theorem dX0_init_52 : decode cX0_init 52 = .ok (.aload_n 0, 1) := by decide +kernel
theorem dX0_init_53 : decode cX0_init 53 = .ok (.bipush 12, 2) := by decide +kernel
theorem dX0_init_55 : decode cX0_init 55 = .ok (.newarray .int, 2) := by decide +kernel
theorem dX0_init_57 : decode cX0_init 57 = .ok (.putfield 30, 3) := by decide +kernel
theorem dX0_init_60 : decode cX0_init 60 = .ok (.return_, 1) := by decide +kernel
theorem dX0_add_0 : decode cX0_add 0 = .ok (.aload_n 0, 1) := by decide +kernel
theorem dX0_add_1 : decode cX0_add 1 = .ok (.getfield 33, 3) := by decide +kernel
theorem dX0_add_4 : decode cX0_add 4 = .ok (.bipush 12, 2) := by decide +kernel
theorem dX0_add_6 : decode cX0_add 6 = .ok (.if_icmp .lt 5, 3) := by decide +kernel
theorem dX0_add_9 : decode cX0_add 9 = .ok (.iconst (-1), 1) := by decide +kernel
theorem dX0_add_10 : decode cX0_add 10 = .ok (.ireturn, 1) := by decide +kernel
theorem dX0_add_11 : decode cX0_add 11 = .ok (.aload_n 0, 1) := by decide +kernel
theorem dX0_add_12 : decode cX0_add 12 = .ok (.getfield 33, 3) := by decide +kernel
theorem dX0_add_15 : decode cX0_add 15 = .ok (.istore 5, 2) := by decide +kernel
theorem dX0_add_17 : decode cX0_add 17 = .ok (.aload_n 0, 1) := by decide +kernel
theorem dX0_add_18 : decode cX0_add 18 = .ok (.getfield 9, 3) := by decide +kernel
theorem dX0_add_21 : decode cX0_add 21 = .ok (.iload 5, 2) := by decide +kernel
theorem dX0_add_23 : decode cX0_add 23 = .ok (.iload_n 1, 1) := by decide +kernel
theorem dX0_add_24 : decode cX0_add 24 = .ok (.iastore, 1) := by decide +kernel
theorem dX0_add_25 : decode cX0_add 25 = .ok (.aload_n 0, 1) := by decide +kernel
theorem dX0_add_26 : decode cX0_add 26 = .ok (.getfield 15, 3) := by decide +kernel
theorem dX0_add_29 : decode cX0_add 29 = .ok (.iload 5, 2) := by decide +kernel
theorem dX0_add_31 : decode cX0_add 31 = .ok (.iload_n 2, 1) := by decide +kernel
theorem dX0_add_32 : decode cX0_add 32 = .ok (.iastore, 1) := by decide +kernel
theorem dX0_add_33 : decode cX0_add 33 = .ok (.aload_n 0, 1) := by decide +kernel
theorem dX0_add_34 : decode cX0_add 34 = .ok (.getfield 18, 3) := by decide +kernel
theorem dX0_add_37 : decode cX0_add 37 = .ok (.iload 5, 2) := by decide +kernel
theorem dX0_add_39 : decode cX0_add 39 = .ok (.iload_n 3, 1) := by decide +kernel
theorem dX0_add_40 : decode cX0_add 40 = .ok (.iastore, 1) := by decide +kernel
theorem dX0_add_41 : decode cX0_add 41 = .ok (.aload_n 0, 1) := by decide +kernel
theorem dX0_add_42 : decode cX0_add 42 = .ok (.getfield 21, 3) := by decide +kernel
theorem dX0_add_45 : decode cX0_add 45 = .ok (.iload 5, 2) := by decide +kernel
theorem dX0_add_47 : decode cX0_add 47 = .ok (.iload 4, 2) := by decide +kernel
theorem dX0_add_49 : decode cX0_add 49 = .ok (.iastore, 1) := by decide +kernel
theorem dX0_add_50 : decode cX0_add 50 = .ok (.aload_n 0, 1) := by decide +kernel
theorem dX0_add_51 : decode cX0_add 51 = .ok (.getfield 24, 3) := by decide +kernel
theorem dX0_add_54 : decode cX0_add 54 = .ok (.iload 5, 2) := by decide +kernel
theorem dX0_add_56 : decode cX0_add 56 = .ok (.iconst 0, 1) := by decide +kernel
theorem dX0_add_57 : decode cX0_add 57 = .ok (.iastore, 1) := by decide +kernel
theorem dX0_add_58 : decode cX0_add 58 = .ok (.aload_n 0, 1) := by decide +kernel
theorem dX0_add_59 : decode cX0_add 59 = .ok (.getfield 27, 3) := by decide +kernel
theorem dX0_add_62 : decode cX0_add 62 = .ok (.iload 5, 2) := by decide +kernel
theorem dX0_add_64 : decode cX0_add 64 = .ok (.iconst 0, 1) := by decide +kernel
theorem dX0_add_65 : decode cX0_add 65 = .ok (.iastore, 1) := by decide +kernel
theorem dX0_add_66 : decode cX0_add 66 = .ok (.aload_n 0, 1) := by decide +kernel
theorem dX0_add_67 : decode cX0_add 67 = .ok (.getfield 30, 3) := by decide +kernel
theorem dX0_add_70 : decode cX0_add 70 = .ok (.iload 5, 2) := by decide +kernel
theorem dX0_add_72 : decode cX0_add 72 = .ok (.iconst 0, 1) := by decide +kernel
theorem dX0_add_73 : decode cX0_add 73 = .ok (.iastore, 1) := by decide +kernel
theorem dX0_add_74 : decode cX0_add 74 = .ok (.aload_n 0, 1) := by decide +kernel
theorem dX0_add_75 : decode cX0_add 75 = .ok (.dup, 1) := by decide +kernel
theorem dX0_add_76 : decode cX0_add 76 = .ok (.getfield 33, 3) := by decide +kernel
theorem dX0_add_79 : decode cX0_add 79 = .ok (.iconst 1, 1) := by decide +kernel
theorem dX0_add_80 : decode cX0_add 80 = .ok (.iadd, 1) := by decide +kernel
theorem dX0_add_81 : decode cX0_add 81 = .ok (.putfield 33, 3) := by decide +kernel
theorem dX0_add_84 : decode cX0_add 84 = .ok (.iload 5, 2) := by decide +kernel
theorem dX0_add_86 : decode cX0_add 86 = .ok (.ireturn, 1) := by decide +kernel
theorem dX0_copyFrom_0 : decode cX0_copyFrom 0 = .ok (.aload_n 1, 1) := by decide +kernel
theorem dX0_copyFrom_1 : decode cX0_copyFrom 1 = .ok (.getfield 9, 3) := by decide +kernel
theorem dX0_copyFrom_4 : decode cX0_copyFrom 4 = .ok (.iconst 0, 1) := by decide +kernel
theorem dX0_copyFrom_5 : decode cX0_copyFrom 5 = .ok (.aload_n 0, 1) := by decide +kernel
theorem dX0_copyFrom_6 : decode cX0_copyFrom 6 = .ok (.getfield 9, 3) := by decide +kernel
theorem dX0_copyFrom_9 : decode cX0_copyFrom 9 = .ok (.iconst 0, 1) := by decide +kernel
theorem dX0_copyFrom_10 : decode cX0_copyFrom 10 = .ok (.bipush 12, 2) := by decide +kernel
theorem dX0_copyFrom_12 : decode cX0_copyFrom 12 = .ok (.invokestatic 37, 3) := by decide +kernel
theorem dX0_copyFrom_15 : decode cX0_copyFrom 15 = .ok (.aload_n 1, 1) := by decide +kernel
theorem dX0_copyFrom_16 : decode cX0_copyFrom 16 = .ok (.getfield 15, 3) := by decide +kernel
theorem dX0_copyFrom_19 : decode cX0_copyFrom 19 = .ok (.iconst 0, 1) := by decide +kernel
theorem dX0_copyFrom_20 : decode cX0_copyFrom 20 = .ok (.aload_n 0, 1) := by decide +kernel
theorem dX0_copyFrom_21 : decode cX0_copyFrom 21 = .ok (.getfield 15, 3) := by decide +kernel
theorem dX0_copyFrom_24 : decode cX0_copyFrom 24 = .ok (.iconst 0, 1) := by decide +kernel
theorem dX0_copyFrom_25 : decode cX0_copyFrom 25 = .ok (.bipush 12, 2) := by decide +kernel
theorem dX0_copyFrom_27 : decode cX0_copyFrom 27 = .ok (.invokestatic 37, 3) := by decide +kernel
theorem dX0_copyFrom_30 : decode cX0_copyFrom 30 = .ok (.aload_n 1, 1) := by decide +kernel
theorem dX0_copyFrom_31 : decode cX0_copyFrom 31 = .ok (.getfield 18, 3) := by decide +kernel
theorem dX0_copyFrom_34 : decode cX0_copyFrom 34 = .ok (.iconst 0, 1) := by decide +kernel
theorem dX0_copyFrom_35 : decode cX0_copyFrom 35 = .ok (.aload_n 0, 1) := by decide +kernel
theorem dX0_copyFrom_36 : decode cX0_copyFrom 36 = .ok (.getfield 18, 3) := by decide +kernel
theorem dX0_copyFrom_39 : decode cX0_copyFrom 39 = .ok (.iconst 0, 1) := by decide +kernel
theorem dX0_copyFrom_40 : decode cX0_copyFrom 40 = .ok (.bipush 12, 2) := by decide +kernel
theorem dX0_copyFrom_42 : decode cX0_copyFrom 42 = .ok (.invokestatic 37, 3) := by decide +kernel
theorem dX0_copyFrom_45 : decode cX0_copyFrom 45 = .ok (.aload_n 1, 1) := by decide +kernel
theorem dX0_copyFrom_46 : decode cX0_copyFrom 46 = .ok (.getfield 21, 3) := by decide +kernel
theorem dX0_copyFrom_49 : decode cX0_copyFrom 49 = .ok (.iconst 0, 1) := by decide +kernel
theorem dX0_copyFrom_50 : decode cX0_copyFrom 50 = .ok (.aload_n 0, 1) := by decide +kernel
theorem dX0_copyFrom_51 : decode cX0_copyFrom 51 = .ok (.getfield 21, 3) := by decide +kernel
theorem dX0_copyFrom_54 : decode cX0_copyFrom 54 = .ok (.iconst 0, 1) := by decide +kernel
theorem dX0_copyFrom_55 : decode cX0_copyFrom 55 = .ok (.bipush 12, 2) := by decide +kernel
theorem dX0_copyFrom_57 : decode cX0_copyFrom 57 = .ok (.invokestatic 37, 3) := by decide +kernel
theorem dX0_copyFrom_60 : decode cX0_copyFrom 60 = .ok (.aload_n 1, 1) := by decide +kernel
theorem dX0_copyFrom_61 : decode cX0_copyFrom 61 = .ok (.getfield 24, 3) := by decide +kernel
theorem dX0_copyFrom_64 : decode cX0_copyFrom 64 = .ok (.iconst 0, 1) := by decide +kernel
theorem dX0_copyFrom_65 : decode cX0_copyFrom 65 = .ok (.aload_n 0, 1) := by decide +kernel
theorem dX0_copyFrom_66 : decode cX0_copyFrom 66 = .ok (.getfield 24, 3) := by decide +kernel
theorem dX0_copyFrom_69 : decode cX0_copyFrom 69 = .ok (.iconst 0, 1) := by decide +kernel
theorem dX0_copyFrom_70 : decode cX0_copyFrom 70 = .ok (.bipush 12, 2) := by decide +kernel
theorem dX0_copyFrom_72 : decode cX0_copyFrom 72 = .ok (.invokestatic 37, 3) := by decide +kernel
theorem dX0_copyFrom_75 : decode cX0_copyFrom 75 = .ok (.aload_n 1, 1) := by decide +kernel
theorem dX0_copyFrom_76 : decode cX0_copyFrom 76 = .ok (.getfield 27, 3) := by decide +kernel
theorem dX0_copyFrom_79 : decode cX0_copyFrom 79 = .ok (.iconst 0, 1) := by decide +kernel
theorem dX0_copyFrom_80 : decode cX0_copyFrom 80 = .ok (.aload_n 0, 1) := by decide +kernel
theorem dX0_copyFrom_81 : decode cX0_copyFrom 81 = .ok (.getfield 27, 3) := by decide +kernel
theorem dX0_copyFrom_84 : decode cX0_copyFrom 84 = .ok (.iconst 0, 1) := by decide +kernel
theorem dX0_copyFrom_85 : decode cX0_copyFrom 85 = .ok (.bipush 12, 2) := by decide +kernel
theorem dX0_copyFrom_87 : decode cX0_copyFrom 87 = .ok (.invokestatic 37, 3) := by decide +kernel
theorem dX0_copyFrom_90 : decode cX0_copyFrom 90 = .ok (.aload_n 1, 1) := by decide +kernel
theorem dX0_copyFrom_91 : decode cX0_copyFrom 91 = .ok (.getfield 30, 3) := by decide +kernel
theorem dX0_copyFrom_94 : decode cX0_copyFrom 94 = .ok (.iconst 0, 1) := by decide +kernel
theorem dX0_copyFrom_95 : decode cX0_copyFrom 95 = .ok (.aload_n 0, 1) := by decide +kernel
theorem dX0_copyFrom_96 : decode cX0_copyFrom 96 = .ok (.getfield 30, 3) := by decide +kernel
theorem dX0_copyFrom_99 : decode cX0_copyFrom 99 = .ok (.iconst 0, 1) := by decide +kernel
theorem dX0_copyFrom_100 : decode cX0_copyFrom 100 = .ok (.bipush 12, 2) := by decide +kernel
theorem dX0_copyFrom_102 : decode cX0_copyFrom 102 = .ok (.invokestatic 37, 3) := by decide +kernel
theorem dX0_copyFrom_105 : decode cX0_copyFrom 105 = .ok (.aload_n 0, 1) := by decide +kernel
theorem dX0_copyFrom_106 : decode cX0_copyFrom 106 = .ok (.aload_n 1, 1) := by decide +kernel
theorem dX0_copyFrom_107 : decode cX0_copyFrom 107 = .ok (.getfield 33, 3) := by decide +kernel
theorem dX0_copyFrom_110 : decode cX0_copyFrom 110 = .ok (.putfield 33, 3) := by decide +kernel
theorem dX0_copyFrom_113 : decode cX0_copyFrom 113 = .ok (.return_, 1) := by decide +kernel
theorem dX0_find_0 : decode cX0_find 0 = .ok (.iconst 0, 1) := by decide +kernel
theorem dX0_find_1 : decode cX0_find 1 = .ok (.istore_n 3, 1) := by decide +kernel
theorem dX0_find_2 : decode cX0_find 2 = .ok (.iload_n 3, 1) := by decide +kernel
theorem dX0_find_3 : decode cX0_find 3 = .ok (.aload_n 0, 1) := by decide +kernel
theorem dX0_find_4 : decode cX0_find 4 = .ok (.getfield 33, 3) := by decide +kernel
theorem dX0_find_7 : decode cX0_find 7 = .ok (.if_icmp .ge 31, 3) := by decide +kernel
theorem dX0_find_10 : decode cX0_find 10 = .ok (.aload_n 0, 1) := by decide +kernel
theorem dX0_find_11 : decode cX0_find 11 = .ok (.getfield 9, 3) := by decide +kernel
theorem dX0_find_14 : decode cX0_find 14 = .ok (.iload_n 3, 1) := by decide +kernel
theorem dX0_find_15 : decode cX0_find 15 = .ok (.iaload, 1) := by decide +kernel
theorem dX0_find_16 : decode cX0_find 16 = .ok (.iload_n 1, 1) := by decide +kernel
theorem dX0_find_17 : decode cX0_find 17 = .ok (.if_icmp .ne 15, 3) := by decide +kernel
theorem dX0_find_20 : decode cX0_find 20 = .ok (.aload_n 0, 1) := by decide +kernel
theorem dX0_find_21 : decode cX0_find 21 = .ok (.getfield 15, 3) := by decide +kernel
theorem dX0_find_24 : decode cX0_find 24 = .ok (.iload_n 3, 1) := by decide +kernel
theorem dX0_find_25 : decode cX0_find 25 = .ok (.iaload, 1) := by decide +kernel
theorem dX0_find_26 : decode cX0_find 26 = .ok (.iload_n 2, 1) := by decide +kernel
theorem dX0_find_27 : decode cX0_find 27 = .ok (.if_icmp .ne 5, 3) := by decide +kernel
theorem dX0_find_30 : decode cX0_find 30 = .ok (.iload_n 3, 1) := by decide +kernel
theorem dX0_find_31 : decode cX0_find 31 = .ok (.ireturn, 1) := by decide +kernel
theorem dX0_find_32 : decode cX0_find 32 = .ok (.iinc 3 1, 3) := by decide +kernel
theorem dX0_find_35 : decode cX0_find 35 = .ok (.goto (-33), 3) := by decide +kernel
theorem dX0_find_38 : decode cX0_find 38 = .ok (.iconst (-1), 1) := by decide +kernel
theorem dX0_find_39 : decode cX0_find 39 = .ok (.ireturn, 1) := by decide +kernel
theorem dX0_countFrom_0 : decode cX0_countFrom 0 = .ok (.iconst 0, 1) := by decide +kernel
theorem dX0_countFrom_1 : decode cX0_countFrom 1 = .ok (.istore_n 2, 1) := by decide +kernel
theorem dX0_countFrom_2 : decode cX0_countFrom 2 = .ok (.iconst 0, 1) := by decide +kernel
theorem dX0_countFrom_3 : decode cX0_countFrom 3 = .ok (.istore_n 3, 1) := by decide +kernel
theorem dX0_countFrom_4 : decode cX0_countFrom 4 = .ok (.iload_n 3, 1) := by decide +kernel
theorem dX0_countFrom_5 : decode cX0_countFrom 5 = .ok (.aload_n 0, 1) := by decide +kernel
theorem dX0_countFrom_6 : decode cX0_countFrom 6 = .ok (.getfield 33, 3) := by decide +kernel
theorem dX0_countFrom_9 : decode cX0_countFrom 9 = .ok (.if_icmp .ge 22, 3) := by decide +kernel
theorem dX0_countFrom_12 : decode cX0_countFrom 12 = .ok (.aload_n 0, 1) := by decide +kernel
theorem dX0_countFrom_13 : decode cX0_countFrom 13 = .ok (.getfield 9, 3) := by decide +kernel
theorem dX0_countFrom_16 : decode cX0_countFrom 16 = .ok (.iload_n 3, 1) := by decide +kernel
theorem dX0_countFrom_17 : decode cX0_countFrom 17 = .ok (.iaload, 1) := by decide +kernel
theorem dX0_countFrom_18 : decode cX0_countFrom 18 = .ok (.iload_n 1, 1) := by decide +kernel
theorem dX0_countFrom_19 : decode cX0_countFrom 19 = .ok (.if_icmp .ne 6, 3) := by decide +kernel
theorem dX0_countFrom_22 : decode cX0_countFrom 22 = .ok (.iinc 2 1, 3) := by decide +kernel
theorem dX0_countFrom_25 : decode cX0_countFrom 25 = .ok (.iinc 3 1, 3) := by decide +kernel
theorem dX0_countFrom_28 : decode cX0_countFrom 28 = .ok (.goto (-24), 3) := by decide +kernel
theorem dX0_countFrom_31 : decode cX0_countFrom 31 = .ok (.iload_n 2, 1) := by decide +kernel
theorem dX0_countFrom_32 : decode cX0_countFrom 32 = .ok (.ireturn, 1) := by decide +kernel
theorem dX0_countTo_0 : decode cX0_countTo 0 = .ok (.iconst 0, 1) := by decide +kernel
theorem dX0_countTo_1 : decode cX0_countTo 1 = .ok (.istore_n 2, 1) := by decide +kernel
theorem dX0_countTo_2 : decode cX0_countTo 2 = .ok (.iconst 0, 1) := by decide +kernel
theorem dX0_countTo_3 : decode cX0_countTo 3 = .ok (.istore_n 3, 1) := by decide +kernel
theorem dX0_countTo_4 : decode cX0_countTo 4 = .ok (.iload_n 3, 1) := by decide +kernel
theorem dX0_countTo_5 : decode cX0_countTo 5 = .ok (.aload_n 0, 1) := by decide +kernel
theorem dX0_countTo_6 : decode cX0_countTo 6 = .ok (.getfield 33, 3) := by decide +kernel
theorem dX0_countTo_9 : decode cX0_countTo 9 = .ok (.if_icmp .ge 22, 3) := by decide +kernel
theorem dX0_countTo_12 : decode cX0_countTo 12 = .ok (.aload_n 0, 1) := by decide +kernel
theorem dX0_countTo_13 : decode cX0_countTo 13 = .ok (.getfield 15, 3) := by decide +kernel
theorem dX0_countTo_16 : decode cX0_countTo 16 = .ok (.iload_n 3, 1) := by decide +kernel
theorem dX0_countTo_17 : decode cX0_countTo 17 = .ok (.iaload, 1) := by decide +kernel
theorem dX0_countTo_18 : decode cX0_countTo 18 = .ok (.iload_n 1, 1) := by decide +kernel
theorem dX0_countTo_19 : decode cX0_countTo 19 = .ok (.if_icmp .ne 6, 3) := by decide +kernel
theorem dX0_countTo_22 : decode cX0_countTo 22 = .ok (.iinc 2 1, 3) := by decide +kernel
theorem dX0_countTo_25 : decode cX0_countTo 25 = .ok (.iinc 3 1, 3) := by decide +kernel
theorem dX0_countTo_28 : decode cX0_countTo 28 = .ok (.goto (-24), 3) := by decide +kernel
theorem dX0_countTo_31 : decode cX0_countTo 31 = .ok (.iload_n 2, 1) := by decide +kernel
theorem dX0_countTo_32 : decode cX0_countTo 32 = .ok (.ireturn, 1) := by decide +kernel
theorem dX0_atPlaceFrom_0 : decode cX0_atPlaceFrom 0 = .ok (.iconst 0, 1) := by decide +kernel
theorem dX0_atPlaceFrom_1 : decode cX0_atPlaceFrom 1 = .ok (.istore_n 3, 1) := by decide +kernel
theorem dX0_atPlaceFrom_2 : decode cX0_atPlaceFrom 2 = .ok (.iconst 0, 1) := by decide +kernel
theorem dX0_atPlaceFrom_3 : decode cX0_atPlaceFrom 3 = .ok (.istore 4, 2) := by decide +kernel
theorem dX0_atPlaceFrom_5 : decode cX0_atPlaceFrom 5 = .ok (.iload 4, 2) := by decide +kernel
theorem dX0_atPlaceFrom_7 : decode cX0_atPlaceFrom 7 = .ok (.aload_n 0, 1) := by decide +kernel
theorem dX0_atPlaceFrom_8 : decode cX0_atPlaceFrom 8 = .ok (.getfield 33, 3) := by decide +kernel
theorem dX0_atPlaceFrom_11 : decode cX0_atPlaceFrom 11 = .ok (.if_icmp .ge 31, 3) := by decide +kernel
theorem dX0_atPlaceFrom_14 : decode cX0_atPlaceFrom 14 = .ok (.aload_n 0, 1) := by decide +kernel
theorem dX0_atPlaceFrom_15 : decode cX0_atPlaceFrom 15 = .ok (.getfield 9, 3) := by decide +kernel
theorem dX0_atPlaceFrom_18 : decode cX0_atPlaceFrom 18 = .ok (.iload 4, 2) := by decide +kernel
theorem dX0_atPlaceFrom_20 : decode cX0_atPlaceFrom 20 = .ok (.iaload, 1) := by decide +kernel
theorem dX0_atPlaceFrom_21 : decode cX0_atPlaceFrom 21 = .ok (.iload_n 1, 1) := by decide +kernel
theorem dX0_atPlaceFrom_22 : decode cX0_atPlaceFrom 22 = .ok (.if_icmp .ne 14, 3) := by decide +kernel
theorem dX0_atPlaceFrom_25 : decode cX0_atPlaceFrom 25 = .ok (.iload_n 3, 1) := by decide +kernel
theorem dX0_atPlaceFrom_26 : decode cX0_atPlaceFrom 26 = .ok (.iload_n 2, 1) := by decide +kernel
theorem dX0_atPlaceFrom_27 : decode cX0_atPlaceFrom 27 = .ok (.if_icmp .ne 6, 3) := by decide +kernel
theorem dX0_atPlaceFrom_30 : decode cX0_atPlaceFrom 30 = .ok (.iload 4, 2) := by decide +kernel
theorem dX0_atPlaceFrom_32 : decode cX0_atPlaceFrom 32 = .ok (.ireturn, 1) := by decide +kernel
theorem dX0_atPlaceFrom_33 : decode cX0_atPlaceFrom 33 = .ok (.iinc 3 1, 3) := by decide +kernel
theorem dX0_atPlaceFrom_36 : decode cX0_atPlaceFrom 36 = .ok (.iinc 4 1, 3) := by decide +kernel
theorem dX0_atPlaceFrom_39 : decode cX0_atPlaceFrom 39 = .ok (.goto (-34), 3) := by decide +kernel
theorem dX0_atPlaceFrom_42 : decode cX0_atPlaceFrom 42 = .ok (.iconst (-1), 1) := by decide +kernel
theorem dX0_atPlaceFrom_43 : decode cX0_atPlaceFrom 43 = .ok (.ireturn, 1) := by decide +kernel
theorem dX0_ofLeastClockTo_0 : decode cX0_ofLeastClockTo 0 = .ok (.iconst (-1), 1) := by decide +kernel
theorem dX0_ofLeastClockTo_1 : decode cX0_ofLeastClockTo 1 = .ok (.istore_n 2, 1) := by decide +kernel
theorem dX0_ofLeastClockTo_2 : decode cX0_ofLeastClockTo 2 = .ok (.iconst 0, 1) := by decide +kernel
theorem dX0_ofLeastClockTo_3 : decode cX0_ofLeastClockTo 3 = .ok (.istore_n 3, 1) := by decide +kernel
theorem dX0_ofLeastClockTo_4 : decode cX0_ofLeastClockTo 4 = .ok (.iload_n 3, 1) := by decide +kernel
theorem dX0_ofLeastClockTo_5 : decode cX0_ofLeastClockTo 5 = .ok (.aload_n 0, 1) := by decide +kernel
theorem dX0_ofLeastClockTo_6 : decode cX0_ofLeastClockTo 6 = .ok (.getfield 33, 3) := by decide +kernel
theorem dX0_ofLeastClockTo_9 : decode cX0_ofLeastClockTo 9 = .ok (.if_icmp .ge 41, 3) := by decide +kernel
theorem dX0_ofLeastClockTo_12 : decode cX0_ofLeastClockTo 12 = .ok (.aload_n 0, 1) := by decide +kernel
theorem dX0_ofLeastClockTo_13 : decode cX0_ofLeastClockTo 13 = .ok (.getfield 15, 3) := by decide +kernel
theorem dX0_ofLeastClockTo_16 : decode cX0_ofLeastClockTo 16 = .ok (.iload_n 3, 1) := by decide +kernel
theorem dX0_ofLeastClockTo_17 : decode cX0_ofLeastClockTo 17 = .ok (.iaload, 1) := by decide +kernel
theorem dX0_ofLeastClockTo_18 : decode cX0_ofLeastClockTo 18 = .ok (.iload_n 1, 1) := by decide +kernel
theorem dX0_ofLeastClockTo_19 : decode cX0_ofLeastClockTo 19 = .ok (.if_icmp .ne 25, 3) := by decide +kernel
theorem dX0_ofLeastClockTo_22 : decode cX0_ofLeastClockTo 22 = .ok (.iload_n 2, 1) := by decide +kernel
theorem dX0_ofLeastClockTo_23 : decode cX0_ofLeastClockTo 23 = .ok (.iconst (-1), 1) := by decide +kernel
theorem dX0_ofLeastClockTo_24 : decode cX0_ofLeastClockTo 24 = .ok (.if_icmp .eq 18, 3) := by decide +kernel
theorem dX0_ofLeastClockTo_27 : decode cX0_ofLeastClockTo 27 = .ok (.aload_n 0, 1) := by decide +kernel
theorem dX0_ofLeastClockTo_28 : decode cX0_ofLeastClockTo 28 = .ok (.getfield 24, 3) := by decide +kernel
theorem dX0_ofLeastClockTo_31 : decode cX0_ofLeastClockTo 31 = .ok (.iload_n 3, 1) := by decide +kernel
theorem dX0_ofLeastClockTo_32 : decode cX0_ofLeastClockTo 32 = .ok (.iaload, 1) := by decide +kernel
theorem dX0_ofLeastClockTo_33 : decode cX0_ofLeastClockTo 33 = .ok (.aload_n 0, 1) := by decide +kernel
theorem dX0_ofLeastClockTo_34 : decode cX0_ofLeastClockTo 34 = .ok (.getfield 24, 3) := by decide +kernel
theorem dX0_ofLeastClockTo_37 : decode cX0_ofLeastClockTo 37 = .ok (.iload_n 2, 1) := by decide +kernel
theorem dX0_ofLeastClockTo_38 : decode cX0_ofLeastClockTo 38 = .ok (.iaload, 1) := by decide +kernel
theorem dX0_ofLeastClockTo_39 : decode cX0_ofLeastClockTo 39 = .ok (.if_icmp .ge 5, 3) := by decide +kernel
theorem dX0_ofLeastClockTo_42 : decode cX0_ofLeastClockTo 42 = .ok (.iload_n 3, 1) := by decide +kernel
theorem dX0_ofLeastClockTo_43 : decode cX0_ofLeastClockTo 43 = .ok (.istore_n 2, 1) := by decide +kernel
theorem dX0_ofLeastClockTo_44 : decode cX0_ofLeastClockTo 44 = .ok (.iinc 3 1, 3) := by decide +kernel
theorem dX0_ofLeastClockTo_47 : decode cX0_ofLeastClockTo 47 = .ok (.goto (-43), 3) := by decide +kernel
theorem dX0_ofLeastClockTo_50 : decode cX0_ofLeastClockTo 50 = .ok (.iload_n 2, 1) := by decide +kernel
theorem dX0_ofLeastClockTo_51 : decode cX0_ofLeastClockTo 51 = .ok (.ireturn, 1) := by decide +kernel
theorem dX0_promiseMoreThan_0 : decode cX0_promiseMoreThan 0 = .ok (.iconst 0, 1) := by decide +kernel
theorem dX0_promiseMoreThan_1 : decode cX0_promiseMoreThan 1 = .ok (.istore_n 3, 1) := by decide +kernel
theorem dX0_promiseMoreThan_2 : decode cX0_promiseMoreThan 2 = .ok (.iload_n 3, 1) := by decide +kernel
theorem dX0_promiseMoreThan_3 : decode cX0_promiseMoreThan 3 = .ok (.aload_n 0, 1) := by decide +kernel
theorem dX0_promiseMoreThan_4 : decode cX0_promiseMoreThan 4 = .ok (.getfield 33, 3) := by decide +kernel
theorem dX0_promiseMoreThan_7 : decode cX0_promiseMoreThan 7 = .ok (.if_icmp .ge 38, 3) := by decide +kernel
theorem dX0_promiseMoreThan_10 : decode cX0_promiseMoreThan 10 = .ok (.aload_n 0, 1) := by decide +kernel
theorem dX0_promiseMoreThan_11 : decode cX0_promiseMoreThan 11 = .ok (.getfield 9, 3) := by decide +kernel
theorem dX0_promiseMoreThan_14 : decode cX0_promiseMoreThan 14 = .ok (.iload_n 3, 1) := by decide +kernel
theorem dX0_promiseMoreThan_15 : decode cX0_promiseMoreThan 15 = .ok (.iaload, 1) := by decide +kernel
theorem dX0_promiseMoreThan_16 : decode cX0_promiseMoreThan 16 = .ok (.iload_n 1, 1) := by decide +kernel
theorem dX0_promiseMoreThan_17 : decode cX0_promiseMoreThan 17 = .ok (.if_icmp .ne 22, 3) := by decide +kernel
theorem dX0_promiseMoreThan_20 : decode cX0_promiseMoreThan 20 = .ok (.aload_n 0, 1) := by decide +kernel
theorem dX0_promiseMoreThan_21 : decode cX0_promiseMoreThan 21 = .ok (.getfield 24, 3) := by decide +kernel
theorem dX0_promiseMoreThan_24 : decode cX0_promiseMoreThan 24 = .ok (.iload_n 3, 1) := by decide +kernel
theorem dX0_promiseMoreThan_25 : decode cX0_promiseMoreThan 25 = .ok (.iaload, 1) := by decide +kernel
theorem dX0_promiseMoreThan_26 : decode cX0_promiseMoreThan 26 = .ok (.iload_n 2, 1) := by decide +kernel
theorem dX0_promiseMoreThan_27 : decode cX0_promiseMoreThan 27 = .ok (.aload_n 0, 1) := by decide +kernel
theorem dX0_promiseMoreThan_28 : decode cX0_promiseMoreThan 28 = .ok (.getfield 18, 3) := by decide +kernel
theorem dX0_promiseMoreThan_31 : decode cX0_promiseMoreThan 31 = .ok (.iload_n 3, 1) := by decide +kernel
theorem dX0_promiseMoreThan_32 : decode cX0_promiseMoreThan 32 = .ok (.iaload, 1) := by decide +kernel
theorem dX0_promiseMoreThan_33 : decode cX0_promiseMoreThan 33 = .ok (.iadd, 1) := by decide +kernel
theorem dX0_promiseMoreThan_34 : decode cX0_promiseMoreThan 34 = .ok (.if_icmp .le 5, 3) := by decide +kernel
theorem dX0_promiseMoreThan_37 : decode cX0_promiseMoreThan 37 = .ok (.iconst 1, 1) := by decide +kernel
theorem dX0_promiseMoreThan_38 : decode cX0_promiseMoreThan 38 = .ok (.ireturn, 1) := by decide +kernel
theorem dX0_promiseMoreThan_39 : decode cX0_promiseMoreThan 39 = .ok (.iinc 3 1, 3) := by decide +kernel
theorem dX0_promiseMoreThan_42 : decode cX0_promiseMoreThan 42 = .ok (.goto (-40), 3) := by decide +kernel
theorem dX0_promiseMoreThan_45 : decode cX0_promiseMoreThan 45 = .ok (.iconst 0, 1) := by decide +kernel
theorem dX0_promiseMoreThan_46 : decode cX0_promiseMoreThan 46 = .ok (.ireturn, 1) := by decide +kernel
theorem dX0_raiseClocks_0 : decode cX0_raiseClocks 0 = .ok (.iconst 0, 1) := by decide +kernel
theorem dX0_raiseClocks_1 : decode cX0_raiseClocks 1 = .ok (.istore_n 2, 1) := by decide +kernel
theorem dX0_raiseClocks_2 : decode cX0_raiseClocks 2 = .ok (.iload_n 2, 1) := by decide +kernel
theorem dX0_raiseClocks_3 : decode cX0_raiseClocks 3 = .ok (.aload_n 0, 1) := by decide +kernel
theorem dX0_raiseClocks_4 : decode cX0_raiseClocks 4 = .ok (.getfield 33, 3) := by decide +kernel
theorem dX0_raiseClocks_7 : decode cX0_raiseClocks 7 = .ok (.if_icmp .ge 25, 3) := by decide +kernel
theorem dX0_raiseClocks_10 : decode cX0_raiseClocks 10 = .ok (.aload_n 0, 1) := by decide +kernel
theorem dX0_raiseClocks_11 : decode cX0_raiseClocks 11 = .ok (.getfield 24, 3) := by decide +kernel
theorem dX0_raiseClocks_14 : decode cX0_raiseClocks 14 = .ok (.iload_n 2, 1) := by decide +kernel
theorem dX0_raiseClocks_15 : decode cX0_raiseClocks 15 = .ok (.aload_n 0, 1) := by decide +kernel
theorem dX0_raiseClocks_16 : decode cX0_raiseClocks 16 = .ok (.getfield 24, 3) := by decide +kernel
theorem dX0_raiseClocks_19 : decode cX0_raiseClocks 19 = .ok (.iload_n 2, 1) := by decide +kernel
theorem dX0_raiseClocks_20 : decode cX0_raiseClocks 20 = .ok (.iaload, 1) := by decide +kernel
theorem dX0_raiseClocks_21 : decode cX0_raiseClocks 21 = .ok (.iload_n 1, 1) := by decide +kernel
theorem dX0_raiseClocks_22 : decode cX0_raiseClocks 22 = .ok (.invokestatic 43, 3) := by decide +kernel
theorem dX0_raiseClocks_25 : decode cX0_raiseClocks 25 = .ok (.iastore, 1) := by decide +kernel
theorem dX0_raiseClocks_26 : decode cX0_raiseClocks 26 = .ok (.iinc 2 1, 3) := by decide +kernel
theorem dX0_raiseClocks_29 : decode cX0_raiseClocks 29 = .ok (.goto (-27), 3) := by decide +kernel
theorem dX0_raiseClocks_32 : decode cX0_raiseClocks 32 = .ok (.return_, 1) := by decide +kernel
theorem dX0_hasRingWithoutPromise_0 : decode cX0_hasRingWithoutPromise 0 = .ok (.iconst 0, 1) := by decide +kernel
theorem dX0_hasRingWithoutPromise_1 : decode cX0_hasRingWithoutPromise 1 = .ok (.istore_n 2, 1) := by decide +kernel
theorem dX0_hasRingWithoutPromise_2 : decode cX0_hasRingWithoutPromise 2 = .ok (.iload_n 2, 1) := by decide +kernel
theorem dX0_hasRingWithoutPromise_3 : decode cX0_hasRingWithoutPromise 3 = .ok (.iload_n 1, 1) := by decide +kernel
theorem dX0_hasRingWithoutPromise_4 : decode cX0_hasRingWithoutPromise 4 = .ok (.if_icmp .ge 24, 3) := by decide +kernel
theorem dX0_hasRingWithoutPromise_7 : decode cX0_hasRingWithoutPromise 7 = .ok (.aload_n 0, 1) := by decide +kernel
theorem dX0_hasRingWithoutPromise_8 : decode cX0_hasRingWithoutPromise 8 = .ok (.iload_n 2, 1) := by decide +kernel
theorem dX0_hasRingWithoutPromise_9 : decode cX0_hasRingWithoutPromise 9 = .ok (.iload_n 1, 1) := by decide +kernel
theorem dX0_hasRingWithoutPromise_10 : decode cX0_hasRingWithoutPromise 10 = .ok (.invokevirtual 49, 3) := by decide +kernel
theorem dX0_hasRingWithoutPromise_13 : decode cX0_hasRingWithoutPromise 13 = .ok (.iconst 1, 1) := by decide +kernel
theorem dX0_hasRingWithoutPromise_14 : decode cX0_hasRingWithoutPromise 14 = .ok (.iload_n 2, 1) := by decide +kernel
theorem dX0_hasRingWithoutPromise_15 : decode cX0_hasRingWithoutPromise 15 = .ok (.ishl, 1) := by decide +kernel
theorem dX0_hasRingWithoutPromise_16 : decode cX0_hasRingWithoutPromise 16 = .ok (.iand, 1) := by decide +kernel
theorem dX0_hasRingWithoutPromise_17 : decode cX0_hasRingWithoutPromise 17 = .ok (.ifCond .eq 5, 3) := by decide +kernel
theorem dX0_hasRingWithoutPromise_20 : decode cX0_hasRingWithoutPromise 20 = .ok (.iconst 1, 1) := by decide +kernel
theorem dX0_hasRingWithoutPromise_21 : decode cX0_hasRingWithoutPromise 21 = .ok (.ireturn, 1) := by decide +kernel
theorem dX0_hasRingWithoutPromise_22 : decode cX0_hasRingWithoutPromise 22 = .ok (.iinc 2 1, 3) := by decide +kernel
theorem dX0_hasRingWithoutPromise_25 : decode cX0_hasRingWithoutPromise 25 = .ok (.goto (-23), 3) := by decide +kernel
theorem dX0_hasRingWithoutPromise_28 : decode cX0_hasRingWithoutPromise 28 = .ok (.iconst 0, 1) := by decide +kernel
theorem dX0_hasRingWithoutPromise_29 : decode cX0_hasRingWithoutPromise 29 = .ok (.ireturn, 1) := by decide +kernel
theorem dX0_reachedWithoutPromise_0 : decode cX0_reachedWithoutPromise 0 = .ok (.iconst 0, 1) := by decide +kernel
theorem dX0_reachedWithoutPromise_1 : decode cX0_reachedWithoutPromise 1 = .ok (.istore_n 3, 1) := by decide +kernel
theorem dX0_reachedWithoutPromise_2 : decode cX0_reachedWithoutPromise 2 = .ok (.iconst 0, 1) := by decide +kernel
theorem dX0_reachedWithoutPromise_3 : decode cX0_reachedWithoutPromise 3 = .ok (.istore 4, 2) := by decide +kernel
theorem dX0_reachedWithoutPromise_5 : decode cX0_reachedWithoutPromise 5 = .ok (.iload 4, 2) := by decide +kernel
theorem dX0_reachedWithoutPromise_7 : decode cX0_reachedWithoutPromise 7 = .ok (.iload_n 2, 1) := by decide +kernel
theorem dX0_reachedWithoutPromise_8 : decode cX0_reachedWithoutPromise 8 = .ok (.if_icmp .ge 86, 3) := by decide +kernel
theorem dX0_reachedWithoutPromise_11 : decode cX0_reachedWithoutPromise 11 = .ok (.iconst 0, 1) := by decide +kernel
theorem dX0_reachedWithoutPromise_12 : decode cX0_reachedWithoutPromise 12 = .ok (.istore 5, 2) := by decide +kernel
theorem dX0_reachedWithoutPromise_14 : decode cX0_reachedWithoutPromise 14 = .ok (.iload 5, 2) := by decide +kernel
theorem dX0_reachedWithoutPromise_16 : decode cX0_reachedWithoutPromise 16 = .ok (.aload_n 0, 1) := by decide +kernel
theorem dX0_reachedWithoutPromise_17 : decode cX0_reachedWithoutPromise 17 = .ok (.getfield 33, 3) := by decide +kernel
theorem dX0_reachedWithoutPromise_20 : decode cX0_reachedWithoutPromise 20 = .ok (.if_icmp .ge 68, 3) := by decide +kernel
theorem dX0_reachedWithoutPromise_23 : decode cX0_reachedWithoutPromise 23 = .ok (.aload_n 0, 1) := by decide +kernel
theorem dX0_reachedWithoutPromise_24 : decode cX0_reachedWithoutPromise 24 = .ok (.getfield 9, 3) := by decide +kernel
theorem dX0_reachedWithoutPromise_27 : decode cX0_reachedWithoutPromise 27 = .ok (.iload 5, 2) := by decide +kernel
theorem dX0_reachedWithoutPromise_29 : decode cX0_reachedWithoutPromise 29 = .ok (.iaload, 1) := by decide +kernel
theorem dX0_reachedWithoutPromise_30 : decode cX0_reachedWithoutPromise 30 = .ok (.iload_n 1, 1) := by decide +kernel
theorem dX0_reachedWithoutPromise_31 : decode cX0_reachedWithoutPromise 31 = .ok (.if_icmp .eq 17, 3) := by decide +kernel
theorem dX0_reachedWithoutPromise_34 : decode cX0_reachedWithoutPromise 34 = .ok (.iload_n 3, 1) := by decide +kernel
theorem dX0_reachedWithoutPromise_35 : decode cX0_reachedWithoutPromise 35 = .ok (.iconst 1, 1) := by decide +kernel
theorem dX0_reachedWithoutPromise_36 : decode cX0_reachedWithoutPromise 36 = .ok (.aload_n 0, 1) := by decide +kernel
theorem dX0_reachedWithoutPromise_37 : decode cX0_reachedWithoutPromise 37 = .ok (.getfield 9, 3) := by decide +kernel
theorem dX0_reachedWithoutPromise_40 : decode cX0_reachedWithoutPromise 40 = .ok (.iload 5, 2) := by decide +kernel
theorem dX0_reachedWithoutPromise_42 : decode cX0_reachedWithoutPromise 42 = .ok (.iaload, 1) := by decide +kernel
theorem dX0_reachedWithoutPromise_43 : decode cX0_reachedWithoutPromise 43 = .ok (.ishl, 1) := by decide +kernel
theorem dX0_reachedWithoutPromise_44 : decode cX0_reachedWithoutPromise 44 = .ok (.iand, 1) := by decide +kernel
theorem dX0_reachedWithoutPromise_45 : decode cX0_reachedWithoutPromise 45 = .ok (.ifCond .eq 7, 3) := by decide +kernel
theorem dX0_reachedWithoutPromise_48 : decode cX0_reachedWithoutPromise 48 = .ok (.iconst 1, 1) := by decide +kernel
theorem dX0_reachedWithoutPromise_49 : decode cX0_reachedWithoutPromise 49 = .ok (.goto 4, 3) := by decide +kernel
theorem dX0_reachedWithoutPromise_52 : decode cX0_reachedWithoutPromise 52 = .ok (.iconst 0, 1) := by decide +kernel
theorem dX0_reachedWithoutPromise_53 : decode cX0_reachedWithoutPromise 53 = .ok (.istore 6, 2) := by decide +kernel
theorem dX0_reachedWithoutPromise_55 : decode cX0_reachedWithoutPromise 55 = .ok (.aload_n 0, 1) := by decide +kernel
theorem dX0_reachedWithoutPromise_56 : decode cX0_reachedWithoutPromise 56 = .ok (.getfield 18, 3) := by decide +kernel
theorem dX0_reachedWithoutPromise_59 : decode cX0_reachedWithoutPromise 59 = .ok (.iload 5, 2) := by decide +kernel
theorem dX0_reachedWithoutPromise_61 : decode cX0_reachedWithoutPromise 61 = .ok (.iaload, 1) := by decide +kernel
theorem dX0_reachedWithoutPromise_62 : decode cX0_reachedWithoutPromise 62 = .ok (.ifCond .ne 20, 3) := by decide +kernel
theorem dX0_reachedWithoutPromise_65 : decode cX0_reachedWithoutPromise 65 = .ok (.iload 6, 2) := by decide +kernel
theorem dX0_reachedWithoutPromise_67 : decode cX0_reachedWithoutPromise 67 = .ok (.ifCond .eq 15, 3) := by decide +kernel
theorem dX0_reachedWithoutPromise_70 : decode cX0_reachedWithoutPromise 70 = .ok (.iload_n 3, 1) := by decide +kernel
theorem dX0_reachedWithoutPromise_71 : decode cX0_reachedWithoutPromise 71 = .ok (.iconst 1, 1) := by decide +kernel
theorem dX0_reachedWithoutPromise_72 : decode cX0_reachedWithoutPromise 72 = .ok (.aload_n 0, 1) := by decide +kernel
theorem dX0_reachedWithoutPromise_73 : decode cX0_reachedWithoutPromise 73 = .ok (.getfield 15, 3) := by decide +kernel
theorem dX0_reachedWithoutPromise_76 : decode cX0_reachedWithoutPromise 76 = .ok (.iload 5, 2) := by decide +kernel
theorem dX0_reachedWithoutPromise_78 : decode cX0_reachedWithoutPromise 78 = .ok (.iaload, 1) := by decide +kernel
theorem dX0_reachedWithoutPromise_79 : decode cX0_reachedWithoutPromise 79 = .ok (.ishl, 1) := by decide +kernel
theorem dX0_reachedWithoutPromise_80 : decode cX0_reachedWithoutPromise 80 = .ok (.ior, 1) := by decide +kernel
theorem dX0_reachedWithoutPromise_81 : decode cX0_reachedWithoutPromise 81 = .ok (.istore_n 3, 1) := by decide +kernel
theorem dX0_reachedWithoutPromise_82 : decode cX0_reachedWithoutPromise 82 = .ok (.iinc 5 1, 3) := by decide +kernel
theorem dX0_reachedWithoutPromise_85 : decode cX0_reachedWithoutPromise 85 = .ok (.goto (-71), 3) := by decide +kernel
theorem dX0_reachedWithoutPromise_88 : decode cX0_reachedWithoutPromise 88 = .ok (.iinc 4 1, 3) := by decide +kernel
theorem dX0_reachedWithoutPromise_91 : decode cX0_reachedWithoutPromise 91 = .ok (.goto (-86), 3) := by decide +kernel
theorem dX0_reachedWithoutPromise_94 : decode cX0_reachedWithoutPromise 94 = .ok (.iload_n 3, 1) := by decide +kernel
theorem dX0_reachedWithoutPromise_95 : decode cX0_reachedWithoutPromise 95 = .ok (.ireturn, 1) := by decide +kernel
theorem dX1_init_0 : decode cX1_init 0 = .ok (.aload_n 0, 1) := by decide +kernel
theorem dX1_init_1 : decode cX1_init 1 = .ok (.invokespecial 3, 3) := by decide +kernel
theorem dX1_init_4 : decode cX1_init 4 = .ok (.aload_n 0, 1) := by decide +kernel
theorem dX1_init_5 : decode cX1_init 5 = .ok (.sipush 200, 3) := by decide +kernel
theorem dX1_init_8 : decode cX1_init 8 = .ok (.newarray .int, 2) := by decide +kernel
theorem dX1_init_10 : decode cX1_init 10 = .ok (.putfield 9, 3) := by decide +kernel
theorem dX1_init_13 : decode cX1_init 13 = .ok (.aload_n 0, 1) := by decide +kernel
theorem dX1_init_14 : decode cX1_init 14 = .ok (.sipush 200, 3) := by decide +kernel
theorem dX1_init_17 : decode cX1_init 17 = .ok (.newarray .int, 2) := by decide +kernel
theorem dX1_init_19 : decode cX1_init 19 = .ok (.putfield 15, 3) := by decide +kernel
theorem dX1_init_22 : decode cX1_init 22 = .ok (.aload_n 0, 1) := by decide +kernel
theorem dX1_init_23 : decode cX1_init 23 = .ok (.sipush 200, 3) := by decide +kernel
theorem dX1_init_26 : decode cX1_init 26 = .ok (.newarray .int, 2) := by decide +kernel
theorem dX1_init_28 : decode cX1_init 28 = .ok (.putfield 18, 3) := by decide +kernel
theorem dX1_init_31 : decode cX1_init 31 = .ok (.aload_n 0, 1) := by decide +kernel
theorem dX1_init_32 : decode cX1_init 32 = .ok (.sipush 200, 3) := by decide +kernel
theorem dX1_init_35 : decode cX1_init 35 = .ok (.newarray .int, 2) := by decide +kernel
theorem dX1_init_37 : decode cX1_init 37 = .ok (.putfield 21, 3) := by decide +kernel
theorem dX1_init_40 : decode cX1_init 40 = .ok (.return_, 1) := by decide +kernel
theorem dX1_clear_0 : decode cX1_clear 0 = .ok (.aload_n 0, 1) := by decide +kernel
theorem dX1_clear_1 : decode cX1_clear 1 = .ok (.iconst 0, 1) := by decide +kernel
theorem dX1_clear_2 : decode cX1_clear 2 = .ok (.putfield 24, 3) := by decide +kernel
theorem dX1_clear_5 : decode cX1_clear 5 = .ok (.return_, 1) := by decide +kernel
theorem dX1_add_0 : decode cX1_add 0 = .ok (.aload_n 0, 1) := by decide +kernel
theorem dX1_add_1 : decode cX1_add 1 = .ok (.getfield 24, 3) := by decide +kernel
theorem dX1_add_4 : decode cX1_add 4 = .ok (.sipush 200, 3) := by decide +kernel
theorem dX1_add_7 : decode cX1_add 7 = .ok (.if_icmp .lt 4, 3) := by decide +kernel
theorem dX1_add_10 : decode cX1_add 10 = .ok (.return_, 1) := by decide +kernel
theorem dX1_add_11 : decode cX1_add 11 = .ok (.aload_n 0, 1) := by decide +kernel
theorem dX1_add_12 : decode cX1_add 12 = .ok (.getfield 9, 3) := by decide +kernel
theorem dX1_add_15 : decode cX1_add 15 = .ok (.aload_n 0, 1) := by decide +kernel
theorem dX1_add_16 : decode cX1_add 16 = .ok (.getfield 24, 3) := by decide +kernel
theorem dX1_add_19 : decode cX1_add 19 = .ok (.iload_n 1, 1) := by decide +kernel
theorem dX1_add_20 : decode cX1_add 20 = .ok (.iastore, 1) := by decide +kernel
theorem dX1_add_21 : decode cX1_add 21 = .ok (.aload_n 0, 1) := by decide +kernel
theorem dX1_add_22 : decode cX1_add 22 = .ok (.getfield 15, 3) := by decide +kernel
theorem dX1_add_25 : decode cX1_add 25 = .ok (.aload_n 0, 1) := by decide +kernel
theorem dX1_add_26 : decode cX1_add 26 = .ok (.getfield 24, 3) := by decide +kernel
theorem dX1_add_29 : decode cX1_add 29 = .ok (.iload_n 2, 1) := by decide +kernel
theorem dX1_add_30 : decode cX1_add 30 = .ok (.iastore, 1) := by decide +kernel
theorem dX1_add_31 : decode cX1_add 31 = .ok (.aload_n 0, 1) := by decide +kernel
theorem dX1_add_32 : decode cX1_add 32 = .ok (.getfield 18, 3) := by decide +kernel
theorem dX1_add_35 : decode cX1_add 35 = .ok (.aload_n 0, 1) := by decide +kernel
theorem dX1_add_36 : decode cX1_add 36 = .ok (.getfield 24, 3) := by decide +kernel
theorem dX1_add_39 : decode cX1_add 39 = .ok (.iload_n 3, 1) := by decide +kernel
theorem dX1_add_40 : decode cX1_add 40 = .ok (.iastore, 1) := by decide +kernel
theorem dX1_add_41 : decode cX1_add 41 = .ok (.aload_n 0, 1) := by decide +kernel
theorem dX1_add_42 : decode cX1_add 42 = .ok (.getfield 21, 3) := by decide +kernel
theorem dX1_add_45 : decode cX1_add 45 = .ok (.aload_n 0, 1) := by decide +kernel
theorem dX1_add_46 : decode cX1_add 46 = .ok (.getfield 24, 3) := by decide +kernel
theorem dX1_add_49 : decode cX1_add 49 = .ok (.iload 4, 2) := by decide +kernel
theorem dX1_add_51 : decode cX1_add 51 = .ok (.iastore, 1) := by decide +kernel
theorem dX1_add_52 : decode cX1_add 52 = .ok (.aload_n 0, 1) := by decide +kernel
theorem dX1_add_53 : decode cX1_add 53 = .ok (.dup, 1) := by decide +kernel
theorem dX1_add_54 : decode cX1_add 54 = .ok (.getfield 24, 3) := by decide +kernel
theorem dX1_add_57 : decode cX1_add 57 = .ok (.iconst 1, 1) := by decide +kernel
theorem dX1_add_58 : decode cX1_add 58 = .ok (.iadd, 1) := by decide +kernel
theorem dX1_add_59 : decode cX1_add 59 = .ok (.putfield 24, 3) := by decide +kernel
theorem dX1_add_62 : decode cX1_add 62 = .ok (.return_, 1) := by decide +kernel
theorem dX2_init_0 : decode cX2_init 0 = .ok (.aload_n 0, 1) := by decide +kernel
theorem dX2_init_1 : decode cX2_init 1 = .ok (.invokespecial 3, 3) := by decide +kernel
theorem dX2_init_4 : decode cX2_init 4 = .ok (.aload_n 0, 1) := by decide +kernel
theorem dX2_init_5 : decode cX2_init 5 = .ok (.bipush 30, 2) := by decide +kernel
theorem dX2_init_7 : decode cX2_init 7 = .ok (.newarray .int, 2) := by decide +kernel
theorem dX2_init_9 : decode cX2_init 9 = .ok (.putfield 9, 3) := by decide +kernel
theorem dX2_init_12 : decode cX2_init 12 = .ok (.aload_n 0, 1) := by decide +kernel
theorem dX2_init_13 : decode cX2_init 13 = .ok (.bipush 30, 2) := by decide +kernel
theorem dX2_init_15 : decode cX2_init 15 = .ok (.newarray .int, 2) := by decide +kernel
theorem dX2_init_17 : decode cX2_init 17 = .ok (.putfield 15, 3) := by decide +kernel
theorem dX2_init_20 : decode cX2_init 20 = .ok (.aload_n 0, 1) := by decide +kernel
theorem dX2_init_21 : decode cX2_init 21 = .ok (.bipush 30, 2) := by decide +kernel
theorem dX2_init_23 : decode cX2_init 23 = .ok (.newarray .int, 2) := by decide +kernel
theorem dX2_init_25 : decode cX2_init 25 = .ok (.putfield 18, 3) := by decide +kernel
theorem dX2_init_28 : decode cX2_init 28 = .ok (.return_, 1) := by decide +kernel
theorem dX2_firstTime_0 : decode cX2_firstTime 0 = .ok (.aload_n 0, 1) := by decide +kernel
theorem dX2_firstTime_1 : decode cX2_firstTime 1 = .ok (.getfield 21, 3) := by decide +kernel
theorem dX2_firstTime_4 : decode cX2_firstTime 4 = .ok (.ifCond .ne 8, 3) := by decide +kernel
theorem dX2_firstTime_7 : decode cX2_firstTime 7 = .ok (.ldc 25, 2) := by decide +kernel
theorem dX2_firstTime_9 : decode cX2_firstTime 9 = .ok (.goto 9, 3) := by decide +kernel
theorem dX2_firstTime_12 : decode cX2_firstTime 12 = .ok (.aload_n 0, 1) := by decide +kernel
theorem dX2_firstTime_13 : decode cX2_firstTime 13 = .ok (.getfield 9, 3) := by decide +kernel
theorem dX2_firstTime_16 : decode cX2_firstTime 16 = .ok (.iconst 0, 1) := by decide +kernel
theorem dX2_firstTime_17 : decode cX2_firstTime 17 = .ok (.iaload, 1) := by decide +kernel
theorem dX2_firstTime_18 : decode cX2_firstTime 18 = .ok (.ireturn, 1) := by decide +kernel
theorem dX2_firstValue_0 : decode cX2_firstValue 0 = .ok (.aload_n 0, 1) := by decide +kernel
theorem dX2_firstValue_1 : decode cX2_firstValue 1 = .ok (.getfield 21, 3) := by decide +kernel
theorem dX2_firstValue_4 : decode cX2_firstValue 4 = .ok (.ifCond .ne 7, 3) := by decide +kernel
theorem dX2_firstValue_7 : decode cX2_firstValue 7 = .ok (.iconst (-1), 1) := by decide +kernel
theorem dX2_firstValue_8 : decode cX2_firstValue 8 = .ok (.goto 9, 3) := by decide +kernel
theorem dX2_firstValue_11 : decode cX2_firstValue 11 = .ok (.aload_n 0, 1) := by decide +kernel
theorem dX2_firstValue_12 : decode cX2_firstValue 12 = .ok (.getfield 15, 3) := by decide +kernel
theorem dX2_firstValue_15 : decode cX2_firstValue 15 = .ok (.iconst 0, 1) := by decide +kernel
theorem dX2_firstValue_16 : decode cX2_firstValue 16 = .ok (.iaload, 1) := by decide +kernel
theorem dX2_firstValue_17 : decode cX2_firstValue 17 = .ok (.ireturn, 1) := by decide +kernel
theorem dX2_add_0 : decode cX2_add 0 = .ok (.aload_n 0, 1) := by decide +kernel
theorem dX2_add_1 : decode cX2_add 1 = .ok (.getfield 21, 3) := by decide +kernel
theorem dX2_add_4 : decode cX2_add 4 = .ok (.bipush 30, 2) := by decide +kernel
theorem dX2_add_6 : decode cX2_add 6 = .ok (.if_icmp .lt 4, 3) := by decide +kernel
theorem dX2_add_9 : decode cX2_add 9 = .ok (.return_, 1) := by decide +kernel
theorem dX2_add_10 : decode cX2_add 10 = .ok (.aload_n 0, 1) := by decide +kernel
theorem dX2_add_11 : decode cX2_add 11 = .ok (.getfield 21, 3) := by decide +kernel
theorem dX2_add_14 : decode cX2_add 14 = .ok (.istore 4, 2) := by decide +kernel
theorem dX2_add_16 : decode cX2_add 16 = .ok (.iload 4, 2) := by decide +kernel
theorem dX2_add_18 : decode cX2_add 18 = .ok (.ifCond .le 70, 3) := by decide +kernel
theorem dX2_add_21 : decode cX2_add 21 = .ok (.aload_n 0, 1) := by decide +kernel
theorem dX2_add_22 : decode cX2_add 22 = .ok (.iload 4, 2) := by decide +kernel
theorem dX2_add_24 : decode cX2_add 24 = .ok (.iconst 1, 1) := by decide +kernel
theorem dX2_add_25 : decode cX2_add 25 = .ok (.isub, 1) := by decide +kernel
theorem dX2_add_26 : decode cX2_add 26 = .ok (.iload_n 1, 1) := by decide +kernel
theorem dX2_add_27 : decode cX2_add 27 = .ok (.iload_n 3, 1) := by decide +kernel
theorem dX2_add_28 : decode cX2_add 28 = .ok (.invokevirtual 26, 3) := by decide +kernel
theorem dX2_add_31 : decode cX2_add 31 = .ok (.ifCond .eq 57, 3) := by decide +kernel
theorem dX2_add_34 : decode cX2_add 34 = .ok (.aload_n 0, 1) := by decide +kernel
theorem dX2_add_35 : decode cX2_add 35 = .ok (.getfield 9, 3) := by decide +kernel
theorem dX2_add_38 : decode cX2_add 38 = .ok (.iload 4, 2) := by decide +kernel
theorem dX2_add_40 : decode cX2_add 40 = .ok (.aload_n 0, 1) := by decide +kernel
theorem dX2_add_41 : decode cX2_add 41 = .ok (.getfield 9, 3) := by decide +kernel
theorem dX2_add_44 : decode cX2_add 44 = .ok (.iload 4, 2) := by decide +kernel
theorem dX2_add_46 : decode cX2_add 46 = .ok (.iconst 1, 1) := by decide +kernel
theorem dX2_add_47 : decode cX2_add 47 = .ok (.isub, 1) := by decide +kernel
theorem dX2_add_48 : decode cX2_add 48 = .ok (.iaload, 1) := by decide +kernel
theorem dX2_add_49 : decode cX2_add 49 = .ok (.iastore, 1) := by decide +kernel
theorem dX2_add_50 : decode cX2_add 50 = .ok (.aload_n 0, 1) := by decide +kernel
theorem dX2_add_51 : decode cX2_add 51 = .ok (.getfield 15, 3) := by decide +kernel
theorem dX2_add_54 : decode cX2_add 54 = .ok (.iload 4, 2) := by decide +kernel
theorem dX2_add_56 : decode cX2_add 56 = .ok (.aload_n 0, 1) := by decide +kernel
theorem dX2_add_57 : decode cX2_add 57 = .ok (.getfield 15, 3) := by decide +kernel
theorem dX2_add_60 : decode cX2_add 60 = .ok (.iload 4, 2) := by decide +kernel
theorem dX2_add_62 : decode cX2_add 62 = .ok (.iconst 1, 1) := by decide +kernel
theorem dX2_add_63 : decode cX2_add 63 = .ok (.isub, 1) := by decide +kernel
theorem dX2_add_64 : decode cX2_add 64 = .ok (.iaload, 1) := by decide +kernel
theorem dX2_add_65 : decode cX2_add 65 = .ok (.iastore, 1) := by decide +kernel
theorem dX2_add_66 : decode cX2_add 66 = .ok (.aload_n 0, 1) := by decide +kernel
theorem dX2_add_67 : decode cX2_add 67 = .ok (.getfield 18, 3) := by decide +kernel
theorem dX2_add_70 : decode cX2_add 70 = .ok (.iload 4, 2) := by decide +kernel
theorem dX2_add_72 : decode cX2_add 72 = .ok (.aload_n 0, 1) := by decide +kernel
theorem dX2_add_73 : decode cX2_add 73 = .ok (.getfield 18, 3) := by decide +kernel
theorem dX2_add_76 : decode cX2_add 76 = .ok (.iload 4, 2) := by decide +kernel
theorem dX2_add_78 : decode cX2_add 78 = .ok (.iconst 1, 1) := by decide +kernel
theorem dX2_add_79 : decode cX2_add 79 = .ok (.isub, 1) := by decide +kernel
theorem dX2_add_80 : decode cX2_add 80 = .ok (.iaload, 1) := by decide +kernel
theorem dX2_add_81 : decode cX2_add 81 = .ok (.iastore, 1) := by decide +kernel
theorem dX2_add_82 : decode cX2_add 82 = .ok (.iinc 4 (-1), 3) := by decide +kernel
theorem dX2_add_85 : decode cX2_add 85 = .ok (.goto (-69), 3) := by decide +kernel
theorem dX2_add_88 : decode cX2_add 88 = .ok (.aload_n 0, 1) := by decide +kernel
theorem dX2_add_89 : decode cX2_add 89 = .ok (.getfield 9, 3) := by decide +kernel
theorem dX2_add_92 : decode cX2_add 92 = .ok (.iload 4, 2) := by decide +kernel
theorem dX2_add_94 : decode cX2_add 94 = .ok (.iload_n 1, 1) := by decide +kernel
theorem dX2_add_95 : decode cX2_add 95 = .ok (.iastore, 1) := by decide +kernel
theorem dX2_add_96 : decode cX2_add 96 = .ok (.aload_n 0, 1) := by decide +kernel
theorem dX2_add_97 : decode cX2_add 97 = .ok (.getfield 15, 3) := by decide +kernel
theorem dX2_add_100 : decode cX2_add 100 = .ok (.iload 4, 2) := by decide +kernel
theorem dX2_add_102 : decode cX2_add 102 = .ok (.iload_n 2, 1) := by decide +kernel
theorem dX2_add_103 : decode cX2_add 103 = .ok (.iastore, 1) := by decide +kernel
theorem dX2_add_104 : decode cX2_add 104 = .ok (.aload_n 0, 1) := by decide +kernel
theorem dX2_add_105 : decode cX2_add 105 = .ok (.getfield 18, 3) := by decide +kernel
theorem dX2_add_108 : decode cX2_add 108 = .ok (.iload 4, 2) := by decide +kernel
theorem dX2_add_110 : decode cX2_add 110 = .ok (.iload_n 3, 1) := by decide +kernel
theorem dX2_add_111 : decode cX2_add 111 = .ok (.iastore, 1) := by decide +kernel
theorem dX2_add_112 : decode cX2_add 112 = .ok (.aload_n 0, 1) := by decide +kernel
theorem dX2_add_113 : decode cX2_add 113 = .ok (.dup, 1) := by decide +kernel
theorem dX2_add_114 : decode cX2_add 114 = .ok (.getfield 21, 3) := by decide +kernel
theorem dX2_add_117 : decode cX2_add 117 = .ok (.iconst 1, 1) := by decide +kernel
theorem dX2_add_118 : decode cX2_add 118 = .ok (.iadd, 1) := by decide +kernel
theorem dX2_add_119 : decode cX2_add 119 = .ok (.putfield 21, 3) := by decide +kernel
theorem dX2_add_122 : decode cX2_add 122 = .ok (.return_, 1) := by decide +kernel
theorem dX2_isBehind_0 : decode cX2_isBehind 0 = .ok (.aload_n 0, 1) := by decide +kernel
theorem dX2_isBehind_1 : decode cX2_isBehind 1 = .ok (.getfield 9, 3) := by decide +kernel
theorem dX2_isBehind_4 : decode cX2_isBehind 4 = .ok (.iload_n 1, 1) := by decide +kernel
theorem dX2_isBehind_5 : decode cX2_isBehind 5 = .ok (.iaload, 1) := by decide +kernel
theorem dX2_isBehind_6 : decode cX2_isBehind 6 = .ok (.iload_n 2, 1) := by decide +kernel
theorem dX2_isBehind_7 : decode cX2_isBehind 7 = .ok (.if_icmp .gt 23, 3) := by decide +kernel
theorem dX2_isBehind_10 : decode cX2_isBehind 10 = .ok (.aload_n 0, 1) := by decide +kernel
theorem dX2_isBehind_11 : decode cX2_isBehind 11 = .ok (.getfield 9, 3) := by decide +kernel
theorem dX2_isBehind_14 : decode cX2_isBehind 14 = .ok (.iload_n 1, 1) := by decide +kernel
theorem dX2_isBehind_15 : decode cX2_isBehind 15 = .ok (.iaload, 1) := by decide +kernel
theorem dX2_isBehind_16 : decode cX2_isBehind 16 = .ok (.iload_n 2, 1) := by decide +kernel
theorem dX2_isBehind_17 : decode cX2_isBehind 17 = .ok (.if_icmp .ne 17, 3) := by decide +kernel
theorem dX2_isBehind_20 : decode cX2_isBehind 20 = .ok (.aload_n 0, 1) := by decide +kernel
theorem dX2_isBehind_21 : decode cX2_isBehind 21 = .ok (.getfield 18, 3) := by decide +kernel
theorem dX2_isBehind_24 : decode cX2_isBehind 24 = .ok (.iload_n 1, 1) := by decide +kernel
theorem dX2_isBehind_25 : decode cX2_isBehind 25 = .ok (.iaload, 1) := by decide +kernel
theorem dX2_isBehind_26 : decode cX2_isBehind 26 = .ok (.iload_n 3, 1) := by decide +kernel
theorem dX2_isBehind_27 : decode cX2_isBehind 27 = .ok (.if_icmp .le 7, 3) := by decide +kernel
theorem dX2_isBehind_30 : decode cX2_isBehind 30 = .ok (.iconst 1, 1) := by decide +kernel
theorem dX2_isBehind_31 : decode cX2_isBehind 31 = .ok (.goto 4, 3) := by decide +kernel
theorem dX2_isBehind_34 : decode cX2_isBehind 34 = .ok (.iconst 0, 1) := by decide +kernel
theorem dX2_isBehind_35 : decode cX2_isBehind 35 = .ok (.ireturn, 1) := by decide +kernel
theorem dX2_removeFirst_0 : decode cX2_removeFirst 0 = .ok (.aload_n 0, 1) := by decide +kernel
theorem dX2_removeFirst_1 : decode cX2_removeFirst 1 = .ok (.getfield 21, 3) := by decide +kernel
theorem dX2_removeFirst_4 : decode cX2_removeFirst 4 = .ok (.ifCond .ne 4, 3) := by decide +kernel
theorem dX2_removeFirst_7 : decode cX2_removeFirst 7 = .ok (.return_, 1) := by decide +kernel
theorem dX2_removeFirst_8 : decode cX2_removeFirst 8 = .ok (.aload_n 0, 1) := by decide +kernel
theorem dX2_removeFirst_9 : decode cX2_removeFirst 9 = .ok (.dup, 1) := by decide +kernel
theorem dX2_removeFirst_10 : decode cX2_removeFirst 10 = .ok (.getfield 21, 3) := by decide +kernel
theorem dX2_removeFirst_13 : decode cX2_removeFirst 13 = .ok (.iconst 1, 1) := by decide +kernel
theorem dX2_removeFirst_14 : decode cX2_removeFirst 14 = .ok (.isub, 1) := by decide +kernel
theorem dX2_removeFirst_15 : decode cX2_removeFirst 15 = .ok (.putfield 21, 3) := by decide +kernel
theorem dX2_removeFirst_18 : decode cX2_removeFirst 18 = .ok (.aload_n 0, 1) := by decide +kernel
theorem dX2_removeFirst_19 : decode cX2_removeFirst 19 = .ok (.getfield 9, 3) := by decide +kernel
theorem dX2_removeFirst_22 : decode cX2_removeFirst 22 = .ok (.iconst 1, 1) := by decide +kernel
theorem dX2_removeFirst_23 : decode cX2_removeFirst 23 = .ok (.aload_n 0, 1) := by decide +kernel
theorem dX2_removeFirst_24 : decode cX2_removeFirst 24 = .ok (.getfield 9, 3) := by decide +kernel
theorem dX2_removeFirst_27 : decode cX2_removeFirst 27 = .ok (.iconst 0, 1) := by decide +kernel
theorem dX2_removeFirst_28 : decode cX2_removeFirst 28 = .ok (.aload_n 0, 1) := by decide +kernel
theorem dX2_removeFirst_29 : decode cX2_removeFirst 29 = .ok (.getfield 21, 3) := by decide +kernel
theorem dX2_removeFirst_32 : decode cX2_removeFirst 32 = .ok (.invokestatic 30, 3) := by decide +kernel
theorem dX2_removeFirst_35 : decode cX2_removeFirst 35 = .ok (.aload_n 0, 1) := by decide +kernel
theorem dX2_removeFirst_36 : decode cX2_removeFirst 36 = .ok (.getfield 15, 3) := by decide +kernel
theorem dX2_removeFirst_39 : decode cX2_removeFirst 39 = .ok (.iconst 1, 1) := by decide +kernel
theorem dX2_removeFirst_40 : decode cX2_removeFirst 40 = .ok (.aload_n 0, 1) := by decide +kernel
theorem dX2_removeFirst_41 : decode cX2_removeFirst 41 = .ok (.getfield 15, 3) := by decide +kernel
theorem dX2_removeFirst_44 : decode cX2_removeFirst 44 = .ok (.iconst 0, 1) := by decide +kernel
theorem dX2_removeFirst_45 : decode cX2_removeFirst 45 = .ok (.aload_n 0, 1) := by decide +kernel
theorem dX2_removeFirst_46 : decode cX2_removeFirst 46 = .ok (.getfield 21, 3) := by decide +kernel
theorem dX2_removeFirst_49 : decode cX2_removeFirst 49 = .ok (.invokestatic 30, 3) := by decide +kernel
theorem dX2_removeFirst_52 : decode cX2_removeFirst 52 = .ok (.aload_n 0, 1) := by decide +kernel
theorem dX2_removeFirst_53 : decode cX2_removeFirst 53 = .ok (.getfield 18, 3) := by decide +kernel
theorem dX2_removeFirst_56 : decode cX2_removeFirst 56 = .ok (.iconst 1, 1) := by decide +kernel
theorem dX2_removeFirst_57 : decode cX2_removeFirst 57 = .ok (.aload_n 0, 1) := by decide +kernel
theorem dX2_removeFirst_58 : decode cX2_removeFirst 58 = .ok (.getfield 18, 3) := by decide +kernel
theorem dX2_removeFirst_61 : decode cX2_removeFirst 61 = .ok (.iconst 0, 1) := by decide +kernel
theorem dX2_removeFirst_62 : decode cX2_removeFirst 62 = .ok (.aload_n 0, 1) := by decide +kernel
theorem dX2_removeFirst_63 : decode cX2_removeFirst 63 = .ok (.getfield 21, 3) := by decide +kernel
theorem dX2_removeFirst_66 : decode cX2_removeFirst 66 = .ok (.invokestatic 30, 3) := by decide +kernel
theorem dX2_removeFirst_69 : decode cX2_removeFirst 69 = .ok (.return_, 1) := by decide +kernel
theorem dX2_copyFrom_0 : decode cX2_copyFrom 0 = .ok (.aload_n 1, 1) := by decide +kernel
theorem dX2_copyFrom_1 : decode cX2_copyFrom 1 = .ok (.getfield 9, 3) := by decide +kernel
theorem dX2_copyFrom_4 : decode cX2_copyFrom 4 = .ok (.iconst 0, 1) := by decide +kernel
theorem dX2_copyFrom_5 : decode cX2_copyFrom 5 = .ok (.aload_n 0, 1) := by decide +kernel
theorem dX2_copyFrom_6 : decode cX2_copyFrom 6 = .ok (.getfield 9, 3) := by decide +kernel
theorem dX2_copyFrom_9 : decode cX2_copyFrom 9 = .ok (.iconst 0, 1) := by decide +kernel
theorem dX2_copyFrom_10 : decode cX2_copyFrom 10 = .ok (.aload_n 1, 1) := by decide +kernel
theorem dX2_copyFrom_11 : decode cX2_copyFrom 11 = .ok (.getfield 21, 3) := by decide +kernel
theorem dX2_copyFrom_14 : decode cX2_copyFrom 14 = .ok (.invokestatic 30, 3) := by decide +kernel
theorem dX2_copyFrom_17 : decode cX2_copyFrom 17 = .ok (.aload_n 1, 1) := by decide +kernel
theorem dX2_copyFrom_18 : decode cX2_copyFrom 18 = .ok (.getfield 15, 3) := by decide +kernel
theorem dX2_copyFrom_21 : decode cX2_copyFrom 21 = .ok (.iconst 0, 1) := by decide +kernel
theorem dX2_copyFrom_22 : decode cX2_copyFrom 22 = .ok (.aload_n 0, 1) := by decide +kernel
theorem dX2_copyFrom_23 : decode cX2_copyFrom 23 = .ok (.getfield 15, 3) := by decide +kernel
theorem dX2_copyFrom_26 : decode cX2_copyFrom 26 = .ok (.iconst 0, 1) := by decide +kernel
theorem dX2_copyFrom_27 : decode cX2_copyFrom 27 = .ok (.aload_n 1, 1) := by decide +kernel
theorem dX2_copyFrom_28 : decode cX2_copyFrom 28 = .ok (.getfield 21, 3) := by decide +kernel
theorem dX2_copyFrom_31 : decode cX2_copyFrom 31 = .ok (.invokestatic 30, 3) := by decide +kernel
theorem dX2_copyFrom_34 : decode cX2_copyFrom 34 = .ok (.aload_n 1, 1) := by decide +kernel
theorem dX2_copyFrom_35 : decode cX2_copyFrom 35 = .ok (.getfield 18, 3) := by decide +kernel
theorem dX2_copyFrom_38 : decode cX2_copyFrom 38 = .ok (.iconst 0, 1) := by decide +kernel
theorem dX2_copyFrom_39 : decode cX2_copyFrom 39 = .ok (.aload_n 0, 1) := by decide +kernel
theorem dX2_copyFrom_40 : decode cX2_copyFrom 40 = .ok (.getfield 18, 3) := by decide +kernel
theorem dX2_copyFrom_43 : decode cX2_copyFrom 43 = .ok (.iconst 0, 1) := by decide +kernel
theorem dX2_copyFrom_44 : decode cX2_copyFrom 44 = .ok (.aload_n 1, 1) := by decide +kernel
theorem dX2_copyFrom_45 : decode cX2_copyFrom 45 = .ok (.getfield 21, 3) := by decide +kernel
theorem dX2_copyFrom_48 : decode cX2_copyFrom 48 = .ok (.invokestatic 30, 3) := by decide +kernel
theorem dX2_copyFrom_51 : decode cX2_copyFrom 51 = .ok (.aload_n 0, 1) := by decide +kernel
theorem dX2_copyFrom_52 : decode cX2_copyFrom 52 = .ok (.aload_n 1, 1) := by decide +kernel
theorem dX2_copyFrom_53 : decode cX2_copyFrom 53 = .ok (.getfield 21, 3) := by decide +kernel
theorem dX2_copyFrom_56 : decode cX2_copyFrom 56 = .ok (.putfield 21, 3) := by decide +kernel
theorem dX2_copyFrom_59 : decode cX2_copyFrom 59 = .ok (.return_, 1) := by decide +kernel
