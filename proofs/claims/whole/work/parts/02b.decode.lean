theorem dX3_init_0 : decode cX3_init 0 = .ok (.aload_n 0, 1) := by decide +kernel
theorem dX3_init_1 : decode cX3_init 1 = .ok (.invokespecial 3, 3) := by decide +kernel
theorem dX3_init_4 : decode cX3_init 4 = .ok (.aload_n 0, 1) := by decide +kernel
theorem dX3_init_5 : decode cX3_init 5 = .ok (.new 9, 3) := by decide +kernel
theorem dX3_init_8 : decode cX3_init 8 = .ok (.dup, 1) := by decide +kernel
theorem dX3_init_9 : decode cX3_init 9 = .ok (.invokespecial 11, 3) := by decide +kernel
theorem dX3_init_12 : decode cX3_init 12 = .ok (.putfield 12, 3) := by decide +kernel
theorem dX3_init_15 : decode cX3_init 15 = .ok (.aload_n 0, 1) := by decide +kernel
theorem dX3_init_16 : decode cX3_init 16 = .ok (.bipush 6, 2) := by decide +kernel
theorem dX3_init_18 : decode cX3_init 18 = .ok (.anewarray 18, 3) := by decide +kernel
theorem dX3_init_21 : decode cX3_init 21 = .ok (.putfield 20, 3) := by decide +kernel
theorem dX3_init_24 : decode cX3_init 24 = .ok (.aload_n 0, 1) := by decide +kernel
theorem dX3_init_25 : decode cX3_init 25 = .ok (.bipush 6, 2) := by decide +kernel
theorem dX3_init_27 : decode cX3_init 27 = .ok (.newarray .int, 2) := by decide +kernel
theorem dX3_init_29 : decode cX3_init 29 = .ok (.putfield 24, 3) := by decide +kernel
theorem dX3_init_32 : decode cX3_init 32 = .ok (.aload_n 0, 1) := by decide +kernel
theorem dX3_init_33 : decode cX3_init 33 = .ok (.bipush 6, 2) := by decide +kernel
theorem dX3_init_35 : decode cX3_init 35 = .ok (.newarray .int, 2) := by decide +kernel
theorem dX3_init_37 : decode cX3_init 37 = .ok (.putfield 28, 3) := by decide +kernel
theorem dX3_init_40 : decode cX3_init 40 = .ok (.aload_n 0, 1) := by decide +kernel
theorem dX3_init_41 : decode cX3_init 41 = .ok (.bipush 6, 2) := by decide +kernel
theorem dX3_init_43 : decode cX3_init 43 = .ok (.newarray .int, 2) := by decide +kernel
theorem dX3_init_45 : decode cX3_init 45 = .ok (.putfield 31, 3) := by decide +kernel
theorem dX3_init_48 : decode cX3_init 48 = .ok (.aload_n 0, 1) := by decide +kernel
theorem dX3_init_49 : decode cX3_init 49 = .ok (.iconst 0, 1) := by decide +kernel
theorem dX3_init_50 : decode cX3_init 50 = .ok (.putfield 34, 3) := by decide +kernel
theorem dX3_init_53 : decode cX3_init 53 = .ok (.iconst 0, 1) := by decide +kernel
theorem dX3_init_54 : decode cX3_init 54 = .ok (.istore_n 1, 1) := by decide +kernel
theorem dX3_init_55 : decode cX3_init 55 = .ok (.iload_n 1, 1) := by decide +kernel
theorem dX3_init_56 : decode cX3_init 56 = .ok (.bipush 6, 2) := by decide +kernel
theorem dX3_init_58 : decode cX3_init 58 = .ok (.if_icmp .ge 22, 3) := by decide +kernel
theorem dX3_init_61 : decode cX3_init 61 = .ok (.aload_n 0, 1) := by decide +kernel
theorem dX3_init_62 : decode cX3_init 62 = .ok (.getfield 20, 3) := by decide +kernel
theorem dX3_init_65 : decode cX3_init 65 = .ok (.iload_n 1, 1) := by decide +kernel
theorem dX3_init_66 : decode cX3_init 66 = .ok (.new 18, 3) := by decide +kernel
theorem dX3_init_69 : decode cX3_init 69 = .ok (.dup, 1) := by decide +kernel
theorem dX3_init_70 : decode cX3_init 70 = .ok (.invokespecial 38, 3) := by decide +kernel
theorem dX3_init_73 : decode cX3_init 73 = .ok (.aastore, 1) := by decide +kernel
theorem dX3_init_74 : decode cX3_init 74 = .ok (.iinc 1 1, 3) := by decide +kernel
theorem dX3_init_77 : decode cX3_init 77 = .ok (.goto (-22), 3) := by decide +kernel
theorem dX3_init_80 : decode cX3_init 80 = .ok (.return_, 1) := by decide +kernel
theorem dX3_beginAnew_0 : decode cX3_beginAnew 0 = .ok (.aload_n 0, 1) := by decide +kernel
theorem dX3_beginAnew_1 : decode cX3_beginAnew 1 = .ok (.getfield 12, 3) := by decide +kernel
theorem dX3_beginAnew_4 : decode cX3_beginAnew 4 = .ok (.iconst 0, 1) := by decide +kernel
theorem dX3_beginAnew_5 : decode cX3_beginAnew 5 = .ok (.putfield 39, 3) := by decide +kernel
theorem dX3_beginAnew_8 : decode cX3_beginAnew 8 = .ok (.iconst 0, 1) := by decide +kernel
theorem dX3_beginAnew_9 : decode cX3_beginAnew 9 = .ok (.istore_n 2, 1) := by decide +kernel
theorem dX3_beginAnew_10 : decode cX3_beginAnew 10 = .ok (.iload_n 2, 1) := by decide +kernel
theorem dX3_beginAnew_11 : decode cX3_beginAnew 11 = .ok (.bipush 6, 2) := by decide +kernel
theorem dX3_beginAnew_13 : decode cX3_beginAnew 13 = .ok (.if_icmp .ge 40, 3) := by decide +kernel
theorem dX3_beginAnew_16 : decode cX3_beginAnew 16 = .ok (.aload_n 0, 1) := by decide +kernel
theorem dX3_beginAnew_17 : decode cX3_beginAnew 17 = .ok (.getfield 20, 3) := by decide +kernel
theorem dX3_beginAnew_20 : decode cX3_beginAnew 20 = .ok (.iload_n 2, 1) := by decide +kernel
theorem dX3_beginAnew_21 : decode cX3_beginAnew 21 = .ok (.aaload, 1) := by decide +kernel
theorem dX3_beginAnew_22 : decode cX3_beginAnew 22 = .ok (.iconst 0, 1) := by decide +kernel
theorem dX3_beginAnew_23 : decode cX3_beginAnew 23 = .ok (.putfield 42, 3) := by decide +kernel
theorem dX3_beginAnew_26 : decode cX3_beginAnew 26 = .ok (.aload_n 0, 1) := by decide +kernel
theorem dX3_beginAnew_27 : decode cX3_beginAnew 27 = .ok (.getfield 24, 3) := by decide +kernel
theorem dX3_beginAnew_30 : decode cX3_beginAnew 30 = .ok (.iload_n 2, 1) := by decide +kernel
theorem dX3_beginAnew_31 : decode cX3_beginAnew 31 = .ok (.iconst 0, 1) := by decide +kernel
theorem dX3_beginAnew_32 : decode cX3_beginAnew 32 = .ok (.iastore, 1) := by decide +kernel
theorem dX3_beginAnew_33 : decode cX3_beginAnew 33 = .ok (.aload_n 0, 1) := by decide +kernel
theorem dX3_beginAnew_34 : decode cX3_beginAnew 34 = .ok (.getfield 28, 3) := by decide +kernel
theorem dX3_beginAnew_37 : decode cX3_beginAnew 37 = .ok (.iload_n 2, 1) := by decide +kernel
theorem dX3_beginAnew_38 : decode cX3_beginAnew 38 = .ok (.iconst 0, 1) := by decide +kernel
theorem dX3_beginAnew_39 : decode cX3_beginAnew 39 = .ok (.iastore, 1) := by decide +kernel
theorem dX3_beginAnew_40 : decode cX3_beginAnew 40 = .ok (.aload_n 0, 1) := by decide +kernel
theorem dX3_beginAnew_41 : decode cX3_beginAnew 41 = .ok (.getfield 31, 3) := by decide +kernel
theorem dX3_beginAnew_44 : decode cX3_beginAnew 44 = .ok (.iload_n 2, 1) := by decide +kernel
theorem dX3_beginAnew_45 : decode cX3_beginAnew 45 = .ok (.iconst 0, 1) := by decide +kernel
theorem dX3_beginAnew_46 : decode cX3_beginAnew 46 = .ok (.iastore, 1) := by decide +kernel
theorem dX3_beginAnew_47 : decode cX3_beginAnew 47 = .ok (.iinc 2 1, 3) := by decide +kernel
theorem dX3_beginAnew_50 : decode cX3_beginAnew 50 = .ok (.goto (-40), 3) := by decide +kernel
theorem dX3_beginAnew_53 : decode cX3_beginAnew 53 = .ok (.aload_n 0, 1) := by decide +kernel
theorem dX3_beginAnew_54 : decode cX3_beginAnew 54 = .ok (.iload_n 1, 1) := by decide +kernel
theorem dX3_beginAnew_55 : decode cX3_beginAnew 55 = .ok (.putfield 43, 3) := by decide +kernel
theorem dX3_beginAnew_58 : decode cX3_beginAnew 58 = .ok (.aload_n 0, 1) := by decide +kernel
theorem dX3_beginAnew_59 : decode cX3_beginAnew 59 = .ok (.iconst 0, 1) := by decide +kernel
theorem dX3_beginAnew_60 : decode cX3_beginAnew 60 = .ok (.putfield 46, 3) := by decide +kernel
theorem dX3_beginAnew_63 : decode cX3_beginAnew 63 = .ok (.aload_n 0, 1) := by decide +kernel
theorem dX3_beginAnew_64 : decode cX3_beginAnew 64 = .ok (.iconst 0, 1) := by decide +kernel
theorem dX3_beginAnew_65 : decode cX3_beginAnew 65 = .ok (.putfield 49, 3) := by decide +kernel
theorem dX3_beginAnew_68 : decode cX3_beginAnew 68 = .ok (.aload_n 0, 1) := by decide +kernel
theorem dX3_beginAnew_69 : decode cX3_beginAnew 69 = .ok (.iconst 0, 1) := by decide +kernel
theorem dX3_beginAnew_70 : decode cX3_beginAnew 70 = .ok (.putfield 52, 3) := by decide +kernel
theorem dX3_beginAnew_73 : decode cX3_beginAnew 73 = .ok (.aload_n 0, 1) := by decide +kernel
theorem dX3_beginAnew_74 : decode cX3_beginAnew 74 = .ok (.iconst 0, 1) := by decide +kernel
theorem dX3_beginAnew_75 : decode cX3_beginAnew 75 = .ok (.putfield 55, 3) := by decide +kernel
theorem dX3_beginAnew_78 : decode cX3_beginAnew 78 = .ok (.aload_n 0, 1) := by decide +kernel
theorem dX3_beginAnew_79 : decode cX3_beginAnew 79 = .ok (.iconst 0, 1) := by decide +kernel
theorem dX3_beginAnew_80 : decode cX3_beginAnew 80 = .ok (.putfield 58, 3) := by decide +kernel
theorem dX3_beginAnew_83 : decode cX3_beginAnew 83 = .ok (.return_, 1) := by decide +kernel
theorem dX3_copyFrom_0 : decode cX3_copyFrom 0 = .ok (.aload_n 0, 1) := by decide +kernel
theorem dX3_copyFrom_1 : decode cX3_copyFrom 1 = .ok (.getfield 12, 3) := by decide +kernel
theorem dX3_copyFrom_4 : decode cX3_copyFrom 4 = .ok (.aload_n 1, 1) := by decide +kernel
theorem dX3_copyFrom_5 : decode cX3_copyFrom 5 = .ok (.getfield 12, 3) := by decide +kernel
theorem dX3_copyFrom_8 : decode cX3_copyFrom 8 = .ok (.invokevirtual 61, 3) := by decide +kernel
theorem dX3_copyFrom_11 : decode cX3_copyFrom 11 = .ok (.iconst 0, 1) := by decide +kernel
theorem dX3_copyFrom_12 : decode cX3_copyFrom 12 = .ok (.istore_n 2, 1) := by decide +kernel
theorem dX3_copyFrom_13 : decode cX3_copyFrom 13 = .ok (.iload_n 2, 1) := by decide +kernel
theorem dX3_copyFrom_14 : decode cX3_copyFrom 14 = .ok (.bipush 6, 2) := by decide +kernel
theorem dX3_copyFrom_16 : decode cX3_copyFrom 16 = .ok (.if_icmp .ge 60, 3) := by decide +kernel
theorem dX3_copyFrom_19 : decode cX3_copyFrom 19 = .ok (.aload_n 0, 1) := by decide +kernel
theorem dX3_copyFrom_20 : decode cX3_copyFrom 20 = .ok (.getfield 20, 3) := by decide +kernel
theorem dX3_copyFrom_23 : decode cX3_copyFrom 23 = .ok (.iload_n 2, 1) := by decide +kernel
theorem dX3_copyFrom_24 : decode cX3_copyFrom 24 = .ok (.aaload, 1) := by decide +kernel
theorem dX3_copyFrom_25 : decode cX3_copyFrom 25 = .ok (.aload_n 1, 1) := by decide +kernel
theorem dX3_copyFrom_26 : decode cX3_copyFrom 26 = .ok (.getfield 20, 3) := by decide +kernel
theorem dX3_copyFrom_29 : decode cX3_copyFrom 29 = .ok (.iload_n 2, 1) := by decide +kernel
theorem dX3_copyFrom_30 : decode cX3_copyFrom 30 = .ok (.aaload, 1) := by decide +kernel
theorem dX3_copyFrom_31 : decode cX3_copyFrom 31 = .ok (.invokevirtual 65, 3) := by decide +kernel
theorem dX3_copyFrom_34 : decode cX3_copyFrom 34 = .ok (.aload_n 0, 1) := by decide +kernel
theorem dX3_copyFrom_35 : decode cX3_copyFrom 35 = .ok (.getfield 24, 3) := by decide +kernel
theorem dX3_copyFrom_38 : decode cX3_copyFrom 38 = .ok (.iload_n 2, 1) := by decide +kernel
theorem dX3_copyFrom_39 : decode cX3_copyFrom 39 = .ok (.aload_n 1, 1) := by decide +kernel
theorem dX3_copyFrom_40 : decode cX3_copyFrom 40 = .ok (.getfield 24, 3) := by decide +kernel
theorem dX3_copyFrom_43 : decode cX3_copyFrom 43 = .ok (.iload_n 2, 1) := by decide +kernel
theorem dX3_copyFrom_44 : decode cX3_copyFrom 44 = .ok (.iaload, 1) := by decide +kernel
theorem dX3_copyFrom_45 : decode cX3_copyFrom 45 = .ok (.iastore, 1) := by decide +kernel
theorem dX3_copyFrom_46 : decode cX3_copyFrom 46 = .ok (.aload_n 0, 1) := by decide +kernel
theorem dX3_copyFrom_47 : decode cX3_copyFrom 47 = .ok (.getfield 28, 3) := by decide +kernel
theorem dX3_copyFrom_50 : decode cX3_copyFrom 50 = .ok (.iload_n 2, 1) := by decide +kernel
theorem dX3_copyFrom_51 : decode cX3_copyFrom 51 = .ok (.aload_n 1, 1) := by decide +kernel
theorem dX3_copyFrom_52 : decode cX3_copyFrom 52 = .ok (.getfield 28, 3) := by decide +kernel
theorem dX3_copyFrom_55 : decode cX3_copyFrom 55 = .ok (.iload_n 2, 1) := by decide +kernel
theorem dX3_copyFrom_56 : decode cX3_copyFrom 56 = .ok (.iaload, 1) := by decide +kernel
theorem dX3_copyFrom_57 : decode cX3_copyFrom 57 = .ok (.iastore, 1) := by decide +kernel
theorem dX3_copyFrom_58 : decode cX3_copyFrom 58 = .ok (.aload_n 0, 1) := by decide +kernel
theorem dX3_copyFrom_59 : decode cX3_copyFrom 59 = .ok (.getfield 31, 3) := by decide +kernel
theorem dX3_copyFrom_62 : decode cX3_copyFrom 62 = .ok (.iload_n 2, 1) := by decide +kernel
theorem dX3_copyFrom_63 : decode cX3_copyFrom 63 = .ok (.aload_n 1, 1) := by decide +kernel
theorem dX3_copyFrom_64 : decode cX3_copyFrom 64 = .ok (.getfield 31, 3) := by decide +kernel
theorem dX3_copyFrom_67 : decode cX3_copyFrom 67 = .ok (.iload_n 2, 1) := by decide +kernel
theorem dX3_copyFrom_68 : decode cX3_copyFrom 68 = .ok (.iaload, 1) := by decide +kernel
theorem dX3_copyFrom_69 : decode cX3_copyFrom 69 = .ok (.iastore, 1) := by decide +kernel
theorem dX3_copyFrom_70 : decode cX3_copyFrom 70 = .ok (.iinc 2 1, 3) := by decide +kernel
theorem dX3_copyFrom_73 : decode cX3_copyFrom 73 = .ok (.goto (-60), 3) := by decide +kernel
theorem dX3_copyFrom_76 : decode cX3_copyFrom 76 = .ok (.aload_n 0, 1) := by decide +kernel
theorem dX3_copyFrom_77 : decode cX3_copyFrom 77 = .ok (.aload_n 1, 1) := by decide +kernel
theorem dX3_copyFrom_78 : decode cX3_copyFrom 78 = .ok (.getfield 43, 3) := by decide +kernel
theorem dX3_copyFrom_81 : decode cX3_copyFrom 81 = .ok (.putfield 43, 3) := by decide +kernel
theorem dX3_copyFrom_84 : decode cX3_copyFrom 84 = .ok (.aload_n 0, 1) := by decide +kernel
theorem dX3_copyFrom_85 : decode cX3_copyFrom 85 = .ok (.aload_n 1, 1) := by decide +kernel
theorem dX3_copyFrom_86 : decode cX3_copyFrom 86 = .ok (.getfield 34, 3) := by decide +kernel
theorem dX3_copyFrom_89 : decode cX3_copyFrom 89 = .ok (.putfield 34, 3) := by decide +kernel
theorem dX3_copyFrom_92 : decode cX3_copyFrom 92 = .ok (.aload_n 0, 1) := by decide +kernel
theorem dX3_copyFrom_93 : decode cX3_copyFrom 93 = .ok (.aload_n 1, 1) := by decide +kernel
theorem dX3_copyFrom_94 : decode cX3_copyFrom 94 = .ok (.getfield 46, 3) := by decide +kernel
theorem dX3_copyFrom_97 : decode cX3_copyFrom 97 = .ok (.putfield 46, 3) := by decide +kernel
theorem dX3_copyFrom_100 : decode cX3_copyFrom 100 = .ok (.aload_n 0, 1) := by decide +kernel
theorem dX3_copyFrom_101 : decode cX3_copyFrom 101 = .ok (.aload_n 1, 1) := by decide +kernel
theorem dX3_copyFrom_102 : decode cX3_copyFrom 102 = .ok (.getfield 49, 3) := by decide +kernel
theorem dX3_copyFrom_105 : decode cX3_copyFrom 105 = .ok (.putfield 49, 3) := by decide +kernel
theorem dX3_copyFrom_108 : decode cX3_copyFrom 108 = .ok (.aload_n 0, 1) := by decide +kernel
theorem dX3_copyFrom_109 : decode cX3_copyFrom 109 = .ok (.aload_n 1, 1) := by decide +kernel
theorem dX3_copyFrom_110 : decode cX3_copyFrom 110 = .ok (.getfield 52, 3) := by decide +kernel
theorem dX3_copyFrom_113 : decode cX3_copyFrom 113 = .ok (.putfield 52, 3) := by decide +kernel
theorem dX3_copyFrom_116 : decode cX3_copyFrom 116 = .ok (.aload_n 0, 1) := by decide +kernel
theorem dX3_copyFrom_117 : decode cX3_copyFrom 117 = .ok (.aload_n 1, 1) := by decide +kernel
theorem dX3_copyFrom_118 : decode cX3_copyFrom 118 = .ok (.getfield 55, 3) := by decide +kernel
theorem dX3_copyFrom_121 : decode cX3_copyFrom 121 = .ok (.putfield 55, 3) := by decide +kernel
theorem dX3_copyFrom_124 : decode cX3_copyFrom 124 = .ok (.aload_n 0, 1) := by decide +kernel
theorem dX3_copyFrom_125 : decode cX3_copyFrom 125 = .ok (.aload_n 1, 1) := by decide +kernel
theorem dX3_copyFrom_126 : decode cX3_copyFrom 126 = .ok (.getfield 58, 3) := by decide +kernel
theorem dX3_copyFrom_129 : decode cX3_copyFrom 129 = .ok (.putfield 58, 3) := by decide +kernel
theorem dX3_copyFrom_132 : decode cX3_copyFrom 132 = .ok (.return_, 1) := by decide +kernel
theorem dX3_roundsAndLetGo_0 : decode cX3_roundsAndLetGo 0 = .ok (.aload_n 0, 1) := by decide +kernel
theorem dX3_roundsAndLetGo_1 : decode cX3_roundsAndLetGo 1 = .ok (.getfield 52, 3) := by decide +kernel
theorem dX3_roundsAndLetGo_4 : decode cX3_roundsAndLetGo 4 = .ok (.aload_n 0, 1) := by decide +kernel
theorem dX3_roundsAndLetGo_5 : decode cX3_roundsAndLetGo 5 = .ok (.getfield 55, 3) := by decide +kernel
theorem dX3_roundsAndLetGo_8 : decode cX3_roundsAndLetGo 8 = .ok (.iadd, 1) := by decide +kernel
theorem dX3_roundsAndLetGo_9 : decode cX3_roundsAndLetGo 9 = .ok (.ireturn, 1) := by decide +kernel
theorem dX3_eventsThatWait_0 : decode cX3_eventsThatWait 0 = .ok (.iconst 0, 1) := by decide +kernel
theorem dX3_eventsThatWait_1 : decode cX3_eventsThatWait 1 = .ok (.istore_n 1, 1) := by decide +kernel
theorem dX3_eventsThatWait_2 : decode cX3_eventsThatWait 2 = .ok (.iconst 0, 1) := by decide +kernel
theorem dX3_eventsThatWait_3 : decode cX3_eventsThatWait 3 = .ok (.istore_n 2, 1) := by decide +kernel
theorem dX3_eventsThatWait_4 : decode cX3_eventsThatWait 4 = .ok (.iload_n 2, 1) := by decide +kernel
theorem dX3_eventsThatWait_5 : decode cX3_eventsThatWait 5 = .ok (.aload_n 0, 1) := by decide +kernel
theorem dX3_eventsThatWait_6 : decode cX3_eventsThatWait 6 = .ok (.getfield 43, 3) := by decide +kernel
theorem dX3_eventsThatWait_9 : decode cX3_eventsThatWait 9 = .ok (.if_icmp .ge 21, 3) := by decide +kernel
theorem dX3_eventsThatWait_12 : decode cX3_eventsThatWait 12 = .ok (.iload_n 1, 1) := by decide +kernel
theorem dX3_eventsThatWait_13 : decode cX3_eventsThatWait 13 = .ok (.aload_n 0, 1) := by decide +kernel
theorem dX3_eventsThatWait_14 : decode cX3_eventsThatWait 14 = .ok (.getfield 20, 3) := by decide +kernel
theorem dX3_eventsThatWait_17 : decode cX3_eventsThatWait 17 = .ok (.iload_n 2, 1) := by decide +kernel
theorem dX3_eventsThatWait_18 : decode cX3_eventsThatWait 18 = .ok (.aaload, 1) := by decide +kernel
theorem dX3_eventsThatWait_19 : decode cX3_eventsThatWait 19 = .ok (.getfield 42, 3) := by decide +kernel
theorem dX3_eventsThatWait_22 : decode cX3_eventsThatWait 22 = .ok (.iadd, 1) := by decide +kernel
theorem dX3_eventsThatWait_23 : decode cX3_eventsThatWait 23 = .ok (.istore_n 1, 1) := by decide +kernel
theorem dX3_eventsThatWait_24 : decode cX3_eventsThatWait 24 = .ok (.iinc 2 1, 3) := by decide +kernel
theorem dX3_eventsThatWait_27 : decode cX3_eventsThatWait 27 = .ok (.goto (-23), 3) := by decide +kernel
theorem dX3_eventsThatWait_30 : decode cX3_eventsThatWait 30 = .ok (.iload_n 1, 1) := by decide +kernel
theorem dX3_eventsThatWait_31 : decode cX3_eventsThatWait 31 = .ok (.ireturn, 1) := by decide +kernel
theorem dX3_partOfLeastTime_0 : decode cX3_partOfLeastTime 0 = .ok (.iconst 0, 1) := by decide +kernel
theorem dX3_partOfLeastTime_1 : decode cX3_partOfLeastTime 1 = .ok (.istore_n 1, 1) := by decide +kernel
theorem dX3_partOfLeastTime_2 : decode cX3_partOfLeastTime 2 = .ok (.iconst 1, 1) := by decide +kernel
theorem dX3_partOfLeastTime_3 : decode cX3_partOfLeastTime 3 = .ok (.istore_n 2, 1) := by decide +kernel
theorem dX3_partOfLeastTime_4 : decode cX3_partOfLeastTime 4 = .ok (.iload_n 2, 1) := by decide +kernel
theorem dX3_partOfLeastTime_5 : decode cX3_partOfLeastTime 5 = .ok (.aload_n 0, 1) := by decide +kernel
theorem dX3_partOfLeastTime_6 : decode cX3_partOfLeastTime 6 = .ok (.getfield 43, 3) := by decide +kernel
theorem dX3_partOfLeastTime_9 : decode cX3_partOfLeastTime 9 = .ok (.if_icmp .ge 32, 3) := by decide +kernel
theorem dX3_partOfLeastTime_12 : decode cX3_partOfLeastTime 12 = .ok (.aload_n 0, 1) := by decide +kernel
theorem dX3_partOfLeastTime_13 : decode cX3_partOfLeastTime 13 = .ok (.getfield 20, 3) := by decide +kernel
theorem dX3_partOfLeastTime_16 : decode cX3_partOfLeastTime 16 = .ok (.iload_n 2, 1) := by decide +kernel
theorem dX3_partOfLeastTime_17 : decode cX3_partOfLeastTime 17 = .ok (.aaload, 1) := by decide +kernel
theorem dX3_partOfLeastTime_18 : decode cX3_partOfLeastTime 18 = .ok (.invokevirtual 68, 3) := by decide +kernel
theorem dX3_partOfLeastTime_21 : decode cX3_partOfLeastTime 21 = .ok (.aload_n 0, 1) := by decide +kernel
theorem dX3_partOfLeastTime_22 : decode cX3_partOfLeastTime 22 = .ok (.getfield 20, 3) := by decide +kernel
theorem dX3_partOfLeastTime_25 : decode cX3_partOfLeastTime 25 = .ok (.iload_n 1, 1) := by decide +kernel
theorem dX3_partOfLeastTime_26 : decode cX3_partOfLeastTime 26 = .ok (.aaload, 1) := by decide +kernel
theorem dX3_partOfLeastTime_27 : decode cX3_partOfLeastTime 27 = .ok (.invokevirtual 68, 3) := by decide +kernel
theorem dX3_partOfLeastTime_30 : decode cX3_partOfLeastTime 30 = .ok (.if_icmp .ge 5, 3) := by decide +kernel
theorem dX3_partOfLeastTime_33 : decode cX3_partOfLeastTime 33 = .ok (.iload_n 2, 1) := by decide +kernel
theorem dX3_partOfLeastTime_34 : decode cX3_partOfLeastTime 34 = .ok (.istore_n 1, 1) := by decide +kernel
theorem dX3_partOfLeastTime_35 : decode cX3_partOfLeastTime 35 = .ok (.iinc 2 1, 3) := by decide +kernel
theorem dX3_partOfLeastTime_38 : decode cX3_partOfLeastTime 38 = .ok (.goto (-34), 3) := by decide +kernel
theorem dX3_partOfLeastTime_41 : decode cX3_partOfLeastTime 41 = .ok (.iload_n 1, 1) := by decide +kernel
theorem dX3_partOfLeastTime_42 : decode cX3_partOfLeastTime 42 = .ok (.ireturn, 1) := by decide +kernel
theorem dX3_leastTime_0 : decode cX3_leastTime 0 = .ok (.aload_n 0, 1) := by decide +kernel
theorem dX3_leastTime_1 : decode cX3_leastTime 1 = .ok (.getfield 20, 3) := by decide +kernel
theorem dX3_leastTime_4 : decode cX3_leastTime 4 = .ok (.aload_n 0, 1) := by decide +kernel
theorem dX3_leastTime_5 : decode cX3_leastTime 5 = .ok (.invokevirtual 72, 3) := by decide +kernel
theorem dX3_leastTime_8 : decode cX3_leastTime 8 = .ok (.aaload, 1) := by decide +kernel
theorem dX3_leastTime_9 : decode cX3_leastTime 9 = .ok (.invokevirtual 68, 3) := by decide +kernel
theorem dX3_leastTime_12 : decode cX3_leastTime 12 = .ok (.ireturn, 1) := by decide +kernel
theorem dX3_safeOf_0 : decode cX3_safeOf 0 = .ok (.aload_n 0, 1) := by decide +kernel
theorem dX3_safeOf_1 : decode cX3_safeOf 1 = .ok (.getfield 12, 3) := by decide +kernel
theorem dX3_safeOf_4 : decode cX3_safeOf 4 = .ok (.iload_n 1, 1) := by decide +kernel
theorem dX3_safeOf_5 : decode cX3_safeOf 5 = .ok (.invokevirtual 75, 3) := by decide +kernel
theorem dX3_safeOf_8 : decode cX3_safeOf 8 = .ok (.istore_n 2, 1) := by decide +kernel
theorem dX3_safeOf_9 : decode cX3_safeOf 9 = .ok (.iload_n 2, 1) := by decide +kernel
theorem dX3_safeOf_10 : decode cX3_safeOf 10 = .ok (.iconst (-1), 1) := by decide +kernel
theorem dX3_safeOf_11 : decode cX3_safeOf 11 = .ok (.if_icmp .ne 8, 3) := by decide +kernel
theorem dX3_safeOf_14 : decode cX3_safeOf 14 = .ok (.ldc 79, 2) := by decide +kernel
theorem dX3_safeOf_16 : decode cX3_safeOf 16 = .ok (.goto 12, 3) := by decide +kernel
theorem dX3_safeOf_19 : decode cX3_safeOf 19 = .ok (.aload_n 0, 1) := by decide +kernel
theorem dX3_safeOf_20 : decode cX3_safeOf 20 = .ok (.getfield 12, 3) := by decide +kernel
theorem dX3_safeOf_23 : decode cX3_safeOf 23 = .ok (.getfield 80, 3) := by decide +kernel
theorem dX3_safeOf_26 : decode cX3_safeOf 26 = .ok (.iload_n 2, 1) := by decide +kernel
theorem dX3_safeOf_27 : decode cX3_safeOf 27 = .ok (.iaload, 1) := by decide +kernel
theorem dX3_safeOf_28 : decode cX3_safeOf 28 = .ok (.ireturn, 1) := by decide +kernel
theorem dX3_mayWork_0 : decode cX3_mayWork 0 = .ok (.aload_n 0, 1) := by decide +kernel
theorem dX3_mayWork_1 : decode cX3_mayWork 1 = .ok (.getfield 20, 3) := by decide +kernel
theorem dX3_mayWork_4 : decode cX3_mayWork 4 = .ok (.iload_n 1, 1) := by decide +kernel
theorem dX3_mayWork_5 : decode cX3_mayWork 5 = .ok (.aaload, 1) := by decide +kernel
theorem dX3_mayWork_6 : decode cX3_mayWork 6 = .ok (.invokevirtual 68, 3) := by decide +kernel
theorem dX3_mayWork_9 : decode cX3_mayWork 9 = .ok (.aload_n 0, 1) := by decide +kernel
theorem dX3_mayWork_10 : decode cX3_mayWork 10 = .ok (.iload_n 1, 1) := by decide +kernel
theorem dX3_mayWork_11 : decode cX3_mayWork 11 = .ok (.invokevirtual 83, 3) := by decide +kernel
theorem dX3_mayWork_14 : decode cX3_mayWork 14 = .ok (.if_icmp .ge 7, 3) := by decide +kernel
theorem dX3_mayWork_17 : decode cX3_mayWork 17 = .ok (.iconst 1, 1) := by decide +kernel
theorem dX3_mayWork_18 : decode cX3_mayWork 18 = .ok (.goto 4, 3) := by decide +kernel
theorem dX3_mayWork_21 : decode cX3_mayWork 21 = .ok (.iconst 0, 1) := by decide +kernel
theorem dX3_mayWork_22 : decode cX3_mayWork 22 = .ok (.ireturn, 1) := by decide +kernel
theorem dX3_partsThatMay_0 : decode cX3_partsThatMay 0 = .ok (.iconst 0, 1) := by decide +kernel
theorem dX3_partsThatMay_1 : decode cX3_partsThatMay 1 = .ok (.istore_n 1, 1) := by decide +kernel
theorem dX3_partsThatMay_2 : decode cX3_partsThatMay 2 = .ok (.iconst 0, 1) := by decide +kernel
theorem dX3_partsThatMay_3 : decode cX3_partsThatMay 3 = .ok (.istore_n 2, 1) := by decide +kernel
theorem dX3_partsThatMay_4 : decode cX3_partsThatMay 4 = .ok (.iload_n 2, 1) := by decide +kernel
theorem dX3_partsThatMay_5 : decode cX3_partsThatMay 5 = .ok (.aload_n 0, 1) := by decide +kernel
theorem dX3_partsThatMay_6 : decode cX3_partsThatMay 6 = .ok (.getfield 43, 3) := by decide +kernel
theorem dX3_partsThatMay_9 : decode cX3_partsThatMay 9 = .ok (.if_icmp .ge 23, 3) := by decide +kernel
theorem dX3_partsThatMay_12 : decode cX3_partsThatMay 12 = .ok (.aload_n 0, 1) := by decide +kernel
theorem dX3_partsThatMay_13 : decode cX3_partsThatMay 13 = .ok (.iload_n 2, 1) := by decide +kernel
theorem dX3_partsThatMay_14 : decode cX3_partsThatMay 14 = .ok (.invokevirtual 86, 3) := by decide +kernel
theorem dX3_partsThatMay_17 : decode cX3_partsThatMay 17 = .ok (.ifCond .eq 9, 3) := by decide +kernel
theorem dX3_partsThatMay_20 : decode cX3_partsThatMay 20 = .ok (.iload_n 1, 1) := by decide +kernel
theorem dX3_partsThatMay_21 : decode cX3_partsThatMay 21 = .ok (.iconst 1, 1) := by decide +kernel
theorem dX3_partsThatMay_22 : decode cX3_partsThatMay 22 = .ok (.iload_n 2, 1) := by decide +kernel
theorem dX3_partsThatMay_23 : decode cX3_partsThatMay 23 = .ok (.ishl, 1) := by decide +kernel
theorem dX3_partsThatMay_24 : decode cX3_partsThatMay 24 = .ok (.ior, 1) := by decide +kernel
theorem dX3_partsThatMay_25 : decode cX3_partsThatMay 25 = .ok (.istore_n 1, 1) := by decide +kernel
theorem dX3_partsThatMay_26 : decode cX3_partsThatMay 26 = .ok (.iinc 2 1, 3) := by decide +kernel
theorem dX3_partsThatMay_29 : decode cX3_partsThatMay 29 = .ok (.goto (-25), 3) := by decide +kernel
theorem dX3_partsThatMay_32 : decode cX3_partsThatMay 32 = .ok (.iload_n 1, 1) := by decide +kernel
theorem dX3_partsThatMay_33 : decode cX3_partsThatMay 33 = .ok (.ireturn, 1) := by decide +kernel
theorem dX3_channelWaitedFor_0 : decode cX3_channelWaitedFor 0 = .ok (.aload_n 0, 1) := by decide +kernel
theorem dX3_channelWaitedFor_1 : decode cX3_channelWaitedFor 1 = .ok (.getfield 12, 3) := by decide +kernel
theorem dX3_channelWaitedFor_4 : decode cX3_channelWaitedFor 4 = .ok (.iload_n 1, 1) := by decide +kernel
theorem dX3_channelWaitedFor_5 : decode cX3_channelWaitedFor 5 = .ok (.invokevirtual 75, 3) := by decide +kernel
theorem dX3_channelWaitedFor_8 : decode cX3_channelWaitedFor 8 = .ok (.istore_n 2, 1) := by decide +kernel
theorem dX3_channelWaitedFor_9 : decode cX3_channelWaitedFor 9 = .ok (.iload_n 2, 1) := by decide +kernel
theorem dX3_channelWaitedFor_10 : decode cX3_channelWaitedFor 10 = .ok (.iconst (-1), 1) := by decide +kernel
theorem dX3_channelWaitedFor_11 : decode cX3_channelWaitedFor 11 = .ok (.if_icmp .eq 36, 3) := by decide +kernel
theorem dX3_channelWaitedFor_14 : decode cX3_channelWaitedFor 14 = .ok (.aload_n 0, 1) := by decide +kernel
theorem dX3_channelWaitedFor_15 : decode cX3_channelWaitedFor 15 = .ok (.getfield 20, 3) := by decide +kernel
theorem dX3_channelWaitedFor_18 : decode cX3_channelWaitedFor 18 = .ok (.iload_n 1, 1) := by decide +kernel
theorem dX3_channelWaitedFor_19 : decode cX3_channelWaitedFor 19 = .ok (.aaload, 1) := by decide +kernel
theorem dX3_channelWaitedFor_20 : decode cX3_channelWaitedFor 20 = .ok (.getfield 42, 3) := by decide +kernel
theorem dX3_channelWaitedFor_23 : decode cX3_channelWaitedFor 23 = .ok (.ifCond .eq 24, 3) := by decide +kernel
theorem dX3_channelWaitedFor_26 : decode cX3_channelWaitedFor 26 = .ok (.aload_n 0, 1) := by decide +kernel
theorem dX3_channelWaitedFor_27 : decode cX3_channelWaitedFor 27 = .ok (.getfield 20, 3) := by decide +kernel
theorem dX3_channelWaitedFor_30 : decode cX3_channelWaitedFor 30 = .ok (.iload_n 1, 1) := by decide +kernel
theorem dX3_channelWaitedFor_31 : decode cX3_channelWaitedFor 31 = .ok (.aaload, 1) := by decide +kernel
theorem dX3_channelWaitedFor_32 : decode cX3_channelWaitedFor 32 = .ok (.invokevirtual 68, 3) := by decide +kernel
theorem dX3_channelWaitedFor_35 : decode cX3_channelWaitedFor 35 = .ok (.aload_n 0, 1) := by decide +kernel
theorem dX3_channelWaitedFor_36 : decode cX3_channelWaitedFor 36 = .ok (.getfield 12, 3) := by decide +kernel
theorem dX3_channelWaitedFor_39 : decode cX3_channelWaitedFor 39 = .ok (.getfield 80, 3) := by decide +kernel
theorem dX3_channelWaitedFor_42 : decode cX3_channelWaitedFor 42 = .ok (.iload_n 2, 1) := by decide +kernel
theorem dX3_channelWaitedFor_43 : decode cX3_channelWaitedFor 43 = .ok (.iaload, 1) := by decide +kernel
theorem dX3_channelWaitedFor_44 : decode cX3_channelWaitedFor 44 = .ok (.if_icmp .ge 5, 3) := by decide +kernel
theorem dX3_channelWaitedFor_47 : decode cX3_channelWaitedFor 47 = .ok (.iconst (-1), 1) := by decide +kernel
theorem dX3_channelWaitedFor_48 : decode cX3_channelWaitedFor 48 = .ok (.ireturn, 1) := by decide +kernel
theorem dX3_channelWaitedFor_49 : decode cX3_channelWaitedFor 49 = .ok (.iload_n 2, 1) := by decide +kernel
theorem dX3_channelWaitedFor_50 : decode cX3_channelWaitedFor 50 = .ok (.ireturn, 1) := by decide +kernel
theorem dX3_hasWorkedAtOrBehind_0 : decode cX3_hasWorkedAtOrBehind 0 = .ok (.aload_n 0, 1) := by decide +kernel
theorem dX3_hasWorkedAtOrBehind_1 : decode cX3_hasWorkedAtOrBehind 1 = .ok (.getfield 24, 3) := by decide +kernel
theorem dX3_hasWorkedAtOrBehind_4 : decode cX3_hasWorkedAtOrBehind 4 = .ok (.iload_n 1, 1) := by decide +kernel
theorem dX3_hasWorkedAtOrBehind_5 : decode cX3_hasWorkedAtOrBehind 5 = .ok (.iaload, 1) := by decide +kernel
theorem dX3_hasWorkedAtOrBehind_6 : decode cX3_hasWorkedAtOrBehind 6 = .ok (.ifCond .le 17, 3) := by decide +kernel
theorem dX3_hasWorkedAtOrBehind_9 : decode cX3_hasWorkedAtOrBehind 9 = .ok (.aload_n 0, 1) := by decide +kernel
theorem dX3_hasWorkedAtOrBehind_10 : decode cX3_hasWorkedAtOrBehind 10 = .ok (.getfield 31, 3) := by decide +kernel
theorem dX3_hasWorkedAtOrBehind_13 : decode cX3_hasWorkedAtOrBehind 13 = .ok (.iload_n 1, 1) := by decide +kernel
theorem dX3_hasWorkedAtOrBehind_14 : decode cX3_hasWorkedAtOrBehind 14 = .ok (.iaload, 1) := by decide +kernel
theorem dX3_hasWorkedAtOrBehind_15 : decode cX3_hasWorkedAtOrBehind 15 = .ok (.iload_n 2, 1) := by decide +kernel
theorem dX3_hasWorkedAtOrBehind_16 : decode cX3_hasWorkedAtOrBehind 16 = .ok (.if_icmp .lt 7, 3) := by decide +kernel
theorem dX3_hasWorkedAtOrBehind_19 : decode cX3_hasWorkedAtOrBehind 19 = .ok (.iconst 1, 1) := by decide +kernel
theorem dX3_hasWorkedAtOrBehind_20 : decode cX3_hasWorkedAtOrBehind 20 = .ok (.goto 4, 3) := by decide +kernel
theorem dX3_hasWorkedAtOrBehind_23 : decode cX3_hasWorkedAtOrBehind 23 = .ok (.iconst 0, 1) := by decide +kernel
theorem dX3_hasWorkedAtOrBehind_24 : decode cX3_hasWorkedAtOrBehind 24 = .ok (.ireturn, 1) := by decide +kernel
theorem dX3_tellByHand_0 : decode cX3_tellByHand 0 = .ok (.aload_n 0, 1) := by decide +kernel
theorem dX3_tellByHand_1 : decode cX3_tellByHand 1 = .ok (.getfield 20, 3) := by decide +kernel
theorem dX3_tellByHand_4 : decode cX3_tellByHand 4 = .ok (.iload_n 1, 1) := by decide +kernel
theorem dX3_tellByHand_5 : decode cX3_tellByHand 5 = .ok (.aaload, 1) := by decide +kernel
theorem dX3_tellByHand_6 : decode cX3_tellByHand 6 = .ok (.iload_n 2, 1) := by decide +kernel
theorem dX3_tellByHand_7 : decode cX3_tellByHand 7 = .ok (.iload_n 3, 1) := by decide +kernel
theorem dX3_tellByHand_8 : decode cX3_tellByHand 8 = .ok (.iconst (-1), 1) := by decide +kernel
theorem dX3_tellByHand_9 : decode cX3_tellByHand 9 = .ok (.invokevirtual 90, 3) := by decide +kernel
theorem dX3_tellByHand_12 : decode cX3_tellByHand 12 = .ok (.aload_n 0, 1) := by decide +kernel
theorem dX3_tellByHand_13 : decode cX3_tellByHand 13 = .ok (.dup, 1) := by decide +kernel
theorem dX3_tellByHand_14 : decode cX3_tellByHand 14 = .ok (.getfield 58, 3) := by decide +kernel
theorem dX3_tellByHand_17 : decode cX3_tellByHand 17 = .ok (.iconst 1, 1) := by decide +kernel
theorem dX3_tellByHand_18 : decode cX3_tellByHand 18 = .ok (.iadd, 1) := by decide +kernel
theorem dX3_tellByHand_19 : decode cX3_tellByHand 19 = .ok (.putfield 58, 3) := by decide +kernel
theorem dX3_tellByHand_22 : decode cX3_tellByHand 22 = .ok (.aload_n 0, 1) := by decide +kernel
theorem dX3_tellByHand_23 : decode cX3_tellByHand 23 = .ok (.getfield 20, 3) := by decide +kernel
theorem dX3_tellByHand_26 : decode cX3_tellByHand 26 = .ok (.iload_n 1, 1) := by decide +kernel
theorem dX3_tellByHand_27 : decode cX3_tellByHand 27 = .ok (.aaload, 1) := by decide +kernel
theorem dX3_tellByHand_28 : decode cX3_tellByHand 28 = .ok (.getfield 42, 3) := by decide +kernel
theorem dX3_tellByHand_31 : decode cX3_tellByHand 31 = .ok (.ireturn, 1) := by decide +kernel
theorem dX3_workOnFirst_0 : decode cX3_workOnFirst 0 = .ok (.aload_n 0, 1) := by decide +kernel
theorem dX3_workOnFirst_1 : decode cX3_workOnFirst 1 = .ok (.getfield 20, 3) := by decide +kernel
theorem dX3_workOnFirst_4 : decode cX3_workOnFirst 4 = .ok (.iload_n 1, 1) := by decide +kernel
theorem dX3_workOnFirst_5 : decode cX3_workOnFirst 5 = .ok (.aaload, 1) := by decide +kernel
theorem dX3_workOnFirst_6 : decode cX3_workOnFirst 6 = .ok (.astore_n 2, 1) := by decide +kernel
theorem dX3_workOnFirst_7 : decode cX3_workOnFirst 7 = .ok (.aload_n 2, 1) := by decide +kernel
theorem dX3_workOnFirst_8 : decode cX3_workOnFirst 8 = .ok (.getfield 42, 3) := by decide +kernel
theorem dX3_workOnFirst_11 : decode cX3_workOnFirst 11 = .ok (.ifCond .ne 4, 3) := by decide +kernel
theorem dX3_workOnFirst_14 : decode cX3_workOnFirst 14 = .ok (.return_, 1) := by decide +kernel
theorem dX3_workOnFirst_15 : decode cX3_workOnFirst 15 = .ok (.aload_n 2, 1) := by decide +kernel
theorem dX3_workOnFirst_16 : decode cX3_workOnFirst 16 = .ok (.invokevirtual 68, 3) := by decide +kernel
theorem dX3_workOnFirst_19 : decode cX3_workOnFirst 19 = .ok (.istore_n 3, 1) := by decide +kernel
theorem dX3_workOnFirst_20 : decode cX3_workOnFirst 20 = .ok (.aload_n 2, 1) := by decide +kernel
theorem dX3_workOnFirst_21 : decode cX3_workOnFirst 21 = .ok (.invokevirtual 94, 3) := by decide +kernel
theorem dX3_workOnFirst_24 : decode cX3_workOnFirst 24 = .ok (.istore 4, 2) := by decide +kernel
theorem dX3_workOnFirst_26 : decode cX3_workOnFirst 26 = .ok (.aload_n 2, 1) := by decide +kernel
theorem dX3_workOnFirst_27 : decode cX3_workOnFirst 27 = .ok (.invokevirtual 97, 3) := by decide +kernel
theorem dX3_workOnFirst_30 : decode cX3_workOnFirst 30 = .ok (.aload_n 0, 1) := by decide +kernel
theorem dX3_workOnFirst_31 : decode cX3_workOnFirst 31 = .ok (.getfield 24, 3) := by decide +kernel
theorem dX3_workOnFirst_34 : decode cX3_workOnFirst 34 = .ok (.iload_n 1, 1) := by decide +kernel
theorem dX3_workOnFirst_35 : decode cX3_workOnFirst 35 = .ok (.dup2, 1) := by decide +kernel
theorem dX3_workOnFirst_36 : decode cX3_workOnFirst 36 = .ok (.iaload, 1) := by decide +kernel
theorem dX3_workOnFirst_37 : decode cX3_workOnFirst 37 = .ok (.iconst 1, 1) := by decide +kernel
theorem dX3_workOnFirst_38 : decode cX3_workOnFirst 38 = .ok (.iadd, 1) := by decide +kernel
theorem dX3_workOnFirst_39 : decode cX3_workOnFirst 39 = .ok (.iastore, 1) := by decide +kernel
theorem dX3_workOnFirst_40 : decode cX3_workOnFirst 40 = .ok (.aload_n 0, 1) := by decide +kernel
theorem dX3_workOnFirst_41 : decode cX3_workOnFirst 41 = .ok (.getfield 28, 3) := by decide +kernel
theorem dX3_workOnFirst_44 : decode cX3_workOnFirst 44 = .ok (.iload_n 1, 1) := by decide +kernel
theorem dX3_workOnFirst_45 : decode cX3_workOnFirst 45 = .ok (.bipush 31, 2) := by decide +kernel
theorem dX3_workOnFirst_47 : decode cX3_workOnFirst 47 = .ok (.aload_n 0, 1) := by decide +kernel
theorem dX3_workOnFirst_48 : decode cX3_workOnFirst 48 = .ok (.getfield 28, 3) := by decide +kernel
theorem dX3_workOnFirst_51 : decode cX3_workOnFirst 51 = .ok (.iload_n 1, 1) := by decide +kernel
theorem dX3_workOnFirst_52 : decode cX3_workOnFirst 52 = .ok (.iaload, 1) := by decide +kernel
theorem dX3_workOnFirst_53 : decode cX3_workOnFirst 53 = .ok (.imul, 1) := by decide +kernel
theorem dX3_workOnFirst_54 : decode cX3_workOnFirst 54 = .ok (.iload 4, 2) := by decide +kernel
theorem dX3_workOnFirst_56 : decode cX3_workOnFirst 56 = .ok (.iadd, 1) := by decide +kernel
theorem dX3_workOnFirst_57 : decode cX3_workOnFirst 57 = .ok (.iload_n 3, 1) := by decide +kernel
theorem dX3_workOnFirst_58 : decode cX3_workOnFirst 58 = .ok (.iadd, 1) := by decide +kernel
theorem dX3_workOnFirst_59 : decode cX3_workOnFirst 59 = .ok (.ldc 100, 2) := by decide +kernel
theorem dX3_workOnFirst_61 : decode cX3_workOnFirst 61 = .ok (.irem, 1) := by decide +kernel
theorem dX3_workOnFirst_62 : decode cX3_workOnFirst 62 = .ok (.iastore, 1) := by decide +kernel
theorem dX3_workOnFirst_63 : decode cX3_workOnFirst 63 = .ok (.aload_n 0, 1) := by decide +kernel
theorem dX3_workOnFirst_64 : decode cX3_workOnFirst 64 = .ok (.getfield 31, 3) := by decide +kernel
theorem dX3_workOnFirst_67 : decode cX3_workOnFirst 67 = .ok (.iload_n 1, 1) := by decide +kernel
theorem dX3_workOnFirst_68 : decode cX3_workOnFirst 68 = .ok (.iload_n 3, 1) := by decide +kernel
theorem dX3_workOnFirst_69 : decode cX3_workOnFirst 69 = .ok (.iastore, 1) := by decide +kernel
theorem dX3_workOnFirst_70 : decode cX3_workOnFirst 70 = .ok (.aload_n 0, 1) := by decide +kernel
theorem dX3_workOnFirst_71 : decode cX3_workOnFirst 71 = .ok (.dup, 1) := by decide +kernel
theorem dX3_workOnFirst_72 : decode cX3_workOnFirst 72 = .ok (.getfield 46, 3) := by decide +kernel
theorem dX3_workOnFirst_75 : decode cX3_workOnFirst 75 = .ok (.iconst 1, 1) := by decide +kernel
theorem dX3_workOnFirst_76 : decode cX3_workOnFirst 76 = .ok (.iadd, 1) := by decide +kernel
theorem dX3_workOnFirst_77 : decode cX3_workOnFirst 77 = .ok (.putfield 46, 3) := by decide +kernel
theorem dX3_workOnFirst_80 : decode cX3_workOnFirst 80 = .ok (.aload_n 0, 1) := by decide +kernel
theorem dX3_workOnFirst_81 : decode cX3_workOnFirst 81 = .ok (.iload_n 1, 1) := by decide +kernel
theorem dX3_workOnFirst_82 : decode cX3_workOnFirst 82 = .ok (.iload_n 3, 1) := by decide +kernel
theorem dX3_workOnFirst_83 : decode cX3_workOnFirst 83 = .ok (.iload 4, 2) := by decide +kernel
theorem dX3_workOnFirst_85 : decode cX3_workOnFirst 85 = .ok (.invokevirtual 101, 3) := by decide +kernel
theorem dX3_workOnFirst_88 : decode cX3_workOnFirst 88 = .ok (.return_, 1) := by decide +kernel
theorem dX3_sendLetter_0 : decode cX3_sendLetter 0 = .ok (.aload_n 0, 1) := by decide +kernel
theorem dX3_sendLetter_1 : decode cX3_sendLetter 1 = .ok (.getfield 12, 3) := by decide +kernel
theorem dX3_sendLetter_4 : decode cX3_sendLetter 4 = .ok (.iload_n 1, 1) := by decide +kernel
theorem dX3_sendLetter_5 : decode cX3_sendLetter 5 = .ok (.invokevirtual 104, 3) := by decide +kernel
theorem dX3_sendLetter_8 : decode cX3_sendLetter 8 = .ok (.istore 4, 2) := by decide +kernel
theorem dX3_sendLetter_10 : decode cX3_sendLetter 10 = .ok (.iload_n 3, 1) := by decide +kernel
theorem dX3_sendLetter_11 : decode cX3_sendLetter 11 = .ok (.ifCond .le 8, 3) := by decide +kernel
theorem dX3_sendLetter_14 : decode cX3_sendLetter 14 = .ok (.iload 4, 2) := by decide +kernel
theorem dX3_sendLetter_16 : decode cX3_sendLetter 16 = .ok (.ifCond .ne 4, 3) := by decide +kernel
theorem dX3_sendLetter_19 : decode cX3_sendLetter 19 = .ok (.return_, 1) := by decide +kernel
theorem dX3_sendLetter_20 : decode cX3_sendLetter 20 = .ok (.aload_n 0, 1) := by decide +kernel
theorem dX3_sendLetter_21 : decode cX3_sendLetter 21 = .ok (.getfield 12, 3) := by decide +kernel
theorem dX3_sendLetter_24 : decode cX3_sendLetter 24 = .ok (.iload_n 1, 1) := by decide +kernel
theorem dX3_sendLetter_25 : decode cX3_sendLetter 25 = .ok (.iload_n 3, 1) := by decide +kernel
theorem dX3_sendLetter_26 : decode cX3_sendLetter 26 = .ok (.iload 4, 2) := by decide +kernel
theorem dX3_sendLetter_28 : decode cX3_sendLetter 28 = .ok (.irem, 1) := by decide +kernel
theorem dX3_sendLetter_29 : decode cX3_sendLetter 29 = .ok (.invokevirtual 107, 3) := by decide +kernel
theorem dX3_sendLetter_32 : decode cX3_sendLetter 32 = .ok (.istore 5, 2) := by decide +kernel
theorem dX3_sendLetter_34 : decode cX3_sendLetter 34 = .ok (.iload 5, 2) := by decide +kernel
theorem dX3_sendLetter_36 : decode cX3_sendLetter 36 = .ok (.iconst (-1), 1) := by decide +kernel
theorem dX3_sendLetter_37 : decode cX3_sendLetter 37 = .ok (.if_icmp .ne 4, 3) := by decide +kernel
theorem dX3_sendLetter_40 : decode cX3_sendLetter 40 = .ok (.return_, 1) := by decide +kernel
theorem dX3_sendLetter_41 : decode cX3_sendLetter 41 = .ok (.iload_n 2, 1) := by decide +kernel
theorem dX3_sendLetter_42 : decode cX3_sendLetter 42 = .ok (.aload_n 0, 1) := by decide +kernel
theorem dX3_sendLetter_43 : decode cX3_sendLetter 43 = .ok (.getfield 12, 3) := by decide +kernel
theorem dX3_sendLetter_46 : decode cX3_sendLetter 46 = .ok (.getfield 111, 3) := by decide +kernel
theorem dX3_sendLetter_49 : decode cX3_sendLetter 49 = .ok (.iload 5, 2) := by decide +kernel
theorem dX3_sendLetter_51 : decode cX3_sendLetter 51 = .ok (.iaload, 1) := by decide +kernel
theorem dX3_sendLetter_52 : decode cX3_sendLetter 52 = .ok (.iadd, 1) := by decide +kernel
theorem dX3_sendLetter_53 : decode cX3_sendLetter 53 = .ok (.istore 6, 2) := by decide +kernel
theorem dX3_sendLetter_55 : decode cX3_sendLetter 55 = .ok (.aload_n 0, 1) := by decide +kernel
theorem dX3_sendLetter_56 : decode cX3_sendLetter 56 = .ok (.getfield 20, 3) := by decide +kernel
theorem dX3_sendLetter_59 : decode cX3_sendLetter 59 = .ok (.aload_n 0, 1) := by decide +kernel
theorem dX3_sendLetter_60 : decode cX3_sendLetter 60 = .ok (.getfield 12, 3) := by decide +kernel
theorem dX3_sendLetter_63 : decode cX3_sendLetter 63 = .ok (.getfield 114, 3) := by decide +kernel
theorem dX3_sendLetter_66 : decode cX3_sendLetter 66 = .ok (.iload 5, 2) := by decide +kernel
theorem dX3_sendLetter_68 : decode cX3_sendLetter 68 = .ok (.iaload, 1) := by decide +kernel
theorem dX3_sendLetter_69 : decode cX3_sendLetter 69 = .ok (.aaload, 1) := by decide +kernel
theorem dX3_sendLetter_70 : decode cX3_sendLetter 70 = .ok (.iload 6, 2) := by decide +kernel
theorem dX3_sendLetter_72 : decode cX3_sendLetter 72 = .ok (.iload_n 3, 1) := by decide +kernel
theorem dX3_sendLetter_73 : decode cX3_sendLetter 73 = .ok (.iconst 1, 1) := by decide +kernel
theorem dX3_sendLetter_74 : decode cX3_sendLetter 74 = .ok (.isub, 1) := by decide +kernel
theorem dX3_sendLetter_75 : decode cX3_sendLetter 75 = .ok (.iload 5, 2) := by decide +kernel
theorem dX3_sendLetter_77 : decode cX3_sendLetter 77 = .ok (.invokevirtual 90, 3) := by decide +kernel
theorem dX3_sendLetter_80 : decode cX3_sendLetter 80 = .ok (.aload_n 0, 1) := by decide +kernel
theorem dX3_sendLetter_81 : decode cX3_sendLetter 81 = .ok (.getfield 12, 3) := by decide +kernel
theorem dX3_sendLetter_84 : decode cX3_sendLetter 84 = .ok (.getfield 117, 3) := by decide +kernel
theorem dX3_sendLetter_87 : decode cX3_sendLetter 87 = .ok (.iload 5, 2) := by decide +kernel
theorem dX3_sendLetter_89 : decode cX3_sendLetter 89 = .ok (.dup2, 1) := by decide +kernel
theorem dX3_sendLetter_90 : decode cX3_sendLetter 90 = .ok (.iaload, 1) := by decide +kernel
theorem dX3_sendLetter_91 : decode cX3_sendLetter 91 = .ok (.iconst 1, 1) := by decide +kernel
theorem dX3_sendLetter_92 : decode cX3_sendLetter 92 = .ok (.iadd, 1) := by decide +kernel
theorem dX3_sendLetter_93 : decode cX3_sendLetter 93 = .ok (.iastore, 1) := by decide +kernel
theorem dX3_sendLetter_94 : decode cX3_sendLetter 94 = .ok (.aload_n 0, 1) := by decide +kernel
theorem dX3_sendLetter_95 : decode cX3_sendLetter 95 = .ok (.getfield 12, 3) := by decide +kernel
theorem dX3_sendLetter_98 : decode cX3_sendLetter 98 = .ok (.getfield 80, 3) := by decide +kernel
theorem dX3_sendLetter_101 : decode cX3_sendLetter 101 = .ok (.iload 5, 2) := by decide +kernel
theorem dX3_sendLetter_103 : decode cX3_sendLetter 103 = .ok (.aload_n 0, 1) := by decide +kernel
theorem dX3_sendLetter_104 : decode cX3_sendLetter 104 = .ok (.getfield 12, 3) := by decide +kernel
theorem dX3_sendLetter_107 : decode cX3_sendLetter 107 = .ok (.getfield 80, 3) := by decide +kernel
theorem dX3_sendLetter_110 : decode cX3_sendLetter 110 = .ok (.iload 5, 2) := by decide +kernel
theorem dX3_sendLetter_112 : decode cX3_sendLetter 112 = .ok (.iaload, 1) := by decide +kernel
theorem dX3_sendLetter_113 : decode cX3_sendLetter 113 = .ok (.iload 6, 2) := by decide +kernel
theorem dX3_sendLetter_115 : decode cX3_sendLetter 115 = .ok (.invokestatic 120, 3) := by decide +kernel
theorem dX3_sendLetter_118 : decode cX3_sendLetter 118 = .ok (.iastore, 1) := by decide +kernel
theorem dX3_sendLetter_119 : decode cX3_sendLetter 119 = .ok (.return_, 1) := by decide +kernel
theorem dX3_sendEmptyLetters_0 : decode cX3_sendEmptyLetters 0 = .ok (.aload_n 0, 1) := by decide +kernel
theorem dX3_sendEmptyLetters_1 : decode cX3_sendEmptyLetters 1 = .ok (.iload_n 1, 1) := by decide +kernel
theorem dX3_sendEmptyLetters_2 : decode cX3_sendEmptyLetters 2 = .ok (.invokevirtual 83, 3) := by decide +kernel
theorem dX3_sendEmptyLetters_5 : decode cX3_sendEmptyLetters 5 = .ok (.aload_n 0, 1) := by decide +kernel
theorem dX3_sendEmptyLetters_6 : decode cX3_sendEmptyLetters 6 = .ok (.getfield 20, 3) := by decide +kernel
theorem dX3_sendEmptyLetters_9 : decode cX3_sendEmptyLetters 9 = .ok (.iload_n 1, 1) := by decide +kernel
theorem dX3_sendEmptyLetters_10 : decode cX3_sendEmptyLetters 10 = .ok (.aaload, 1) := by decide +kernel
theorem dX3_sendEmptyLetters_11 : decode cX3_sendEmptyLetters 11 = .ok (.invokevirtual 68, 3) := by decide +kernel
theorem dX3_sendEmptyLetters_14 : decode cX3_sendEmptyLetters 14 = .ok (.invokestatic 125, 3) := by decide +kernel
theorem dX3_sendEmptyLetters_17 : decode cX3_sendEmptyLetters 17 = .ok (.istore_n 2, 1) := by decide +kernel
theorem dX3_sendEmptyLetters_18 : decode cX3_sendEmptyLetters 18 = .ok (.iconst 0, 1) := by decide +kernel
theorem dX3_sendEmptyLetters_19 : decode cX3_sendEmptyLetters 19 = .ok (.istore_n 3, 1) := by decide +kernel
theorem dX3_sendEmptyLetters_20 : decode cX3_sendEmptyLetters 20 = .ok (.iload_n 3, 1) := by decide +kernel
theorem dX3_sendEmptyLetters_21 : decode cX3_sendEmptyLetters 21 = .ok (.aload_n 0, 1) := by decide +kernel
theorem dX3_sendEmptyLetters_22 : decode cX3_sendEmptyLetters 22 = .ok (.getfield 12, 3) := by decide +kernel
theorem dX3_sendEmptyLetters_25 : decode cX3_sendEmptyLetters 25 = .ok (.getfield 39, 3) := by decide +kernel
theorem dX3_sendEmptyLetters_28 : decode cX3_sendEmptyLetters 28 = .ok (.if_icmp .ge 96, 3) := by decide +kernel
theorem dX3_sendEmptyLetters_31 : decode cX3_sendEmptyLetters 31 = .ok (.iload_n 2, 1) := by decide +kernel
theorem dX3_sendEmptyLetters_32 : decode cX3_sendEmptyLetters 32 = .ok (.aload_n 0, 1) := by decide +kernel
theorem dX3_sendEmptyLetters_33 : decode cX3_sendEmptyLetters 33 = .ok (.getfield 12, 3) := by decide +kernel
theorem dX3_sendEmptyLetters_36 : decode cX3_sendEmptyLetters 36 = .ok (.getfield 128, 3) := by decide +kernel
theorem dX3_sendEmptyLetters_39 : decode cX3_sendEmptyLetters 39 = .ok (.iload_n 3, 1) := by decide +kernel
theorem dX3_sendEmptyLetters_40 : decode cX3_sendEmptyLetters 40 = .ok (.iaload, 1) := by decide +kernel
theorem dX3_sendEmptyLetters_41 : decode cX3_sendEmptyLetters 41 = .ok (.iadd, 1) := by decide +kernel
theorem dX3_sendEmptyLetters_42 : decode cX3_sendEmptyLetters 42 = .ok (.ldc 79, 2) := by decide +kernel
theorem dX3_sendEmptyLetters_44 : decode cX3_sendEmptyLetters 44 = .ok (.invokestatic 125, 3) := by decide +kernel
theorem dX3_sendEmptyLetters_47 : decode cX3_sendEmptyLetters 47 = .ok (.istore 4, 2) := by decide +kernel
theorem dX3_sendEmptyLetters_49 : decode cX3_sendEmptyLetters 49 = .ok (.aload_n 0, 1) := by decide +kernel
theorem dX3_sendEmptyLetters_50 : decode cX3_sendEmptyLetters 50 = .ok (.getfield 12, 3) := by decide +kernel
theorem dX3_sendEmptyLetters_53 : decode cX3_sendEmptyLetters 53 = .ok (.getfield 131, 3) := by decide +kernel
theorem dX3_sendEmptyLetters_56 : decode cX3_sendEmptyLetters 56 = .ok (.iload_n 3, 1) := by decide +kernel
theorem dX3_sendEmptyLetters_57 : decode cX3_sendEmptyLetters 57 = .ok (.iaload, 1) := by decide +kernel
theorem dX3_sendEmptyLetters_58 : decode cX3_sendEmptyLetters 58 = .ok (.iload_n 1, 1) := by decide +kernel
theorem dX3_sendEmptyLetters_59 : decode cX3_sendEmptyLetters 59 = .ok (.if_icmp .ne 59, 3) := by decide +kernel
theorem dX3_sendEmptyLetters_62 : decode cX3_sendEmptyLetters 62 = .ok (.aload_n 0, 1) := by decide +kernel
theorem dX3_sendEmptyLetters_63 : decode cX3_sendEmptyLetters 63 = .ok (.getfield 12, 3) := by decide +kernel
theorem dX3_sendEmptyLetters_66 : decode cX3_sendEmptyLetters 66 = .ok (.getfield 80, 3) := by decide +kernel
theorem dX3_sendEmptyLetters_69 : decode cX3_sendEmptyLetters 69 = .ok (.iload_n 3, 1) := by decide +kernel
theorem dX3_sendEmptyLetters_70 : decode cX3_sendEmptyLetters 70 = .ok (.iaload, 1) := by decide +kernel
theorem dX3_sendEmptyLetters_71 : decode cX3_sendEmptyLetters 71 = .ok (.iload 4, 2) := by decide +kernel
theorem dX3_sendEmptyLetters_73 : decode cX3_sendEmptyLetters 73 = .ok (.if_icmp .ge 45, 3) := by decide +kernel
theorem dX3_sendEmptyLetters_76 : decode cX3_sendEmptyLetters 76 = .ok (.aload_n 0, 1) := by decide +kernel
theorem dX3_sendEmptyLetters_77 : decode cX3_sendEmptyLetters 77 = .ok (.iload_n 3, 1) := by decide +kernel
theorem dX3_sendEmptyLetters_78 : decode cX3_sendEmptyLetters 78 = .ok (.invokevirtual 134, 3) := by decide +kernel
theorem dX3_sendEmptyLetters_81 : decode cX3_sendEmptyLetters 81 = .ok (.ifCond .eq 37, 3) := by decide +kernel
theorem dX3_sendEmptyLetters_84 : decode cX3_sendEmptyLetters 84 = .ok (.aload_n 0, 1) := by decide +kernel
theorem dX3_sendEmptyLetters_85 : decode cX3_sendEmptyLetters 85 = .ok (.getfield 12, 3) := by decide +kernel
theorem dX3_sendEmptyLetters_88 : decode cX3_sendEmptyLetters 88 = .ok (.getfield 80, 3) := by decide +kernel
theorem dX3_sendEmptyLetters_91 : decode cX3_sendEmptyLetters 91 = .ok (.iload_n 3, 1) := by decide +kernel
theorem dX3_sendEmptyLetters_92 : decode cX3_sendEmptyLetters 92 = .ok (.iload 4, 2) := by decide +kernel
theorem dX3_sendEmptyLetters_94 : decode cX3_sendEmptyLetters 94 = .ok (.iastore, 1) := by decide +kernel
theorem dX3_sendEmptyLetters_95 : decode cX3_sendEmptyLetters 95 = .ok (.aload_n 0, 1) := by decide +kernel
theorem dX3_sendEmptyLetters_96 : decode cX3_sendEmptyLetters 96 = .ok (.getfield 12, 3) := by decide +kernel
theorem dX3_sendEmptyLetters_99 : decode cX3_sendEmptyLetters 99 = .ok (.getfield 137, 3) := by decide +kernel
theorem dX3_sendEmptyLetters_102 : decode cX3_sendEmptyLetters 102 = .ok (.iload_n 3, 1) := by decide +kernel
theorem dX3_sendEmptyLetters_103 : decode cX3_sendEmptyLetters 103 = .ok (.dup2, 1) := by decide +kernel
theorem dX3_sendEmptyLetters_104 : decode cX3_sendEmptyLetters 104 = .ok (.iaload, 1) := by decide +kernel
theorem dX3_sendEmptyLetters_105 : decode cX3_sendEmptyLetters 105 = .ok (.iconst 1, 1) := by decide +kernel
theorem dX3_sendEmptyLetters_106 : decode cX3_sendEmptyLetters 106 = .ok (.iadd, 1) := by decide +kernel
theorem dX3_sendEmptyLetters_107 : decode cX3_sendEmptyLetters 107 = .ok (.iastore, 1) := by decide +kernel
theorem dX3_sendEmptyLetters_108 : decode cX3_sendEmptyLetters 108 = .ok (.aload_n 0, 1) := by decide +kernel
theorem dX3_sendEmptyLetters_109 : decode cX3_sendEmptyLetters 109 = .ok (.dup, 1) := by decide +kernel
theorem dX3_sendEmptyLetters_110 : decode cX3_sendEmptyLetters 110 = .ok (.getfield 49, 3) := by decide +kernel
theorem dX3_sendEmptyLetters_113 : decode cX3_sendEmptyLetters 113 = .ok (.iconst 1, 1) := by decide +kernel
theorem dX3_sendEmptyLetters_114 : decode cX3_sendEmptyLetters 114 = .ok (.iadd, 1) := by decide +kernel
theorem dX3_sendEmptyLetters_115 : decode cX3_sendEmptyLetters 115 = .ok (.putfield 49, 3) := by decide +kernel
theorem dX3_sendEmptyLetters_118 : decode cX3_sendEmptyLetters 118 = .ok (.iinc 3 1, 3) := by decide +kernel
theorem dX3_sendEmptyLetters_121 : decode cX3_sendEmptyLetters 121 = .ok (.goto (-101), 3) := by decide +kernel
theorem dX3_sendEmptyLetters_124 : decode cX3_sendEmptyLetters 124 = .ok (.return_, 1) := by decide +kernel
theorem dX3_emptyMayGo_0 : decode cX3_emptyMayGo 0 = .ok (.aload_n 0, 1) := by decide +kernel
theorem dX3_emptyMayGo_1 : decode cX3_emptyMayGo 1 = .ok (.getfield 34, 3) := by decide +kernel
theorem dX3_emptyMayGo_4 : decode cX3_emptyMayGo 4 = .ok (.iconst 2, 1) := by decide +kernel
theorem dX3_emptyMayGo_5 : decode cX3_emptyMayGo 5 = .ok (.if_icmp .ne 20, 3) := by decide +kernel
theorem dX3_emptyMayGo_8 : decode cX3_emptyMayGo 8 = .ok (.aload_n 0, 1) := by decide +kernel
theorem dX3_emptyMayGo_9 : decode cX3_emptyMayGo 9 = .ok (.aload_n 0, 1) := by decide +kernel
theorem dX3_emptyMayGo_10 : decode cX3_emptyMayGo 10 = .ok (.getfield 12, 3) := by decide +kernel
theorem dX3_emptyMayGo_13 : decode cX3_emptyMayGo 13 = .ok (.getfield 114, 3) := by decide +kernel
theorem dX3_emptyMayGo_16 : decode cX3_emptyMayGo 16 = .ok (.iload_n 1, 1) := by decide +kernel
theorem dX3_emptyMayGo_17 : decode cX3_emptyMayGo 17 = .ok (.iaload, 1) := by decide +kernel
theorem dX3_emptyMayGo_18 : decode cX3_emptyMayGo 18 = .ok (.invokevirtual 140, 3) := by decide +kernel
theorem dX3_emptyMayGo_21 : decode cX3_emptyMayGo 21 = .ok (.iload_n 1, 1) := by decide +kernel
theorem dX3_emptyMayGo_22 : decode cX3_emptyMayGo 22 = .ok (.if_icmp .ne 7, 3) := by decide +kernel
theorem dX3_emptyMayGo_25 : decode cX3_emptyMayGo 25 = .ok (.iconst 1, 1) := by decide +kernel
theorem dX3_emptyMayGo_26 : decode cX3_emptyMayGo 26 = .ok (.goto 4, 3) := by decide +kernel
theorem dX3_emptyMayGo_29 : decode cX3_emptyMayGo 29 = .ok (.iconst 0, 1) := by decide +kernel
theorem dX3_emptyMayGo_30 : decode cX3_emptyMayGo 30 = .ok (.ireturn, 1) := by decide +kernel
