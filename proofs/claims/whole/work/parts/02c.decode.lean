theorem dX4_init_0 : decode cX4_init 0 = .ok (.aload_n 0, 1) := by decide +kernel
theorem dX4_init_1 : decode cX4_init 1 = .ok (.invokespecial 1, 3) := by decide +kernel
theorem dX4_init_4 : decode cX4_init 4 = .ok (.aload_n 0, 1) := by decide +kernel
theorem dX4_init_5 : decode cX4_init 5 = .ok (.new 7, 3) := by decide +kernel
theorem dX4_init_8 : decode cX4_init 8 = .ok (.dup, 1) := by decide +kernel
theorem dX4_init_9 : decode cX4_init 9 = .ok (.invokespecial 9, 3) := by decide +kernel
theorem dX4_init_12 : decode cX4_init 12 = .ok (.putfield 10, 3) := by decide +kernel
theorem dX4_init_15 : decode cX4_init 15 = .ok (.aload_n 0, 1) := by decide +kernel
theorem dX4_init_16 : decode cX4_init 16 = .ok (.new 7, 3) := by decide +kernel
theorem dX4_init_19 : decode cX4_init 19 = .ok (.dup, 1) := by decide +kernel
theorem dX4_init_20 : decode cX4_init 20 = .ok (.invokespecial 9, 3) := by decide +kernel
theorem dX4_init_23 : decode cX4_init 23 = .ok (.putfield 16, 3) := by decide +kernel
theorem dX4_init_26 : decode cX4_init 26 = .ok (.aload_n 0, 1) := by decide +kernel
theorem dX4_init_27 : decode cX4_init 27 = .ok (.iconst 2, 1) := by decide +kernel
theorem dX4_init_28 : decode cX4_init 28 = .ok (.anewarray 7, 3) := by decide +kernel
theorem dX4_init_31 : decode cX4_init 31 = .ok (.putfield 19, 3) := by decide +kernel
theorem dX4_init_34 : decode cX4_init 34 = .ok (.iconst 0, 1) := by decide +kernel
theorem dX4_init_35 : decode cX4_init 35 = .ok (.istore_n 1, 1) := by decide +kernel
theorem dX4_init_36 : decode cX4_init 36 = .ok (.iload_n 1, 1) := by decide +kernel
theorem dX4_init_37 : decode cX4_init 37 = .ok (.iconst 2, 1) := by decide +kernel
theorem dX4_init_38 : decode cX4_init 38 = .ok (.if_icmp .ge 22, 3) := by decide +kernel
theorem dX4_init_41 : decode cX4_init 41 = .ok (.aload_n 0, 1) := by decide +kernel
theorem dX4_init_42 : decode cX4_init 42 = .ok (.getfield 19, 3) := by decide +kernel
theorem dX4_init_45 : decode cX4_init 45 = .ok (.iload_n 1, 1) := by decide +kernel
theorem dX4_init_46 : decode cX4_init 46 = .ok (.new 7, 3) := by decide +kernel
theorem dX4_init_49 : decode cX4_init 49 = .ok (.dup, 1) := by decide +kernel
theorem dX4_init_50 : decode cX4_init 50 = .ok (.invokespecial 9, 3) := by decide +kernel
theorem dX4_init_53 : decode cX4_init 53 = .ok (.aastore, 1) := by decide +kernel
theorem dX4_init_54 : decode cX4_init 54 = .ok (.iinc 1 1, 3) := by decide +kernel
theorem dX4_init_57 : decode cX4_init 57 = .ok (.goto (-21), 3) := by decide +kernel
theorem dX4_init_60 : decode cX4_init 60 = .ok (.aload_n 0, 1) := by decide +kernel
theorem dX4_init_61 : decode cX4_init 61 = .ok (.iconst 2, 1) := by decide +kernel
theorem dX4_init_62 : decode cX4_init 62 = .ok (.newarray .boolean, 2) := by decide +kernel
theorem dX4_init_64 : decode cX4_init 64 = .ok (.putfield 23, 3) := by decide +kernel
theorem dX4_init_67 : decode cX4_init 67 = .ok (.aload_n 0, 1) := by decide +kernel
theorem dX4_init_68 : decode cX4_init 68 = .ok (.new 27, 3) := by decide +kernel
theorem dX4_init_71 : decode cX4_init 71 = .ok (.dup, 1) := by decide +kernel
theorem dX4_init_72 : decode cX4_init 72 = .ok (.invokespecial 29, 3) := by decide +kernel
theorem dX4_init_75 : decode cX4_init 75 = .ok (.putfield 30, 3) := by decide +kernel
theorem dX4_init_78 : decode cX4_init 78 = .ok (.aload_n 0, 1) := by decide +kernel
theorem dX4_init_79 : decode cX4_init 79 = .ok (.bipush 6, 2) := by decide +kernel
theorem dX4_init_81 : decode cX4_init 81 = .ok (.newarray .int, 2) := by decide +kernel
theorem dX4_init_83 : decode cX4_init 83 = .ok (.putfield 34, 3) := by decide +kernel
theorem dX4_init_86 : decode cX4_init 86 = .ok (.return_, 1) := by decide +kernel
theorem dX4_parts_0 : decode cX4_parts 0 = .ok (.iload_n 1, 1) := by decide +kernel
theorem dX4_parts_1 : decode cX4_parts 1 = .ok (.iconst 1, 1) := by decide +kernel
theorem dX4_parts_2 : decode cX4_parts 2 = .ok (.bipush 6, 2) := by decide +kernel
theorem dX4_parts_4 : decode cX4_parts 4 = .ok (.invokestatic 38, 3) := by decide +kernel
theorem dX4_parts_7 : decode cX4_parts 7 = .ok (.ifCond .eq 6, 3) := by decide +kernel
theorem dX4_parts_10 : decode cX4_parts 10 = .ok (.ldc 42, 2) := by decide +kernel
theorem dX4_parts_12 : decode cX4_parts 12 = .ok (.ireturn, 1) := by decide +kernel
theorem dX4_parts_13 : decode cX4_parts 13 = .ok (.aload_n 0, 1) := by decide +kernel
theorem dX4_parts_14 : decode cX4_parts 14 = .ok (.getfield 10, 3) := by decide +kernel
theorem dX4_parts_17 : decode cX4_parts 17 = .ok (.getfield 43, 3) := by decide +kernel
theorem dX4_parts_20 : decode cX4_parts 20 = .ok (.istore_n 2, 1) := by decide +kernel
theorem dX4_parts_21 : decode cX4_parts 21 = .ok (.aload_n 0, 1) := by decide +kernel
theorem dX4_parts_22 : decode cX4_parts 22 = .ok (.getfield 10, 3) := by decide +kernel
theorem dX4_parts_25 : decode cX4_parts 25 = .ok (.iload_n 1, 1) := by decide +kernel
theorem dX4_parts_26 : decode cX4_parts 26 = .ok (.invokevirtual 47, 3) := by decide +kernel
theorem dX4_parts_29 : decode cX4_parts 29 = .ok (.aload_n 0, 1) := by decide +kernel
theorem dX4_parts_30 : decode cX4_parts 30 = .ok (.getfield 30, 3) := by decide +kernel
theorem dX4_parts_33 : decode cX4_parts 33 = .ok (.invokevirtual 51, 3) := by decide +kernel
theorem dX4_parts_36 : decode cX4_parts 36 = .ok (.iconst 0, 1) := by decide +kernel
theorem dX4_parts_37 : decode cX4_parts 37 = .ok (.istore_n 3, 1) := by decide +kernel
theorem dX4_parts_38 : decode cX4_parts 38 = .ok (.iload_n 3, 1) := by decide +kernel
theorem dX4_parts_39 : decode cX4_parts 39 = .ok (.iconst 2, 1) := by decide +kernel
theorem dX4_parts_40 : decode cX4_parts 40 = .ok (.if_icmp .ge 16, 3) := by decide +kernel
theorem dX4_parts_43 : decode cX4_parts 43 = .ok (.aload_n 0, 1) := by decide +kernel
theorem dX4_parts_44 : decode cX4_parts 44 = .ok (.getfield 23, 3) := by decide +kernel
theorem dX4_parts_47 : decode cX4_parts 47 = .ok (.iload_n 3, 1) := by decide +kernel
theorem dX4_parts_48 : decode cX4_parts 48 = .ok (.iconst 0, 1) := by decide +kernel
theorem dX4_parts_49 : decode cX4_parts 49 = .ok (.bastore, 1) := by decide +kernel
theorem dX4_parts_50 : decode cX4_parts 50 = .ok (.iinc 3 1, 3) := by decide +kernel
theorem dX4_parts_53 : decode cX4_parts 53 = .ok (.goto (-15), 3) := by decide +kernel
theorem dX4_parts_56 : decode cX4_parts 56 = .ok (.iload_n 2, 1) := by decide +kernel
theorem dX4_parts_57 : decode cX4_parts 57 = .ok (.ireturn, 1) := by decide +kernel
theorem dX4_channel_0 : decode cX4_channel 0 = .ok (.aload_n 0, 1) := by decide +kernel
theorem dX4_channel_1 : decode cX4_channel 1 = .ok (.iload_n 1, 1) := by decide +kernel
theorem dX4_channel_2 : decode cX4_channel 2 = .ok (.iload_n 2, 1) := by decide +kernel
theorem dX4_channel_3 : decode cX4_channel 3 = .ok (.invokevirtual 54, 3) := by decide +kernel
theorem dX4_channel_6 : decode cX4_channel 6 = .ok (.ifCond .eq 6, 3) := by decide +kernel
theorem dX4_channel_9 : decode cX4_channel 9 = .ok (.ldc 58, 2) := by decide +kernel
theorem dX4_channel_11 : decode cX4_channel 11 = .ok (.ireturn, 1) := by decide +kernel
theorem dX4_channel_12 : decode cX4_channel 12 = .ok (.iload_n 3, 1) := by decide +kernel
theorem dX4_channel_13 : decode cX4_channel 13 = .ok (.iconst 0, 1) := by decide +kernel
theorem dX4_channel_14 : decode cX4_channel 14 = .ok (.bipush 99, 2) := by decide +kernel
theorem dX4_channel_16 : decode cX4_channel 16 = .ok (.invokestatic 38, 3) := by decide +kernel
theorem dX4_channel_19 : decode cX4_channel 19 = .ok (.ifCond .ne 20, 3) := by decide +kernel
theorem dX4_channel_22 : decode cX4_channel 22 = .ok (.iload 4, 2) := by decide +kernel
theorem dX4_channel_24 : decode cX4_channel 24 = .ok (.iconst 1, 1) := by decide +kernel
theorem dX4_channel_25 : decode cX4_channel 25 = .ok (.bipush 99, 2) := by decide +kernel
theorem dX4_channel_27 : decode cX4_channel 27 = .ok (.invokestatic 38, 3) := by decide +kernel
theorem dX4_channel_30 : decode cX4_channel 30 = .ok (.ifCond .ne 9, 3) := by decide +kernel
theorem dX4_channel_33 : decode cX4_channel 33 = .ok (.iload 4, 2) := by decide +kernel
theorem dX4_channel_35 : decode cX4_channel 35 = .ok (.iload_n 3, 1) := by decide +kernel
theorem dX4_channel_36 : decode cX4_channel 36 = .ok (.if_icmp .ge 6, 3) := by decide +kernel
theorem dX4_channel_39 : decode cX4_channel 39 = .ok (.ldc 42, 2) := by decide +kernel
theorem dX4_channel_41 : decode cX4_channel 41 = .ok (.ireturn, 1) := by decide +kernel
theorem dX4_channel_42 : decode cX4_channel 42 = .ok (.aload_n 0, 1) := by decide +kernel
theorem dX4_channel_43 : decode cX4_channel 43 = .ok (.getfield 10, 3) := by decide +kernel
theorem dX4_channel_46 : decode cX4_channel 46 = .ok (.getfield 59, 3) := by decide +kernel
theorem dX4_channel_49 : decode cX4_channel 49 = .ok (.iload_n 1, 1) := by decide +kernel
theorem dX4_channel_50 : decode cX4_channel 50 = .ok (.iload_n 2, 1) := by decide +kernel
theorem dX4_channel_51 : decode cX4_channel 51 = .ok (.invokevirtual 63, 3) := by decide +kernel
theorem dX4_channel_54 : decode cX4_channel 54 = .ok (.iconst (-1), 1) := by decide +kernel
theorem dX4_channel_55 : decode cX4_channel 55 = .ok (.if_icmp .ne 13, 3) := by decide +kernel
theorem dX4_channel_58 : decode cX4_channel 58 = .ok (.aload_n 0, 1) := by decide +kernel
theorem dX4_channel_59 : decode cX4_channel 59 = .ok (.getfield 10, 3) := by decide +kernel
theorem dX4_channel_62 : decode cX4_channel 62 = .ok (.invokevirtual 69, 3) := by decide +kernel
theorem dX4_channel_65 : decode cX4_channel 65 = .ok (.ifCond .le 6, 3) := by decide +kernel
theorem dX4_channel_68 : decode cX4_channel 68 = .ok (.ldc 73, 2) := by decide +kernel
theorem dX4_channel_70 : decode cX4_channel 70 = .ok (.ireturn, 1) := by decide +kernel
theorem dX4_channel_71 : decode cX4_channel 71 = .ok (.aload_n 0, 1) := by decide +kernel
theorem dX4_channel_72 : decode cX4_channel 72 = .ok (.getfield 10, 3) := by decide +kernel
theorem dX4_channel_75 : decode cX4_channel 75 = .ok (.getfield 59, 3) := by decide +kernel
theorem dX4_channel_78 : decode cX4_channel 78 = .ok (.getfield 74, 3) := by decide +kernel
theorem dX4_channel_81 : decode cX4_channel 81 = .ok (.bipush 12, 2) := by decide +kernel
theorem dX4_channel_83 : decode cX4_channel 83 = .ok (.if_icmp .lt 6, 3) := by decide +kernel
theorem dX4_channel_86 : decode cX4_channel 86 = .ok (.ldc 77, 2) := by decide +kernel
theorem dX4_channel_88 : decode cX4_channel 88 = .ok (.ireturn, 1) := by decide +kernel
theorem dX4_channel_89 : decode cX4_channel 89 = .ok (.aload_n 0, 1) := by decide +kernel
theorem dX4_channel_90 : decode cX4_channel 90 = .ok (.getfield 10, 3) := by decide +kernel
theorem dX4_channel_93 : decode cX4_channel 93 = .ok (.getfield 59, 3) := by decide +kernel
theorem dX4_channel_96 : decode cX4_channel 96 = .ok (.iload_n 1, 1) := by decide +kernel
theorem dX4_channel_97 : decode cX4_channel 97 = .ok (.iload_n 2, 1) := by decide +kernel
theorem dX4_channel_98 : decode cX4_channel 98 = .ok (.iload_n 3, 1) := by decide +kernel
theorem dX4_channel_99 : decode cX4_channel 99 = .ok (.iload 4, 2) := by decide +kernel
theorem dX4_channel_101 : decode cX4_channel 101 = .ok (.invokevirtual 78, 3) := by decide +kernel
theorem dX4_channel_104 : decode cX4_channel 104 = .ok (.ireturn, 1) := by decide +kernel
theorem dX4_event_0 : decode cX4_event 0 = .ok (.aload_n 0, 1) := by decide +kernel
theorem dX4_event_1 : decode cX4_event 1 = .ok (.iload_n 1, 1) := by decide +kernel
theorem dX4_event_2 : decode cX4_event 2 = .ok (.iload_n 2, 1) := by decide +kernel
theorem dX4_event_3 : decode cX4_event 3 = .ok (.iload_n 3, 1) := by decide +kernel
theorem dX4_event_4 : decode cX4_event 4 = .ok (.invokevirtual 82, 3) := by decide +kernel
theorem dX4_event_7 : decode cX4_event 7 = .ok (.istore 4, 2) := by decide +kernel
theorem dX4_event_9 : decode cX4_event 9 = .ok (.iload 4, 2) := by decide +kernel
theorem dX4_event_11 : decode cX4_event 11 = .ok (.ifCond .eq 6, 3) := by decide +kernel
theorem dX4_event_14 : decode cX4_event 14 = .ok (.iload 4, 2) := by decide +kernel
theorem dX4_event_16 : decode cX4_event 16 = .ok (.ireturn, 1) := by decide +kernel
theorem dX4_event_17 : decode cX4_event 17 = .ok (.aload_n 0, 1) := by decide +kernel
theorem dX4_event_18 : decode cX4_event 18 = .ok (.getfield 10, 3) := by decide +kernel
theorem dX4_event_21 : decode cX4_event 21 = .ok (.iload_n 1, 1) := by decide +kernel
theorem dX4_event_22 : decode cX4_event 22 = .ok (.iload_n 2, 1) := by decide +kernel
theorem dX4_event_23 : decode cX4_event 23 = .ok (.iload_n 3, 1) := by decide +kernel
theorem dX4_event_24 : decode cX4_event 24 = .ok (.invokevirtual 86, 3) := by decide +kernel
theorem dX4_event_27 : decode cX4_event 27 = .ok (.ireturn, 1) := by decide +kernel
theorem dX4_form_0 : decode cX4_form 0 = .ok (.iload_n 1, 1) := by decide +kernel
theorem dX4_form_1 : decode cX4_form 1 = .ok (.iconst 0, 1) := by decide +kernel
theorem dX4_form_2 : decode cX4_form 2 = .ok (.iconst 2, 1) := by decide +kernel
theorem dX4_form_3 : decode cX4_form 3 = .ok (.invokestatic 38, 3) := by decide +kernel
theorem dX4_form_6 : decode cX4_form 6 = .ok (.ifCond .eq 6, 3) := by decide +kernel
theorem dX4_form_9 : decode cX4_form 9 = .ok (.ldc 42, 2) := by decide +kernel
theorem dX4_form_11 : decode cX4_form 11 = .ok (.ireturn, 1) := by decide +kernel
theorem dX4_form_12 : decode cX4_form 12 = .ok (.aload_n 0, 1) := by decide +kernel
theorem dX4_form_13 : decode cX4_form 13 = .ok (.getfield 10, 3) := by decide +kernel
theorem dX4_form_16 : decode cX4_form 16 = .ok (.getfield 89, 3) := by decide +kernel
theorem dX4_form_19 : decode cX4_form 19 = .ok (.istore_n 2, 1) := by decide +kernel
theorem dX4_form_20 : decode cX4_form 20 = .ok (.aload_n 0, 1) := by decide +kernel
theorem dX4_form_21 : decode cX4_form 21 = .ok (.getfield 10, 3) := by decide +kernel
theorem dX4_form_24 : decode cX4_form 24 = .ok (.iload_n 1, 1) := by decide +kernel
theorem dX4_form_25 : decode cX4_form 25 = .ok (.putfield 89, 3) := by decide +kernel
theorem dX4_form_28 : decode cX4_form 28 = .ok (.iload_n 2, 1) := by decide +kernel
theorem dX4_form_29 : decode cX4_form 29 = .ok (.ireturn, 1) := by decide +kernel
theorem dX4_drift_0 : decode cX4_drift 0 = .ok (.iload_n 1, 1) := by decide +kernel
theorem dX4_drift_1 : decode cX4_drift 1 = .ok (.iconst 1, 1) := by decide +kernel
theorem dX4_drift_2 : decode cX4_drift 2 = .ok (.bipush 20, 2) := by decide +kernel
theorem dX4_drift_4 : decode cX4_drift 4 = .ok (.invokestatic 38, 3) := by decide +kernel
theorem dX4_drift_7 : decode cX4_drift 7 = .ok (.ifCond .ne 13, 3) := by decide +kernel
theorem dX4_drift_10 : decode cX4_drift 10 = .ok (.iload_n 2, 1) := by decide +kernel
theorem dX4_drift_11 : decode cX4_drift 11 = .ok (.iconst 1, 1) := by decide +kernel
theorem dX4_drift_12 : decode cX4_drift 12 = .ok (.ldc 92, 2) := by decide +kernel
theorem dX4_drift_14 : decode cX4_drift 14 = .ok (.invokestatic 38, 3) := by decide +kernel
theorem dX4_drift_17 : decode cX4_drift 17 = .ok (.ifCond .eq 6, 3) := by decide +kernel
theorem dX4_drift_20 : decode cX4_drift 20 = .ok (.ldc 42, 2) := by decide +kernel
theorem dX4_drift_22 : decode cX4_drift 22 = .ok (.ireturn, 1) := by decide +kernel
theorem dX4_drift_23 : decode cX4_drift 23 = .ok (.aload_n 0, 1) := by decide +kernel
theorem dX4_drift_24 : decode cX4_drift 24 = .ok (.getfield 10, 3) := by decide +kernel
theorem dX4_drift_27 : decode cX4_drift 27 = .ok (.getfield 93, 3) := by decide +kernel
theorem dX4_drift_30 : decode cX4_drift 30 = .ok (.istore_n 3, 1) := by decide +kernel
theorem dX4_drift_31 : decode cX4_drift 31 = .ok (.iload_n 3, 1) := by decide +kernel
theorem dX4_drift_32 : decode cX4_drift 32 = .ok (.iconst 1, 1) := by decide +kernel
theorem dX4_drift_33 : decode cX4_drift 33 = .ok (.if_icmp .ge 6, 3) := by decide +kernel
theorem dX4_drift_36 : decode cX4_drift 36 = .ok (.ldc 73, 2) := by decide +kernel
theorem dX4_drift_38 : decode cX4_drift 38 = .ok (.ireturn, 1) := by decide +kernel
theorem dX4_drift_39 : decode cX4_drift 39 = .ok (.iload_n 2, 1) := by decide +kernel
theorem dX4_drift_40 : decode cX4_drift 40 = .ok (.i2l, 1) := by decide +kernel
theorem dX4_drift_41 : decode cX4_drift 41 = .ok (.lstore 4, 2) := by decide +kernel
theorem dX4_drift_43 : decode cX4_drift 43 = .ok (.iconst 0, 1) := by decide +kernel
theorem dX4_drift_44 : decode cX4_drift 44 = .ok (.istore 6, 2) := by decide +kernel
theorem dX4_drift_46 : decode cX4_drift 46 = .ok (.iconst 0, 1) := by decide +kernel
theorem dX4_drift_47 : decode cX4_drift 47 = .ok (.istore 7, 2) := by decide +kernel
theorem dX4_drift_49 : decode cX4_drift 49 = .ok (.iload 7, 2) := by decide +kernel
theorem dX4_drift_51 : decode cX4_drift 51 = .ok (.iload_n 1, 1) := by decide +kernel
theorem dX4_drift_52 : decode cX4_drift 52 = .ok (.if_icmp .ge 99, 3) := by decide +kernel
theorem dX4_drift_55 : decode cX4_drift 55 = .ok (.lload 4, 2) := by decide +kernel
theorem dX4_drift_57 : decode cX4_drift 57 = .ok (.invokestatic 96, 3) := by decide +kernel
theorem dX4_drift_60 : decode cX4_drift 60 = .ok (.lstore 4, 2) := by decide +kernel
theorem dX4_drift_62 : decode cX4_drift 62 = .ok (.lload 4, 2) := by decide +kernel
theorem dX4_drift_64 : decode cX4_drift 64 = .ok (.iload_n 3, 1) := by decide +kernel
theorem dX4_drift_65 : decode cX4_drift 65 = .ok (.i2l, 1) := by decide +kernel
theorem dX4_drift_66 : decode cX4_drift 66 = .ok (.lrem, 1) := by decide +kernel
theorem dX4_drift_67 : decode cX4_drift 67 = .ok (.l2i, 1) := by decide +kernel
theorem dX4_drift_68 : decode cX4_drift 68 = .ok (.istore 8, 2) := by decide +kernel
theorem dX4_drift_70 : decode cX4_drift 70 = .ok (.lload 4, 2) := by decide +kernel
theorem dX4_drift_72 : decode cX4_drift 72 = .ok (.invokestatic 96, 3) := by decide +kernel
theorem dX4_drift_75 : decode cX4_drift 75 = .ok (.lstore 4, 2) := by decide +kernel
theorem dX4_drift_77 : decode cX4_drift 77 = .ok (.aload_n 0, 1) := by decide +kernel
theorem dX4_drift_78 : decode cX4_drift 78 = .ok (.getfield 10, 3) := by decide +kernel
theorem dX4_drift_81 : decode cX4_drift 81 = .ok (.getfield 100, 3) := by decide +kernel
theorem dX4_drift_84 : decode cX4_drift 84 = .ok (.iload 8, 2) := by decide +kernel
theorem dX4_drift_86 : decode cX4_drift 86 = .ok (.iaload, 1) := by decide +kernel
theorem dX4_drift_87 : decode cX4_drift 87 = .ok (.iconst 1, 1) := by decide +kernel
theorem dX4_drift_88 : decode cX4_drift 88 = .ok (.iadd, 1) := by decide +kernel
theorem dX4_drift_89 : decode cX4_drift 89 = .ok (.lload 4, 2) := by decide +kernel
theorem dX4_drift_91 : decode cX4_drift 91 = .ok (.ldc2_w 103, 3) := by decide +kernel
theorem dX4_drift_94 : decode cX4_drift 94 = .ok (.lrem, 1) := by decide +kernel
theorem dX4_drift_95 : decode cX4_drift 95 = .ok (.l2i, 1) := by decide +kernel
theorem dX4_drift_96 : decode cX4_drift 96 = .ok (.iadd, 1) := by decide +kernel
theorem dX4_drift_97 : decode cX4_drift 97 = .ok (.istore 9, 2) := by decide +kernel
theorem dX4_drift_99 : decode cX4_drift 99 = .ok (.lload 4, 2) := by decide +kernel
theorem dX4_drift_101 : decode cX4_drift 101 = .ok (.invokestatic 96, 3) := by decide +kernel
theorem dX4_drift_104 : decode cX4_drift 104 = .ok (.lstore 4, 2) := by decide +kernel
theorem dX4_drift_106 : decode cX4_drift 106 = .ok (.lload 4, 2) := by decide +kernel
theorem dX4_drift_108 : decode cX4_drift 108 = .ok (.ldc2_w 105, 3) := by decide +kernel
theorem dX4_drift_111 : decode cX4_drift 111 = .ok (.lrem, 1) := by decide +kernel
theorem dX4_drift_112 : decode cX4_drift 112 = .ok (.l2i, 1) := by decide +kernel
theorem dX4_drift_113 : decode cX4_drift 113 = .ok (.istore 10, 2) := by decide +kernel
theorem dX4_drift_115 : decode cX4_drift 115 = .ok (.aload_n 0, 1) := by decide +kernel
theorem dX4_drift_116 : decode cX4_drift 116 = .ok (.iload 8, 2) := by decide +kernel
theorem dX4_drift_118 : decode cX4_drift 118 = .ok (.iload 9, 2) := by decide +kernel
theorem dX4_drift_120 : decode cX4_drift 120 = .ok (.iload 10, 2) := by decide +kernel
theorem dX4_drift_122 : decode cX4_drift 122 = .ok (.invokevirtual 82, 3) := by decide +kernel
theorem dX4_drift_125 : decode cX4_drift 125 = .ok (.ifCond .ne 20, 3) := by decide +kernel
theorem dX4_drift_128 : decode cX4_drift 128 = .ok (.aload_n 0, 1) := by decide +kernel
theorem dX4_drift_129 : decode cX4_drift 129 = .ok (.getfield 10, 3) := by decide +kernel
theorem dX4_drift_132 : decode cX4_drift 132 = .ok (.iload 8, 2) := by decide +kernel
theorem dX4_drift_134 : decode cX4_drift 134 = .ok (.iload 9, 2) := by decide +kernel
theorem dX4_drift_136 : decode cX4_drift 136 = .ok (.iload 10, 2) := by decide +kernel
theorem dX4_drift_138 : decode cX4_drift 138 = .ok (.invokevirtual 86, 3) := by decide +kernel
theorem dX4_drift_141 : decode cX4_drift 141 = .ok (.pop, 1) := by decide +kernel
theorem dX4_drift_142 : decode cX4_drift 142 = .ok (.iinc 6 1, 3) := by decide +kernel
theorem dX4_drift_145 : decode cX4_drift 145 = .ok (.iinc 7 1, 3) := by decide +kernel
theorem dX4_drift_148 : decode cX4_drift 148 = .ok (.goto (-99), 3) := by decide +kernel
theorem dX4_drift_151 : decode cX4_drift 151 = .ok (.iload 6, 2) := by decide +kernel
theorem dX4_drift_153 : decode cX4_drift 153 = .ok (.ireturn, 1) := by decide +kernel
theorem dX4_run_0 : decode cX4_run 0 = .ok (.iload_n 1, 1) := by decide +kernel
theorem dX4_run_1 : decode cX4_run 1 = .ok (.iconst 1, 1) := by decide +kernel
theorem dX4_run_2 : decode cX4_run 2 = .ok (.bipush 40, 2) := by decide +kernel
theorem dX4_run_4 : decode cX4_run 4 = .ok (.invokestatic 38, 3) := by decide +kernel
theorem dX4_run_7 : decode cX4_run 7 = .ok (.ifCond .eq 6, 3) := by decide +kernel
theorem dX4_run_10 : decode cX4_run 10 = .ok (.ldc 42, 2) := by decide +kernel
theorem dX4_run_12 : decode cX4_run 12 = .ok (.ireturn, 1) := by decide +kernel
theorem dX4_run_13 : decode cX4_run 13 = .ok (.aload_n 0, 1) := by decide +kernel
theorem dX4_run_14 : decode cX4_run 14 = .ok (.invokevirtual 107, 3) := by decide +kernel
theorem dX4_run_17 : decode cX4_run 17 = .ok (.ifCond .eq 6, 3) := by decide +kernel
theorem dX4_run_20 : decode cX4_run 20 = .ok (.ldc 73, 2) := by decide +kernel
theorem dX4_run_22 : decode cX4_run 22 = .ok (.ireturn, 1) := by decide +kernel
theorem dX4_run_23 : decode cX4_run 23 = .ok (.aload_n 0, 1) := by decide +kernel
theorem dX4_run_24 : decode cX4_run 24 = .ok (.getfield 10, 3) := by decide +kernel
theorem dX4_run_27 : decode cX4_run 27 = .ok (.getfield 43, 3) := by decide +kernel
theorem dX4_run_30 : decode cX4_run 30 = .ok (.istore_n 2, 1) := by decide +kernel
theorem dX4_run_31 : decode cX4_run 31 = .ok (.iconst 0, 1) := by decide +kernel
theorem dX4_run_32 : decode cX4_run 32 = .ok (.istore_n 3, 1) := by decide +kernel
theorem dX4_run_33 : decode cX4_run 33 = .ok (.iconst 0, 1) := by decide +kernel
theorem dX4_run_34 : decode cX4_run 34 = .ok (.istore 4, 2) := by decide +kernel
theorem dX4_run_36 : decode cX4_run 36 = .ok (.iload 4, 2) := by decide +kernel
theorem dX4_run_38 : decode cX4_run 38 = .ok (.iload_n 1, 1) := by decide +kernel
theorem dX4_run_39 : decode cX4_run 39 = .ok (.if_icmp .ge 28, 3) := by decide +kernel
theorem dX4_run_42 : decode cX4_run 42 = .ok (.iload_n 3, 1) := by decide +kernel
theorem dX4_run_43 : decode cX4_run 43 = .ok (.ifCond .ne 24, 3) := by decide +kernel
theorem dX4_run_46 : decode cX4_run 46 = .ok (.aload_n 0, 1) := by decide +kernel
theorem dX4_run_47 : decode cX4_run 47 = .ok (.getfield 10, 3) := by decide +kernel
theorem dX4_run_50 : decode cX4_run 50 = .ok (.invokevirtual 111, 3) := by decide +kernel
theorem dX4_run_53 : decode cX4_run 53 = .ok (.ifCond .le 14, 3) := by decide +kernel
theorem dX4_run_56 : decode cX4_run 56 = .ok (.aload_n 0, 1) := by decide +kernel
theorem dX4_run_57 : decode cX4_run 57 = .ok (.invokevirtual 114, 3) := by decide +kernel
theorem dX4_run_60 : decode cX4_run 60 = .ok (.istore_n 3, 1) := by decide +kernel
theorem dX4_run_61 : decode cX4_run 61 = .ok (.iinc 4 1, 3) := by decide +kernel
theorem dX4_run_64 : decode cX4_run 64 = .ok (.goto (-28), 3) := by decide +kernel
theorem dX4_run_67 : decode cX4_run 67 = .ok (.aload_n 0, 1) := by decide +kernel
theorem dX4_run_68 : decode cX4_run 68 = .ok (.getfield 10, 3) := by decide +kernel
theorem dX4_run_71 : decode cX4_run 71 = .ok (.getfield 43, 3) := by decide +kernel
theorem dX4_run_74 : decode cX4_run 74 = .ok (.iload_n 2, 1) := by decide +kernel
theorem dX4_run_75 : decode cX4_run 75 = .ok (.isub, 1) := by decide +kernel
theorem dX4_run_76 : decode cX4_run 76 = .ok (.ireturn, 1) := by decide +kernel
theorem dX4_letGo_0 : decode cX4_letGo 0 = .ok (.aload_n 0, 1) := by decide +kernel
theorem dX4_letGo_1 : decode cX4_letGo 1 = .ok (.getfield 10, 3) := by decide +kernel
theorem dX4_letGo_4 : decode cX4_letGo 4 = .ok (.invokevirtual 111, 3) := by decide +kernel
theorem dX4_letGo_7 : decode cX4_letGo 7 = .ok (.ifCond .eq 13, 3) := by decide +kernel
theorem dX4_letGo_10 : decode cX4_letGo 10 = .ok (.aload_n 0, 1) := by decide +kernel
theorem dX4_letGo_11 : decode cX4_letGo 11 = .ok (.getfield 10, 3) := by decide +kernel
theorem dX4_letGo_14 : decode cX4_letGo 14 = .ok (.invokevirtual 117, 3) := by decide +kernel
theorem dX4_letGo_17 : decode cX4_letGo 17 = .ok (.ifCond .eq 6, 3) := by decide +kernel
theorem dX4_letGo_20 : decode cX4_letGo 20 = .ok (.ldc 73, 2) := by decide +kernel
theorem dX4_letGo_22 : decode cX4_letGo 22 = .ok (.ireturn, 1) := by decide +kernel
theorem dX4_letGo_23 : decode cX4_letGo 23 = .ok (.aload_n 0, 1) := by decide +kernel
theorem dX4_letGo_24 : decode cX4_letGo 24 = .ok (.invokevirtual 120, 3) := by decide +kernel
theorem dX4_letGo_27 : decode cX4_letGo 27 = .ok (.ireturn, 1) := by decide +kernel
theorem dX4_finish_0 : decode cX4_finish 0 = .ok (.aload_n 0, 1) := by decide +kernel
theorem dX4_finish_1 : decode cX4_finish 1 = .ok (.invokevirtual 107, 3) := by decide +kernel
theorem dX4_finish_4 : decode cX4_finish 4 = .ok (.ifCond .eq 6, 3) := by decide +kernel
theorem dX4_finish_7 : decode cX4_finish 7 = .ok (.ldc 73, 2) := by decide +kernel
theorem dX4_finish_9 : decode cX4_finish 9 = .ok (.ireturn, 1) := by decide +kernel
theorem dX4_finish_10 : decode cX4_finish 10 = .ok (.aload_n 0, 1) := by decide +kernel
theorem dX4_finish_11 : decode cX4_finish 11 = .ok (.getfield 10, 3) := by decide +kernel
theorem dX4_finish_14 : decode cX4_finish 14 = .ok (.getfield 43, 3) := by decide +kernel
theorem dX4_finish_17 : decode cX4_finish 17 = .ok (.istore_n 1, 1) := by decide +kernel
theorem dX4_finish_18 : decode cX4_finish 18 = .ok (.iconst 0, 1) := by decide +kernel
theorem dX4_finish_19 : decode cX4_finish 19 = .ok (.istore_n 2, 1) := by decide +kernel
theorem dX4_finish_20 : decode cX4_finish 20 = .ok (.iconst 0, 1) := by decide +kernel
theorem dX4_finish_21 : decode cX4_finish 21 = .ok (.istore_n 3, 1) := by decide +kernel
theorem dX4_finish_22 : decode cX4_finish 22 = .ok (.iload_n 3, 1) := by decide +kernel
theorem dX4_finish_23 : decode cX4_finish 23 = .ok (.sipush 400, 3) := by decide +kernel
theorem dX4_finish_26 : decode cX4_finish 26 = .ok (.if_icmp .ge 38, 3) := by decide +kernel
theorem dX4_finish_29 : decode cX4_finish 29 = .ok (.aload_n 0, 1) := by decide +kernel
theorem dX4_finish_30 : decode cX4_finish 30 = .ok (.getfield 10, 3) := by decide +kernel
theorem dX4_finish_33 : decode cX4_finish 33 = .ok (.invokevirtual 111, 3) := by decide +kernel
theorem dX4_finish_36 : decode cX4_finish 36 = .ok (.ifCond .le 28, 3) := by decide +kernel
theorem dX4_finish_39 : decode cX4_finish 39 = .ok (.iload_n 2, 1) := by decide +kernel
theorem dX4_finish_40 : decode cX4_finish 40 = .ok (.ifCond .eq 13, 3) := by decide +kernel
theorem dX4_finish_43 : decode cX4_finish 43 = .ok (.aload_n 0, 1) := by decide +kernel
theorem dX4_finish_44 : decode cX4_finish 44 = .ok (.invokevirtual 120, 3) := by decide +kernel
theorem dX4_finish_47 : decode cX4_finish 47 = .ok (.pop, 1) := by decide +kernel
theorem dX4_finish_48 : decode cX4_finish 48 = .ok (.iconst 0, 1) := by decide +kernel
theorem dX4_finish_49 : decode cX4_finish 49 = .ok (.istore_n 2, 1) := by decide +kernel
theorem dX4_finish_50 : decode cX4_finish 50 = .ok (.goto 8, 3) := by decide +kernel
theorem dX4_finish_53 : decode cX4_finish 53 = .ok (.aload_n 0, 1) := by decide +kernel
theorem dX4_finish_54 : decode cX4_finish 54 = .ok (.invokevirtual 114, 3) := by decide +kernel
theorem dX4_finish_57 : decode cX4_finish 57 = .ok (.istore_n 2, 1) := by decide +kernel
theorem dX4_finish_58 : decode cX4_finish 58 = .ok (.iinc 3 1, 3) := by decide +kernel
theorem dX4_finish_61 : decode cX4_finish 61 = .ok (.goto (-39), 3) := by decide +kernel
theorem dX4_finish_64 : decode cX4_finish 64 = .ok (.aload_n 0, 1) := by decide +kernel
theorem dX4_finish_65 : decode cX4_finish 65 = .ok (.getfield 10, 3) := by decide +kernel
theorem dX4_finish_68 : decode cX4_finish 68 = .ok (.getfield 43, 3) := by decide +kernel
theorem dX4_finish_71 : decode cX4_finish 71 = .ok (.iload_n 1, 1) := by decide +kernel
theorem dX4_finish_72 : decode cX4_finish 72 = .ok (.isub, 1) := by decide +kernel
theorem dX4_finish_73 : decode cX4_finish 73 = .ok (.ireturn, 1) := by decide +kernel
theorem dX4_told_0 : decode cX4_told 0 = .ok (.iload_n 1, 1) := by decide +kernel
theorem dX4_told_1 : decode cX4_told 1 = .ok (.tableswitch 192 0 12 #[67, 75, 86, 94, 102, 110, 118, 126, 134, 142, 150, 158, 184], 67) := by decide +kernel
theorem dX4_told_68 : decode cX4_told 68 = .ok (.aload_n 0, 1) := by decide +kernel
theorem dX4_told_69 : decode cX4_told 69 = .ok (.getfield 10, 3) := by decide +kernel
theorem dX4_told_72 : decode cX4_told 72 = .ok (.getfield 93, 3) := by decide +kernel
theorem dX4_told_75 : decode cX4_told 75 = .ok (.ireturn, 1) := by decide +kernel
theorem dX4_told_76 : decode cX4_told 76 = .ok (.aload_n 0, 1) := by decide +kernel
theorem dX4_told_77 : decode cX4_told 77 = .ok (.getfield 10, 3) := by decide +kernel
theorem dX4_told_80 : decode cX4_told 80 = .ok (.getfield 59, 3) := by decide +kernel
theorem dX4_told_83 : decode cX4_told 83 = .ok (.getfield 74, 3) := by decide +kernel
theorem dX4_told_86 : decode cX4_told 86 = .ok (.ireturn, 1) := by decide +kernel
theorem dX4_told_87 : decode cX4_told 87 = .ok (.aload_n 0, 1) := by decide +kernel
theorem dX4_told_88 : decode cX4_told 88 = .ok (.getfield 10, 3) := by decide +kernel
theorem dX4_told_91 : decode cX4_told 91 = .ok (.getfield 89, 3) := by decide +kernel
theorem dX4_told_94 : decode cX4_told 94 = .ok (.ireturn, 1) := by decide +kernel
theorem dX4_told_95 : decode cX4_told 95 = .ok (.aload_n 0, 1) := by decide +kernel
theorem dX4_told_96 : decode cX4_told 96 = .ok (.getfield 10, 3) := by decide +kernel
theorem dX4_told_99 : decode cX4_told 99 = .ok (.invokevirtual 111, 3) := by decide +kernel
theorem dX4_told_102 : decode cX4_told 102 = .ok (.ireturn, 1) := by decide +kernel
theorem dX4_told_103 : decode cX4_told 103 = .ok (.aload_n 0, 1) := by decide +kernel
theorem dX4_told_104 : decode cX4_told 104 = .ok (.getfield 10, 3) := by decide +kernel
theorem dX4_told_107 : decode cX4_told 107 = .ok (.getfield 43, 3) := by decide +kernel
theorem dX4_told_110 : decode cX4_told 110 = .ok (.ireturn, 1) := by decide +kernel
theorem dX4_told_111 : decode cX4_told 111 = .ok (.aload_n 0, 1) := by decide +kernel
theorem dX4_told_112 : decode cX4_told 112 = .ok (.getfield 10, 3) := by decide +kernel
theorem dX4_told_115 : decode cX4_told 115 = .ok (.getfield 123, 3) := by decide +kernel
theorem dX4_told_118 : decode cX4_told 118 = .ok (.ireturn, 1) := by decide +kernel
theorem dX4_told_119 : decode cX4_told 119 = .ok (.aload_n 0, 1) := by decide +kernel
theorem dX4_told_120 : decode cX4_told 120 = .ok (.getfield 10, 3) := by decide +kernel
theorem dX4_told_123 : decode cX4_told 123 = .ok (.getfield 126, 3) := by decide +kernel
theorem dX4_told_126 : decode cX4_told 126 = .ok (.ireturn, 1) := by decide +kernel
theorem dX4_told_127 : decode cX4_told 127 = .ok (.aload_n 0, 1) := by decide +kernel
theorem dX4_told_128 : decode cX4_told 128 = .ok (.getfield 10, 3) := by decide +kernel
theorem dX4_told_131 : decode cX4_told 131 = .ok (.getfield 129, 3) := by decide +kernel
theorem dX4_told_134 : decode cX4_told 134 = .ok (.ireturn, 1) := by decide +kernel
theorem dX4_told_135 : decode cX4_told 135 = .ok (.aload_n 0, 1) := by decide +kernel
theorem dX4_told_136 : decode cX4_told 136 = .ok (.getfield 10, 3) := by decide +kernel
theorem dX4_told_139 : decode cX4_told 139 = .ok (.invokevirtual 117, 3) := by decide +kernel
theorem dX4_told_142 : decode cX4_told 142 = .ok (.ireturn, 1) := by decide +kernel
theorem dX4_told_143 : decode cX4_told 143 = .ok (.aload_n 0, 1) := by decide +kernel
theorem dX4_told_144 : decode cX4_told 144 = .ok (.getfield 10, 3) := by decide +kernel
theorem dX4_told_147 : decode cX4_told 147 = .ok (.invokevirtual 132, 3) := by decide +kernel
theorem dX4_told_150 : decode cX4_told 150 = .ok (.ireturn, 1) := by decide +kernel
theorem dX4_told_151 : decode cX4_told 151 = .ok (.aload_n 0, 1) := by decide +kernel
theorem dX4_told_152 : decode cX4_told 152 = .ok (.getfield 30, 3) := by decide +kernel
theorem dX4_told_155 : decode cX4_told 155 = .ok (.getfield 135, 3) := by decide +kernel
theorem dX4_told_158 : decode cX4_told 158 = .ok (.ireturn, 1) := by decide +kernel
theorem dX4_told_159 : decode cX4_told 159 = .ok (.aload_n 0, 1) := by decide +kernel
theorem dX4_told_160 : decode cX4_told 160 = .ok (.getfield 10, 3) := by decide +kernel
theorem dX4_told_163 : decode cX4_told 163 = .ok (.getfield 59, 3) := by decide +kernel
theorem dX4_told_166 : decode cX4_told 166 = .ok (.aload_n 0, 1) := by decide +kernel
theorem dX4_told_167 : decode cX4_told 167 = .ok (.getfield 10, 3) := by decide +kernel
theorem dX4_told_170 : decode cX4_told 170 = .ok (.getfield 93, 3) := by decide +kernel
theorem dX4_told_173 : decode cX4_told 173 = .ok (.invokevirtual 136, 3) := by decide +kernel
theorem dX4_told_176 : decode cX4_told 176 = .ok (.ifCond .eq 7, 3) := by decide +kernel
theorem dX4_told_179 : decode cX4_told 179 = .ok (.iconst 1, 1) := by decide +kernel
theorem dX4_told_180 : decode cX4_told 180 = .ok (.goto 4, 3) := by decide +kernel
theorem dX4_told_183 : decode cX4_told 183 = .ok (.iconst 0, 1) := by decide +kernel
theorem dX4_told_184 : decode cX4_told 184 = .ok (.ireturn, 1) := by decide +kernel
theorem dX4_told_185 : decode cX4_told 185 = .ok (.aload_n 0, 1) := by decide +kernel
theorem dX4_told_186 : decode cX4_told 186 = .ok (.getfield 10, 3) := by decide +kernel
theorem dX4_told_189 : decode cX4_told 189 = .ok (.getfield 140, 3) := by decide +kernel
theorem dX4_told_192 : decode cX4_told 192 = .ok (.ireturn, 1) := by decide +kernel
theorem dX4_told_193 : decode cX4_told 193 = .ok (.ldc 42, 2) := by decide +kernel
theorem dX4_told_195 : decode cX4_told 195 = .ok (.ireturn, 1) := by decide +kernel
theorem dX4_part_0 : decode cX4_part 0 = .ok (.aload_n 0, 1) := by decide +kernel
theorem dX4_part_1 : decode cX4_part 1 = .ok (.iload_n 1, 1) := by decide +kernel
theorem dX4_part_2 : decode cX4_part 2 = .ok (.invokevirtual 143, 3) := by decide +kernel
theorem dX4_part_5 : decode cX4_part 5 = .ok (.ifCond .eq 6, 3) := by decide +kernel
theorem dX4_part_8 : decode cX4_part 8 = .ok (.ldc 58, 2) := by decide +kernel
theorem dX4_part_10 : decode cX4_part 10 = .ok (.ireturn, 1) := by decide +kernel
theorem dX4_part_11 : decode cX4_part 11 = .ok (.iload_n 2, 1) := by decide +kernel
theorem dX4_part_12 : decode cX4_part 12 = .ok (.tableswitch 188 0 10 #[60, 70, 80, 90, 99, 112, 125, 138, 155, 164, 176], 60) := by decide +kernel
theorem dX4_part_72 : decode cX4_part 72 = .ok (.aload_n 0, 1) := by decide +kernel
theorem dX4_part_73 : decode cX4_part 73 = .ok (.getfield 10, 3) := by decide +kernel
theorem dX4_part_76 : decode cX4_part 76 = .ok (.getfield 146, 3) := by decide +kernel
theorem dX4_part_79 : decode cX4_part 79 = .ok (.iload_n 1, 1) := by decide +kernel
theorem dX4_part_80 : decode cX4_part 80 = .ok (.iaload, 1) := by decide +kernel
theorem dX4_part_81 : decode cX4_part 81 = .ok (.ireturn, 1) := by decide +kernel
theorem dX4_part_82 : decode cX4_part 82 = .ok (.aload_n 0, 1) := by decide +kernel
theorem dX4_part_83 : decode cX4_part 83 = .ok (.getfield 10, 3) := by decide +kernel
theorem dX4_part_86 : decode cX4_part 86 = .ok (.getfield 149, 3) := by decide +kernel
theorem dX4_part_89 : decode cX4_part 89 = .ok (.iload_n 1, 1) := by decide +kernel
theorem dX4_part_90 : decode cX4_part 90 = .ok (.iaload, 1) := by decide +kernel
theorem dX4_part_91 : decode cX4_part 91 = .ok (.ireturn, 1) := by decide +kernel
theorem dX4_part_92 : decode cX4_part 92 = .ok (.aload_n 0, 1) := by decide +kernel
theorem dX4_part_93 : decode cX4_part 93 = .ok (.getfield 10, 3) := by decide +kernel
theorem dX4_part_96 : decode cX4_part 96 = .ok (.getfield 100, 3) := by decide +kernel
theorem dX4_part_99 : decode cX4_part 99 = .ok (.iload_n 1, 1) := by decide +kernel
theorem dX4_part_100 : decode cX4_part 100 = .ok (.iaload, 1) := by decide +kernel
theorem dX4_part_101 : decode cX4_part 101 = .ok (.ireturn, 1) := by decide +kernel
theorem dX4_part_102 : decode cX4_part 102 = .ok (.aload_n 0, 1) := by decide +kernel
theorem dX4_part_103 : decode cX4_part 103 = .ok (.getfield 10, 3) := by decide +kernel
theorem dX4_part_106 : decode cX4_part 106 = .ok (.iload_n 1, 1) := by decide +kernel
theorem dX4_part_107 : decode cX4_part 107 = .ok (.invokevirtual 152, 3) := by decide +kernel
theorem dX4_part_110 : decode cX4_part 110 = .ok (.ireturn, 1) := by decide +kernel
theorem dX4_part_111 : decode cX4_part 111 = .ok (.aload_n 0, 1) := by decide +kernel
theorem dX4_part_112 : decode cX4_part 112 = .ok (.getfield 10, 3) := by decide +kernel
theorem dX4_part_115 : decode cX4_part 115 = .ok (.getfield 156, 3) := by decide +kernel
theorem dX4_part_118 : decode cX4_part 118 = .ok (.iload_n 1, 1) := by decide +kernel
theorem dX4_part_119 : decode cX4_part 119 = .ok (.aaload, 1) := by decide +kernel
theorem dX4_part_120 : decode cX4_part 120 = .ok (.getfield 160, 3) := by decide +kernel
theorem dX4_part_123 : decode cX4_part 123 = .ok (.ireturn, 1) := by decide +kernel
theorem dX4_part_124 : decode cX4_part 124 = .ok (.aload_n 0, 1) := by decide +kernel
theorem dX4_part_125 : decode cX4_part 125 = .ok (.getfield 10, 3) := by decide +kernel
theorem dX4_part_128 : decode cX4_part 128 = .ok (.getfield 156, 3) := by decide +kernel
theorem dX4_part_131 : decode cX4_part 131 = .ok (.iload_n 1, 1) := by decide +kernel
theorem dX4_part_132 : decode cX4_part 132 = .ok (.aaload, 1) := by decide +kernel
theorem dX4_part_133 : decode cX4_part 133 = .ok (.invokevirtual 163, 3) := by decide +kernel
theorem dX4_part_136 : decode cX4_part 136 = .ok (.ireturn, 1) := by decide +kernel
theorem dX4_part_137 : decode cX4_part 137 = .ok (.aload_n 0, 1) := by decide +kernel
theorem dX4_part_138 : decode cX4_part 138 = .ok (.getfield 10, 3) := by decide +kernel
theorem dX4_part_141 : decode cX4_part 141 = .ok (.getfield 156, 3) := by decide +kernel
theorem dX4_part_144 : decode cX4_part 144 = .ok (.iload_n 1, 1) := by decide +kernel
theorem dX4_part_145 : decode cX4_part 145 = .ok (.aaload, 1) := by decide +kernel
theorem dX4_part_146 : decode cX4_part 146 = .ok (.invokevirtual 166, 3) := by decide +kernel
theorem dX4_part_149 : decode cX4_part 149 = .ok (.ireturn, 1) := by decide +kernel
theorem dX4_part_150 : decode cX4_part 150 = .ok (.aload_n 0, 1) := by decide +kernel
theorem dX4_part_151 : decode cX4_part 151 = .ok (.getfield 10, 3) := by decide +kernel
theorem dX4_part_154 : decode cX4_part 154 = .ok (.iload_n 1, 1) := by decide +kernel
theorem dX4_part_155 : decode cX4_part 155 = .ok (.invokevirtual 169, 3) := by decide +kernel
theorem dX4_part_158 : decode cX4_part 158 = .ok (.ifCond .eq 7, 3) := by decide +kernel
theorem dX4_part_161 : decode cX4_part 161 = .ok (.iconst 1, 1) := by decide +kernel
theorem dX4_part_162 : decode cX4_part 162 = .ok (.goto 4, 3) := by decide +kernel
theorem dX4_part_165 : decode cX4_part 165 = .ok (.iconst 0, 1) := by decide +kernel
theorem dX4_part_166 : decode cX4_part 166 = .ok (.ireturn, 1) := by decide +kernel
theorem dX4_part_167 : decode cX4_part 167 = .ok (.aload_n 0, 1) := by decide +kernel
theorem dX4_part_168 : decode cX4_part 168 = .ok (.getfield 10, 3) := by decide +kernel
theorem dX4_part_171 : decode cX4_part 171 = .ok (.iload_n 1, 1) := by decide +kernel
theorem dX4_part_172 : decode cX4_part 172 = .ok (.invokevirtual 172, 3) := by decide +kernel
theorem dX4_part_175 : decode cX4_part 175 = .ok (.ireturn, 1) := by decide +kernel
theorem dX4_part_176 : decode cX4_part 176 = .ok (.aload_n 0, 1) := by decide +kernel
theorem dX4_part_177 : decode cX4_part 177 = .ok (.getfield 10, 3) := by decide +kernel
theorem dX4_part_180 : decode cX4_part 180 = .ok (.getfield 59, 3) := by decide +kernel
theorem dX4_part_183 : decode cX4_part 183 = .ok (.iload_n 1, 1) := by decide +kernel
theorem dX4_part_184 : decode cX4_part 184 = .ok (.invokevirtual 175, 3) := by decide +kernel
theorem dX4_part_187 : decode cX4_part 187 = .ok (.ireturn, 1) := by decide +kernel
theorem dX4_part_188 : decode cX4_part 188 = .ok (.aload_n 0, 1) := by decide +kernel
theorem dX4_part_189 : decode cX4_part 189 = .ok (.getfield 10, 3) := by decide +kernel
theorem dX4_part_192 : decode cX4_part 192 = .ok (.getfield 59, 3) := by decide +kernel
theorem dX4_part_195 : decode cX4_part 195 = .ok (.iload_n 1, 1) := by decide +kernel
theorem dX4_part_196 : decode cX4_part 196 = .ok (.invokevirtual 178, 3) := by decide +kernel
theorem dX4_part_199 : decode cX4_part 199 = .ok (.ireturn, 1) := by decide +kernel
theorem dX4_part_200 : decode cX4_part 200 = .ok (.ldc 42, 2) := by decide +kernel
theorem dX4_part_202 : decode cX4_part 202 = .ok (.ireturn, 1) := by decide +kernel
theorem dX4_channelOf_0 : decode cX4_channelOf 0 = .ok (.aload_n 0, 1) := by decide +kernel
theorem dX4_channelOf_1 : decode cX4_channelOf 1 = .ok (.getfield 10, 3) := by decide +kernel
theorem dX4_channelOf_4 : decode cX4_channelOf 4 = .ok (.getfield 59, 3) := by decide +kernel
theorem dX4_channelOf_7 : decode cX4_channelOf 7 = .ok (.astore_n 3, 1) := by decide +kernel
theorem dX4_channelOf_8 : decode cX4_channelOf 8 = .ok (.iload_n 1, 1) := by decide +kernel
theorem dX4_channelOf_9 : decode cX4_channelOf 9 = .ok (.ifCond .lt 11, 3) := by decide +kernel
theorem dX4_channelOf_12 : decode cX4_channelOf 12 = .ok (.iload_n 1, 1) := by decide +kernel
theorem dX4_channelOf_13 : decode cX4_channelOf 13 = .ok (.aload_n 3, 1) := by decide +kernel
theorem dX4_channelOf_14 : decode cX4_channelOf 14 = .ok (.getfield 74, 3) := by decide +kernel
theorem dX4_channelOf_17 : decode cX4_channelOf 17 = .ok (.if_icmp .lt 6, 3) := by decide +kernel
theorem dX4_channelOf_20 : decode cX4_channelOf 20 = .ok (.ldc 58, 2) := by decide +kernel
theorem dX4_channelOf_22 : decode cX4_channelOf 22 = .ok (.ireturn, 1) := by decide +kernel
theorem dX4_channelOf_23 : decode cX4_channelOf 23 = .ok (.iload_n 2, 1) := by decide +kernel
theorem dX4_channelOf_24 : decode cX4_channelOf 24 = .ok (.tableswitch 93 0 6 #[44, 51, 58, 65, 72, 79, 86], 44) := by decide +kernel
theorem dX4_channelOf_68 : decode cX4_channelOf 68 = .ok (.aload_n 3, 1) := by decide +kernel
theorem dX4_channelOf_69 : decode cX4_channelOf 69 = .ok (.getfield 181, 3) := by decide +kernel
theorem dX4_channelOf_72 : decode cX4_channelOf 72 = .ok (.iload_n 1, 1) := by decide +kernel
theorem dX4_channelOf_73 : decode cX4_channelOf 73 = .ok (.iaload, 1) := by decide +kernel
theorem dX4_channelOf_74 : decode cX4_channelOf 74 = .ok (.ireturn, 1) := by decide +kernel
theorem dX4_channelOf_75 : decode cX4_channelOf 75 = .ok (.aload_n 3, 1) := by decide +kernel
theorem dX4_channelOf_76 : decode cX4_channelOf 76 = .ok (.getfield 184, 3) := by decide +kernel
theorem dX4_channelOf_79 : decode cX4_channelOf 79 = .ok (.iload_n 1, 1) := by decide +kernel
theorem dX4_channelOf_80 : decode cX4_channelOf 80 = .ok (.iaload, 1) := by decide +kernel
theorem dX4_channelOf_81 : decode cX4_channelOf 81 = .ok (.ireturn, 1) := by decide +kernel
theorem dX4_channelOf_82 : decode cX4_channelOf 82 = .ok (.aload_n 3, 1) := by decide +kernel
theorem dX4_channelOf_83 : decode cX4_channelOf 83 = .ok (.getfield 187, 3) := by decide +kernel
theorem dX4_channelOf_86 : decode cX4_channelOf 86 = .ok (.iload_n 1, 1) := by decide +kernel
theorem dX4_channelOf_87 : decode cX4_channelOf 87 = .ok (.iaload, 1) := by decide +kernel
theorem dX4_channelOf_88 : decode cX4_channelOf 88 = .ok (.ireturn, 1) := by decide +kernel
theorem dX4_channelOf_89 : decode cX4_channelOf 89 = .ok (.aload_n 3, 1) := by decide +kernel
theorem dX4_channelOf_90 : decode cX4_channelOf 90 = .ok (.getfield 190, 3) := by decide +kernel
theorem dX4_channelOf_93 : decode cX4_channelOf 93 = .ok (.iload_n 1, 1) := by decide +kernel
theorem dX4_channelOf_94 : decode cX4_channelOf 94 = .ok (.iaload, 1) := by decide +kernel
theorem dX4_channelOf_95 : decode cX4_channelOf 95 = .ok (.ireturn, 1) := by decide +kernel
theorem dX4_channelOf_96 : decode cX4_channelOf 96 = .ok (.aload_n 3, 1) := by decide +kernel
theorem dX4_channelOf_97 : decode cX4_channelOf 97 = .ok (.getfield 193, 3) := by decide +kernel
theorem dX4_channelOf_100 : decode cX4_channelOf 100 = .ok (.iload_n 1, 1) := by decide +kernel
theorem dX4_channelOf_101 : decode cX4_channelOf 101 = .ok (.iaload, 1) := by decide +kernel
theorem dX4_channelOf_102 : decode cX4_channelOf 102 = .ok (.ireturn, 1) := by decide +kernel
theorem dX4_channelOf_103 : decode cX4_channelOf 103 = .ok (.aload_n 3, 1) := by decide +kernel
theorem dX4_channelOf_104 : decode cX4_channelOf 104 = .ok (.getfield 196, 3) := by decide +kernel
theorem dX4_channelOf_107 : decode cX4_channelOf 107 = .ok (.iload_n 1, 1) := by decide +kernel
theorem dX4_channelOf_108 : decode cX4_channelOf 108 = .ok (.iaload, 1) := by decide +kernel
theorem dX4_channelOf_109 : decode cX4_channelOf 109 = .ok (.ireturn, 1) := by decide +kernel
theorem dX4_channelOf_110 : decode cX4_channelOf 110 = .ok (.aload_n 3, 1) := by decide +kernel
theorem dX4_channelOf_111 : decode cX4_channelOf 111 = .ok (.getfield 199, 3) := by decide +kernel
theorem dX4_channelOf_114 : decode cX4_channelOf 114 = .ok (.iload_n 1, 1) := by decide +kernel
theorem dX4_channelOf_115 : decode cX4_channelOf 115 = .ok (.iaload, 1) := by decide +kernel
theorem dX4_channelOf_116 : decode cX4_channelOf 116 = .ok (.ireturn, 1) := by decide +kernel
theorem dX4_channelOf_117 : decode cX4_channelOf 117 = .ok (.ldc 42, 2) := by decide +kernel
theorem dX4_channelOf_119 : decode cX4_channelOf 119 = .ok (.ireturn, 1) := by decide +kernel
theorem dX4_between_0 : decode cX4_between 0 = .ok (.aload_n 0, 1) := by decide +kernel
theorem dX4_between_1 : decode cX4_between 1 = .ok (.iload_n 1, 1) := by decide +kernel
theorem dX4_between_2 : decode cX4_between 2 = .ok (.iload_n 2, 1) := by decide +kernel
theorem dX4_between_3 : decode cX4_between 3 = .ok (.invokevirtual 54, 3) := by decide +kernel
theorem dX4_between_6 : decode cX4_between 6 = .ok (.ifCond .eq 6, 3) := by decide +kernel
theorem dX4_between_9 : decode cX4_between 9 = .ok (.ldc 58, 2) := by decide +kernel
theorem dX4_between_11 : decode cX4_between 11 = .ok (.ireturn, 1) := by decide +kernel
theorem dX4_between_12 : decode cX4_between 12 = .ok (.aload_n 0, 1) := by decide +kernel
theorem dX4_between_13 : decode cX4_between 13 = .ok (.getfield 10, 3) := by decide +kernel
theorem dX4_between_16 : decode cX4_between 16 = .ok (.getfield 59, 3) := by decide +kernel
theorem dX4_between_19 : decode cX4_between 19 = .ok (.iload_n 1, 1) := by decide +kernel
theorem dX4_between_20 : decode cX4_between 20 = .ok (.iload_n 2, 1) := by decide +kernel
theorem dX4_between_21 : decode cX4_between 21 = .ok (.invokevirtual 63, 3) := by decide +kernel
theorem dX4_between_24 : decode cX4_between 24 = .ok (.ireturn, 1) := by decide +kernel
theorem dX4_record_0 : decode cX4_record 0 = .ok (.iload_n 1, 1) := by decide +kernel
theorem dX4_record_1 : decode cX4_record 1 = .ok (.ifCond .lt 12, 3) := by decide +kernel
theorem dX4_record_4 : decode cX4_record 4 = .ok (.iload_n 2, 1) := by decide +kernel
theorem dX4_record_5 : decode cX4_record 5 = .ok (.iconst 0, 1) := by decide +kernel
theorem dX4_record_6 : decode cX4_record 6 = .ok (.iconst 3, 1) := by decide +kernel
theorem dX4_record_7 : decode cX4_record 7 = .ok (.invokestatic 38, 3) := by decide +kernel
theorem dX4_record_10 : decode cX4_record 10 = .ok (.ifCond .eq 6, 3) := by decide +kernel
theorem dX4_record_13 : decode cX4_record 13 = .ok (.ldc 42, 2) := by decide +kernel
theorem dX4_record_15 : decode cX4_record 15 = .ok (.ireturn, 1) := by decide +kernel
theorem dX4_record_16 : decode cX4_record 16 = .ok (.iload_n 1, 1) := by decide +kernel
theorem dX4_record_17 : decode cX4_record 17 = .ok (.aload_n 0, 1) := by decide +kernel
theorem dX4_record_18 : decode cX4_record 18 = .ok (.getfield 30, 3) := by decide +kernel
theorem dX4_record_21 : decode cX4_record 21 = .ok (.getfield 135, 3) := by decide +kernel
theorem dX4_record_24 : decode cX4_record 24 = .ok (.if_icmp .lt 5, 3) := by decide +kernel
theorem dX4_record_27 : decode cX4_record 27 = .ok (.iconst (-1), 1) := by decide +kernel
theorem dX4_record_28 : decode cX4_record 28 = .ok (.ireturn, 1) := by decide +kernel
theorem dX4_record_29 : decode cX4_record 29 = .ok (.iload_n 2, 1) := by decide +kernel
theorem dX4_record_30 : decode cX4_record 30 = .ok (.tableswitch 56 0 2 #[26, 36, 46], 26) := by decide +kernel
theorem dX4_record_56 : decode cX4_record 56 = .ok (.aload_n 0, 1) := by decide +kernel
theorem dX4_record_57 : decode cX4_record 57 = .ok (.getfield 30, 3) := by decide +kernel
theorem dX4_record_60 : decode cX4_record 60 = .ok (.getfield 202, 3) := by decide +kernel
theorem dX4_record_63 : decode cX4_record 63 = .ok (.iload_n 1, 1) := by decide +kernel
theorem dX4_record_64 : decode cX4_record 64 = .ok (.iaload, 1) := by decide +kernel
theorem dX4_record_65 : decode cX4_record 65 = .ok (.ireturn, 1) := by decide +kernel
theorem dX4_record_66 : decode cX4_record 66 = .ok (.aload_n 0, 1) := by decide +kernel
theorem dX4_record_67 : decode cX4_record 67 = .ok (.getfield 30, 3) := by decide +kernel
theorem dX4_record_70 : decode cX4_record 70 = .ok (.getfield 205, 3) := by decide +kernel
theorem dX4_record_73 : decode cX4_record 73 = .ok (.iload_n 1, 1) := by decide +kernel
theorem dX4_record_74 : decode cX4_record 74 = .ok (.iaload, 1) := by decide +kernel
theorem dX4_record_75 : decode cX4_record 75 = .ok (.ireturn, 1) := by decide +kernel
theorem dX4_record_76 : decode cX4_record 76 = .ok (.aload_n 0, 1) := by decide +kernel
theorem dX4_record_77 : decode cX4_record 77 = .ok (.getfield 30, 3) := by decide +kernel
theorem dX4_record_80 : decode cX4_record 80 = .ok (.getfield 208, 3) := by decide +kernel
theorem dX4_record_83 : decode cX4_record 83 = .ok (.iload_n 1, 1) := by decide +kernel
theorem dX4_record_84 : decode cX4_record 84 = .ok (.iaload, 1) := by decide +kernel
theorem dX4_record_85 : decode cX4_record 85 = .ok (.ireturn, 1) := by decide +kernel
theorem dX4_record_86 : decode cX4_record 86 = .ok (.aload_n 0, 1) := by decide +kernel
theorem dX4_record_87 : decode cX4_record 87 = .ok (.getfield 30, 3) := by decide +kernel
theorem dX4_record_90 : decode cX4_record 90 = .ok (.getfield 211, 3) := by decide +kernel
theorem dX4_record_93 : decode cX4_record 93 = .ok (.iload_n 1, 1) := by decide +kernel
theorem dX4_record_94 : decode cX4_record 94 = .ok (.iaload, 1) := by decide +kernel
theorem dX4_record_95 : decode cX4_record 95 = .ok (.ireturn, 1) := by decide +kernel
theorem dX4_ring_0 : decode cX4_ring 0 = .ok (.aload_n 0, 1) := by decide +kernel
theorem dX4_ring_1 : decode cX4_ring 1 = .ok (.iload_n 1, 1) := by decide +kernel
theorem dX4_ring_2 : decode cX4_ring 2 = .ok (.invokevirtual 143, 3) := by decide +kernel
theorem dX4_ring_5 : decode cX4_ring 5 = .ok (.ifCond .eq 6, 3) := by decide +kernel
theorem dX4_ring_8 : decode cX4_ring 8 = .ok (.ldc 58, 2) := by decide +kernel
theorem dX4_ring_10 : decode cX4_ring 10 = .ok (.ireturn, 1) := by decide +kernel
theorem dX4_ring_11 : decode cX4_ring 11 = .ok (.aload_n 0, 1) := by decide +kernel
theorem dX4_ring_12 : decode cX4_ring 12 = .ok (.iload_n 1, 1) := by decide +kernel
theorem dX4_ring_13 : decode cX4_ring 13 = .ok (.invokevirtual 214, 3) := by decide +kernel
theorem dX4_ring_16 : decode cX4_ring 16 = .ok (.istore_n 2, 1) := by decide +kernel
theorem dX4_ring_17 : decode cX4_ring 17 = .ok (.iload_n 2, 1) := by decide +kernel
theorem dX4_ring_18 : decode cX4_ring 18 = .ok (.ldc 217, 2) := by decide +kernel
theorem dX4_ring_20 : decode cX4_ring 20 = .ok (.if_icmp .ne 7, 3) := by decide +kernel
theorem dX4_ring_23 : decode cX4_ring 23 = .ok (.iconst (-1), 1) := by decide +kernel
theorem dX4_ring_24 : decode cX4_ring 24 = .ok (.goto 4, 3) := by decide +kernel
theorem dX4_ring_27 : decode cX4_ring 27 = .ok (.iload_n 2, 1) := by decide +kernel
theorem dX4_ring_28 : decode cX4_ring 28 = .ok (.ireturn, 1) := by decide +kernel
theorem dX4_waits_0 : decode cX4_waits 0 = .ok (.aload_n 0, 1) := by decide +kernel
theorem dX4_waits_1 : decode cX4_waits 1 = .ok (.iload_n 1, 1) := by decide +kernel
theorem dX4_waits_2 : decode cX4_waits 2 = .ok (.invokevirtual 143, 3) := by decide +kernel
theorem dX4_waits_5 : decode cX4_waits 5 = .ok (.ifCond .eq 6, 3) := by decide +kernel
theorem dX4_waits_8 : decode cX4_waits 8 = .ok (.ldc 58, 2) := by decide +kernel
theorem dX4_waits_10 : decode cX4_waits 10 = .ok (.ireturn, 1) := by decide +kernel
theorem dX4_waits_11 : decode cX4_waits 11 = .ok (.iconst 0, 1) := by decide +kernel
theorem dX4_waits_12 : decode cX4_waits 12 = .ok (.istore_n 2, 1) := by decide +kernel
theorem dX4_waits_13 : decode cX4_waits 13 = .ok (.iload_n 1, 1) := by decide +kernel
theorem dX4_waits_14 : decode cX4_waits 14 = .ok (.istore_n 3, 1) := by decide +kernel
theorem dX4_waits_15 : decode cX4_waits 15 = .ok (.iconst 0, 1) := by decide +kernel
theorem dX4_waits_16 : decode cX4_waits 16 = .ok (.istore 4, 2) := by decide +kernel
theorem dX4_waits_18 : decode cX4_waits 18 = .ok (.iload 4, 2) := by decide +kernel
theorem dX4_waits_20 : decode cX4_waits 20 = .ok (.bipush 6, 2) := by decide +kernel
theorem dX4_waits_22 : decode cX4_waits 22 = .ok (.if_icmp .ge 47, 3) := by decide +kernel
theorem dX4_waits_25 : decode cX4_waits 25 = .ok (.aload_n 0, 1) := by decide +kernel
theorem dX4_waits_26 : decode cX4_waits 26 = .ok (.getfield 10, 3) := by decide +kernel
theorem dX4_waits_29 : decode cX4_waits 29 = .ok (.iload_n 3, 1) := by decide +kernel
theorem dX4_waits_30 : decode cX4_waits 30 = .ok (.invokevirtual 172, 3) := by decide +kernel
theorem dX4_waits_33 : decode cX4_waits 33 = .ok (.istore 5, 2) := by decide +kernel
theorem dX4_waits_35 : decode cX4_waits 35 = .ok (.iload 5, 2) := by decide +kernel
theorem dX4_waits_37 : decode cX4_waits 37 = .ok (.iconst (-1), 1) := by decide +kernel
theorem dX4_waits_38 : decode cX4_waits 38 = .ok (.if_icmp .ne 5, 3) := by decide +kernel
theorem dX4_waits_41 : decode cX4_waits 41 = .ok (.iload_n 2, 1) := by decide +kernel
theorem dX4_waits_42 : decode cX4_waits 42 = .ok (.ireturn, 1) := by decide +kernel
theorem dX4_waits_43 : decode cX4_waits 43 = .ok (.aload_n 0, 1) := by decide +kernel
theorem dX4_waits_44 : decode cX4_waits 44 = .ok (.getfield 10, 3) := by decide +kernel
theorem dX4_waits_47 : decode cX4_waits 47 = .ok (.getfield 59, 3) := by decide +kernel
theorem dX4_waits_50 : decode cX4_waits 50 = .ok (.getfield 181, 3) := by decide +kernel
theorem dX4_waits_53 : decode cX4_waits 53 = .ok (.iload 5, 2) := by decide +kernel
theorem dX4_waits_55 : decode cX4_waits 55 = .ok (.iaload, 1) := by decide +kernel
theorem dX4_waits_56 : decode cX4_waits 56 = .ok (.istore_n 3, 1) := by decide +kernel
theorem dX4_waits_57 : decode cX4_waits 57 = .ok (.iload_n 2, 1) := by decide +kernel
theorem dX4_waits_58 : decode cX4_waits 58 = .ok (.iconst 1, 1) := by decide +kernel
theorem dX4_waits_59 : decode cX4_waits 59 = .ok (.iload_n 3, 1) := by decide +kernel
theorem dX4_waits_60 : decode cX4_waits 60 = .ok (.ishl, 1) := by decide +kernel
theorem dX4_waits_61 : decode cX4_waits 61 = .ok (.ior, 1) := by decide +kernel
theorem dX4_waits_62 : decode cX4_waits 62 = .ok (.istore_n 2, 1) := by decide +kernel
theorem dX4_waits_63 : decode cX4_waits 63 = .ok (.iinc 4 1, 3) := by decide +kernel
theorem dX4_waits_66 : decode cX4_waits 66 = .ok (.goto (-48), 3) := by decide +kernel
theorem dX4_waits_69 : decode cX4_waits 69 = .ok (.iload_n 2, 1) := by decide +kernel
theorem dX4_waits_70 : decode cX4_waits 70 = .ok (.ireturn, 1) := by decide +kernel
theorem dX4_inOrder_0 : decode cX4_inOrder 0 = .ok (.aload_n 0, 1) := by decide +kernel
theorem dX4_inOrder_1 : decode cX4_inOrder 1 = .ok (.iload_n 1, 1) := by decide +kernel
theorem dX4_inOrder_2 : decode cX4_inOrder 2 = .ok (.invokevirtual 143, 3) := by decide +kernel
theorem dX4_inOrder_5 : decode cX4_inOrder 5 = .ok (.ifCond .eq 6, 3) := by decide +kernel
theorem dX4_inOrder_8 : decode cX4_inOrder 8 = .ok (.ldc 58, 2) := by decide +kernel
theorem dX4_inOrder_10 : decode cX4_inOrder 10 = .ok (.ireturn, 1) := by decide +kernel
theorem dX4_inOrder_11 : decode cX4_inOrder 11 = .ok (.iload_n 2, 1) := by decide +kernel
theorem dX4_inOrder_12 : decode cX4_inOrder 12 = .ok (.iconst 0, 1) := by decide +kernel
theorem dX4_inOrder_13 : decode cX4_inOrder 13 = .ok (.iconst 1, 1) := by decide +kernel
theorem dX4_inOrder_14 : decode cX4_inOrder 14 = .ok (.invokestatic 38, 3) := by decide +kernel
theorem dX4_inOrder_17 : decode cX4_inOrder 17 = .ok (.ifCond .eq 6, 3) := by decide +kernel
theorem dX4_inOrder_20 : decode cX4_inOrder 20 = .ok (.ldc 42, 2) := by decide +kernel
theorem dX4_inOrder_22 : decode cX4_inOrder 22 = .ok (.ireturn, 1) := by decide +kernel
theorem dX4_inOrder_23 : decode cX4_inOrder 23 = .ok (.aload_n 0, 1) := by decide +kernel
theorem dX4_inOrder_24 : decode cX4_inOrder 24 = .ok (.getfield 16, 3) := by decide +kernel
theorem dX4_inOrder_27 : decode cX4_inOrder 27 = .ok (.aload_n 0, 1) := by decide +kernel
theorem dX4_inOrder_28 : decode cX4_inOrder 28 = .ok (.getfield 10, 3) := by decide +kernel
theorem dX4_inOrder_31 : decode cX4_inOrder 31 = .ok (.invokevirtual 218, 3) := by decide +kernel
theorem dX4_inOrder_34 : decode cX4_inOrder 34 = .ok (.iconst 0, 1) := by decide +kernel
theorem dX4_inOrder_35 : decode cX4_inOrder 35 = .ok (.istore_n 3, 1) := by decide +kernel
theorem dX4_inOrder_36 : decode cX4_inOrder 36 = .ok (.iload_n 3, 1) := by decide +kernel
theorem dX4_inOrder_37 : decode cX4_inOrder 37 = .ok (.sipush 300, 3) := by decide +kernel
theorem dX4_inOrder_40 : decode cX4_inOrder 40 = .ok (.if_icmp .ge 33, 3) := by decide +kernel
theorem dX4_inOrder_43 : decode cX4_inOrder 43 = .ok (.aload_n 0, 1) := by decide +kernel
theorem dX4_inOrder_44 : decode cX4_inOrder 44 = .ok (.getfield 16, 3) := by decide +kernel
theorem dX4_inOrder_47 : decode cX4_inOrder 47 = .ok (.invokevirtual 111, 3) := by decide +kernel
theorem dX4_inOrder_50 : decode cX4_inOrder 50 = .ok (.ifCond .le 23, 3) := by decide +kernel
theorem dX4_inOrder_53 : decode cX4_inOrder 53 = .ok (.aload_n 0, 1) := by decide +kernel
theorem dX4_inOrder_54 : decode cX4_inOrder 54 = .ok (.getfield 16, 3) := by decide +kernel
theorem dX4_inOrder_57 : decode cX4_inOrder 57 = .ok (.aload_n 0, 1) := by decide +kernel
theorem dX4_inOrder_58 : decode cX4_inOrder 58 = .ok (.getfield 16, 3) := by decide +kernel
theorem dX4_inOrder_61 : decode cX4_inOrder 61 = .ok (.invokevirtual 222, 3) := by decide +kernel
theorem dX4_inOrder_64 : decode cX4_inOrder 64 = .ok (.invokevirtual 225, 3) := by decide +kernel
theorem dX4_inOrder_67 : decode cX4_inOrder 67 = .ok (.iinc 3 1, 3) := by decide +kernel
theorem dX4_inOrder_70 : decode cX4_inOrder 70 = .ok (.goto (-34), 3) := by decide +kernel
theorem dX4_inOrder_73 : decode cX4_inOrder 73 = .ok (.iload_n 2, 1) := by decide +kernel
theorem dX4_inOrder_74 : decode cX4_inOrder 74 = .ok (.ifCond .ne 15, 3) := by decide +kernel
theorem dX4_inOrder_77 : decode cX4_inOrder 77 = .ok (.aload_n 0, 1) := by decide +kernel
theorem dX4_inOrder_78 : decode cX4_inOrder 78 = .ok (.getfield 16, 3) := by decide +kernel
theorem dX4_inOrder_81 : decode cX4_inOrder 81 = .ok (.getfield 146, 3) := by decide +kernel
theorem dX4_inOrder_84 : decode cX4_inOrder 84 = .ok (.iload_n 1, 1) := by decide +kernel
theorem dX4_inOrder_85 : decode cX4_inOrder 85 = .ok (.iaload, 1) := by decide +kernel
theorem dX4_inOrder_86 : decode cX4_inOrder 86 = .ok (.goto 12, 3) := by decide +kernel
theorem dX4_inOrder_89 : decode cX4_inOrder 89 = .ok (.aload_n 0, 1) := by decide +kernel
theorem dX4_inOrder_90 : decode cX4_inOrder 90 = .ok (.getfield 16, 3) := by decide +kernel
theorem dX4_inOrder_93 : decode cX4_inOrder 93 = .ok (.getfield 149, 3) := by decide +kernel
theorem dX4_inOrder_96 : decode cX4_inOrder 96 = .ok (.iload_n 1, 1) := by decide +kernel
theorem dX4_inOrder_97 : decode cX4_inOrder 97 = .ok (.iaload, 1) := by decide +kernel
theorem dX4_inOrder_98 : decode cX4_inOrder 98 = .ok (.ireturn, 1) := by decide +kernel
theorem dX4_keep_0 : decode cX4_keep 0 = .ok (.iload_n 1, 1) := by decide +kernel
theorem dX4_keep_1 : decode cX4_keep 1 = .ok (.invokestatic 228, 3) := by decide +kernel
theorem dX4_keep_4 : decode cX4_keep 4 = .ok (.ifCond .eq 6, 3) := by decide +kernel
theorem dX4_keep_7 : decode cX4_keep 7 = .ok (.ldc 58, 2) := by decide +kernel
theorem dX4_keep_9 : decode cX4_keep 9 = .ok (.ireturn, 1) := by decide +kernel
theorem dX4_keep_10 : decode cX4_keep 10 = .ok (.aload_n 0, 1) := by decide +kernel
theorem dX4_keep_11 : decode cX4_keep 11 = .ok (.getfield 19, 3) := by decide +kernel
theorem dX4_keep_14 : decode cX4_keep 14 = .ok (.iload_n 1, 1) := by decide +kernel
theorem dX4_keep_15 : decode cX4_keep 15 = .ok (.aaload, 1) := by decide +kernel
theorem dX4_keep_16 : decode cX4_keep 16 = .ok (.aload_n 0, 1) := by decide +kernel
theorem dX4_keep_17 : decode cX4_keep 17 = .ok (.getfield 10, 3) := by decide +kernel
theorem dX4_keep_20 : decode cX4_keep 20 = .ok (.invokevirtual 218, 3) := by decide +kernel
theorem dX4_keep_23 : decode cX4_keep 23 = .ok (.aload_n 0, 1) := by decide +kernel
theorem dX4_keep_24 : decode cX4_keep 24 = .ok (.getfield 23, 3) := by decide +kernel
theorem dX4_keep_27 : decode cX4_keep 27 = .ok (.iload_n 1, 1) := by decide +kernel
theorem dX4_keep_28 : decode cX4_keep 28 = .ok (.iconst 1, 1) := by decide +kernel
theorem dX4_keep_29 : decode cX4_keep 29 = .ok (.bastore, 1) := by decide +kernel
theorem dX4_keep_30 : decode cX4_keep 30 = .ok (.iconst 1, 1) := by decide +kernel
theorem dX4_keep_31 : decode cX4_keep 31 = .ok (.ireturn, 1) := by decide +kernel
theorem dX4_goBack_0 : decode cX4_goBack 0 = .ok (.iload_n 1, 1) := by decide +kernel
theorem dX4_goBack_1 : decode cX4_goBack 1 = .ok (.invokestatic 228, 3) := by decide +kernel
theorem dX4_goBack_4 : decode cX4_goBack 4 = .ok (.ifCond .eq 6, 3) := by decide +kernel
theorem dX4_goBack_7 : decode cX4_goBack 7 = .ok (.ldc 58, 2) := by decide +kernel
theorem dX4_goBack_9 : decode cX4_goBack 9 = .ok (.ireturn, 1) := by decide +kernel
theorem dX4_goBack_10 : decode cX4_goBack 10 = .ok (.aload_n 0, 1) := by decide +kernel
theorem dX4_goBack_11 : decode cX4_goBack 11 = .ok (.getfield 23, 3) := by decide +kernel
theorem dX4_goBack_14 : decode cX4_goBack 14 = .ok (.iload_n 1, 1) := by decide +kernel
theorem dX4_goBack_15 : decode cX4_goBack 15 = .ok (.baload, 1) := by decide +kernel
theorem dX4_goBack_16 : decode cX4_goBack 16 = .ok (.ifCond .ne 6, 3) := by decide +kernel
theorem dX4_goBack_19 : decode cX4_goBack 19 = .ok (.ldc 73, 2) := by decide +kernel
theorem dX4_goBack_21 : decode cX4_goBack 21 = .ok (.ireturn, 1) := by decide +kernel
theorem dX4_goBack_22 : decode cX4_goBack 22 = .ok (.aload_n 0, 1) := by decide +kernel
theorem dX4_goBack_23 : decode cX4_goBack 23 = .ok (.getfield 10, 3) := by decide +kernel
theorem dX4_goBack_26 : decode cX4_goBack 26 = .ok (.aload_n 0, 1) := by decide +kernel
theorem dX4_goBack_27 : decode cX4_goBack 27 = .ok (.getfield 19, 3) := by decide +kernel
theorem dX4_goBack_30 : decode cX4_goBack 30 = .ok (.iload_n 1, 1) := by decide +kernel
theorem dX4_goBack_31 : decode cX4_goBack 31 = .ok (.aaload, 1) := by decide +kernel
theorem dX4_goBack_32 : decode cX4_goBack 32 = .ok (.invokevirtual 218, 3) := by decide +kernel
theorem dX4_goBack_35 : decode cX4_goBack 35 = .ok (.iconst 1, 1) := by decide +kernel
theorem dX4_goBack_36 : decode cX4_goBack 36 = .ok (.ireturn, 1) := by decide +kernel
theorem dX4_isOutside_0 : decode cX4_isOutside 0 = .ok (.iload_n 0, 1) := by decide +kernel
theorem dX4_isOutside_1 : decode cX4_isOutside 1 = .ok (.iload_n 1, 1) := by decide +kernel
theorem dX4_isOutside_2 : decode cX4_isOutside 2 = .ok (.if_icmp .lt 8, 3) := by decide +kernel
theorem dX4_isOutside_5 : decode cX4_isOutside 5 = .ok (.iload_n 0, 1) := by decide +kernel
theorem dX4_isOutside_6 : decode cX4_isOutside 6 = .ok (.iload_n 2, 1) := by decide +kernel
theorem dX4_isOutside_7 : decode cX4_isOutside 7 = .ok (.if_icmp .le 7, 3) := by decide +kernel
theorem dX4_isOutside_10 : decode cX4_isOutside 10 = .ok (.iconst 1, 1) := by decide +kernel
theorem dX4_isOutside_11 : decode cX4_isOutside 11 = .ok (.goto 4, 3) := by decide +kernel
theorem dX4_isOutside_14 : decode cX4_isOutside 14 = .ok (.iconst 0, 1) := by decide +kernel
theorem dX4_isOutside_15 : decode cX4_isOutside 15 = .ok (.ireturn, 1) := by decide +kernel
theorem dX4_isNoImage_0 : decode cX4_isNoImage 0 = .ok (.iload_n 0, 1) := by decide +kernel
theorem dX4_isNoImage_1 : decode cX4_isNoImage 1 = .ok (.ifCond .lt 8, 3) := by decide +kernel
theorem dX4_isNoImage_4 : decode cX4_isNoImage 4 = .ok (.iload_n 0, 1) := by decide +kernel
theorem dX4_isNoImage_5 : decode cX4_isNoImage 5 = .ok (.iconst 2, 1) := by decide +kernel
theorem dX4_isNoImage_6 : decode cX4_isNoImage 6 = .ok (.if_icmp .lt 7, 3) := by decide +kernel
theorem dX4_isNoImage_9 : decode cX4_isNoImage 9 = .ok (.iconst 1, 1) := by decide +kernel
theorem dX4_isNoImage_10 : decode cX4_isNoImage 10 = .ok (.goto 4, 3) := by decide +kernel
theorem dX4_isNoImage_13 : decode cX4_isNoImage 13 = .ok (.iconst 0, 1) := by decide +kernel
theorem dX4_isNoImage_14 : decode cX4_isNoImage 14 = .ok (.ireturn, 1) := by decide +kernel
theorem dX4_isNoPart_0 : decode cX4_isNoPart 0 = .ok (.iload_n 1, 1) := by decide +kernel
theorem dX4_isNoPart_1 : decode cX4_isNoPart 1 = .ok (.ifCond .lt 14, 3) := by decide +kernel
theorem dX4_isNoPart_4 : decode cX4_isNoPart 4 = .ok (.iload_n 1, 1) := by decide +kernel
theorem dX4_isNoPart_5 : decode cX4_isNoPart 5 = .ok (.aload_n 0, 1) := by decide +kernel
theorem dX4_isNoPart_6 : decode cX4_isNoPart 6 = .ok (.getfield 10, 3) := by decide +kernel
theorem dX4_isNoPart_9 : decode cX4_isNoPart 9 = .ok (.getfield 93, 3) := by decide +kernel
theorem dX4_isNoPart_12 : decode cX4_isNoPart 12 = .ok (.if_icmp .lt 7, 3) := by decide +kernel
theorem dX4_isNoPart_15 : decode cX4_isNoPart 15 = .ok (.iconst 1, 1) := by decide +kernel
theorem dX4_isNoPart_16 : decode cX4_isNoPart 16 = .ok (.goto 4, 3) := by decide +kernel
theorem dX4_isNoPart_19 : decode cX4_isNoPart 19 = .ok (.iconst 0, 1) := by decide +kernel
theorem dX4_isNoPart_20 : decode cX4_isNoPart 20 = .ok (.ireturn, 1) := by decide +kernel
theorem dX4_areNotTwoParts_0 : decode cX4_areNotTwoParts 0 = .ok (.aload_n 0, 1) := by decide +kernel
theorem dX4_areNotTwoParts_1 : decode cX4_areNotTwoParts 1 = .ok (.iload_n 1, 1) := by decide +kernel
theorem dX4_areNotTwoParts_2 : decode cX4_areNotTwoParts 2 = .ok (.invokevirtual 143, 3) := by decide +kernel
theorem dX4_areNotTwoParts_5 : decode cX4_areNotTwoParts 5 = .ok (.ifCond .ne 16, 3) := by decide +kernel
theorem dX4_areNotTwoParts_8 : decode cX4_areNotTwoParts 8 = .ok (.aload_n 0, 1) := by decide +kernel
theorem dX4_areNotTwoParts_9 : decode cX4_areNotTwoParts 9 = .ok (.iload_n 2, 1) := by decide +kernel
theorem dX4_areNotTwoParts_10 : decode cX4_areNotTwoParts 10 = .ok (.invokevirtual 143, 3) := by decide +kernel
theorem dX4_areNotTwoParts_13 : decode cX4_areNotTwoParts 13 = .ok (.ifCond .ne 8, 3) := by decide +kernel
theorem dX4_areNotTwoParts_16 : decode cX4_areNotTwoParts 16 = .ok (.iload_n 1, 1) := by decide +kernel
theorem dX4_areNotTwoParts_17 : decode cX4_areNotTwoParts 17 = .ok (.iload_n 2, 1) := by decide +kernel
theorem dX4_areNotTwoParts_18 : decode cX4_areNotTwoParts 18 = .ok (.if_icmp .ne 7, 3) := by decide +kernel
theorem dX4_areNotTwoParts_21 : decode cX4_areNotTwoParts 21 = .ok (.iconst 1, 1) := by decide +kernel
theorem dX4_areNotTwoParts_22 : decode cX4_areNotTwoParts 22 = .ok (.goto 4, 3) := by decide +kernel
theorem dX4_areNotTwoParts_25 : decode cX4_areNotTwoParts 25 = .ok (.iconst 0, 1) := by decide +kernel
theorem dX4_areNotTwoParts_26 : decode cX4_areNotTwoParts 26 = .ok (.ireturn, 1) := by decide +kernel
theorem dX4_refusalOfEvent_0 : decode cX4_refusalOfEvent 0 = .ok (.aload_n 0, 1) := by decide +kernel
theorem dX4_refusalOfEvent_1 : decode cX4_refusalOfEvent 1 = .ok (.iload_n 1, 1) := by decide +kernel
theorem dX4_refusalOfEvent_2 : decode cX4_refusalOfEvent 2 = .ok (.invokevirtual 143, 3) := by decide +kernel
theorem dX4_refusalOfEvent_5 : decode cX4_refusalOfEvent 5 = .ok (.ifCond .eq 6, 3) := by decide +kernel
theorem dX4_refusalOfEvent_8 : decode cX4_refusalOfEvent 8 = .ok (.ldc 58, 2) := by decide +kernel
theorem dX4_refusalOfEvent_10 : decode cX4_refusalOfEvent 10 = .ok (.ireturn, 1) := by decide +kernel
theorem dX4_refusalOfEvent_11 : decode cX4_refusalOfEvent 11 = .ok (.iload_n 2, 1) := by decide +kernel
theorem dX4_refusalOfEvent_12 : decode cX4_refusalOfEvent 12 = .ok (.iconst 0, 1) := by decide +kernel
theorem dX4_refusalOfEvent_13 : decode cX4_refusalOfEvent 13 = .ok (.sipush 9999, 3) := by decide +kernel
theorem dX4_refusalOfEvent_16 : decode cX4_refusalOfEvent 16 = .ok (.invokestatic 38, 3) := by decide +kernel
theorem dX4_refusalOfEvent_19 : decode cX4_refusalOfEvent 19 = .ok (.ifCond .ne 13, 3) := by decide +kernel
theorem dX4_refusalOfEvent_22 : decode cX4_refusalOfEvent 22 = .ok (.iload_n 3, 1) := by decide +kernel
theorem dX4_refusalOfEvent_23 : decode cX4_refusalOfEvent 23 = .ok (.iconst 0, 1) := by decide +kernel
theorem dX4_refusalOfEvent_24 : decode cX4_refusalOfEvent 24 = .ok (.bipush 99, 2) := by decide +kernel
theorem dX4_refusalOfEvent_26 : decode cX4_refusalOfEvent 26 = .ok (.invokestatic 38, 3) := by decide +kernel
theorem dX4_refusalOfEvent_29 : decode cX4_refusalOfEvent 29 = .ok (.ifCond .eq 6, 3) := by decide +kernel
theorem dX4_refusalOfEvent_32 : decode cX4_refusalOfEvent 32 = .ok (.ldc 42, 2) := by decide +kernel
theorem dX4_refusalOfEvent_34 : decode cX4_refusalOfEvent 34 = .ok (.ireturn, 1) := by decide +kernel
theorem dX4_refusalOfEvent_35 : decode cX4_refusalOfEvent 35 = .ok (.aload_n 0, 1) := by decide +kernel
theorem dX4_refusalOfEvent_36 : decode cX4_refusalOfEvent 36 = .ok (.getfield 10, 3) := by decide +kernel
theorem dX4_refusalOfEvent_39 : decode cX4_refusalOfEvent 39 = .ok (.iload_n 1, 1) := by decide +kernel
theorem dX4_refusalOfEvent_40 : decode cX4_refusalOfEvent 40 = .ok (.iload_n 2, 1) := by decide +kernel
theorem dX4_refusalOfEvent_41 : decode cX4_refusalOfEvent 41 = .ok (.invokevirtual 231, 3) := by decide +kernel
theorem dX4_refusalOfEvent_44 : decode cX4_refusalOfEvent 44 = .ok (.ifCond .ne 18, 3) := by decide +kernel
theorem dX4_refusalOfEvent_47 : decode cX4_refusalOfEvent 47 = .ok (.aload_n 0, 1) := by decide +kernel
theorem dX4_refusalOfEvent_48 : decode cX4_refusalOfEvent 48 = .ok (.getfield 10, 3) := by decide +kernel
theorem dX4_refusalOfEvent_51 : decode cX4_refusalOfEvent 51 = .ok (.getfield 59, 3) := by decide +kernel
theorem dX4_refusalOfEvent_54 : decode cX4_refusalOfEvent 54 = .ok (.iload_n 1, 1) := by decide +kernel
theorem dX4_refusalOfEvent_55 : decode cX4_refusalOfEvent 55 = .ok (.iload_n 2, 1) := by decide +kernel
theorem dX4_refusalOfEvent_56 : decode cX4_refusalOfEvent 56 = .ok (.invokevirtual 234, 3) := by decide +kernel
theorem dX4_refusalOfEvent_59 : decode cX4_refusalOfEvent 59 = .ok (.ifCond .eq 6, 3) := by decide +kernel
theorem dX4_refusalOfEvent_62 : decode cX4_refusalOfEvent 62 = .ok (.ldc 73, 2) := by decide +kernel
theorem dX4_refusalOfEvent_64 : decode cX4_refusalOfEvent 64 = .ok (.ireturn, 1) := by decide +kernel
theorem dX4_refusalOfEvent_65 : decode cX4_refusalOfEvent 65 = .ok (.aload_n 0, 1) := by decide +kernel
theorem dX4_refusalOfEvent_66 : decode cX4_refusalOfEvent 66 = .ok (.getfield 10, 3) := by decide +kernel
theorem dX4_refusalOfEvent_69 : decode cX4_refusalOfEvent 69 = .ok (.getfield 140, 3) := by decide +kernel
theorem dX4_refusalOfEvent_72 : decode cX4_refusalOfEvent 72 = .ok (.bipush 30, 2) := by decide +kernel
theorem dX4_refusalOfEvent_74 : decode cX4_refusalOfEvent 74 = .ok (.if_icmp .lt 8, 3) := by decide +kernel
theorem dX4_refusalOfEvent_77 : decode cX4_refusalOfEvent 77 = .ok (.ldc 77, 2) := by decide +kernel
theorem dX4_refusalOfEvent_79 : decode cX4_refusalOfEvent 79 = .ok (.goto 4, 3) := by decide +kernel
theorem dX4_refusalOfEvent_82 : decode cX4_refusalOfEvent 82 = .ok (.iconst 0, 1) := by decide +kernel
theorem dX4_refusalOfEvent_83 : decode cX4_refusalOfEvent 83 = .ok (.ireturn, 1) := by decide +kernel
theorem dX4_nothingIsRun_0 : decode cX4_nothingIsRun 0 = .ok (.aload_n 0, 1) := by decide +kernel
theorem dX4_nothingIsRun_1 : decode cX4_nothingIsRun 1 = .ok (.getfield 10, 3) := by decide +kernel
theorem dX4_nothingIsRun_4 : decode cX4_nothingIsRun 4 = .ok (.getfield 93, 3) := by decide +kernel
theorem dX4_nothingIsRun_7 : decode cX4_nothingIsRun 7 = .ok (.ifCond .ne 5, 3) := by decide +kernel
theorem dX4_nothingIsRun_10 : decode cX4_nothingIsRun 10 = .ok (.iconst 1, 1) := by decide +kernel
theorem dX4_nothingIsRun_11 : decode cX4_nothingIsRun 11 = .ok (.ireturn, 1) := by decide +kernel
theorem dX4_nothingIsRun_12 : decode cX4_nothingIsRun 12 = .ok (.aload_n 0, 1) := by decide +kernel
theorem dX4_nothingIsRun_13 : decode cX4_nothingIsRun 13 = .ok (.getfield 10, 3) := by decide +kernel
theorem dX4_nothingIsRun_16 : decode cX4_nothingIsRun 16 = .ok (.getfield 89, 3) := by decide +kernel
theorem dX4_nothingIsRun_19 : decode cX4_nothingIsRun 19 = .ok (.iconst 1, 1) := by decide +kernel
theorem dX4_nothingIsRun_20 : decode cX4_nothingIsRun 20 = .ok (.if_icmp .eq 27, 3) := by decide +kernel
theorem dX4_nothingIsRun_23 : decode cX4_nothingIsRun 23 = .ok (.aload_n 0, 1) := by decide +kernel
theorem dX4_nothingIsRun_24 : decode cX4_nothingIsRun 24 = .ok (.getfield 10, 3) := by decide +kernel
theorem dX4_nothingIsRun_27 : decode cX4_nothingIsRun 27 = .ok (.getfield 59, 3) := by decide +kernel
theorem dX4_nothingIsRun_30 : decode cX4_nothingIsRun 30 = .ok (.aload_n 0, 1) := by decide +kernel
theorem dX4_nothingIsRun_31 : decode cX4_nothingIsRun 31 = .ok (.getfield 10, 3) := by decide +kernel
theorem dX4_nothingIsRun_34 : decode cX4_nothingIsRun 34 = .ok (.getfield 93, 3) := by decide +kernel
theorem dX4_nothingIsRun_37 : decode cX4_nothingIsRun 37 = .ok (.invokevirtual 136, 3) := by decide +kernel
theorem dX4_nothingIsRun_40 : decode cX4_nothingIsRun 40 = .ok (.ifCond .eq 7, 3) := by decide +kernel
theorem dX4_nothingIsRun_43 : decode cX4_nothingIsRun 43 = .ok (.iconst 1, 1) := by decide +kernel
theorem dX4_nothingIsRun_44 : decode cX4_nothingIsRun 44 = .ok (.goto 4, 3) := by decide +kernel
theorem dX4_nothingIsRun_47 : decode cX4_nothingIsRun 47 = .ok (.iconst 0, 1) := by decide +kernel
theorem dX4_nothingIsRun_48 : decode cX4_nothingIsRun 48 = .ok (.ireturn, 1) := by decide +kernel
theorem dX4_nextLot_0 : decode cX4_nextLot 0 = .ok (.lload_n 0, 1) := by decide +kernel
theorem dX4_nextLot_1 : decode cX4_nextLot 1 = .ok (.ldc2_w 237, 3) := by decide +kernel
theorem dX4_nextLot_4 : decode cX4_nextLot 4 = .ok (.lmul, 1) := by decide +kernel
theorem dX4_nextLot_5 : decode cX4_nextLot 5 = .ok (.ldc2_w 239, 3) := by decide +kernel
theorem dX4_nextLot_8 : decode cX4_nextLot 8 = .ok (.lrem, 1) := by decide +kernel
theorem dX4_nextLot_9 : decode cX4_nextLot 9 = .ok (.lreturn, 1) := by decide +kernel
theorem dX4_isStillAfterRound_0 : decode cX4_isStillAfterRound 0 = .ok (.aload_n 0, 1) := by decide +kernel
theorem dX4_isStillAfterRound_1 : decode cX4_isStillAfterRound 1 = .ok (.getfield 10, 3) := by decide +kernel
theorem dX4_isStillAfterRound_4 : decode cX4_isStillAfterRound 4 = .ok (.getfield 43, 3) := by decide +kernel
theorem dX4_isStillAfterRound_7 : decode cX4_isStillAfterRound 7 = .ok (.istore_n 1, 1) := by decide +kernel
theorem dX4_isStillAfterRound_8 : decode cX4_isStillAfterRound 8 = .ok (.aload_n 0, 1) := by decide +kernel
theorem dX4_isStillAfterRound_9 : decode cX4_isStillAfterRound 9 = .ok (.getfield 10, 3) := by decide +kernel
theorem dX4_isStillAfterRound_12 : decode cX4_isStillAfterRound 12 = .ok (.getfield 123, 3) := by decide +kernel
theorem dX4_isStillAfterRound_15 : decode cX4_isStillAfterRound 15 = .ok (.istore_n 2, 1) := by decide +kernel
theorem dX4_isStillAfterRound_16 : decode cX4_isStillAfterRound 16 = .ok (.iconst 0, 1) := by decide +kernel
theorem dX4_isStillAfterRound_17 : decode cX4_isStillAfterRound 17 = .ok (.istore_n 3, 1) := by decide +kernel
theorem dX4_isStillAfterRound_18 : decode cX4_isStillAfterRound 18 = .ok (.iload_n 3, 1) := by decide +kernel
theorem dX4_isStillAfterRound_19 : decode cX4_isStillAfterRound 19 = .ok (.aload_n 0, 1) := by decide +kernel
theorem dX4_isStillAfterRound_20 : decode cX4_isStillAfterRound 20 = .ok (.getfield 10, 3) := by decide +kernel
theorem dX4_isStillAfterRound_23 : decode cX4_isStillAfterRound 23 = .ok (.getfield 93, 3) := by decide +kernel
theorem dX4_isStillAfterRound_26 : decode cX4_isStillAfterRound 26 = .ok (.if_icmp .ge 25, 3) := by decide +kernel
theorem dX4_isStillAfterRound_29 : decode cX4_isStillAfterRound 29 = .ok (.aload_n 0, 1) := by decide +kernel
theorem dX4_isStillAfterRound_30 : decode cX4_isStillAfterRound 30 = .ok (.getfield 10, 3) := by decide +kernel
theorem dX4_isStillAfterRound_33 : decode cX4_isStillAfterRound 33 = .ok (.iload_n 3, 1) := by decide +kernel
theorem dX4_isStillAfterRound_34 : decode cX4_isStillAfterRound 34 = .ok (.invokevirtual 169, 3) := by decide +kernel
theorem dX4_isStillAfterRound_37 : decode cX4_isStillAfterRound 37 = .ok (.ifCond .eq 8, 3) := by decide +kernel
theorem dX4_isStillAfterRound_40 : decode cX4_isStillAfterRound 40 = .ok (.aload_n 0, 1) := by decide +kernel
theorem dX4_isStillAfterRound_41 : decode cX4_isStillAfterRound 41 = .ok (.iload_n 3, 1) := by decide +kernel
theorem dX4_isStillAfterRound_42 : decode cX4_isStillAfterRound 42 = .ok (.invokevirtual 241, 3) := by decide +kernel
theorem dX4_isStillAfterRound_45 : decode cX4_isStillAfterRound 45 = .ok (.iinc 3 1, 3) := by decide +kernel
theorem dX4_isStillAfterRound_48 : decode cX4_isStillAfterRound 48 = .ok (.goto (-30), 3) := by decide +kernel
theorem dX4_isStillAfterRound_51 : decode cX4_isStillAfterRound 51 = .ok (.aload_n 0, 1) := by decide +kernel
theorem dX4_isStillAfterRound_52 : decode cX4_isStillAfterRound 52 = .ok (.getfield 10, 3) := by decide +kernel
theorem dX4_isStillAfterRound_55 : decode cX4_isStillAfterRound 55 = .ok (.getfield 89, 3) := by decide +kernel
theorem dX4_isStillAfterRound_58 : decode cX4_isStillAfterRound 58 = .ok (.iconst 1, 1) := by decide +kernel
theorem dX4_isStillAfterRound_59 : decode cX4_isStillAfterRound 59 = .ok (.if_icmp .eq 30, 3) := by decide +kernel
theorem dX4_isStillAfterRound_62 : decode cX4_isStillAfterRound 62 = .ok (.iconst 0, 1) := by decide +kernel
theorem dX4_isStillAfterRound_63 : decode cX4_isStillAfterRound 63 = .ok (.istore_n 3, 1) := by decide +kernel
theorem dX4_isStillAfterRound_64 : decode cX4_isStillAfterRound 64 = .ok (.iload_n 3, 1) := by decide +kernel
theorem dX4_isStillAfterRound_65 : decode cX4_isStillAfterRound 65 = .ok (.aload_n 0, 1) := by decide +kernel
theorem dX4_isStillAfterRound_66 : decode cX4_isStillAfterRound 66 = .ok (.getfield 10, 3) := by decide +kernel
theorem dX4_isStillAfterRound_69 : decode cX4_isStillAfterRound 69 = .ok (.getfield 93, 3) := by decide +kernel
theorem dX4_isStillAfterRound_72 : decode cX4_isStillAfterRound 72 = .ok (.if_icmp .ge 17, 3) := by decide +kernel
theorem dX4_isStillAfterRound_75 : decode cX4_isStillAfterRound 75 = .ok (.aload_n 0, 1) := by decide +kernel
theorem dX4_isStillAfterRound_76 : decode cX4_isStillAfterRound 76 = .ok (.getfield 10, 3) := by decide +kernel
theorem dX4_isStillAfterRound_79 : decode cX4_isStillAfterRound 79 = .ok (.iload_n 3, 1) := by decide +kernel
theorem dX4_isStillAfterRound_80 : decode cX4_isStillAfterRound 80 = .ok (.invokevirtual 244, 3) := by decide +kernel
theorem dX4_isStillAfterRound_83 : decode cX4_isStillAfterRound 83 = .ok (.iinc 3 1, 3) := by decide +kernel
theorem dX4_isStillAfterRound_86 : decode cX4_isStillAfterRound 86 = .ok (.goto (-22), 3) := by decide +kernel
theorem dX4_isStillAfterRound_89 : decode cX4_isStillAfterRound 89 = .ok (.aload_n 0, 1) := by decide +kernel
theorem dX4_isStillAfterRound_90 : decode cX4_isStillAfterRound 90 = .ok (.getfield 10, 3) := by decide +kernel
theorem dX4_isStillAfterRound_93 : decode cX4_isStillAfterRound 93 = .ok (.dup, 1) := by decide +kernel
theorem dX4_isStillAfterRound_94 : decode cX4_isStillAfterRound 94 = .ok (.getfield 126, 3) := by decide +kernel
theorem dX4_isStillAfterRound_97 : decode cX4_isStillAfterRound 97 = .ok (.iconst 1, 1) := by decide +kernel
theorem dX4_isStillAfterRound_98 : decode cX4_isStillAfterRound 98 = .ok (.iadd, 1) := by decide +kernel
theorem dX4_isStillAfterRound_99 : decode cX4_isStillAfterRound 99 = .ok (.putfield 126, 3) := by decide +kernel
theorem dX4_isStillAfterRound_102 : decode cX4_isStillAfterRound 102 = .ok (.aload_n 0, 1) := by decide +kernel
theorem dX4_isStillAfterRound_103 : decode cX4_isStillAfterRound 103 = .ok (.getfield 10, 3) := by decide +kernel
theorem dX4_isStillAfterRound_106 : decode cX4_isStillAfterRound 106 = .ok (.getfield 43, 3) := by decide +kernel
theorem dX4_isStillAfterRound_109 : decode cX4_isStillAfterRound 109 = .ok (.iload_n 1, 1) := by decide +kernel
theorem dX4_isStillAfterRound_110 : decode cX4_isStillAfterRound 110 = .ok (.if_icmp .ne 28, 3) := by decide +kernel
theorem dX4_isStillAfterRound_113 : decode cX4_isStillAfterRound 113 = .ok (.aload_n 0, 1) := by decide +kernel
theorem dX4_isStillAfterRound_114 : decode cX4_isStillAfterRound 114 = .ok (.getfield 10, 3) := by decide +kernel
theorem dX4_isStillAfterRound_117 : decode cX4_isStillAfterRound 117 = .ok (.getfield 123, 3) := by decide +kernel
theorem dX4_isStillAfterRound_120 : decode cX4_isStillAfterRound 120 = .ok (.iload_n 2, 1) := by decide +kernel
theorem dX4_isStillAfterRound_121 : decode cX4_isStillAfterRound 121 = .ok (.if_icmp .ne 17, 3) := by decide +kernel
theorem dX4_isStillAfterRound_124 : decode cX4_isStillAfterRound 124 = .ok (.aload_n 0, 1) := by decide +kernel
theorem dX4_isStillAfterRound_125 : decode cX4_isStillAfterRound 125 = .ok (.getfield 10, 3) := by decide +kernel
theorem dX4_isStillAfterRound_128 : decode cX4_isStillAfterRound 128 = .ok (.invokevirtual 111, 3) := by decide +kernel
theorem dX4_isStillAfterRound_131 : decode cX4_isStillAfterRound 131 = .ok (.ifCond .le 7, 3) := by decide +kernel
theorem dX4_isStillAfterRound_134 : decode cX4_isStillAfterRound 134 = .ok (.iconst 1, 1) := by decide +kernel
theorem dX4_isStillAfterRound_135 : decode cX4_isStillAfterRound 135 = .ok (.goto 4, 3) := by decide +kernel
theorem dX4_isStillAfterRound_138 : decode cX4_isStillAfterRound 138 = .ok (.iconst 0, 1) := by decide +kernel
theorem dX4_isStillAfterRound_139 : decode cX4_isStillAfterRound 139 = .ok (.ireturn, 1) := by decide +kernel
theorem dX4_letEarliestGo_0 : decode cX4_letEarliestGo 0 = .ok (.aload_n 0, 1) := by decide +kernel
theorem dX4_letEarliestGo_1 : decode cX4_letEarliestGo 1 = .ok (.getfield 10, 3) := by decide +kernel
theorem dX4_letEarliestGo_4 : decode cX4_letEarliestGo 4 = .ok (.invokevirtual 132, 3) := by decide +kernel
theorem dX4_letEarliestGo_7 : decode cX4_letEarliestGo 7 = .ok (.istore_n 1, 1) := by decide +kernel
theorem dX4_letEarliestGo_8 : decode cX4_letEarliestGo 8 = .ok (.iconst 0, 1) := by decide +kernel
theorem dX4_letEarliestGo_9 : decode cX4_letEarliestGo 9 = .ok (.istore_n 2, 1) := by decide +kernel
theorem dX4_letEarliestGo_10 : decode cX4_letEarliestGo 10 = .ok (.iload_n 2, 1) := by decide +kernel
theorem dX4_letEarliestGo_11 : decode cX4_letEarliestGo 11 = .ok (.aload_n 0, 1) := by decide +kernel
theorem dX4_letEarliestGo_12 : decode cX4_letEarliestGo 12 = .ok (.getfield 10, 3) := by decide +kernel
theorem dX4_letEarliestGo_15 : decode cX4_letEarliestGo 15 = .ok (.getfield 93, 3) := by decide +kernel
theorem dX4_letEarliestGo_18 : decode cX4_letEarliestGo 18 = .ok (.if_icmp .ge 44, 3) := by decide +kernel
theorem dX4_letEarliestGo_21 : decode cX4_letEarliestGo 21 = .ok (.iconst 0, 1) := by decide +kernel
theorem dX4_letEarliestGo_22 : decode cX4_letEarliestGo 22 = .ok (.istore_n 3, 1) := by decide +kernel
theorem dX4_letEarliestGo_23 : decode cX4_letEarliestGo 23 = .ok (.iload_n 3, 1) := by decide +kernel
theorem dX4_letEarliestGo_24 : decode cX4_letEarliestGo 24 = .ok (.bipush 30, 2) := by decide +kernel
theorem dX4_letEarliestGo_26 : decode cX4_letEarliestGo 26 = .ok (.if_icmp .ge 30, 3) := by decide +kernel
theorem dX4_letEarliestGo_29 : decode cX4_letEarliestGo 29 = .ok (.aload_n 0, 1) := by decide +kernel
theorem dX4_letEarliestGo_30 : decode cX4_letEarliestGo 30 = .ok (.getfield 10, 3) := by decide +kernel
theorem dX4_letEarliestGo_33 : decode cX4_letEarliestGo 33 = .ok (.getfield 156, 3) := by decide +kernel
theorem dX4_letEarliestGo_36 : decode cX4_letEarliestGo 36 = .ok (.iload_n 2, 1) := by decide +kernel
theorem dX4_letEarliestGo_37 : decode cX4_letEarliestGo 37 = .ok (.aaload, 1) := by decide +kernel
theorem dX4_letEarliestGo_38 : decode cX4_letEarliestGo 38 = .ok (.invokevirtual 163, 3) := by decide +kernel
theorem dX4_letEarliestGo_41 : decode cX4_letEarliestGo 41 = .ok (.iload_n 1, 1) := by decide +kernel
theorem dX4_letEarliestGo_42 : decode cX4_letEarliestGo 42 = .ok (.if_icmp .ne 14, 3) := by decide +kernel
theorem dX4_letEarliestGo_45 : decode cX4_letEarliestGo 45 = .ok (.aload_n 0, 1) := by decide +kernel
theorem dX4_letEarliestGo_46 : decode cX4_letEarliestGo 46 = .ok (.iload_n 2, 1) := by decide +kernel
theorem dX4_letEarliestGo_47 : decode cX4_letEarliestGo 47 = .ok (.invokevirtual 241, 3) := by decide +kernel
theorem dX4_letEarliestGo_50 : decode cX4_letEarliestGo 50 = .ok (.iinc 3 1, 3) := by decide +kernel
theorem dX4_letEarliestGo_53 : decode cX4_letEarliestGo 53 = .ok (.goto (-30), 3) := by decide +kernel
theorem dX4_letEarliestGo_56 : decode cX4_letEarliestGo 56 = .ok (.iinc 2 1, 3) := by decide +kernel
theorem dX4_letEarliestGo_59 : decode cX4_letEarliestGo 59 = .ok (.goto (-49), 3) := by decide +kernel
theorem dX4_letEarliestGo_62 : decode cX4_letEarliestGo 62 = .ok (.aload_n 0, 1) := by decide +kernel
theorem dX4_letEarliestGo_63 : decode cX4_letEarliestGo 63 = .ok (.getfield 10, 3) := by decide +kernel
theorem dX4_letEarliestGo_66 : decode cX4_letEarliestGo 66 = .ok (.getfield 59, 3) := by decide +kernel
theorem dX4_letEarliestGo_69 : decode cX4_letEarliestGo 69 = .ok (.iload_n 1, 1) := by decide +kernel
theorem dX4_letEarliestGo_70 : decode cX4_letEarliestGo 70 = .ok (.iconst 1, 1) := by decide +kernel
theorem dX4_letEarliestGo_71 : decode cX4_letEarliestGo 71 = .ok (.iadd, 1) := by decide +kernel
theorem dX4_letEarliestGo_72 : decode cX4_letEarliestGo 72 = .ok (.invokevirtual 247, 3) := by decide +kernel
theorem dX4_letEarliestGo_75 : decode cX4_letEarliestGo 75 = .ok (.aload_n 0, 1) := by decide +kernel
theorem dX4_letEarliestGo_76 : decode cX4_letEarliestGo 76 = .ok (.getfield 10, 3) := by decide +kernel
theorem dX4_letEarliestGo_79 : decode cX4_letEarliestGo 79 = .ok (.dup, 1) := by decide +kernel
theorem dX4_letEarliestGo_80 : decode cX4_letEarliestGo 80 = .ok (.getfield 129, 3) := by decide +kernel
theorem dX4_letEarliestGo_83 : decode cX4_letEarliestGo 83 = .ok (.iconst 1, 1) := by decide +kernel
theorem dX4_letEarliestGo_84 : decode cX4_letEarliestGo 84 = .ok (.iadd, 1) := by decide +kernel
theorem dX4_letEarliestGo_85 : decode cX4_letEarliestGo 85 = .ok (.putfield 129, 3) := by decide +kernel
theorem dX4_letEarliestGo_88 : decode cX4_letEarliestGo 88 = .ok (.iload_n 1, 1) := by decide +kernel
theorem dX4_letEarliestGo_89 : decode cX4_letEarliestGo 89 = .ok (.ireturn, 1) := by decide +kernel
theorem dX4_workAndWriteDown_0 : decode cX4_workAndWriteDown 0 = .ok (.aload_n 0, 1) := by decide +kernel
theorem dX4_workAndWriteDown_1 : decode cX4_workAndWriteDown 1 = .ok (.getfield 10, 3) := by decide +kernel
theorem dX4_workAndWriteDown_4 : decode cX4_workAndWriteDown 4 = .ok (.getfield 156, 3) := by decide +kernel
theorem dX4_workAndWriteDown_7 : decode cX4_workAndWriteDown 7 = .ok (.iload_n 1, 1) := by decide +kernel
theorem dX4_workAndWriteDown_8 : decode cX4_workAndWriteDown 8 = .ok (.aaload, 1) := by decide +kernel
theorem dX4_workAndWriteDown_9 : decode cX4_workAndWriteDown 9 = .ok (.astore_n 2, 1) := by decide +kernel
theorem dX4_workAndWriteDown_10 : decode cX4_workAndWriteDown 10 = .ok (.aload_n 0, 1) := by decide +kernel
theorem dX4_workAndWriteDown_11 : decode cX4_workAndWriteDown 11 = .ok (.getfield 30, 3) := by decide +kernel
theorem dX4_workAndWriteDown_14 : decode cX4_workAndWriteDown 14 = .ok (.iload_n 1, 1) := by decide +kernel
theorem dX4_workAndWriteDown_15 : decode cX4_workAndWriteDown 15 = .ok (.aload_n 2, 1) := by decide +kernel
theorem dX4_workAndWriteDown_16 : decode cX4_workAndWriteDown 16 = .ok (.invokevirtual 163, 3) := by decide +kernel
theorem dX4_workAndWriteDown_19 : decode cX4_workAndWriteDown 19 = .ok (.aload_n 2, 1) := by decide +kernel
theorem dX4_workAndWriteDown_20 : decode cX4_workAndWriteDown 20 = .ok (.invokevirtual 166, 3) := by decide +kernel
theorem dX4_workAndWriteDown_23 : decode cX4_workAndWriteDown 23 = .ok (.aload_n 0, 1) := by decide +kernel
theorem dX4_workAndWriteDown_24 : decode cX4_workAndWriteDown 24 = .ok (.getfield 10, 3) := by decide +kernel
theorem dX4_workAndWriteDown_27 : decode cX4_workAndWriteDown 27 = .ok (.invokevirtual 69, 3) := by decide +kernel
theorem dX4_workAndWriteDown_30 : decode cX4_workAndWriteDown 30 = .ok (.invokevirtual 250, 3) := by decide +kernel
theorem dX4_workAndWriteDown_33 : decode cX4_workAndWriteDown 33 = .ok (.aload_n 0, 1) := by decide +kernel
theorem dX4_workAndWriteDown_34 : decode cX4_workAndWriteDown 34 = .ok (.getfield 10, 3) := by decide +kernel
theorem dX4_workAndWriteDown_37 : decode cX4_workAndWriteDown 37 = .ok (.iload_n 1, 1) := by decide +kernel
theorem dX4_workAndWriteDown_38 : decode cX4_workAndWriteDown 38 = .ok (.invokevirtual 225, 3) := by decide +kernel
theorem dX4_workAndWriteDown_41 : decode cX4_workAndWriteDown 41 = .ok (.return_, 1) := by decide +kernel
theorem dX4_leastPromisesRound_0 : decode cX4_leastPromisesRound 0 = .ok (.iconst 0, 1) := by decide +kernel
theorem dX4_leastPromisesRound_1 : decode cX4_leastPromisesRound 1 = .ok (.istore_n 2, 1) := by decide +kernel
theorem dX4_leastPromisesRound_2 : decode cX4_leastPromisesRound 2 = .ok (.iload_n 2, 1) := by decide +kernel
theorem dX4_leastPromisesRound_3 : decode cX4_leastPromisesRound 3 = .ok (.bipush 6, 2) := by decide +kernel
theorem dX4_leastPromisesRound_5 : decode cX4_leastPromisesRound 5 = .ok (.if_icmp .ge 17, 3) := by decide +kernel
theorem dX4_leastPromisesRound_8 : decode cX4_leastPromisesRound 8 = .ok (.aload_n 0, 1) := by decide +kernel
theorem dX4_leastPromisesRound_9 : decode cX4_leastPromisesRound 9 = .ok (.getfield 34, 3) := by decide +kernel
theorem dX4_leastPromisesRound_12 : decode cX4_leastPromisesRound 12 = .ok (.iload_n 2, 1) := by decide +kernel
theorem dX4_leastPromisesRound_13 : decode cX4_leastPromisesRound 13 = .ok (.ldc 217, 2) := by decide +kernel
theorem dX4_leastPromisesRound_15 : decode cX4_leastPromisesRound 15 = .ok (.iastore, 1) := by decide +kernel
theorem dX4_leastPromisesRound_16 : decode cX4_leastPromisesRound 16 = .ok (.iinc 2 1, 3) := by decide +kernel
theorem dX4_leastPromisesRound_19 : decode cX4_leastPromisesRound 19 = .ok (.goto (-17), 3) := by decide +kernel
theorem dX4_leastPromisesRound_22 : decode cX4_leastPromisesRound 22 = .ok (.aload_n 0, 1) := by decide +kernel
theorem dX4_leastPromisesRound_23 : decode cX4_leastPromisesRound 23 = .ok (.getfield 10, 3) := by decide +kernel
theorem dX4_leastPromisesRound_26 : decode cX4_leastPromisesRound 26 = .ok (.getfield 59, 3) := by decide +kernel
theorem dX4_leastPromisesRound_29 : decode cX4_leastPromisesRound 29 = .ok (.astore_n 2, 1) := by decide +kernel
theorem dX4_leastPromisesRound_30 : decode cX4_leastPromisesRound 30 = .ok (.iconst 0, 1) := by decide +kernel
theorem dX4_leastPromisesRound_31 : decode cX4_leastPromisesRound 31 = .ok (.istore_n 3, 1) := by decide +kernel
theorem dX4_leastPromisesRound_32 : decode cX4_leastPromisesRound 32 = .ok (.iload_n 3, 1) := by decide +kernel
theorem dX4_leastPromisesRound_33 : decode cX4_leastPromisesRound 33 = .ok (.aload_n 0, 1) := by decide +kernel
theorem dX4_leastPromisesRound_34 : decode cX4_leastPromisesRound 34 = .ok (.getfield 10, 3) := by decide +kernel
theorem dX4_leastPromisesRound_37 : decode cX4_leastPromisesRound 37 = .ok (.getfield 93, 3) := by decide +kernel
theorem dX4_leastPromisesRound_40 : decode cX4_leastPromisesRound 40 = .ok (.if_icmp .ge 91, 3) := by decide +kernel
theorem dX4_leastPromisesRound_43 : decode cX4_leastPromisesRound 43 = .ok (.iconst 0, 1) := by decide +kernel
theorem dX4_leastPromisesRound_44 : decode cX4_leastPromisesRound 44 = .ok (.istore 4, 2) := by decide +kernel
theorem dX4_leastPromisesRound_46 : decode cX4_leastPromisesRound 46 = .ok (.iload 4, 2) := by decide +kernel
theorem dX4_leastPromisesRound_48 : decode cX4_leastPromisesRound 48 = .ok (.aload_n 2, 1) := by decide +kernel
theorem dX4_leastPromisesRound_49 : decode cX4_leastPromisesRound 49 = .ok (.getfield 74, 3) := by decide +kernel
theorem dX4_leastPromisesRound_52 : decode cX4_leastPromisesRound 52 = .ok (.if_icmp .ge 73, 3) := by decide +kernel
theorem dX4_leastPromisesRound_55 : decode cX4_leastPromisesRound 55 = .ok (.aload_n 2, 1) := by decide +kernel
theorem dX4_leastPromisesRound_56 : decode cX4_leastPromisesRound 56 = .ok (.getfield 181, 3) := by decide +kernel
theorem dX4_leastPromisesRound_59 : decode cX4_leastPromisesRound 59 = .ok (.iload 4, 2) := by decide +kernel
theorem dX4_leastPromisesRound_61 : decode cX4_leastPromisesRound 61 = .ok (.iaload, 1) := by decide +kernel
theorem dX4_leastPromisesRound_62 : decode cX4_leastPromisesRound 62 = .ok (.istore 5, 2) := by decide +kernel
theorem dX4_leastPromisesRound_64 : decode cX4_leastPromisesRound 64 = .ok (.aload_n 2, 1) := by decide +kernel
theorem dX4_leastPromisesRound_65 : decode cX4_leastPromisesRound 65 = .ok (.getfield 184, 3) := by decide +kernel
theorem dX4_leastPromisesRound_68 : decode cX4_leastPromisesRound 68 = .ok (.iload 4, 2) := by decide +kernel
theorem dX4_leastPromisesRound_70 : decode cX4_leastPromisesRound 70 = .ok (.iaload, 1) := by decide +kernel
theorem dX4_leastPromisesRound_71 : decode cX4_leastPromisesRound 71 = .ok (.istore 6, 2) := by decide +kernel
theorem dX4_leastPromisesRound_73 : decode cX4_leastPromisesRound 73 = .ok (.iload 5, 2) := by decide +kernel
theorem dX4_leastPromisesRound_75 : decode cX4_leastPromisesRound 75 = .ok (.iload_n 1, 1) := by decide +kernel
theorem dX4_leastPromisesRound_76 : decode cX4_leastPromisesRound 76 = .ok (.if_icmp .ne 7, 3) := by decide +kernel
theorem dX4_leastPromisesRound_79 : decode cX4_leastPromisesRound 79 = .ok (.iconst 0, 1) := by decide +kernel
theorem dX4_leastPromisesRound_80 : decode cX4_leastPromisesRound 80 = .ok (.goto 10, 3) := by decide +kernel
theorem dX4_leastPromisesRound_83 : decode cX4_leastPromisesRound 83 = .ok (.aload_n 0, 1) := by decide +kernel
theorem dX4_leastPromisesRound_84 : decode cX4_leastPromisesRound 84 = .ok (.getfield 34, 3) := by decide +kernel
theorem dX4_leastPromisesRound_87 : decode cX4_leastPromisesRound 87 = .ok (.iload 5, 2) := by decide +kernel
theorem dX4_leastPromisesRound_89 : decode cX4_leastPromisesRound 89 = .ok (.iaload, 1) := by decide +kernel
theorem dX4_leastPromisesRound_90 : decode cX4_leastPromisesRound 90 = .ok (.istore 7, 2) := by decide +kernel
theorem dX4_leastPromisesRound_92 : decode cX4_leastPromisesRound 92 = .ok (.aload_n 0, 1) := by decide +kernel
theorem dX4_leastPromisesRound_93 : decode cX4_leastPromisesRound 93 = .ok (.getfield 34, 3) := by decide +kernel
theorem dX4_leastPromisesRound_96 : decode cX4_leastPromisesRound 96 = .ok (.iload 6, 2) := by decide +kernel
theorem dX4_leastPromisesRound_98 : decode cX4_leastPromisesRound 98 = .ok (.aload_n 0, 1) := by decide +kernel
theorem dX4_leastPromisesRound_99 : decode cX4_leastPromisesRound 99 = .ok (.getfield 34, 3) := by decide +kernel
theorem dX4_leastPromisesRound_102 : decode cX4_leastPromisesRound 102 = .ok (.iload 6, 2) := by decide +kernel
theorem dX4_leastPromisesRound_104 : decode cX4_leastPromisesRound 104 = .ok (.iaload, 1) := by decide +kernel
theorem dX4_leastPromisesRound_105 : decode cX4_leastPromisesRound 105 = .ok (.iload 7, 2) := by decide +kernel
theorem dX4_leastPromisesRound_107 : decode cX4_leastPromisesRound 107 = .ok (.aload_n 2, 1) := by decide +kernel
theorem dX4_leastPromisesRound_108 : decode cX4_leastPromisesRound 108 = .ok (.getfield 187, 3) := by decide +kernel
theorem dX4_leastPromisesRound_111 : decode cX4_leastPromisesRound 111 = .ok (.iload 4, 2) := by decide +kernel
theorem dX4_leastPromisesRound_113 : decode cX4_leastPromisesRound 113 = .ok (.iaload, 1) := by decide +kernel
theorem dX4_leastPromisesRound_114 : decode cX4_leastPromisesRound 114 = .ok (.iadd, 1) := by decide +kernel
theorem dX4_leastPromisesRound_115 : decode cX4_leastPromisesRound 115 = .ok (.invokestatic 253, 3) := by decide +kernel
theorem dX4_leastPromisesRound_118 : decode cX4_leastPromisesRound 118 = .ok (.iastore, 1) := by decide +kernel
theorem dX4_leastPromisesRound_119 : decode cX4_leastPromisesRound 119 = .ok (.iinc 4 1, 3) := by decide +kernel
theorem dX4_leastPromisesRound_122 : decode cX4_leastPromisesRound 122 = .ok (.goto (-76), 3) := by decide +kernel
theorem dX4_leastPromisesRound_125 : decode cX4_leastPromisesRound 125 = .ok (.iinc 3 1, 3) := by decide +kernel
theorem dX4_leastPromisesRound_128 : decode cX4_leastPromisesRound 128 = .ok (.goto (-96), 3) := by decide +kernel
theorem dX4_leastPromisesRound_131 : decode cX4_leastPromisesRound 131 = .ok (.aload_n 0, 1) := by decide +kernel
theorem dX4_leastPromisesRound_132 : decode cX4_leastPromisesRound 132 = .ok (.getfield 34, 3) := by decide +kernel
theorem dX4_leastPromisesRound_135 : decode cX4_leastPromisesRound 135 = .ok (.iload_n 1, 1) := by decide +kernel
theorem dX4_leastPromisesRound_136 : decode cX4_leastPromisesRound 136 = .ok (.iaload, 1) := by decide +kernel
theorem dX4_leastPromisesRound_137 : decode cX4_leastPromisesRound 137 = .ok (.ireturn, 1) := by decide +kernel
