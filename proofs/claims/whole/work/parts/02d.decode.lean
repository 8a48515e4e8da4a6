theorem dX5_init_0 : decode cX5_init 0 = .ok (.aload_n 0, 1) := by decide +kernel
theorem dX5_init_1 : decode cX5_init 1 = .ok (.invokespecial 1, 3) := by decide +kernel
theorem dX5_init_4 : decode cX5_init 4 = .ok (.aload_n 0, 1) := by decide +kernel
theorem dX5_init_5 : decode cX5_init 5 = .ok (.sipush 1048, 3) := by decide +kernel
theorem dX5_init_8 : decode cX5_init 8 = .ok (.newarray .int, 2) := by decide +kernel
theorem dX5_init_10 : decode cX5_init 10 = .ok (.putfield 7, 3) := by decide +kernel
theorem dX5_init_13 : decode cX5_init 13 = .ok (.aload_n 0, 1) := by decide +kernel
theorem dX5_init_14 : decode cX5_init 14 = .ok (.iconst 2, 1) := by decide +kernel
theorem dX5_init_15 : decode cX5_init 15 = .ok (.newarray .boolean, 2) := by decide +kernel
theorem dX5_init_17 : decode cX5_init 17 = .ok (.putfield 13, 3) := by decide +kernel
theorem dX5_init_20 : decode cX5_init 20 = .ok (.aload_n 0, 1) := by decide +kernel
theorem dX5_init_21 : decode cX5_init 21 = .ok (.sipush 800, 3) := by decide +kernel
theorem dX5_init_24 : decode cX5_init 24 = .ok (.newarray .int, 2) := by decide +kernel
theorem dX5_init_26 : decode cX5_init 26 = .ok (.putfield 17, 3) := by decide +kernel
theorem dX5_init_29 : decode cX5_init 29 = .ok (.aload_n 0, 1) := by decide +kernel
theorem dX5_init_30 : decode cX5_init 30 = .ok (.bipush 6, 2) := by decide +kernel
theorem dX5_init_32 : decode cX5_init 32 = .ok (.newarray .int, 2) := by decide +kernel
theorem dX5_init_34 : decode cX5_init 34 = .ok (.putfield 20, 3) := by decide +kernel
theorem dX5_init_37 : decode cX5_init 37 = .ok (.return_, 1) := by decide +kernel
theorem dX5_in_0 : decode cX5_in 0 = .ok (.lload_n 0, 1) := by decide +kernel
theorem dX5_in_1 : decode cX5_in 1 = .ok (.lload_n 2, 1) := by decide +kernel
theorem dX5_in_2 : decode cX5_in 2 = .ok (.lcmp, 1) := by decide +kernel
theorem dX5_in_3 : decode cX5_in 3 = .ok (.ifCond .lt 14, 3) := by decide +kernel
theorem dX5_in_6 : decode cX5_in 6 = .ok (.lload_n 0, 1) := by decide +kernel
theorem dX5_in_7 : decode cX5_in 7 = .ok (.lload 4, 2) := by decide +kernel
theorem dX5_in_9 : decode cX5_in 9 = .ok (.lcmp, 1) := by decide +kernel
theorem dX5_in_10 : decode cX5_in 10 = .ok (.ifCond .gt 7, 3) := by decide +kernel
theorem dX5_in_13 : decode cX5_in 13 = .ok (.iconst 1, 1) := by decide +kernel
theorem dX5_in_14 : decode cX5_in 14 = .ok (.goto 4, 3) := by decide +kernel
theorem dX5_in_17 : decode cX5_in 17 = .ok (.iconst 0, 1) := by decide +kernel
theorem dX5_in_18 : decode cX5_in 18 = .ok (.ireturn, 1) := by decide +kernel
theorem dX5_has_0 : decode cX5_has 0 = .ok (.iload_n 0, 1) := by decide +kernel
theorem dX5_has_1 : decode cX5_has 1 = .ok (.iload_n 1, 1) := by decide +kernel
theorem dX5_has_2 : decode cX5_has 2 = .ok (.ishr, 1) := by decide +kernel
theorem dX5_has_3 : decode cX5_has 3 = .ok (.iconst 1, 1) := by decide +kernel
theorem dX5_has_4 : decode cX5_has 4 = .ok (.iand, 1) := by decide +kernel
theorem dX5_has_5 : decode cX5_has 5 = .ok (.iconst 1, 1) := by decide +kernel
theorem dX5_has_6 : decode cX5_has 6 = .ok (.if_icmp .ne 7, 3) := by decide +kernel
theorem dX5_has_9 : decode cX5_has 9 = .ok (.iconst 1, 1) := by decide +kernel
theorem dX5_has_10 : decode cX5_has 10 = .ok (.goto 4, 3) := by decide +kernel
theorem dX5_has_13 : decode cX5_has 13 = .ok (.iconst 0, 1) := by decide +kernel
theorem dX5_has_14 : decode cX5_has 14 = .ok (.ireturn, 1) := by decide +kernel
theorem dX5_copy_0 : decode cX5_copy 0 = .ok (.iconst 0, 1) := by decide +kernel
theorem dX5_copy_1 : decode cX5_copy 1 = .ok (.istore_n 3, 1) := by decide +kernel
theorem dX5_copy_2 : decode cX5_copy 2 = .ok (.iload_n 3, 1) := by decide +kernel
theorem dX5_copy_3 : decode cX5_copy 3 = .ok (.sipush 262, 3) := by decide +kernel
theorem dX5_copy_6 : decode cX5_copy 6 = .ok (.if_icmp .ge 25, 3) := by decide +kernel
theorem dX5_copy_9 : decode cX5_copy 9 = .ok (.aload_n 0, 1) := by decide +kernel
theorem dX5_copy_10 : decode cX5_copy 10 = .ok (.getfield 7, 3) := by decide +kernel
theorem dX5_copy_13 : decode cX5_copy 13 = .ok (.iload_n 2, 1) := by decide +kernel
theorem dX5_copy_14 : decode cX5_copy 14 = .ok (.iload_n 3, 1) := by decide +kernel
theorem dX5_copy_15 : decode cX5_copy 15 = .ok (.iadd, 1) := by decide +kernel
theorem dX5_copy_16 : decode cX5_copy 16 = .ok (.aload_n 0, 1) := by decide +kernel
theorem dX5_copy_17 : decode cX5_copy 17 = .ok (.getfield 7, 3) := by decide +kernel
theorem dX5_copy_20 : decode cX5_copy 20 = .ok (.iload_n 1, 1) := by decide +kernel
theorem dX5_copy_21 : decode cX5_copy 21 = .ok (.iload_n 3, 1) := by decide +kernel
theorem dX5_copy_22 : decode cX5_copy 22 = .ok (.iadd, 1) := by decide +kernel
theorem dX5_copy_23 : decode cX5_copy 23 = .ok (.iaload, 1) := by decide +kernel
theorem dX5_copy_24 : decode cX5_copy 24 = .ok (.iastore, 1) := by decide +kernel
theorem dX5_copy_25 : decode cX5_copy 25 = .ok (.iinc 3 1, 3) := by decide +kernel
theorem dX5_copy_28 : decode cX5_copy 28 = .ok (.goto (-26), 3) := by decide +kernel
theorem dX5_copy_31 : decode cX5_copy 31 = .ok (.return_, 1) := by decide +kernel
theorem dX5_isPart_0 : decode cX5_isPart 0 = .ok (.iload_n 1, 1) := by decide +kernel
theorem dX5_isPart_1 : decode cX5_isPart 1 = .ok (.i2l, 1) := by decide +kernel
theorem dX5_isPart_2 : decode cX5_isPart 2 = .ok (.lconst 0, 1) := by decide +kernel
theorem dX5_isPart_3 : decode cX5_isPart 3 = .ok (.aload_n 0, 1) := by decide +kernel
theorem dX5_isPart_4 : decode cX5_isPart 4 = .ok (.getfield 7, 3) := by decide +kernel
theorem dX5_isPart_7 : decode cX5_isPart 7 = .ok (.iconst 0, 1) := by decide +kernel
theorem dX5_isPart_8 : decode cX5_isPart 8 = .ok (.iaload, 1) := by decide +kernel
theorem dX5_isPart_9 : decode cX5_isPart 9 = .ok (.iconst 1, 1) := by decide +kernel
theorem dX5_isPart_10 : decode cX5_isPart 10 = .ok (.isub, 1) := by decide +kernel
theorem dX5_isPart_11 : decode cX5_isPart 11 = .ok (.i2l, 1) := by decide +kernel
theorem dX5_isPart_12 : decode cX5_isPart 12 = .ok (.invokestatic 23, 3) := by decide +kernel
theorem dX5_isPart_15 : decode cX5_isPart 15 = .ok (.ireturn, 1) := by decide +kernel
theorem dX5_isChannel_0 : decode cX5_isChannel 0 = .ok (.iload_n 1, 1) := by decide +kernel
theorem dX5_isChannel_1 : decode cX5_isChannel 1 = .ok (.i2l, 1) := by decide +kernel
theorem dX5_isChannel_2 : decode cX5_isChannel 2 = .ok (.lconst 0, 1) := by decide +kernel
theorem dX5_isChannel_3 : decode cX5_isChannel 3 = .ok (.aload_n 0, 1) := by decide +kernel
theorem dX5_isChannel_4 : decode cX5_isChannel 4 = .ok (.getfield 7, 3) := by decide +kernel
theorem dX5_isChannel_7 : decode cX5_isChannel 7 = .ok (.iconst 1, 1) := by decide +kernel
theorem dX5_isChannel_8 : decode cX5_isChannel 8 = .ok (.iaload, 1) := by decide +kernel
theorem dX5_isChannel_9 : decode cX5_isChannel 9 = .ok (.iconst 1, 1) := by decide +kernel
theorem dX5_isChannel_10 : decode cX5_isChannel 10 = .ok (.isub, 1) := by decide +kernel
theorem dX5_isChannel_11 : decode cX5_isChannel 11 = .ok (.i2l, 1) := by decide +kernel
theorem dX5_isChannel_12 : decode cX5_isChannel 12 = .ok (.invokestatic 23, 3) := by decide +kernel
theorem dX5_isChannel_15 : decode cX5_isChannel 15 = .ok (.ireturn, 1) := by decide +kernel
theorem dX5_at_0 : decode cX5_at 0 = .ok (.iload_n 0, 1) := by decide +kernel
theorem dX5_at_1 : decode cX5_at 1 = .ok (.bipush 28, 2) := by decide +kernel
theorem dX5_at_3 : decode cX5_at 3 = .ok (.iadd, 1) := by decide +kernel
theorem dX5_at_4 : decode cX5_at 4 = .ok (.bipush 7, 2) := by decide +kernel
theorem dX5_at_6 : decode cX5_at 6 = .ok (.iload_n 1, 1) := by decide +kernel
theorem dX5_at_7 : decode cX5_at 7 = .ok (.imul, 1) := by decide +kernel
theorem dX5_at_8 : decode cX5_at 8 = .ok (.iadd, 1) := by decide +kernel
theorem dX5_at_9 : decode cX5_at 9 = .ok (.ireturn, 1) := by decide +kernel
theorem dX5_parts_0 : decode cX5_parts 0 = .ok (.iload_n 1, 1) := by decide +kernel
theorem dX5_parts_1 : decode cX5_parts 1 = .ok (.i2l, 1) := by decide +kernel
theorem dX5_parts_2 : decode cX5_parts 2 = .ok (.lconst 1, 1) := by decide +kernel
theorem dX5_parts_3 : decode cX5_parts 3 = .ok (.ldc2_w 27, 3) := by decide +kernel
theorem dX5_parts_6 : decode cX5_parts 6 = .ok (.invokestatic 23, 3) := by decide +kernel
theorem dX5_parts_9 : decode cX5_parts 9 = .ok (.ifCond .ne 6, 3) := by decide +kernel
theorem dX5_parts_12 : decode cX5_parts 12 = .ok (.ldc 29, 2) := by decide +kernel
theorem dX5_parts_14 : decode cX5_parts 14 = .ok (.ireturn, 1) := by decide +kernel
theorem dX5_parts_15 : decode cX5_parts 15 = .ok (.aload_n 0, 1) := by decide +kernel
theorem dX5_parts_16 : decode cX5_parts 16 = .ok (.getfield 7, 3) := by decide +kernel
theorem dX5_parts_19 : decode cX5_parts 19 = .ok (.iconst 3, 1) := by decide +kernel
theorem dX5_parts_20 : decode cX5_parts 20 = .ok (.iaload, 1) := by decide +kernel
theorem dX5_parts_21 : decode cX5_parts 21 = .ok (.istore_n 2, 1) := by decide +kernel
theorem dX5_parts_22 : decode cX5_parts 22 = .ok (.aload_n 0, 1) := by decide +kernel
theorem dX5_parts_23 : decode cX5_parts 23 = .ok (.getfield 7, 3) := by decide +kernel
theorem dX5_parts_26 : decode cX5_parts 26 = .ok (.iconst 2, 1) := by decide +kernel
theorem dX5_parts_27 : decode cX5_parts 27 = .ok (.iaload, 1) := by decide +kernel
theorem dX5_parts_28 : decode cX5_parts 28 = .ok (.istore_n 3, 1) := by decide +kernel
theorem dX5_parts_29 : decode cX5_parts 29 = .ok (.iconst 0, 1) := by decide +kernel
theorem dX5_parts_30 : decode cX5_parts 30 = .ok (.istore 4, 2) := by decide +kernel
theorem dX5_parts_32 : decode cX5_parts 32 = .ok (.iload 4, 2) := by decide +kernel
theorem dX5_parts_34 : decode cX5_parts 34 = .ok (.sipush 262, 3) := by decide +kernel
theorem dX5_parts_37 : decode cX5_parts 37 = .ok (.if_icmp .ge 17, 3) := by decide +kernel
theorem dX5_parts_40 : decode cX5_parts 40 = .ok (.aload_n 0, 1) := by decide +kernel
theorem dX5_parts_41 : decode cX5_parts 41 = .ok (.getfield 7, 3) := by decide +kernel
theorem dX5_parts_44 : decode cX5_parts 44 = .ok (.iload 4, 2) := by decide +kernel
theorem dX5_parts_46 : decode cX5_parts 46 = .ok (.iconst 0, 1) := by decide +kernel
theorem dX5_parts_47 : decode cX5_parts 47 = .ok (.iastore, 1) := by decide +kernel
theorem dX5_parts_48 : decode cX5_parts 48 = .ok (.iinc 4 1, 3) := by decide +kernel
theorem dX5_parts_51 : decode cX5_parts 51 = .ok (.goto (-19), 3) := by decide +kernel
theorem dX5_parts_54 : decode cX5_parts 54 = .ok (.aload_n 0, 1) := by decide +kernel
theorem dX5_parts_55 : decode cX5_parts 55 = .ok (.getfield 7, 3) := by decide +kernel
theorem dX5_parts_58 : decode cX5_parts 58 = .ok (.iconst 0, 1) := by decide +kernel
theorem dX5_parts_59 : decode cX5_parts 59 = .ok (.iload_n 1, 1) := by decide +kernel
theorem dX5_parts_60 : decode cX5_parts 60 = .ok (.iastore, 1) := by decide +kernel
theorem dX5_parts_61 : decode cX5_parts 61 = .ok (.aload_n 0, 1) := by decide +kernel
theorem dX5_parts_62 : decode cX5_parts 62 = .ok (.getfield 7, 3) := by decide +kernel
theorem dX5_parts_65 : decode cX5_parts 65 = .ok (.iconst 2, 1) := by decide +kernel
theorem dX5_parts_66 : decode cX5_parts 66 = .ok (.iload_n 3, 1) := by decide +kernel
theorem dX5_parts_67 : decode cX5_parts 67 = .ok (.iastore, 1) := by decide +kernel
theorem dX5_parts_68 : decode cX5_parts 68 = .ok (.aload_n 0, 1) := by decide +kernel
theorem dX5_parts_69 : decode cX5_parts 69 = .ok (.iconst 0, 1) := by decide +kernel
theorem dX5_parts_70 : decode cX5_parts 70 = .ok (.putfield 30, 3) := by decide +kernel
theorem dX5_parts_73 : decode cX5_parts 73 = .ok (.aload_n 0, 1) := by decide +kernel
theorem dX5_parts_74 : decode cX5_parts 74 = .ok (.getfield 13, 3) := by decide +kernel
theorem dX5_parts_77 : decode cX5_parts 77 = .ok (.iconst 0, 1) := by decide +kernel
theorem dX5_parts_78 : decode cX5_parts 78 = .ok (.iconst 0, 1) := by decide +kernel
theorem dX5_parts_79 : decode cX5_parts 79 = .ok (.bastore, 1) := by decide +kernel
theorem dX5_parts_80 : decode cX5_parts 80 = .ok (.aload_n 0, 1) := by decide +kernel
theorem dX5_parts_81 : decode cX5_parts 81 = .ok (.getfield 13, 3) := by decide +kernel
theorem dX5_parts_84 : decode cX5_parts 84 = .ok (.iconst 1, 1) := by decide +kernel
theorem dX5_parts_85 : decode cX5_parts 85 = .ok (.iconst 0, 1) := by decide +kernel
theorem dX5_parts_86 : decode cX5_parts 86 = .ok (.bastore, 1) := by decide +kernel
theorem dX5_parts_87 : decode cX5_parts 87 = .ok (.iload_n 2, 1) := by decide +kernel
theorem dX5_parts_88 : decode cX5_parts 88 = .ok (.ireturn, 1) := by decide +kernel
theorem dX5_wayOf_0 : decode cX5_wayOf 0 = .ok (.iconst 0, 1) := by decide +kernel
theorem dX5_wayOf_1 : decode cX5_wayOf 1 = .ok (.istore_n 3, 1) := by decide +kernel
theorem dX5_wayOf_2 : decode cX5_wayOf 2 = .ok (.iload_n 3, 1) := by decide +kernel
theorem dX5_wayOf_3 : decode cX5_wayOf 3 = .ok (.aload_n 0, 1) := by decide +kernel
theorem dX5_wayOf_4 : decode cX5_wayOf 4 = .ok (.getfield 7, 3) := by decide +kernel
theorem dX5_wayOf_7 : decode cX5_wayOf 7 = .ok (.iconst 1, 1) := by decide +kernel
theorem dX5_wayOf_8 : decode cX5_wayOf 8 = .ok (.iaload, 1) := by decide +kernel
theorem dX5_wayOf_9 : decode cX5_wayOf 9 = .ok (.if_icmp .ge 43, 3) := by decide +kernel
theorem dX5_wayOf_12 : decode cX5_wayOf 12 = .ok (.aload_n 0, 1) := by decide +kernel
theorem dX5_wayOf_13 : decode cX5_wayOf 13 = .ok (.getfield 7, 3) := by decide +kernel
theorem dX5_wayOf_16 : decode cX5_wayOf 16 = .ok (.iconst 0, 1) := by decide +kernel
theorem dX5_wayOf_17 : decode cX5_wayOf 17 = .ok (.iload_n 3, 1) := by decide +kernel
theorem dX5_wayOf_18 : decode cX5_wayOf 18 = .ok (.invokestatic 34, 3) := by decide +kernel
theorem dX5_wayOf_21 : decode cX5_wayOf 21 = .ok (.iconst 0, 1) := by decide +kernel
theorem dX5_wayOf_22 : decode cX5_wayOf 22 = .ok (.iadd, 1) := by decide +kernel
theorem dX5_wayOf_23 : decode cX5_wayOf 23 = .ok (.iaload, 1) := by decide +kernel
theorem dX5_wayOf_24 : decode cX5_wayOf 24 = .ok (.iload_n 1, 1) := by decide +kernel
theorem dX5_wayOf_25 : decode cX5_wayOf 25 = .ok (.if_icmp .ne 21, 3) := by decide +kernel
theorem dX5_wayOf_28 : decode cX5_wayOf 28 = .ok (.aload_n 0, 1) := by decide +kernel
theorem dX5_wayOf_29 : decode cX5_wayOf 29 = .ok (.getfield 7, 3) := by decide +kernel
theorem dX5_wayOf_32 : decode cX5_wayOf 32 = .ok (.iconst 0, 1) := by decide +kernel
theorem dX5_wayOf_33 : decode cX5_wayOf 33 = .ok (.iload_n 3, 1) := by decide +kernel
theorem dX5_wayOf_34 : decode cX5_wayOf 34 = .ok (.invokestatic 34, 3) := by decide +kernel
theorem dX5_wayOf_37 : decode cX5_wayOf 37 = .ok (.iconst 1, 1) := by decide +kernel
theorem dX5_wayOf_38 : decode cX5_wayOf 38 = .ok (.iadd, 1) := by decide +kernel
theorem dX5_wayOf_39 : decode cX5_wayOf 39 = .ok (.iaload, 1) := by decide +kernel
theorem dX5_wayOf_40 : decode cX5_wayOf 40 = .ok (.iload_n 2, 1) := by decide +kernel
theorem dX5_wayOf_41 : decode cX5_wayOf 41 = .ok (.if_icmp .ne 5, 3) := by decide +kernel
theorem dX5_wayOf_44 : decode cX5_wayOf 44 = .ok (.iload_n 3, 1) := by decide +kernel
theorem dX5_wayOf_45 : decode cX5_wayOf 45 = .ok (.ireturn, 1) := by decide +kernel
theorem dX5_wayOf_46 : decode cX5_wayOf 46 = .ok (.iinc 3 1, 3) := by decide +kernel
theorem dX5_wayOf_49 : decode cX5_wayOf 49 = .ok (.goto (-47), 3) := by decide +kernel
theorem dX5_wayOf_52 : decode cX5_wayOf 52 = .ok (.iconst (-1), 1) := by decide +kernel
theorem dX5_wayOf_53 : decode cX5_wayOf 53 = .ok (.ireturn, 1) := by decide +kernel
theorem dX5_channel_0 : decode cX5_channel 0 = .ok (.aload_n 0, 1) := by decide +kernel
theorem dX5_channel_1 : decode cX5_channel 1 = .ok (.iload_n 1, 1) := by decide +kernel
theorem dX5_channel_2 : decode cX5_channel 2 = .ok (.invokevirtual 38, 3) := by decide +kernel
theorem dX5_channel_5 : decode cX5_channel 5 = .ok (.ifCond .eq 16, 3) := by decide +kernel
theorem dX5_channel_8 : decode cX5_channel 8 = .ok (.aload_n 0, 1) := by decide +kernel
theorem dX5_channel_9 : decode cX5_channel 9 = .ok (.iload_n 2, 1) := by decide +kernel
theorem dX5_channel_10 : decode cX5_channel 10 = .ok (.invokevirtual 38, 3) := by decide +kernel
theorem dX5_channel_13 : decode cX5_channel 13 = .ok (.ifCond .eq 8, 3) := by decide +kernel
theorem dX5_channel_16 : decode cX5_channel 16 = .ok (.iload_n 1, 1) := by decide +kernel
theorem dX5_channel_17 : decode cX5_channel 17 = .ok (.iload_n 2, 1) := by decide +kernel
theorem dX5_channel_18 : decode cX5_channel 18 = .ok (.if_icmp .ne 6, 3) := by decide +kernel
theorem dX5_channel_21 : decode cX5_channel 21 = .ok (.ldc 42, 2) := by decide +kernel
theorem dX5_channel_23 : decode cX5_channel 23 = .ok (.ireturn, 1) := by decide +kernel
theorem dX5_channel_24 : decode cX5_channel 24 = .ok (.iload_n 3, 1) := by decide +kernel
theorem dX5_channel_25 : decode cX5_channel 25 = .ok (.i2l, 1) := by decide +kernel
theorem dX5_channel_26 : decode cX5_channel 26 = .ok (.lconst 0, 1) := by decide +kernel
theorem dX5_channel_27 : decode cX5_channel 27 = .ok (.ldc2_w 43, 3) := by decide +kernel
theorem dX5_channel_30 : decode cX5_channel 30 = .ok (.invokestatic 23, 3) := by decide +kernel
theorem dX5_channel_33 : decode cX5_channel 33 = .ok (.ifCond .eq 22, 3) := by decide +kernel
theorem dX5_channel_36 : decode cX5_channel 36 = .ok (.iload 4, 2) := by decide +kernel
theorem dX5_channel_38 : decode cX5_channel 38 = .ok (.i2l, 1) := by decide +kernel
theorem dX5_channel_39 : decode cX5_channel 39 = .ok (.lconst 1, 1) := by decide +kernel
theorem dX5_channel_40 : decode cX5_channel 40 = .ok (.ldc2_w 43, 3) := by decide +kernel
theorem dX5_channel_43 : decode cX5_channel 43 = .ok (.invokestatic 23, 3) := by decide +kernel
theorem dX5_channel_46 : decode cX5_channel 46 = .ok (.ifCond .eq 9, 3) := by decide +kernel
theorem dX5_channel_49 : decode cX5_channel 49 = .ok (.iload 4, 2) := by decide +kernel
theorem dX5_channel_51 : decode cX5_channel 51 = .ok (.iload_n 3, 1) := by decide +kernel
theorem dX5_channel_52 : decode cX5_channel 52 = .ok (.if_icmp .ge 6, 3) := by decide +kernel
theorem dX5_channel_55 : decode cX5_channel 55 = .ok (.ldc 29, 2) := by decide +kernel
theorem dX5_channel_57 : decode cX5_channel 57 = .ok (.ireturn, 1) := by decide +kernel
theorem dX5_channel_58 : decode cX5_channel 58 = .ok (.aload_n 0, 1) := by decide +kernel
theorem dX5_channel_59 : decode cX5_channel 59 = .ok (.iload_n 1, 1) := by decide +kernel
theorem dX5_channel_60 : decode cX5_channel 60 = .ok (.iload_n 2, 1) := by decide +kernel
theorem dX5_channel_61 : decode cX5_channel 61 = .ok (.invokevirtual 45, 3) := by decide +kernel
theorem dX5_channel_64 : decode cX5_channel 64 = .ok (.iconst (-1), 1) := by decide +kernel
theorem dX5_channel_65 : decode cX5_channel 65 = .ok (.if_icmp .ne 20, 3) := by decide +kernel
theorem dX5_channel_68 : decode cX5_channel 68 = .ok (.aload_n 0, 1) := by decide +kernel
theorem dX5_channel_69 : decode cX5_channel 69 = .ok (.getfield 7, 3) := by decide +kernel
theorem dX5_channel_72 : decode cX5_channel 72 = .ok (.iconst 5, 1) := by decide +kernel
theorem dX5_channel_73 : decode cX5_channel 73 = .ok (.iaload, 1) := by decide +kernel
theorem dX5_channel_74 : decode cX5_channel 74 = .ok (.aload_n 0, 1) := by decide +kernel
theorem dX5_channel_75 : decode cX5_channel 75 = .ok (.getfield 7, 3) := by decide +kernel
theorem dX5_channel_78 : decode cX5_channel 78 = .ok (.bipush 6, 2) := by decide +kernel
theorem dX5_channel_80 : decode cX5_channel 80 = .ok (.iaload, 1) := by decide +kernel
theorem dX5_channel_81 : decode cX5_channel 81 = .ok (.iadd, 1) := by decide +kernel
theorem dX5_channel_82 : decode cX5_channel 82 = .ok (.ifCond .le 6, 3) := by decide +kernel
theorem dX5_channel_85 : decode cX5_channel 85 = .ok (.ldc 48, 2) := by decide +kernel
theorem dX5_channel_87 : decode cX5_channel 87 = .ok (.ireturn, 1) := by decide +kernel
theorem dX5_channel_88 : decode cX5_channel 88 = .ok (.aload_n 0, 1) := by decide +kernel
theorem dX5_channel_89 : decode cX5_channel 89 = .ok (.getfield 7, 3) := by decide +kernel
theorem dX5_channel_92 : decode cX5_channel 92 = .ok (.iconst 1, 1) := by decide +kernel
theorem dX5_channel_93 : decode cX5_channel 93 = .ok (.iaload, 1) := by decide +kernel
theorem dX5_channel_94 : decode cX5_channel 94 = .ok (.bipush 12, 2) := by decide +kernel
theorem dX5_channel_96 : decode cX5_channel 96 = .ok (.if_icmp .ne 6, 3) := by decide +kernel
theorem dX5_channel_99 : decode cX5_channel 99 = .ok (.ldc 49, 2) := by decide +kernel
theorem dX5_channel_101 : decode cX5_channel 101 = .ok (.ireturn, 1) := by decide +kernel
theorem dX5_channel_102 : decode cX5_channel 102 = .ok (.iconst 0, 1) := by decide +kernel
theorem dX5_channel_103 : decode cX5_channel 103 = .ok (.aload_n 0, 1) := by decide +kernel
theorem dX5_channel_104 : decode cX5_channel 104 = .ok (.getfield 7, 3) := by decide +kernel
theorem dX5_channel_107 : decode cX5_channel 107 = .ok (.iconst 1, 1) := by decide +kernel
theorem dX5_channel_108 : decode cX5_channel 108 = .ok (.iaload, 1) := by decide +kernel
theorem dX5_channel_109 : decode cX5_channel 109 = .ok (.invokestatic 34, 3) := by decide +kernel
theorem dX5_channel_112 : decode cX5_channel 112 = .ok (.istore 5, 2) := by decide +kernel
theorem dX5_channel_114 : decode cX5_channel 114 = .ok (.aload_n 0, 1) := by decide +kernel
theorem dX5_channel_115 : decode cX5_channel 115 = .ok (.getfield 7, 3) := by decide +kernel
theorem dX5_channel_118 : decode cX5_channel 118 = .ok (.iload 5, 2) := by decide +kernel
theorem dX5_channel_120 : decode cX5_channel 120 = .ok (.iconst 0, 1) := by decide +kernel
theorem dX5_channel_121 : decode cX5_channel 121 = .ok (.iadd, 1) := by decide +kernel
theorem dX5_channel_122 : decode cX5_channel 122 = .ok (.iload_n 1, 1) := by decide +kernel
theorem dX5_channel_123 : decode cX5_channel 123 = .ok (.iastore, 1) := by decide +kernel
theorem dX5_channel_124 : decode cX5_channel 124 = .ok (.aload_n 0, 1) := by decide +kernel
theorem dX5_channel_125 : decode cX5_channel 125 = .ok (.getfield 7, 3) := by decide +kernel
theorem dX5_channel_128 : decode cX5_channel 128 = .ok (.iload 5, 2) := by decide +kernel
theorem dX5_channel_130 : decode cX5_channel 130 = .ok (.iconst 1, 1) := by decide +kernel
theorem dX5_channel_131 : decode cX5_channel 131 = .ok (.iadd, 1) := by decide +kernel
theorem dX5_channel_132 : decode cX5_channel 132 = .ok (.iload_n 2, 1) := by decide +kernel
theorem dX5_channel_133 : decode cX5_channel 133 = .ok (.iastore, 1) := by decide +kernel
theorem dX5_channel_134 : decode cX5_channel 134 = .ok (.aload_n 0, 1) := by decide +kernel
theorem dX5_channel_135 : decode cX5_channel 135 = .ok (.getfield 7, 3) := by decide +kernel
theorem dX5_channel_138 : decode cX5_channel 138 = .ok (.iload 5, 2) := by decide +kernel
theorem dX5_channel_140 : decode cX5_channel 140 = .ok (.iconst 2, 1) := by decide +kernel
theorem dX5_channel_141 : decode cX5_channel 141 = .ok (.iadd, 1) := by decide +kernel
theorem dX5_channel_142 : decode cX5_channel 142 = .ok (.iload_n 3, 1) := by decide +kernel
theorem dX5_channel_143 : decode cX5_channel 143 = .ok (.iastore, 1) := by decide +kernel
theorem dX5_channel_144 : decode cX5_channel 144 = .ok (.aload_n 0, 1) := by decide +kernel
theorem dX5_channel_145 : decode cX5_channel 145 = .ok (.getfield 7, 3) := by decide +kernel
theorem dX5_channel_148 : decode cX5_channel 148 = .ok (.iload 5, 2) := by decide +kernel
theorem dX5_channel_150 : decode cX5_channel 150 = .ok (.iconst 3, 1) := by decide +kernel
theorem dX5_channel_151 : decode cX5_channel 151 = .ok (.iadd, 1) := by decide +kernel
theorem dX5_channel_152 : decode cX5_channel 152 = .ok (.iload 4, 2) := by decide +kernel
theorem dX5_channel_154 : decode cX5_channel 154 = .ok (.iastore, 1) := by decide +kernel
theorem dX5_channel_155 : decode cX5_channel 155 = .ok (.aload_n 0, 1) := by decide +kernel
theorem dX5_channel_156 : decode cX5_channel 156 = .ok (.getfield 7, 3) := by decide +kernel
theorem dX5_channel_159 : decode cX5_channel 159 = .ok (.iload 5, 2) := by decide +kernel
theorem dX5_channel_161 : decode cX5_channel 161 = .ok (.iconst 4, 1) := by decide +kernel
theorem dX5_channel_162 : decode cX5_channel 162 = .ok (.iadd, 1) := by decide +kernel
theorem dX5_channel_163 : decode cX5_channel 163 = .ok (.iconst 0, 1) := by decide +kernel
theorem dX5_channel_164 : decode cX5_channel 164 = .ok (.iastore, 1) := by decide +kernel
theorem dX5_channel_165 : decode cX5_channel 165 = .ok (.aload_n 0, 1) := by decide +kernel
theorem dX5_channel_166 : decode cX5_channel 166 = .ok (.getfield 7, 3) := by decide +kernel
theorem dX5_channel_169 : decode cX5_channel 169 = .ok (.iload 5, 2) := by decide +kernel
theorem dX5_channel_171 : decode cX5_channel 171 = .ok (.iconst 5, 1) := by decide +kernel
theorem dX5_channel_172 : decode cX5_channel 172 = .ok (.iadd, 1) := by decide +kernel
theorem dX5_channel_173 : decode cX5_channel 173 = .ok (.iconst 0, 1) := by decide +kernel
theorem dX5_channel_174 : decode cX5_channel 174 = .ok (.iastore, 1) := by decide +kernel
theorem dX5_channel_175 : decode cX5_channel 175 = .ok (.aload_n 0, 1) := by decide +kernel
theorem dX5_channel_176 : decode cX5_channel 176 = .ok (.getfield 7, 3) := by decide +kernel
theorem dX5_channel_179 : decode cX5_channel 179 = .ok (.iload 5, 2) := by decide +kernel
theorem dX5_channel_181 : decode cX5_channel 181 = .ok (.bipush 6, 2) := by decide +kernel
theorem dX5_channel_183 : decode cX5_channel 183 = .ok (.iadd, 1) := by decide +kernel
theorem dX5_channel_184 : decode cX5_channel 184 = .ok (.iconst 0, 1) := by decide +kernel
theorem dX5_channel_185 : decode cX5_channel 185 = .ok (.iastore, 1) := by decide +kernel
theorem dX5_channel_186 : decode cX5_channel 186 = .ok (.aload_n 0, 1) := by decide +kernel
theorem dX5_channel_187 : decode cX5_channel 187 = .ok (.getfield 7, 3) := by decide +kernel
theorem dX5_channel_190 : decode cX5_channel 190 = .ok (.iconst 1, 1) := by decide +kernel
theorem dX5_channel_191 : decode cX5_channel 191 = .ok (.dup2, 1) := by decide +kernel
theorem dX5_channel_192 : decode cX5_channel 192 = .ok (.iaload, 1) := by decide +kernel
theorem dX5_channel_193 : decode cX5_channel 193 = .ok (.iconst 1, 1) := by decide +kernel
theorem dX5_channel_194 : decode cX5_channel 194 = .ok (.iadd, 1) := by decide +kernel
theorem dX5_channel_195 : decode cX5_channel 195 = .ok (.iastore, 1) := by decide +kernel
theorem dX5_channel_196 : decode cX5_channel 196 = .ok (.aload_n 0, 1) := by decide +kernel
theorem dX5_channel_197 : decode cX5_channel 197 = .ok (.getfield 7, 3) := by decide +kernel
theorem dX5_channel_200 : decode cX5_channel 200 = .ok (.iconst 1, 1) := by decide +kernel
theorem dX5_channel_201 : decode cX5_channel 201 = .ok (.iaload, 1) := by decide +kernel
theorem dX5_channel_202 : decode cX5_channel 202 = .ok (.iconst 1, 1) := by decide +kernel
theorem dX5_channel_203 : decode cX5_channel 203 = .ok (.isub, 1) := by decide +kernel
theorem dX5_channel_204 : decode cX5_channel 204 = .ok (.ireturn, 1) := by decide +kernel
theorem dX5_comes_0 : decode cX5_comes 0 = .ok (.iload_n 1, 1) := by decide +kernel
theorem dX5_comes_1 : decode cX5_comes 1 = .ok (.bipush 112, 2) := by decide +kernel
theorem dX5_comes_3 : decode cX5_comes 3 = .ok (.iadd, 1) := by decide +kernel
theorem dX5_comes_4 : decode cX5_comes 4 = .ok (.iconst 5, 1) := by decide +kernel
theorem dX5_comes_5 : decode cX5_comes 5 = .ok (.aload_n 0, 1) := by decide +kernel
theorem dX5_comes_6 : decode cX5_comes 6 = .ok (.getfield 7, 3) := by decide +kernel
theorem dX5_comes_9 : decode cX5_comes 9 = .ok (.iload_n 1, 1) := by decide +kernel
theorem dX5_comes_10 : decode cX5_comes 10 = .ok (.bipush 9, 2) := by decide +kernel
theorem dX5_comes_12 : decode cX5_comes 12 = .ok (.iadd, 1) := by decide +kernel
theorem dX5_comes_13 : decode cX5_comes 13 = .ok (.iaload, 1) := by decide +kernel
theorem dX5_comes_14 : decode cX5_comes 14 = .ok (.imul, 1) := by decide +kernel
theorem dX5_comes_15 : decode cX5_comes 15 = .ok (.iadd, 1) := by decide +kernel
theorem dX5_comes_16 : decode cX5_comes 16 = .ok (.istore 6, 2) := by decide +kernel
theorem dX5_comes_18 : decode cX5_comes 18 = .ok (.aload_n 0, 1) := by decide +kernel
theorem dX5_comes_19 : decode cX5_comes 19 = .ok (.getfield 7, 3) := by decide +kernel
theorem dX5_comes_22 : decode cX5_comes 22 = .ok (.iload 6, 2) := by decide +kernel
theorem dX5_comes_24 : decode cX5_comes 24 = .ok (.iconst 0, 1) := by decide +kernel
theorem dX5_comes_25 : decode cX5_comes 25 = .ok (.iadd, 1) := by decide +kernel
theorem dX5_comes_26 : decode cX5_comes 26 = .ok (.iload_n 2, 1) := by decide +kernel
theorem dX5_comes_27 : decode cX5_comes 27 = .ok (.iastore, 1) := by decide +kernel
theorem dX5_comes_28 : decode cX5_comes 28 = .ok (.aload_n 0, 1) := by decide +kernel
theorem dX5_comes_29 : decode cX5_comes 29 = .ok (.getfield 7, 3) := by decide +kernel
theorem dX5_comes_32 : decode cX5_comes 32 = .ok (.iload 6, 2) := by decide +kernel
theorem dX5_comes_34 : decode cX5_comes 34 = .ok (.iconst 1, 1) := by decide +kernel
theorem dX5_comes_35 : decode cX5_comes 35 = .ok (.iadd, 1) := by decide +kernel
theorem dX5_comes_36 : decode cX5_comes 36 = .ok (.iload_n 3, 1) := by decide +kernel
theorem dX5_comes_37 : decode cX5_comes 37 = .ok (.iastore, 1) := by decide +kernel
theorem dX5_comes_38 : decode cX5_comes 38 = .ok (.aload_n 0, 1) := by decide +kernel
theorem dX5_comes_39 : decode cX5_comes 39 = .ok (.getfield 7, 3) := by decide +kernel
theorem dX5_comes_42 : decode cX5_comes 42 = .ok (.iload 6, 2) := by decide +kernel
theorem dX5_comes_44 : decode cX5_comes 44 = .ok (.iconst 2, 1) := by decide +kernel
theorem dX5_comes_45 : decode cX5_comes 45 = .ok (.iadd, 1) := by decide +kernel
theorem dX5_comes_46 : decode cX5_comes 46 = .ok (.iload 4, 2) := by decide +kernel
theorem dX5_comes_48 : decode cX5_comes 48 = .ok (.iastore, 1) := by decide +kernel
theorem dX5_comes_49 : decode cX5_comes 49 = .ok (.aload_n 0, 1) := by decide +kernel
theorem dX5_comes_50 : decode cX5_comes 50 = .ok (.getfield 7, 3) := by decide +kernel
theorem dX5_comes_53 : decode cX5_comes 53 = .ok (.iload 6, 2) := by decide +kernel
theorem dX5_comes_55 : decode cX5_comes 55 = .ok (.iconst 3, 1) := by decide +kernel
theorem dX5_comes_56 : decode cX5_comes 56 = .ok (.iadd, 1) := by decide +kernel
theorem dX5_comes_57 : decode cX5_comes 57 = .ok (.iload 5, 2) := by decide +kernel
theorem dX5_comes_59 : decode cX5_comes 59 = .ok (.iastore, 1) := by decide +kernel
theorem dX5_comes_60 : decode cX5_comes 60 = .ok (.aload_n 0, 1) := by decide +kernel
theorem dX5_comes_61 : decode cX5_comes 61 = .ok (.getfield 7, 3) := by decide +kernel
theorem dX5_comes_64 : decode cX5_comes 64 = .ok (.iload 6, 2) := by decide +kernel
theorem dX5_comes_66 : decode cX5_comes 66 = .ok (.iconst 4, 1) := by decide +kernel
theorem dX5_comes_67 : decode cX5_comes 67 = .ok (.iadd, 1) := by decide +kernel
theorem dX5_comes_68 : decode cX5_comes 68 = .ok (.aload_n 0, 1) := by decide +kernel
theorem dX5_comes_69 : decode cX5_comes 69 = .ok (.getfield 7, 3) := by decide +kernel
theorem dX5_comes_72 : decode cX5_comes 72 = .ok (.iload_n 1, 1) := by decide +kernel
theorem dX5_comes_73 : decode cX5_comes 73 = .ok (.bipush 8, 2) := by decide +kernel
theorem dX5_comes_75 : decode cX5_comes 75 = .ok (.iadd, 1) := by decide +kernel
theorem dX5_comes_76 : decode cX5_comes 76 = .ok (.iaload, 1) := by decide +kernel
theorem dX5_comes_77 : decode cX5_comes 77 = .ok (.iastore, 1) := by decide +kernel
theorem dX5_comes_78 : decode cX5_comes 78 = .ok (.aload_n 0, 1) := by decide +kernel
theorem dX5_comes_79 : decode cX5_comes 79 = .ok (.getfield 7, 3) := by decide +kernel
theorem dX5_comes_82 : decode cX5_comes 82 = .ok (.iload_n 1, 1) := by decide +kernel
theorem dX5_comes_83 : decode cX5_comes 83 = .ok (.bipush 8, 2) := by decide +kernel
theorem dX5_comes_85 : decode cX5_comes 85 = .ok (.iadd, 1) := by decide +kernel
theorem dX5_comes_86 : decode cX5_comes 86 = .ok (.dup2, 1) := by decide +kernel
theorem dX5_comes_87 : decode cX5_comes 87 = .ok (.iaload, 1) := by decide +kernel
theorem dX5_comes_88 : decode cX5_comes 88 = .ok (.iconst 1, 1) := by decide +kernel
theorem dX5_comes_89 : decode cX5_comes 89 = .ok (.iadd, 1) := by decide +kernel
theorem dX5_comes_90 : decode cX5_comes 90 = .ok (.iastore, 1) := by decide +kernel
theorem dX5_comes_91 : decode cX5_comes 91 = .ok (.aload_n 0, 1) := by decide +kernel
theorem dX5_comes_92 : decode cX5_comes 92 = .ok (.getfield 7, 3) := by decide +kernel
theorem dX5_comes_95 : decode cX5_comes 95 = .ok (.iload_n 1, 1) := by decide +kernel
theorem dX5_comes_96 : decode cX5_comes 96 = .ok (.bipush 9, 2) := by decide +kernel
theorem dX5_comes_98 : decode cX5_comes 98 = .ok (.iadd, 1) := by decide +kernel
theorem dX5_comes_99 : decode cX5_comes 99 = .ok (.dup2, 1) := by decide +kernel
theorem dX5_comes_100 : decode cX5_comes 100 = .ok (.iaload, 1) := by decide +kernel
theorem dX5_comes_101 : decode cX5_comes 101 = .ok (.iconst 1, 1) := by decide +kernel
theorem dX5_comes_102 : decode cX5_comes 102 = .ok (.iadd, 1) := by decide +kernel
theorem dX5_comes_103 : decode cX5_comes 103 = .ok (.iastore, 1) := by decide +kernel
theorem dX5_comes_104 : decode cX5_comes 104 = .ok (.return_, 1) := by decide +kernel
theorem dX5_waitFor_0 : decode cX5_waitFor 0 = .ok (.iconst 0, 1) := by decide +kernel
theorem dX5_waitFor_1 : decode cX5_waitFor 1 = .ok (.istore_n 3, 1) := by decide +kernel
theorem dX5_waitFor_2 : decode cX5_waitFor 2 = .ok (.iconst 0, 1) := by decide +kernel
theorem dX5_waitFor_3 : decode cX5_waitFor 3 = .ok (.istore 4, 2) := by decide +kernel
theorem dX5_waitFor_5 : decode cX5_waitFor 5 = .ok (.iload 4, 2) := by decide +kernel
theorem dX5_waitFor_7 : decode cX5_waitFor 7 = .ok (.aload_n 0, 1) := by decide +kernel
theorem dX5_waitFor_8 : decode cX5_waitFor 8 = .ok (.getfield 7, 3) := by decide +kernel
theorem dX5_waitFor_11 : decode cX5_waitFor 11 = .ok (.iload_n 1, 1) := by decide +kernel
theorem dX5_waitFor_12 : decode cX5_waitFor 12 = .ok (.bipush 9, 2) := by decide +kernel
theorem dX5_waitFor_14 : decode cX5_waitFor 14 = .ok (.iadd, 1) := by decide +kernel
theorem dX5_waitFor_15 : decode cX5_waitFor 15 = .ok (.iaload, 1) := by decide +kernel
theorem dX5_waitFor_16 : decode cX5_waitFor 16 = .ok (.if_icmp .ge 37, 3) := by decide +kernel
theorem dX5_waitFor_19 : decode cX5_waitFor 19 = .ok (.iload_n 3, 1) := by decide +kernel
theorem dX5_waitFor_20 : decode cX5_waitFor 20 = .ok (.aload_n 0, 1) := by decide +kernel
theorem dX5_waitFor_21 : decode cX5_waitFor 21 = .ok (.getfield 7, 3) := by decide +kernel
theorem dX5_waitFor_24 : decode cX5_waitFor 24 = .ok (.iload_n 1, 1) := by decide +kernel
theorem dX5_waitFor_25 : decode cX5_waitFor 25 = .ok (.bipush 112, 2) := by decide +kernel
theorem dX5_waitFor_27 : decode cX5_waitFor 27 = .ok (.iadd, 1) := by decide +kernel
theorem dX5_waitFor_28 : decode cX5_waitFor 28 = .ok (.iconst 5, 1) := by decide +kernel
theorem dX5_waitFor_29 : decode cX5_waitFor 29 = .ok (.iload 4, 2) := by decide +kernel
theorem dX5_waitFor_31 : decode cX5_waitFor 31 = .ok (.imul, 1) := by decide +kernel
theorem dX5_waitFor_32 : decode cX5_waitFor 32 = .ok (.iadd, 1) := by decide +kernel
theorem dX5_waitFor_33 : decode cX5_waitFor 33 = .ok (.iconst 0, 1) := by decide +kernel
theorem dX5_waitFor_34 : decode cX5_waitFor 34 = .ok (.iadd, 1) := by decide +kernel
theorem dX5_waitFor_35 : decode cX5_waitFor 35 = .ok (.iaload, 1) := by decide +kernel
theorem dX5_waitFor_36 : decode cX5_waitFor 36 = .ok (.iload_n 2, 1) := by decide +kernel
theorem dX5_waitFor_37 : decode cX5_waitFor 37 = .ok (.if_icmp .ne 7, 3) := by decide +kernel
theorem dX5_waitFor_40 : decode cX5_waitFor 40 = .ok (.iconst 1, 1) := by decide +kernel
theorem dX5_waitFor_41 : decode cX5_waitFor 41 = .ok (.goto 4, 3) := by decide +kernel
theorem dX5_waitFor_44 : decode cX5_waitFor 44 = .ok (.iconst 0, 1) := by decide +kernel
theorem dX5_waitFor_45 : decode cX5_waitFor 45 = .ok (.iadd, 1) := by decide +kernel
theorem dX5_waitFor_46 : decode cX5_waitFor 46 = .ok (.istore_n 3, 1) := by decide +kernel
theorem dX5_waitFor_47 : decode cX5_waitFor 47 = .ok (.iinc 4 1, 3) := by decide +kernel
theorem dX5_waitFor_50 : decode cX5_waitFor 50 = .ok (.goto (-45), 3) := by decide +kernel
theorem dX5_waitFor_53 : decode cX5_waitFor 53 = .ok (.iload_n 3, 1) := by decide +kernel
theorem dX5_waitFor_54 : decode cX5_waitFor 54 = .ok (.ireturn, 1) := by decide +kernel
theorem dX5_isPromised_0 : decode cX5_isPromised 0 = .ok (.iconst 0, 1) := by decide +kernel
theorem dX5_isPromised_1 : decode cX5_isPromised 1 = .ok (.istore_n 3, 1) := by decide +kernel
theorem dX5_isPromised_2 : decode cX5_isPromised 2 = .ok (.iconst 0, 1) := by decide +kernel
theorem dX5_isPromised_3 : decode cX5_isPromised 3 = .ok (.istore 4, 2) := by decide +kernel
theorem dX5_isPromised_5 : decode cX5_isPromised 5 = .ok (.iload 4, 2) := by decide +kernel
theorem dX5_isPromised_7 : decode cX5_isPromised 7 = .ok (.aload_n 0, 1) := by decide +kernel
theorem dX5_isPromised_8 : decode cX5_isPromised 8 = .ok (.getfield 7, 3) := by decide +kernel
theorem dX5_isPromised_11 : decode cX5_isPromised 11 = .ok (.iconst 1, 1) := by decide +kernel
theorem dX5_isPromised_12 : decode cX5_isPromised 12 = .ok (.iaload, 1) := by decide +kernel
theorem dX5_isPromised_13 : decode cX5_isPromised 13 = .ok (.if_icmp .ge 67, 3) := by decide +kernel
theorem dX5_isPromised_16 : decode cX5_isPromised 16 = .ok (.iload_n 3, 1) := by decide +kernel
theorem dX5_isPromised_17 : decode cX5_isPromised 17 = .ok (.ifCond .ne 51, 3) := by decide +kernel
theorem dX5_isPromised_20 : decode cX5_isPromised 20 = .ok (.aload_n 0, 1) := by decide +kernel
theorem dX5_isPromised_21 : decode cX5_isPromised 21 = .ok (.getfield 7, 3) := by decide +kernel
theorem dX5_isPromised_24 : decode cX5_isPromised 24 = .ok (.iconst 0, 1) := by decide +kernel
theorem dX5_isPromised_25 : decode cX5_isPromised 25 = .ok (.iload 4, 2) := by decide +kernel
theorem dX5_isPromised_27 : decode cX5_isPromised 27 = .ok (.invokestatic 34, 3) := by decide +kernel
theorem dX5_isPromised_30 : decode cX5_isPromised 30 = .ok (.iconst 0, 1) := by decide +kernel
theorem dX5_isPromised_31 : decode cX5_isPromised 31 = .ok (.iadd, 1) := by decide +kernel
theorem dX5_isPromised_32 : decode cX5_isPromised 32 = .ok (.iaload, 1) := by decide +kernel
theorem dX5_isPromised_33 : decode cX5_isPromised 33 = .ok (.iload_n 1, 1) := by decide +kernel
theorem dX5_isPromised_34 : decode cX5_isPromised 34 = .ok (.if_icmp .ne 38, 3) := by decide +kernel
theorem dX5_isPromised_37 : decode cX5_isPromised 37 = .ok (.aload_n 0, 1) := by decide +kernel
theorem dX5_isPromised_38 : decode cX5_isPromised 38 = .ok (.getfield 7, 3) := by decide +kernel
theorem dX5_isPromised_41 : decode cX5_isPromised 41 = .ok (.iconst 0, 1) := by decide +kernel
theorem dX5_isPromised_42 : decode cX5_isPromised 42 = .ok (.iload 4, 2) := by decide +kernel
theorem dX5_isPromised_44 : decode cX5_isPromised 44 = .ok (.invokestatic 34, 3) := by decide +kernel
theorem dX5_isPromised_47 : decode cX5_isPromised 47 = .ok (.iconst 4, 1) := by decide +kernel
theorem dX5_isPromised_48 : decode cX5_isPromised 48 = .ok (.iadd, 1) := by decide +kernel
theorem dX5_isPromised_49 : decode cX5_isPromised 49 = .ok (.iaload, 1) := by decide +kernel
theorem dX5_isPromised_50 : decode cX5_isPromised 50 = .ok (.iload_n 2, 1) := by decide +kernel
theorem dX5_isPromised_51 : decode cX5_isPromised 51 = .ok (.aload_n 0, 1) := by decide +kernel
theorem dX5_isPromised_52 : decode cX5_isPromised 52 = .ok (.getfield 7, 3) := by decide +kernel
theorem dX5_isPromised_55 : decode cX5_isPromised 55 = .ok (.iconst 0, 1) := by decide +kernel
theorem dX5_isPromised_56 : decode cX5_isPromised 56 = .ok (.iload 4, 2) := by decide +kernel
theorem dX5_isPromised_58 : decode cX5_isPromised 58 = .ok (.invokestatic 34, 3) := by decide +kernel
theorem dX5_isPromised_61 : decode cX5_isPromised 61 = .ok (.iconst 2, 1) := by decide +kernel
theorem dX5_isPromised_62 : decode cX5_isPromised 62 = .ok (.iadd, 1) := by decide +kernel
theorem dX5_isPromised_63 : decode cX5_isPromised 63 = .ok (.iaload, 1) := by decide +kernel
theorem dX5_isPromised_64 : decode cX5_isPromised 64 = .ok (.iadd, 1) := by decide +kernel
theorem dX5_isPromised_65 : decode cX5_isPromised 65 = .ok (.if_icmp .le 7, 3) := by decide +kernel
theorem dX5_isPromised_68 : decode cX5_isPromised 68 = .ok (.iconst 1, 1) := by decide +kernel
theorem dX5_isPromised_69 : decode cX5_isPromised 69 = .ok (.goto 4, 3) := by decide +kernel
theorem dX5_isPromised_72 : decode cX5_isPromised 72 = .ok (.iconst 0, 1) := by decide +kernel
theorem dX5_isPromised_73 : decode cX5_isPromised 73 = .ok (.istore_n 3, 1) := by decide +kernel
theorem dX5_isPromised_74 : decode cX5_isPromised 74 = .ok (.iinc 4 1, 3) := by decide +kernel
theorem dX5_isPromised_77 : decode cX5_isPromised 77 = .ok (.goto (-72), 3) := by decide +kernel
theorem dX5_isPromised_80 : decode cX5_isPromised 80 = .ok (.iload_n 3, 1) := by decide +kernel
theorem dX5_isPromised_81 : decode cX5_isPromised 81 = .ok (.ireturn, 1) := by decide +kernel
theorem dX5_event_0 : decode cX5_event 0 = .ok (.aload_n 0, 1) := by decide +kernel
theorem dX5_event_1 : decode cX5_event 1 = .ok (.iload_n 1, 1) := by decide +kernel
theorem dX5_event_2 : decode cX5_event 2 = .ok (.invokevirtual 38, 3) := by decide +kernel
theorem dX5_event_5 : decode cX5_event 5 = .ok (.ifCond .ne 6, 3) := by decide +kernel
theorem dX5_event_8 : decode cX5_event 8 = .ok (.ldc 42, 2) := by decide +kernel
theorem dX5_event_10 : decode cX5_event 10 = .ok (.ireturn, 1) := by decide +kernel
theorem dX5_event_11 : decode cX5_event 11 = .ok (.iload_n 2, 1) := by decide +kernel
theorem dX5_event_12 : decode cX5_event 12 = .ok (.i2l, 1) := by decide +kernel
theorem dX5_event_13 : decode cX5_event 13 = .ok (.lconst 0, 1) := by decide +kernel
theorem dX5_event_14 : decode cX5_event 14 = .ok (.ldc2_w 50, 3) := by decide +kernel
theorem dX5_event_17 : decode cX5_event 17 = .ok (.invokestatic 23, 3) := by decide +kernel
theorem dX5_event_20 : decode cX5_event 20 = .ok (.ifCond .eq 15, 3) := by decide +kernel
theorem dX5_event_23 : decode cX5_event 23 = .ok (.iload_n 3, 1) := by decide +kernel
theorem dX5_event_24 : decode cX5_event 24 = .ok (.i2l, 1) := by decide +kernel
theorem dX5_event_25 : decode cX5_event 25 = .ok (.lconst 0, 1) := by decide +kernel
theorem dX5_event_26 : decode cX5_event 26 = .ok (.ldc2_w 43, 3) := by decide +kernel
theorem dX5_event_29 : decode cX5_event 29 = .ok (.invokestatic 23, 3) := by decide +kernel
theorem dX5_event_32 : decode cX5_event 32 = .ok (.ifCond .ne 6, 3) := by decide +kernel
theorem dX5_event_35 : decode cX5_event 35 = .ok (.ldc 29, 2) := by decide +kernel
theorem dX5_event_37 : decode cX5_event 37 = .ok (.ireturn, 1) := by decide +kernel
theorem dX5_event_38 : decode cX5_event 38 = .ok (.aload_n 0, 1) := by decide +kernel
theorem dX5_event_39 : decode cX5_event 39 = .ok (.getfield 7, 3) := by decide +kernel
theorem dX5_event_42 : decode cX5_event 42 = .ok (.bipush 10, 2) := by decide +kernel
theorem dX5_event_44 : decode cX5_event 44 = .ok (.iload_n 1, 1) := by decide +kernel
theorem dX5_event_45 : decode cX5_event 45 = .ok (.iadd, 1) := by decide +kernel
theorem dX5_event_46 : decode cX5_event 46 = .ok (.iaload, 1) := by decide +kernel
theorem dX5_event_47 : decode cX5_event 47 = .ok (.ifCond .le 16, 3) := by decide +kernel
theorem dX5_event_50 : decode cX5_event 50 = .ok (.aload_n 0, 1) := by decide +kernel
theorem dX5_event_51 : decode cX5_event 51 = .ok (.getfield 7, 3) := by decide +kernel
theorem dX5_event_54 : decode cX5_event 54 = .ok (.bipush 22, 2) := by decide +kernel
theorem dX5_event_56 : decode cX5_event 56 = .ok (.iload_n 1, 1) := by decide +kernel
theorem dX5_event_57 : decode cX5_event 57 = .ok (.iadd, 1) := by decide +kernel
theorem dX5_event_58 : decode cX5_event 58 = .ok (.iaload, 1) := by decide +kernel
theorem dX5_event_59 : decode cX5_event 59 = .ok (.iload_n 2, 1) := by decide +kernel
theorem dX5_event_60 : decode cX5_event 60 = .ok (.if_icmp .ge 12, 3) := by decide +kernel
theorem dX5_event_63 : decode cX5_event 63 = .ok (.aload_n 0, 1) := by decide +kernel
theorem dX5_event_64 : decode cX5_event 64 = .ok (.iload_n 1, 1) := by decide +kernel
theorem dX5_event_65 : decode cX5_event 65 = .ok (.iload_n 2, 1) := by decide +kernel
theorem dX5_event_66 : decode cX5_event 66 = .ok (.invokevirtual 52, 3) := by decide +kernel
theorem dX5_event_69 : decode cX5_event 69 = .ok (.ifCond .eq 6, 3) := by decide +kernel
theorem dX5_event_72 : decode cX5_event 72 = .ok (.ldc 48, 2) := by decide +kernel
theorem dX5_event_74 : decode cX5_event 74 = .ok (.ireturn, 1) := by decide +kernel
theorem dX5_event_75 : decode cX5_event 75 = .ok (.aload_n 0, 1) := by decide +kernel
theorem dX5_event_76 : decode cX5_event 76 = .ok (.getfield 7, 3) := by decide +kernel
theorem dX5_event_79 : decode cX5_event 79 = .ok (.bipush 7, 2) := by decide +kernel
theorem dX5_event_81 : decode cX5_event 81 = .ok (.iaload, 1) := by decide +kernel
theorem dX5_event_82 : decode cX5_event 82 = .ok (.bipush 30, 2) := by decide +kernel
theorem dX5_event_84 : decode cX5_event 84 = .ok (.if_icmp .ne 6, 3) := by decide +kernel
theorem dX5_event_87 : decode cX5_event 87 = .ok (.ldc 49, 2) := by decide +kernel
theorem dX5_event_89 : decode cX5_event 89 = .ok (.ireturn, 1) := by decide +kernel
theorem dX5_event_90 : decode cX5_event 90 = .ok (.aload_n 0, 1) := by decide +kernel
theorem dX5_event_91 : decode cX5_event 91 = .ok (.iconst 0, 1) := by decide +kernel
theorem dX5_event_92 : decode cX5_event 92 = .ok (.iload_n 1, 1) := by decide +kernel
theorem dX5_event_93 : decode cX5_event 93 = .ok (.iload_n 2, 1) := by decide +kernel
theorem dX5_event_94 : decode cX5_event 94 = .ok (.iconst (-1), 1) := by decide +kernel
theorem dX5_event_95 : decode cX5_event 95 = .ok (.iload_n 3, 1) := by decide +kernel
theorem dX5_event_96 : decode cX5_event 96 = .ok (.invokevirtual 56, 3) := by decide +kernel
theorem dX5_event_99 : decode cX5_event 99 = .ok (.aload_n 0, 1) := by decide +kernel
theorem dX5_event_100 : decode cX5_event 100 = .ok (.getfield 7, 3) := by decide +kernel
theorem dX5_event_103 : decode cX5_event 103 = .ok (.bipush 7, 2) := by decide +kernel
theorem dX5_event_105 : decode cX5_event 105 = .ok (.dup2, 1) := by decide +kernel
theorem dX5_event_106 : decode cX5_event 106 = .ok (.iaload, 1) := by decide +kernel
theorem dX5_event_107 : decode cX5_event 107 = .ok (.iconst 1, 1) := by decide +kernel
theorem dX5_event_108 : decode cX5_event 108 = .ok (.iadd, 1) := by decide +kernel
theorem dX5_event_109 : decode cX5_event 109 = .ok (.iastore, 1) := by decide +kernel
theorem dX5_event_110 : decode cX5_event 110 = .ok (.aload_n 0, 1) := by decide +kernel
theorem dX5_event_111 : decode cX5_event 111 = .ok (.iconst 0, 1) := by decide +kernel
theorem dX5_event_112 : decode cX5_event 112 = .ok (.iload_n 1, 1) := by decide +kernel
theorem dX5_event_113 : decode cX5_event 113 = .ok (.invokevirtual 60, 3) := by decide +kernel
theorem dX5_event_116 : decode cX5_event 116 = .ok (.ireturn, 1) := by decide +kernel
theorem dX5_form_0 : decode cX5_form 0 = .ok (.iload_n 1, 1) := by decide +kernel
theorem dX5_form_1 : decode cX5_form 1 = .ok (.i2l, 1) := by decide +kernel
theorem dX5_form_2 : decode cX5_form 2 = .ok (.lconst 0, 1) := by decide +kernel
theorem dX5_form_3 : decode cX5_form 3 = .ok (.ldc2_w 63, 3) := by decide +kernel
theorem dX5_form_6 : decode cX5_form 6 = .ok (.invokestatic 23, 3) := by decide +kernel
theorem dX5_form_9 : decode cX5_form 9 = .ok (.ifCond .ne 6, 3) := by decide +kernel
theorem dX5_form_12 : decode cX5_form 12 = .ok (.ldc 29, 2) := by decide +kernel
theorem dX5_form_14 : decode cX5_form 14 = .ok (.ireturn, 1) := by decide +kernel
theorem dX5_form_15 : decode cX5_form 15 = .ok (.aload_n 0, 1) := by decide +kernel
theorem dX5_form_16 : decode cX5_form 16 = .ok (.getfield 7, 3) := by decide +kernel
theorem dX5_form_19 : decode cX5_form 19 = .ok (.iconst 2, 1) := by decide +kernel
theorem dX5_form_20 : decode cX5_form 20 = .ok (.iaload, 1) := by decide +kernel
theorem dX5_form_21 : decode cX5_form 21 = .ok (.istore_n 2, 1) := by decide +kernel
theorem dX5_form_22 : decode cX5_form 22 = .ok (.aload_n 0, 1) := by decide +kernel
theorem dX5_form_23 : decode cX5_form 23 = .ok (.getfield 7, 3) := by decide +kernel
theorem dX5_form_26 : decode cX5_form 26 = .ok (.iconst 2, 1) := by decide +kernel
theorem dX5_form_27 : decode cX5_form 27 = .ok (.iload_n 1, 1) := by decide +kernel
theorem dX5_form_28 : decode cX5_form 28 = .ok (.iastore, 1) := by decide +kernel
theorem dX5_form_29 : decode cX5_form 29 = .ok (.iload_n 2, 1) := by decide +kernel
theorem dX5_form_30 : decode cX5_form 30 = .ok (.ireturn, 1) := by decide +kernel
theorem dX5_draw_0 : decode cX5_draw 0 = .ok (.aload_n 0, 1) := by decide +kernel
theorem dX5_draw_1 : decode cX5_draw 1 = .ok (.aload_n 0, 1) := by decide +kernel
theorem dX5_draw_2 : decode cX5_draw 2 = .ok (.getfield 65, 3) := by decide +kernel
theorem dX5_draw_5 : decode cX5_draw 5 = .ok (.ldc2_w 69, 3) := by decide +kernel
theorem dX5_draw_8 : decode cX5_draw 8 = .ok (.lmul, 1) := by decide +kernel
theorem dX5_draw_9 : decode cX5_draw 9 = .ok (.ldc2_w 71, 3) := by decide +kernel
theorem dX5_draw_12 : decode cX5_draw 12 = .ok (.lrem, 1) := by decide +kernel
theorem dX5_draw_13 : decode cX5_draw 13 = .ok (.putfield 65, 3) := by decide +kernel
theorem dX5_draw_16 : decode cX5_draw 16 = .ok (.aload_n 0, 1) := by decide +kernel
theorem dX5_draw_17 : decode cX5_draw 17 = .ok (.getfield 65, 3) := by decide +kernel
theorem dX5_draw_20 : decode cX5_draw 20 = .ok (.iload_n 1, 1) := by decide +kernel
theorem dX5_draw_21 : decode cX5_draw 21 = .ok (.i2l, 1) := by decide +kernel
theorem dX5_draw_22 : decode cX5_draw 22 = .ok (.lrem, 1) := by decide +kernel
theorem dX5_draw_23 : decode cX5_draw 23 = .ok (.l2i, 1) := by decide +kernel
theorem dX5_draw_24 : decode cX5_draw 24 = .ok (.ireturn, 1) := by decide +kernel
theorem dX5_drift_0 : decode cX5_drift 0 = .ok (.iload_n 1, 1) := by decide +kernel
theorem dX5_drift_1 : decode cX5_drift 1 = .ok (.i2l, 1) := by decide +kernel
theorem dX5_drift_2 : decode cX5_drift 2 = .ok (.lconst 1, 1) := by decide +kernel
theorem dX5_drift_3 : decode cX5_drift 3 = .ok (.ldc2_w 73, 3) := by decide +kernel
theorem dX5_drift_6 : decode cX5_drift 6 = .ok (.invokestatic 23, 3) := by decide +kernel
theorem dX5_drift_9 : decode cX5_drift 9 = .ok (.ifCond .eq 15, 3) := by decide +kernel
theorem dX5_drift_12 : decode cX5_drift 12 = .ok (.iload_n 2, 1) := by decide +kernel
theorem dX5_drift_13 : decode cX5_drift 13 = .ok (.i2l, 1) := by decide +kernel
theorem dX5_drift_14 : decode cX5_drift 14 = .ok (.lconst 1, 1) := by decide +kernel
theorem dX5_drift_15 : decode cX5_drift 15 = .ok (.ldc2_w 75, 3) := by decide +kernel
theorem dX5_drift_18 : decode cX5_drift 18 = .ok (.invokestatic 23, 3) := by decide +kernel
theorem dX5_drift_21 : decode cX5_drift 21 = .ok (.ifCond .ne 6, 3) := by decide +kernel
theorem dX5_drift_24 : decode cX5_drift 24 = .ok (.ldc 29, 2) := by decide +kernel
theorem dX5_drift_26 : decode cX5_drift 26 = .ok (.ireturn, 1) := by decide +kernel
theorem dX5_drift_27 : decode cX5_drift 27 = .ok (.aload_n 0, 1) := by decide +kernel
theorem dX5_drift_28 : decode cX5_drift 28 = .ok (.getfield 7, 3) := by decide +kernel
theorem dX5_drift_31 : decode cX5_drift 31 = .ok (.iconst 0, 1) := by decide +kernel
theorem dX5_drift_32 : decode cX5_drift 32 = .ok (.iaload, 1) := by decide +kernel
theorem dX5_drift_33 : decode cX5_drift 33 = .ok (.ifCond .ne 6, 3) := by decide +kernel
theorem dX5_drift_36 : decode cX5_drift 36 = .ok (.ldc 48, 2) := by decide +kernel
theorem dX5_drift_38 : decode cX5_drift 38 = .ok (.ireturn, 1) := by decide +kernel
theorem dX5_drift_39 : decode cX5_drift 39 = .ok (.aload_n 0, 1) := by decide +kernel
theorem dX5_drift_40 : decode cX5_drift 40 = .ok (.iload_n 2, 1) := by decide +kernel
theorem dX5_drift_41 : decode cX5_drift 41 = .ok (.i2l, 1) := by decide +kernel
theorem dX5_drift_42 : decode cX5_drift 42 = .ok (.putfield 65, 3) := by decide +kernel
theorem dX5_drift_45 : decode cX5_drift 45 = .ok (.iconst 0, 1) := by decide +kernel
theorem dX5_drift_46 : decode cX5_drift 46 = .ok (.istore_n 3, 1) := by decide +kernel
theorem dX5_drift_47 : decode cX5_drift 47 = .ok (.iconst 0, 1) := by decide +kernel
theorem dX5_drift_48 : decode cX5_drift 48 = .ok (.istore 4, 2) := by decide +kernel
theorem dX5_drift_50 : decode cX5_drift 50 = .ok (.iload 4, 2) := by decide +kernel
theorem dX5_drift_52 : decode cX5_drift 52 = .ok (.iload_n 1, 1) := by decide +kernel
theorem dX5_drift_53 : decode cX5_drift 53 = .ok (.if_icmp .ge 71, 3) := by decide +kernel
theorem dX5_drift_56 : decode cX5_drift 56 = .ok (.aload_n 0, 1) := by decide +kernel
theorem dX5_drift_57 : decode cX5_drift 57 = .ok (.aload_n 0, 1) := by decide +kernel
theorem dX5_drift_58 : decode cX5_drift 58 = .ok (.getfield 7, 3) := by decide +kernel
theorem dX5_drift_61 : decode cX5_drift 61 = .ok (.iconst 0, 1) := by decide +kernel
theorem dX5_drift_62 : decode cX5_drift 62 = .ok (.iaload, 1) := by decide +kernel
theorem dX5_drift_63 : decode cX5_drift 63 = .ok (.invokevirtual 77, 3) := by decide +kernel
theorem dX5_drift_66 : decode cX5_drift 66 = .ok (.istore 5, 2) := by decide +kernel
theorem dX5_drift_68 : decode cX5_drift 68 = .ok (.aload_n 0, 1) := by decide +kernel
theorem dX5_drift_69 : decode cX5_drift 69 = .ok (.getfield 7, 3) := by decide +kernel
theorem dX5_drift_72 : decode cX5_drift 72 = .ok (.bipush 22, 2) := by decide +kernel
theorem dX5_drift_74 : decode cX5_drift 74 = .ok (.iload 5, 2) := by decide +kernel
theorem dX5_drift_76 : decode cX5_drift 76 = .ok (.iadd, 1) := by decide +kernel
theorem dX5_drift_77 : decode cX5_drift 77 = .ok (.iaload, 1) := by decide +kernel
theorem dX5_drift_78 : decode cX5_drift 78 = .ok (.iconst 1, 1) := by decide +kernel
theorem dX5_drift_79 : decode cX5_drift 79 = .ok (.iadd, 1) := by decide +kernel
theorem dX5_drift_80 : decode cX5_drift 80 = .ok (.aload_n 0, 1) := by decide +kernel
theorem dX5_drift_81 : decode cX5_drift 81 = .ok (.bipush 50, 2) := by decide +kernel
theorem dX5_drift_83 : decode cX5_drift 83 = .ok (.invokevirtual 77, 3) := by decide +kernel
theorem dX5_drift_86 : decode cX5_drift 86 = .ok (.iadd, 1) := by decide +kernel
theorem dX5_drift_87 : decode cX5_drift 87 = .ok (.istore 6, 2) := by decide +kernel
theorem dX5_drift_89 : decode cX5_drift 89 = .ok (.aload_n 0, 1) := by decide +kernel
theorem dX5_drift_90 : decode cX5_drift 90 = .ok (.bipush 20, 2) := by decide +kernel
theorem dX5_drift_92 : decode cX5_drift 92 = .ok (.invokevirtual 77, 3) := by decide +kernel
theorem dX5_drift_95 : decode cX5_drift 95 = .ok (.istore 7, 2) := by decide +kernel
theorem dX5_drift_97 : decode cX5_drift 97 = .ok (.iload_n 3, 1) := by decide +kernel
theorem dX5_drift_98 : decode cX5_drift 98 = .ok (.aload_n 0, 1) := by decide +kernel
theorem dX5_drift_99 : decode cX5_drift 99 = .ok (.iload 5, 2) := by decide +kernel
theorem dX5_drift_101 : decode cX5_drift 101 = .ok (.iload 6, 2) := by decide +kernel
theorem dX5_drift_103 : decode cX5_drift 103 = .ok (.iload 7, 2) := by decide +kernel
theorem dX5_drift_105 : decode cX5_drift 105 = .ok (.invokevirtual 81, 3) := by decide +kernel
theorem dX5_drift_108 : decode cX5_drift 108 = .ok (.ifCond .le 7, 3) := by decide +kernel
theorem dX5_drift_111 : decode cX5_drift 111 = .ok (.iconst 1, 1) := by decide +kernel
theorem dX5_drift_112 : decode cX5_drift 112 = .ok (.goto 4, 3) := by decide +kernel
theorem dX5_drift_115 : decode cX5_drift 115 = .ok (.iconst 0, 1) := by decide +kernel
theorem dX5_drift_116 : decode cX5_drift 116 = .ok (.iadd, 1) := by decide +kernel
theorem dX5_drift_117 : decode cX5_drift 117 = .ok (.istore_n 3, 1) := by decide +kernel
theorem dX5_drift_118 : decode cX5_drift 118 = .ok (.iinc 4 1, 3) := by decide +kernel
theorem dX5_drift_121 : decode cX5_drift 121 = .ok (.goto (-71), 3) := by decide +kernel
theorem dX5_drift_124 : decode cX5_drift 124 = .ok (.iload_n 3, 1) := by decide +kernel
theorem dX5_drift_125 : decode cX5_drift 125 = .ok (.ireturn, 1) := by decide +kernel
theorem dX5_isAhead_0 : decode cX5_isAhead 0 = .ok (.aload_n 0, 1) := by decide +kernel
theorem dX5_isAhead_1 : decode cX5_isAhead 1 = .ok (.getfield 7, 3) := by decide +kernel
theorem dX5_isAhead_4 : decode cX5_isAhead 4 = .ok (.iload_n 1, 1) := by decide +kernel
theorem dX5_isAhead_5 : decode cX5_isAhead 5 = .ok (.iconst 1, 1) := by decide +kernel
theorem dX5_isAhead_6 : decode cX5_isAhead 6 = .ok (.iadd, 1) := by decide +kernel
theorem dX5_isAhead_7 : decode cX5_isAhead 7 = .ok (.iaload, 1) := by decide +kernel
theorem dX5_isAhead_8 : decode cX5_isAhead 8 = .ok (.aload_n 0, 1) := by decide +kernel
theorem dX5_isAhead_9 : decode cX5_isAhead 9 = .ok (.getfield 7, 3) := by decide +kernel
theorem dX5_isAhead_12 : decode cX5_isAhead 12 = .ok (.iload_n 2, 1) := by decide +kernel
theorem dX5_isAhead_13 : decode cX5_isAhead 13 = .ok (.iconst 1, 1) := by decide +kernel
theorem dX5_isAhead_14 : decode cX5_isAhead 14 = .ok (.iadd, 1) := by decide +kernel
theorem dX5_isAhead_15 : decode cX5_isAhead 15 = .ok (.iaload, 1) := by decide +kernel
theorem dX5_isAhead_16 : decode cX5_isAhead 16 = .ok (.if_icmp .eq 28, 3) := by decide +kernel
theorem dX5_isAhead_19 : decode cX5_isAhead 19 = .ok (.aload_n 0, 1) := by decide +kernel
theorem dX5_isAhead_20 : decode cX5_isAhead 20 = .ok (.getfield 7, 3) := by decide +kernel
theorem dX5_isAhead_23 : decode cX5_isAhead 23 = .ok (.iload_n 1, 1) := by decide +kernel
theorem dX5_isAhead_24 : decode cX5_isAhead 24 = .ok (.iconst 1, 1) := by decide +kernel
theorem dX5_isAhead_25 : decode cX5_isAhead 25 = .ok (.iadd, 1) := by decide +kernel
theorem dX5_isAhead_26 : decode cX5_isAhead 26 = .ok (.iaload, 1) := by decide +kernel
theorem dX5_isAhead_27 : decode cX5_isAhead 27 = .ok (.aload_n 0, 1) := by decide +kernel
theorem dX5_isAhead_28 : decode cX5_isAhead 28 = .ok (.getfield 7, 3) := by decide +kernel
theorem dX5_isAhead_31 : decode cX5_isAhead 31 = .ok (.iload_n 2, 1) := by decide +kernel
theorem dX5_isAhead_32 : decode cX5_isAhead 32 = .ok (.iconst 1, 1) := by decide +kernel
theorem dX5_isAhead_33 : decode cX5_isAhead 33 = .ok (.iadd, 1) := by decide +kernel
theorem dX5_isAhead_34 : decode cX5_isAhead 34 = .ok (.iaload, 1) := by decide +kernel
theorem dX5_isAhead_35 : decode cX5_isAhead 35 = .ok (.if_icmp .ge 7, 3) := by decide +kernel
theorem dX5_isAhead_38 : decode cX5_isAhead 38 = .ok (.iconst 1, 1) := by decide +kernel
theorem dX5_isAhead_39 : decode cX5_isAhead 39 = .ok (.goto 4, 3) := by decide +kernel
theorem dX5_isAhead_42 : decode cX5_isAhead 42 = .ok (.iconst 0, 1) := by decide +kernel
theorem dX5_isAhead_43 : decode cX5_isAhead 43 = .ok (.ireturn, 1) := by decide +kernel
theorem dX5_isAhead_44 : decode cX5_isAhead 44 = .ok (.aload_n 0, 1) := by decide +kernel
theorem dX5_isAhead_45 : decode cX5_isAhead 45 = .ok (.getfield 7, 3) := by decide +kernel
theorem dX5_isAhead_48 : decode cX5_isAhead 48 = .ok (.iload_n 1, 1) := by decide +kernel
theorem dX5_isAhead_49 : decode cX5_isAhead 49 = .ok (.iconst 2, 1) := by decide +kernel
theorem dX5_isAhead_50 : decode cX5_isAhead 50 = .ok (.iadd, 1) := by decide +kernel
theorem dX5_isAhead_51 : decode cX5_isAhead 51 = .ok (.iaload, 1) := by decide +kernel
theorem dX5_isAhead_52 : decode cX5_isAhead 52 = .ok (.aload_n 0, 1) := by decide +kernel
theorem dX5_isAhead_53 : decode cX5_isAhead 53 = .ok (.getfield 7, 3) := by decide +kernel
theorem dX5_isAhead_56 : decode cX5_isAhead 56 = .ok (.iload_n 2, 1) := by decide +kernel
theorem dX5_isAhead_57 : decode cX5_isAhead 57 = .ok (.iconst 2, 1) := by decide +kernel
theorem dX5_isAhead_58 : decode cX5_isAhead 58 = .ok (.iadd, 1) := by decide +kernel
theorem dX5_isAhead_59 : decode cX5_isAhead 59 = .ok (.iaload, 1) := by decide +kernel
theorem dX5_isAhead_60 : decode cX5_isAhead 60 = .ok (.if_icmp .eq 30, 3) := by decide +kernel
theorem dX5_isAhead_63 : decode cX5_isAhead 63 = .ok (.aload_n 0, 1) := by decide +kernel
theorem dX5_isAhead_64 : decode cX5_isAhead 64 = .ok (.getfield 7, 3) := by decide +kernel
theorem dX5_isAhead_67 : decode cX5_isAhead 67 = .ok (.iload_n 1, 1) := by decide +kernel
theorem dX5_isAhead_68 : decode cX5_isAhead 68 = .ok (.iconst 2, 1) := by decide +kernel
theorem dX5_isAhead_69 : decode cX5_isAhead 69 = .ok (.iadd, 1) := by decide +kernel
theorem dX5_isAhead_70 : decode cX5_isAhead 70 = .ok (.iaload, 1) := by decide +kernel
theorem dX5_isAhead_71 : decode cX5_isAhead 71 = .ok (.aload_n 0, 1) := by decide +kernel
theorem dX5_isAhead_72 : decode cX5_isAhead 72 = .ok (.getfield 7, 3) := by decide +kernel
theorem dX5_isAhead_75 : decode cX5_isAhead 75 = .ok (.iload_n 2, 1) := by decide +kernel
theorem dX5_isAhead_76 : decode cX5_isAhead 76 = .ok (.iconst 2, 1) := by decide +kernel
theorem dX5_isAhead_77 : decode cX5_isAhead 77 = .ok (.iadd, 1) := by decide +kernel
theorem dX5_isAhead_78 : decode cX5_isAhead 78 = .ok (.iaload, 1) := by decide +kernel
theorem dX5_isAhead_79 : decode cX5_isAhead 79 = .ok (.if_icmp .ge 7, 3) := by decide +kernel
theorem dX5_isAhead_82 : decode cX5_isAhead 82 = .ok (.iconst 1, 1) := by decide +kernel
theorem dX5_isAhead_83 : decode cX5_isAhead 83 = .ok (.goto 31, 3) := by decide +kernel
theorem dX5_isAhead_86 : decode cX5_isAhead 86 = .ok (.iconst 0, 1) := by decide +kernel
theorem dX5_isAhead_87 : decode cX5_isAhead 87 = .ok (.goto 27, 3) := by decide +kernel
theorem dX5_isAhead_90 : decode cX5_isAhead 90 = .ok (.aload_n 0, 1) := by decide +kernel
theorem dX5_isAhead_91 : decode cX5_isAhead 91 = .ok (.getfield 7, 3) := by decide +kernel
theorem dX5_isAhead_94 : decode cX5_isAhead 94 = .ok (.iload_n 1, 1) := by decide +kernel
theorem dX5_isAhead_95 : decode cX5_isAhead 95 = .ok (.iconst 4, 1) := by decide +kernel
theorem dX5_isAhead_96 : decode cX5_isAhead 96 = .ok (.iadd, 1) := by decide +kernel
theorem dX5_isAhead_97 : decode cX5_isAhead 97 = .ok (.iaload, 1) := by decide +kernel
theorem dX5_isAhead_98 : decode cX5_isAhead 98 = .ok (.aload_n 0, 1) := by decide +kernel
theorem dX5_isAhead_99 : decode cX5_isAhead 99 = .ok (.getfield 7, 3) := by decide +kernel
theorem dX5_isAhead_102 : decode cX5_isAhead 102 = .ok (.iload_n 2, 1) := by decide +kernel
theorem dX5_isAhead_103 : decode cX5_isAhead 103 = .ok (.iconst 4, 1) := by decide +kernel
theorem dX5_isAhead_104 : decode cX5_isAhead 104 = .ok (.iadd, 1) := by decide +kernel
theorem dX5_isAhead_105 : decode cX5_isAhead 105 = .ok (.iaload, 1) := by decide +kernel
theorem dX5_isAhead_106 : decode cX5_isAhead 106 = .ok (.if_icmp .ge 7, 3) := by decide +kernel
theorem dX5_isAhead_109 : decode cX5_isAhead 109 = .ok (.iconst 1, 1) := by decide +kernel
theorem dX5_isAhead_110 : decode cX5_isAhead 110 = .ok (.goto 4, 3) := by decide +kernel
theorem dX5_isAhead_113 : decode cX5_isAhead 113 = .ok (.iconst 0, 1) := by decide +kernel
theorem dX5_isAhead_114 : decode cX5_isAhead 114 = .ok (.ireturn, 1) := by decide +kernel
theorem dX5_firstOf_0 : decode cX5_firstOf 0 = .ok (.iconst (-1), 1) := by decide +kernel
theorem dX5_firstOf_1 : decode cX5_firstOf 1 = .ok (.istore_n 3, 1) := by decide +kernel
theorem dX5_firstOf_2 : decode cX5_firstOf 2 = .ok (.iconst 0, 1) := by decide +kernel
theorem dX5_firstOf_3 : decode cX5_firstOf 3 = .ok (.istore 4, 2) := by decide +kernel
theorem dX5_firstOf_5 : decode cX5_firstOf 5 = .ok (.iload 4, 2) := by decide +kernel
theorem dX5_firstOf_7 : decode cX5_firstOf 7 = .ok (.aload_n 0, 1) := by decide +kernel
theorem dX5_firstOf_8 : decode cX5_firstOf 8 = .ok (.getfield 7, 3) := by decide +kernel
theorem dX5_firstOf_11 : decode cX5_firstOf 11 = .ok (.iload_n 1, 1) := by decide +kernel
theorem dX5_firstOf_12 : decode cX5_firstOf 12 = .ok (.bipush 9, 2) := by decide +kernel
theorem dX5_firstOf_14 : decode cX5_firstOf 14 = .ok (.iadd, 1) := by decide +kernel
theorem dX5_firstOf_15 : decode cX5_firstOf 15 = .ok (.iaload, 1) := by decide +kernel
theorem dX5_firstOf_16 : decode cX5_firstOf 16 = .ok (.if_icmp .ge 55, 3) := by decide +kernel
theorem dX5_firstOf_19 : decode cX5_firstOf 19 = .ok (.iload_n 1, 1) := by decide +kernel
theorem dX5_firstOf_20 : decode cX5_firstOf 20 = .ok (.bipush 112, 2) := by decide +kernel
theorem dX5_firstOf_22 : decode cX5_firstOf 22 = .ok (.iadd, 1) := by decide +kernel
theorem dX5_firstOf_23 : decode cX5_firstOf 23 = .ok (.iconst 5, 1) := by decide +kernel
theorem dX5_firstOf_24 : decode cX5_firstOf 24 = .ok (.iload 4, 2) := by decide +kernel
theorem dX5_firstOf_26 : decode cX5_firstOf 26 = .ok (.imul, 1) := by decide +kernel
theorem dX5_firstOf_27 : decode cX5_firstOf 27 = .ok (.iadd, 1) := by decide +kernel
theorem dX5_firstOf_28 : decode cX5_firstOf 28 = .ok (.istore 5, 2) := by decide +kernel
theorem dX5_firstOf_30 : decode cX5_firstOf 30 = .ok (.aload_n 0, 1) := by decide +kernel
theorem dX5_firstOf_31 : decode cX5_firstOf 31 = .ok (.getfield 7, 3) := by decide +kernel
theorem dX5_firstOf_34 : decode cX5_firstOf 34 = .ok (.iload 5, 2) := by decide +kernel
theorem dX5_firstOf_36 : decode cX5_firstOf 36 = .ok (.iconst 0, 1) := by decide +kernel
theorem dX5_firstOf_37 : decode cX5_firstOf 37 = .ok (.iadd, 1) := by decide +kernel
theorem dX5_firstOf_38 : decode cX5_firstOf 38 = .ok (.iaload, 1) := by decide +kernel
theorem dX5_firstOf_39 : decode cX5_firstOf 39 = .ok (.iload_n 2, 1) := by decide +kernel
theorem dX5_firstOf_40 : decode cX5_firstOf 40 = .ok (.if_icmp .ne 23, 3) := by decide +kernel
theorem dX5_firstOf_43 : decode cX5_firstOf 43 = .ok (.iload_n 3, 1) := by decide +kernel
theorem dX5_firstOf_44 : decode cX5_firstOf 44 = .ok (.iconst (-1), 1) := by decide +kernel
theorem dX5_firstOf_45 : decode cX5_firstOf 45 = .ok (.if_icmp .eq 13, 3) := by decide +kernel
theorem dX5_firstOf_48 : decode cX5_firstOf 48 = .ok (.aload_n 0, 1) := by decide +kernel
theorem dX5_firstOf_49 : decode cX5_firstOf 49 = .ok (.iload 5, 2) := by decide +kernel
theorem dX5_firstOf_51 : decode cX5_firstOf 51 = .ok (.iload_n 3, 1) := by decide +kernel
theorem dX5_firstOf_52 : decode cX5_firstOf 52 = .ok (.invokevirtual 85, 3) := by decide +kernel
theorem dX5_firstOf_55 : decode cX5_firstOf 55 = .ok (.ifCond .eq 8, 3) := by decide +kernel
theorem dX5_firstOf_58 : decode cX5_firstOf 58 = .ok (.iload 5, 2) := by decide +kernel
theorem dX5_firstOf_60 : decode cX5_firstOf 60 = .ok (.goto 4, 3) := by decide +kernel
theorem dX5_firstOf_63 : decode cX5_firstOf 63 = .ok (.iload_n 3, 1) := by decide +kernel
theorem dX5_firstOf_64 : decode cX5_firstOf 64 = .ok (.istore_n 3, 1) := by decide +kernel
theorem dX5_firstOf_65 : decode cX5_firstOf 65 = .ok (.iinc 4 1, 3) := by decide +kernel
theorem dX5_firstOf_68 : decode cX5_firstOf 68 = .ok (.goto (-63), 3) := by decide +kernel
theorem dX5_firstOf_71 : decode cX5_firstOf 71 = .ok (.iload_n 3, 1) := by decide +kernel
theorem dX5_firstOf_72 : decode cX5_firstOf 72 = .ok (.ireturn, 1) := by decide +kernel
theorem dX5_firstTime_0 : decode cX5_firstTime 0 = .ok (.aload_n 0, 1) := by decide +kernel
theorem dX5_firstTime_1 : decode cX5_firstTime 1 = .ok (.iload_n 1, 1) := by decide +kernel
theorem dX5_firstTime_2 : decode cX5_firstTime 2 = .ok (.iload_n 2, 1) := by decide +kernel
theorem dX5_firstTime_3 : decode cX5_firstTime 3 = .ok (.invokevirtual 88, 3) := by decide +kernel
theorem dX5_firstTime_6 : decode cX5_firstTime 6 = .ok (.istore_n 3, 1) := by decide +kernel
theorem dX5_firstTime_7 : decode cX5_firstTime 7 = .ok (.iload_n 3, 1) := by decide +kernel
theorem dX5_firstTime_8 : decode cX5_firstTime 8 = .ok (.iconst (-1), 1) := by decide +kernel
theorem dX5_firstTime_9 : decode cX5_firstTime 9 = .ok (.if_icmp .ne 8, 3) := by decide +kernel
theorem dX5_firstTime_12 : decode cX5_firstTime 12 = .ok (.ldc 91, 2) := by decide +kernel
theorem dX5_firstTime_14 : decode cX5_firstTime 14 = .ok (.goto 11, 3) := by decide +kernel
theorem dX5_firstTime_17 : decode cX5_firstTime 17 = .ok (.aload_n 0, 1) := by decide +kernel
theorem dX5_firstTime_18 : decode cX5_firstTime 18 = .ok (.getfield 7, 3) := by decide +kernel
theorem dX5_firstTime_21 : decode cX5_firstTime 21 = .ok (.iload_n 3, 1) := by decide +kernel
theorem dX5_firstTime_22 : decode cX5_firstTime 22 = .ok (.iconst 1, 1) := by decide +kernel
theorem dX5_firstTime_23 : decode cX5_firstTime 23 = .ok (.iadd, 1) := by decide +kernel
theorem dX5_firstTime_24 : decode cX5_firstTime 24 = .ok (.iaload, 1) := by decide +kernel
theorem dX5_firstTime_25 : decode cX5_firstTime 25 = .ok (.ireturn, 1) := by decide +kernel
theorem dX5_leastTo_0 : decode cX5_leastTo 0 = .ok (.iconst (-1), 1) := by decide +kernel
theorem dX5_leastTo_1 : decode cX5_leastTo 1 = .ok (.istore_n 2, 1) := by decide +kernel
theorem dX5_leastTo_2 : decode cX5_leastTo 2 = .ok (.iconst 0, 1) := by decide +kernel
theorem dX5_leastTo_3 : decode cX5_leastTo 3 = .ok (.istore_n 3, 1) := by decide +kernel
theorem dX5_leastTo_4 : decode cX5_leastTo 4 = .ok (.iload_n 3, 1) := by decide +kernel
theorem dX5_leastTo_5 : decode cX5_leastTo 5 = .ok (.aload_n 0, 1) := by decide +kernel
theorem dX5_leastTo_6 : decode cX5_leastTo 6 = .ok (.getfield 7, 3) := by decide +kernel
theorem dX5_leastTo_9 : decode cX5_leastTo 9 = .ok (.iconst 1, 1) := by decide +kernel
theorem dX5_leastTo_10 : decode cX5_leastTo 10 = .ok (.iaload, 1) := by decide +kernel
theorem dX5_leastTo_11 : decode cX5_leastTo 11 = .ok (.if_icmp .ge 63, 3) := by decide +kernel
theorem dX5_leastTo_14 : decode cX5_leastTo 14 = .ok (.aload_n 0, 1) := by decide +kernel
theorem dX5_leastTo_15 : decode cX5_leastTo 15 = .ok (.getfield 7, 3) := by decide +kernel
theorem dX5_leastTo_18 : decode cX5_leastTo 18 = .ok (.iconst 0, 1) := by decide +kernel
theorem dX5_leastTo_19 : decode cX5_leastTo 19 = .ok (.iload_n 3, 1) := by decide +kernel
theorem dX5_leastTo_20 : decode cX5_leastTo 20 = .ok (.invokestatic 34, 3) := by decide +kernel
theorem dX5_leastTo_23 : decode cX5_leastTo 23 = .ok (.iconst 1, 1) := by decide +kernel
theorem dX5_leastTo_24 : decode cX5_leastTo 24 = .ok (.iadd, 1) := by decide +kernel
theorem dX5_leastTo_25 : decode cX5_leastTo 25 = .ok (.iaload, 1) := by decide +kernel
theorem dX5_leastTo_26 : decode cX5_leastTo 26 = .ok (.iload_n 1, 1) := by decide +kernel
theorem dX5_leastTo_27 : decode cX5_leastTo 27 = .ok (.if_icmp .ne 39, 3) := by decide +kernel
theorem dX5_leastTo_30 : decode cX5_leastTo 30 = .ok (.iload_n 2, 1) := by decide +kernel
theorem dX5_leastTo_31 : decode cX5_leastTo 31 = .ok (.iconst (-1), 1) := by decide +kernel
theorem dX5_leastTo_32 : decode cX5_leastTo 32 = .ok (.if_icmp .eq 30, 3) := by decide +kernel
theorem dX5_leastTo_35 : decode cX5_leastTo 35 = .ok (.aload_n 0, 1) := by decide +kernel
theorem dX5_leastTo_36 : decode cX5_leastTo 36 = .ok (.getfield 7, 3) := by decide +kernel
theorem dX5_leastTo_39 : decode cX5_leastTo 39 = .ok (.iconst 0, 1) := by decide +kernel
theorem dX5_leastTo_40 : decode cX5_leastTo 40 = .ok (.iload_n 3, 1) := by decide +kernel
theorem dX5_leastTo_41 : decode cX5_leastTo 41 = .ok (.invokestatic 34, 3) := by decide +kernel
theorem dX5_leastTo_44 : decode cX5_leastTo 44 = .ok (.iconst 4, 1) := by decide +kernel
theorem dX5_leastTo_45 : decode cX5_leastTo 45 = .ok (.iadd, 1) := by decide +kernel
theorem dX5_leastTo_46 : decode cX5_leastTo 46 = .ok (.iaload, 1) := by decide +kernel
theorem dX5_leastTo_47 : decode cX5_leastTo 47 = .ok (.aload_n 0, 1) := by decide +kernel
theorem dX5_leastTo_48 : decode cX5_leastTo 48 = .ok (.getfield 7, 3) := by decide +kernel
theorem dX5_leastTo_51 : decode cX5_leastTo 51 = .ok (.iconst 0, 1) := by decide +kernel
theorem dX5_leastTo_52 : decode cX5_leastTo 52 = .ok (.iload_n 2, 1) := by decide +kernel
theorem dX5_leastTo_53 : decode cX5_leastTo 53 = .ok (.invokestatic 34, 3) := by decide +kernel
theorem dX5_leastTo_56 : decode cX5_leastTo 56 = .ok (.iconst 4, 1) := by decide +kernel
theorem dX5_leastTo_57 : decode cX5_leastTo 57 = .ok (.iadd, 1) := by decide +kernel
theorem dX5_leastTo_58 : decode cX5_leastTo 58 = .ok (.iaload, 1) := by decide +kernel
theorem dX5_leastTo_59 : decode cX5_leastTo 59 = .ok (.if_icmp .ge 7, 3) := by decide +kernel
theorem dX5_leastTo_62 : decode cX5_leastTo 62 = .ok (.iload_n 3, 1) := by decide +kernel
theorem dX5_leastTo_63 : decode cX5_leastTo 63 = .ok (.goto 4, 3) := by decide +kernel
theorem dX5_leastTo_66 : decode cX5_leastTo 66 = .ok (.iload_n 2, 1) := by decide +kernel
theorem dX5_leastTo_67 : decode cX5_leastTo 67 = .ok (.istore_n 2, 1) := by decide +kernel
theorem dX5_leastTo_68 : decode cX5_leastTo 68 = .ok (.iinc 3 1, 3) := by decide +kernel
theorem dX5_leastTo_71 : decode cX5_leastTo 71 = .ok (.goto (-67), 3) := by decide +kernel
theorem dX5_leastTo_74 : decode cX5_leastTo 74 = .ok (.iload_n 2, 1) := by decide +kernel
theorem dX5_leastTo_75 : decode cX5_leastTo 75 = .ok (.ireturn, 1) := by decide +kernel
theorem dX5_safe_0 : decode cX5_safe 0 = .ok (.aload_n 0, 1) := by decide +kernel
theorem dX5_safe_1 : decode cX5_safe 1 = .ok (.iload_n 1, 1) := by decide +kernel
theorem dX5_safe_2 : decode cX5_safe 2 = .ok (.invokevirtual 92, 3) := by decide +kernel
theorem dX5_safe_5 : decode cX5_safe 5 = .ok (.istore_n 2, 1) := by decide +kernel
theorem dX5_safe_6 : decode cX5_safe 6 = .ok (.iload_n 2, 1) := by decide +kernel
theorem dX5_safe_7 : decode cX5_safe 7 = .ok (.iconst (-1), 1) := by decide +kernel
theorem dX5_safe_8 : decode cX5_safe 8 = .ok (.if_icmp .ne 8, 3) := by decide +kernel
theorem dX5_safe_11 : decode cX5_safe 11 = .ok (.ldc 91, 2) := by decide +kernel
theorem dX5_safe_13 : decode cX5_safe 13 = .ok (.goto 15, 3) := by decide +kernel
theorem dX5_safe_16 : decode cX5_safe 16 = .ok (.aload_n 0, 1) := by decide +kernel
theorem dX5_safe_17 : decode cX5_safe 17 = .ok (.getfield 7, 3) := by decide +kernel
theorem dX5_safe_20 : decode cX5_safe 20 = .ok (.iconst 0, 1) := by decide +kernel
theorem dX5_safe_21 : decode cX5_safe 21 = .ok (.iload_n 2, 1) := by decide +kernel
theorem dX5_safe_22 : decode cX5_safe 22 = .ok (.invokestatic 34, 3) := by decide +kernel
theorem dX5_safe_25 : decode cX5_safe 25 = .ok (.iconst 4, 1) := by decide +kernel
theorem dX5_safe_26 : decode cX5_safe 26 = .ok (.iadd, 1) := by decide +kernel
theorem dX5_safe_27 : decode cX5_safe 27 = .ok (.iaload, 1) := by decide +kernel
theorem dX5_safe_28 : decode cX5_safe 28 = .ok (.ireturn, 1) := by decide +kernel
theorem dX5_may_0 : decode cX5_may 0 = .ok (.aload_n 0, 1) := by decide +kernel
theorem dX5_may_1 : decode cX5_may 1 = .ok (.iconst 0, 1) := by decide +kernel
theorem dX5_may_2 : decode cX5_may 2 = .ok (.iload_n 1, 1) := by decide +kernel
theorem dX5_may_3 : decode cX5_may 3 = .ok (.invokevirtual 88, 3) := by decide +kernel
theorem dX5_may_6 : decode cX5_may 6 = .ok (.iconst (-1), 1) := by decide +kernel
theorem dX5_may_7 : decode cX5_may 7 = .ok (.if_icmp .eq 21, 3) := by decide +kernel
theorem dX5_may_10 : decode cX5_may 10 = .ok (.aload_n 0, 1) := by decide +kernel
theorem dX5_may_11 : decode cX5_may 11 = .ok (.iconst 0, 1) := by decide +kernel
theorem dX5_may_12 : decode cX5_may 12 = .ok (.iload_n 1, 1) := by decide +kernel
theorem dX5_may_13 : decode cX5_may 13 = .ok (.invokevirtual 95, 3) := by decide +kernel
theorem dX5_may_16 : decode cX5_may 16 = .ok (.aload_n 0, 1) := by decide +kernel
theorem dX5_may_17 : decode cX5_may 17 = .ok (.iload_n 1, 1) := by decide +kernel
theorem dX5_may_18 : decode cX5_may 18 = .ok (.invokevirtual 98, 3) := by decide +kernel
theorem dX5_may_21 : decode cX5_may 21 = .ok (.if_icmp .ge 7, 3) := by decide +kernel
theorem dX5_may_24 : decode cX5_may 24 = .ok (.iconst 1, 1) := by decide +kernel
theorem dX5_may_25 : decode cX5_may 25 = .ok (.goto 4, 3) := by decide +kernel
theorem dX5_may_28 : decode cX5_may 28 = .ok (.iconst 0, 1) := by decide +kernel
theorem dX5_may_29 : decode cX5_may 29 = .ok (.ireturn, 1) := by decide +kernel
theorem dX5_outOf_0 : decode cX5_outOf 0 = .ok (.iconst 0, 1) := by decide +kernel
theorem dX5_outOf_1 : decode cX5_outOf 1 = .ok (.istore_n 3, 1) := by decide +kernel
theorem dX5_outOf_2 : decode cX5_outOf 2 = .ok (.iconst 0, 1) := by decide +kernel
theorem dX5_outOf_3 : decode cX5_outOf 3 = .ok (.istore 4, 2) := by decide +kernel
theorem dX5_outOf_5 : decode cX5_outOf 5 = .ok (.iload 4, 2) := by decide +kernel
theorem dX5_outOf_7 : decode cX5_outOf 7 = .ok (.aload_n 0, 1) := by decide +kernel
theorem dX5_outOf_8 : decode cX5_outOf 8 = .ok (.getfield 7, 3) := by decide +kernel
theorem dX5_outOf_11 : decode cX5_outOf 11 = .ok (.iload_n 1, 1) := by decide +kernel
theorem dX5_outOf_12 : decode cX5_outOf 12 = .ok (.iconst 1, 1) := by decide +kernel
theorem dX5_outOf_13 : decode cX5_outOf 13 = .ok (.iadd, 1) := by decide +kernel
theorem dX5_outOf_14 : decode cX5_outOf 14 = .ok (.iaload, 1) := by decide +kernel
theorem dX5_outOf_15 : decode cX5_outOf 15 = .ok (.if_icmp .ge 34, 3) := by decide +kernel
theorem dX5_outOf_18 : decode cX5_outOf 18 = .ok (.iload_n 3, 1) := by decide +kernel
theorem dX5_outOf_19 : decode cX5_outOf 19 = .ok (.aload_n 0, 1) := by decide +kernel
theorem dX5_outOf_20 : decode cX5_outOf 20 = .ok (.getfield 7, 3) := by decide +kernel
theorem dX5_outOf_23 : decode cX5_outOf 23 = .ok (.iload_n 1, 1) := by decide +kernel
theorem dX5_outOf_24 : decode cX5_outOf 24 = .ok (.iload 4, 2) := by decide +kernel
theorem dX5_outOf_26 : decode cX5_outOf 26 = .ok (.invokestatic 34, 3) := by decide +kernel
theorem dX5_outOf_29 : decode cX5_outOf 29 = .ok (.iconst 0, 1) := by decide +kernel
theorem dX5_outOf_30 : decode cX5_outOf 30 = .ok (.iadd, 1) := by decide +kernel
theorem dX5_outOf_31 : decode cX5_outOf 31 = .ok (.iaload, 1) := by decide +kernel
theorem dX5_outOf_32 : decode cX5_outOf 32 = .ok (.iload_n 2, 1) := by decide +kernel
theorem dX5_outOf_33 : decode cX5_outOf 33 = .ok (.if_icmp .ne 7, 3) := by decide +kernel
theorem dX5_outOf_36 : decode cX5_outOf 36 = .ok (.iconst 1, 1) := by decide +kernel
theorem dX5_outOf_37 : decode cX5_outOf 37 = .ok (.goto 4, 3) := by decide +kernel
theorem dX5_outOf_40 : decode cX5_outOf 40 = .ok (.iconst 0, 1) := by decide +kernel
theorem dX5_outOf_41 : decode cX5_outOf 41 = .ok (.iadd, 1) := by decide +kernel
theorem dX5_outOf_42 : decode cX5_outOf 42 = .ok (.istore_n 3, 1) := by decide +kernel
theorem dX5_outOf_43 : decode cX5_outOf 43 = .ok (.iinc 4 1, 3) := by decide +kernel
theorem dX5_outOf_46 : decode cX5_outOf 46 = .ok (.goto (-41), 3) := by decide +kernel
theorem dX5_outOf_49 : decode cX5_outOf 49 = .ok (.iload_n 3, 1) := by decide +kernel
theorem dX5_outOf_50 : decode cX5_outOf 50 = .ok (.ireturn, 1) := by decide +kernel
theorem dX5_outAt_0 : decode cX5_outAt 0 = .ok (.iconst (-1), 1) := by decide +kernel
theorem dX5_outAt_1 : decode cX5_outAt 1 = .ok (.istore 4, 2) := by decide +kernel
theorem dX5_outAt_3 : decode cX5_outAt 3 = .ok (.iconst 0, 1) := by decide +kernel
theorem dX5_outAt_4 : decode cX5_outAt 4 = .ok (.istore 5, 2) := by decide +kernel
theorem dX5_outAt_6 : decode cX5_outAt 6 = .ok (.iconst 0, 1) := by decide +kernel
theorem dX5_outAt_7 : decode cX5_outAt 7 = .ok (.istore 6, 2) := by decide +kernel
theorem dX5_outAt_9 : decode cX5_outAt 9 = .ok (.iload 6, 2) := by decide +kernel
theorem dX5_outAt_11 : decode cX5_outAt 11 = .ok (.aload_n 0, 1) := by decide +kernel
theorem dX5_outAt_12 : decode cX5_outAt 12 = .ok (.getfield 7, 3) := by decide +kernel
theorem dX5_outAt_15 : decode cX5_outAt 15 = .ok (.iload_n 1, 1) := by decide +kernel
theorem dX5_outAt_16 : decode cX5_outAt 16 = .ok (.iconst 1, 1) := by decide +kernel
theorem dX5_outAt_17 : decode cX5_outAt 17 = .ok (.iadd, 1) := by decide +kernel
theorem dX5_outAt_18 : decode cX5_outAt 18 = .ok (.iaload, 1) := by decide +kernel
theorem dX5_outAt_19 : decode cX5_outAt 19 = .ok (.if_icmp .ge 44, 3) := by decide +kernel
theorem dX5_outAt_22 : decode cX5_outAt 22 = .ok (.aload_n 0, 1) := by decide +kernel
theorem dX5_outAt_23 : decode cX5_outAt 23 = .ok (.getfield 7, 3) := by decide +kernel
theorem dX5_outAt_26 : decode cX5_outAt 26 = .ok (.iload_n 1, 1) := by decide +kernel
theorem dX5_outAt_27 : decode cX5_outAt 27 = .ok (.iload 6, 2) := by decide +kernel
theorem dX5_outAt_29 : decode cX5_outAt 29 = .ok (.invokestatic 34, 3) := by decide +kernel
theorem dX5_outAt_32 : decode cX5_outAt 32 = .ok (.iconst 0, 1) := by decide +kernel
theorem dX5_outAt_33 : decode cX5_outAt 33 = .ok (.iadd, 1) := by decide +kernel
theorem dX5_outAt_34 : decode cX5_outAt 34 = .ok (.iaload, 1) := by decide +kernel
theorem dX5_outAt_35 : decode cX5_outAt 35 = .ok (.iload_n 2, 1) := by decide +kernel
theorem dX5_outAt_36 : decode cX5_outAt 36 = .ok (.if_icmp .ne 21, 3) := by decide +kernel
theorem dX5_outAt_39 : decode cX5_outAt 39 = .ok (.iload 5, 2) := by decide +kernel
theorem dX5_outAt_41 : decode cX5_outAt 41 = .ok (.iload_n 3, 1) := by decide +kernel
theorem dX5_outAt_42 : decode cX5_outAt 42 = .ok (.if_icmp .ne 8, 3) := by decide +kernel
theorem dX5_outAt_45 : decode cX5_outAt 45 = .ok (.iload 6, 2) := by decide +kernel
theorem dX5_outAt_47 : decode cX5_outAt 47 = .ok (.goto 5, 3) := by decide +kernel
theorem dX5_outAt_50 : decode cX5_outAt 50 = .ok (.iload 4, 2) := by decide +kernel
theorem dX5_outAt_52 : decode cX5_outAt 52 = .ok (.istore 4, 2) := by decide +kernel
theorem dX5_outAt_54 : decode cX5_outAt 54 = .ok (.iinc 5 1, 3) := by decide +kernel
theorem dX5_outAt_57 : decode cX5_outAt 57 = .ok (.iinc 6 1, 3) := by decide +kernel
theorem dX5_outAt_60 : decode cX5_outAt 60 = .ok (.goto (-51), 3) := by decide +kernel
theorem dX5_outAt_63 : decode cX5_outAt 63 = .ok (.iload 4, 2) := by decide +kernel
theorem dX5_outAt_65 : decode cX5_outAt 65 = .ok (.ireturn, 1) := by decide +kernel
theorem dX5_works_0 : decode cX5_works 0 = .ok (.aload_n 0, 1) := by decide +kernel
theorem dX5_works_1 : decode cX5_works 1 = .ok (.getfield 7, 3) := by decide +kernel
theorem dX5_works_4 : decode cX5_works 4 = .ok (.iload_n 2, 1) := by decide +kernel
theorem dX5_works_5 : decode cX5_works 5 = .ok (.iconst 0, 1) := by decide +kernel
theorem dX5_works_6 : decode cX5_works 6 = .ok (.iadd, 1) := by decide +kernel
theorem dX5_works_7 : decode cX5_works 7 = .ok (.iaload, 1) := by decide +kernel
theorem dX5_works_8 : decode cX5_works 8 = .ok (.istore_n 3, 1) := by decide +kernel
theorem dX5_works_9 : decode cX5_works 9 = .ok (.aload_n 0, 1) := by decide +kernel
theorem dX5_works_10 : decode cX5_works 10 = .ok (.getfield 7, 3) := by decide +kernel
theorem dX5_works_13 : decode cX5_works 13 = .ok (.iload_n 2, 1) := by decide +kernel
theorem dX5_works_14 : decode cX5_works 14 = .ok (.iconst 1, 1) := by decide +kernel
theorem dX5_works_15 : decode cX5_works 15 = .ok (.iadd, 1) := by decide +kernel
theorem dX5_works_16 : decode cX5_works 16 = .ok (.iaload, 1) := by decide +kernel
theorem dX5_works_17 : decode cX5_works 17 = .ok (.istore 4, 2) := by decide +kernel
theorem dX5_works_19 : decode cX5_works 19 = .ok (.aload_n 0, 1) := by decide +kernel
theorem dX5_works_20 : decode cX5_works 20 = .ok (.getfield 7, 3) := by decide +kernel
theorem dX5_works_23 : decode cX5_works 23 = .ok (.iload_n 2, 1) := by decide +kernel
theorem dX5_works_24 : decode cX5_works 24 = .ok (.iconst 3, 1) := by decide +kernel
theorem dX5_works_25 : decode cX5_works 25 = .ok (.iadd, 1) := by decide +kernel
theorem dX5_works_26 : decode cX5_works 26 = .ok (.iaload, 1) := by decide +kernel
theorem dX5_works_27 : decode cX5_works 27 = .ok (.istore 5, 2) := by decide +kernel
theorem dX5_works_29 : decode cX5_works 29 = .ok (.iload_n 1, 1) := by decide +kernel
theorem dX5_works_30 : decode cX5_works 30 = .ok (.ifCond .ne 92, 3) := by decide +kernel
theorem dX5_works_33 : decode cX5_works 33 = .ok (.aload_n 0, 1) := by decide +kernel
theorem dX5_works_34 : decode cX5_works 34 = .ok (.getfield 30, 3) := by decide +kernel
theorem dX5_works_37 : decode cX5_works 37 = .ok (.sipush 200, 3) := by decide +kernel
theorem dX5_works_40 : decode cX5_works 40 = .ok (.if_icmp .ge 82, 3) := by decide +kernel
theorem dX5_works_43 : decode cX5_works 43 = .ok (.aload_n 0, 1) := by decide +kernel
theorem dX5_works_44 : decode cX5_works 44 = .ok (.getfield 17, 3) := by decide +kernel
theorem dX5_works_47 : decode cX5_works 47 = .ok (.iconst 4, 1) := by decide +kernel
theorem dX5_works_48 : decode cX5_works 48 = .ok (.aload_n 0, 1) := by decide +kernel
theorem dX5_works_49 : decode cX5_works 49 = .ok (.getfield 30, 3) := by decide +kernel
theorem dX5_works_52 : decode cX5_works 52 = .ok (.imul, 1) := by decide +kernel
theorem dX5_works_53 : decode cX5_works 53 = .ok (.iload_n 3, 1) := by decide +kernel
theorem dX5_works_54 : decode cX5_works 54 = .ok (.iastore, 1) := by decide +kernel
theorem dX5_works_55 : decode cX5_works 55 = .ok (.aload_n 0, 1) := by decide +kernel
theorem dX5_works_56 : decode cX5_works 56 = .ok (.getfield 17, 3) := by decide +kernel
theorem dX5_works_59 : decode cX5_works 59 = .ok (.iconst 4, 1) := by decide +kernel
theorem dX5_works_60 : decode cX5_works 60 = .ok (.aload_n 0, 1) := by decide +kernel
theorem dX5_works_61 : decode cX5_works 61 = .ok (.getfield 30, 3) := by decide +kernel
theorem dX5_works_64 : decode cX5_works 64 = .ok (.imul, 1) := by decide +kernel
theorem dX5_works_65 : decode cX5_works 65 = .ok (.iconst 1, 1) := by decide +kernel
theorem dX5_works_66 : decode cX5_works 66 = .ok (.iadd, 1) := by decide +kernel
theorem dX5_works_67 : decode cX5_works 67 = .ok (.iload 4, 2) := by decide +kernel
theorem dX5_works_69 : decode cX5_works 69 = .ok (.iastore, 1) := by decide +kernel
theorem dX5_works_70 : decode cX5_works 70 = .ok (.aload_n 0, 1) := by decide +kernel
theorem dX5_works_71 : decode cX5_works 71 = .ok (.getfield 17, 3) := by decide +kernel
theorem dX5_works_74 : decode cX5_works 74 = .ok (.iconst 4, 1) := by decide +kernel
theorem dX5_works_75 : decode cX5_works 75 = .ok (.aload_n 0, 1) := by decide +kernel
theorem dX5_works_76 : decode cX5_works 76 = .ok (.getfield 30, 3) := by decide +kernel
theorem dX5_works_79 : decode cX5_works 79 = .ok (.imul, 1) := by decide +kernel
theorem dX5_works_80 : decode cX5_works 80 = .ok (.iconst 2, 1) := by decide +kernel
theorem dX5_works_81 : decode cX5_works 81 = .ok (.iadd, 1) := by decide +kernel
theorem dX5_works_82 : decode cX5_works 82 = .ok (.iload 5, 2) := by decide +kernel
theorem dX5_works_84 : decode cX5_works 84 = .ok (.iastore, 1) := by decide +kernel
theorem dX5_works_85 : decode cX5_works 85 = .ok (.aload_n 0, 1) := by decide +kernel
theorem dX5_works_86 : decode cX5_works 86 = .ok (.getfield 17, 3) := by decide +kernel
theorem dX5_works_89 : decode cX5_works 89 = .ok (.iconst 4, 1) := by decide +kernel
theorem dX5_works_90 : decode cX5_works 90 = .ok (.aload_n 0, 1) := by decide +kernel
theorem dX5_works_91 : decode cX5_works 91 = .ok (.getfield 30, 3) := by decide +kernel
theorem dX5_works_94 : decode cX5_works 94 = .ok (.imul, 1) := by decide +kernel
theorem dX5_works_95 : decode cX5_works 95 = .ok (.iconst 3, 1) := by decide +kernel
theorem dX5_works_96 : decode cX5_works 96 = .ok (.iadd, 1) := by decide +kernel
theorem dX5_works_97 : decode cX5_works 97 = .ok (.aload_n 0, 1) := by decide +kernel
theorem dX5_works_98 : decode cX5_works 98 = .ok (.getfield 7, 3) := by decide +kernel
theorem dX5_works_101 : decode cX5_works 101 = .ok (.iconst 5, 1) := by decide +kernel
theorem dX5_works_102 : decode cX5_works 102 = .ok (.iaload, 1) := by decide +kernel
theorem dX5_works_103 : decode cX5_works 103 = .ok (.aload_n 0, 1) := by decide +kernel
theorem dX5_works_104 : decode cX5_works 104 = .ok (.getfield 7, 3) := by decide +kernel
theorem dX5_works_107 : decode cX5_works 107 = .ok (.bipush 6, 2) := by decide +kernel
theorem dX5_works_109 : decode cX5_works 109 = .ok (.iaload, 1) := by decide +kernel
theorem dX5_works_110 : decode cX5_works 110 = .ok (.iadd, 1) := by decide +kernel
theorem dX5_works_111 : decode cX5_works 111 = .ok (.iastore, 1) := by decide +kernel
theorem dX5_works_112 : decode cX5_works 112 = .ok (.aload_n 0, 1) := by decide +kernel
theorem dX5_works_113 : decode cX5_works 113 = .ok (.dup, 1) := by decide +kernel
theorem dX5_works_114 : decode cX5_works 114 = .ok (.getfield 30, 3) := by decide +kernel
theorem dX5_works_117 : decode cX5_works 117 = .ok (.iconst 1, 1) := by decide +kernel
theorem dX5_works_118 : decode cX5_works 118 = .ok (.iadd, 1) := by decide +kernel
theorem dX5_works_119 : decode cX5_works 119 = .ok (.putfield 30, 3) := by decide +kernel
theorem dX5_works_122 : decode cX5_works 122 = .ok (.iload_n 1, 1) := by decide +kernel
theorem dX5_works_123 : decode cX5_works 123 = .ok (.bipush 112, 2) := by decide +kernel
theorem dX5_works_125 : decode cX5_works 125 = .ok (.iadd, 1) := by decide +kernel
theorem dX5_works_126 : decode cX5_works 126 = .ok (.iconst 5, 1) := by decide +kernel
theorem dX5_works_127 : decode cX5_works 127 = .ok (.aload_n 0, 1) := by decide +kernel
theorem dX5_works_128 : decode cX5_works 128 = .ok (.getfield 7, 3) := by decide +kernel
theorem dX5_works_131 : decode cX5_works 131 = .ok (.iload_n 1, 1) := by decide +kernel
theorem dX5_works_132 : decode cX5_works 132 = .ok (.bipush 9, 2) := by decide +kernel
theorem dX5_works_134 : decode cX5_works 134 = .ok (.iadd, 1) := by decide +kernel
theorem dX5_works_135 : decode cX5_works 135 = .ok (.iaload, 1) := by decide +kernel
theorem dX5_works_136 : decode cX5_works 136 = .ok (.iconst 1, 1) := by decide +kernel
theorem dX5_works_137 : decode cX5_works 137 = .ok (.isub, 1) := by decide +kernel
theorem dX5_works_138 : decode cX5_works 138 = .ok (.imul, 1) := by decide +kernel
theorem dX5_works_139 : decode cX5_works 139 = .ok (.iadd, 1) := by decide +kernel
theorem dX5_works_140 : decode cX5_works 140 = .ok (.istore 6, 2) := by decide +kernel
theorem dX5_works_142 : decode cX5_works 142 = .ok (.iconst 0, 1) := by decide +kernel
theorem dX5_works_143 : decode cX5_works 143 = .ok (.istore 7, 2) := by decide +kernel
theorem dX5_works_145 : decode cX5_works 145 = .ok (.iload 7, 2) := by decide +kernel
theorem dX5_works_147 : decode cX5_works 147 = .ok (.iconst 5, 1) := by decide +kernel
theorem dX5_works_148 : decode cX5_works 148 = .ok (.if_icmp .ge 28, 3) := by decide +kernel
theorem dX5_works_151 : decode cX5_works 151 = .ok (.aload_n 0, 1) := by decide +kernel
theorem dX5_works_152 : decode cX5_works 152 = .ok (.getfield 7, 3) := by decide +kernel
theorem dX5_works_155 : decode cX5_works 155 = .ok (.iload_n 2, 1) := by decide +kernel
theorem dX5_works_156 : decode cX5_works 156 = .ok (.iload 7, 2) := by decide +kernel
theorem dX5_works_158 : decode cX5_works 158 = .ok (.iadd, 1) := by decide +kernel
theorem dX5_works_159 : decode cX5_works 159 = .ok (.aload_n 0, 1) := by decide +kernel
theorem dX5_works_160 : decode cX5_works 160 = .ok (.getfield 7, 3) := by decide +kernel
theorem dX5_works_163 : decode cX5_works 163 = .ok (.iload 6, 2) := by decide +kernel
theorem dX5_works_165 : decode cX5_works 165 = .ok (.iload 7, 2) := by decide +kernel
theorem dX5_works_167 : decode cX5_works 167 = .ok (.iadd, 1) := by decide +kernel
theorem dX5_works_168 : decode cX5_works 168 = .ok (.iaload, 1) := by decide +kernel
theorem dX5_works_169 : decode cX5_works 169 = .ok (.iastore, 1) := by decide +kernel
theorem dX5_works_170 : decode cX5_works 170 = .ok (.iinc 7 1, 3) := by decide +kernel
theorem dX5_works_173 : decode cX5_works 173 = .ok (.goto (-28), 3) := by decide +kernel
theorem dX5_works_176 : decode cX5_works 176 = .ok (.aload_n 0, 1) := by decide +kernel
theorem dX5_works_177 : decode cX5_works 177 = .ok (.getfield 7, 3) := by decide +kernel
theorem dX5_works_180 : decode cX5_works 180 = .ok (.iload_n 1, 1) := by decide +kernel
theorem dX5_works_181 : decode cX5_works 181 = .ok (.bipush 9, 2) := by decide +kernel
theorem dX5_works_183 : decode cX5_works 183 = .ok (.iadd, 1) := by decide +kernel
theorem dX5_works_184 : decode cX5_works 184 = .ok (.dup2, 1) := by decide +kernel
theorem dX5_works_185 : decode cX5_works 185 = .ok (.iaload, 1) := by decide +kernel
theorem dX5_works_186 : decode cX5_works 186 = .ok (.iconst 1, 1) := by decide +kernel
theorem dX5_works_187 : decode cX5_works 187 = .ok (.isub, 1) := by decide +kernel
theorem dX5_works_188 : decode cX5_works 188 = .ok (.iastore, 1) := by decide +kernel
theorem dX5_works_189 : decode cX5_works 189 = .ok (.aload_n 0, 1) := by decide +kernel
theorem dX5_works_190 : decode cX5_works 190 = .ok (.getfield 7, 3) := by decide +kernel
theorem dX5_works_193 : decode cX5_works 193 = .ok (.iload_n 1, 1) := by decide +kernel
theorem dX5_works_194 : decode cX5_works 194 = .ok (.iconst 3, 1) := by decide +kernel
theorem dX5_works_195 : decode cX5_works 195 = .ok (.iadd, 1) := by decide +kernel
theorem dX5_works_196 : decode cX5_works 196 = .ok (.dup2, 1) := by decide +kernel
theorem dX5_works_197 : decode cX5_works 197 = .ok (.iaload, 1) := by decide +kernel
theorem dX5_works_198 : decode cX5_works 198 = .ok (.iconst 1, 1) := by decide +kernel
theorem dX5_works_199 : decode cX5_works 199 = .ok (.iadd, 1) := by decide +kernel
theorem dX5_works_200 : decode cX5_works 200 = .ok (.iastore, 1) := by decide +kernel
theorem dX5_works_201 : decode cX5_works 201 = .ok (.aload_n 0, 1) := by decide +kernel
theorem dX5_works_202 : decode cX5_works 202 = .ok (.getfield 7, 3) := by decide +kernel
theorem dX5_works_205 : decode cX5_works 205 = .ok (.iload_n 1, 1) := by decide +kernel
theorem dX5_works_206 : decode cX5_works 206 = .ok (.bipush 10, 2) := by decide +kernel
theorem dX5_works_208 : decode cX5_works 208 = .ok (.iadd, 1) := by decide +kernel
theorem dX5_works_209 : decode cX5_works 209 = .ok (.iload_n 3, 1) := by decide +kernel
theorem dX5_works_210 : decode cX5_works 210 = .ok (.iadd, 1) := by decide +kernel
theorem dX5_works_211 : decode cX5_works 211 = .ok (.dup2, 1) := by decide +kernel
theorem dX5_works_212 : decode cX5_works 212 = .ok (.iaload, 1) := by decide +kernel
theorem dX5_works_213 : decode cX5_works 213 = .ok (.iconst 1, 1) := by decide +kernel
theorem dX5_works_214 : decode cX5_works 214 = .ok (.iadd, 1) := by decide +kernel
theorem dX5_works_215 : decode cX5_works 215 = .ok (.iastore, 1) := by decide +kernel
theorem dX5_works_216 : decode cX5_works 216 = .ok (.aload_n 0, 1) := by decide +kernel
theorem dX5_works_217 : decode cX5_works 217 = .ok (.getfield 7, 3) := by decide +kernel
theorem dX5_works_220 : decode cX5_works 220 = .ok (.iload_n 1, 1) := by decide +kernel
theorem dX5_works_221 : decode cX5_works 221 = .ok (.bipush 16, 2) := by decide +kernel
theorem dX5_works_223 : decode cX5_works 223 = .ok (.iadd, 1) := by decide +kernel
theorem dX5_works_224 : decode cX5_works 224 = .ok (.iload_n 3, 1) := by decide +kernel
theorem dX5_works_225 : decode cX5_works 225 = .ok (.iadd, 1) := by decide +kernel
theorem dX5_works_226 : decode cX5_works 226 = .ok (.bipush 31, 2) := by decide +kernel
theorem dX5_works_228 : decode cX5_works 228 = .ok (.aload_n 0, 1) := by decide +kernel
theorem dX5_works_229 : decode cX5_works 229 = .ok (.getfield 7, 3) := by decide +kernel
theorem dX5_works_232 : decode cX5_works 232 = .ok (.iload_n 1, 1) := by decide +kernel
theorem dX5_works_233 : decode cX5_works 233 = .ok (.bipush 16, 2) := by decide +kernel
theorem dX5_works_235 : decode cX5_works 235 = .ok (.iadd, 1) := by decide +kernel
theorem dX5_works_236 : decode cX5_works 236 = .ok (.iload_n 3, 1) := by decide +kernel
theorem dX5_works_237 : decode cX5_works 237 = .ok (.iadd, 1) := by decide +kernel
theorem dX5_works_238 : decode cX5_works 238 = .ok (.iaload, 1) := by decide +kernel
theorem dX5_works_239 : decode cX5_works 239 = .ok (.imul, 1) := by decide +kernel
theorem dX5_works_240 : decode cX5_works 240 = .ok (.iload 5, 2) := by decide +kernel
theorem dX5_works_242 : decode cX5_works 242 = .ok (.iadd, 1) := by decide +kernel
theorem dX5_works_243 : decode cX5_works 243 = .ok (.iload 4, 2) := by decide +kernel
theorem dX5_works_245 : decode cX5_works 245 = .ok (.iadd, 1) := by decide +kernel
theorem dX5_works_246 : decode cX5_works 246 = .ok (.ldc 101, 2) := by decide +kernel
theorem dX5_works_248 : decode cX5_works 248 = .ok (.irem, 1) := by decide +kernel
theorem dX5_works_249 : decode cX5_works 249 = .ok (.iastore, 1) := by decide +kernel
theorem dX5_works_250 : decode cX5_works 250 = .ok (.aload_n 0, 1) := by decide +kernel
theorem dX5_works_251 : decode cX5_works 251 = .ok (.getfield 7, 3) := by decide +kernel
theorem dX5_works_254 : decode cX5_works 254 = .ok (.iload_n 1, 1) := by decide +kernel
theorem dX5_works_255 : decode cX5_works 255 = .ok (.bipush 22, 2) := by decide +kernel
theorem dX5_works_257 : decode cX5_works 257 = .ok (.iadd, 1) := by decide +kernel
theorem dX5_works_258 : decode cX5_works 258 = .ok (.iload_n 3, 1) := by decide +kernel
theorem dX5_works_259 : decode cX5_works 259 = .ok (.iadd, 1) := by decide +kernel
theorem dX5_works_260 : decode cX5_works 260 = .ok (.iload 4, 2) := by decide +kernel
theorem dX5_works_262 : decode cX5_works 262 = .ok (.iastore, 1) := by decide +kernel
theorem dX5_works_263 : decode cX5_works 263 = .ok (.aload_n 0, 1) := by decide +kernel
theorem dX5_works_264 : decode cX5_works 264 = .ok (.iload_n 1, 1) := by decide +kernel
theorem dX5_works_265 : decode cX5_works 265 = .ok (.iload_n 3, 1) := by decide +kernel
theorem dX5_works_266 : decode cX5_works 266 = .ok (.invokevirtual 102, 3) := by decide +kernel
theorem dX5_works_269 : decode cX5_works 269 = .ok (.istore 7, 2) := by decide +kernel
theorem dX5_works_271 : decode cX5_works 271 = .ok (.iload 5, 2) := by decide +kernel
theorem dX5_works_273 : decode cX5_works 273 = .ok (.ifCond .le 131, 3) := by decide +kernel
theorem dX5_works_276 : decode cX5_works 276 = .ok (.iload 7, 2) := by decide +kernel
theorem dX5_works_278 : decode cX5_works 278 = .ok (.ifCond .le 126, 3) := by decide +kernel
theorem dX5_works_281 : decode cX5_works 281 = .ok (.aload_n 0, 1) := by decide +kernel
theorem dX5_works_282 : decode cX5_works 282 = .ok (.iload_n 1, 1) := by decide +kernel
theorem dX5_works_283 : decode cX5_works 283 = .ok (.iload_n 3, 1) := by decide +kernel
theorem dX5_works_284 : decode cX5_works 284 = .ok (.iload 5, 2) := by decide +kernel
theorem dX5_works_286 : decode cX5_works 286 = .ok (.iload 7, 2) := by decide +kernel
theorem dX5_works_288 : decode cX5_works 288 = .ok (.irem, 1) := by decide +kernel
theorem dX5_works_289 : decode cX5_works 289 = .ok (.invokevirtual 105, 3) := by decide +kernel
theorem dX5_works_292 : decode cX5_works 292 = .ok (.istore 8, 2) := by decide +kernel
theorem dX5_works_294 : decode cX5_works 294 = .ok (.iload 4, 2) := by decide +kernel
theorem dX5_works_296 : decode cX5_works 296 = .ok (.aload_n 0, 1) := by decide +kernel
theorem dX5_works_297 : decode cX5_works 297 = .ok (.getfield 7, 3) := by decide +kernel
theorem dX5_works_300 : decode cX5_works 300 = .ok (.iload_n 1, 1) := by decide +kernel
theorem dX5_works_301 : decode cX5_works 301 = .ok (.iload 8, 2) := by decide +kernel
theorem dX5_works_303 : decode cX5_works 303 = .ok (.invokestatic 34, 3) := by decide +kernel
theorem dX5_works_306 : decode cX5_works 306 = .ok (.iconst 3, 1) := by decide +kernel
theorem dX5_works_307 : decode cX5_works 307 = .ok (.iadd, 1) := by decide +kernel
theorem dX5_works_308 : decode cX5_works 308 = .ok (.iaload, 1) := by decide +kernel
theorem dX5_works_309 : decode cX5_works 309 = .ok (.iadd, 1) := by decide +kernel
theorem dX5_works_310 : decode cX5_works 310 = .ok (.istore 9, 2) := by decide +kernel
theorem dX5_works_312 : decode cX5_works 312 = .ok (.aload_n 0, 1) := by decide +kernel
theorem dX5_works_313 : decode cX5_works 313 = .ok (.iload_n 1, 1) := by decide +kernel
theorem dX5_works_314 : decode cX5_works 314 = .ok (.aload_n 0, 1) := by decide +kernel
theorem dX5_works_315 : decode cX5_works 315 = .ok (.getfield 7, 3) := by decide +kernel
theorem dX5_works_318 : decode cX5_works 318 = .ok (.iload_n 1, 1) := by decide +kernel
theorem dX5_works_319 : decode cX5_works 319 = .ok (.iload 8, 2) := by decide +kernel
theorem dX5_works_321 : decode cX5_works 321 = .ok (.invokestatic 34, 3) := by decide +kernel
theorem dX5_works_324 : decode cX5_works 324 = .ok (.iconst 1, 1) := by decide +kernel
theorem dX5_works_325 : decode cX5_works 325 = .ok (.iadd, 1) := by decide +kernel
theorem dX5_works_326 : decode cX5_works 326 = .ok (.iaload, 1) := by decide +kernel
theorem dX5_works_327 : decode cX5_works 327 = .ok (.iload 9, 2) := by decide +kernel
theorem dX5_works_329 : decode cX5_works 329 = .ok (.iload 8, 2) := by decide +kernel
theorem dX5_works_331 : decode cX5_works 331 = .ok (.iload 5, 2) := by decide +kernel
theorem dX5_works_333 : decode cX5_works 333 = .ok (.iconst 1, 1) := by decide +kernel
theorem dX5_works_334 : decode cX5_works 334 = .ok (.isub, 1) := by decide +kernel
theorem dX5_works_335 : decode cX5_works 335 = .ok (.invokevirtual 56, 3) := by decide +kernel
theorem dX5_works_338 : decode cX5_works 338 = .ok (.aload_n 0, 1) := by decide +kernel
theorem dX5_works_339 : decode cX5_works 339 = .ok (.getfield 7, 3) := by decide +kernel
theorem dX5_works_342 : decode cX5_works 342 = .ok (.iload_n 1, 1) := by decide +kernel
theorem dX5_works_343 : decode cX5_works 343 = .ok (.iload 8, 2) := by decide +kernel
theorem dX5_works_345 : decode cX5_works 345 = .ok (.invokestatic 34, 3) := by decide +kernel
theorem dX5_works_348 : decode cX5_works 348 = .ok (.iconst 5, 1) := by decide +kernel
theorem dX5_works_349 : decode cX5_works 349 = .ok (.iadd, 1) := by decide +kernel
theorem dX5_works_350 : decode cX5_works 350 = .ok (.dup2, 1) := by decide +kernel
theorem dX5_works_351 : decode cX5_works 351 = .ok (.iaload, 1) := by decide +kernel
theorem dX5_works_352 : decode cX5_works 352 = .ok (.iconst 1, 1) := by decide +kernel
theorem dX5_works_353 : decode cX5_works 353 = .ok (.iadd, 1) := by decide +kernel
theorem dX5_works_354 : decode cX5_works 354 = .ok (.iastore, 1) := by decide +kernel
theorem dX5_works_355 : decode cX5_works 355 = .ok (.aload_n 0, 1) := by decide +kernel
theorem dX5_works_356 : decode cX5_works 356 = .ok (.getfield 7, 3) := by decide +kernel
theorem dX5_works_359 : decode cX5_works 359 = .ok (.iload_n 1, 1) := by decide +kernel
theorem dX5_works_360 : decode cX5_works 360 = .ok (.iload 8, 2) := by decide +kernel
theorem dX5_works_362 : decode cX5_works 362 = .ok (.invokestatic 34, 3) := by decide +kernel
theorem dX5_works_365 : decode cX5_works 365 = .ok (.iconst 4, 1) := by decide +kernel
theorem dX5_works_366 : decode cX5_works 366 = .ok (.iadd, 1) := by decide +kernel
theorem dX5_works_367 : decode cX5_works 367 = .ok (.iload 9, 2) := by decide +kernel
theorem dX5_works_369 : decode cX5_works 369 = .ok (.aload_n 0, 1) := by decide +kernel
theorem dX5_works_370 : decode cX5_works 370 = .ok (.getfield 7, 3) := by decide +kernel
theorem dX5_works_373 : decode cX5_works 373 = .ok (.iload_n 1, 1) := by decide +kernel
theorem dX5_works_374 : decode cX5_works 374 = .ok (.iload 8, 2) := by decide +kernel
theorem dX5_works_376 : decode cX5_works 376 = .ok (.invokestatic 34, 3) := by decide +kernel
theorem dX5_works_379 : decode cX5_works 379 = .ok (.iconst 4, 1) := by decide +kernel
theorem dX5_works_380 : decode cX5_works 380 = .ok (.iadd, 1) := by decide +kernel
theorem dX5_works_381 : decode cX5_works 381 = .ok (.iaload, 1) := by decide +kernel
theorem dX5_works_382 : decode cX5_works 382 = .ok (.if_icmp .le 8, 3) := by decide +kernel
theorem dX5_works_385 : decode cX5_works 385 = .ok (.iload 9, 2) := by decide +kernel
theorem dX5_works_387 : decode cX5_works 387 = .ok (.goto 16, 3) := by decide +kernel
theorem dX5_works_390 : decode cX5_works 390 = .ok (.aload_n 0, 1) := by decide +kernel
theorem dX5_works_391 : decode cX5_works 391 = .ok (.getfield 7, 3) := by decide +kernel
theorem dX5_works_394 : decode cX5_works 394 = .ok (.iload_n 1, 1) := by decide +kernel
theorem dX5_works_395 : decode cX5_works 395 = .ok (.iload 8, 2) := by decide +kernel
theorem dX5_works_397 : decode cX5_works 397 = .ok (.invokestatic 34, 3) := by decide +kernel
theorem dX5_works_400 : decode cX5_works 400 = .ok (.iconst 4, 1) := by decide +kernel
theorem dX5_works_401 : decode cX5_works 401 = .ok (.iadd, 1) := by decide +kernel
theorem dX5_works_402 : decode cX5_works 402 = .ok (.iaload, 1) := by decide +kernel
theorem dX5_works_403 : decode cX5_works 403 = .ok (.iastore, 1) := by decide +kernel
theorem dX5_works_404 : decode cX5_works 404 = .ok (.return_, 1) := by decide +kernel
theorem dX5_empties_0 : decode cX5_empties 0 = .ok (.aload_n 0, 1) := by decide +kernel
theorem dX5_empties_1 : decode cX5_empties 1 = .ok (.iload_n 1, 1) := by decide +kernel
theorem dX5_empties_2 : decode cX5_empties 2 = .ok (.invokevirtual 98, 3) := by decide +kernel
theorem dX5_empties_5 : decode cX5_empties 5 = .ok (.istore_n 2, 1) := by decide +kernel
theorem dX5_empties_6 : decode cX5_empties 6 = .ok (.aload_n 0, 1) := by decide +kernel
theorem dX5_empties_7 : decode cX5_empties 7 = .ok (.iconst 0, 1) := by decide +kernel
theorem dX5_empties_8 : decode cX5_empties 8 = .ok (.iload_n 1, 1) := by decide +kernel
theorem dX5_empties_9 : decode cX5_empties 9 = .ok (.invokevirtual 95, 3) := by decide +kernel
theorem dX5_empties_12 : decode cX5_empties 12 = .ok (.istore_n 3, 1) := by decide +kernel
theorem dX5_empties_13 : decode cX5_empties 13 = .ok (.iload_n 3, 1) := by decide +kernel
theorem dX5_empties_14 : decode cX5_empties 14 = .ok (.iload_n 2, 1) := by decide +kernel
theorem dX5_empties_15 : decode cX5_empties 15 = .ok (.if_icmp .ge 7, 3) := by decide +kernel
theorem dX5_empties_18 : decode cX5_empties 18 = .ok (.iload_n 3, 1) := by decide +kernel
theorem dX5_empties_19 : decode cX5_empties 19 = .ok (.goto 4, 3) := by decide +kernel
theorem dX5_empties_22 : decode cX5_empties 22 = .ok (.iload_n 2, 1) := by decide +kernel
theorem dX5_empties_23 : decode cX5_empties 23 = .ok (.istore 4, 2) := by decide +kernel
theorem dX5_empties_25 : decode cX5_empties 25 = .ok (.iconst 0, 1) := by decide +kernel
theorem dX5_empties_26 : decode cX5_empties 26 = .ok (.istore 5, 2) := by decide +kernel
theorem dX5_empties_28 : decode cX5_empties 28 = .ok (.iconst 0, 1) := by decide +kernel
theorem dX5_empties_29 : decode cX5_empties 29 = .ok (.istore 6, 2) := by decide +kernel
theorem dX5_empties_31 : decode cX5_empties 31 = .ok (.iload 6, 2) := by decide +kernel
theorem dX5_empties_33 : decode cX5_empties 33 = .ok (.aload_n 0, 1) := by decide +kernel
theorem dX5_empties_34 : decode cX5_empties 34 = .ok (.getfield 7, 3) := by decide +kernel
theorem dX5_empties_37 : decode cX5_empties 37 = .ok (.iconst 1, 1) := by decide +kernel
theorem dX5_empties_38 : decode cX5_empties 38 = .ok (.iaload, 1) := by decide +kernel
theorem dX5_empties_39 : decode cX5_empties 39 = .ok (.if_icmp .ge 181, 3) := by decide +kernel
theorem dX5_empties_42 : decode cX5_empties 42 = .ok (.iconst 0, 1) := by decide +kernel
theorem dX5_empties_43 : decode cX5_empties 43 = .ok (.iload 6, 2) := by decide +kernel
theorem dX5_empties_45 : decode cX5_empties 45 = .ok (.invokestatic 34, 3) := by decide +kernel
theorem dX5_empties_48 : decode cX5_empties 48 = .ok (.istore 7, 2) := by decide +kernel
theorem dX5_empties_50 : decode cX5_empties 50 = .ok (.iload 4, 2) := by decide +kernel
theorem dX5_empties_52 : decode cX5_empties 52 = .ok (.aload_n 0, 1) := by decide +kernel
theorem dX5_empties_53 : decode cX5_empties 53 = .ok (.getfield 7, 3) := by decide +kernel
theorem dX5_empties_56 : decode cX5_empties 56 = .ok (.iload 7, 2) := by decide +kernel
theorem dX5_empties_58 : decode cX5_empties 58 = .ok (.iconst 2, 1) := by decide +kernel
theorem dX5_empties_59 : decode cX5_empties 59 = .ok (.iadd, 1) := by decide +kernel
theorem dX5_empties_60 : decode cX5_empties 60 = .ok (.iaload, 1) := by decide +kernel
theorem dX5_empties_61 : decode cX5_empties 61 = .ok (.iadd, 1) := by decide +kernel
theorem dX5_empties_62 : decode cX5_empties 62 = .ok (.ldc 91, 2) := by decide +kernel
theorem dX5_empties_64 : decode cX5_empties 64 = .ok (.if_icmp .le 8, 3) := by decide +kernel
theorem dX5_empties_67 : decode cX5_empties 67 = .ok (.ldc 91, 2) := by decide +kernel
theorem dX5_empties_69 : decode cX5_empties 69 = .ok (.goto 15, 3) := by decide +kernel
theorem dX5_empties_72 : decode cX5_empties 72 = .ok (.iload 4, 2) := by decide +kernel
theorem dX5_empties_74 : decode cX5_empties 74 = .ok (.aload_n 0, 1) := by decide +kernel
theorem dX5_empties_75 : decode cX5_empties 75 = .ok (.getfield 7, 3) := by decide +kernel
theorem dX5_empties_78 : decode cX5_empties 78 = .ok (.iload 7, 2) := by decide +kernel
theorem dX5_empties_80 : decode cX5_empties 80 = .ok (.iconst 2, 1) := by decide +kernel
theorem dX5_empties_81 : decode cX5_empties 81 = .ok (.iadd, 1) := by decide +kernel
theorem dX5_empties_82 : decode cX5_empties 82 = .ok (.iaload, 1) := by decide +kernel
theorem dX5_empties_83 : decode cX5_empties 83 = .ok (.iadd, 1) := by decide +kernel
theorem dX5_empties_84 : decode cX5_empties 84 = .ok (.istore 8, 2) := by decide +kernel
theorem dX5_empties_86 : decode cX5_empties 86 = .ok (.aload_n 0, 1) := by decide +kernel
theorem dX5_empties_87 : decode cX5_empties 87 = .ok (.getfield 7, 3) := by decide +kernel
theorem dX5_empties_90 : decode cX5_empties 90 = .ok (.iload 7, 2) := by decide +kernel
theorem dX5_empties_92 : decode cX5_empties 92 = .ok (.iconst 1, 1) := by decide +kernel
theorem dX5_empties_93 : decode cX5_empties 93 = .ok (.iadd, 1) := by decide +kernel
theorem dX5_empties_94 : decode cX5_empties 94 = .ok (.iaload, 1) := by decide +kernel
theorem dX5_empties_95 : decode cX5_empties 95 = .ok (.istore 9, 2) := by decide +kernel
theorem dX5_empties_97 : decode cX5_empties 97 = .ok (.aload_n 0, 1) := by decide +kernel
theorem dX5_empties_98 : decode cX5_empties 98 = .ok (.getfield 7, 3) := by decide +kernel
theorem dX5_empties_101 : decode cX5_empties 101 = .ok (.iconst 2, 1) := by decide +kernel
theorem dX5_empties_102 : decode cX5_empties 102 = .ok (.iaload, 1) := by decide +kernel
theorem dX5_empties_103 : decode cX5_empties 103 = .ok (.ifCond .eq 34, 3) := by decide +kernel
theorem dX5_empties_106 : decode cX5_empties 106 = .ok (.aload_n 0, 1) := by decide +kernel
theorem dX5_empties_107 : decode cX5_empties 107 = .ok (.iconst 0, 1) := by decide +kernel
theorem dX5_empties_108 : decode cX5_empties 108 = .ok (.iload 9, 2) := by decide +kernel
theorem dX5_empties_110 : decode cX5_empties 110 = .ok (.invokevirtual 88, 3) := by decide +kernel
theorem dX5_empties_113 : decode cX5_empties 113 = .ok (.iconst (-1), 1) := by decide +kernel
theorem dX5_empties_114 : decode cX5_empties 114 = .ok (.if_icmp .eq 27, 3) := by decide +kernel
theorem dX5_empties_117 : decode cX5_empties 117 = .ok (.aload_n 0, 1) := by decide +kernel
theorem dX5_empties_118 : decode cX5_empties 118 = .ok (.iload 9, 2) := by decide +kernel
theorem dX5_empties_120 : decode cX5_empties 120 = .ok (.invokevirtual 108, 3) := by decide +kernel
theorem dX5_empties_123 : decode cX5_empties 123 = .ok (.ifCond .ne 18, 3) := by decide +kernel
theorem dX5_empties_126 : decode cX5_empties 126 = .ok (.aload_n 0, 1) := by decide +kernel
theorem dX5_empties_127 : decode cX5_empties 127 = .ok (.iload 9, 2) := by decide +kernel
theorem dX5_empties_129 : decode cX5_empties 129 = .ok (.invokevirtual 92, 3) := by decide +kernel
theorem dX5_empties_132 : decode cX5_empties 132 = .ok (.iload 6, 2) := by decide +kernel
theorem dX5_empties_134 : decode cX5_empties 134 = .ok (.if_icmp .ne 7, 3) := by decide +kernel
theorem dX5_empties_137 : decode cX5_empties 137 = .ok (.iconst 1, 1) := by decide +kernel
theorem dX5_empties_138 : decode cX5_empties 138 = .ok (.goto 4, 3) := by decide +kernel
theorem dX5_empties_141 : decode cX5_empties 141 = .ok (.iconst 0, 1) := by decide +kernel
theorem dX5_empties_142 : decode cX5_empties 142 = .ok (.istore 10, 2) := by decide +kernel
theorem dX5_empties_144 : decode cX5_empties 144 = .ok (.aload_n 0, 1) := by decide +kernel
theorem dX5_empties_145 : decode cX5_empties 145 = .ok (.getfield 7, 3) := by decide +kernel
theorem dX5_empties_148 : decode cX5_empties 148 = .ok (.iload 7, 2) := by decide +kernel
theorem dX5_empties_150 : decode cX5_empties 150 = .ok (.iconst 0, 1) := by decide +kernel
theorem dX5_empties_151 : decode cX5_empties 151 = .ok (.iadd, 1) := by decide +kernel
theorem dX5_empties_152 : decode cX5_empties 152 = .ok (.iaload, 1) := by decide +kernel
theorem dX5_empties_153 : decode cX5_empties 153 = .ok (.iload_n 1, 1) := by decide +kernel
theorem dX5_empties_154 : decode cX5_empties 154 = .ok (.if_icmp .ne 60, 3) := by decide +kernel
theorem dX5_empties_157 : decode cX5_empties 157 = .ok (.aload_n 0, 1) := by decide +kernel
theorem dX5_empties_158 : decode cX5_empties 158 = .ok (.getfield 7, 3) := by decide +kernel
theorem dX5_empties_161 : decode cX5_empties 161 = .ok (.iload 7, 2) := by decide +kernel
theorem dX5_empties_163 : decode cX5_empties 163 = .ok (.iconst 4, 1) := by decide +kernel
theorem dX5_empties_164 : decode cX5_empties 164 = .ok (.iadd, 1) := by decide +kernel
theorem dX5_empties_165 : decode cX5_empties 165 = .ok (.iaload, 1) := by decide +kernel
theorem dX5_empties_166 : decode cX5_empties 166 = .ok (.iload 8, 2) := by decide +kernel
theorem dX5_empties_168 : decode cX5_empties 168 = .ok (.if_icmp .ge 46, 3) := by decide +kernel
theorem dX5_empties_171 : decode cX5_empties 171 = .ok (.iload 10, 2) := by decide +kernel
theorem dX5_empties_173 : decode cX5_empties 173 = .ok (.ifCond .eq 41, 3) := by decide +kernel
theorem dX5_empties_176 : decode cX5_empties 176 = .ok (.aload_n 0, 1) := by decide +kernel
theorem dX5_empties_177 : decode cX5_empties 177 = .ok (.getfield 7, 3) := by decide +kernel
theorem dX5_empties_180 : decode cX5_empties 180 = .ok (.iload 7, 2) := by decide +kernel
theorem dX5_empties_182 : decode cX5_empties 182 = .ok (.iconst 4, 1) := by decide +kernel
theorem dX5_empties_183 : decode cX5_empties 183 = .ok (.iadd, 1) := by decide +kernel
theorem dX5_empties_184 : decode cX5_empties 184 = .ok (.iload 8, 2) := by decide +kernel
theorem dX5_empties_186 : decode cX5_empties 186 = .ok (.iastore, 1) := by decide +kernel
theorem dX5_empties_187 : decode cX5_empties 187 = .ok (.aload_n 0, 1) := by decide +kernel
theorem dX5_empties_188 : decode cX5_empties 188 = .ok (.getfield 7, 3) := by decide +kernel
theorem dX5_empties_191 : decode cX5_empties 191 = .ok (.iload 7, 2) := by decide +kernel
theorem dX5_empties_193 : decode cX5_empties 193 = .ok (.bipush 6, 2) := by decide +kernel
theorem dX5_empties_195 : decode cX5_empties 195 = .ok (.iadd, 1) := by decide +kernel
theorem dX5_empties_196 : decode cX5_empties 196 = .ok (.dup2, 1) := by decide +kernel
theorem dX5_empties_197 : decode cX5_empties 197 = .ok (.iaload, 1) := by decide +kernel
theorem dX5_empties_198 : decode cX5_empties 198 = .ok (.iconst 1, 1) := by decide +kernel
theorem dX5_empties_199 : decode cX5_empties 199 = .ok (.iadd, 1) := by decide +kernel
theorem dX5_empties_200 : decode cX5_empties 200 = .ok (.iastore, 1) := by decide +kernel
theorem dX5_empties_201 : decode cX5_empties 201 = .ok (.aload_n 0, 1) := by decide +kernel
theorem dX5_empties_202 : decode cX5_empties 202 = .ok (.getfield 7, 3) := by decide +kernel
theorem dX5_empties_205 : decode cX5_empties 205 = .ok (.iconst 4, 1) := by decide +kernel
theorem dX5_empties_206 : decode cX5_empties 206 = .ok (.dup2, 1) := by decide +kernel
theorem dX5_empties_207 : decode cX5_empties 207 = .ok (.iaload, 1) := by decide +kernel
theorem dX5_empties_208 : decode cX5_empties 208 = .ok (.iconst 1, 1) := by decide +kernel
theorem dX5_empties_209 : decode cX5_empties 209 = .ok (.iadd, 1) := by decide +kernel
theorem dX5_empties_210 : decode cX5_empties 210 = .ok (.iastore, 1) := by decide +kernel
theorem dX5_empties_211 : decode cX5_empties 211 = .ok (.iinc 5 1, 3) := by decide +kernel
theorem dX5_empties_214 : decode cX5_empties 214 = .ok (.iinc 6 1, 3) := by decide +kernel
theorem dX5_empties_217 : decode cX5_empties 217 = .ok (.goto (-186), 3) := by decide +kernel
theorem dX5_empties_220 : decode cX5_empties 220 = .ok (.iload 5, 2) := by decide +kernel
theorem dX5_empties_222 : decode cX5_empties 222 = .ok (.ireturn, 1) := by decide +kernel
theorem dX5_rounds_0 : decode cX5_rounds 0 = .ok (.iconst 0, 1) := by decide +kernel
theorem dX5_rounds_1 : decode cX5_rounds 1 = .ok (.istore_n 1, 1) := by decide +kernel
theorem dX5_rounds_2 : decode cX5_rounds 2 = .ok (.iconst 0, 1) := by decide +kernel
theorem dX5_rounds_3 : decode cX5_rounds 3 = .ok (.istore_n 2, 1) := by decide +kernel
theorem dX5_rounds_4 : decode cX5_rounds 4 = .ok (.iload_n 2, 1) := by decide +kernel
theorem dX5_rounds_5 : decode cX5_rounds 5 = .ok (.aload_n 0, 1) := by decide +kernel
theorem dX5_rounds_6 : decode cX5_rounds 6 = .ok (.getfield 7, 3) := by decide +kernel
theorem dX5_rounds_9 : decode cX5_rounds 9 = .ok (.iconst 0, 1) := by decide +kernel
theorem dX5_rounds_10 : decode cX5_rounds 10 = .ok (.iaload, 1) := by decide +kernel
theorem dX5_rounds_11 : decode cX5_rounds 11 = .ok (.if_icmp .ge 31, 3) := by decide +kernel
theorem dX5_rounds_14 : decode cX5_rounds 14 = .ok (.aload_n 0, 1) := by decide +kernel
theorem dX5_rounds_15 : decode cX5_rounds 15 = .ok (.iload_n 2, 1) := by decide +kernel
theorem dX5_rounds_16 : decode cX5_rounds 16 = .ok (.invokevirtual 108, 3) := by decide +kernel
theorem dX5_rounds_19 : decode cX5_rounds 19 = .ok (.ifCond .eq 17, 3) := by decide +kernel
theorem dX5_rounds_22 : decode cX5_rounds 22 = .ok (.aload_n 0, 1) := by decide +kernel
theorem dX5_rounds_23 : decode cX5_rounds 23 = .ok (.iconst 0, 1) := by decide +kernel
theorem dX5_rounds_24 : decode cX5_rounds 24 = .ok (.aload_n 0, 1) := by decide +kernel
theorem dX5_rounds_25 : decode cX5_rounds 25 = .ok (.iconst 0, 1) := by decide +kernel
theorem dX5_rounds_26 : decode cX5_rounds 26 = .ok (.iload_n 2, 1) := by decide +kernel
theorem dX5_rounds_27 : decode cX5_rounds 27 = .ok (.invokevirtual 88, 3) := by decide +kernel
theorem dX5_rounds_30 : decode cX5_rounds 30 = .ok (.invokevirtual 111, 3) := by decide +kernel
theorem dX5_rounds_33 : decode cX5_rounds 33 = .ok (.iinc 1 1, 3) := by decide +kernel
theorem dX5_rounds_36 : decode cX5_rounds 36 = .ok (.iinc 2 1, 3) := by decide +kernel
theorem dX5_rounds_39 : decode cX5_rounds 39 = .ok (.goto (-35), 3) := by decide +kernel
theorem dX5_rounds_42 : decode cX5_rounds 42 = .ok (.iconst 0, 1) := by decide +kernel
theorem dX5_rounds_43 : decode cX5_rounds 43 = .ok (.istore_n 2, 1) := by decide +kernel
theorem dX5_rounds_44 : decode cX5_rounds 44 = .ok (.iload_n 2, 1) := by decide +kernel
theorem dX5_rounds_45 : decode cX5_rounds 45 = .ok (.aload_n 0, 1) := by decide +kernel
theorem dX5_rounds_46 : decode cX5_rounds 46 = .ok (.getfield 7, 3) := by decide +kernel
theorem dX5_rounds_49 : decode cX5_rounds 49 = .ok (.iconst 0, 1) := by decide +kernel
theorem dX5_rounds_50 : decode cX5_rounds 50 = .ok (.iaload, 1) := by decide +kernel
theorem dX5_rounds_51 : decode cX5_rounds 51 = .ok (.if_icmp .ge 27, 3) := by decide +kernel
theorem dX5_rounds_54 : decode cX5_rounds 54 = .ok (.aload_n 0, 1) := by decide +kernel
theorem dX5_rounds_55 : decode cX5_rounds 55 = .ok (.getfield 7, 3) := by decide +kernel
theorem dX5_rounds_58 : decode cX5_rounds 58 = .ok (.iconst 2, 1) := by decide +kernel
theorem dX5_rounds_59 : decode cX5_rounds 59 = .ok (.iaload, 1) := by decide +kernel
theorem dX5_rounds_60 : decode cX5_rounds 60 = .ok (.iconst 1, 1) := by decide +kernel
theorem dX5_rounds_61 : decode cX5_rounds 61 = .ok (.if_icmp .eq 17, 3) := by decide +kernel
theorem dX5_rounds_64 : decode cX5_rounds 64 = .ok (.iload_n 1, 1) := by decide +kernel
theorem dX5_rounds_65 : decode cX5_rounds 65 = .ok (.aload_n 0, 1) := by decide +kernel
theorem dX5_rounds_66 : decode cX5_rounds 66 = .ok (.iload_n 2, 1) := by decide +kernel
theorem dX5_rounds_67 : decode cX5_rounds 67 = .ok (.invokevirtual 115, 3) := by decide +kernel
theorem dX5_rounds_70 : decode cX5_rounds 70 = .ok (.iadd, 1) := by decide +kernel
theorem dX5_rounds_71 : decode cX5_rounds 71 = .ok (.istore_n 1, 1) := by decide +kernel
theorem dX5_rounds_72 : decode cX5_rounds 72 = .ok (.iinc 2 1, 3) := by decide +kernel
theorem dX5_rounds_75 : decode cX5_rounds 75 = .ok (.goto (-31), 3) := by decide +kernel
theorem dX5_rounds_78 : decode cX5_rounds 78 = .ok (.aload_n 0, 1) := by decide +kernel
theorem dX5_rounds_79 : decode cX5_rounds 79 = .ok (.getfield 7, 3) := by decide +kernel
theorem dX5_rounds_82 : decode cX5_rounds 82 = .ok (.iconst 5, 1) := by decide +kernel
theorem dX5_rounds_83 : decode cX5_rounds 83 = .ok (.dup2, 1) := by decide +kernel
theorem dX5_rounds_84 : decode cX5_rounds 84 = .ok (.iaload, 1) := by decide +kernel
theorem dX5_rounds_85 : decode cX5_rounds 85 = .ok (.iconst 1, 1) := by decide +kernel
theorem dX5_rounds_86 : decode cX5_rounds 86 = .ok (.iadd, 1) := by decide +kernel
theorem dX5_rounds_87 : decode cX5_rounds 87 = .ok (.iastore, 1) := by decide +kernel
theorem dX5_rounds_88 : decode cX5_rounds 88 = .ok (.iload_n 1, 1) := by decide +kernel
theorem dX5_rounds_89 : decode cX5_rounds 89 = .ok (.ifCond .le 7, 3) := by decide +kernel
theorem dX5_rounds_92 : decode cX5_rounds 92 = .ok (.iconst 1, 1) := by decide +kernel
theorem dX5_rounds_93 : decode cX5_rounds 93 = .ok (.goto 4, 3) := by decide +kernel
theorem dX5_rounds_96 : decode cX5_rounds 96 = .ok (.iconst 0, 1) := by decide +kernel
theorem dX5_rounds_97 : decode cX5_rounds 97 = .ok (.ireturn, 1) := by decide +kernel
theorem dX5_leastTime_0 : decode cX5_leastTime 0 = .ok (.ldc 91, 2) := by decide +kernel
theorem dX5_leastTime_2 : decode cX5_leastTime 2 = .ok (.istore_n 1, 1) := by decide +kernel
theorem dX5_leastTime_3 : decode cX5_leastTime 3 = .ok (.iconst 0, 1) := by decide +kernel
theorem dX5_leastTime_4 : decode cX5_leastTime 4 = .ok (.istore_n 2, 1) := by decide +kernel
theorem dX5_leastTime_5 : decode cX5_leastTime 5 = .ok (.iload_n 2, 1) := by decide +kernel
theorem dX5_leastTime_6 : decode cX5_leastTime 6 = .ok (.aload_n 0, 1) := by decide +kernel
theorem dX5_leastTime_7 : decode cX5_leastTime 7 = .ok (.getfield 7, 3) := by decide +kernel
theorem dX5_leastTime_10 : decode cX5_leastTime 10 = .ok (.iconst 0, 1) := by decide +kernel
theorem dX5_leastTime_11 : decode cX5_leastTime 11 = .ok (.iaload, 1) := by decide +kernel
theorem dX5_leastTime_12 : decode cX5_leastTime 12 = .ok (.if_icmp .ge 27, 3) := by decide +kernel
theorem dX5_leastTime_15 : decode cX5_leastTime 15 = .ok (.aload_n 0, 1) := by decide +kernel
theorem dX5_leastTime_16 : decode cX5_leastTime 16 = .ok (.iconst 0, 1) := by decide +kernel
theorem dX5_leastTime_17 : decode cX5_leastTime 17 = .ok (.iload_n 2, 1) := by decide +kernel
theorem dX5_leastTime_18 : decode cX5_leastTime 18 = .ok (.invokevirtual 95, 3) := by decide +kernel
theorem dX5_leastTime_21 : decode cX5_leastTime 21 = .ok (.istore_n 3, 1) := by decide +kernel
theorem dX5_leastTime_22 : decode cX5_leastTime 22 = .ok (.iload_n 3, 1) := by decide +kernel
theorem dX5_leastTime_23 : decode cX5_leastTime 23 = .ok (.iload_n 1, 1) := by decide +kernel
theorem dX5_leastTime_24 : decode cX5_leastTime 24 = .ok (.if_icmp .ge 7, 3) := by decide +kernel
theorem dX5_leastTime_27 : decode cX5_leastTime 27 = .ok (.iload_n 3, 1) := by decide +kernel
theorem dX5_leastTime_28 : decode cX5_leastTime 28 = .ok (.goto 4, 3) := by decide +kernel
theorem dX5_leastTime_31 : decode cX5_leastTime 31 = .ok (.iload_n 1, 1) := by decide +kernel
theorem dX5_leastTime_32 : decode cX5_leastTime 32 = .ok (.istore_n 1, 1) := by decide +kernel
theorem dX5_leastTime_33 : decode cX5_leastTime 33 = .ok (.iinc 2 1, 3) := by decide +kernel
theorem dX5_leastTime_36 : decode cX5_leastTime 36 = .ok (.goto (-31), 3) := by decide +kernel
theorem dX5_leastTime_39 : decode cX5_leastTime 39 = .ok (.iload_n 1, 1) := by decide +kernel
theorem dX5_leastTime_40 : decode cX5_leastTime 40 = .ok (.ireturn, 1) := by decide +kernel
theorem dX5_lets_0 : decode cX5_lets 0 = .ok (.aload_n 0, 1) := by decide +kernel
theorem dX5_lets_1 : decode cX5_lets 1 = .ok (.invokevirtual 118, 3) := by decide +kernel
theorem dX5_lets_4 : decode cX5_lets 4 = .ok (.istore_n 1, 1) := by decide +kernel
theorem dX5_lets_5 : decode cX5_lets 5 = .ok (.iconst 0, 1) := by decide +kernel
theorem dX5_lets_6 : decode cX5_lets 6 = .ok (.istore_n 2, 1) := by decide +kernel
theorem dX5_lets_7 : decode cX5_lets 7 = .ok (.iload_n 2, 1) := by decide +kernel
theorem dX5_lets_8 : decode cX5_lets 8 = .ok (.aload_n 0, 1) := by decide +kernel
theorem dX5_lets_9 : decode cX5_lets 9 = .ok (.getfield 7, 3) := by decide +kernel
theorem dX5_lets_12 : decode cX5_lets 12 = .ok (.iconst 0, 1) := by decide +kernel
theorem dX5_lets_13 : decode cX5_lets 13 = .ok (.iaload, 1) := by decide +kernel
theorem dX5_lets_14 : decode cX5_lets 14 = .ok (.if_icmp .ge 33, 3) := by decide +kernel
theorem dX5_lets_17 : decode cX5_lets 17 = .ok (.aload_n 0, 1) := by decide +kernel
theorem dX5_lets_18 : decode cX5_lets 18 = .ok (.iconst 0, 1) := by decide +kernel
theorem dX5_lets_19 : decode cX5_lets 19 = .ok (.iload_n 2, 1) := by decide +kernel
theorem dX5_lets_20 : decode cX5_lets 20 = .ok (.invokevirtual 95, 3) := by decide +kernel
theorem dX5_lets_23 : decode cX5_lets 23 = .ok (.iload_n 1, 1) := by decide +kernel
theorem dX5_lets_24 : decode cX5_lets 24 = .ok (.if_icmp .ne 17, 3) := by decide +kernel
theorem dX5_lets_27 : decode cX5_lets 27 = .ok (.aload_n 0, 1) := by decide +kernel
theorem dX5_lets_28 : decode cX5_lets 28 = .ok (.iconst 0, 1) := by decide +kernel
theorem dX5_lets_29 : decode cX5_lets 29 = .ok (.aload_n 0, 1) := by decide +kernel
theorem dX5_lets_30 : decode cX5_lets 30 = .ok (.iconst 0, 1) := by decide +kernel
theorem dX5_lets_31 : decode cX5_lets 31 = .ok (.iload_n 2, 1) := by decide +kernel
theorem dX5_lets_32 : decode cX5_lets 32 = .ok (.invokevirtual 88, 3) := by decide +kernel
theorem dX5_lets_35 : decode cX5_lets 35 = .ok (.invokevirtual 111, 3) := by decide +kernel
theorem dX5_lets_38 : decode cX5_lets 38 = .ok (.goto (-21), 3) := by decide +kernel
theorem dX5_lets_41 : decode cX5_lets 41 = .ok (.iinc 2 1, 3) := by decide +kernel
theorem dX5_lets_44 : decode cX5_lets 44 = .ok (.goto (-37), 3) := by decide +kernel
theorem dX5_lets_47 : decode cX5_lets 47 = .ok (.iconst 0, 1) := by decide +kernel
theorem dX5_lets_48 : decode cX5_lets 48 = .ok (.istore_n 2, 1) := by decide +kernel
theorem dX5_lets_49 : decode cX5_lets 49 = .ok (.iload_n 2, 1) := by decide +kernel
theorem dX5_lets_50 : decode cX5_lets 50 = .ok (.aload_n 0, 1) := by decide +kernel
theorem dX5_lets_51 : decode cX5_lets 51 = .ok (.getfield 7, 3) := by decide +kernel
theorem dX5_lets_54 : decode cX5_lets 54 = .ok (.iconst 1, 1) := by decide +kernel
theorem dX5_lets_55 : decode cX5_lets 55 = .ok (.iaload, 1) := by decide +kernel
theorem dX5_lets_56 : decode cX5_lets 56 = .ok (.if_icmp .ge 55, 3) := by decide +kernel
theorem dX5_lets_59 : decode cX5_lets 59 = .ok (.aload_n 0, 1) := by decide +kernel
theorem dX5_lets_60 : decode cX5_lets 60 = .ok (.getfield 7, 3) := by decide +kernel
theorem dX5_lets_63 : decode cX5_lets 63 = .ok (.iconst 0, 1) := by decide +kernel
theorem dX5_lets_64 : decode cX5_lets 64 = .ok (.iload_n 2, 1) := by decide +kernel
theorem dX5_lets_65 : decode cX5_lets 65 = .ok (.invokestatic 34, 3) := by decide +kernel
theorem dX5_lets_68 : decode cX5_lets 68 = .ok (.iconst 4, 1) := by decide +kernel
theorem dX5_lets_69 : decode cX5_lets 69 = .ok (.iadd, 1) := by decide +kernel
theorem dX5_lets_70 : decode cX5_lets 70 = .ok (.aload_n 0, 1) := by decide +kernel
theorem dX5_lets_71 : decode cX5_lets 71 = .ok (.getfield 7, 3) := by decide +kernel
theorem dX5_lets_74 : decode cX5_lets 74 = .ok (.iconst 0, 1) := by decide +kernel
theorem dX5_lets_75 : decode cX5_lets 75 = .ok (.iload_n 2, 1) := by decide +kernel
theorem dX5_lets_76 : decode cX5_lets 76 = .ok (.invokestatic 34, 3) := by decide +kernel
theorem dX5_lets_79 : decode cX5_lets 79 = .ok (.iconst 4, 1) := by decide +kernel
theorem dX5_lets_80 : decode cX5_lets 80 = .ok (.iadd, 1) := by decide +kernel
theorem dX5_lets_81 : decode cX5_lets 81 = .ok (.iaload, 1) := by decide +kernel
theorem dX5_lets_82 : decode cX5_lets 82 = .ok (.iload_n 1, 1) := by decide +kernel
theorem dX5_lets_83 : decode cX5_lets 83 = .ok (.if_icmp .le 18, 3) := by decide +kernel
theorem dX5_lets_86 : decode cX5_lets 86 = .ok (.aload_n 0, 1) := by decide +kernel
theorem dX5_lets_87 : decode cX5_lets 87 = .ok (.getfield 7, 3) := by decide +kernel
theorem dX5_lets_90 : decode cX5_lets 90 = .ok (.iconst 0, 1) := by decide +kernel
theorem dX5_lets_91 : decode cX5_lets 91 = .ok (.iload_n 2, 1) := by decide +kernel
theorem dX5_lets_92 : decode cX5_lets 92 = .ok (.invokestatic 34, 3) := by decide +kernel
theorem dX5_lets_95 : decode cX5_lets 95 = .ok (.iconst 4, 1) := by decide +kernel
theorem dX5_lets_96 : decode cX5_lets 96 = .ok (.iadd, 1) := by decide +kernel
theorem dX5_lets_97 : decode cX5_lets 97 = .ok (.iaload, 1) := by decide +kernel
theorem dX5_lets_98 : decode cX5_lets 98 = .ok (.goto 6, 3) := by decide +kernel
theorem dX5_lets_101 : decode cX5_lets 101 = .ok (.iload_n 1, 1) := by decide +kernel
theorem dX5_lets_102 : decode cX5_lets 102 = .ok (.iconst 1, 1) := by decide +kernel
theorem dX5_lets_103 : decode cX5_lets 103 = .ok (.iadd, 1) := by decide +kernel
theorem dX5_lets_104 : decode cX5_lets 104 = .ok (.iastore, 1) := by decide +kernel
theorem dX5_lets_105 : decode cX5_lets 105 = .ok (.iinc 2 1, 3) := by decide +kernel
theorem dX5_lets_108 : decode cX5_lets 108 = .ok (.goto (-59), 3) := by decide +kernel
theorem dX5_lets_111 : decode cX5_lets 111 = .ok (.aload_n 0, 1) := by decide +kernel
theorem dX5_lets_112 : decode cX5_lets 112 = .ok (.getfield 7, 3) := by decide +kernel
theorem dX5_lets_115 : decode cX5_lets 115 = .ok (.bipush 6, 2) := by decide +kernel
theorem dX5_lets_117 : decode cX5_lets 117 = .ok (.dup2, 1) := by decide +kernel
theorem dX5_lets_118 : decode cX5_lets 118 = .ok (.iaload, 1) := by decide +kernel
theorem dX5_lets_119 : decode cX5_lets 119 = .ok (.iconst 1, 1) := by decide +kernel
theorem dX5_lets_120 : decode cX5_lets 120 = .ok (.iadd, 1) := by decide +kernel
theorem dX5_lets_121 : decode cX5_lets 121 = .ok (.iastore, 1) := by decide +kernel
theorem dX5_lets_122 : decode cX5_lets 122 = .ok (.iload_n 1, 1) := by decide +kernel
theorem dX5_lets_123 : decode cX5_lets 123 = .ok (.ireturn, 1) := by decide +kernel
theorem dX5_isRing_0 : decode cX5_isRing 0 = .ok (.iconst 0, 1) := by decide +kernel
theorem dX5_isRing_1 : decode cX5_isRing 1 = .ok (.istore_n 1, 1) := by decide +kernel
theorem dX5_isRing_2 : decode cX5_isRing 2 = .ok (.iconst 0, 1) := by decide +kernel
theorem dX5_isRing_3 : decode cX5_isRing 3 = .ok (.istore_n 2, 1) := by decide +kernel
theorem dX5_isRing_4 : decode cX5_isRing 4 = .ok (.iload_n 2, 1) := by decide +kernel
theorem dX5_isRing_5 : decode cX5_isRing 5 = .ok (.aload_n 0, 1) := by decide +kernel
theorem dX5_isRing_6 : decode cX5_isRing 6 = .ok (.getfield 7, 3) := by decide +kernel
theorem dX5_isRing_9 : decode cX5_isRing 9 = .ok (.iconst 0, 1) := by decide +kernel
theorem dX5_isRing_10 : decode cX5_isRing 10 = .ok (.iaload, 1) := by decide +kernel
theorem dX5_isRing_11 : decode cX5_isRing 11 = .ok (.if_icmp .ge 27, 3) := by decide +kernel
theorem dX5_isRing_14 : decode cX5_isRing 14 = .ok (.iload_n 1, 1) := by decide +kernel
theorem dX5_isRing_15 : decode cX5_isRing 15 = .ok (.ifCond .ne 11, 3) := by decide +kernel
theorem dX5_isRing_18 : decode cX5_isRing 18 = .ok (.aload_n 0, 1) := by decide +kernel
theorem dX5_isRing_19 : decode cX5_isRing 19 = .ok (.iload_n 2, 1) := by decide +kernel
theorem dX5_isRing_20 : decode cX5_isRing 20 = .ok (.invokevirtual 122, 3) := by decide +kernel
theorem dX5_isRing_23 : decode cX5_isRing 23 = .ok (.ifCond .ne 7, 3) := by decide +kernel
theorem dX5_isRing_26 : decode cX5_isRing 26 = .ok (.iconst 1, 1) := by decide +kernel
theorem dX5_isRing_27 : decode cX5_isRing 27 = .ok (.goto 4, 3) := by decide +kernel
theorem dX5_isRing_30 : decode cX5_isRing 30 = .ok (.iconst 0, 1) := by decide +kernel
theorem dX5_isRing_31 : decode cX5_isRing 31 = .ok (.istore_n 1, 1) := by decide +kernel
theorem dX5_isRing_32 : decode cX5_isRing 32 = .ok (.iinc 2 1, 3) := by decide +kernel
theorem dX5_isRing_35 : decode cX5_isRing 35 = .ok (.goto (-31), 3) := by decide +kernel
theorem dX5_isRing_38 : decode cX5_isRing 38 = .ok (.iload_n 1, 1) := by decide +kernel
theorem dX5_isRing_39 : decode cX5_isRing 39 = .ok (.ireturn, 1) := by decide +kernel
theorem dX5_canRun_0 : decode cX5_canRun 0 = .ok (.aload_n 0, 1) := by decide +kernel
theorem dX5_canRun_1 : decode cX5_canRun 1 = .ok (.getfield 7, 3) := by decide +kernel
theorem dX5_canRun_4 : decode cX5_canRun 4 = .ok (.iconst 0, 1) := by decide +kernel
theorem dX5_canRun_5 : decode cX5_canRun 5 = .ok (.iaload, 1) := by decide +kernel
theorem dX5_canRun_6 : decode cX5_canRun 6 = .ok (.ifCond .le 24, 3) := by decide +kernel
theorem dX5_canRun_9 : decode cX5_canRun 9 = .ok (.aload_n 0, 1) := by decide +kernel
theorem dX5_canRun_10 : decode cX5_canRun 10 = .ok (.getfield 7, 3) := by decide +kernel
theorem dX5_canRun_13 : decode cX5_canRun 13 = .ok (.iconst 2, 1) := by decide +kernel
theorem dX5_canRun_14 : decode cX5_canRun 14 = .ok (.iaload, 1) := by decide +kernel
theorem dX5_canRun_15 : decode cX5_canRun 15 = .ok (.iconst 1, 1) := by decide +kernel
theorem dX5_canRun_16 : decode cX5_canRun 16 = .ok (.if_icmp .eq 10, 3) := by decide +kernel
theorem dX5_canRun_19 : decode cX5_canRun 19 = .ok (.aload_n 0, 1) := by decide +kernel
theorem dX5_canRun_20 : decode cX5_canRun 20 = .ok (.invokevirtual 125, 3) := by decide +kernel
theorem dX5_canRun_23 : decode cX5_canRun 23 = .ok (.ifCond .ne 7, 3) := by decide +kernel
theorem dX5_canRun_26 : decode cX5_canRun 26 = .ok (.iconst 1, 1) := by decide +kernel
theorem dX5_canRun_27 : decode cX5_canRun 27 = .ok (.goto 4, 3) := by decide +kernel
theorem dX5_canRun_30 : decode cX5_canRun 30 = .ok (.iconst 0, 1) := by decide +kernel
theorem dX5_canRun_31 : decode cX5_canRun 31 = .ok (.ireturn, 1) := by decide +kernel
theorem dX5_run_0 : decode cX5_run 0 = .ok (.iload_n 1, 1) := by decide +kernel
theorem dX5_run_1 : decode cX5_run 1 = .ok (.i2l, 1) := by decide +kernel
theorem dX5_run_2 : decode cX5_run 2 = .ok (.lconst 1, 1) := by decide +kernel
theorem dX5_run_3 : decode cX5_run 3 = .ok (.ldc2_w 129, 3) := by decide +kernel
theorem dX5_run_6 : decode cX5_run 6 = .ok (.invokestatic 23, 3) := by decide +kernel
theorem dX5_run_9 : decode cX5_run 9 = .ok (.ifCond .ne 6, 3) := by decide +kernel
theorem dX5_run_12 : decode cX5_run 12 = .ok (.ldc 29, 2) := by decide +kernel
theorem dX5_run_14 : decode cX5_run 14 = .ok (.ireturn, 1) := by decide +kernel
theorem dX5_run_15 : decode cX5_run 15 = .ok (.aload_n 0, 1) := by decide +kernel
theorem dX5_run_16 : decode cX5_run 16 = .ok (.invokevirtual 131, 3) := by decide +kernel
theorem dX5_run_19 : decode cX5_run 19 = .ok (.ifCond .ne 6, 3) := by decide +kernel
theorem dX5_run_22 : decode cX5_run 22 = .ok (.ldc 48, 2) := by decide +kernel
theorem dX5_run_24 : decode cX5_run 24 = .ok (.ireturn, 1) := by decide +kernel
theorem dX5_run_25 : decode cX5_run 25 = .ok (.aload_n 0, 1) := by decide +kernel
theorem dX5_run_26 : decode cX5_run 26 = .ok (.getfield 7, 3) := by decide +kernel
theorem dX5_run_29 : decode cX5_run 29 = .ok (.iconst 3, 1) := by decide +kernel
theorem dX5_run_30 : decode cX5_run 30 = .ok (.iaload, 1) := by decide +kernel
theorem dX5_run_31 : decode cX5_run 31 = .ok (.istore_n 2, 1) := by decide +kernel
theorem dX5_run_32 : decode cX5_run 32 = .ok (.iconst 1, 1) := by decide +kernel
theorem dX5_run_33 : decode cX5_run 33 = .ok (.istore_n 3, 1) := by decide +kernel
theorem dX5_run_34 : decode cX5_run 34 = .ok (.iconst 0, 1) := by decide +kernel
theorem dX5_run_35 : decode cX5_run 35 = .ok (.istore 4, 2) := by decide +kernel
theorem dX5_run_37 : decode cX5_run 37 = .ok (.iload 4, 2) := by decide +kernel
theorem dX5_run_39 : decode cX5_run 39 = .ok (.iload_n 1, 1) := by decide +kernel
theorem dX5_run_40 : decode cX5_run 40 = .ok (.if_icmp .ge 28, 3) := by decide +kernel
theorem dX5_run_43 : decode cX5_run 43 = .ok (.iload_n 3, 1) := by decide +kernel
theorem dX5_run_44 : decode cX5_run 44 = .ok (.ifCond .eq 24, 3) := by decide +kernel
theorem dX5_run_47 : decode cX5_run 47 = .ok (.aload_n 0, 1) := by decide +kernel
theorem dX5_run_48 : decode cX5_run 48 = .ok (.getfield 7, 3) := by decide +kernel
theorem dX5_run_51 : decode cX5_run 51 = .ok (.bipush 9, 2) := by decide +kernel
theorem dX5_run_53 : decode cX5_run 53 = .ok (.iaload, 1) := by decide +kernel
theorem dX5_run_54 : decode cX5_run 54 = .ok (.ifCond .le 14, 3) := by decide +kernel
theorem dX5_run_57 : decode cX5_run 57 = .ok (.aload_n 0, 1) := by decide +kernel
theorem dX5_run_58 : decode cX5_run 58 = .ok (.invokevirtual 134, 3) := by decide +kernel
theorem dX5_run_61 : decode cX5_run 61 = .ok (.istore_n 3, 1) := by decide +kernel
theorem dX5_run_62 : decode cX5_run 62 = .ok (.iinc 4 1, 3) := by decide +kernel
theorem dX5_run_65 : decode cX5_run 65 = .ok (.goto (-28), 3) := by decide +kernel
theorem dX5_run_68 : decode cX5_run 68 = .ok (.aload_n 0, 1) := by decide +kernel
theorem dX5_run_69 : decode cX5_run 69 = .ok (.getfield 7, 3) := by decide +kernel
theorem dX5_run_72 : decode cX5_run 72 = .ok (.iconst 3, 1) := by decide +kernel
theorem dX5_run_73 : decode cX5_run 73 = .ok (.iaload, 1) := by decide +kernel
theorem dX5_run_74 : decode cX5_run 74 = .ok (.iload_n 2, 1) := by decide +kernel
theorem dX5_run_75 : decode cX5_run 75 = .ok (.isub, 1) := by decide +kernel
theorem dX5_run_76 : decode cX5_run 76 = .ok (.ireturn, 1) := by decide +kernel
theorem dX5_allMay_0 : decode cX5_allMay 0 = .ok (.iconst 0, 1) := by decide +kernel
theorem dX5_allMay_1 : decode cX5_allMay 1 = .ok (.istore_n 1, 1) := by decide +kernel
theorem dX5_allMay_2 : decode cX5_allMay 2 = .ok (.iconst 0, 1) := by decide +kernel
theorem dX5_allMay_3 : decode cX5_allMay 3 = .ok (.istore_n 2, 1) := by decide +kernel
theorem dX5_allMay_4 : decode cX5_allMay 4 = .ok (.iload_n 2, 1) := by decide +kernel
theorem dX5_allMay_5 : decode cX5_allMay 5 = .ok (.aload_n 0, 1) := by decide +kernel
theorem dX5_allMay_6 : decode cX5_allMay 6 = .ok (.getfield 7, 3) := by decide +kernel
theorem dX5_allMay_9 : decode cX5_allMay 9 = .ok (.iconst 0, 1) := by decide +kernel
theorem dX5_allMay_10 : decode cX5_allMay 10 = .ok (.iaload, 1) := by decide +kernel
theorem dX5_allMay_11 : decode cX5_allMay 11 = .ok (.if_icmp .ge 27, 3) := by decide +kernel
theorem dX5_allMay_14 : decode cX5_allMay 14 = .ok (.iload_n 1, 1) := by decide +kernel
theorem dX5_allMay_15 : decode cX5_allMay 15 = .ok (.aload_n 0, 1) := by decide +kernel
theorem dX5_allMay_16 : decode cX5_allMay 16 = .ok (.iload_n 2, 1) := by decide +kernel
theorem dX5_allMay_17 : decode cX5_allMay 17 = .ok (.invokevirtual 108, 3) := by decide +kernel
theorem dX5_allMay_20 : decode cX5_allMay 20 = .ok (.ifCond .eq 9, 3) := by decide +kernel
theorem dX5_allMay_23 : decode cX5_allMay 23 = .ok (.iconst 1, 1) := by decide +kernel
theorem dX5_allMay_24 : decode cX5_allMay 24 = .ok (.iload_n 2, 1) := by decide +kernel
theorem dX5_allMay_25 : decode cX5_allMay 25 = .ok (.ishl, 1) := by decide +kernel
theorem dX5_allMay_26 : decode cX5_allMay 26 = .ok (.goto 4, 3) := by decide +kernel
theorem dX5_allMay_29 : decode cX5_allMay 29 = .ok (.iconst 0, 1) := by decide +kernel
theorem dX5_allMay_30 : decode cX5_allMay 30 = .ok (.ior, 1) := by decide +kernel
theorem dX5_allMay_31 : decode cX5_allMay 31 = .ok (.istore_n 1, 1) := by decide +kernel
theorem dX5_allMay_32 : decode cX5_allMay 32 = .ok (.iinc 2 1, 3) := by decide +kernel
theorem dX5_allMay_35 : decode cX5_allMay 35 = .ok (.goto (-31), 3) := by decide +kernel
theorem dX5_allMay_38 : decode cX5_allMay 38 = .ok (.iload_n 1, 1) := by decide +kernel
theorem dX5_allMay_39 : decode cX5_allMay 39 = .ok (.ireturn, 1) := by decide +kernel
theorem dX5_letGo_0 : decode cX5_letGo 0 = .ok (.aload_n 0, 1) := by decide +kernel
theorem dX5_letGo_1 : decode cX5_letGo 1 = .ok (.getfield 7, 3) := by decide +kernel
theorem dX5_letGo_4 : decode cX5_letGo 4 = .ok (.bipush 9, 2) := by decide +kernel
theorem dX5_letGo_6 : decode cX5_letGo 6 = .ok (.iaload, 1) := by decide +kernel
theorem dX5_letGo_7 : decode cX5_letGo 7 = .ok (.ifCond .eq 10, 3) := by decide +kernel
theorem dX5_letGo_10 : decode cX5_letGo 10 = .ok (.aload_n 0, 1) := by decide +kernel
theorem dX5_letGo_11 : decode cX5_letGo 11 = .ok (.invokevirtual 137, 3) := by decide +kernel
theorem dX5_letGo_14 : decode cX5_letGo 14 = .ok (.ifCond .eq 8, 3) := by decide +kernel
theorem dX5_letGo_17 : decode cX5_letGo 17 = .ok (.ldc 48, 2) := by decide +kernel
theorem dX5_letGo_19 : decode cX5_letGo 19 = .ok (.goto 7, 3) := by decide +kernel
theorem dX5_letGo_22 : decode cX5_letGo 22 = .ok (.aload_n 0, 1) := by decide +kernel
theorem dX5_letGo_23 : decode cX5_letGo 23 = .ok (.invokevirtual 140, 3) := by decide +kernel
theorem dX5_letGo_26 : decode cX5_letGo 26 = .ok (.ireturn, 1) := by decide +kernel
theorem dX5_finish_0 : decode cX5_finish 0 = .ok (.aload_n 0, 1) := by decide +kernel
theorem dX5_finish_1 : decode cX5_finish 1 = .ok (.invokevirtual 131, 3) := by decide +kernel
theorem dX5_finish_4 : decode cX5_finish 4 = .ok (.ifCond .ne 6, 3) := by decide +kernel
theorem dX5_finish_7 : decode cX5_finish 7 = .ok (.ldc 48, 2) := by decide +kernel
theorem dX5_finish_9 : decode cX5_finish 9 = .ok (.ireturn, 1) := by decide +kernel
theorem dX5_finish_10 : decode cX5_finish 10 = .ok (.aload_n 0, 1) := by decide +kernel
theorem dX5_finish_11 : decode cX5_finish 11 = .ok (.getfield 7, 3) := by decide +kernel
theorem dX5_finish_14 : decode cX5_finish 14 = .ok (.iconst 3, 1) := by decide +kernel
theorem dX5_finish_15 : decode cX5_finish 15 = .ok (.iaload, 1) := by decide +kernel
theorem dX5_finish_16 : decode cX5_finish 16 = .ok (.istore_n 1, 1) := by decide +kernel
theorem dX5_finish_17 : decode cX5_finish 17 = .ok (.sipush 400, 3) := by decide +kernel
theorem dX5_finish_20 : decode cX5_finish 20 = .ok (.istore_n 2, 1) := by decide +kernel
theorem dX5_finish_21 : decode cX5_finish 21 = .ok (.iload_n 2, 1) := by decide +kernel
theorem dX5_finish_22 : decode cX5_finish 22 = .ok (.ifCond .le 51, 3) := by decide +kernel
theorem dX5_finish_25 : decode cX5_finish 25 = .ok (.aload_n 0, 1) := by decide +kernel
theorem dX5_finish_26 : decode cX5_finish 26 = .ok (.getfield 7, 3) := by decide +kernel
theorem dX5_finish_29 : decode cX5_finish 29 = .ok (.bipush 9, 2) := by decide +kernel
theorem dX5_finish_31 : decode cX5_finish 31 = .ok (.iaload, 1) := by decide +kernel
theorem dX5_finish_32 : decode cX5_finish 32 = .ok (.ifCond .le 41, 3) := by decide +kernel
theorem dX5_finish_35 : decode cX5_finish 35 = .ok (.aload_n 0, 1) := by decide +kernel
theorem dX5_finish_36 : decode cX5_finish 36 = .ok (.invokevirtual 134, 3) := by decide +kernel
theorem dX5_finish_39 : decode cX5_finish 39 = .ok (.istore_n 3, 1) := by decide +kernel
theorem dX5_finish_40 : decode cX5_finish 40 = .ok (.iinc 2 (-1), 3) := by decide +kernel
theorem dX5_finish_43 : decode cX5_finish 43 = .ok (.iload_n 3, 1) := by decide +kernel
theorem dX5_finish_44 : decode cX5_finish 44 = .ok (.ifCond .ne 26, 3) := by decide +kernel
theorem dX5_finish_47 : decode cX5_finish 47 = .ok (.iload_n 2, 1) := by decide +kernel
theorem dX5_finish_48 : decode cX5_finish 48 = .ok (.ifCond .le 22, 3) := by decide +kernel
theorem dX5_finish_51 : decode cX5_finish 51 = .ok (.aload_n 0, 1) := by decide +kernel
theorem dX5_finish_52 : decode cX5_finish 52 = .ok (.invokevirtual 140, 3) := by decide +kernel
theorem dX5_finish_55 : decode cX5_finish 55 = .ok (.istore 4, 2) := by decide +kernel
theorem dX5_finish_57 : decode cX5_finish 57 = .ok (.iload_n 2, 1) := by decide +kernel
theorem dX5_finish_58 : decode cX5_finish 58 = .ok (.iload 4, 2) := by decide +kernel
theorem dX5_finish_60 : decode cX5_finish 60 = .ok (.ifCond .ge 7, 3) := by decide +kernel
theorem dX5_finish_63 : decode cX5_finish 63 = .ok (.iconst 0, 1) := by decide +kernel
theorem dX5_finish_64 : decode cX5_finish 64 = .ok (.goto 4, 3) := by decide +kernel
theorem dX5_finish_67 : decode cX5_finish 67 = .ok (.iconst 1, 1) := by decide +kernel
theorem dX5_finish_68 : decode cX5_finish 68 = .ok (.isub, 1) := by decide +kernel
theorem dX5_finish_69 : decode cX5_finish 69 = .ok (.istore_n 2, 1) := by decide +kernel
theorem dX5_finish_70 : decode cX5_finish 70 = .ok (.goto (-49), 3) := by decide +kernel
theorem dX5_finish_73 : decode cX5_finish 73 = .ok (.aload_n 0, 1) := by decide +kernel
theorem dX5_finish_74 : decode cX5_finish 74 = .ok (.getfield 7, 3) := by decide +kernel
theorem dX5_finish_77 : decode cX5_finish 77 = .ok (.iconst 3, 1) := by decide +kernel
theorem dX5_finish_78 : decode cX5_finish 78 = .ok (.iaload, 1) := by decide +kernel
theorem dX5_finish_79 : decode cX5_finish 79 = .ok (.iload_n 1, 1) := by decide +kernel
theorem dX5_finish_80 : decode cX5_finish 80 = .ok (.isub, 1) := by decide +kernel
theorem dX5_finish_81 : decode cX5_finish 81 = .ok (.ireturn, 1) := by decide +kernel
theorem dX5_told_0 : decode cX5_told 0 = .ok (.iload_n 1, 1) := by decide +kernel
theorem dX5_told_1 : decode cX5_told 1 = .ok (.tableswitch 161 0 12 #[67, 74, 81, 88, 96, 103, 110, 117, 125, 130, 135, 140, 153], 67) := by decide +kernel
theorem dX5_told_68 : decode cX5_told 68 = .ok (.aload_n 0, 1) := by decide +kernel
theorem dX5_told_69 : decode cX5_told 69 = .ok (.getfield 7, 3) := by decide +kernel
theorem dX5_told_72 : decode cX5_told 72 = .ok (.iconst 0, 1) := by decide +kernel
theorem dX5_told_73 : decode cX5_told 73 = .ok (.iaload, 1) := by decide +kernel
theorem dX5_told_74 : decode cX5_told 74 = .ok (.ireturn, 1) := by decide +kernel
theorem dX5_told_75 : decode cX5_told 75 = .ok (.aload_n 0, 1) := by decide +kernel
theorem dX5_told_76 : decode cX5_told 76 = .ok (.getfield 7, 3) := by decide +kernel
theorem dX5_told_79 : decode cX5_told 79 = .ok (.iconst 1, 1) := by decide +kernel
theorem dX5_told_80 : decode cX5_told 80 = .ok (.iaload, 1) := by decide +kernel
theorem dX5_told_81 : decode cX5_told 81 = .ok (.ireturn, 1) := by decide +kernel
theorem dX5_told_82 : decode cX5_told 82 = .ok (.aload_n 0, 1) := by decide +kernel
theorem dX5_told_83 : decode cX5_told 83 = .ok (.getfield 7, 3) := by decide +kernel
theorem dX5_told_86 : decode cX5_told 86 = .ok (.iconst 2, 1) := by decide +kernel
theorem dX5_told_87 : decode cX5_told 87 = .ok (.iaload, 1) := by decide +kernel
theorem dX5_told_88 : decode cX5_told 88 = .ok (.ireturn, 1) := by decide +kernel
theorem dX5_told_89 : decode cX5_told 89 = .ok (.aload_n 0, 1) := by decide +kernel
theorem dX5_told_90 : decode cX5_told 90 = .ok (.getfield 7, 3) := by decide +kernel
theorem dX5_told_93 : decode cX5_told 93 = .ok (.bipush 9, 2) := by decide +kernel
theorem dX5_told_95 : decode cX5_told 95 = .ok (.iaload, 1) := by decide +kernel
theorem dX5_told_96 : decode cX5_told 96 = .ok (.ireturn, 1) := by decide +kernel
theorem dX5_told_97 : decode cX5_told 97 = .ok (.aload_n 0, 1) := by decide +kernel
theorem dX5_told_98 : decode cX5_told 98 = .ok (.getfield 7, 3) := by decide +kernel
theorem dX5_told_101 : decode cX5_told 101 = .ok (.iconst 3, 1) := by decide +kernel
theorem dX5_told_102 : decode cX5_told 102 = .ok (.iaload, 1) := by decide +kernel
theorem dX5_told_103 : decode cX5_told 103 = .ok (.ireturn, 1) := by decide +kernel
theorem dX5_told_104 : decode cX5_told 104 = .ok (.aload_n 0, 1) := by decide +kernel
theorem dX5_told_105 : decode cX5_told 105 = .ok (.getfield 7, 3) := by decide +kernel
theorem dX5_told_108 : decode cX5_told 108 = .ok (.iconst 4, 1) := by decide +kernel
theorem dX5_told_109 : decode cX5_told 109 = .ok (.iaload, 1) := by decide +kernel
theorem dX5_told_110 : decode cX5_told 110 = .ok (.ireturn, 1) := by decide +kernel
theorem dX5_told_111 : decode cX5_told 111 = .ok (.aload_n 0, 1) := by decide +kernel
theorem dX5_told_112 : decode cX5_told 112 = .ok (.getfield 7, 3) := by decide +kernel
theorem dX5_told_115 : decode cX5_told 115 = .ok (.iconst 5, 1) := by decide +kernel
theorem dX5_told_116 : decode cX5_told 116 = .ok (.iaload, 1) := by decide +kernel
theorem dX5_told_117 : decode cX5_told 117 = .ok (.ireturn, 1) := by decide +kernel
theorem dX5_told_118 : decode cX5_told 118 = .ok (.aload_n 0, 1) := by decide +kernel
theorem dX5_told_119 : decode cX5_told 119 = .ok (.getfield 7, 3) := by decide +kernel
theorem dX5_told_122 : decode cX5_told 122 = .ok (.bipush 6, 2) := by decide +kernel
theorem dX5_told_124 : decode cX5_told 124 = .ok (.iaload, 1) := by decide +kernel
theorem dX5_told_125 : decode cX5_told 125 = .ok (.ireturn, 1) := by decide +kernel
theorem dX5_told_126 : decode cX5_told 126 = .ok (.aload_n 0, 1) := by decide +kernel
theorem dX5_told_127 : decode cX5_told 127 = .ok (.invokevirtual 137, 3) := by decide +kernel
theorem dX5_told_130 : decode cX5_told 130 = .ok (.ireturn, 1) := by decide +kernel
theorem dX5_told_131 : decode cX5_told 131 = .ok (.aload_n 0, 1) := by decide +kernel
theorem dX5_told_132 : decode cX5_told 132 = .ok (.invokevirtual 118, 3) := by decide +kernel
theorem dX5_told_135 : decode cX5_told 135 = .ok (.ireturn, 1) := by decide +kernel
theorem dX5_told_136 : decode cX5_told 136 = .ok (.aload_n 0, 1) := by decide +kernel
theorem dX5_told_137 : decode cX5_told 137 = .ok (.getfield 30, 3) := by decide +kernel
theorem dX5_told_140 : decode cX5_told 140 = .ok (.ireturn, 1) := by decide +kernel
theorem dX5_told_141 : decode cX5_told 141 = .ok (.aload_n 0, 1) := by decide +kernel
theorem dX5_told_142 : decode cX5_told 142 = .ok (.invokevirtual 125, 3) := by decide +kernel
theorem dX5_told_145 : decode cX5_told 145 = .ok (.ifCond .eq 7, 3) := by decide +kernel
theorem dX5_told_148 : decode cX5_told 148 = .ok (.iconst 1, 1) := by decide +kernel
theorem dX5_told_149 : decode cX5_told 149 = .ok (.goto 4, 3) := by decide +kernel
theorem dX5_told_152 : decode cX5_told 152 = .ok (.iconst 0, 1) := by decide +kernel
theorem dX5_told_153 : decode cX5_told 153 = .ok (.ireturn, 1) := by decide +kernel
theorem dX5_told_154 : decode cX5_told 154 = .ok (.aload_n 0, 1) := by decide +kernel
theorem dX5_told_155 : decode cX5_told 155 = .ok (.getfield 7, 3) := by decide +kernel
theorem dX5_told_158 : decode cX5_told 158 = .ok (.bipush 7, 2) := by decide +kernel
theorem dX5_told_160 : decode cX5_told 160 = .ok (.iaload, 1) := by decide +kernel
theorem dX5_told_161 : decode cX5_told 161 = .ok (.ireturn, 1) := by decide +kernel
theorem dX5_told_162 : decode cX5_told 162 = .ok (.ldc 29, 2) := by decide +kernel
theorem dX5_told_164 : decode cX5_told 164 = .ok (.ireturn, 1) := by decide +kernel
theorem dX5_waitsBy_0 : decode cX5_waitsBy 0 = .ok (.aload_n 0, 1) := by decide +kernel
theorem dX5_waitsBy_1 : decode cX5_waitsBy 1 = .ok (.iconst 0, 1) := by decide +kernel
theorem dX5_waitsBy_2 : decode cX5_waitsBy 2 = .ok (.iload_n 1, 1) := by decide +kernel
theorem dX5_waitsBy_3 : decode cX5_waitsBy 3 = .ok (.invokevirtual 88, 3) := by decide +kernel
theorem dX5_waitsBy_6 : decode cX5_waitsBy 6 = .ok (.iconst (-1), 1) := by decide +kernel
theorem dX5_waitsBy_7 : decode cX5_waitsBy 7 = .ok (.if_icmp .eq 11, 3) := by decide +kernel
theorem dX5_waitsBy_10 : decode cX5_waitsBy 10 = .ok (.aload_n 0, 1) := by decide +kernel
theorem dX5_waitsBy_11 : decode cX5_waitsBy 11 = .ok (.iload_n 1, 1) := by decide +kernel
theorem dX5_waitsBy_12 : decode cX5_waitsBy 12 = .ok (.invokevirtual 108, 3) := by decide +kernel
theorem dX5_waitsBy_15 : decode cX5_waitsBy 15 = .ok (.ifCond .eq 7, 3) := by decide +kernel
theorem dX5_waitsBy_18 : decode cX5_waitsBy 18 = .ok (.iconst (-1), 1) := by decide +kernel
theorem dX5_waitsBy_19 : decode cX5_waitsBy 19 = .ok (.goto 8, 3) := by decide +kernel
theorem dX5_waitsBy_22 : decode cX5_waitsBy 22 = .ok (.aload_n 0, 1) := by decide +kernel
theorem dX5_waitsBy_23 : decode cX5_waitsBy 23 = .ok (.iload_n 1, 1) := by decide +kernel
theorem dX5_waitsBy_24 : decode cX5_waitsBy 24 = .ok (.invokevirtual 92, 3) := by decide +kernel
theorem dX5_waitsBy_27 : decode cX5_waitsBy 27 = .ok (.ireturn, 1) := by decide +kernel
theorem dX5_waysTo_0 : decode cX5_waysTo 0 = .ok (.iconst 0, 1) := by decide +kernel
theorem dX5_waysTo_1 : decode cX5_waysTo 1 = .ok (.istore_n 2, 1) := by decide +kernel
theorem dX5_waysTo_2 : decode cX5_waysTo 2 = .ok (.iconst 0, 1) := by decide +kernel
theorem dX5_waysTo_3 : decode cX5_waysTo 3 = .ok (.istore_n 3, 1) := by decide +kernel
theorem dX5_waysTo_4 : decode cX5_waysTo 4 = .ok (.iload_n 3, 1) := by decide +kernel
theorem dX5_waysTo_5 : decode cX5_waysTo 5 = .ok (.aload_n 0, 1) := by decide +kernel
theorem dX5_waysTo_6 : decode cX5_waysTo 6 = .ok (.getfield 7, 3) := by decide +kernel
theorem dX5_waysTo_9 : decode cX5_waysTo 9 = .ok (.iconst 1, 1) := by decide +kernel
theorem dX5_waysTo_10 : decode cX5_waysTo 10 = .ok (.iaload, 1) := by decide +kernel
theorem dX5_waysTo_11 : decode cX5_waysTo 11 = .ok (.if_icmp .ge 33, 3) := by decide +kernel
theorem dX5_waysTo_14 : decode cX5_waysTo 14 = .ok (.iload_n 2, 1) := by decide +kernel
theorem dX5_waysTo_15 : decode cX5_waysTo 15 = .ok (.aload_n 0, 1) := by decide +kernel
theorem dX5_waysTo_16 : decode cX5_waysTo 16 = .ok (.getfield 7, 3) := by decide +kernel
theorem dX5_waysTo_19 : decode cX5_waysTo 19 = .ok (.iconst 0, 1) := by decide +kernel
theorem dX5_waysTo_20 : decode cX5_waysTo 20 = .ok (.iload_n 3, 1) := by decide +kernel
theorem dX5_waysTo_21 : decode cX5_waysTo 21 = .ok (.invokestatic 34, 3) := by decide +kernel
theorem dX5_waysTo_24 : decode cX5_waysTo 24 = .ok (.iconst 1, 1) := by decide +kernel
theorem dX5_waysTo_25 : decode cX5_waysTo 25 = .ok (.iadd, 1) := by decide +kernel
theorem dX5_waysTo_26 : decode cX5_waysTo 26 = .ok (.iaload, 1) := by decide +kernel
theorem dX5_waysTo_27 : decode cX5_waysTo 27 = .ok (.iload_n 1, 1) := by decide +kernel
theorem dX5_waysTo_28 : decode cX5_waysTo 28 = .ok (.if_icmp .ne 7, 3) := by decide +kernel
theorem dX5_waysTo_31 : decode cX5_waysTo 31 = .ok (.iconst 1, 1) := by decide +kernel
theorem dX5_waysTo_32 : decode cX5_waysTo 32 = .ok (.goto 4, 3) := by decide +kernel
theorem dX5_waysTo_35 : decode cX5_waysTo 35 = .ok (.iconst 0, 1) := by decide +kernel
theorem dX5_waysTo_36 : decode cX5_waysTo 36 = .ok (.iadd, 1) := by decide +kernel
theorem dX5_waysTo_37 : decode cX5_waysTo 37 = .ok (.istore_n 2, 1) := by decide +kernel
theorem dX5_waysTo_38 : decode cX5_waysTo 38 = .ok (.iinc 3 1, 3) := by decide +kernel
theorem dX5_waysTo_41 : decode cX5_waysTo 41 = .ok (.goto (-37), 3) := by decide +kernel
theorem dX5_waysTo_44 : decode cX5_waysTo 44 = .ok (.iload_n 2, 1) := by decide +kernel
theorem dX5_waysTo_45 : decode cX5_waysTo 45 = .ok (.ireturn, 1) := by decide +kernel
theorem dX5_firstValue_0 : decode cX5_firstValue 0 = .ok (.aload_n 0, 1) := by decide +kernel
theorem dX5_firstValue_1 : decode cX5_firstValue 1 = .ok (.iconst 0, 1) := by decide +kernel
theorem dX5_firstValue_2 : decode cX5_firstValue 2 = .ok (.iload_n 1, 1) := by decide +kernel
theorem dX5_firstValue_3 : decode cX5_firstValue 3 = .ok (.invokevirtual 88, 3) := by decide +kernel
theorem dX5_firstValue_6 : decode cX5_firstValue 6 = .ok (.istore_n 2, 1) := by decide +kernel
theorem dX5_firstValue_7 : decode cX5_firstValue 7 = .ok (.iload_n 2, 1) := by decide +kernel
theorem dX5_firstValue_8 : decode cX5_firstValue 8 = .ok (.iconst (-1), 1) := by decide +kernel
theorem dX5_firstValue_9 : decode cX5_firstValue 9 = .ok (.if_icmp .ne 7, 3) := by decide +kernel
theorem dX5_firstValue_12 : decode cX5_firstValue 12 = .ok (.iconst (-1), 1) := by decide +kernel
theorem dX5_firstValue_13 : decode cX5_firstValue 13 = .ok (.goto 11, 3) := by decide +kernel
theorem dX5_firstValue_16 : decode cX5_firstValue 16 = .ok (.aload_n 0, 1) := by decide +kernel
theorem dX5_firstValue_17 : decode cX5_firstValue 17 = .ok (.getfield 7, 3) := by decide +kernel
theorem dX5_firstValue_20 : decode cX5_firstValue 20 = .ok (.iload_n 2, 1) := by decide +kernel
theorem dX5_firstValue_21 : decode cX5_firstValue 21 = .ok (.iconst 3, 1) := by decide +kernel
theorem dX5_firstValue_22 : decode cX5_firstValue 22 = .ok (.iadd, 1) := by decide +kernel
theorem dX5_firstValue_23 : decode cX5_firstValue 23 = .ok (.iaload, 1) := by decide +kernel
theorem dX5_firstValue_24 : decode cX5_firstValue 24 = .ok (.ireturn, 1) := by decide +kernel
theorem dX5_part_0 : decode cX5_part 0 = .ok (.aload_n 0, 1) := by decide +kernel
theorem dX5_part_1 : decode cX5_part 1 = .ok (.iload_n 1, 1) := by decide +kernel
theorem dX5_part_2 : decode cX5_part 2 = .ok (.invokevirtual 38, 3) := by decide +kernel
theorem dX5_part_5 : decode cX5_part 5 = .ok (.ifCond .ne 6, 3) := by decide +kernel
theorem dX5_part_8 : decode cX5_part 8 = .ok (.ldc 42, 2) := by decide +kernel
theorem dX5_part_10 : decode cX5_part 10 = .ok (.ireturn, 1) := by decide +kernel
theorem dX5_part_11 : decode cX5_part 11 = .ok (.iload_n 2, 1) := by decide +kernel
theorem dX5_part_12 : decode cX5_part 12 = .ok (.tableswitch 149 0 10 #[60, 70, 80, 90, 96, 103, 110, 116, 130, 136, 143], 60) := by decide +kernel
theorem dX5_part_72 : decode cX5_part 72 = .ok (.aload_n 0, 1) := by decide +kernel
theorem dX5_part_73 : decode cX5_part 73 = .ok (.getfield 7, 3) := by decide +kernel
theorem dX5_part_76 : decode cX5_part 76 = .ok (.bipush 10, 2) := by decide +kernel
theorem dX5_part_78 : decode cX5_part 78 = .ok (.iload_n 1, 1) := by decide +kernel
theorem dX5_part_79 : decode cX5_part 79 = .ok (.iadd, 1) := by decide +kernel
theorem dX5_part_80 : decode cX5_part 80 = .ok (.iaload, 1) := by decide +kernel
theorem dX5_part_81 : decode cX5_part 81 = .ok (.ireturn, 1) := by decide +kernel
theorem dX5_part_82 : decode cX5_part 82 = .ok (.aload_n 0, 1) := by decide +kernel
theorem dX5_part_83 : decode cX5_part 83 = .ok (.getfield 7, 3) := by decide +kernel
theorem dX5_part_86 : decode cX5_part 86 = .ok (.bipush 16, 2) := by decide +kernel
theorem dX5_part_88 : decode cX5_part 88 = .ok (.iload_n 1, 1) := by decide +kernel
theorem dX5_part_89 : decode cX5_part 89 = .ok (.iadd, 1) := by decide +kernel
theorem dX5_part_90 : decode cX5_part 90 = .ok (.iaload, 1) := by decide +kernel
theorem dX5_part_91 : decode cX5_part 91 = .ok (.ireturn, 1) := by decide +kernel
theorem dX5_part_92 : decode cX5_part 92 = .ok (.aload_n 0, 1) := by decide +kernel
theorem dX5_part_93 : decode cX5_part 93 = .ok (.getfield 7, 3) := by decide +kernel
theorem dX5_part_96 : decode cX5_part 96 = .ok (.bipush 22, 2) := by decide +kernel
theorem dX5_part_98 : decode cX5_part 98 = .ok (.iload_n 1, 1) := by decide +kernel
theorem dX5_part_99 : decode cX5_part 99 = .ok (.iadd, 1) := by decide +kernel
theorem dX5_part_100 : decode cX5_part 100 = .ok (.iaload, 1) := by decide +kernel
theorem dX5_part_101 : decode cX5_part 101 = .ok (.ireturn, 1) := by decide +kernel
theorem dX5_part_102 : decode cX5_part 102 = .ok (.aload_n 0, 1) := by decide +kernel
theorem dX5_part_103 : decode cX5_part 103 = .ok (.iload_n 1, 1) := by decide +kernel
theorem dX5_part_104 : decode cX5_part 104 = .ok (.invokevirtual 98, 3) := by decide +kernel
theorem dX5_part_107 : decode cX5_part 107 = .ok (.ireturn, 1) := by decide +kernel
theorem dX5_part_108 : decode cX5_part 108 = .ok (.aload_n 0, 1) := by decide +kernel
theorem dX5_part_109 : decode cX5_part 109 = .ok (.iconst 0, 1) := by decide +kernel
theorem dX5_part_110 : decode cX5_part 110 = .ok (.iload_n 1, 1) := by decide +kernel
theorem dX5_part_111 : decode cX5_part 111 = .ok (.invokevirtual 60, 3) := by decide +kernel
theorem dX5_part_114 : decode cX5_part 114 = .ok (.ireturn, 1) := by decide +kernel
theorem dX5_part_115 : decode cX5_part 115 = .ok (.aload_n 0, 1) := by decide +kernel
theorem dX5_part_116 : decode cX5_part 116 = .ok (.iconst 0, 1) := by decide +kernel
theorem dX5_part_117 : decode cX5_part 117 = .ok (.iload_n 1, 1) := by decide +kernel
theorem dX5_part_118 : decode cX5_part 118 = .ok (.invokevirtual 95, 3) := by decide +kernel
theorem dX5_part_121 : decode cX5_part 121 = .ok (.ireturn, 1) := by decide +kernel
theorem dX5_part_122 : decode cX5_part 122 = .ok (.aload_n 0, 1) := by decide +kernel
theorem dX5_part_123 : decode cX5_part 123 = .ok (.iload_n 1, 1) := by decide +kernel
theorem dX5_part_124 : decode cX5_part 124 = .ok (.invokevirtual 143, 3) := by decide +kernel
theorem dX5_part_127 : decode cX5_part 127 = .ok (.ireturn, 1) := by decide +kernel
theorem dX5_part_128 : decode cX5_part 128 = .ok (.aload_n 0, 1) := by decide +kernel
theorem dX5_part_129 : decode cX5_part 129 = .ok (.iload_n 1, 1) := by decide +kernel
theorem dX5_part_130 : decode cX5_part 130 = .ok (.invokevirtual 108, 3) := by decide +kernel
theorem dX5_part_133 : decode cX5_part 133 = .ok (.ifCond .eq 7, 3) := by decide +kernel
theorem dX5_part_136 : decode cX5_part 136 = .ok (.iconst 1, 1) := by decide +kernel
theorem dX5_part_137 : decode cX5_part 137 = .ok (.goto 4, 3) := by decide +kernel
theorem dX5_part_140 : decode cX5_part 140 = .ok (.iconst 0, 1) := by decide +kernel
theorem dX5_part_141 : decode cX5_part 141 = .ok (.ireturn, 1) := by decide +kernel
theorem dX5_part_142 : decode cX5_part 142 = .ok (.aload_n 0, 1) := by decide +kernel
theorem dX5_part_143 : decode cX5_part 143 = .ok (.iload_n 1, 1) := by decide +kernel
theorem dX5_part_144 : decode cX5_part 144 = .ok (.invokevirtual 146, 3) := by decide +kernel
theorem dX5_part_147 : decode cX5_part 147 = .ok (.ireturn, 1) := by decide +kernel
theorem dX5_part_148 : decode cX5_part 148 = .ok (.aload_n 0, 1) := by decide +kernel
theorem dX5_part_149 : decode cX5_part 149 = .ok (.iconst 0, 1) := by decide +kernel
theorem dX5_part_150 : decode cX5_part 150 = .ok (.iload_n 1, 1) := by decide +kernel
theorem dX5_part_151 : decode cX5_part 151 = .ok (.invokevirtual 102, 3) := by decide +kernel
theorem dX5_part_154 : decode cX5_part 154 = .ok (.ireturn, 1) := by decide +kernel
theorem dX5_part_155 : decode cX5_part 155 = .ok (.aload_n 0, 1) := by decide +kernel
theorem dX5_part_156 : decode cX5_part 156 = .ok (.iload_n 1, 1) := by decide +kernel
theorem dX5_part_157 : decode cX5_part 157 = .ok (.invokevirtual 149, 3) := by decide +kernel
theorem dX5_part_160 : decode cX5_part 160 = .ok (.ireturn, 1) := by decide +kernel
theorem dX5_part_161 : decode cX5_part 161 = .ok (.ldc 29, 2) := by decide +kernel
theorem dX5_part_163 : decode cX5_part 163 = .ok (.ireturn, 1) := by decide +kernel
theorem dX5_channelOf_0 : decode cX5_channelOf 0 = .ok (.aload_n 0, 1) := by decide +kernel
theorem dX5_channelOf_1 : decode cX5_channelOf 1 = .ok (.iload_n 1, 1) := by decide +kernel
theorem dX5_channelOf_2 : decode cX5_channelOf 2 = .ok (.invokevirtual 152, 3) := by decide +kernel
theorem dX5_channelOf_5 : decode cX5_channelOf 5 = .ok (.ifCond .ne 6, 3) := by decide +kernel
theorem dX5_channelOf_8 : decode cX5_channelOf 8 = .ok (.ldc 42, 2) := by decide +kernel
theorem dX5_channelOf_10 : decode cX5_channelOf 10 = .ok (.ireturn, 1) := by decide +kernel
theorem dX5_channelOf_11 : decode cX5_channelOf 11 = .ok (.iload_n 2, 1) := by decide +kernel
theorem dX5_channelOf_12 : decode cX5_channelOf 12 = .ok (.i2l, 1) := by decide +kernel
theorem dX5_channelOf_13 : decode cX5_channelOf 13 = .ok (.lconst 0, 1) := by decide +kernel
theorem dX5_channelOf_14 : decode cX5_channelOf 14 = .ok (.ldc2_w 27, 3) := by decide +kernel
theorem dX5_channelOf_17 : decode cX5_channelOf 17 = .ok (.invokestatic 23, 3) := by decide +kernel
theorem dX5_channelOf_20 : decode cX5_channelOf 20 = .ok (.ifCond .eq 18, 3) := by decide +kernel
theorem dX5_channelOf_23 : decode cX5_channelOf 23 = .ok (.aload_n 0, 1) := by decide +kernel
theorem dX5_channelOf_24 : decode cX5_channelOf 24 = .ok (.getfield 7, 3) := by decide +kernel
theorem dX5_channelOf_27 : decode cX5_channelOf 27 = .ok (.iconst 0, 1) := by decide +kernel
theorem dX5_channelOf_28 : decode cX5_channelOf 28 = .ok (.iload_n 1, 1) := by decide +kernel
theorem dX5_channelOf_29 : decode cX5_channelOf 29 = .ok (.invokestatic 34, 3) := by decide +kernel
theorem dX5_channelOf_32 : decode cX5_channelOf 32 = .ok (.iload_n 2, 1) := by decide +kernel
theorem dX5_channelOf_33 : decode cX5_channelOf 33 = .ok (.iadd, 1) := by decide +kernel
theorem dX5_channelOf_34 : decode cX5_channelOf 34 = .ok (.iaload, 1) := by decide +kernel
theorem dX5_channelOf_35 : decode cX5_channelOf 35 = .ok (.goto 5, 3) := by decide +kernel
theorem dX5_channelOf_38 : decode cX5_channelOf 38 = .ok (.ldc 29, 2) := by decide +kernel
theorem dX5_channelOf_40 : decode cX5_channelOf 40 = .ok (.ireturn, 1) := by decide +kernel
theorem dX5_between_0 : decode cX5_between 0 = .ok (.aload_n 0, 1) := by decide +kernel
theorem dX5_between_1 : decode cX5_between 1 = .ok (.iload_n 1, 1) := by decide +kernel
theorem dX5_between_2 : decode cX5_between 2 = .ok (.invokevirtual 38, 3) := by decide +kernel
theorem dX5_between_5 : decode cX5_between 5 = .ok (.ifCond .eq 25, 3) := by decide +kernel
theorem dX5_between_8 : decode cX5_between 8 = .ok (.aload_n 0, 1) := by decide +kernel
theorem dX5_between_9 : decode cX5_between 9 = .ok (.iload_n 2, 1) := by decide +kernel
theorem dX5_between_10 : decode cX5_between 10 = .ok (.invokevirtual 38, 3) := by decide +kernel
theorem dX5_between_13 : decode cX5_between 13 = .ok (.ifCond .eq 17, 3) := by decide +kernel
theorem dX5_between_16 : decode cX5_between 16 = .ok (.iload_n 1, 1) := by decide +kernel
theorem dX5_between_17 : decode cX5_between 17 = .ok (.iload_n 2, 1) := by decide +kernel
theorem dX5_between_18 : decode cX5_between 18 = .ok (.if_icmp .eq 12, 3) := by decide +kernel
theorem dX5_between_21 : decode cX5_between 21 = .ok (.aload_n 0, 1) := by decide +kernel
theorem dX5_between_22 : decode cX5_between 22 = .ok (.iload_n 1, 1) := by decide +kernel
theorem dX5_between_23 : decode cX5_between 23 = .ok (.iload_n 2, 1) := by decide +kernel
theorem dX5_between_24 : decode cX5_between 24 = .ok (.invokevirtual 45, 3) := by decide +kernel
theorem dX5_between_27 : decode cX5_between 27 = .ok (.goto 5, 3) := by decide +kernel
theorem dX5_between_30 : decode cX5_between 30 = .ok (.ldc 42, 2) := by decide +kernel
theorem dX5_between_32 : decode cX5_between 32 = .ok (.ireturn, 1) := by decide +kernel
theorem dX5_record_0 : decode cX5_record 0 = .ok (.iload_n 2, 1) := by decide +kernel
theorem dX5_record_1 : decode cX5_record 1 = .ok (.i2l, 1) := by decide +kernel
theorem dX5_record_2 : decode cX5_record 2 = .ok (.lconst 0, 1) := by decide +kernel
theorem dX5_record_3 : decode cX5_record 3 = .ok (.ldc2_w 155, 3) := by decide +kernel
theorem dX5_record_6 : decode cX5_record 6 = .ok (.invokestatic 23, 3) := by decide +kernel
theorem dX5_record_9 : decode cX5_record 9 = .ok (.ifCond .eq 7, 3) := by decide +kernel
theorem dX5_record_12 : decode cX5_record 12 = .ok (.iload_n 1, 1) := by decide +kernel
theorem dX5_record_13 : decode cX5_record 13 = .ok (.ifCond .ge 6, 3) := by decide +kernel
theorem dX5_record_16 : decode cX5_record 16 = .ok (.ldc 29, 2) := by decide +kernel
theorem dX5_record_18 : decode cX5_record 18 = .ok (.ireturn, 1) := by decide +kernel
theorem dX5_record_19 : decode cX5_record 19 = .ok (.iload_n 1, 1) := by decide +kernel
theorem dX5_record_20 : decode cX5_record 20 = .ok (.aload_n 0, 1) := by decide +kernel
theorem dX5_record_21 : decode cX5_record 21 = .ok (.getfield 30, 3) := by decide +kernel
theorem dX5_record_24 : decode cX5_record 24 = .ok (.if_icmp .ge 16, 3) := by decide +kernel
theorem dX5_record_27 : decode cX5_record 27 = .ok (.aload_n 0, 1) := by decide +kernel
theorem dX5_record_28 : decode cX5_record 28 = .ok (.getfield 17, 3) := by decide +kernel
theorem dX5_record_31 : decode cX5_record 31 = .ok (.iconst 4, 1) := by decide +kernel
theorem dX5_record_32 : decode cX5_record 32 = .ok (.iload_n 1, 1) := by decide +kernel
theorem dX5_record_33 : decode cX5_record 33 = .ok (.imul, 1) := by decide +kernel
theorem dX5_record_34 : decode cX5_record 34 = .ok (.iload_n 2, 1) := by decide +kernel
theorem dX5_record_35 : decode cX5_record 35 = .ok (.iadd, 1) := by decide +kernel
theorem dX5_record_36 : decode cX5_record 36 = .ok (.iaload, 1) := by decide +kernel
theorem dX5_record_37 : decode cX5_record 37 = .ok (.goto 4, 3) := by decide +kernel
theorem dX5_record_40 : decode cX5_record 40 = .ok (.iconst (-1), 1) := by decide +kernel
theorem dX5_record_41 : decode cX5_record 41 = .ok (.ireturn, 1) := by decide +kernel
theorem dX5_ringOf_0 : decode cX5_ringOf 0 = .ok (.iconst 0, 1) := by decide +kernel
theorem dX5_ringOf_1 : decode cX5_ringOf 1 = .ok (.istore_n 2, 1) := by decide +kernel
theorem dX5_ringOf_2 : decode cX5_ringOf 2 = .ok (.iload_n 2, 1) := by decide +kernel
theorem dX5_ringOf_3 : decode cX5_ringOf 3 = .ok (.bipush 6, 2) := by decide +kernel
theorem dX5_ringOf_5 : decode cX5_ringOf 5 = .ok (.if_icmp .ge 26, 3) := by decide +kernel
theorem dX5_ringOf_8 : decode cX5_ringOf 8 = .ok (.aload_n 0, 1) := by decide +kernel
theorem dX5_ringOf_9 : decode cX5_ringOf 9 = .ok (.getfield 20, 3) := by decide +kernel
theorem dX5_ringOf_12 : decode cX5_ringOf 12 = .ok (.iload_n 2, 1) := by decide +kernel
theorem dX5_ringOf_13 : decode cX5_ringOf 13 = .ok (.iload_n 2, 1) := by decide +kernel
theorem dX5_ringOf_14 : decode cX5_ringOf 14 = .ok (.iload_n 1, 1) := by decide +kernel
theorem dX5_ringOf_15 : decode cX5_ringOf 15 = .ok (.if_icmp .ne 7, 3) := by decide +kernel
theorem dX5_ringOf_18 : decode cX5_ringOf 18 = .ok (.iconst 0, 1) := by decide +kernel
theorem dX5_ringOf_19 : decode cX5_ringOf 19 = .ok (.goto 5, 3) := by decide +kernel
theorem dX5_ringOf_22 : decode cX5_ringOf 22 = .ok (.ldc 91, 2) := by decide +kernel
theorem dX5_ringOf_24 : decode cX5_ringOf 24 = .ok (.iastore, 1) := by decide +kernel
theorem dX5_ringOf_25 : decode cX5_ringOf 25 = .ok (.iinc 2 1, 3) := by decide +kernel
theorem dX5_ringOf_28 : decode cX5_ringOf 28 = .ok (.goto (-26), 3) := by decide +kernel
theorem dX5_ringOf_31 : decode cX5_ringOf 31 = .ok (.iconst 0, 1) := by decide +kernel
theorem dX5_ringOf_32 : decode cX5_ringOf 32 = .ok (.istore_n 2, 1) := by decide +kernel
theorem dX5_ringOf_33 : decode cX5_ringOf 33 = .ok (.iload_n 2, 1) := by decide +kernel
theorem dX5_ringOf_34 : decode cX5_ringOf 34 = .ok (.bipush 6, 2) := by decide +kernel
theorem dX5_ringOf_36 : decode cX5_ringOf 36 = .ok (.if_icmp .ge 104, 3) := by decide +kernel
theorem dX5_ringOf_39 : decode cX5_ringOf 39 = .ok (.iconst 0, 1) := by decide +kernel
theorem dX5_ringOf_40 : decode cX5_ringOf 40 = .ok (.istore_n 3, 1) := by decide +kernel
theorem dX5_ringOf_41 : decode cX5_ringOf 41 = .ok (.iload_n 3, 1) := by decide +kernel
theorem dX5_ringOf_42 : decode cX5_ringOf 42 = .ok (.aload_n 0, 1) := by decide +kernel
theorem dX5_ringOf_43 : decode cX5_ringOf 43 = .ok (.getfield 7, 3) := by decide +kernel
theorem dX5_ringOf_46 : decode cX5_ringOf 46 = .ok (.iconst 1, 1) := by decide +kernel
theorem dX5_ringOf_47 : decode cX5_ringOf 47 = .ok (.iaload, 1) := by decide +kernel
theorem dX5_ringOf_48 : decode cX5_ringOf 48 = .ok (.if_icmp .ge 86, 3) := by decide +kernel
theorem dX5_ringOf_51 : decode cX5_ringOf 51 = .ok (.aload_n 0, 1) := by decide +kernel
theorem dX5_ringOf_52 : decode cX5_ringOf 52 = .ok (.getfield 20, 3) := by decide +kernel
theorem dX5_ringOf_55 : decode cX5_ringOf 55 = .ok (.aload_n 0, 1) := by decide +kernel
theorem dX5_ringOf_56 : decode cX5_ringOf 56 = .ok (.getfield 7, 3) := by decide +kernel
theorem dX5_ringOf_59 : decode cX5_ringOf 59 = .ok (.iconst 0, 1) := by decide +kernel
theorem dX5_ringOf_60 : decode cX5_ringOf 60 = .ok (.iload_n 3, 1) := by decide +kernel
theorem dX5_ringOf_61 : decode cX5_ringOf 61 = .ok (.invokestatic 34, 3) := by decide +kernel
theorem dX5_ringOf_64 : decode cX5_ringOf 64 = .ok (.iconst 0, 1) := by decide +kernel
theorem dX5_ringOf_65 : decode cX5_ringOf 65 = .ok (.iadd, 1) := by decide +kernel
theorem dX5_ringOf_66 : decode cX5_ringOf 66 = .ok (.iaload, 1) := by decide +kernel
theorem dX5_ringOf_67 : decode cX5_ringOf 67 = .ok (.iaload, 1) := by decide +kernel
theorem dX5_ringOf_68 : decode cX5_ringOf 68 = .ok (.aload_n 0, 1) := by decide +kernel
theorem dX5_ringOf_69 : decode cX5_ringOf 69 = .ok (.getfield 7, 3) := by decide +kernel
theorem dX5_ringOf_72 : decode cX5_ringOf 72 = .ok (.iconst 0, 1) := by decide +kernel
theorem dX5_ringOf_73 : decode cX5_ringOf 73 = .ok (.iload_n 3, 1) := by decide +kernel
theorem dX5_ringOf_74 : decode cX5_ringOf 74 = .ok (.invokestatic 34, 3) := by decide +kernel
theorem dX5_ringOf_77 : decode cX5_ringOf 77 = .ok (.iconst 2, 1) := by decide +kernel
theorem dX5_ringOf_78 : decode cX5_ringOf 78 = .ok (.iadd, 1) := by decide +kernel
theorem dX5_ringOf_79 : decode cX5_ringOf 79 = .ok (.iaload, 1) := by decide +kernel
theorem dX5_ringOf_80 : decode cX5_ringOf 80 = .ok (.iadd, 1) := by decide +kernel
theorem dX5_ringOf_81 : decode cX5_ringOf 81 = .ok (.istore 4, 2) := by decide +kernel
theorem dX5_ringOf_83 : decode cX5_ringOf 83 = .ok (.aload_n 0, 1) := by decide +kernel
theorem dX5_ringOf_84 : decode cX5_ringOf 84 = .ok (.getfield 7, 3) := by decide +kernel
theorem dX5_ringOf_87 : decode cX5_ringOf 87 = .ok (.iconst 0, 1) := by decide +kernel
theorem dX5_ringOf_88 : decode cX5_ringOf 88 = .ok (.iload_n 3, 1) := by decide +kernel
theorem dX5_ringOf_89 : decode cX5_ringOf 89 = .ok (.invokestatic 34, 3) := by decide +kernel
theorem dX5_ringOf_92 : decode cX5_ringOf 92 = .ok (.iconst 1, 1) := by decide +kernel
theorem dX5_ringOf_93 : decode cX5_ringOf 93 = .ok (.iadd, 1) := by decide +kernel
theorem dX5_ringOf_94 : decode cX5_ringOf 94 = .ok (.iaload, 1) := by decide +kernel
theorem dX5_ringOf_95 : decode cX5_ringOf 95 = .ok (.istore 5, 2) := by decide +kernel
theorem dX5_ringOf_97 : decode cX5_ringOf 97 = .ok (.aload_n 0, 1) := by decide +kernel
theorem dX5_ringOf_98 : decode cX5_ringOf 98 = .ok (.getfield 20, 3) := by decide +kernel
theorem dX5_ringOf_101 : decode cX5_ringOf 101 = .ok (.iload 5, 2) := by decide +kernel
theorem dX5_ringOf_103 : decode cX5_ringOf 103 = .ok (.iload 4, 2) := by decide +kernel
theorem dX5_ringOf_105 : decode cX5_ringOf 105 = .ok (.aload_n 0, 1) := by decide +kernel
theorem dX5_ringOf_106 : decode cX5_ringOf 106 = .ok (.getfield 20, 3) := by decide +kernel
theorem dX5_ringOf_109 : decode cX5_ringOf 109 = .ok (.iload 5, 2) := by decide +kernel
theorem dX5_ringOf_111 : decode cX5_ringOf 111 = .ok (.iaload, 1) := by decide +kernel
theorem dX5_ringOf_112 : decode cX5_ringOf 112 = .ok (.if_icmp .ge 8, 3) := by decide +kernel
theorem dX5_ringOf_115 : decode cX5_ringOf 115 = .ok (.iload 4, 2) := by decide +kernel
theorem dX5_ringOf_117 : decode cX5_ringOf 117 = .ok (.goto 10, 3) := by decide +kernel
theorem dX5_ringOf_120 : decode cX5_ringOf 120 = .ok (.aload_n 0, 1) := by decide +kernel
theorem dX5_ringOf_121 : decode cX5_ringOf 121 = .ok (.getfield 20, 3) := by decide +kernel
theorem dX5_ringOf_124 : decode cX5_ringOf 124 = .ok (.iload 5, 2) := by decide +kernel
theorem dX5_ringOf_126 : decode cX5_ringOf 126 = .ok (.iaload, 1) := by decide +kernel
theorem dX5_ringOf_127 : decode cX5_ringOf 127 = .ok (.iastore, 1) := by decide +kernel
theorem dX5_ringOf_128 : decode cX5_ringOf 128 = .ok (.iinc 3 1, 3) := by decide +kernel
theorem dX5_ringOf_131 : decode cX5_ringOf 131 = .ok (.goto (-90), 3) := by decide +kernel
theorem dX5_ringOf_134 : decode cX5_ringOf 134 = .ok (.iinc 2 1, 3) := by decide +kernel
theorem dX5_ringOf_137 : decode cX5_ringOf 137 = .ok (.goto (-104), 3) := by decide +kernel
theorem dX5_ringOf_140 : decode cX5_ringOf 140 = .ok (.iconst (-1), 1) := by decide +kernel
theorem dX5_ringOf_141 : decode cX5_ringOf 141 = .ok (.istore_n 2, 1) := by decide +kernel
theorem dX5_ringOf_142 : decode cX5_ringOf 142 = .ok (.iconst 0, 1) := by decide +kernel
theorem dX5_ringOf_143 : decode cX5_ringOf 143 = .ok (.istore_n 3, 1) := by decide +kernel
theorem dX5_ringOf_144 : decode cX5_ringOf 144 = .ok (.iload_n 3, 1) := by decide +kernel
theorem dX5_ringOf_145 : decode cX5_ringOf 145 = .ok (.aload_n 0, 1) := by decide +kernel
theorem dX5_ringOf_146 : decode cX5_ringOf 146 = .ok (.getfield 7, 3) := by decide +kernel
theorem dX5_ringOf_149 : decode cX5_ringOf 149 = .ok (.iconst 1, 1) := by decide +kernel
theorem dX5_ringOf_150 : decode cX5_ringOf 150 = .ok (.iaload, 1) := by decide +kernel
theorem dX5_ringOf_151 : decode cX5_ringOf 151 = .ok (.if_icmp .ge 86, 3) := by decide +kernel
theorem dX5_ringOf_154 : decode cX5_ringOf 154 = .ok (.aload_n 0, 1) := by decide +kernel
theorem dX5_ringOf_155 : decode cX5_ringOf 155 = .ok (.getfield 20, 3) := by decide +kernel
theorem dX5_ringOf_158 : decode cX5_ringOf 158 = .ok (.aload_n 0, 1) := by decide +kernel
theorem dX5_ringOf_159 : decode cX5_ringOf 159 = .ok (.getfield 7, 3) := by decide +kernel
theorem dX5_ringOf_162 : decode cX5_ringOf 162 = .ok (.iconst 0, 1) := by decide +kernel
theorem dX5_ringOf_163 : decode cX5_ringOf 163 = .ok (.iload_n 3, 1) := by decide +kernel
theorem dX5_ringOf_164 : decode cX5_ringOf 164 = .ok (.invokestatic 34, 3) := by decide +kernel
theorem dX5_ringOf_167 : decode cX5_ringOf 167 = .ok (.iconst 0, 1) := by decide +kernel
theorem dX5_ringOf_168 : decode cX5_ringOf 168 = .ok (.iadd, 1) := by decide +kernel
theorem dX5_ringOf_169 : decode cX5_ringOf 169 = .ok (.iaload, 1) := by decide +kernel
theorem dX5_ringOf_170 : decode cX5_ringOf 170 = .ok (.iaload, 1) := by decide +kernel
theorem dX5_ringOf_171 : decode cX5_ringOf 171 = .ok (.istore 4, 2) := by decide +kernel
theorem dX5_ringOf_173 : decode cX5_ringOf 173 = .ok (.aload_n 0, 1) := by decide +kernel
theorem dX5_ringOf_174 : decode cX5_ringOf 174 = .ok (.getfield 7, 3) := by decide +kernel
theorem dX5_ringOf_177 : decode cX5_ringOf 177 = .ok (.iconst 0, 1) := by decide +kernel
theorem dX5_ringOf_178 : decode cX5_ringOf 178 = .ok (.iload_n 3, 1) := by decide +kernel
theorem dX5_ringOf_179 : decode cX5_ringOf 179 = .ok (.invokestatic 34, 3) := by decide +kernel
theorem dX5_ringOf_182 : decode cX5_ringOf 182 = .ok (.iconst 1, 1) := by decide +kernel
theorem dX5_ringOf_183 : decode cX5_ringOf 183 = .ok (.iadd, 1) := by decide +kernel
theorem dX5_ringOf_184 : decode cX5_ringOf 184 = .ok (.iaload, 1) := by decide +kernel
theorem dX5_ringOf_185 : decode cX5_ringOf 185 = .ok (.iload_n 1, 1) := by decide +kernel
theorem dX5_ringOf_186 : decode cX5_ringOf 186 = .ok (.if_icmp .ne 45, 3) := by decide +kernel
theorem dX5_ringOf_189 : decode cX5_ringOf 189 = .ok (.iload 4, 2) := by decide +kernel
theorem dX5_ringOf_191 : decode cX5_ringOf 191 = .ok (.ldc 91, 2) := by decide +kernel
theorem dX5_ringOf_193 : decode cX5_ringOf 193 = .ok (.if_icmp .ge 38, 3) := by decide +kernel
theorem dX5_ringOf_196 : decode cX5_ringOf 196 = .ok (.iload 4, 2) := by decide +kernel
theorem dX5_ringOf_198 : decode cX5_ringOf 198 = .ok (.aload_n 0, 1) := by decide +kernel
theorem dX5_ringOf_199 : decode cX5_ringOf 199 = .ok (.getfield 7, 3) := by decide +kernel
theorem dX5_ringOf_202 : decode cX5_ringOf 202 = .ok (.iconst 0, 1) := by decide +kernel
theorem dX5_ringOf_203 : decode cX5_ringOf 203 = .ok (.iload_n 3, 1) := by decide +kernel
theorem dX5_ringOf_204 : decode cX5_ringOf 204 = .ok (.invokestatic 34, 3) := by decide +kernel
theorem dX5_ringOf_207 : decode cX5_ringOf 207 = .ok (.iconst 2, 1) := by decide +kernel
theorem dX5_ringOf_208 : decode cX5_ringOf 208 = .ok (.iadd, 1) := by decide +kernel
theorem dX5_ringOf_209 : decode cX5_ringOf 209 = .ok (.iaload, 1) := by decide +kernel
theorem dX5_ringOf_210 : decode cX5_ringOf 210 = .ok (.iadd, 1) := by decide +kernel
theorem dX5_ringOf_211 : decode cX5_ringOf 211 = .ok (.istore 5, 2) := by decide +kernel
theorem dX5_ringOf_213 : decode cX5_ringOf 213 = .ok (.iload_n 2, 1) := by decide +kernel
theorem dX5_ringOf_214 : decode cX5_ringOf 214 = .ok (.iconst (-1), 1) := by decide +kernel
theorem dX5_ringOf_215 : decode cX5_ringOf 215 = .ok (.if_icmp .eq 9, 3) := by decide +kernel
theorem dX5_ringOf_218 : decode cX5_ringOf 218 = .ok (.iload 5, 2) := by decide +kernel
theorem dX5_ringOf_220 : decode cX5_ringOf 220 = .ok (.iload_n 2, 1) := by decide +kernel
theorem dX5_ringOf_221 : decode cX5_ringOf 221 = .ok (.if_icmp .ge 8, 3) := by decide +kernel
theorem dX5_ringOf_224 : decode cX5_ringOf 224 = .ok (.iload 5, 2) := by decide +kernel
theorem dX5_ringOf_226 : decode cX5_ringOf 226 = .ok (.goto 4, 3) := by decide +kernel
theorem dX5_ringOf_229 : decode cX5_ringOf 229 = .ok (.iload_n 2, 1) := by decide +kernel
theorem dX5_ringOf_230 : decode cX5_ringOf 230 = .ok (.istore_n 2, 1) := by decide +kernel
theorem dX5_ringOf_231 : decode cX5_ringOf 231 = .ok (.iinc 3 1, 3) := by decide +kernel
theorem dX5_ringOf_234 : decode cX5_ringOf 234 = .ok (.goto (-90), 3) := by decide +kernel
theorem dX5_ringOf_237 : decode cX5_ringOf 237 = .ok (.iload_n 2, 1) := by decide +kernel
theorem dX5_ringOf_238 : decode cX5_ringOf 238 = .ok (.ireturn, 1) := by decide +kernel
theorem dX5_ring_0 : decode cX5_ring 0 = .ok (.aload_n 0, 1) := by decide +kernel
theorem dX5_ring_1 : decode cX5_ring 1 = .ok (.iload_n 1, 1) := by decide +kernel
theorem dX5_ring_2 : decode cX5_ring 2 = .ok (.invokevirtual 38, 3) := by decide +kernel
theorem dX5_ring_5 : decode cX5_ring 5 = .ok (.ifCond .eq 11, 3) := by decide +kernel
theorem dX5_ring_8 : decode cX5_ring 8 = .ok (.aload_n 0, 1) := by decide +kernel
theorem dX5_ring_9 : decode cX5_ring 9 = .ok (.iload_n 1, 1) := by decide +kernel
theorem dX5_ring_10 : decode cX5_ring 10 = .ok (.invokevirtual 122, 3) := by decide +kernel
theorem dX5_ring_13 : decode cX5_ring 13 = .ok (.goto 5, 3) := by decide +kernel
theorem dX5_ring_16 : decode cX5_ring 16 = .ok (.ldc 42, 2) := by decide +kernel
theorem dX5_ring_18 : decode cX5_ring 18 = .ok (.ireturn, 1) := by decide +kernel
theorem dX5_waits_0 : decode cX5_waits 0 = .ok (.aload_n 0, 1) := by decide +kernel
theorem dX5_waits_1 : decode cX5_waits 1 = .ok (.iload_n 1, 1) := by decide +kernel
theorem dX5_waits_2 : decode cX5_waits 2 = .ok (.invokevirtual 38, 3) := by decide +kernel
theorem dX5_waits_5 : decode cX5_waits 5 = .ok (.ifCond .ne 6, 3) := by decide +kernel
theorem dX5_waits_8 : decode cX5_waits 8 = .ok (.ldc 42, 2) := by decide +kernel
theorem dX5_waits_10 : decode cX5_waits 10 = .ok (.ireturn, 1) := by decide +kernel
theorem dX5_waits_11 : decode cX5_waits 11 = .ok (.iconst 0, 1) := by decide +kernel
theorem dX5_waits_12 : decode cX5_waits 12 = .ok (.istore_n 2, 1) := by decide +kernel
theorem dX5_waits_13 : decode cX5_waits 13 = .ok (.iload_n 1, 1) := by decide +kernel
theorem dX5_waits_14 : decode cX5_waits 14 = .ok (.istore_n 3, 1) := by decide +kernel
theorem dX5_waits_15 : decode cX5_waits 15 = .ok (.iconst 1, 1) := by decide +kernel
theorem dX5_waits_16 : decode cX5_waits 16 = .ok (.istore 4, 2) := by decide +kernel
theorem dX5_waits_18 : decode cX5_waits 18 = .ok (.iload 4, 2) := by decide +kernel
theorem dX5_waits_20 : decode cX5_waits 20 = .ok (.ifCond .eq 72, 3) := by decide +kernel
theorem dX5_waits_23 : decode cX5_waits 23 = .ok (.aload_n 0, 1) := by decide +kernel
theorem dX5_waits_24 : decode cX5_waits 24 = .ok (.iload_n 3, 1) := by decide +kernel
theorem dX5_waits_25 : decode cX5_waits 25 = .ok (.invokevirtual 146, 3) := by decide +kernel
theorem dX5_waits_28 : decode cX5_waits 28 = .ok (.istore 5, 2) := by decide +kernel
theorem dX5_waits_30 : decode cX5_waits 30 = .ok (.iload 5, 2) := by decide +kernel
theorem dX5_waits_32 : decode cX5_waits 32 = .ok (.iconst (-1), 1) := by decide +kernel
theorem dX5_waits_33 : decode cX5_waits 33 = .ok (.if_icmp .ne 7, 3) := by decide +kernel
theorem dX5_waits_36 : decode cX5_waits 36 = .ok (.iconst (-1), 1) := by decide +kernel
theorem dX5_waits_37 : decode cX5_waits 37 = .ok (.goto 16, 3) := by decide +kernel
theorem dX5_waits_40 : decode cX5_waits 40 = .ok (.aload_n 0, 1) := by decide +kernel
theorem dX5_waits_41 : decode cX5_waits 41 = .ok (.getfield 7, 3) := by decide +kernel
theorem dX5_waits_44 : decode cX5_waits 44 = .ok (.iconst 0, 1) := by decide +kernel
theorem dX5_waits_45 : decode cX5_waits 45 = .ok (.iload 5, 2) := by decide +kernel
theorem dX5_waits_47 : decode cX5_waits 47 = .ok (.invokestatic 34, 3) := by decide +kernel
theorem dX5_waits_50 : decode cX5_waits 50 = .ok (.iconst 0, 1) := by decide +kernel
theorem dX5_waits_51 : decode cX5_waits 51 = .ok (.iadd, 1) := by decide +kernel
theorem dX5_waits_52 : decode cX5_waits 52 = .ok (.iaload, 1) := by decide +kernel
theorem dX5_waits_53 : decode cX5_waits 53 = .ok (.istore_n 3, 1) := by decide +kernel
theorem dX5_waits_54 : decode cX5_waits 54 = .ok (.iload_n 3, 1) := by decide +kernel
theorem dX5_waits_55 : decode cX5_waits 55 = .ok (.iconst (-1), 1) := by decide +kernel
theorem dX5_waits_56 : decode cX5_waits 56 = .ok (.if_icmp .eq 15, 3) := by decide +kernel
theorem dX5_waits_59 : decode cX5_waits 59 = .ok (.iload_n 2, 1) := by decide +kernel
theorem dX5_waits_60 : decode cX5_waits 60 = .ok (.iload_n 3, 1) := by decide +kernel
theorem dX5_waits_61 : decode cX5_waits 61 = .ok (.invokestatic 157, 3) := by decide +kernel
theorem dX5_waits_64 : decode cX5_waits 64 = .ok (.ifCond .ne 7, 3) := by decide +kernel
theorem dX5_waits_67 : decode cX5_waits 67 = .ok (.iconst 1, 1) := by decide +kernel
theorem dX5_waits_68 : decode cX5_waits 68 = .ok (.goto 4, 3) := by decide +kernel
theorem dX5_waits_71 : decode cX5_waits 71 = .ok (.iconst 0, 1) := by decide +kernel
theorem dX5_waits_72 : decode cX5_waits 72 = .ok (.istore 4, 2) := by decide +kernel
theorem dX5_waits_74 : decode cX5_waits 74 = .ok (.iload_n 2, 1) := by decide +kernel
theorem dX5_waits_75 : decode cX5_waits 75 = .ok (.iload 4, 2) := by decide +kernel
theorem dX5_waits_77 : decode cX5_waits 77 = .ok (.ifCond .eq 9, 3) := by decide +kernel
theorem dX5_waits_80 : decode cX5_waits 80 = .ok (.iconst 1, 1) := by decide +kernel
theorem dX5_waits_81 : decode cX5_waits 81 = .ok (.iload_n 3, 1) := by decide +kernel
theorem dX5_waits_82 : decode cX5_waits 82 = .ok (.ishl, 1) := by decide +kernel
theorem dX5_waits_83 : decode cX5_waits 83 = .ok (.goto 4, 3) := by decide +kernel
theorem dX5_waits_86 : decode cX5_waits 86 = .ok (.iconst 0, 1) := by decide +kernel
theorem dX5_waits_87 : decode cX5_waits 87 = .ok (.ior, 1) := by decide +kernel
theorem dX5_waits_88 : decode cX5_waits 88 = .ok (.istore_n 2, 1) := by decide +kernel
theorem dX5_waits_89 : decode cX5_waits 89 = .ok (.goto (-71), 3) := by decide +kernel
theorem dX5_waits_92 : decode cX5_waits 92 = .ok (.iload_n 2, 1) := by decide +kernel
theorem dX5_waits_93 : decode cX5_waits 93 = .ok (.ireturn, 1) := by decide +kernel
theorem dX5_inOrder_0 : decode cX5_inOrder 0 = .ok (.aload_n 0, 1) := by decide +kernel
theorem dX5_inOrder_1 : decode cX5_inOrder 1 = .ok (.iload_n 1, 1) := by decide +kernel
theorem dX5_inOrder_2 : decode cX5_inOrder 2 = .ok (.invokevirtual 38, 3) := by decide +kernel
theorem dX5_inOrder_5 : decode cX5_inOrder 5 = .ok (.ifCond .ne 6, 3) := by decide +kernel
theorem dX5_inOrder_8 : decode cX5_inOrder 8 = .ok (.ldc 42, 2) := by decide +kernel
theorem dX5_inOrder_10 : decode cX5_inOrder 10 = .ok (.ireturn, 1) := by decide +kernel
theorem dX5_inOrder_11 : decode cX5_inOrder 11 = .ok (.iload_n 2, 1) := by decide +kernel
theorem dX5_inOrder_12 : decode cX5_inOrder 12 = .ok (.i2l, 1) := by decide +kernel
theorem dX5_inOrder_13 : decode cX5_inOrder 13 = .ok (.lconst 0, 1) := by decide +kernel
theorem dX5_inOrder_14 : decode cX5_inOrder 14 = .ok (.lconst 1, 1) := by decide +kernel
theorem dX5_inOrder_15 : decode cX5_inOrder 15 = .ok (.invokestatic 23, 3) := by decide +kernel
theorem dX5_inOrder_18 : decode cX5_inOrder 18 = .ok (.ifCond .ne 6, 3) := by decide +kernel
theorem dX5_inOrder_21 : decode cX5_inOrder 21 = .ok (.ldc 29, 2) := by decide +kernel
theorem dX5_inOrder_23 : decode cX5_inOrder 23 = .ok (.ireturn, 1) := by decide +kernel
theorem dX5_inOrder_24 : decode cX5_inOrder 24 = .ok (.aload_n 0, 1) := by decide +kernel
theorem dX5_inOrder_25 : decode cX5_inOrder 25 = .ok (.iconst 0, 1) := by decide +kernel
theorem dX5_inOrder_26 : decode cX5_inOrder 26 = .ok (.sipush 262, 3) := by decide +kernel
theorem dX5_inOrder_29 : decode cX5_inOrder 29 = .ok (.invokevirtual 160, 3) := by decide +kernel
theorem dX5_inOrder_32 : decode cX5_inOrder 32 = .ok (.iconst 0, 1) := by decide +kernel
theorem dX5_inOrder_33 : decode cX5_inOrder 33 = .ok (.istore_n 3, 1) := by decide +kernel
theorem dX5_inOrder_34 : decode cX5_inOrder 34 = .ok (.iload_n 3, 1) := by decide +kernel
theorem dX5_inOrder_35 : decode cX5_inOrder 35 = .ok (.sipush 300, 3) := by decide +kernel
theorem dX5_inOrder_38 : decode cX5_inOrder 38 = .ok (.if_icmp .ge 102, 3) := by decide +kernel
theorem dX5_inOrder_41 : decode cX5_inOrder 41 = .ok (.aload_n 0, 1) := by decide +kernel
theorem dX5_inOrder_42 : decode cX5_inOrder 42 = .ok (.getfield 7, 3) := by decide +kernel
theorem dX5_inOrder_45 : decode cX5_inOrder 45 = .ok (.sipush 271, 3) := by decide +kernel
theorem dX5_inOrder_48 : decode cX5_inOrder 48 = .ok (.iaload, 1) := by decide +kernel
theorem dX5_inOrder_49 : decode cX5_inOrder 49 = .ok (.ifCond .le 91, 3) := by decide +kernel
theorem dX5_inOrder_52 : decode cX5_inOrder 52 = .ok (.iconst (-1), 1) := by decide +kernel
theorem dX5_inOrder_53 : decode cX5_inOrder 53 = .ok (.istore 4, 2) := by decide +kernel
theorem dX5_inOrder_55 : decode cX5_inOrder 55 = .ok (.ldc 91, 2) := by decide +kernel
theorem dX5_inOrder_57 : decode cX5_inOrder 57 = .ok (.istore 5, 2) := by decide +kernel
theorem dX5_inOrder_59 : decode cX5_inOrder 59 = .ok (.iconst 0, 1) := by decide +kernel
theorem dX5_inOrder_60 : decode cX5_inOrder 60 = .ok (.istore 6, 2) := by decide +kernel
theorem dX5_inOrder_62 : decode cX5_inOrder 62 = .ok (.iload 6, 2) := by decide +kernel
theorem dX5_inOrder_64 : decode cX5_inOrder 64 = .ok (.aload_n 0, 1) := by decide +kernel
theorem dX5_inOrder_65 : decode cX5_inOrder 65 = .ok (.getfield 7, 3) := by decide +kernel
theorem dX5_inOrder_68 : decode cX5_inOrder 68 = .ok (.iconst 0, 1) := by decide +kernel
theorem dX5_inOrder_69 : decode cX5_inOrder 69 = .ok (.iaload, 1) := by decide +kernel
theorem dX5_inOrder_70 : decode cX5_inOrder 70 = .ok (.if_icmp .ge 55, 3) := by decide +kernel
theorem dX5_inOrder_73 : decode cX5_inOrder 73 = .ok (.aload_n 0, 1) := by decide +kernel
theorem dX5_inOrder_74 : decode cX5_inOrder 74 = .ok (.sipush 262, 3) := by decide +kernel
theorem dX5_inOrder_77 : decode cX5_inOrder 77 = .ok (.iload 6, 2) := by decide +kernel
theorem dX5_inOrder_79 : decode cX5_inOrder 79 = .ok (.invokevirtual 88, 3) := by decide +kernel
theorem dX5_inOrder_82 : decode cX5_inOrder 82 = .ok (.istore 7, 2) := by decide +kernel
theorem dX5_inOrder_84 : decode cX5_inOrder 84 = .ok (.iload 7, 2) := by decide +kernel
theorem dX5_inOrder_86 : decode cX5_inOrder 86 = .ok (.iconst (-1), 1) := by decide +kernel
theorem dX5_inOrder_87 : decode cX5_inOrder 87 = .ok (.if_icmp .eq 32, 3) := by decide +kernel
theorem dX5_inOrder_90 : decode cX5_inOrder 90 = .ok (.aload_n 0, 1) := by decide +kernel
theorem dX5_inOrder_91 : decode cX5_inOrder 91 = .ok (.getfield 7, 3) := by decide +kernel
theorem dX5_inOrder_94 : decode cX5_inOrder 94 = .ok (.iload 7, 2) := by decide +kernel
theorem dX5_inOrder_96 : decode cX5_inOrder 96 = .ok (.iconst 1, 1) := by decide +kernel
theorem dX5_inOrder_97 : decode cX5_inOrder 97 = .ok (.iadd, 1) := by decide +kernel
theorem dX5_inOrder_98 : decode cX5_inOrder 98 = .ok (.iaload, 1) := by decide +kernel
theorem dX5_inOrder_99 : decode cX5_inOrder 99 = .ok (.iload 5, 2) := by decide +kernel
theorem dX5_inOrder_101 : decode cX5_inOrder 101 = .ok (.if_icmp .ge 18, 3) := by decide +kernel
theorem dX5_inOrder_104 : decode cX5_inOrder 104 = .ok (.iload 7, 2) := by decide +kernel
theorem dX5_inOrder_106 : decode cX5_inOrder 106 = .ok (.istore 4, 2) := by decide +kernel
theorem dX5_inOrder_108 : decode cX5_inOrder 108 = .ok (.aload_n 0, 1) := by decide +kernel
theorem dX5_inOrder_109 : decode cX5_inOrder 109 = .ok (.getfield 7, 3) := by decide +kernel
theorem dX5_inOrder_112 : decode cX5_inOrder 112 = .ok (.iload 7, 2) := by decide +kernel
theorem dX5_inOrder_114 : decode cX5_inOrder 114 = .ok (.iconst 1, 1) := by decide +kernel
theorem dX5_inOrder_115 : decode cX5_inOrder 115 = .ok (.iadd, 1) := by decide +kernel
theorem dX5_inOrder_116 : decode cX5_inOrder 116 = .ok (.iaload, 1) := by decide +kernel
theorem dX5_inOrder_117 : decode cX5_inOrder 117 = .ok (.istore 5, 2) := by decide +kernel
theorem dX5_inOrder_119 : decode cX5_inOrder 119 = .ok (.iinc 6 1, 3) := by decide +kernel
theorem dX5_inOrder_122 : decode cX5_inOrder 122 = .ok (.goto (-60), 3) := by decide +kernel
theorem dX5_inOrder_125 : decode cX5_inOrder 125 = .ok (.aload_n 0, 1) := by decide +kernel
theorem dX5_inOrder_126 : decode cX5_inOrder 126 = .ok (.sipush 262, 3) := by decide +kernel
theorem dX5_inOrder_129 : decode cX5_inOrder 129 = .ok (.iload 4, 2) := by decide +kernel
theorem dX5_inOrder_131 : decode cX5_inOrder 131 = .ok (.invokevirtual 111, 3) := by decide +kernel
theorem dX5_inOrder_134 : decode cX5_inOrder 134 = .ok (.iinc 3 1, 3) := by decide +kernel
theorem dX5_inOrder_137 : decode cX5_inOrder 137 = .ok (.goto (-103), 3) := by decide +kernel
theorem dX5_inOrder_140 : decode cX5_inOrder 140 = .ok (.aload_n 0, 1) := by decide +kernel
theorem dX5_inOrder_141 : decode cX5_inOrder 141 = .ok (.getfield 7, 3) := by decide +kernel
theorem dX5_inOrder_144 : decode cX5_inOrder 144 = .ok (.sipush 262, 3) := by decide +kernel
theorem dX5_inOrder_147 : decode cX5_inOrder 147 = .ok (.iload_n 2, 1) := by decide +kernel
theorem dX5_inOrder_148 : decode cX5_inOrder 148 = .ok (.ifCond .ne 8, 3) := by decide +kernel
theorem dX5_inOrder_151 : decode cX5_inOrder 151 = .ok (.bipush 10, 2) := by decide +kernel
theorem dX5_inOrder_153 : decode cX5_inOrder 153 = .ok (.goto 5, 3) := by decide +kernel
theorem dX5_inOrder_156 : decode cX5_inOrder 156 = .ok (.bipush 16, 2) := by decide +kernel
theorem dX5_inOrder_158 : decode cX5_inOrder 158 = .ok (.iadd, 1) := by decide +kernel
theorem dX5_inOrder_159 : decode cX5_inOrder 159 = .ok (.iload_n 1, 1) := by decide +kernel
theorem dX5_inOrder_160 : decode cX5_inOrder 160 = .ok (.iadd, 1) := by decide +kernel
theorem dX5_inOrder_161 : decode cX5_inOrder 161 = .ok (.iaload, 1) := by decide +kernel
theorem dX5_inOrder_162 : decode cX5_inOrder 162 = .ok (.ireturn, 1) := by decide +kernel
theorem dX5_keep_0 : decode cX5_keep 0 = .ok (.iload_n 1, 1) := by decide +kernel
theorem dX5_keep_1 : decode cX5_keep 1 = .ok (.i2l, 1) := by decide +kernel
theorem dX5_keep_2 : decode cX5_keep 2 = .ok (.lconst 0, 1) := by decide +kernel
theorem dX5_keep_3 : decode cX5_keep 3 = .ok (.lconst 1, 1) := by decide +kernel
theorem dX5_keep_4 : decode cX5_keep 4 = .ok (.invokestatic 23, 3) := by decide +kernel
theorem dX5_keep_7 : decode cX5_keep 7 = .ok (.ifCond .ne 6, 3) := by decide +kernel
theorem dX5_keep_10 : decode cX5_keep 10 = .ok (.ldc 42, 2) := by decide +kernel
theorem dX5_keep_12 : decode cX5_keep 12 = .ok (.ireturn, 1) := by decide +kernel
theorem dX5_keep_13 : decode cX5_keep 13 = .ok (.aload_n 0, 1) := by decide +kernel
theorem dX5_keep_14 : decode cX5_keep 14 = .ok (.iconst 0, 1) := by decide +kernel
theorem dX5_keep_15 : decode cX5_keep 15 = .ok (.sipush 524, 3) := by decide +kernel
theorem dX5_keep_18 : decode cX5_keep 18 = .ok (.sipush 262, 3) := by decide +kernel
theorem dX5_keep_21 : decode cX5_keep 21 = .ok (.iload_n 1, 1) := by decide +kernel
theorem dX5_keep_22 : decode cX5_keep 22 = .ok (.imul, 1) := by decide +kernel
theorem dX5_keep_23 : decode cX5_keep 23 = .ok (.iadd, 1) := by decide +kernel
theorem dX5_keep_24 : decode cX5_keep 24 = .ok (.invokevirtual 160, 3) := by decide +kernel
theorem dX5_keep_27 : decode cX5_keep 27 = .ok (.aload_n 0, 1) := by decide +kernel
theorem dX5_keep_28 : decode cX5_keep 28 = .ok (.getfield 13, 3) := by decide +kernel
theorem dX5_keep_31 : decode cX5_keep 31 = .ok (.iload_n 1, 1) := by decide +kernel
theorem dX5_keep_32 : decode cX5_keep 32 = .ok (.iconst 1, 1) := by decide +kernel
theorem dX5_keep_33 : decode cX5_keep 33 = .ok (.bastore, 1) := by decide +kernel
theorem dX5_keep_34 : decode cX5_keep 34 = .ok (.iconst 1, 1) := by decide +kernel
theorem dX5_keep_35 : decode cX5_keep 35 = .ok (.ireturn, 1) := by decide +kernel
theorem dX5_goBack_0 : decode cX5_goBack 0 = .ok (.iload_n 1, 1) := by decide +kernel
theorem dX5_goBack_1 : decode cX5_goBack 1 = .ok (.i2l, 1) := by decide +kernel
theorem dX5_goBack_2 : decode cX5_goBack 2 = .ok (.lconst 0, 1) := by decide +kernel
theorem dX5_goBack_3 : decode cX5_goBack 3 = .ok (.lconst 1, 1) := by decide +kernel
theorem dX5_goBack_4 : decode cX5_goBack 4 = .ok (.invokestatic 23, 3) := by decide +kernel
theorem dX5_goBack_7 : decode cX5_goBack 7 = .ok (.ifCond .ne 6, 3) := by decide +kernel
theorem dX5_goBack_10 : decode cX5_goBack 10 = .ok (.ldc 42, 2) := by decide +kernel
theorem dX5_goBack_12 : decode cX5_goBack 12 = .ok (.ireturn, 1) := by decide +kernel
theorem dX5_goBack_13 : decode cX5_goBack 13 = .ok (.aload_n 0, 1) := by decide +kernel
theorem dX5_goBack_14 : decode cX5_goBack 14 = .ok (.getfield 13, 3) := by decide +kernel
theorem dX5_goBack_17 : decode cX5_goBack 17 = .ok (.iload_n 1, 1) := by decide +kernel
theorem dX5_goBack_18 : decode cX5_goBack 18 = .ok (.baload, 1) := by decide +kernel
theorem dX5_goBack_19 : decode cX5_goBack 19 = .ok (.ifCond .ne 6, 3) := by decide +kernel
theorem dX5_goBack_22 : decode cX5_goBack 22 = .ok (.ldc 48, 2) := by decide +kernel
theorem dX5_goBack_24 : decode cX5_goBack 24 = .ok (.ireturn, 1) := by decide +kernel
theorem dX5_goBack_25 : decode cX5_goBack 25 = .ok (.aload_n 0, 1) := by decide +kernel
theorem dX5_goBack_26 : decode cX5_goBack 26 = .ok (.sipush 524, 3) := by decide +kernel
theorem dX5_goBack_29 : decode cX5_goBack 29 = .ok (.sipush 262, 3) := by decide +kernel
theorem dX5_goBack_32 : decode cX5_goBack 32 = .ok (.iload_n 1, 1) := by decide +kernel
theorem dX5_goBack_33 : decode cX5_goBack 33 = .ok (.imul, 1) := by decide +kernel
theorem dX5_goBack_34 : decode cX5_goBack 34 = .ok (.iadd, 1) := by decide +kernel
theorem dX5_goBack_35 : decode cX5_goBack 35 = .ok (.iconst 0, 1) := by decide +kernel
theorem dX5_goBack_36 : decode cX5_goBack 36 = .ok (.invokevirtual 160, 3) := by decide +kernel
theorem dX5_goBack_39 : decode cX5_goBack 39 = .ok (.iconst 1, 1) := by decide +kernel
theorem dX5_goBack_40 : decode cX5_goBack 40 = .ok (.ireturn, 1) := by decide +kernel
