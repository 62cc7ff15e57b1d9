theorem dX12_wipes_9 : decode cX12_wipes 9 = .ok (.sipush 438, 3) := by decide +kernel
theorem dX12_wipes_12 : decode cX12_wipes 12 = .ok (.iload_n 1, 1) := by decide +kernel
theorem dX12_wipes_13 : decode cX12_wipes 13 = .ok (.iadd, 1) := by decide +kernel
theorem dX12_wipes_14 : decode cX12_wipes 14 = .ok (.iconst 0, 1) := by decide +kernel
theorem dX12_wipes_15 : decode cX12_wipes 15 = .ok (.iastore, 1) := by decide +kernel
theorem dX12_wipes_16 : decode cX12_wipes 16 = .ok (.aload_n 0, 1) := by decide +kernel
theorem dX12_wipes_17 : decode cX12_wipes 17 = .ok (.getfield 7, 3) := by decide +kernel
theorem dX12_wipes_20 : decode cX12_wipes 20 = .ok (.sipush 444, 3) := by decide +kernel
theorem dX12_wipes_23 : decode cX12_wipes 23 = .ok (.iload_n 1, 1) := by decide +kernel
theorem dX12_wipes_24 : decode cX12_wipes 24 = .ok (.iadd, 1) := by decide +kernel
theorem dX12_wipes_25 : decode cX12_wipes 25 = .ok (.iconst 0, 1) := by decide +kernel
theorem dX12_wipes_26 : decode cX12_wipes 26 = .ok (.iastore, 1) := by decide +kernel
theorem dX12_wipes_27 : decode cX12_wipes 27 = .ok (.aload_n 0, 1) := by decide +kernel
theorem dX12_wipes_28 : decode cX12_wipes 28 = .ok (.getfield 7, 3) := by decide +kernel
theorem dX12_wipes_31 : decode cX12_wipes 31 = .ok (.sipush 432, 3) := by decide +kernel
theorem dX12_wipes_34 : decode cX12_wipes 34 = .ok (.iload_n 1, 1) := by decide +kernel
theorem dX12_wipes_35 : decode cX12_wipes 35 = .ok (.iadd, 1) := by decide +kernel
theorem dX12_wipes_36 : decode cX12_wipes 36 = .ok (.iconst 0, 1) := by decide +kernel
theorem dX12_wipes_37 : decode cX12_wipes 37 = .ok (.iastore, 1) := by decide +kernel
theorem dX12_wipes_38 : decode cX12_wipes 38 = .ok (.aload_n 0, 1) := by decide +kernel
theorem dX12_wipes_39 : decode cX12_wipes 39 = .ok (.getfield 7, 3) := by decide +kernel
theorem dX12_wipes_42 : decode cX12_wipes 42 = .ok (.sipush 468, 3) := by decide +kernel
theorem dX12_wipes_45 : decode cX12_wipes 45 = .ok (.iload_n 1, 1) := by decide +kernel
theorem dX12_wipes_46 : decode cX12_wipes 46 = .ok (.iadd, 1) := by decide +kernel
theorem dX12_wipes_47 : decode cX12_wipes 47 = .ok (.iconst (-1), 1) := by decide +kernel
theorem dX12_wipes_48 : decode cX12_wipes 48 = .ok (.iastore, 1) := by decide +kernel
theorem dX12_wipes_49 : decode cX12_wipes 49 = .ok (.iconst 0, 1) := by decide +kernel
theorem dX12_wipes_50 : decode cX12_wipes 50 = .ok (.istore_n 2, 1) := by decide +kernel
theorem dX12_wipes_51 : decode cX12_wipes 51 = .ok (.iload_n 2, 1) := by decide +kernel
theorem dX12_wipes_52 : decode cX12_wipes 52 = .ok (.bipush 24, 2) := by decide +kernel
theorem dX12_wipes_54 : decode cX12_wipes 54 = .ok (.if_icmp .ge 41, 3) := by decide +kernel
theorem dX12_wipes_57 : decode cX12_wipes 57 = .ok (.aload_n 0, 1) := by decide +kernel
theorem dX12_wipes_58 : decode cX12_wipes 58 = .ok (.getfield 7, 3) := by decide +kernel
theorem dX12_wipes_61 : decode cX12_wipes 61 = .ok (.sipush 144, 3) := by decide +kernel
theorem dX12_wipes_64 : decode cX12_wipes 64 = .ok (.bipush 24, 2) := by decide +kernel
theorem dX12_wipes_66 : decode cX12_wipes 66 = .ok (.iload_n 1, 1) := by decide +kernel
theorem dX12_wipes_67 : decode cX12_wipes 67 = .ok (.imul, 1) := by decide +kernel
theorem dX12_wipes_68 : decode cX12_wipes 68 = .ok (.iadd, 1) := by decide +kernel
theorem dX12_wipes_69 : decode cX12_wipes 69 = .ok (.iload_n 2, 1) := by decide +kernel
theorem dX12_wipes_70 : decode cX12_wipes 70 = .ok (.iadd, 1) := by decide +kernel
theorem dX12_wipes_71 : decode cX12_wipes 71 = .ok (.iconst 0, 1) := by decide +kernel
theorem dX12_wipes_72 : decode cX12_wipes 72 = .ok (.iastore, 1) := by decide +kernel
theorem dX12_wipes_73 : decode cX12_wipes 73 = .ok (.aload_n 0, 1) := by decide +kernel
theorem dX12_wipes_74 : decode cX12_wipes 74 = .ok (.getfield 7, 3) := by decide +kernel
theorem dX12_wipes_77 : decode cX12_wipes 77 = .ok (.sipush 288, 3) := by decide +kernel
theorem dX12_wipes_80 : decode cX12_wipes 80 = .ok (.bipush 24, 2) := by decide +kernel
theorem dX12_wipes_82 : decode cX12_wipes 82 = .ok (.iload_n 1, 1) := by decide +kernel
theorem dX12_wipes_83 : decode cX12_wipes 83 = .ok (.imul, 1) := by decide +kernel
theorem dX12_wipes_84 : decode cX12_wipes 84 = .ok (.iadd, 1) := by decide +kernel
theorem dX12_wipes_85 : decode cX12_wipes 85 = .ok (.iload_n 2, 1) := by decide +kernel
theorem dX12_wipes_86 : decode cX12_wipes 86 = .ok (.iadd, 1) := by decide +kernel
theorem dX12_wipes_87 : decode cX12_wipes 87 = .ok (.iconst 0, 1) := by decide +kernel
theorem dX12_wipes_88 : decode cX12_wipes 88 = .ok (.iastore, 1) := by decide +kernel
theorem dX12_wipes_89 : decode cX12_wipes 89 = .ok (.iinc 2 1, 3) := by decide +kernel
theorem dX12_wipes_92 : decode cX12_wipes 92 = .ok (.goto (-41), 3) := by decide +kernel
theorem dX12_wipes_95 : decode cX12_wipes 95 = .ok (.aload_n 0, 1) := by decide +kernel
theorem dX12_wipes_96 : decode cX12_wipes 96 = .ok (.getfield 19, 3) := by decide +kernel
theorem dX12_wipes_99 : decode cX12_wipes 99 = .ok (.iload_n 1, 1) := by decide +kernel
theorem dX12_wipes_100 : decode cX12_wipes 100 = .ok (.iconst 0, 1) := by decide +kernel
theorem dX12_wipes_101 : decode cX12_wipes 101 = .ok (.iastore, 1) := by decide +kernel
theorem dX12_wipes_102 : decode cX12_wipes 102 = .ok (.return_, 1) := by decide +kernel
theorem dX12_wipe_0 : decode cX12_wipe 0 = .ok (.aload_n 0, 1) := by decide +kernel
theorem dX12_wipe_1 : decode cX12_wipe 1 = .ok (.iconst 0, 1) := by decide +kernel
theorem dX12_wipe_2 : decode cX12_wipe 2 = .ok (.putfield 73, 3) := by decide +kernel
theorem dX12_wipe_5 : decode cX12_wipe 5 = .ok (.iload_n 1, 1) := by decide +kernel
theorem dX12_wipe_6 : decode cX12_wipe 6 = .ok (.invokestatic 80, 3) := by decide +kernel
theorem dX12_wipe_9 : decode cX12_wipe 9 = .ok (.ifCond .ne 5, 3) := by decide +kernel
theorem dX12_wipe_12 : decode cX12_wipe 12 = .ok (.iconst (-1), 1) := by decide +kernel
theorem dX12_wipe_13 : decode cX12_wipe 13 = .ok (.ireturn, 1) := by decide +kernel
theorem dX12_wipe_14 : decode cX12_wipe 14 = .ok (.aload_n 0, 1) := by decide +kernel
theorem dX12_wipe_15 : decode cX12_wipe 15 = .ok (.getfield 19, 3) := by decide +kernel
theorem dX12_wipe_18 : decode cX12_wipe 18 = .ok (.iload_n 1, 1) := by decide +kernel
theorem dX12_wipe_19 : decode cX12_wipe 19 = .ok (.iaload, 1) := by decide +kernel
theorem dX12_wipe_20 : decode cX12_wipe 20 = .ok (.istore_n 2, 1) := by decide +kernel
theorem dX12_wipe_21 : decode cX12_wipe 21 = .ok (.aload_n 0, 1) := by decide +kernel
theorem dX12_wipe_22 : decode cX12_wipe 22 = .ok (.iload_n 1, 1) := by decide +kernel
theorem dX12_wipe_23 : decode cX12_wipe 23 = .ok (.invokevirtual 92, 3) := by decide +kernel
theorem dX12_wipe_26 : decode cX12_wipe 26 = .ok (.iload_n 2, 1) := by decide +kernel
theorem dX12_wipe_27 : decode cX12_wipe 27 = .ok (.ireturn, 1) := by decide +kernel
theorem dX12_memory_0 : decode cX12_memory 0 = .ok (.aload_n 0, 1) := by decide +kernel
theorem dX12_memory_1 : decode cX12_memory 1 = .ok (.iconst 0, 1) := by decide +kernel
theorem dX12_memory_2 : decode cX12_memory 2 = .ok (.putfield 73, 3) := by decide +kernel
theorem dX12_memory_5 : decode cX12_memory 5 = .ok (.iload_n 1, 1) := by decide +kernel
theorem dX12_memory_6 : decode cX12_memory 6 = .ok (.invokestatic 80, 3) := by decide +kernel
theorem dX12_memory_9 : decode cX12_memory 9 = .ok (.ifCond .eq 9, 3) := by decide +kernel
theorem dX12_memory_12 : decode cX12_memory 12 = .ok (.iload_n 2, 1) := by decide +kernel
theorem dX12_memory_13 : decode cX12_memory 13 = .ok (.bipush 16, 2) := by decide +kernel
theorem dX12_memory_15 : decode cX12_memory 15 = .ok (.if_icmp .le 6, 3) := by decide +kernel
theorem dX12_memory_18 : decode cX12_memory 18 = .ok (.bipush (-2), 2) := by decide +kernel
theorem dX12_memory_20 : decode cX12_memory 20 = .ok (.ireturn, 1) := by decide +kernel
theorem dX12_memory_21 : decode cX12_memory 21 = .ok (.aload_n 0, 1) := by decide +kernel
theorem dX12_memory_22 : decode cX12_memory 22 = .ok (.getfield 22, 3) := by decide +kernel
theorem dX12_memory_25 : decode cX12_memory 25 = .ok (.iload_n 1, 1) := by decide +kernel
theorem dX12_memory_26 : decode cX12_memory 26 = .ok (.iaload, 1) := by decide +kernel
theorem dX12_memory_27 : decode cX12_memory 27 = .ok (.istore_n 3, 1) := by decide +kernel
theorem dX12_memory_28 : decode cX12_memory 28 = .ok (.aload_n 0, 1) := by decide +kernel
theorem dX12_memory_29 : decode cX12_memory 29 = .ok (.getfield 22, 3) := by decide +kernel
theorem dX12_memory_32 : decode cX12_memory 32 = .ok (.iload_n 1, 1) := by decide +kernel
theorem dX12_memory_33 : decode cX12_memory 33 = .ok (.iload_n 2, 1) := by decide +kernel
theorem dX12_memory_34 : decode cX12_memory 34 = .ok (.ifCond .ge 7, 3) := by decide +kernel
theorem dX12_memory_37 : decode cX12_memory 37 = .ok (.iconst (-1), 1) := by decide +kernel
theorem dX12_memory_38 : decode cX12_memory 38 = .ok (.goto 4, 3) := by decide +kernel
theorem dX12_memory_41 : decode cX12_memory 41 = .ok (.iload_n 2, 1) := by decide +kernel
theorem dX12_memory_42 : decode cX12_memory 42 = .ok (.iastore, 1) := by decide +kernel
theorem dX12_memory_43 : decode cX12_memory 43 = .ok (.iconst 0, 1) := by decide +kernel
theorem dX12_memory_44 : decode cX12_memory 44 = .ok (.istore 4, 2) := by decide +kernel
theorem dX12_memory_46 : decode cX12_memory 46 = .ok (.iload 4, 2) := by decide +kernel
theorem dX12_memory_48 : decode cX12_memory 48 = .ok (.bipush 16, 2) := by decide +kernel
theorem dX12_memory_50 : decode cX12_memory 50 = .ok (.if_icmp .ge 25, 3) := by decide +kernel
theorem dX12_memory_53 : decode cX12_memory 53 = .ok (.aload_n 0, 1) := by decide +kernel
theorem dX12_memory_54 : decode cX12_memory 54 = .ok (.getfield 7, 3) := by decide +kernel
theorem dX12_memory_57 : decode cX12_memory 57 = .ok (.bipush 48, 2) := by decide +kernel
theorem dX12_memory_59 : decode cX12_memory 59 = .ok (.bipush 16, 2) := by decide +kernel
theorem dX12_memory_61 : decode cX12_memory 61 = .ok (.iload_n 1, 1) := by decide +kernel
theorem dX12_memory_62 : decode cX12_memory 62 = .ok (.imul, 1) := by decide +kernel
theorem dX12_memory_63 : decode cX12_memory 63 = .ok (.iadd, 1) := by decide +kernel
theorem dX12_memory_64 : decode cX12_memory 64 = .ok (.iload 4, 2) := by decide +kernel
theorem dX12_memory_66 : decode cX12_memory 66 = .ok (.iadd, 1) := by decide +kernel
theorem dX12_memory_67 : decode cX12_memory 67 = .ok (.iconst 0, 1) := by decide +kernel
theorem dX12_memory_68 : decode cX12_memory 68 = .ok (.iastore, 1) := by decide +kernel
theorem dX12_memory_69 : decode cX12_memory 69 = .ok (.iinc 4 1, 3) := by decide +kernel
theorem dX12_memory_72 : decode cX12_memory 72 = .ok (.goto (-26), 3) := by decide +kernel
theorem dX12_memory_75 : decode cX12_memory 75 = .ok (.iload_n 3, 1) := by decide +kernel
theorem dX12_memory_76 : decode cX12_memory 76 = .ok (.ireturn, 1) := by decide +kernel
theorem dX12_hard_0 : decode cX12_hard 0 = .ok (.aload_n 0, 1) := by decide +kernel
theorem dX12_hard_1 : decode cX12_hard 1 = .ok (.iconst 0, 1) := by decide +kernel
theorem dX12_hard_2 : decode cX12_hard 2 = .ok (.putfield 73, 3) := by decide +kernel
theorem dX12_hard_5 : decode cX12_hard 5 = .ok (.iload_n 1, 1) := by decide +kernel
theorem dX12_hard_6 : decode cX12_hard 6 = .ok (.invokestatic 80, 3) := by decide +kernel
theorem dX12_hard_9 : decode cX12_hard 9 = .ok (.ifCond .eq 13, 3) := by decide +kernel
theorem dX12_hard_12 : decode cX12_hard 12 = .ok (.aload_n 0, 1) := by decide +kernel
theorem dX12_hard_13 : decode cX12_hard 13 = .ok (.getfield 25, 3) := by decide +kernel
theorem dX12_hard_16 : decode cX12_hard 16 = .ok (.iload_n 1, 1) := by decide +kernel
theorem dX12_hard_17 : decode cX12_hard 17 = .ok (.baload, 1) := by decide +kernel
theorem dX12_hard_18 : decode cX12_hard 18 = .ok (.iload_n 2, 1) := by decide +kernel
theorem dX12_hard_19 : decode cX12_hard 19 = .ok (.if_icmp .eq 5, 3) := by decide +kernel
theorem dX12_hard_22 : decode cX12_hard 22 = .ok (.iconst 0, 1) := by decide +kernel
theorem dX12_hard_23 : decode cX12_hard 23 = .ok (.ireturn, 1) := by decide +kernel
theorem dX12_hard_24 : decode cX12_hard 24 = .ok (.aload_n 0, 1) := by decide +kernel
theorem dX12_hard_25 : decode cX12_hard 25 = .ok (.getfield 25, 3) := by decide +kernel
theorem dX12_hard_28 : decode cX12_hard 28 = .ok (.iload_n 1, 1) := by decide +kernel
theorem dX12_hard_29 : decode cX12_hard 29 = .ok (.iload_n 2, 1) := by decide +kernel
theorem dX12_hard_30 : decode cX12_hard 30 = .ok (.ifCond .ne 7, 3) := by decide +kernel
theorem dX12_hard_33 : decode cX12_hard 33 = .ok (.iconst 1, 1) := by decide +kernel
theorem dX12_hard_34 : decode cX12_hard 34 = .ok (.goto 4, 3) := by decide +kernel
theorem dX12_hard_37 : decode cX12_hard 37 = .ok (.iconst 0, 1) := by decide +kernel
theorem dX12_hard_38 : decode cX12_hard 38 = .ok (.bastore, 1) := by decide +kernel
theorem dX12_hard_39 : decode cX12_hard 39 = .ok (.iconst 1, 1) := by decide +kernel
theorem dX12_hard_40 : decode cX12_hard 40 = .ok (.ireturn, 1) := by decide +kernel
theorem dX12_pin_0 : decode cX12_pin 0 = .ok (.aload_n 0, 1) := by decide +kernel
theorem dX12_pin_1 : decode cX12_pin 1 = .ok (.iconst 0, 1) := by decide +kernel
theorem dX12_pin_2 : decode cX12_pin 2 = .ok (.putfield 73, 3) := by decide +kernel
theorem dX12_pin_5 : decode cX12_pin 5 = .ok (.iload_n 1, 1) := by decide +kernel
theorem dX12_pin_6 : decode cX12_pin 6 = .ok (.iconst 0, 1) := by decide +kernel
theorem dX12_pin_7 : decode cX12_pin 7 = .ok (.bipush 7, 2) := by decide +kernel
theorem dX12_pin_9 : decode cX12_pin 9 = .ok (.invokestatic 76, 3) := by decide +kernel
theorem dX12_pin_12 : decode cX12_pin 12 = .ok (.ifCond .eq 13, 3) := by decide +kernel
theorem dX12_pin_15 : decode cX12_pin 15 = .ok (.aload_n 0, 1) := by decide +kernel
theorem dX12_pin_16 : decode cX12_pin 16 = .ok (.getfield 29, 3) := by decide +kernel
theorem dX12_pin_19 : decode cX12_pin 19 = .ok (.iload_n 1, 1) := by decide +kernel
theorem dX12_pin_20 : decode cX12_pin 20 = .ok (.iaload, 1) := by decide +kernel
theorem dX12_pin_21 : decode cX12_pin 21 = .ok (.iconst 2, 1) := by decide +kernel
theorem dX12_pin_22 : decode cX12_pin 22 = .ok (.if_icmp .eq 5, 3) := by decide +kernel
theorem dX12_pin_25 : decode cX12_pin 25 = .ok (.iconst 0, 1) := by decide +kernel
theorem dX12_pin_26 : decode cX12_pin 26 = .ok (.ireturn, 1) := by decide +kernel
theorem dX12_pin_27 : decode cX12_pin 27 = .ok (.iload_n 2, 1) := by decide +kernel
theorem dX12_pin_28 : decode cX12_pin 28 = .ok (.ifCond .eq 7, 3) := by decide +kernel
theorem dX12_pin_31 : decode cX12_pin 31 = .ok (.iconst 1, 1) := by decide +kernel
theorem dX12_pin_32 : decode cX12_pin 32 = .ok (.goto 4, 3) := by decide +kernel
theorem dX12_pin_35 : decode cX12_pin 35 = .ok (.iconst 0, 1) := by decide +kernel
theorem dX12_pin_36 : decode cX12_pin 36 = .ok (.istore_n 3, 1) := by decide +kernel
theorem dX12_pin_37 : decode cX12_pin 37 = .ok (.iload_n 1, 1) := by decide +kernel
theorem dX12_pin_38 : decode cX12_pin 38 = .ok (.iconst 4, 1) := by decide +kernel
theorem dX12_pin_39 : decode cX12_pin 39 = .ok (.idiv, 1) := by decide +kernel
theorem dX12_pin_40 : decode cX12_pin 40 = .ok (.iconst 4, 1) := by decide +kernel
theorem dX12_pin_41 : decode cX12_pin 41 = .ok (.imul, 1) := by decide +kernel
theorem dX12_pin_42 : decode cX12_pin 42 = .ok (.istore 4, 2) := by decide +kernel
theorem dX12_pin_44 : decode cX12_pin 44 = .ok (.iload 4, 2) := by decide +kernel
theorem dX12_pin_46 : decode cX12_pin 46 = .ok (.iload_n 1, 1) := by decide +kernel
theorem dX12_pin_47 : decode cX12_pin 47 = .ok (.iconst 4, 1) := by decide +kernel
theorem dX12_pin_48 : decode cX12_pin 48 = .ok (.idiv, 1) := by decide +kernel
theorem dX12_pin_49 : decode cX12_pin 49 = .ok (.iconst 4, 1) := by decide +kernel
theorem dX12_pin_50 : decode cX12_pin 50 = .ok (.imul, 1) := by decide +kernel
theorem dX12_pin_51 : decode cX12_pin 51 = .ok (.iconst 4, 1) := by decide +kernel
theorem dX12_pin_52 : decode cX12_pin 52 = .ok (.iadd, 1) := by decide +kernel
theorem dX12_pin_53 : decode cX12_pin 53 = .ok (.if_icmp .ge 24, 3) := by decide +kernel
theorem dX12_pin_56 : decode cX12_pin 56 = .ok (.aload_n 0, 1) := by decide +kernel
theorem dX12_pin_57 : decode cX12_pin 57 = .ok (.getfield 29, 3) := by decide +kernel
theorem dX12_pin_60 : decode cX12_pin 60 = .ok (.iload 4, 2) := by decide +kernel
theorem dX12_pin_62 : decode cX12_pin 62 = .ok (.iaload, 1) := by decide +kernel
theorem dX12_pin_63 : decode cX12_pin 63 = .ok (.iconst 1, 1) := by decide +kernel
theorem dX12_pin_64 : decode cX12_pin 64 = .ok (.iload_n 3, 1) := by decide +kernel
theorem dX12_pin_65 : decode cX12_pin 65 = .ok (.isub, 1) := by decide +kernel
theorem dX12_pin_66 : decode cX12_pin 66 = .ok (.if_icmp .ne 5, 3) := by decide +kernel
theorem dX12_pin_69 : decode cX12_pin 69 = .ok (.iconst 0, 1) := by decide +kernel
theorem dX12_pin_70 : decode cX12_pin 70 = .ok (.ireturn, 1) := by decide +kernel
theorem dX12_pin_71 : decode cX12_pin 71 = .ok (.iinc 4 1, 3) := by decide +kernel
theorem dX12_pin_74 : decode cX12_pin 74 = .ok (.goto (-30), 3) := by decide +kernel
theorem dX12_pin_77 : decode cX12_pin 77 = .ok (.aload_n 0, 1) := by decide +kernel
theorem dX12_pin_78 : decode cX12_pin 78 = .ok (.getfield 29, 3) := by decide +kernel
theorem dX12_pin_81 : decode cX12_pin 81 = .ok (.iload_n 1, 1) := by decide +kernel
theorem dX12_pin_82 : decode cX12_pin 82 = .ok (.iload_n 3, 1) := by decide +kernel
theorem dX12_pin_83 : decode cX12_pin 83 = .ok (.iastore, 1) := by decide +kernel
theorem dX12_pin_84 : decode cX12_pin 84 = .ok (.iconst 1, 1) := by decide +kernel
theorem dX12_pin_85 : decode cX12_pin 85 = .ok (.ireturn, 1) := by decide +kernel
theorem dX12_event_0 : decode cX12_event 0 = .ok (.aload_n 0, 1) := by decide +kernel
theorem dX12_event_1 : decode cX12_event 1 = .ok (.iconst 0, 1) := by decide +kernel
theorem dX12_event_2 : decode cX12_event 2 = .ok (.putfield 73, 3) := by decide +kernel
theorem dX12_event_5 : decode cX12_event 5 = .ok (.iload_n 1, 1) := by decide +kernel
theorem dX12_event_6 : decode cX12_event 6 = .ok (.iconst 0, 1) := by decide +kernel
theorem dX12_event_7 : decode cX12_event 7 = .ok (.bipush 7, 2) := by decide +kernel
theorem dX12_event_9 : decode cX12_event 9 = .ok (.invokestatic 76, 3) := by decide +kernel
theorem dX12_event_12 : decode cX12_event 12 = .ok (.ifCond .eq 38, 3) := by decide +kernel
theorem dX12_event_15 : decode cX12_event 15 = .ok (.aload_n 0, 1) := by decide +kernel
theorem dX12_event_16 : decode cX12_event 16 = .ok (.getfield 29, 3) := by decide +kernel
theorem dX12_event_19 : decode cX12_event 19 = .ok (.iload_n 1, 1) := by decide +kernel
theorem dX12_event_20 : decode cX12_event 20 = .ok (.iaload, 1) := by decide +kernel
theorem dX12_event_21 : decode cX12_event 21 = .ok (.ifCond .ne 29, 3) := by decide +kernel
theorem dX12_event_24 : decode cX12_event 24 = .ok (.iload_n 2, 1) := by decide +kernel
theorem dX12_event_25 : decode cX12_event 25 = .ok (.aload_n 0, 1) := by decide +kernel
theorem dX12_event_26 : decode cX12_event 26 = .ok (.getfield 7, 3) := by decide +kernel
theorem dX12_event_29 : decode cX12_event 29 = .ok (.sipush 683, 3) := by decide +kernel
theorem dX12_event_32 : decode cX12_event 32 = .ok (.iaload, 1) := by decide +kernel
theorem dX12_event_33 : decode cX12_event 33 = .ok (.ldc 95, 2) := by decide +kernel
theorem dX12_event_35 : decode cX12_event 35 = .ok (.invokestatic 76, 3) := by decide +kernel
theorem dX12_event_38 : decode cX12_event 38 = .ok (.ifCond .eq 12, 3) := by decide +kernel
theorem dX12_event_41 : decode cX12_event 41 = .ok (.aload_n 0, 1) := by decide +kernel
theorem dX12_event_42 : decode cX12_event 42 = .ok (.getfield 96, 3) := by decide +kernel
theorem dX12_event_45 : decode cX12_event 45 = .ok (.bipush 32, 2) := by decide +kernel
theorem dX12_event_47 : decode cX12_event 47 = .ok (.if_icmp .ne 5, 3) := by decide +kernel
theorem dX12_event_50 : decode cX12_event 50 = .ok (.iconst (-1), 1) := by decide +kernel
theorem dX12_event_51 : decode cX12_event 51 = .ok (.ireturn, 1) := by decide +kernel
theorem dX12_event_52 : decode cX12_event 52 = .ok (.aload_n 0, 1) := by decide +kernel
theorem dX12_event_53 : decode cX12_event 53 = .ok (.getfield 32, 3) := by decide +kernel
theorem dX12_event_56 : decode cX12_event 56 = .ok (.aload_n 0, 1) := by decide +kernel
theorem dX12_event_57 : decode cX12_event 57 = .ok (.getfield 96, 3) := by decide +kernel
theorem dX12_event_60 : decode cX12_event 60 = .ok (.iload_n 2, 1) := by decide +kernel
theorem dX12_event_61 : decode cX12_event 61 = .ok (.iastore, 1) := by decide +kernel
theorem dX12_event_62 : decode cX12_event 62 = .ok (.aload_n 0, 1) := by decide +kernel
theorem dX12_event_63 : decode cX12_event 63 = .ok (.getfield 35, 3) := by decide +kernel
theorem dX12_event_66 : decode cX12_event 66 = .ok (.aload_n 0, 1) := by decide +kernel
theorem dX12_event_67 : decode cX12_event 67 = .ok (.getfield 96, 3) := by decide +kernel
theorem dX12_event_70 : decode cX12_event 70 = .ok (.iload_n 1, 1) := by decide +kernel
theorem dX12_event_71 : decode cX12_event 71 = .ok (.iastore, 1) := by decide +kernel
theorem dX12_event_72 : decode cX12_event 72 = .ok (.aload_n 0, 1) := by decide +kernel
theorem dX12_event_73 : decode cX12_event 73 = .ok (.getfield 38, 3) := by decide +kernel
theorem dX12_event_76 : decode cX12_event 76 = .ok (.aload_n 0, 1) := by decide +kernel
theorem dX12_event_77 : decode cX12_event 77 = .ok (.getfield 96, 3) := by decide +kernel
theorem dX12_event_80 : decode cX12_event 80 = .ok (.iload_n 3, 1) := by decide +kernel
theorem dX12_event_81 : decode cX12_event 81 = .ok (.ifCond .eq 7, 3) := by decide +kernel
theorem dX12_event_84 : decode cX12_event 84 = .ok (.iconst 1, 1) := by decide +kernel
theorem dX12_event_85 : decode cX12_event 85 = .ok (.goto 4, 3) := by decide +kernel
theorem dX12_event_88 : decode cX12_event 88 = .ok (.iconst 0, 1) := by decide +kernel
theorem dX12_event_89 : decode cX12_event 89 = .ok (.iastore, 1) := by decide +kernel
theorem dX12_event_90 : decode cX12_event 90 = .ok (.aload_n 0, 1) := by decide +kernel
theorem dX12_event_91 : decode cX12_event 91 = .ok (.dup, 1) := by decide +kernel
theorem dX12_event_92 : decode cX12_event 92 = .ok (.getfield 96, 3) := by decide +kernel
theorem dX12_event_95 : decode cX12_event 95 = .ok (.iconst 1, 1) := by decide +kernel
theorem dX12_event_96 : decode cX12_event 96 = .ok (.iadd, 1) := by decide +kernel
theorem dX12_event_97 : decode cX12_event 97 = .ok (.putfield 96, 3) := by decide +kernel
theorem dX12_event_100 : decode cX12_event 100 = .ok (.aload_n 0, 1) := by decide +kernel
theorem dX12_event_101 : decode cX12_event 101 = .ok (.getfield 96, 3) := by decide +kernel
theorem dX12_event_104 : decode cX12_event 104 = .ok (.ireturn, 1) := by decide +kernel
theorem dX12_slots_0 : decode cX12_slots 0 = .ok (.aload_n 0, 1) := by decide +kernel
theorem dX12_slots_1 : decode cX12_slots 1 = .ok (.iconst 0, 1) := by decide +kernel
theorem dX12_slots_2 : decode cX12_slots 2 = .ok (.putfield 73, 3) := by decide +kernel
theorem dX12_slots_5 : decode cX12_slots 5 = .ok (.iload_n 1, 1) := by decide +kernel
theorem dX12_slots_6 : decode cX12_slots 6 = .ok (.iconst 1, 1) := by decide +kernel
theorem dX12_slots_7 : decode cX12_slots 7 = .ok (.bipush 16, 2) := by decide +kernel
theorem dX12_slots_9 : decode cX12_slots 9 = .ok (.invokestatic 76, 3) := by decide +kernel
theorem dX12_slots_12 : decode cX12_slots 12 = .ok (.ifCond .ne 5, 3) := by decide +kernel
theorem dX12_slots_15 : decode cX12_slots 15 = .ok (.iconst (-1), 1) := by decide +kernel
theorem dX12_slots_16 : decode cX12_slots 16 = .ok (.ireturn, 1) := by decide +kernel
theorem dX12_slots_17 : decode cX12_slots 17 = .ok (.aload_n 0, 1) := by decide +kernel
theorem dX12_slots_18 : decode cX12_slots 18 = .ok (.getfield 44, 3) := by decide +kernel
theorem dX12_slots_21 : decode cX12_slots 21 = .ok (.istore_n 2, 1) := by decide +kernel
theorem dX12_slots_22 : decode cX12_slots 22 = .ok (.iload_n 2, 1) := by decide +kernel
theorem dX12_slots_23 : decode cX12_slots 23 = .ok (.istore_n 3, 1) := by decide +kernel
theorem dX12_slots_24 : decode cX12_slots 24 = .ok (.iload_n 3, 1) := by decide +kernel
theorem dX12_slots_25 : decode cX12_slots 25 = .ok (.iload_n 1, 1) := by decide +kernel
theorem dX12_slots_26 : decode cX12_slots 26 = .ok (.if_icmp .ge 16, 3) := by decide +kernel
theorem dX12_slots_29 : decode cX12_slots 29 = .ok (.aload_n 0, 1) := by decide +kernel
theorem dX12_slots_30 : decode cX12_slots 30 = .ok (.getfield 41, 3) := by decide +kernel
theorem dX12_slots_33 : decode cX12_slots 33 = .ok (.iload_n 3, 1) := by decide +kernel
theorem dX12_slots_34 : decode cX12_slots 34 = .ok (.iconst (-1), 1) := by decide +kernel
theorem dX12_slots_35 : decode cX12_slots 35 = .ok (.iastore, 1) := by decide +kernel
theorem dX12_slots_36 : decode cX12_slots 36 = .ok (.iinc 3 1, 3) := by decide +kernel
theorem dX12_slots_39 : decode cX12_slots 39 = .ok (.goto (-15), 3) := by decide +kernel
theorem dX12_slots_42 : decode cX12_slots 42 = .ok (.aload_n 0, 1) := by decide +kernel
theorem dX12_slots_43 : decode cX12_slots 43 = .ok (.iload_n 1, 1) := by decide +kernel
theorem dX12_slots_44 : decode cX12_slots 44 = .ok (.putfield 44, 3) := by decide +kernel
theorem dX12_slots_47 : decode cX12_slots 47 = .ok (.iload_n 2, 1) := by decide +kernel
theorem dX12_slots_48 : decode cX12_slots 48 = .ok (.ireturn, 1) := by decide +kernel
theorem dX12_slot_0 : decode cX12_slot 0 = .ok (.aload_n 0, 1) := by decide +kernel
theorem dX12_slot_1 : decode cX12_slot 1 = .ok (.iconst 0, 1) := by decide +kernel
theorem dX12_slot_2 : decode cX12_slot 2 = .ok (.putfield 73, 3) := by decide +kernel
theorem dX12_slot_5 : decode cX12_slot 5 = .ok (.iload_n 1, 1) := by decide +kernel
theorem dX12_slot_6 : decode cX12_slot 6 = .ok (.iconst 0, 1) := by decide +kernel
theorem dX12_slot_7 : decode cX12_slot 7 = .ok (.aload_n 0, 1) := by decide +kernel
theorem dX12_slot_8 : decode cX12_slot 8 = .ok (.getfield 44, 3) := by decide +kernel
theorem dX12_slot_11 : decode cX12_slot 11 = .ok (.iconst 1, 1) := by decide +kernel
theorem dX12_slot_12 : decode cX12_slot 12 = .ok (.isub, 1) := by decide +kernel
theorem dX12_slot_13 : decode cX12_slot 13 = .ok (.invokestatic 76, 3) := by decide +kernel
theorem dX12_slot_16 : decode cX12_slot 16 = .ok (.ifCond .eq 15, 3) := by decide +kernel
theorem dX12_slot_19 : decode cX12_slot 19 = .ok (.iload_n 2, 1) := by decide +kernel
theorem dX12_slot_20 : decode cX12_slot 20 = .ok (.iconst (-1), 1) := by decide +kernel
theorem dX12_slot_21 : decode cX12_slot 21 = .ok (.if_icmp .eq 12, 3) := by decide +kernel
theorem dX12_slot_24 : decode cX12_slot 24 = .ok (.iload_n 2, 1) := by decide +kernel
theorem dX12_slot_25 : decode cX12_slot 25 = .ok (.invokestatic 80, 3) := by decide +kernel
theorem dX12_slot_28 : decode cX12_slot 28 = .ok (.ifCond .ne 5, 3) := by decide +kernel
theorem dX12_slot_31 : decode cX12_slot 31 = .ok (.iconst 0, 1) := by decide +kernel
theorem dX12_slot_32 : decode cX12_slot 32 = .ok (.ireturn, 1) := by decide +kernel
theorem dX12_slot_33 : decode cX12_slot 33 = .ok (.aload_n 0, 1) := by decide +kernel
theorem dX12_slot_34 : decode cX12_slot 34 = .ok (.getfield 41, 3) := by decide +kernel
theorem dX12_slot_37 : decode cX12_slot 37 = .ok (.iload_n 1, 1) := by decide +kernel
theorem dX12_slot_38 : decode cX12_slot 38 = .ok (.iload_n 2, 1) := by decide +kernel
theorem dX12_slot_39 : decode cX12_slot 39 = .ok (.iastore, 1) := by decide +kernel
theorem dX12_slot_40 : decode cX12_slot 40 = .ok (.iconst 1, 1) := by decide +kernel
theorem dX12_slot_41 : decode cX12_slot 41 = .ok (.ireturn, 1) := by decide +kernel
theorem dX12_due_0 : decode cX12_due 0 = .ok (.aload_n 0, 1) := by decide +kernel
theorem dX12_due_1 : decode cX12_due 1 = .ok (.iconst 0, 1) := by decide +kernel
theorem dX12_due_2 : decode cX12_due 2 = .ok (.putfield 73, 3) := by decide +kernel
theorem dX12_due_5 : decode cX12_due 5 = .ok (.iload_n 1, 1) := by decide +kernel
theorem dX12_due_6 : decode cX12_due 6 = .ok (.invokestatic 80, 3) := by decide +kernel
theorem dX12_due_9 : decode cX12_due 9 = .ok (.ifCond .eq 14, 3) := by decide +kernel
theorem dX12_due_12 : decode cX12_due 12 = .ok (.iload_n 2, 1) := by decide +kernel
theorem dX12_due_13 : decode cX12_due 13 = .ok (.iconst 0, 1) := by decide +kernel
theorem dX12_due_14 : decode cX12_due 14 = .ok (.sipush 9999, 3) := by decide +kernel
theorem dX12_due_17 : decode cX12_due 17 = .ok (.invokestatic 76, 3) := by decide +kernel
theorem dX12_due_20 : decode cX12_due 20 = .ok (.ifCond .ne 5, 3) := by decide +kernel
theorem dX12_due_23 : decode cX12_due 23 = .ok (.iconst (-1), 1) := by decide +kernel
theorem dX12_due_24 : decode cX12_due 24 = .ok (.ireturn, 1) := by decide +kernel
theorem dX12_due_25 : decode cX12_due 25 = .ok (.aload_n 0, 1) := by decide +kernel
theorem dX12_due_26 : decode cX12_due 26 = .ok (.getfield 48, 3) := by decide +kernel
theorem dX12_due_29 : decode cX12_due 29 = .ok (.iload_n 1, 1) := by decide +kernel
theorem dX12_due_30 : decode cX12_due 30 = .ok (.iaload, 1) := by decide +kernel
theorem dX12_due_31 : decode cX12_due 31 = .ok (.istore_n 3, 1) := by decide +kernel
theorem dX12_due_32 : decode cX12_due 32 = .ok (.aload_n 0, 1) := by decide +kernel
theorem dX12_due_33 : decode cX12_due 33 = .ok (.getfield 48, 3) := by decide +kernel
theorem dX12_due_36 : decode cX12_due 36 = .ok (.iload_n 1, 1) := by decide +kernel
theorem dX12_due_37 : decode cX12_due 37 = .ok (.iload_n 2, 1) := by decide +kernel
theorem dX12_due_38 : decode cX12_due 38 = .ok (.iastore, 1) := by decide +kernel
theorem dX12_due_39 : decode cX12_due 39 = .ok (.iload_n 3, 1) := by decide +kernel
theorem dX12_due_40 : decode cX12_due 40 = .ok (.ireturn, 1) := by decide +kernel
theorem dX12_asks_0 : decode cX12_asks 0 = .ok (.aload_n 0, 1) := by decide +kernel
theorem dX12_asks_1 : decode cX12_asks 1 = .ok (.iconst 0, 1) := by decide +kernel
theorem dX12_asks_2 : decode cX12_asks 2 = .ok (.putfield 73, 3) := by decide +kernel
theorem dX12_asks_5 : decode cX12_asks 5 = .ok (.iload_n 1, 1) := by decide +kernel
theorem dX12_asks_6 : decode cX12_asks 6 = .ok (.invokestatic 80, 3) := by decide +kernel
theorem dX12_asks_9 : decode cX12_asks 9 = .ok (.ifCond .eq 13, 3) := by decide +kernel
theorem dX12_asks_12 : decode cX12_asks 12 = .ok (.iload_n 2, 1) := by decide +kernel
theorem dX12_asks_13 : decode cX12_asks 13 = .ok (.iconst 0, 1) := by decide +kernel
theorem dX12_asks_14 : decode cX12_asks 14 = .ok (.bipush 16, 2) := by decide +kernel
theorem dX12_asks_16 : decode cX12_asks 16 = .ok (.invokestatic 76, 3) := by decide +kernel
theorem dX12_asks_19 : decode cX12_asks 19 = .ok (.ifCond .ne 5, 3) := by decide +kernel
theorem dX12_asks_22 : decode cX12_asks 22 = .ok (.iconst (-1), 1) := by decide +kernel
theorem dX12_asks_23 : decode cX12_asks 23 = .ok (.ireturn, 1) := by decide +kernel
theorem dX12_asks_24 : decode cX12_asks 24 = .ok (.aload_n 0, 1) := by decide +kernel
theorem dX12_asks_25 : decode cX12_asks 25 = .ok (.getfield 51, 3) := by decide +kernel
theorem dX12_asks_28 : decode cX12_asks 28 = .ok (.iload_n 1, 1) := by decide +kernel
theorem dX12_asks_29 : decode cX12_asks 29 = .ok (.iaload, 1) := by decide +kernel
theorem dX12_asks_30 : decode cX12_asks 30 = .ok (.istore_n 3, 1) := by decide +kernel
theorem dX12_asks_31 : decode cX12_asks 31 = .ok (.aload_n 0, 1) := by decide +kernel
theorem dX12_asks_32 : decode cX12_asks 32 = .ok (.getfield 51, 3) := by decide +kernel
theorem dX12_asks_35 : decode cX12_asks 35 = .ok (.iload_n 1, 1) := by decide +kernel
theorem dX12_asks_36 : decode cX12_asks 36 = .ok (.iload_n 2, 1) := by decide +kernel
theorem dX12_asks_37 : decode cX12_asks 37 = .ok (.iastore, 1) := by decide +kernel
theorem dX12_asks_38 : decode cX12_asks 38 = .ok (.iload_n 3, 1) := by decide +kernel
theorem dX12_asks_39 : decode cX12_asks 39 = .ok (.ireturn, 1) := by decide +kernel
theorem dX12_isAsked_0 : decode cX12_isAsked 0 = .ok (.iconst 0, 1) := by decide +kernel
theorem dX12_isAsked_1 : decode cX12_isAsked 1 = .ok (.istore_n 1, 1) := by decide +kernel
theorem dX12_isAsked_2 : decode cX12_isAsked 2 = .ok (.iload_n 1, 1) := by decide +kernel
theorem dX12_isAsked_3 : decode cX12_isAsked 3 = .ok (.bipush 6, 2) := by decide +kernel
theorem dX12_isAsked_5 : decode cX12_isAsked 5 = .ok (.if_icmp .ge 20, 3) := by decide +kernel
theorem dX12_isAsked_8 : decode cX12_isAsked 8 = .ok (.aload_n 0, 1) := by decide +kernel
theorem dX12_isAsked_9 : decode cX12_isAsked 9 = .ok (.getfield 51, 3) := by decide +kernel
theorem dX12_isAsked_12 : decode cX12_isAsked 12 = .ok (.iload_n 1, 1) := by decide +kernel
theorem dX12_isAsked_13 : decode cX12_isAsked 13 = .ok (.iaload, 1) := by decide +kernel
theorem dX12_isAsked_14 : decode cX12_isAsked 14 = .ok (.ifCond .le 5, 3) := by decide +kernel
theorem dX12_isAsked_17 : decode cX12_isAsked 17 = .ok (.iconst 1, 1) := by decide +kernel
theorem dX12_isAsked_18 : decode cX12_isAsked 18 = .ok (.ireturn, 1) := by decide +kernel
theorem dX12_isAsked_19 : decode cX12_isAsked 19 = .ok (.iinc 1 1, 3) := by decide +kernel
theorem dX12_isAsked_22 : decode cX12_isAsked 22 = .ok (.goto (-20), 3) := by decide +kernel
theorem dX12_isAsked_25 : decode cX12_isAsked 25 = .ok (.iconst 0, 1) := by decide +kernel
theorem dX12_isAsked_26 : decode cX12_isAsked 26 = .ok (.ireturn, 1) := by decide +kernel
theorem dX12_isTooMuch_0 : decode cX12_isTooMuch 0 = .ok (.iconst 0, 1) := by decide +kernel
theorem dX12_isTooMuch_1 : decode cX12_isTooMuch 1 = .ok (.istore_n 1, 1) := by decide +kernel
theorem dX12_isTooMuch_2 : decode cX12_isTooMuch 2 = .ok (.iconst 0, 1) := by decide +kernel
theorem dX12_isTooMuch_3 : decode cX12_isTooMuch 3 = .ok (.istore_n 2, 1) := by decide +kernel
theorem dX12_isTooMuch_4 : decode cX12_isTooMuch 4 = .ok (.iload_n 2, 1) := by decide +kernel
theorem dX12_isTooMuch_5 : decode cX12_isTooMuch 5 = .ok (.bipush 6, 2) := by decide +kernel
theorem dX12_isTooMuch_7 : decode cX12_isTooMuch 7 = .ok (.if_icmp .ge 30, 3) := by decide +kernel
theorem dX12_isTooMuch_10 : decode cX12_isTooMuch 10 = .ok (.aload_n 0, 1) := by decide +kernel
theorem dX12_isTooMuch_11 : decode cX12_isTooMuch 11 = .ok (.getfield 51, 3) := by decide +kernel
theorem dX12_isTooMuch_14 : decode cX12_isTooMuch 14 = .ok (.iload_n 2, 1) := by decide +kernel
theorem dX12_isTooMuch_15 : decode cX12_isTooMuch 15 = .ok (.iaload, 1) := by decide +kernel
theorem dX12_isTooMuch_16 : decode cX12_isTooMuch 16 = .ok (.ifCond .le 15, 3) := by decide +kernel
theorem dX12_isTooMuch_19 : decode cX12_isTooMuch 19 = .ok (.iload_n 1, 1) := by decide +kernel
theorem dX12_isTooMuch_20 : decode cX12_isTooMuch 20 = .ok (.ldc 99, 2) := by decide +kernel
theorem dX12_isTooMuch_22 : decode cX12_isTooMuch 22 = .ok (.aload_n 0, 1) := by decide +kernel
theorem dX12_isTooMuch_23 : decode cX12_isTooMuch 23 = .ok (.getfield 51, 3) := by decide +kernel
theorem dX12_isTooMuch_26 : decode cX12_isTooMuch 26 = .ok (.iload_n 2, 1) := by decide +kernel
theorem dX12_isTooMuch_27 : decode cX12_isTooMuch 27 = .ok (.iaload, 1) := by decide +kernel
theorem dX12_isTooMuch_28 : decode cX12_isTooMuch 28 = .ok (.idiv, 1) := by decide +kernel
theorem dX12_isTooMuch_29 : decode cX12_isTooMuch 29 = .ok (.iadd, 1) := by decide +kernel
theorem dX12_isTooMuch_30 : decode cX12_isTooMuch 30 = .ok (.istore_n 1, 1) := by decide +kernel
theorem dX12_isTooMuch_31 : decode cX12_isTooMuch 31 = .ok (.iinc 2 1, 3) := by decide +kernel
theorem dX12_isTooMuch_34 : decode cX12_isTooMuch 34 = .ok (.goto (-30), 3) := by decide +kernel
theorem dX12_isTooMuch_37 : decode cX12_isTooMuch 37 = .ok (.iload_n 1, 1) := by decide +kernel
theorem dX12_isTooMuch_38 : decode cX12_isTooMuch 38 = .ok (.ldc 99, 2) := by decide +kernel
theorem dX12_isTooMuch_40 : decode cX12_isTooMuch 40 = .ok (.if_icmp .le 7, 3) := by decide +kernel
theorem dX12_isTooMuch_43 : decode cX12_isTooMuch 43 = .ok (.iconst 1, 1) := by decide +kernel
theorem dX12_isTooMuch_44 : decode cX12_isTooMuch 44 = .ok (.goto 4, 3) := by decide +kernel
theorem dX12_isTooMuch_47 : decode cX12_isTooMuch 47 = .ok (.iconst 0, 1) := by decide +kernel
theorem dX12_isTooMuch_48 : decode cX12_isTooMuch 48 = .ok (.ireturn, 1) := by decide +kernel
theorem dX12_isAlike_0 : decode cX12_isAlike 0 = .ok (.iconst 0, 1) := by decide +kernel
theorem dX12_isAlike_1 : decode cX12_isAlike 1 = .ok (.istore_n 3, 1) := by decide +kernel
theorem dX12_isAlike_2 : decode cX12_isAlike 2 = .ok (.iload_n 3, 1) := by decide +kernel
theorem dX12_isAlike_3 : decode cX12_isAlike 3 = .ok (.bipush 6, 2) := by decide +kernel
theorem dX12_isAlike_5 : decode cX12_isAlike 5 = .ok (.if_icmp .ge 45, 3) := by decide +kernel
theorem dX12_isAlike_8 : decode cX12_isAlike 8 = .ok (.aload_n 0, 1) := by decide +kernel
theorem dX12_isAlike_9 : decode cX12_isAlike 9 = .ok (.getfield 51, 3) := by decide +kernel
theorem dX12_isAlike_12 : decode cX12_isAlike 12 = .ok (.iload_n 3, 1) := by decide +kernel
theorem dX12_isAlike_13 : decode cX12_isAlike 13 = .ok (.iaload, 1) := by decide +kernel
theorem dX12_isAlike_14 : decode cX12_isAlike 14 = .ok (.ifCond .le 30, 3) := by decide +kernel
theorem dX12_isAlike_17 : decode cX12_isAlike 17 = .ok (.aload_n 0, 1) := by decide +kernel
theorem dX12_isAlike_18 : decode cX12_isAlike 18 = .ok (.getfield 57, 3) := by decide +kernel
theorem dX12_isAlike_21 : decode cX12_isAlike 21 = .ok (.bipush 6, 2) := by decide +kernel
theorem dX12_isAlike_23 : decode cX12_isAlike 23 = .ok (.iload_n 1, 1) := by decide +kernel
theorem dX12_isAlike_24 : decode cX12_isAlike 24 = .ok (.imul, 1) := by decide +kernel
theorem dX12_isAlike_25 : decode cX12_isAlike 25 = .ok (.iload_n 3, 1) := by decide +kernel
theorem dX12_isAlike_26 : decode cX12_isAlike 26 = .ok (.iadd, 1) := by decide +kernel
theorem dX12_isAlike_27 : decode cX12_isAlike 27 = .ok (.iaload, 1) := by decide +kernel
theorem dX12_isAlike_28 : decode cX12_isAlike 28 = .ok (.aload_n 0, 1) := by decide +kernel
theorem dX12_isAlike_29 : decode cX12_isAlike 29 = .ok (.getfield 57, 3) := by decide +kernel
theorem dX12_isAlike_32 : decode cX12_isAlike 32 = .ok (.bipush 6, 2) := by decide +kernel
theorem dX12_isAlike_34 : decode cX12_isAlike 34 = .ok (.iload_n 2, 1) := by decide +kernel
theorem dX12_isAlike_35 : decode cX12_isAlike 35 = .ok (.imul, 1) := by decide +kernel
theorem dX12_isAlike_36 : decode cX12_isAlike 36 = .ok (.iload_n 3, 1) := by decide +kernel
theorem dX12_isAlike_37 : decode cX12_isAlike 37 = .ok (.iadd, 1) := by decide +kernel
theorem dX12_isAlike_38 : decode cX12_isAlike 38 = .ok (.iaload, 1) := by decide +kernel
theorem dX12_isAlike_39 : decode cX12_isAlike 39 = .ok (.if_icmp .eq 5, 3) := by decide +kernel
theorem dX12_isAlike_42 : decode cX12_isAlike 42 = .ok (.iconst 0, 1) := by decide +kernel
theorem dX12_isAlike_43 : decode cX12_isAlike 43 = .ok (.ireturn, 1) := by decide +kernel
theorem dX12_isAlike_44 : decode cX12_isAlike 44 = .ok (.iinc 3 1, 3) := by decide +kernel
theorem dX12_isAlike_47 : decode cX12_isAlike 47 = .ok (.goto (-45), 3) := by decide +kernel
theorem dX12_isAlike_50 : decode cX12_isAlike 50 = .ok (.iconst 1, 1) := by decide +kernel
theorem dX12_isAlike_51 : decode cX12_isAlike 51 = .ok (.ireturn, 1) := by decide +kernel
theorem dX12_leastLimit_0 : decode cX12_leastLimit 0 = .ok (.iconst (-1), 1) := by decide +kernel
theorem dX12_leastLimit_1 : decode cX12_leastLimit 1 = .ok (.istore_n 1, 1) := by decide +kernel
theorem dX12_leastLimit_2 : decode cX12_leastLimit 2 = .ok (.iconst 0, 1) := by decide +kernel
theorem dX12_leastLimit_3 : decode cX12_leastLimit 3 = .ok (.istore_n 2, 1) := by decide +kernel
theorem dX12_leastLimit_4 : decode cX12_leastLimit 4 = .ok (.iload_n 2, 1) := by decide +kernel
theorem dX12_leastLimit_5 : decode cX12_leastLimit 5 = .ok (.bipush 6, 2) := by decide +kernel
theorem dX12_leastLimit_7 : decode cX12_leastLimit 7 = .ok (.if_icmp .ge 39, 3) := by decide +kernel
theorem dX12_leastLimit_10 : decode cX12_leastLimit 10 = .ok (.aload_n 0, 1) := by decide +kernel
theorem dX12_leastLimit_11 : decode cX12_leastLimit 11 = .ok (.getfield 51, 3) := by decide +kernel
theorem dX12_leastLimit_14 : decode cX12_leastLimit 14 = .ok (.iload_n 2, 1) := by decide +kernel
theorem dX12_leastLimit_15 : decode cX12_leastLimit 15 = .ok (.iaload, 1) := by decide +kernel
theorem dX12_leastLimit_16 : decode cX12_leastLimit 16 = .ok (.ifCond .le 24, 3) := by decide +kernel
theorem dX12_leastLimit_19 : decode cX12_leastLimit 19 = .ok (.iload_n 1, 1) := by decide +kernel
theorem dX12_leastLimit_20 : decode cX12_leastLimit 20 = .ok (.ifCond .lt 18, 3) := by decide +kernel
theorem dX12_leastLimit_23 : decode cX12_leastLimit 23 = .ok (.aload_n 0, 1) := by decide +kernel
theorem dX12_leastLimit_24 : decode cX12_leastLimit 24 = .ok (.getfield 54, 3) := by decide +kernel
theorem dX12_leastLimit_27 : decode cX12_leastLimit 27 = .ok (.iload_n 2, 1) := by decide +kernel
theorem dX12_leastLimit_28 : decode cX12_leastLimit 28 = .ok (.iaload, 1) := by decide +kernel
theorem dX12_leastLimit_29 : decode cX12_leastLimit 29 = .ok (.aload_n 0, 1) := by decide +kernel
theorem dX12_leastLimit_30 : decode cX12_leastLimit 30 = .ok (.getfield 54, 3) := by decide +kernel
theorem dX12_leastLimit_33 : decode cX12_leastLimit 33 = .ok (.iload_n 1, 1) := by decide +kernel
theorem dX12_leastLimit_34 : decode cX12_leastLimit 34 = .ok (.iaload, 1) := by decide +kernel
theorem dX12_leastLimit_35 : decode cX12_leastLimit 35 = .ok (.if_icmp .ge 5, 3) := by decide +kernel
theorem dX12_leastLimit_38 : decode cX12_leastLimit 38 = .ok (.iload_n 2, 1) := by decide +kernel
theorem dX12_leastLimit_39 : decode cX12_leastLimit 39 = .ok (.istore_n 1, 1) := by decide +kernel
theorem dX12_leastLimit_40 : decode cX12_leastLimit 40 = .ok (.iinc 2 1, 3) := by decide +kernel
theorem dX12_leastLimit_43 : decode cX12_leastLimit 43 = .ok (.goto (-39), 3) := by decide +kernel
theorem dX12_leastLimit_46 : decode cX12_leastLimit 46 = .ok (.iload_n 1, 1) := by decide +kernel
theorem dX12_leastLimit_47 : decode cX12_leastLimit 47 = .ok (.ireturn, 1) := by decide +kernel
theorem dX12_found_0 : decode cX12_found 0 = .ok (.aload_n 0, 1) := by decide +kernel
theorem dX12_found_1 : decode cX12_found 1 = .ok (.iconst 0, 1) := by decide +kernel
theorem dX12_found_2 : decode cX12_found 2 = .ok (.putfield 73, 3) := by decide +kernel
theorem dX12_found_5 : decode cX12_found 5 = .ok (.aload_n 0, 1) := by decide +kernel
theorem dX12_found_6 : decode cX12_found 6 = .ok (.invokevirtual 100, 3) := by decide +kernel
theorem dX12_found_9 : decode cX12_found 9 = .ok (.ifCond .ne 17, 3) := by decide +kernel
theorem dX12_found_12 : decode cX12_found 12 = .ok (.aload_n 0, 1) := by decide +kernel
theorem dX12_found_13 : decode cX12_found 13 = .ok (.iconst 1, 1) := by decide +kernel
theorem dX12_found_14 : decode cX12_found 14 = .ok (.putfield 44, 3) := by decide +kernel
theorem dX12_found_17 : decode cX12_found 17 = .ok (.aload_n 0, 1) := by decide +kernel
theorem dX12_found_18 : decode cX12_found 18 = .ok (.getfield 41, 3) := by decide +kernel
theorem dX12_found_21 : decode cX12_found 21 = .ok (.iconst 0, 1) := by decide +kernel
theorem dX12_found_22 : decode cX12_found 22 = .ok (.iconst (-1), 1) := by decide +kernel
theorem dX12_found_23 : decode cX12_found 23 = .ok (.iastore, 1) := by decide +kernel
theorem dX12_found_24 : decode cX12_found 24 = .ok (.iconst 0, 1) := by decide +kernel
theorem dX12_found_25 : decode cX12_found 25 = .ok (.ireturn, 1) := by decide +kernel
theorem dX12_found_26 : decode cX12_found 26 = .ok (.aload_n 0, 1) := by decide +kernel
theorem dX12_found_27 : decode cX12_found 27 = .ok (.invokevirtual 104, 3) := by decide +kernel
theorem dX12_found_30 : decode cX12_found 30 = .ok (.ifCond .eq 5, 3) := by decide +kernel
theorem dX12_found_33 : decode cX12_found 33 = .ok (.iconst 1, 1) := by decide +kernel
theorem dX12_found_34 : decode cX12_found 34 = .ok (.ireturn, 1) := by decide +kernel
theorem dX12_found_35 : decode cX12_found 35 = .ok (.iconst 0, 1) := by decide +kernel
theorem dX12_found_36 : decode cX12_found 36 = .ok (.istore_n 1, 1) := by decide +kernel
theorem dX12_found_37 : decode cX12_found 37 = .ok (.iload_n 1, 1) := by decide +kernel
theorem dX12_found_38 : decode cX12_found 38 = .ok (.bipush 6, 2) := by decide +kernel
theorem dX12_found_40 : decode cX12_found 40 = .ok (.if_icmp .ge 21, 3) := by decide +kernel
theorem dX12_found_43 : decode cX12_found 43 = .ok (.aload_n 0, 1) := by decide +kernel
theorem dX12_found_44 : decode cX12_found 44 = .ok (.getfield 54, 3) := by decide +kernel
theorem dX12_found_47 : decode cX12_found 47 = .ok (.iload_n 1, 1) := by decide +kernel
theorem dX12_found_48 : decode cX12_found 48 = .ok (.aload_n 0, 1) := by decide +kernel
theorem dX12_found_49 : decode cX12_found 49 = .ok (.getfield 51, 3) := by decide +kernel
theorem dX12_found_52 : decode cX12_found 52 = .ok (.iload_n 1, 1) := by decide +kernel
theorem dX12_found_53 : decode cX12_found 53 = .ok (.iaload, 1) := by decide +kernel
theorem dX12_found_54 : decode cX12_found 54 = .ok (.iastore, 1) := by decide +kernel
theorem dX12_found_55 : decode cX12_found 55 = .ok (.iinc 1 1, 3) := by decide +kernel
theorem dX12_found_58 : decode cX12_found 58 = .ok (.goto (-21), 3) := by decide +kernel
theorem dX12_found_61 : decode cX12_found 61 = .ok (.iconst 0, 1) := by decide +kernel
theorem dX12_found_62 : decode cX12_found 62 = .ok (.istore_n 1, 1) := by decide +kernel
theorem dX12_found_63 : decode cX12_found 63 = .ok (.iload_n 1, 1) := by decide +kernel
theorem dX12_found_64 : decode cX12_found 64 = .ok (.bipush 64, 2) := by decide +kernel
theorem dX12_found_66 : decode cX12_found 66 = .ok (.if_icmp .gt 155, 3) := by decide +kernel
theorem dX12_found_69 : decode cX12_found 69 = .ok (.iconst 0, 1) := by decide +kernel
theorem dX12_found_70 : decode cX12_found 70 = .ok (.istore_n 2, 1) := by decide +kernel
theorem dX12_found_71 : decode cX12_found 71 = .ok (.iload_n 2, 1) := by decide +kernel
theorem dX12_found_72 : decode cX12_found 72 = .ok (.bipush 6, 2) := by decide +kernel
theorem dX12_found_74 : decode cX12_found 74 = .ok (.if_icmp .ge 28, 3) := by decide +kernel
theorem dX12_found_77 : decode cX12_found 77 = .ok (.aload_n 0, 1) := by decide +kernel
theorem dX12_found_78 : decode cX12_found 78 = .ok (.getfield 57, 3) := by decide +kernel
theorem dX12_found_81 : decode cX12_found 81 = .ok (.bipush 6, 2) := by decide +kernel
theorem dX12_found_83 : decode cX12_found 83 = .ok (.iload_n 1, 1) := by decide +kernel
theorem dX12_found_84 : decode cX12_found 84 = .ok (.imul, 1) := by decide +kernel
theorem dX12_found_85 : decode cX12_found 85 = .ok (.iload_n 2, 1) := by decide +kernel
theorem dX12_found_86 : decode cX12_found 86 = .ok (.iadd, 1) := by decide +kernel
theorem dX12_found_87 : decode cX12_found 87 = .ok (.aload_n 0, 1) := by decide +kernel
theorem dX12_found_88 : decode cX12_found 88 = .ok (.getfield 54, 3) := by decide +kernel
theorem dX12_found_91 : decode cX12_found 91 = .ok (.iload_n 2, 1) := by decide +kernel
theorem dX12_found_92 : decode cX12_found 92 = .ok (.iaload, 1) := by decide +kernel
theorem dX12_found_93 : decode cX12_found 93 = .ok (.iload_n 1, 1) := by decide +kernel
theorem dX12_found_94 : decode cX12_found 94 = .ok (.isub, 1) := by decide +kernel
theorem dX12_found_95 : decode cX12_found 95 = .ok (.iastore, 1) := by decide +kernel
theorem dX12_found_96 : decode cX12_found 96 = .ok (.iinc 2 1, 3) := by decide +kernel
theorem dX12_found_99 : decode cX12_found 99 = .ok (.goto (-28), 3) := by decide +kernel
theorem dX12_found_102 : decode cX12_found 102 = .ok (.iload_n 1, 1) := by decide +kernel
theorem dX12_found_103 : decode cX12_found 103 = .ok (.iconst 1, 1) := by decide +kernel
theorem dX12_found_104 : decode cX12_found 104 = .ok (.isub, 1) := by decide +kernel
theorem dX12_found_105 : decode cX12_found 105 = .ok (.istore_n 2, 1) := by decide +kernel
theorem dX12_found_106 : decode cX12_found 106 = .ok (.iload_n 2, 1) := by decide +kernel
theorem dX12_found_107 : decode cX12_found 107 = .ok (.ifCond .lt 68, 3) := by decide +kernel
theorem dX12_found_110 : decode cX12_found 110 = .ok (.iload_n 2, 1) := by decide +kernel
theorem dX12_found_111 : decode cX12_found 111 = .ok (.iload_n 1, 1) := by decide +kernel
theorem dX12_found_112 : decode cX12_found 112 = .ok (.bipush 16, 2) := by decide +kernel
theorem dX12_found_114 : decode cX12_found 114 = .ok (.isub, 1) := by decide +kernel
theorem dX12_found_115 : decode cX12_found 115 = .ok (.if_icmp .lt 60, 3) := by decide +kernel
theorem dX12_found_118 : decode cX12_found 118 = .ok (.aload_n 0, 1) := by decide +kernel
theorem dX12_found_119 : decode cX12_found 119 = .ok (.iload_n 1, 1) := by decide +kernel
theorem dX12_found_120 : decode cX12_found 120 = .ok (.iload_n 2, 1) := by decide +kernel
theorem dX12_found_121 : decode cX12_found 121 = .ok (.invokevirtual 107, 3) := by decide +kernel
theorem dX12_found_124 : decode cX12_found 124 = .ok (.ifCond .ne 6, 3) := by decide +kernel
theorem dX12_found_127 : decode cX12_found 127 = .ok (.goto 42, 3) := by decide +kernel
theorem dX12_found_130 : decode cX12_found 130 = .ok (.aload_n 0, 1) := by decide +kernel
theorem dX12_found_131 : decode cX12_found 131 = .ok (.iload_n 1, 1) := by decide +kernel
theorem dX12_found_132 : decode cX12_found 132 = .ok (.iload_n 2, 1) := by decide +kernel
theorem dX12_found_133 : decode cX12_found 133 = .ok (.isub, 1) := by decide +kernel
theorem dX12_found_134 : decode cX12_found 134 = .ok (.putfield 44, 3) := by decide +kernel
theorem dX12_found_137 : decode cX12_found 137 = .ok (.iconst 0, 1) := by decide +kernel
theorem dX12_found_138 : decode cX12_found 138 = .ok (.istore_n 3, 1) := by decide +kernel
theorem dX12_found_139 : decode cX12_found 139 = .ok (.iload_n 3, 1) := by decide +kernel
theorem dX12_found_140 : decode cX12_found 140 = .ok (.aload_n 0, 1) := by decide +kernel
theorem dX12_found_141 : decode cX12_found 141 = .ok (.getfield 44, 3) := by decide +kernel
theorem dX12_found_144 : decode cX12_found 144 = .ok (.if_icmp .ge 23, 3) := by decide +kernel
theorem dX12_found_147 : decode cX12_found 147 = .ok (.aload_n 0, 1) := by decide +kernel
theorem dX12_found_148 : decode cX12_found 148 = .ok (.getfield 41, 3) := by decide +kernel
theorem dX12_found_151 : decode cX12_found 151 = .ok (.iload_n 3, 1) := by decide +kernel
theorem dX12_found_152 : decode cX12_found 152 = .ok (.aload_n 0, 1) := by decide +kernel
theorem dX12_found_153 : decode cX12_found 153 = .ok (.getfield 60, 3) := by decide +kernel
theorem dX12_found_156 : decode cX12_found 156 = .ok (.iload_n 2, 1) := by decide +kernel
theorem dX12_found_157 : decode cX12_found 157 = .ok (.iload_n 3, 1) := by decide +kernel
theorem dX12_found_158 : decode cX12_found 158 = .ok (.iadd, 1) := by decide +kernel
theorem dX12_found_159 : decode cX12_found 159 = .ok (.iaload, 1) := by decide +kernel
theorem dX12_found_160 : decode cX12_found 160 = .ok (.iastore, 1) := by decide +kernel
theorem dX12_found_161 : decode cX12_found 161 = .ok (.iinc 3 1, 3) := by decide +kernel
theorem dX12_found_164 : decode cX12_found 164 = .ok (.goto (-25), 3) := by decide +kernel
theorem dX12_found_167 : decode cX12_found 167 = .ok (.iconst 0, 1) := by decide +kernel
theorem dX12_found_168 : decode cX12_found 168 = .ok (.ireturn, 1) := by decide +kernel
theorem dX12_found_169 : decode cX12_found 169 = .ok (.iinc 2 (-1), 3) := by decide +kernel
theorem dX12_found_172 : decode cX12_found 172 = .ok (.goto (-66), 3) := by decide +kernel
theorem dX12_found_175 : decode cX12_found 175 = .ok (.aload_n 0, 1) := by decide +kernel
theorem dX12_found_176 : decode cX12_found 176 = .ok (.invokevirtual 111, 3) := by decide +kernel
theorem dX12_found_179 : decode cX12_found 179 = .ok (.istore_n 2, 1) := by decide +kernel
theorem dX12_found_180 : decode cX12_found 180 = .ok (.aload_n 0, 1) := by decide +kernel
theorem dX12_found_181 : decode cX12_found 181 = .ok (.getfield 54, 3) := by decide +kernel
theorem dX12_found_184 : decode cX12_found 184 = .ok (.iload_n 2, 1) := by decide +kernel
theorem dX12_found_185 : decode cX12_found 185 = .ok (.iaload, 1) := by decide +kernel
theorem dX12_found_186 : decode cX12_found 186 = .ok (.iload_n 1, 1) := by decide +kernel
theorem dX12_found_187 : decode cX12_found 187 = .ok (.if_icmp .gt 5, 3) := by decide +kernel
theorem dX12_found_190 : decode cX12_found 190 = .ok (.iconst 2, 1) := by decide +kernel
theorem dX12_found_191 : decode cX12_found 191 = .ok (.ireturn, 1) := by decide +kernel
theorem dX12_found_192 : decode cX12_found 192 = .ok (.aload_n 0, 1) := by decide +kernel
theorem dX12_found_193 : decode cX12_found 193 = .ok (.getfield 60, 3) := by decide +kernel
theorem dX12_found_196 : decode cX12_found 196 = .ok (.iload_n 1, 1) := by decide +kernel
theorem dX12_found_197 : decode cX12_found 197 = .ok (.iload_n 2, 1) := by decide +kernel
theorem dX12_found_198 : decode cX12_found 198 = .ok (.iastore, 1) := by decide +kernel
theorem dX12_found_199 : decode cX12_found 199 = .ok (.aload_n 0, 1) := by decide +kernel
theorem dX12_found_200 : decode cX12_found 200 = .ok (.getfield 54, 3) := by decide +kernel
theorem dX12_found_203 : decode cX12_found 203 = .ok (.iload_n 2, 1) := by decide +kernel
theorem dX12_found_204 : decode cX12_found 204 = .ok (.iload_n 1, 1) := by decide +kernel
theorem dX12_found_205 : decode cX12_found 205 = .ok (.iconst 1, 1) := by decide +kernel
theorem dX12_found_206 : decode cX12_found 206 = .ok (.iadd, 1) := by decide +kernel
theorem dX12_found_207 : decode cX12_found 207 = .ok (.aload_n 0, 1) := by decide +kernel
theorem dX12_found_208 : decode cX12_found 208 = .ok (.getfield 51, 3) := by decide +kernel
theorem dX12_found_211 : decode cX12_found 211 = .ok (.iload_n 2, 1) := by decide +kernel
theorem dX12_found_212 : decode cX12_found 212 = .ok (.iaload, 1) := by decide +kernel
theorem dX12_found_213 : decode cX12_found 213 = .ok (.iadd, 1) := by decide +kernel
theorem dX12_found_214 : decode cX12_found 214 = .ok (.iastore, 1) := by decide +kernel
theorem dX12_found_215 : decode cX12_found 215 = .ok (.iinc 1 1, 3) := by decide +kernel
theorem dX12_found_218 : decode cX12_found 218 = .ok (.goto (-155), 3) := by decide +kernel
theorem dX12_found_221 : decode cX12_found 221 = .ok (.iconst 3, 1) := by decide +kernel
theorem dX12_found_222 : decode cX12_found 222 = .ok (.ireturn, 1) := by decide +kernel
theorem dX12_reg_0 : decode cX12_reg 0 = .ok (.aload_n 0, 1) := by decide +kernel
theorem dX12_reg_1 : decode cX12_reg 1 = .ok (.getfield 7, 3) := by decide +kernel
theorem dX12_reg_4 : decode cX12_reg 4 = .ok (.iconst 0, 1) := by decide +kernel
theorem dX12_reg_5 : decode cX12_reg 5 = .ok (.bipush 8, 2) := by decide +kernel
theorem dX12_reg_7 : decode cX12_reg 7 = .ok (.iload_n 1, 1) := by decide +kernel
theorem dX12_reg_8 : decode cX12_reg 8 = .ok (.imul, 1) := by decide +kernel
theorem dX12_reg_9 : decode cX12_reg 9 = .ok (.iadd, 1) := by decide +kernel
theorem dX12_reg_10 : decode cX12_reg 10 = .ok (.iload_n 2, 1) := by decide +kernel
theorem dX12_reg_11 : decode cX12_reg 11 = .ok (.iadd, 1) := by decide +kernel
theorem dX12_reg_12 : decode cX12_reg 12 = .ok (.iaload, 1) := by decide +kernel
theorem dX12_reg_13 : decode cX12_reg 13 = .ok (.ireturn, 1) := by decide +kernel
theorem dX12_gets_0 : decode cX12_gets 0 = .ok (.aload_n 0, 1) := by decide +kernel
theorem dX12_gets_1 : decode cX12_gets 1 = .ok (.getfield 7, 3) := by decide +kernel
theorem dX12_gets_4 : decode cX12_gets 4 = .ok (.iconst 0, 1) := by decide +kernel
theorem dX12_gets_5 : decode cX12_gets 5 = .ok (.bipush 8, 2) := by decide +kernel
theorem dX12_gets_7 : decode cX12_gets 7 = .ok (.iload_n 1, 1) := by decide +kernel
theorem dX12_gets_8 : decode cX12_gets 8 = .ok (.imul, 1) := by decide +kernel
theorem dX12_gets_9 : decode cX12_gets 9 = .ok (.iadd, 1) := by decide +kernel
theorem dX12_gets_10 : decode cX12_gets 10 = .ok (.iload_n 2, 1) := by decide +kernel
theorem dX12_gets_11 : decode cX12_gets 11 = .ok (.iadd, 1) := by decide +kernel
theorem dX12_gets_12 : decode cX12_gets 12 = .ok (.iload_n 3, 1) := by decide +kernel
theorem dX12_gets_13 : decode cX12_gets 13 = .ok (.iastore, 1) := by decide +kernel
theorem dX12_gets_14 : decode cX12_gets 14 = .ok (.return_, 1) := by decide +kernel
theorem dX12_part_0 : decode cX12_part 0 = .ok (.aload_n 0, 1) := by decide +kernel
theorem dX12_part_1 : decode cX12_part 1 = .ok (.getfield 16, 3) := by decide +kernel
theorem dX12_part_4 : decode cX12_part 4 = .ok (.iconst 4, 1) := by decide +kernel
theorem dX12_part_5 : decode cX12_part 5 = .ok (.bipush 24, 2) := by decide +kernel
theorem dX12_part_7 : decode cX12_part 7 = .ok (.iload_n 1, 1) := by decide +kernel
theorem dX12_part_8 : decode cX12_part 8 = .ok (.imul, 1) := by decide +kernel
theorem dX12_part_9 : decode cX12_part 9 = .ok (.iload_n 2, 1) := by decide +kernel
theorem dX12_part_10 : decode cX12_part 10 = .ok (.iadd, 1) := by decide +kernel
theorem dX12_part_11 : decode cX12_part 11 = .ok (.imul, 1) := by decide +kernel
theorem dX12_part_12 : decode cX12_part 12 = .ok (.iload_n 3, 1) := by decide +kernel
theorem dX12_part_13 : decode cX12_part 13 = .ok (.iadd, 1) := by decide +kernel
theorem dX12_part_14 : decode cX12_part 14 = .ok (.iaload, 1) := by decide +kernel
theorem dX12_part_15 : decode cX12_part 15 = .ok (.ireturn, 1) := by decide +kernel
theorem dX12_writes_0 : decode cX12_writes 0 = .ok (.iload_n 2, 1) := by decide +kernel
theorem dX12_writes_1 : decode cX12_writes 1 = .ok (.iconst 1, 1) := by decide +kernel
theorem dX12_writes_2 : decode cX12_writes 2 = .ok (.iand, 1) := by decide +kernel
theorem dX12_writes_3 : decode cX12_writes 3 = .ok (.istore 4, 2) := by decide +kernel
theorem dX12_writes_5 : decode cX12_writes 5 = .ok (.aload_n 0, 1) := by decide +kernel
theorem dX12_writes_6 : decode cX12_writes 6 = .ok (.getfield 7, 3) := by decide +kernel
theorem dX12_writes_9 : decode cX12_writes 9 = .ok (.sipush 486, 3) := by decide +kernel
theorem dX12_writes_12 : decode cX12_writes 12 = .ok (.iload_n 1, 1) := by decide +kernel
theorem dX12_writes_13 : decode cX12_writes 13 = .ok (.iadd, 1) := by decide +kernel
theorem dX12_writes_14 : decode cX12_writes 14 = .ok (.iaload, 1) := by decide +kernel
theorem dX12_writes_15 : decode cX12_writes 15 = .ok (.iload 4, 2) := by decide +kernel
theorem dX12_writes_17 : decode cX12_writes 17 = .ok (.if_icmp .ne 4, 3) := by decide +kernel
theorem dX12_writes_20 : decode cX12_writes 20 = .ok (.return_, 1) := by decide +kernel
theorem dX12_writes_21 : decode cX12_writes 21 = .ok (.aload_n 0, 1) := by decide +kernel
theorem dX12_writes_22 : decode cX12_writes 22 = .ok (.getfield 7, 3) := by decide +kernel
theorem dX12_writes_25 : decode cX12_writes 25 = .ok (.sipush 486, 3) := by decide +kernel
theorem dX12_writes_28 : decode cX12_writes 28 = .ok (.iload_n 1, 1) := by decide +kernel
theorem dX12_writes_29 : decode cX12_writes 29 = .ok (.iadd, 1) := by decide +kernel
theorem dX12_writes_30 : decode cX12_writes 30 = .ok (.iload 4, 2) := by decide +kernel
theorem dX12_writes_32 : decode cX12_writes 32 = .ok (.iastore, 1) := by decide +kernel
theorem dX12_writes_33 : decode cX12_writes 33 = .ok (.aload_n 0, 1) := by decide +kernel
theorem dX12_writes_34 : decode cX12_writes 34 = .ok (.getfield 7, 3) := by decide +kernel
theorem dX12_writes_37 : decode cX12_writes 37 = .ok (.sipush 682, 3) := by decide +kernel
theorem dX12_writes_40 : decode cX12_writes 40 = .ok (.iaload, 1) := by decide +kernel
theorem dX12_writes_41 : decode cX12_writes 41 = .ok (.bipush 40, 2) := by decide +kernel
theorem dX12_writes_43 : decode cX12_writes 43 = .ok (.if_icmp .ge 16, 3) := by decide +kernel
theorem dX12_writes_46 : decode cX12_writes 46 = .ok (.aload_n 0, 1) := by decide +kernel
theorem dX12_writes_47 : decode cX12_writes 47 = .ok (.getfield 7, 3) := by decide +kernel
theorem dX12_writes_50 : decode cX12_writes 50 = .ok (.sipush 682, 3) := by decide +kernel
theorem dX12_writes_53 : decode cX12_writes 53 = .ok (.iaload, 1) := by decide +kernel
theorem dX12_writes_54 : decode cX12_writes 54 = .ok (.iconst 1, 1) := by decide +kernel
theorem dX12_writes_55 : decode cX12_writes 55 = .ok (.iadd, 1) := by decide +kernel
theorem dX12_writes_56 : decode cX12_writes 56 = .ok (.goto 5, 3) := by decide +kernel
theorem dX12_writes_59 : decode cX12_writes 59 = .ok (.bipush 40, 2) := by decide +kernel
theorem dX12_writes_61 : decode cX12_writes 61 = .ok (.istore 5, 2) := by decide +kernel
theorem dX12_writes_63 : decode cX12_writes 63 = .ok (.iload 5, 2) := by decide +kernel
theorem dX12_writes_65 : decode cX12_writes 65 = .ok (.iconst 1, 1) := by decide +kernel
theorem dX12_writes_66 : decode cX12_writes 66 = .ok (.isub, 1) := by decide +kernel
theorem dX12_writes_67 : decode cX12_writes 67 = .ok (.istore 6, 2) := by decide +kernel
theorem dX12_writes_69 : decode cX12_writes 69 = .ok (.iload 6, 2) := by decide +kernel
theorem dX12_writes_71 : decode cX12_writes 71 = .ok (.ifCond .le 58, 3) := by decide +kernel
theorem dX12_writes_74 : decode cX12_writes 74 = .ok (.iconst 0, 1) := by decide +kernel
theorem dX12_writes_75 : decode cX12_writes 75 = .ok (.istore 7, 2) := by decide +kernel
theorem dX12_writes_77 : decode cX12_writes 77 = .ok (.iload 7, 2) := by decide +kernel
theorem dX12_writes_79 : decode cX12_writes 79 = .ok (.iconst 4, 1) := by decide +kernel
theorem dX12_writes_80 : decode cX12_writes 80 = .ok (.if_icmp .ge 43, 3) := by decide +kernel
theorem dX12_writes_83 : decode cX12_writes 83 = .ok (.aload_n 0, 1) := by decide +kernel
theorem dX12_writes_84 : decode cX12_writes 84 = .ok (.getfield 7, 3) := by decide +kernel
theorem dX12_writes_87 : decode cX12_writes 87 = .ok (.sipush 522, 3) := by decide +kernel
