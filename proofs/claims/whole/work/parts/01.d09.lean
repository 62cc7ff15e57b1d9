theorem dX12_edge_49 : decode cX12_edge 49 = .ok (.iconst (-1), 1) := by decide +kernel
theorem dX12_edge_50 : decode cX12_edge 50 = .ok (.ireturn, 1) := by decide +kernel
theorem dX12_channel_0 : decode cX12_channel 0 = .ok (.aload_n 0, 1) := by decide +kernel
theorem dX12_channel_1 : decode cX12_channel 1 = .ok (.iconst 0, 1) := by decide +kernel
theorem dX12_channel_2 : decode cX12_channel 2 = .ok (.putfield 73, 3) := by decide +kernel
theorem dX12_channel_5 : decode cX12_channel 5 = .ok (.iload_n 1, 1) := by decide +kernel
theorem dX12_channel_6 : decode cX12_channel 6 = .ok (.iconst 0, 1) := by decide +kernel
theorem dX12_channel_7 : decode cX12_channel 7 = .ok (.iconst 3, 1) := by decide +kernel
theorem dX12_channel_8 : decode cX12_channel 8 = .ok (.invokestatic 76, 3) := by decide +kernel
theorem dX12_channel_11 : decode cX12_channel 11 = .ok (.ifCond .eq 12, 3) := by decide +kernel
theorem dX12_channel_14 : decode cX12_channel 14 = .ok (.iload_n 2, 1) := by decide +kernel
theorem dX12_channel_15 : decode cX12_channel 15 = .ok (.iconst 0, 1) := by decide +kernel
theorem dX12_channel_16 : decode cX12_channel 16 = .ok (.iconst 2, 1) := by decide +kernel
theorem dX12_channel_17 : decode cX12_channel 17 = .ok (.invokestatic 76, 3) := by decide +kernel
theorem dX12_channel_20 : decode cX12_channel 20 = .ok (.ifCond .ne 5, 3) := by decide +kernel
theorem dX12_channel_23 : decode cX12_channel 23 = .ok (.iconst (-1), 1) := by decide +kernel
theorem dX12_channel_24 : decode cX12_channel 24 = .ok (.ireturn, 1) := by decide +kernel
theorem dX12_channel_25 : decode cX12_channel 25 = .ok (.aload_n 0, 1) := by decide +kernel
theorem dX12_channel_26 : decode cX12_channel 26 = .ok (.getfield 7, 3) := by decide +kernel
theorem dX12_channel_29 : decode cX12_channel 29 = .ok (.sipush 518, 3) := by decide +kernel
theorem dX12_channel_32 : decode cX12_channel 32 = .ok (.iload_n 1, 1) := by decide +kernel
theorem dX12_channel_33 : decode cX12_channel 33 = .ok (.iadd, 1) := by decide +kernel
theorem dX12_channel_34 : decode cX12_channel 34 = .ok (.iaload, 1) := by decide +kernel
theorem dX12_channel_35 : decode cX12_channel 35 = .ok (.istore_n 3, 1) := by decide +kernel
theorem dX12_channel_36 : decode cX12_channel 36 = .ok (.iload_n 3, 1) := by decide +kernel
theorem dX12_channel_37 : decode cX12_channel 37 = .ok (.ifCond .le 19, 3) := by decide +kernel
theorem dX12_channel_40 : decode cX12_channel 40 = .ok (.aload_n 0, 1) := by decide +kernel
theorem dX12_channel_41 : decode cX12_channel 41 = .ok (.getfield 7, 3) := by decide +kernel
theorem dX12_channel_44 : decode cX12_channel 44 = .ok (.sipush 494, 3) := by decide +kernel
theorem dX12_channel_47 : decode cX12_channel 47 = .ok (.bipush 6, 2) := by decide +kernel
theorem dX12_channel_49 : decode cX12_channel 49 = .ok (.iload_n 1, 1) := by decide +kernel
theorem dX12_channel_50 : decode cX12_channel 50 = .ok (.imul, 1) := by decide +kernel
theorem dX12_channel_51 : decode cX12_channel 51 = .ok (.iadd, 1) := by decide +kernel
theorem dX12_channel_52 : decode cX12_channel 52 = .ok (.iaload, 1) := by decide +kernel
theorem dX12_channel_53 : decode cX12_channel 53 = .ok (.goto 4, 3) := by decide +kernel
theorem dX12_channel_56 : decode cX12_channel 56 = .ok (.iconst (-1), 1) := by decide +kernel
theorem dX12_channel_57 : decode cX12_channel 57 = .ok (.istore 4, 2) := by decide +kernel
theorem dX12_channel_59 : decode cX12_channel 59 = .ok (.iload_n 2, 1) := by decide +kernel
theorem dX12_channel_60 : decode cX12_channel 60 = .ok (.iconst 2, 1) := by decide +kernel
theorem dX12_channel_61 : decode cX12_channel 61 = .ok (.if_icmp .ne 6, 3) := by decide +kernel
theorem dX12_channel_64 : decode cX12_channel 64 = .ok (.iload 4, 2) := by decide +kernel
theorem dX12_channel_66 : decode cX12_channel 66 = .ok (.ireturn, 1) := by decide +kernel
theorem dX12_channel_67 : decode cX12_channel 67 = .ok (.iload 4, 2) := by decide +kernel
theorem dX12_channel_69 : decode cX12_channel 69 = .ok (.ifCond .lt 30, 3) := by decide +kernel
theorem dX12_channel_72 : decode cX12_channel 72 = .ok (.aload_n 0, 1) := by decide +kernel
theorem dX12_channel_73 : decode cX12_channel 73 = .ok (.getfield 7, 3) := by decide +kernel
theorem dX12_channel_76 : decode cX12_channel 76 = .ok (.sipush 438, 3) := by decide +kernel
theorem dX12_channel_79 : decode cX12_channel 79 = .ok (.iload 4, 2) := by decide +kernel
theorem dX12_channel_81 : decode cX12_channel 81 = .ok (.iadd, 1) := by decide +kernel
theorem dX12_channel_82 : decode cX12_channel 82 = .ok (.iaload, 1) := by decide +kernel
theorem dX12_channel_83 : decode cX12_channel 83 = .ok (.iload_n 2, 1) := by decide +kernel
theorem dX12_channel_84 : decode cX12_channel 84 = .ok (.ifCond .ne 7, 3) := by decide +kernel
theorem dX12_channel_87 : decode cX12_channel 87 = .ok (.iconst 2, 1) := by decide +kernel
theorem dX12_channel_88 : decode cX12_channel 88 = .ok (.goto 4, 3) := by decide +kernel
theorem dX12_channel_91 : decode cX12_channel 91 = .ok (.iconst 3, 1) := by decide +kernel
theorem dX12_channel_92 : decode cX12_channel 92 = .ok (.if_icmp .ne 7, 3) := by decide +kernel
theorem dX12_channel_95 : decode cX12_channel 95 = .ok (.iload_n 3, 1) := by decide +kernel
theorem dX12_channel_96 : decode cX12_channel 96 = .ok (.goto 4, 3) := by decide +kernel
theorem dX12_channel_99 : decode cX12_channel 99 = .ok (.iconst 0, 1) := by decide +kernel
theorem dX12_channel_100 : decode cX12_channel 100 = .ok (.ireturn, 1) := by decide +kernel
theorem dX12_table_0 : decode cX12_table 0 = .ok (.aload_n 0, 1) := by decide +kernel
theorem dX12_table_1 : decode cX12_table 1 = .ok (.iconst 0, 1) := by decide +kernel
theorem dX12_table_2 : decode cX12_table 2 = .ok (.putfield 73, 3) := by decide +kernel
theorem dX12_table_5 : decode cX12_table 5 = .ok (.iload_n 1, 1) := by decide +kernel
theorem dX12_table_6 : decode cX12_table 6 = .ok (.iconst 0, 1) := by decide +kernel
theorem dX12_table_7 : decode cX12_table 7 = .ok (.aload_n 0, 1) := by decide +kernel
theorem dX12_table_8 : decode cX12_table 8 = .ok (.getfield 44, 3) := by decide +kernel
theorem dX12_table_11 : decode cX12_table 11 = .ok (.iconst 1, 1) := by decide +kernel
theorem dX12_table_12 : decode cX12_table 12 = .ok (.isub, 1) := by decide +kernel
theorem dX12_table_13 : decode cX12_table 13 = .ok (.invokestatic 76, 3) := by decide +kernel
theorem dX12_table_16 : decode cX12_table 16 = .ok (.ifCond .eq 12, 3) := by decide +kernel
theorem dX12_table_19 : decode cX12_table 19 = .ok (.aload_n 0, 1) := by decide +kernel
theorem dX12_table_20 : decode cX12_table 20 = .ok (.getfield 41, 3) := by decide +kernel
theorem dX12_table_23 : decode cX12_table 23 = .ok (.iload_n 1, 1) := by decide +kernel
theorem dX12_table_24 : decode cX12_table 24 = .ok (.iaload, 1) := by decide +kernel
theorem dX12_table_25 : decode cX12_table 25 = .ok (.goto 5, 3) := by decide +kernel
theorem dX12_table_28 : decode cX12_table 28 = .ok (.bipush (-2), 2) := by decide +kernel
theorem dX12_table_30 : decode cX12_table 30 = .ok (.ireturn, 1) := by decide +kernel
theorem dX12_isInLoop_0 : decode cX12_isInLoop 0 = .ok (.iload_n 3, 1) := by decide +kernel
theorem dX12_isInLoop_1 : decode cX12_isInLoop 1 = .ok (.aload_n 0, 1) := by decide +kernel
theorem dX12_isInLoop_2 : decode cX12_isInLoop 2 = .ok (.iload_n 1, 1) := by decide +kernel
theorem dX12_isInLoop_3 : decode cX12_isInLoop 3 = .ok (.iload_n 2, 1) := by decide +kernel
theorem dX12_isInLoop_4 : decode cX12_isInLoop 4 = .ok (.iconst 2, 1) := by decide +kernel
theorem dX12_isInLoop_5 : decode cX12_isInLoop 5 = .ok (.invokevirtual 115, 3) := by decide +kernel
theorem dX12_isInLoop_8 : decode cX12_isInLoop 8 = .ok (.if_icmp .lt 12, 3) := by decide +kernel
theorem dX12_isInLoop_11 : decode cX12_isInLoop 11 = .ok (.iload_n 3, 1) := by decide +kernel
theorem dX12_isInLoop_12 : decode cX12_isInLoop 12 = .ok (.iload_n 2, 1) := by decide +kernel
theorem dX12_isInLoop_13 : decode cX12_isInLoop 13 = .ok (.if_icmp .gt 7, 3) := by decide +kernel
theorem dX12_isInLoop_16 : decode cX12_isInLoop 16 = .ok (.iconst 1, 1) := by decide +kernel
theorem dX12_isInLoop_17 : decode cX12_isInLoop 17 = .ok (.goto 4, 3) := by decide +kernel
theorem dX12_isInLoop_20 : decode cX12_isInLoop 20 = .ok (.iconst 0, 1) := by decide +kernel
theorem dX12_isInLoop_21 : decode cX12_isInLoop 21 = .ok (.ireturn, 1) := by decide +kernel
theorem dX12_isFine_0 : decode cX12_isFine 0 = .ok (.aload_n 0, 1) := by decide +kernel
theorem dX12_isFine_1 : decode cX12_isFine 1 = .ok (.iload_n 1, 1) := by decide +kernel
theorem dX12_isFine_2 : decode cX12_isFine 2 = .ok (.iload 4, 2) := by decide +kernel
theorem dX12_isFine_4 : decode cX12_isFine 4 = .ok (.iload_n 2, 1) := by decide +kernel
theorem dX12_isFine_5 : decode cX12_isFine 5 = .ok (.invokevirtual 179, 3) := by decide +kernel
theorem dX12_isFine_8 : decode cX12_isFine 8 = .ok (.ifCond .eq 15, 3) := by decide +kernel
theorem dX12_isFine_11 : decode cX12_isFine 11 = .ok (.iload_n 3, 1) := by decide +kernel
theorem dX12_isFine_12 : decode cX12_isFine 12 = .ok (.iload 4, 2) := by decide +kernel
theorem dX12_isFine_14 : decode cX12_isFine 14 = .ok (.if_icmp .gt 7, 3) := by decide +kernel
theorem dX12_isFine_17 : decode cX12_isFine 17 = .ok (.iconst 1, 1) := by decide +kernel
theorem dX12_isFine_18 : decode cX12_isFine 18 = .ok (.goto 4, 3) := by decide +kernel
theorem dX12_isFine_21 : decode cX12_isFine 21 = .ok (.iconst 0, 1) := by decide +kernel
theorem dX12_isFine_22 : decode cX12_isFine 22 = .ok (.ireturn, 1) := by decide +kernel
theorem dX12_isFine_23 : decode cX12_isFine 23 = .ok (.aload_n 0, 1) := by decide +kernel
theorem dX12_isFine_24 : decode cX12_isFine 24 = .ok (.iload_n 1, 1) := by decide +kernel
theorem dX12_isFine_25 : decode cX12_isFine 25 = .ok (.iload 4, 2) := by decide +kernel
theorem dX12_isFine_27 : decode cX12_isFine 27 = .ok (.iload_n 3, 1) := by decide +kernel
theorem dX12_isFine_28 : decode cX12_isFine 28 = .ok (.invokevirtual 179, 3) := by decide +kernel
theorem dX12_isFine_31 : decode cX12_isFine 31 = .ok (.ifCond .eq 15, 3) := by decide +kernel
theorem dX12_isFine_34 : decode cX12_isFine 34 = .ok (.iload_n 3, 1) := by decide +kernel
theorem dX12_isFine_35 : decode cX12_isFine 35 = .ok (.aload_n 0, 1) := by decide +kernel
theorem dX12_isFine_36 : decode cX12_isFine 36 = .ok (.iload_n 1, 1) := by decide +kernel
theorem dX12_isFine_37 : decode cX12_isFine 37 = .ok (.iload 4, 2) := by decide +kernel
theorem dX12_isFine_39 : decode cX12_isFine 39 = .ok (.iconst 2, 1) := by decide +kernel
theorem dX12_isFine_40 : decode cX12_isFine 40 = .ok (.invokevirtual 115, 3) := by decide +kernel
theorem dX12_isFine_43 : decode cX12_isFine 43 = .ok (.if_icmp .ne 7, 3) := by decide +kernel
theorem dX12_isFine_46 : decode cX12_isFine 46 = .ok (.iconst 1, 1) := by decide +kernel
theorem dX12_isFine_47 : decode cX12_isFine 47 = .ok (.goto 4, 3) := by decide +kernel
theorem dX12_isFine_50 : decode cX12_isFine 50 = .ok (.iconst 0, 1) := by decide +kernel
theorem dX12_isFine_51 : decode cX12_isFine 51 = .ok (.ireturn, 1) := by decide +kernel
theorem dX12_isPlain_0 : decode cX12_isPlain 0 = .ok (.iconst 0, 1) := by decide +kernel
theorem dX12_isPlain_1 : decode cX12_isPlain 1 = .ok (.istore_n 2, 1) := by decide +kernel
theorem dX12_isPlain_2 : decode cX12_isPlain 2 = .ok (.iload_n 2, 1) := by decide +kernel
theorem dX12_isPlain_3 : decode cX12_isPlain 3 = .ok (.aload_n 0, 1) := by decide +kernel
theorem dX12_isPlain_4 : decode cX12_isPlain 4 = .ok (.getfield 19, 3) := by decide +kernel
theorem dX12_isPlain_7 : decode cX12_isPlain 7 = .ok (.iload_n 1, 1) := by decide +kernel
theorem dX12_isPlain_8 : decode cX12_isPlain 8 = .ok (.iaload, 1) := by decide +kernel
theorem dX12_isPlain_9 : decode cX12_isPlain 9 = .ok (.if_icmp .ge 180, 3) := by decide +kernel
theorem dX12_isPlain_12 : decode cX12_isPlain 12 = .ok (.aload_n 0, 1) := by decide +kernel
theorem dX12_isPlain_13 : decode cX12_isPlain 13 = .ok (.iload_n 1, 1) := by decide +kernel
theorem dX12_isPlain_14 : decode cX12_isPlain 14 = .ok (.iload_n 2, 1) := by decide +kernel
theorem dX12_isPlain_15 : decode cX12_isPlain 15 = .ok (.iconst 0, 1) := by decide +kernel
theorem dX12_isPlain_16 : decode cX12_isPlain 16 = .ok (.invokevirtual 115, 3) := by decide +kernel
theorem dX12_isPlain_19 : decode cX12_isPlain 19 = .ok (.istore_n 3, 1) := by decide +kernel
theorem dX12_isPlain_20 : decode cX12_isPlain 20 = .ok (.aload_n 0, 1) := by decide +kernel
theorem dX12_isPlain_21 : decode cX12_isPlain 21 = .ok (.iload_n 1, 1) := by decide +kernel
theorem dX12_isPlain_22 : decode cX12_isPlain 22 = .ok (.iload_n 2, 1) := by decide +kernel
theorem dX12_isPlain_23 : decode cX12_isPlain 23 = .ok (.iconst 2, 1) := by decide +kernel
theorem dX12_isPlain_24 : decode cX12_isPlain 24 = .ok (.invokevirtual 115, 3) := by decide +kernel
theorem dX12_isPlain_27 : decode cX12_isPlain 27 = .ok (.istore 4, 2) := by decide +kernel
theorem dX12_isPlain_29 : decode cX12_isPlain 29 = .ok (.iload_n 3, 1) := by decide +kernel
theorem dX12_isPlain_30 : decode cX12_isPlain 30 = .ok (.bipush 11, 2) := by decide +kernel
theorem dX12_isPlain_32 : decode cX12_isPlain 32 = .ok (.if_icmp .eq 27, 3) := by decide +kernel
theorem dX12_isPlain_35 : decode cX12_isPlain 35 = .ok (.iload_n 3, 1) := by decide +kernel
theorem dX12_isPlain_36 : decode cX12_isPlain 36 = .ok (.bipush 13, 2) := by decide +kernel
theorem dX12_isPlain_38 : decode cX12_isPlain 38 = .ok (.if_icmp .eq 21, 3) := by decide +kernel
theorem dX12_isPlain_41 : decode cX12_isPlain 41 = .ok (.iload_n 3, 1) := by decide +kernel
theorem dX12_isPlain_42 : decode cX12_isPlain 42 = .ok (.bipush 14, 2) := by decide +kernel
theorem dX12_isPlain_44 : decode cX12_isPlain 44 = .ok (.if_icmp .eq 15, 3) := by decide +kernel
theorem dX12_isPlain_47 : decode cX12_isPlain 47 = .ok (.iload_n 3, 1) := by decide +kernel
theorem dX12_isPlain_48 : decode cX12_isPlain 48 = .ok (.bipush 16, 2) := by decide +kernel
theorem dX12_isPlain_50 : decode cX12_isPlain 50 = .ok (.if_icmp .lt 11, 3) := by decide +kernel
theorem dX12_isPlain_53 : decode cX12_isPlain 53 = .ok (.iload_n 3, 1) := by decide +kernel
theorem dX12_isPlain_54 : decode cX12_isPlain 54 = .ok (.bipush 18, 2) := by decide +kernel
theorem dX12_isPlain_56 : decode cX12_isPlain 56 = .ok (.if_icmp .gt 5, 3) := by decide +kernel
theorem dX12_isPlain_59 : decode cX12_isPlain 59 = .ok (.iconst 0, 1) := by decide +kernel
theorem dX12_isPlain_60 : decode cX12_isPlain 60 = .ok (.ireturn, 1) := by decide +kernel
theorem dX12_isPlain_61 : decode cX12_isPlain 61 = .ok (.iload_n 3, 1) := by decide +kernel
theorem dX12_isPlain_62 : decode cX12_isPlain 62 = .ok (.bipush 7, 2) := by decide +kernel
theorem dX12_isPlain_64 : decode cX12_isPlain 64 = .ok (.if_icmp .eq 9, 3) := by decide +kernel
theorem dX12_isPlain_67 : decode cX12_isPlain 67 = .ok (.iload_n 3, 1) := by decide +kernel
theorem dX12_isPlain_68 : decode cX12_isPlain 68 = .ok (.bipush 8, 2) := by decide +kernel
theorem dX12_isPlain_70 : decode cX12_isPlain 70 = .ok (.if_icmp .ne 7, 3) := by decide +kernel
theorem dX12_isPlain_73 : decode cX12_isPlain 73 = .ok (.iconst 1, 1) := by decide +kernel
theorem dX12_isPlain_74 : decode cX12_isPlain 74 = .ok (.goto 4, 3) := by decide +kernel
theorem dX12_isPlain_77 : decode cX12_isPlain 77 = .ok (.iconst 0, 1) := by decide +kernel
theorem dX12_isPlain_78 : decode cX12_isPlain 78 = .ok (.istore 5, 2) := by decide +kernel
theorem dX12_isPlain_80 : decode cX12_isPlain 80 = .ok (.iload 5, 2) := by decide +kernel
theorem dX12_isPlain_82 : decode cX12_isPlain 82 = .ok (.ifCond .eq 11, 3) := by decide +kernel
theorem dX12_isPlain_85 : decode cX12_isPlain 85 = .ok (.iload 4, 2) := by decide +kernel
theorem dX12_isPlain_87 : decode cX12_isPlain 87 = .ok (.iload_n 2, 1) := by decide +kernel
theorem dX12_isPlain_88 : decode cX12_isPlain 88 = .ok (.if_icmp .gt 5, 3) := by decide +kernel
theorem dX12_isPlain_91 : decode cX12_isPlain 91 = .ok (.iconst 0, 1) := by decide +kernel
theorem dX12_isPlain_92 : decode cX12_isPlain 92 = .ok (.ireturn, 1) := by decide +kernel
theorem dX12_isPlain_93 : decode cX12_isPlain 93 = .ok (.iconst 0, 1) := by decide +kernel
theorem dX12_isPlain_94 : decode cX12_isPlain 94 = .ok (.istore 6, 2) := by decide +kernel
theorem dX12_isPlain_96 : decode cX12_isPlain 96 = .ok (.iload 6, 2) := by decide +kernel
theorem dX12_isPlain_98 : decode cX12_isPlain 98 = .ok (.aload_n 0, 1) := by decide +kernel
theorem dX12_isPlain_99 : decode cX12_isPlain 99 = .ok (.getfield 19, 3) := by decide +kernel
theorem dX12_isPlain_102 : decode cX12_isPlain 102 = .ok (.iload_n 1, 1) := by decide +kernel
theorem dX12_isPlain_103 : decode cX12_isPlain 103 = .ok (.iaload, 1) := by decide +kernel
theorem dX12_isPlain_104 : decode cX12_isPlain 104 = .ok (.if_icmp .ge 79, 3) := by decide +kernel
theorem dX12_isPlain_107 : decode cX12_isPlain 107 = .ok (.aload_n 0, 1) := by decide +kernel
theorem dX12_isPlain_108 : decode cX12_isPlain 108 = .ok (.iload_n 1, 1) := by decide +kernel
theorem dX12_isPlain_109 : decode cX12_isPlain 109 = .ok (.iload 6, 2) := by decide +kernel
theorem dX12_isPlain_111 : decode cX12_isPlain 111 = .ok (.iconst 0, 1) := by decide +kernel
theorem dX12_isPlain_112 : decode cX12_isPlain 112 = .ok (.invokevirtual 115, 3) := by decide +kernel
theorem dX12_isPlain_115 : decode cX12_isPlain 115 = .ok (.bipush 9, 2) := by decide +kernel
theorem dX12_isPlain_117 : decode cX12_isPlain 117 = .ok (.if_icmp .eq 6, 3) := by decide +kernel
theorem dX12_isPlain_120 : decode cX12_isPlain 120 = .ok (.goto 57, 3) := by decide +kernel
theorem dX12_isPlain_123 : decode cX12_isPlain 123 = .ok (.iload 5, 2) := by decide +kernel
theorem dX12_isPlain_125 : decode cX12_isPlain 125 = .ok (.ifCond .eq 18, 3) := by decide +kernel
theorem dX12_isPlain_128 : decode cX12_isPlain 128 = .ok (.aload_n 0, 1) := by decide +kernel
theorem dX12_isPlain_129 : decode cX12_isPlain 129 = .ok (.iload_n 1, 1) := by decide +kernel
theorem dX12_isPlain_130 : decode cX12_isPlain 130 = .ok (.iload_n 2, 1) := by decide +kernel
theorem dX12_isPlain_131 : decode cX12_isPlain 131 = .ok (.iload 4, 2) := by decide +kernel
theorem dX12_isPlain_133 : decode cX12_isPlain 133 = .ok (.iload 6, 2) := by decide +kernel
theorem dX12_isPlain_135 : decode cX12_isPlain 135 = .ok (.invokevirtual 182, 3) := by decide +kernel
theorem dX12_isPlain_138 : decode cX12_isPlain 138 = .ok (.ifCond .ne 5, 3) := by decide +kernel
theorem dX12_isPlain_141 : decode cX12_isPlain 141 = .ok (.iconst 0, 1) := by decide +kernel
theorem dX12_isPlain_142 : decode cX12_isPlain 142 = .ok (.ireturn, 1) := by decide +kernel
theorem dX12_isPlain_143 : decode cX12_isPlain 143 = .ok (.iload_n 3, 1) := by decide +kernel
theorem dX12_isPlain_144 : decode cX12_isPlain 144 = .ok (.bipush 9, 2) := by decide +kernel
theorem dX12_isPlain_146 : decode cX12_isPlain 146 = .ok (.if_icmp .ne 31, 3) := by decide +kernel
theorem dX12_isPlain_149 : decode cX12_isPlain 149 = .ok (.iload 6, 2) := by decide +kernel
theorem dX12_isPlain_151 : decode cX12_isPlain 151 = .ok (.iload_n 2, 1) := by decide +kernel
theorem dX12_isPlain_152 : decode cX12_isPlain 152 = .ok (.if_icmp .ge 25, 3) := by decide +kernel
theorem dX12_isPlain_155 : decode cX12_isPlain 155 = .ok (.iload 4, 2) := by decide +kernel
theorem dX12_isPlain_157 : decode cX12_isPlain 157 = .ok (.aload_n 0, 1) := by decide +kernel
theorem dX12_isPlain_158 : decode cX12_isPlain 158 = .ok (.iload_n 1, 1) := by decide +kernel
theorem dX12_isPlain_159 : decode cX12_isPlain 159 = .ok (.iload 6, 2) := by decide +kernel
theorem dX12_isPlain_161 : decode cX12_isPlain 161 = .ok (.iconst 2, 1) := by decide +kernel
theorem dX12_isPlain_162 : decode cX12_isPlain 162 = .ok (.invokevirtual 115, 3) := by decide +kernel
theorem dX12_isPlain_165 : decode cX12_isPlain 165 = .ok (.if_icmp .le 12, 3) := by decide +kernel
theorem dX12_isPlain_168 : decode cX12_isPlain 168 = .ok (.iload 4, 2) := by decide +kernel
theorem dX12_isPlain_170 : decode cX12_isPlain 170 = .ok (.iload 6, 2) := by decide +kernel
theorem dX12_isPlain_172 : decode cX12_isPlain 172 = .ok (.if_icmp .gt 5, 3) := by decide +kernel
theorem dX12_isPlain_175 : decode cX12_isPlain 175 = .ok (.iconst 0, 1) := by decide +kernel
theorem dX12_isPlain_176 : decode cX12_isPlain 176 = .ok (.ireturn, 1) := by decide +kernel
theorem dX12_isPlain_177 : decode cX12_isPlain 177 = .ok (.iinc 6 1, 3) := by decide +kernel
theorem dX12_isPlain_180 : decode cX12_isPlain 180 = .ok (.goto (-84), 3) := by decide +kernel
theorem dX12_isPlain_183 : decode cX12_isPlain 183 = .ok (.iinc 2 1, 3) := by decide +kernel
theorem dX12_isPlain_186 : decode cX12_isPlain 186 = .ok (.goto (-184), 3) := by decide +kernel
theorem dX12_isPlain_189 : decode cX12_isPlain 189 = .ok (.aload_n 0, 1) := by decide +kernel
theorem dX12_isPlain_190 : decode cX12_isPlain 190 = .ok (.getfield 19, 3) := by decide +kernel
theorem dX12_isPlain_193 : decode cX12_isPlain 193 = .ok (.iload_n 1, 1) := by decide +kernel
theorem dX12_isPlain_194 : decode cX12_isPlain 194 = .ok (.iaload, 1) := by decide +kernel
theorem dX12_isPlain_195 : decode cX12_isPlain 195 = .ok (.ifCond .le 7, 3) := by decide +kernel
theorem dX12_isPlain_198 : decode cX12_isPlain 198 = .ok (.iconst 1, 1) := by decide +kernel
theorem dX12_isPlain_199 : decode cX12_isPlain 199 = .ok (.goto 4, 3) := by decide +kernel
theorem dX12_isPlain_202 : decode cX12_isPlain 202 = .ok (.iconst 0, 1) := by decide +kernel
theorem dX12_isPlain_203 : decode cX12_isPlain 203 = .ok (.ireturn, 1) := by decide +kernel
theorem dX12_held_0 : decode cX12_held 0 = .ok (.lload_n 0, 1) := by decide +kernel
theorem dX12_held_1 : decode cX12_held 1 = .ok (.ldc2_w 186, 3) := by decide +kernel
theorem dX12_held_4 : decode cX12_held 4 = .ok (.lcmp, 1) := by decide +kernel
theorem dX12_held_5 : decode cX12_held 5 = .ok (.ifCond .le 9, 3) := by decide +kernel
theorem dX12_held_8 : decode cX12_held 8 = .ok (.ldc2_w 186, 3) := by decide +kernel
theorem dX12_held_11 : decode cX12_held 11 = .ok (.goto 4, 3) := by decide +kernel
theorem dX12_held_14 : decode cX12_held 14 = .ok (.lload_n 0, 1) := by decide +kernel
theorem dX12_held_15 : decode cX12_held 15 = .ok (.lreturn, 1) := by decide +kernel
theorem dX12_takesFrom_0 : decode cX12_takesFrom 0 = .ok (.iload_n 2, 1) := by decide +kernel
theorem dX12_takesFrom_1 : decode cX12_takesFrom 1 = .ok (.iload_n 3, 1) := by decide +kernel
theorem dX12_takesFrom_2 : decode cX12_takesFrom 2 = .ok (.if_icmp .lt 5, 3) := by decide +kernel
theorem dX12_takesFrom_5 : decode cX12_takesFrom 5 = .ok (.lconst 0, 1) := by decide +kernel
theorem dX12_takesFrom_6 : decode cX12_takesFrom 6 = .ok (.lreturn, 1) := by decide +kernel
theorem dX12_takesFrom_7 : decode cX12_takesFrom 7 = .ok (.bipush 25, 2) := by decide +kernel
theorem dX12_takesFrom_9 : decode cX12_takesFrom 9 = .ok (.iload_n 2, 1) := by decide +kernel
theorem dX12_takesFrom_10 : decode cX12_takesFrom 10 = .ok (.imul, 1) := by decide +kernel
theorem dX12_takesFrom_11 : decode cX12_takesFrom 11 = .ok (.iload_n 3, 1) := by decide +kernel
theorem dX12_takesFrom_12 : decode cX12_takesFrom 12 = .ok (.iadd, 1) := by decide +kernel
theorem dX12_takesFrom_13 : decode cX12_takesFrom 13 = .ok (.istore 4, 2) := by decide +kernel
theorem dX12_takesFrom_15 : decode cX12_takesFrom 15 = .ok (.aload_n 0, 1) := by decide +kernel
theorem dX12_takesFrom_16 : decode cX12_takesFrom 16 = .ok (.getfield 63, 3) := by decide +kernel
theorem dX12_takesFrom_19 : decode cX12_takesFrom 19 = .ok (.iload 4, 2) := by decide +kernel
theorem dX12_takesFrom_21 : decode cX12_takesFrom 21 = .ok (.laload, 1) := by decide +kernel
theorem dX12_takesFrom_22 : decode cX12_takesFrom 22 = .ok (.lconst 0, 1) := by decide +kernel
theorem dX12_takesFrom_23 : decode cX12_takesFrom 23 = .ok (.lcmp, 1) := by decide +kernel
theorem dX12_takesFrom_24 : decode cX12_takesFrom 24 = .ok (.ifCond .lt 11, 3) := by decide +kernel
theorem dX12_takesFrom_27 : decode cX12_takesFrom 27 = .ok (.aload_n 0, 1) := by decide +kernel
theorem dX12_takesFrom_28 : decode cX12_takesFrom 28 = .ok (.getfield 63, 3) := by decide +kernel
theorem dX12_takesFrom_31 : decode cX12_takesFrom 31 = .ok (.iload 4, 2) := by decide +kernel
theorem dX12_takesFrom_33 : decode cX12_takesFrom 33 = .ok (.laload, 1) := by decide +kernel
theorem dX12_takesFrom_34 : decode cX12_takesFrom 34 = .ok (.lreturn, 1) := by decide +kernel
theorem dX12_takesFrom_35 : decode cX12_takesFrom 35 = .ok (.iconst (-1), 1) := by decide +kernel
theorem dX12_takesFrom_36 : decode cX12_takesFrom 36 = .ok (.istore 5, 2) := by decide +kernel
theorem dX12_takesFrom_38 : decode cX12_takesFrom 38 = .ok (.iload_n 2, 1) := by decide +kernel
theorem dX12_takesFrom_39 : decode cX12_takesFrom 39 = .ok (.istore 6, 2) := by decide +kernel
theorem dX12_takesFrom_41 : decode cX12_takesFrom 41 = .ok (.iload 6, 2) := by decide +kernel
theorem dX12_takesFrom_43 : decode cX12_takesFrom 43 = .ok (.iload_n 3, 1) := by decide +kernel
theorem dX12_takesFrom_44 : decode cX12_takesFrom 44 = .ok (.if_icmp .ge 38, 3) := by decide +kernel
theorem dX12_takesFrom_47 : decode cX12_takesFrom 47 = .ok (.aload_n 0, 1) := by decide +kernel
theorem dX12_takesFrom_48 : decode cX12_takesFrom 48 = .ok (.iload_n 1, 1) := by decide +kernel
theorem dX12_takesFrom_49 : decode cX12_takesFrom 49 = .ok (.iload 6, 2) := by decide +kernel
theorem dX12_takesFrom_51 : decode cX12_takesFrom 51 = .ok (.iconst 0, 1) := by decide +kernel
theorem dX12_takesFrom_52 : decode cX12_takesFrom 52 = .ok (.invokevirtual 115, 3) := by decide +kernel
theorem dX12_takesFrom_55 : decode cX12_takesFrom 55 = .ok (.bipush 9, 2) := by decide +kernel
theorem dX12_takesFrom_57 : decode cX12_takesFrom 57 = .ok (.if_icmp .ne 19, 3) := by decide +kernel
theorem dX12_takesFrom_60 : decode cX12_takesFrom 60 = .ok (.aload_n 0, 1) := by decide +kernel
theorem dX12_takesFrom_61 : decode cX12_takesFrom 61 = .ok (.iload_n 1, 1) := by decide +kernel
theorem dX12_takesFrom_62 : decode cX12_takesFrom 62 = .ok (.iload 6, 2) := by decide +kernel
theorem dX12_takesFrom_64 : decode cX12_takesFrom 64 = .ok (.iconst 2, 1) := by decide +kernel
theorem dX12_takesFrom_65 : decode cX12_takesFrom 65 = .ok (.invokevirtual 115, 3) := by decide +kernel
theorem dX12_takesFrom_68 : decode cX12_takesFrom 68 = .ok (.iload_n 2, 1) := by decide +kernel
theorem dX12_takesFrom_69 : decode cX12_takesFrom 69 = .ok (.if_icmp .ne 7, 3) := by decide +kernel
theorem dX12_takesFrom_72 : decode cX12_takesFrom 72 = .ok (.iload 6, 2) := by decide +kernel
theorem dX12_takesFrom_74 : decode cX12_takesFrom 74 = .ok (.istore 5, 2) := by decide +kernel
theorem dX12_takesFrom_76 : decode cX12_takesFrom 76 = .ok (.iinc 6 1, 3) := by decide +kernel
theorem dX12_takesFrom_79 : decode cX12_takesFrom 79 = .ok (.goto (-38), 3) := by decide +kernel
theorem dX12_takesFrom_82 : decode cX12_takesFrom 82 = .ok (.aload_n 0, 1) := by decide +kernel
theorem dX12_takesFrom_83 : decode cX12_takesFrom 83 = .ok (.iload_n 1, 1) := by decide +kernel
theorem dX12_takesFrom_84 : decode cX12_takesFrom 84 = .ok (.iload_n 2, 1) := by decide +kernel
theorem dX12_takesFrom_85 : decode cX12_takesFrom 85 = .ok (.iconst 0, 1) := by decide +kernel
theorem dX12_takesFrom_86 : decode cX12_takesFrom 86 = .ok (.invokevirtual 115, 3) := by decide +kernel
theorem dX12_takesFrom_89 : decode cX12_takesFrom 89 = .ok (.istore 6, 2) := by decide +kernel
theorem dX12_takesFrom_91 : decode cX12_takesFrom 91 = .ok (.iload 5, 2) := by decide +kernel
theorem dX12_takesFrom_93 : decode cX12_takesFrom 93 = .ok (.ifCond .lt 47, 3) := by decide +kernel
theorem dX12_takesFrom_96 : decode cX12_takesFrom 96 = .ok (.aload_n 0, 1) := by decide +kernel
theorem dX12_takesFrom_97 : decode cX12_takesFrom 97 = .ok (.iload_n 1, 1) := by decide +kernel
theorem dX12_takesFrom_98 : decode cX12_takesFrom 98 = .ok (.iload 5, 2) := by decide +kernel
theorem dX12_takesFrom_100 : decode cX12_takesFrom 100 = .ok (.iconst 1, 1) := by decide +kernel
theorem dX12_takesFrom_101 : decode cX12_takesFrom 101 = .ok (.invokevirtual 115, 3) := by decide +kernel
theorem dX12_takesFrom_104 : decode cX12_takesFrom 104 = .ok (.iconst 1, 1) := by decide +kernel
theorem dX12_takesFrom_105 : decode cX12_takesFrom 105 = .ok (.iadd, 1) := by decide +kernel
theorem dX12_takesFrom_106 : decode cX12_takesFrom 106 = .ok (.i2l, 1) := by decide +kernel
theorem dX12_takesFrom_107 : decode cX12_takesFrom 107 = .ok (.aload_n 0, 1) := by decide +kernel
theorem dX12_takesFrom_108 : decode cX12_takesFrom 108 = .ok (.iload_n 1, 1) := by decide +kernel
theorem dX12_takesFrom_109 : decode cX12_takesFrom 109 = .ok (.iload_n 2, 1) := by decide +kernel
theorem dX12_takesFrom_110 : decode cX12_takesFrom 110 = .ok (.iload 5, 2) := by decide +kernel
theorem dX12_takesFrom_112 : decode cX12_takesFrom 112 = .ok (.invokevirtual 188, 3) := by decide +kernel
theorem dX12_takesFrom_115 : decode cX12_takesFrom 115 = .ok (.lconst 1, 1) := by decide +kernel
theorem dX12_takesFrom_116 : decode cX12_takesFrom 116 = .ok (.ladd, 1) := by decide +kernel
theorem dX12_takesFrom_117 : decode cX12_takesFrom 117 = .ok (.invokestatic 192, 3) := by decide +kernel
theorem dX12_takesFrom_120 : decode cX12_takesFrom 120 = .ok (.lmul, 1) := by decide +kernel
theorem dX12_takesFrom_121 : decode cX12_takesFrom 121 = .ok (.invokestatic 192, 3) := by decide +kernel
theorem dX12_takesFrom_124 : decode cX12_takesFrom 124 = .ok (.aload_n 0, 1) := by decide +kernel
theorem dX12_takesFrom_125 : decode cX12_takesFrom 125 = .ok (.iload_n 1, 1) := by decide +kernel
theorem dX12_takesFrom_126 : decode cX12_takesFrom 126 = .ok (.iload 5, 2) := by decide +kernel
theorem dX12_takesFrom_128 : decode cX12_takesFrom 128 = .ok (.iconst 1, 1) := by decide +kernel
theorem dX12_takesFrom_129 : decode cX12_takesFrom 129 = .ok (.iadd, 1) := by decide +kernel
theorem dX12_takesFrom_130 : decode cX12_takesFrom 130 = .ok (.iload_n 3, 1) := by decide +kernel
theorem dX12_takesFrom_131 : decode cX12_takesFrom 131 = .ok (.invokevirtual 188, 3) := by decide +kernel
theorem dX12_takesFrom_134 : decode cX12_takesFrom 134 = .ok (.ladd, 1) := by decide +kernel
theorem dX12_takesFrom_135 : decode cX12_takesFrom 135 = .ok (.lstore 7, 2) := by decide +kernel
theorem dX12_takesFrom_137 : decode cX12_takesFrom 137 = .ok (.goto 110, 3) := by decide +kernel
theorem dX12_takesFrom_140 : decode cX12_takesFrom 140 = .ok (.iload 6, 2) := by decide +kernel
theorem dX12_takesFrom_142 : decode cX12_takesFrom 142 = .ok (.bipush 7, 2) := by decide +kernel
theorem dX12_takesFrom_144 : decode cX12_takesFrom 144 = .ok (.if_icmp .ne 23, 3) := by decide +kernel
theorem dX12_takesFrom_147 : decode cX12_takesFrom 147 = .ok (.lconst 1, 1) := by decide +kernel
theorem dX12_takesFrom_148 : decode cX12_takesFrom 148 = .ok (.aload_n 0, 1) := by decide +kernel
theorem dX12_takesFrom_149 : decode cX12_takesFrom 149 = .ok (.iload_n 1, 1) := by decide +kernel
theorem dX12_takesFrom_150 : decode cX12_takesFrom 150 = .ok (.aload_n 0, 1) := by decide +kernel
theorem dX12_takesFrom_151 : decode cX12_takesFrom 151 = .ok (.iload_n 1, 1) := by decide +kernel
theorem dX12_takesFrom_152 : decode cX12_takesFrom 152 = .ok (.iload_n 2, 1) := by decide +kernel
theorem dX12_takesFrom_153 : decode cX12_takesFrom 153 = .ok (.iconst 2, 1) := by decide +kernel
theorem dX12_takesFrom_154 : decode cX12_takesFrom 154 = .ok (.invokevirtual 115, 3) := by decide +kernel
theorem dX12_takesFrom_157 : decode cX12_takesFrom 157 = .ok (.iload_n 3, 1) := by decide +kernel
theorem dX12_takesFrom_158 : decode cX12_takesFrom 158 = .ok (.invokevirtual 188, 3) := by decide +kernel
theorem dX12_takesFrom_161 : decode cX12_takesFrom 161 = .ok (.ladd, 1) := by decide +kernel
theorem dX12_takesFrom_162 : decode cX12_takesFrom 162 = .ok (.lstore 7, 2) := by decide +kernel
theorem dX12_takesFrom_164 : decode cX12_takesFrom 164 = .ok (.goto 83, 3) := by decide +kernel
theorem dX12_takesFrom_167 : decode cX12_takesFrom 167 = .ok (.iload 6, 2) := by decide +kernel
theorem dX12_takesFrom_169 : decode cX12_takesFrom 169 = .ok (.bipush 8, 2) := by decide +kernel
theorem dX12_takesFrom_171 : decode cX12_takesFrom 171 = .ok (.if_icmp .ne 63, 3) := by decide +kernel
theorem dX12_takesFrom_174 : decode cX12_takesFrom 174 = .ok (.aload_n 0, 1) := by decide +kernel
theorem dX12_takesFrom_175 : decode cX12_takesFrom 175 = .ok (.iload_n 1, 1) := by decide +kernel
theorem dX12_takesFrom_176 : decode cX12_takesFrom 176 = .ok (.aload_n 0, 1) := by decide +kernel
theorem dX12_takesFrom_177 : decode cX12_takesFrom 177 = .ok (.iload_n 1, 1) := by decide +kernel
theorem dX12_takesFrom_178 : decode cX12_takesFrom 178 = .ok (.iload_n 2, 1) := by decide +kernel
theorem dX12_takesFrom_179 : decode cX12_takesFrom 179 = .ok (.iconst 2, 1) := by decide +kernel
theorem dX12_takesFrom_180 : decode cX12_takesFrom 180 = .ok (.invokevirtual 115, 3) := by decide +kernel
theorem dX12_takesFrom_183 : decode cX12_takesFrom 183 = .ok (.iload_n 3, 1) := by decide +kernel
theorem dX12_takesFrom_184 : decode cX12_takesFrom 184 = .ok (.invokevirtual 188, 3) := by decide +kernel
theorem dX12_takesFrom_187 : decode cX12_takesFrom 187 = .ok (.lstore 9, 2) := by decide +kernel
theorem dX12_takesFrom_189 : decode cX12_takesFrom 189 = .ok (.aload_n 0, 1) := by decide +kernel
theorem dX12_takesFrom_190 : decode cX12_takesFrom 190 = .ok (.iload_n 1, 1) := by decide +kernel
theorem dX12_takesFrom_191 : decode cX12_takesFrom 191 = .ok (.iload_n 2, 1) := by decide +kernel
theorem dX12_takesFrom_192 : decode cX12_takesFrom 192 = .ok (.iconst 1, 1) := by decide +kernel
theorem dX12_takesFrom_193 : decode cX12_takesFrom 193 = .ok (.iadd, 1) := by decide +kernel
theorem dX12_takesFrom_194 : decode cX12_takesFrom 194 = .ok (.iload_n 3, 1) := by decide +kernel
theorem dX12_takesFrom_195 : decode cX12_takesFrom 195 = .ok (.invokevirtual 188, 3) := by decide +kernel
theorem dX12_takesFrom_198 : decode cX12_takesFrom 198 = .ok (.lstore 11, 2) := by decide +kernel
theorem dX12_takesFrom_200 : decode cX12_takesFrom 200 = .ok (.lconst 1, 1) := by decide +kernel
theorem dX12_takesFrom_201 : decode cX12_takesFrom 201 = .ok (.lload 9, 2) := by decide +kernel
theorem dX12_takesFrom_203 : decode cX12_takesFrom 203 = .ok (.lload 11, 2) := by decide +kernel
theorem dX12_takesFrom_205 : decode cX12_takesFrom 205 = .ok (.lcmp, 1) := by decide +kernel
theorem dX12_takesFrom_206 : decode cX12_takesFrom 206 = .ok (.ifCond .le 7, 3) := by decide +kernel
theorem dX12_takesFrom_209 : decode cX12_takesFrom 209 = .ok (.iconst 1, 1) := by decide +kernel
theorem dX12_takesFrom_210 : decode cX12_takesFrom 210 = .ok (.goto 4, 3) := by decide +kernel
theorem dX12_takesFrom_213 : decode cX12_takesFrom 213 = .ok (.iconst 0, 1) := by decide +kernel
theorem dX12_takesFrom_214 : decode cX12_takesFrom 214 = .ok (.aload_n 0, 1) := by decide +kernel
theorem dX12_takesFrom_215 : decode cX12_takesFrom 215 = .ok (.getfield 196, 3) := by decide +kernel
theorem dX12_takesFrom_218 : decode cX12_takesFrom 218 = .ok (.if_icmp .ne 8, 3) := by decide +kernel
theorem dX12_takesFrom_221 : decode cX12_takesFrom 221 = .ok (.lload 9, 2) := by decide +kernel
theorem dX12_takesFrom_223 : decode cX12_takesFrom 223 = .ok (.goto 5, 3) := by decide +kernel
theorem dX12_takesFrom_226 : decode cX12_takesFrom 226 = .ok (.lload 11, 2) := by decide +kernel
theorem dX12_takesFrom_228 : decode cX12_takesFrom 228 = .ok (.ladd, 1) := by decide +kernel
theorem dX12_takesFrom_229 : decode cX12_takesFrom 229 = .ok (.lstore 7, 2) := by decide +kernel
theorem dX12_takesFrom_231 : decode cX12_takesFrom 231 = .ok (.goto 16, 3) := by decide +kernel
theorem dX12_takesFrom_234 : decode cX12_takesFrom 234 = .ok (.lconst 1, 1) := by decide +kernel
theorem dX12_takesFrom_235 : decode cX12_takesFrom 235 = .ok (.aload_n 0, 1) := by decide +kernel
theorem dX12_takesFrom_236 : decode cX12_takesFrom 236 = .ok (.iload_n 1, 1) := by decide +kernel
theorem dX12_takesFrom_237 : decode cX12_takesFrom 237 = .ok (.iload_n 2, 1) := by decide +kernel
theorem dX12_takesFrom_238 : decode cX12_takesFrom 238 = .ok (.iconst 1, 1) := by decide +kernel
theorem dX12_takesFrom_239 : decode cX12_takesFrom 239 = .ok (.iadd, 1) := by decide +kernel
theorem dX12_takesFrom_240 : decode cX12_takesFrom 240 = .ok (.iload_n 3, 1) := by decide +kernel
theorem dX12_takesFrom_241 : decode cX12_takesFrom 241 = .ok (.invokevirtual 188, 3) := by decide +kernel
theorem dX12_takesFrom_244 : decode cX12_takesFrom 244 = .ok (.ladd, 1) := by decide +kernel
theorem dX12_takesFrom_245 : decode cX12_takesFrom 245 = .ok (.lstore 7, 2) := by decide +kernel
theorem dX12_takesFrom_247 : decode cX12_takesFrom 247 = .ok (.aload_n 0, 1) := by decide +kernel
theorem dX12_takesFrom_248 : decode cX12_takesFrom 248 = .ok (.getfield 63, 3) := by decide +kernel
theorem dX12_takesFrom_251 : decode cX12_takesFrom 251 = .ok (.iload 4, 2) := by decide +kernel
theorem dX12_takesFrom_253 : decode cX12_takesFrom 253 = .ok (.lload 7, 2) := by decide +kernel
theorem dX12_takesFrom_255 : decode cX12_takesFrom 255 = .ok (.invokestatic 192, 3) := by decide +kernel
theorem dX12_takesFrom_258 : decode cX12_takesFrom 258 = .ok (.lastore, 1) := by decide +kernel
theorem dX12_takesFrom_259 : decode cX12_takesFrom 259 = .ok (.aload_n 0, 1) := by decide +kernel
theorem dX12_takesFrom_260 : decode cX12_takesFrom 260 = .ok (.getfield 63, 3) := by decide +kernel
theorem dX12_takesFrom_263 : decode cX12_takesFrom 263 = .ok (.iload 4, 2) := by decide +kernel
theorem dX12_takesFrom_265 : decode cX12_takesFrom 265 = .ok (.laload, 1) := by decide +kernel
theorem dX12_takesFrom_266 : decode cX12_takesFrom 266 = .ok (.lreturn, 1) := by decide +kernel
theorem dX12_counted_0 : decode cX12_counted 0 = .ok (.iconst 0, 1) := by decide +kernel
theorem dX12_counted_1 : decode cX12_counted 1 = .ok (.istore_n 3, 1) := by decide +kernel
theorem dX12_counted_2 : decode cX12_counted 2 = .ok (.iload_n 3, 1) := by decide +kernel
theorem dX12_counted_3 : decode cX12_counted 3 = .ok (.sipush 625, 3) := by decide +kernel
theorem dX12_counted_6 : decode cX12_counted 6 = .ok (.if_icmp .ge 18, 3) := by decide +kernel
theorem dX12_counted_9 : decode cX12_counted 9 = .ok (.aload_n 0, 1) := by decide +kernel
theorem dX12_counted_10 : decode cX12_counted 10 = .ok (.getfield 63, 3) := by decide +kernel
theorem dX12_counted_13 : decode cX12_counted 13 = .ok (.iload_n 3, 1) := by decide +kernel
theorem dX12_counted_14 : decode cX12_counted 14 = .ok (.ldc2_w 200, 3) := by decide +kernel
theorem dX12_counted_17 : decode cX12_counted 17 = .ok (.lastore, 1) := by decide +kernel
theorem dX12_counted_18 : decode cX12_counted 18 = .ok (.iinc 3 1, 3) := by decide +kernel
theorem dX12_counted_21 : decode cX12_counted 21 = .ok (.goto (-19), 3) := by decide +kernel
theorem dX12_counted_24 : decode cX12_counted 24 = .ok (.aload_n 0, 1) := by decide +kernel
theorem dX12_counted_25 : decode cX12_counted 25 = .ok (.iload_n 2, 1) := by decide +kernel
theorem dX12_counted_26 : decode cX12_counted 26 = .ok (.putfield 196, 3) := by decide +kernel
theorem dX12_counted_29 : decode cX12_counted 29 = .ok (.aload_n 0, 1) := by decide +kernel
theorem dX12_counted_30 : decode cX12_counted 30 = .ok (.iload_n 1, 1) := by decide +kernel
theorem dX12_counted_31 : decode cX12_counted 31 = .ok (.iconst 0, 1) := by decide +kernel
theorem dX12_counted_32 : decode cX12_counted 32 = .ok (.aload_n 0, 1) := by decide +kernel
theorem dX12_counted_33 : decode cX12_counted 33 = .ok (.getfield 19, 3) := by decide +kernel
theorem dX12_counted_36 : decode cX12_counted 36 = .ok (.iload_n 1, 1) := by decide +kernel
theorem dX12_counted_37 : decode cX12_counted 37 = .ok (.iaload, 1) := by decide +kernel
theorem dX12_counted_38 : decode cX12_counted 38 = .ok (.invokevirtual 188, 3) := by decide +kernel
theorem dX12_counted_41 : decode cX12_counted 41 = .ok (.l2i, 1) := by decide +kernel
theorem dX12_counted_42 : decode cX12_counted 42 = .ok (.ireturn, 1) := by decide +kernel
theorem dX12_hasSlot_0 : decode cX12_hasSlot 0 = .ok (.iconst 0, 1) := by decide +kernel
theorem dX12_hasSlot_1 : decode cX12_hasSlot 1 = .ok (.istore_n 2, 1) := by decide +kernel
theorem dX12_hasSlot_2 : decode cX12_hasSlot 2 = .ok (.iload_n 2, 1) := by decide +kernel
theorem dX12_hasSlot_3 : decode cX12_hasSlot 3 = .ok (.aload_n 0, 1) := by decide +kernel
theorem dX12_hasSlot_4 : decode cX12_hasSlot 4 = .ok (.getfield 44, 3) := by decide +kernel
theorem dX12_hasSlot_7 : decode cX12_hasSlot 7 = .ok (.if_icmp .ge 21, 3) := by decide +kernel
theorem dX12_hasSlot_10 : decode cX12_hasSlot 10 = .ok (.aload_n 0, 1) := by decide +kernel
theorem dX12_hasSlot_11 : decode cX12_hasSlot 11 = .ok (.getfield 41, 3) := by decide +kernel
theorem dX12_hasSlot_14 : decode cX12_hasSlot 14 = .ok (.iload_n 2, 1) := by decide +kernel
theorem dX12_hasSlot_15 : decode cX12_hasSlot 15 = .ok (.iaload, 1) := by decide +kernel
theorem dX12_hasSlot_16 : decode cX12_hasSlot 16 = .ok (.iload_n 1, 1) := by decide +kernel
theorem dX12_hasSlot_17 : decode cX12_hasSlot 17 = .ok (.if_icmp .ne 5, 3) := by decide +kernel
theorem dX12_hasSlot_20 : decode cX12_hasSlot 20 = .ok (.iconst 1, 1) := by decide +kernel
theorem dX12_hasSlot_21 : decode cX12_hasSlot 21 = .ok (.ireturn, 1) := by decide +kernel
theorem dX12_hasSlot_22 : decode cX12_hasSlot 22 = .ok (.iinc 2 1, 3) := by decide +kernel
theorem dX12_hasSlot_25 : decode cX12_hasSlot 25 = .ok (.goto (-23), 3) := by decide +kernel
theorem dX12_hasSlot_28 : decode cX12_hasSlot 28 = .ok (.iconst 0, 1) := by decide +kernel
theorem dX12_hasSlot_29 : decode cX12_hasSlot 29 = .ok (.ireturn, 1) := by decide +kernel
theorem dX12_ticksFrom_0 : decode cX12_ticksFrom 0 = .ok (.iconst 0, 1) := by decide +kernel
theorem dX12_ticksFrom_1 : decode cX12_ticksFrom 1 = .ok (.istore 4, 2) := by decide +kernel
theorem dX12_ticksFrom_3 : decode cX12_ticksFrom 3 = .ok (.iconst 0, 1) := by decide +kernel
theorem dX12_ticksFrom_4 : decode cX12_ticksFrom 4 = .ok (.istore 5, 2) := by decide +kernel
theorem dX12_ticksFrom_6 : decode cX12_ticksFrom 6 = .ok (.iload 5, 2) := by decide +kernel
theorem dX12_ticksFrom_8 : decode cX12_ticksFrom 8 = .ok (.aload_n 0, 1) := by decide +kernel
theorem dX12_ticksFrom_9 : decode cX12_ticksFrom 9 = .ok (.getfield 44, 3) := by decide +kernel
theorem dX12_ticksFrom_12 : decode cX12_ticksFrom 12 = .ok (.if_icmp .ge 23, 3) := by decide +kernel
theorem dX12_ticksFrom_15 : decode cX12_ticksFrom 15 = .ok (.aload_n 0, 1) := by decide +kernel
theorem dX12_ticksFrom_16 : decode cX12_ticksFrom 16 = .ok (.getfield 41, 3) := by decide +kernel
theorem dX12_ticksFrom_19 : decode cX12_ticksFrom 19 = .ok (.iload 5, 2) := by decide +kernel
theorem dX12_ticksFrom_21 : decode cX12_ticksFrom 21 = .ok (.iaload, 1) := by decide +kernel
theorem dX12_ticksFrom_22 : decode cX12_ticksFrom 22 = .ok (.iload_n 2, 1) := by decide +kernel
theorem dX12_ticksFrom_23 : decode cX12_ticksFrom 23 = .ok (.if_icmp .ne 6, 3) := by decide +kernel
theorem dX12_ticksFrom_26 : decode cX12_ticksFrom 26 = .ok (.iinc 4 1, 3) := by decide +kernel
theorem dX12_ticksFrom_29 : decode cX12_ticksFrom 29 = .ok (.iinc 5 1, 3) := by decide +kernel
theorem dX12_ticksFrom_32 : decode cX12_ticksFrom 32 = .ok (.goto (-26), 3) := by decide +kernel
theorem dX12_ticksFrom_35 : decode cX12_ticksFrom 35 = .ok (.iload_n 3, 1) := by decide +kernel
theorem dX12_ticksFrom_36 : decode cX12_ticksFrom 36 = .ok (.iconst 1, 1) := by decide +kernel
theorem dX12_ticksFrom_37 : decode cX12_ticksFrom 37 = .ok (.isub, 1) := by decide +kernel
theorem dX12_ticksFrom_38 : decode cX12_ticksFrom 38 = .ok (.iload 4, 2) := by decide +kernel
theorem dX12_ticksFrom_40 : decode cX12_ticksFrom 40 = .ok (.idiv, 1) := by decide +kernel
theorem dX12_ticksFrom_41 : decode cX12_ticksFrom 41 = .ok (.istore 5, 2) := by decide +kernel
theorem dX12_ticksFrom_43 : decode cX12_ticksFrom 43 = .ok (.iload_n 3, 1) := by decide +kernel
theorem dX12_ticksFrom_44 : decode cX12_ticksFrom 44 = .ok (.iload 5, 2) := by decide +kernel
theorem dX12_ticksFrom_46 : decode cX12_ticksFrom 46 = .ok (.iload 4, 2) := by decide +kernel
theorem dX12_ticksFrom_48 : decode cX12_ticksFrom 48 = .ok (.imul, 1) := by decide +kernel
theorem dX12_ticksFrom_49 : decode cX12_ticksFrom 49 = .ok (.isub, 1) := by decide +kernel
theorem dX12_ticksFrom_50 : decode cX12_ticksFrom 50 = .ok (.istore 6, 2) := by decide +kernel
theorem dX12_ticksFrom_52 : decode cX12_ticksFrom 52 = .ok (.iconst 0, 1) := by decide +kernel
theorem dX12_ticksFrom_53 : decode cX12_ticksFrom 53 = .ok (.istore 7, 2) := by decide +kernel
theorem dX12_ticksFrom_55 : decode cX12_ticksFrom 55 = .ok (.iload 6, 2) := by decide +kernel
theorem dX12_ticksFrom_57 : decode cX12_ticksFrom 57 = .ok (.ifCond .le 30, 3) := by decide +kernel
theorem dX12_ticksFrom_60 : decode cX12_ticksFrom 60 = .ok (.aload_n 0, 1) := by decide +kernel
theorem dX12_ticksFrom_61 : decode cX12_ticksFrom 61 = .ok (.getfield 41, 3) := by decide +kernel
theorem dX12_ticksFrom_64 : decode cX12_ticksFrom 64 = .ok (.iload_n 1, 1) := by decide +kernel
theorem dX12_ticksFrom_65 : decode cX12_ticksFrom 65 = .ok (.iload 7, 2) := by decide +kernel
theorem dX12_ticksFrom_67 : decode cX12_ticksFrom 67 = .ok (.iadd, 1) := by decide +kernel
theorem dX12_ticksFrom_68 : decode cX12_ticksFrom 68 = .ok (.aload_n 0, 1) := by decide +kernel
theorem dX12_ticksFrom_69 : decode cX12_ticksFrom 69 = .ok (.getfield 44, 3) := by decide +kernel
theorem dX12_ticksFrom_72 : decode cX12_ticksFrom 72 = .ok (.irem, 1) := by decide +kernel
theorem dX12_ticksFrom_73 : decode cX12_ticksFrom 73 = .ok (.iaload, 1) := by decide +kernel
theorem dX12_ticksFrom_74 : decode cX12_ticksFrom 74 = .ok (.iload_n 2, 1) := by decide +kernel
theorem dX12_ticksFrom_75 : decode cX12_ticksFrom 75 = .ok (.if_icmp .ne 6, 3) := by decide +kernel
theorem dX12_ticksFrom_78 : decode cX12_ticksFrom 78 = .ok (.iinc 6 (-1), 3) := by decide +kernel
theorem dX12_ticksFrom_81 : decode cX12_ticksFrom 81 = .ok (.iinc 7 1, 3) := by decide +kernel
theorem dX12_ticksFrom_84 : decode cX12_ticksFrom 84 = .ok (.goto (-29), 3) := by decide +kernel
theorem dX12_ticksFrom_87 : decode cX12_ticksFrom 87 = .ok (.iload 5, 2) := by decide +kernel
theorem dX12_ticksFrom_89 : decode cX12_ticksFrom 89 = .ok (.aload_n 0, 1) := by decide +kernel
theorem dX12_ticksFrom_90 : decode cX12_ticksFrom 90 = .ok (.getfield 44, 3) := by decide +kernel
theorem dX12_ticksFrom_93 : decode cX12_ticksFrom 93 = .ok (.imul, 1) := by decide +kernel
theorem dX12_ticksFrom_94 : decode cX12_ticksFrom 94 = .ok (.iload 7, 2) := by decide +kernel
theorem dX12_ticksFrom_96 : decode cX12_ticksFrom 96 = .ok (.iadd, 1) := by decide +kernel
theorem dX12_ticksFrom_97 : decode cX12_ticksFrom 97 = .ok (.ireturn, 1) := by decide +kernel
theorem dX12_spanOf_0 : decode cX12_spanOf 0 = .ok (.iconst (-1), 1) := by decide +kernel
theorem dX12_spanOf_1 : decode cX12_spanOf 1 = .ok (.istore 4, 2) := by decide +kernel
theorem dX12_spanOf_3 : decode cX12_spanOf 3 = .ok (.iconst 0, 1) := by decide +kernel
theorem dX12_spanOf_4 : decode cX12_spanOf 4 = .ok (.istore 5, 2) := by decide +kernel
theorem dX12_spanOf_6 : decode cX12_spanOf 6 = .ok (.iload 5, 2) := by decide +kernel
theorem dX12_spanOf_8 : decode cX12_spanOf 8 = .ok (.aload_n 0, 1) := by decide +kernel
theorem dX12_spanOf_9 : decode cX12_spanOf 9 = .ok (.getfield 44, 3) := by decide +kernel
theorem dX12_spanOf_12 : decode cX12_spanOf 12 = .ok (.if_icmp .ge 49, 3) := by decide +kernel
theorem dX12_spanOf_15 : decode cX12_spanOf 15 = .ok (.aload_n 0, 1) := by decide +kernel
theorem dX12_spanOf_16 : decode cX12_spanOf 16 = .ok (.iload 5, 2) := by decide +kernel
theorem dX12_spanOf_18 : decode cX12_spanOf 18 = .ok (.iload_n 1, 1) := by decide +kernel
theorem dX12_spanOf_19 : decode cX12_spanOf 19 = .ok (.iload_n 2, 1) := by decide +kernel
theorem dX12_spanOf_20 : decode cX12_spanOf 20 = .ok (.invokevirtual 202, 3) := by decide +kernel
theorem dX12_spanOf_23 : decode cX12_spanOf 23 = .ok (.istore 6, 2) := by decide +kernel
theorem dX12_spanOf_25 : decode cX12_spanOf 25 = .ok (.iload 4, 2) := by decide +kernel
theorem dX12_spanOf_27 : decode cX12_spanOf 27 = .ok (.ifCond .lt 24, 3) := by decide +kernel
theorem dX12_spanOf_30 : decode cX12_spanOf 30 = .ok (.iload_n 3, 1) := by decide +kernel
theorem dX12_spanOf_31 : decode cX12_spanOf 31 = .ok (.ifCond .eq 13, 3) := by decide +kernel
theorem dX12_spanOf_34 : decode cX12_spanOf 34 = .ok (.iload 6, 2) := by decide +kernel
theorem dX12_spanOf_36 : decode cX12_spanOf 36 = .ok (.iload 4, 2) := by decide +kernel
theorem dX12_spanOf_38 : decode cX12_spanOf 38 = .ok (.if_icmp .le 17, 3) := by decide +kernel
theorem dX12_spanOf_41 : decode cX12_spanOf 41 = .ok (.goto 10, 3) := by decide +kernel
theorem dX12_spanOf_44 : decode cX12_spanOf 44 = .ok (.iload 6, 2) := by decide +kernel
theorem dX12_spanOf_46 : decode cX12_spanOf 46 = .ok (.iload 4, 2) := by decide +kernel
theorem dX12_spanOf_48 : decode cX12_spanOf 48 = .ok (.if_icmp .ge 7, 3) := by decide +kernel
theorem dX12_spanOf_51 : decode cX12_spanOf 51 = .ok (.iload 6, 2) := by decide +kernel
theorem dX12_spanOf_53 : decode cX12_spanOf 53 = .ok (.istore 4, 2) := by decide +kernel
theorem dX12_spanOf_55 : decode cX12_spanOf 55 = .ok (.iinc 5 1, 3) := by decide +kernel
theorem dX12_spanOf_58 : decode cX12_spanOf 58 = .ok (.goto (-52), 3) := by decide +kernel
theorem dX12_spanOf_61 : decode cX12_spanOf 61 = .ok (.iload 4, 2) := by decide +kernel
theorem dX12_spanOf_63 : decode cX12_spanOf 63 = .ok (.ireturn, 1) := by decide +kernel
theorem dX12_worstOf_0 : decode cX12_worstOf 0 = .ok (.aload_n 0, 1) := by decide +kernel
theorem dX12_worstOf_1 : decode cX12_worstOf 1 = .ok (.iload_n 1, 1) := by decide +kernel
theorem dX12_worstOf_2 : decode cX12_worstOf 2 = .ok (.iconst 1, 1) := by decide +kernel
theorem dX12_worstOf_3 : decode cX12_worstOf 3 = .ok (.invokevirtual 205, 3) := by decide +kernel
theorem dX12_worstOf_6 : decode cX12_worstOf 6 = .ok (.istore_n 2, 1) := by decide +kernel
theorem dX12_worstOf_7 : decode cX12_worstOf 7 = .ok (.iload_n 2, 1) := by decide +kernel
theorem dX12_worstOf_8 : decode cX12_worstOf 8 = .ok (.ldc 209, 2) := by decide +kernel
theorem dX12_worstOf_10 : decode cX12_worstOf 10 = .ok (.if_icmp .le 7, 3) := by decide +kernel
theorem dX12_worstOf_13 : decode cX12_worstOf 13 = .ok (.iconst (-1), 1) := by decide +kernel
theorem dX12_worstOf_14 : decode cX12_worstOf 14 = .ok (.goto 10, 3) := by decide +kernel
theorem dX12_worstOf_17 : decode cX12_worstOf 17 = .ok (.aload_n 0, 1) := by decide +kernel
theorem dX12_worstOf_18 : decode cX12_worstOf 18 = .ok (.iload_n 1, 1) := by decide +kernel
theorem dX12_worstOf_19 : decode cX12_worstOf 19 = .ok (.iload_n 2, 1) := by decide +kernel
theorem dX12_worstOf_20 : decode cX12_worstOf 20 = .ok (.iconst 1, 1) := by decide +kernel
theorem dX12_worstOf_21 : decode cX12_worstOf 21 = .ok (.invokevirtual 210, 3) := by decide +kernel
theorem dX12_worstOf_24 : decode cX12_worstOf 24 = .ok (.ireturn, 1) := by decide +kernel
theorem dX12_isSafe_0 : decode cX12_isSafe 0 = .ok (.aload_n 0, 1) := by decide +kernel
theorem dX12_isSafe_1 : decode cX12_isSafe 1 = .ok (.getfield 25, 3) := by decide +kernel
theorem dX12_isSafe_4 : decode cX12_isSafe 4 = .ok (.iload_n 1, 1) := by decide +kernel
theorem dX12_isSafe_5 : decode cX12_isSafe 5 = .ok (.baload, 1) := by decide +kernel
theorem dX12_isSafe_6 : decode cX12_isSafe 6 = .ok (.ifCond .ne 28, 3) := by decide +kernel
theorem dX12_isSafe_9 : decode cX12_isSafe 9 = .ok (.aload_n 0, 1) := by decide +kernel
theorem dX12_isSafe_10 : decode cX12_isSafe 10 = .ok (.getfield 48, 3) := by decide +kernel
theorem dX12_isSafe_13 : decode cX12_isSafe 13 = .ok (.iload_n 1, 1) := by decide +kernel
theorem dX12_isSafe_14 : decode cX12_isSafe 14 = .ok (.iaload, 1) := by decide +kernel
theorem dX12_isSafe_15 : decode cX12_isSafe 15 = .ok (.ifCond .eq 19, 3) := by decide +kernel
theorem dX12_isSafe_18 : decode cX12_isSafe 18 = .ok (.aload_n 0, 1) := by decide +kernel
theorem dX12_isSafe_19 : decode cX12_isSafe 19 = .ok (.iload_n 1, 1) := by decide +kernel
theorem dX12_isSafe_20 : decode cX12_isSafe 20 = .ok (.invokevirtual 214, 3) := by decide +kernel
theorem dX12_isSafe_23 : decode cX12_isSafe 23 = .ok (.ifCond .eq 11, 3) := by decide +kernel
theorem dX12_isSafe_26 : decode cX12_isSafe 26 = .ok (.aload_n 0, 1) := by decide +kernel
theorem dX12_isSafe_27 : decode cX12_isSafe 27 = .ok (.iload_n 1, 1) := by decide +kernel
theorem dX12_isSafe_28 : decode cX12_isSafe 28 = .ok (.invokevirtual 217, 3) := by decide +kernel
theorem dX12_isSafe_31 : decode cX12_isSafe 31 = .ok (.ifCond .ne 5, 3) := by decide +kernel
theorem dX12_isSafe_34 : decode cX12_isSafe 34 = .ok (.iconst 0, 1) := by decide +kernel
theorem dX12_isSafe_35 : decode cX12_isSafe 35 = .ok (.ireturn, 1) := by decide +kernel
theorem dX12_isSafe_36 : decode cX12_isSafe 36 = .ok (.aload_n 0, 1) := by decide +kernel
theorem dX12_isSafe_37 : decode cX12_isSafe 37 = .ok (.iload_n 1, 1) := by decide +kernel
theorem dX12_isSafe_38 : decode cX12_isSafe 38 = .ok (.invokevirtual 220, 3) := by decide +kernel
theorem dX12_isSafe_41 : decode cX12_isSafe 41 = .ok (.istore_n 2, 1) := by decide +kernel
theorem dX12_isSafe_42 : decode cX12_isSafe 42 = .ok (.iload_n 2, 1) := by decide +kernel
theorem dX12_isSafe_43 : decode cX12_isSafe 43 = .ok (.ifCond .lt 17, 3) := by decide +kernel
theorem dX12_isSafe_46 : decode cX12_isSafe 46 = .ok (.iload_n 2, 1) := by decide +kernel
theorem dX12_isSafe_47 : decode cX12_isSafe 47 = .ok (.aload_n 0, 1) := by decide +kernel
theorem dX12_isSafe_48 : decode cX12_isSafe 48 = .ok (.getfield 48, 3) := by decide +kernel
theorem dX12_isSafe_51 : decode cX12_isSafe 51 = .ok (.iload_n 1, 1) := by decide +kernel
theorem dX12_isSafe_52 : decode cX12_isSafe 52 = .ok (.iaload, 1) := by decide +kernel
theorem dX12_isSafe_53 : decode cX12_isSafe 53 = .ok (.if_icmp .gt 7, 3) := by decide +kernel
theorem dX12_isSafe_56 : decode cX12_isSafe 56 = .ok (.iconst 1, 1) := by decide +kernel
theorem dX12_isSafe_57 : decode cX12_isSafe 57 = .ok (.goto 4, 3) := by decide +kernel
theorem dX12_isSafe_60 : decode cX12_isSafe 60 = .ok (.iconst 0, 1) := by decide +kernel
theorem dX12_isSafe_61 : decode cX12_isSafe 61 = .ok (.ireturn, 1) := by decide +kernel
theorem dX12_bound_0 : decode cX12_bound 0 = .ok (.aload_n 0, 1) := by decide +kernel
theorem dX12_bound_1 : decode cX12_bound 1 = .ok (.iconst 0, 1) := by decide +kernel
theorem dX12_bound_2 : decode cX12_bound 2 = .ok (.putfield 73, 3) := by decide +kernel
theorem dX12_bound_5 : decode cX12_bound 5 = .ok (.iload_n 1, 1) := by decide +kernel
theorem dX12_bound_6 : decode cX12_bound 6 = .ok (.invokestatic 80, 3) := by decide +kernel
theorem dX12_bound_9 : decode cX12_bound 9 = .ok (.ifCond .eq 12, 3) := by decide +kernel
theorem dX12_bound_12 : decode cX12_bound 12 = .ok (.iload_n 2, 1) := by decide +kernel
theorem dX12_bound_13 : decode cX12_bound 13 = .ok (.iconst 0, 1) := by decide +kernel
theorem dX12_bound_14 : decode cX12_bound 14 = .ok (.iconst 5, 1) := by decide +kernel
theorem dX12_bound_15 : decode cX12_bound 15 = .ok (.invokestatic 76, 3) := by decide +kernel
theorem dX12_bound_18 : decode cX12_bound 18 = .ok (.ifCond .ne 5, 3) := by decide +kernel
theorem dX12_bound_21 : decode cX12_bound 21 = .ok (.iconst (-1), 1) := by decide +kernel
theorem dX12_bound_22 : decode cX12_bound 22 = .ok (.ireturn, 1) := by decide +kernel
theorem dX12_bound_23 : decode cX12_bound 23 = .ok (.iload_n 2, 1) := by decide +kernel
theorem dX12_bound_24 : decode cX12_bound 24 = .ok (.iconst 5, 1) := by decide +kernel
theorem dX12_bound_25 : decode cX12_bound 25 = .ok (.if_icmp .ne 17, 3) := by decide +kernel
theorem dX12_bound_28 : decode cX12_bound 28 = .ok (.aload_n 0, 1) := by decide +kernel
theorem dX12_bound_29 : decode cX12_bound 29 = .ok (.iload_n 1, 1) := by decide +kernel
theorem dX12_bound_30 : decode cX12_bound 30 = .ok (.invokevirtual 224, 3) := by decide +kernel
theorem dX12_bound_33 : decode cX12_bound 33 = .ok (.ifCond .eq 7, 3) := by decide +kernel
theorem dX12_bound_36 : decode cX12_bound 36 = .ok (.iconst 1, 1) := by decide +kernel
theorem dX12_bound_37 : decode cX12_bound 37 = .ok (.goto 4, 3) := by decide +kernel
theorem dX12_bound_40 : decode cX12_bound 40 = .ok (.iconst 0, 1) := by decide +kernel
theorem dX12_bound_41 : decode cX12_bound 41 = .ok (.ireturn, 1) := by decide +kernel
theorem dX12_bound_42 : decode cX12_bound 42 = .ok (.aload_n 0, 1) := by decide +kernel
theorem dX12_bound_43 : decode cX12_bound 43 = .ok (.iload_n 1, 1) := by decide +kernel
theorem dX12_bound_44 : decode cX12_bound 44 = .ok (.invokevirtual 217, 3) := by decide +kernel
theorem dX12_bound_47 : decode cX12_bound 47 = .ok (.istore_n 3, 1) := by decide +kernel
theorem dX12_bound_48 : decode cX12_bound 48 = .ok (.iload_n 2, 1) := by decide +kernel
theorem dX12_bound_49 : decode cX12_bound 49 = .ok (.ifCond .ne 13, 3) := by decide +kernel
theorem dX12_bound_52 : decode cX12_bound 52 = .ok (.iload_n 3, 1) := by decide +kernel
theorem dX12_bound_53 : decode cX12_bound 53 = .ok (.ifCond .eq 7, 3) := by decide +kernel
theorem dX12_bound_56 : decode cX12_bound 56 = .ok (.iconst 1, 1) := by decide +kernel
theorem dX12_bound_57 : decode cX12_bound 57 = .ok (.goto 4, 3) := by decide +kernel
theorem dX12_bound_60 : decode cX12_bound 60 = .ok (.iconst 0, 1) := by decide +kernel
theorem dX12_bound_61 : decode cX12_bound 61 = .ok (.ireturn, 1) := by decide +kernel
theorem dX12_bound_62 : decode cX12_bound 62 = .ok (.iload_n 3, 1) := by decide +kernel
theorem dX12_bound_63 : decode cX12_bound 63 = .ok (.ifCond .ne 5, 3) := by decide +kernel
theorem dX12_bound_66 : decode cX12_bound 66 = .ok (.iconst (-1), 1) := by decide +kernel
theorem dX12_bound_67 : decode cX12_bound 67 = .ok (.ireturn, 1) := by decide +kernel
theorem dX12_bound_68 : decode cX12_bound 68 = .ok (.iload_n 2, 1) := by decide +kernel
theorem dX12_bound_69 : decode cX12_bound 69 = .ok (.iconst 3, 1) := by decide +kernel
theorem dX12_bound_70 : decode cX12_bound 70 = .ok (.if_icmp .ge 19, 3) := by decide +kernel
theorem dX12_bound_73 : decode cX12_bound 73 = .ok (.aload_n 0, 1) := by decide +kernel
theorem dX12_bound_74 : decode cX12_bound 74 = .ok (.iload_n 1, 1) := by decide +kernel
theorem dX12_bound_75 : decode cX12_bound 75 = .ok (.iload_n 2, 1) := by decide +kernel
theorem dX12_bound_76 : decode cX12_bound 76 = .ok (.iconst 2, 1) := by decide +kernel
theorem dX12_bound_77 : decode cX12_bound 77 = .ok (.if_icmp .ne 7, 3) := by decide +kernel
theorem dX12_bound_80 : decode cX12_bound 80 = .ok (.iconst 1, 1) := by decide +kernel
theorem dX12_bound_81 : decode cX12_bound 81 = .ok (.goto 4, 3) := by decide +kernel
theorem dX12_bound_84 : decode cX12_bound 84 = .ok (.iconst 0, 1) := by decide +kernel
theorem dX12_bound_85 : decode cX12_bound 85 = .ok (.invokevirtual 205, 3) := by decide +kernel
theorem dX12_bound_88 : decode cX12_bound 88 = .ok (.ireturn, 1) := by decide +kernel
theorem dX12_bound_89 : decode cX12_bound 89 = .ok (.aload_n 0, 1) := by decide +kernel
theorem dX12_bound_90 : decode cX12_bound 90 = .ok (.iload_n 1, 1) := by decide +kernel
theorem dX12_bound_91 : decode cX12_bound 91 = .ok (.invokevirtual 214, 3) := by decide +kernel
theorem dX12_bound_94 : decode cX12_bound 94 = .ok (.ifCond .ne 5, 3) := by decide +kernel
theorem dX12_bound_97 : decode cX12_bound 97 = .ok (.iconst (-1), 1) := by decide +kernel
theorem dX12_bound_98 : decode cX12_bound 98 = .ok (.ireturn, 1) := by decide +kernel
theorem dX12_bound_99 : decode cX12_bound 99 = .ok (.iload_n 2, 1) := by decide +kernel
theorem dX12_bound_100 : decode cX12_bound 100 = .ok (.iconst 4, 1) := by decide +kernel
theorem dX12_bound_101 : decode cX12_bound 101 = .ok (.if_icmp .ne 9, 3) := by decide +kernel
theorem dX12_bound_104 : decode cX12_bound 104 = .ok (.aload_n 0, 1) := by decide +kernel
theorem dX12_bound_105 : decode cX12_bound 105 = .ok (.iload_n 1, 1) := by decide +kernel
theorem dX12_bound_106 : decode cX12_bound 106 = .ok (.invokevirtual 220, 3) := by decide +kernel
theorem dX12_bound_109 : decode cX12_bound 109 = .ok (.ireturn, 1) := by decide +kernel
theorem dX12_bound_110 : decode cX12_bound 110 = .ok (.aload_n 0, 1) := by decide +kernel
theorem dX12_bound_111 : decode cX12_bound 111 = .ok (.iload_n 1, 1) := by decide +kernel
theorem dX12_bound_112 : decode cX12_bound 112 = .ok (.iconst 0, 1) := by decide +kernel
theorem dX12_bound_113 : decode cX12_bound 113 = .ok (.invokevirtual 205, 3) := by decide +kernel
theorem dX12_bound_116 : decode cX12_bound 116 = .ok (.istore 4, 2) := by decide +kernel
theorem dX12_bound_118 : decode cX12_bound 118 = .ok (.iload 4, 2) := by decide +kernel
theorem dX12_bound_120 : decode cX12_bound 120 = .ok (.ldc 209, 2) := by decide +kernel
theorem dX12_bound_122 : decode cX12_bound 122 = .ok (.if_icmp .le 7, 3) := by decide +kernel
theorem dX12_bound_125 : decode cX12_bound 125 = .ok (.iconst (-1), 1) := by decide +kernel
theorem dX12_bound_126 : decode cX12_bound 126 = .ok (.goto 11, 3) := by decide +kernel
theorem dX12_bound_129 : decode cX12_bound 129 = .ok (.aload_n 0, 1) := by decide +kernel
theorem dX12_bound_130 : decode cX12_bound 130 = .ok (.iload_n 1, 1) := by decide +kernel
theorem dX12_bound_131 : decode cX12_bound 131 = .ok (.iload 4, 2) := by decide +kernel
theorem dX12_bound_133 : decode cX12_bound 133 = .ok (.iconst 0, 1) := by decide +kernel
theorem dX12_bound_134 : decode cX12_bound 134 = .ok (.invokevirtual 210, 3) := by decide +kernel
theorem dX12_bound_137 : decode cX12_bound 137 = .ok (.ireturn, 1) := by decide +kernel
theorem dX12_span_0 : decode cX12_span 0 = .ok (.aload_n 0, 1) := by decide +kernel
theorem dX12_span_1 : decode cX12_span 1 = .ok (.iconst 0, 1) := by decide +kernel
theorem dX12_span_2 : decode cX12_span 2 = .ok (.putfield 73, 3) := by decide +kernel
theorem dX12_span_5 : decode cX12_span 5 = .ok (.iload_n 1, 1) := by decide +kernel
theorem dX12_span_6 : decode cX12_span 6 = .ok (.invokestatic 80, 3) := by decide +kernel
theorem dX12_span_9 : decode cX12_span 9 = .ok (.ifCond .eq 30, 3) := by decide +kernel
theorem dX12_span_12 : decode cX12_span 12 = .ok (.iload_n 2, 1) := by decide +kernel
theorem dX12_span_13 : decode cX12_span 13 = .ok (.iconst 1, 1) := by decide +kernel
theorem dX12_span_14 : decode cX12_span 14 = .ok (.ldc 209, 2) := by decide +kernel
theorem dX12_span_16 : decode cX12_span 16 = .ok (.invokestatic 76, 3) := by decide +kernel
theorem dX12_span_19 : decode cX12_span 19 = .ok (.ifCond .eq 20, 3) := by decide +kernel
theorem dX12_span_22 : decode cX12_span 22 = .ok (.iload_n 3, 1) := by decide +kernel
theorem dX12_span_23 : decode cX12_span 23 = .ok (.iconst 0, 1) := by decide +kernel
theorem dX12_span_24 : decode cX12_span 24 = .ok (.iconst 1, 1) := by decide +kernel
theorem dX12_span_25 : decode cX12_span 25 = .ok (.invokestatic 76, 3) := by decide +kernel
theorem dX12_span_28 : decode cX12_span 28 = .ok (.ifCond .eq 11, 3) := by decide +kernel
theorem dX12_span_31 : decode cX12_span 31 = .ok (.aload_n 0, 1) := by decide +kernel
theorem dX12_span_32 : decode cX12_span 32 = .ok (.iload_n 1, 1) := by decide +kernel
theorem dX12_span_33 : decode cX12_span 33 = .ok (.invokevirtual 214, 3) := by decide +kernel
theorem dX12_span_36 : decode cX12_span 36 = .ok (.ifCond .ne 5, 3) := by decide +kernel
theorem dX12_span_39 : decode cX12_span 39 = .ok (.iconst (-1), 1) := by decide +kernel
theorem dX12_span_40 : decode cX12_span 40 = .ok (.ireturn, 1) := by decide +kernel
theorem dX12_span_41 : decode cX12_span 41 = .ok (.aload_n 0, 1) := by decide +kernel
theorem dX12_span_42 : decode cX12_span 42 = .ok (.iload_n 1, 1) := by decide +kernel
theorem dX12_span_43 : decode cX12_span 43 = .ok (.iload_n 2, 1) := by decide +kernel
theorem dX12_span_44 : decode cX12_span 44 = .ok (.iload_n 3, 1) := by decide +kernel
theorem dX12_span_45 : decode cX12_span 45 = .ok (.iconst 1, 1) := by decide +kernel
theorem dX12_span_46 : decode cX12_span 46 = .ok (.if_icmp .ne 7, 3) := by decide +kernel
theorem dX12_span_49 : decode cX12_span 49 = .ok (.iconst 1, 1) := by decide +kernel
theorem dX12_span_50 : decode cX12_span 50 = .ok (.goto 4, 3) := by decide +kernel
theorem dX12_span_53 : decode cX12_span 53 = .ok (.iconst 0, 1) := by decide +kernel
theorem dX12_span_54 : decode cX12_span 54 = .ok (.invokevirtual 210, 3) := by decide +kernel
theorem dX12_span_57 : decode cX12_span 57 = .ok (.ireturn, 1) := by decide +kernel
theorem dX12_keeps_0 : decode cX12_keeps 0 = .ok (.iconst 0, 1) := by decide +kernel
theorem dX12_keeps_1 : decode cX12_keeps 1 = .ok (.istore_n 1, 1) := by decide +kernel
theorem dX12_keeps_2 : decode cX12_keeps 2 = .ok (.iload_n 1, 1) := by decide +kernel
theorem dX12_keeps_3 : decode cX12_keeps 3 = .ok (.sipush 693, 3) := by decide +kernel
