theorem dX12_writes_90 : decode cX12_writes 90 = .ok (.iconst 4, 1) := by decide +kernel
theorem dX12_writes_91 : decode cX12_writes 91 = .ok (.iload 6, 2) := by decide +kernel
theorem dX12_writes_93 : decode cX12_writes 93 = .ok (.imul, 1) := by decide +kernel
theorem dX12_writes_94 : decode cX12_writes 94 = .ok (.iadd, 1) := by decide +kernel
theorem dX12_writes_95 : decode cX12_writes 95 = .ok (.iload 7, 2) := by decide +kernel
theorem dX12_writes_97 : decode cX12_writes 97 = .ok (.iadd, 1) := by decide +kernel
theorem dX12_writes_98 : decode cX12_writes 98 = .ok (.aload_n 0, 1) := by decide +kernel
theorem dX12_writes_99 : decode cX12_writes 99 = .ok (.getfield 7, 3) := by decide +kernel
theorem dX12_writes_102 : decode cX12_writes 102 = .ok (.sipush 522, 3) := by decide +kernel
theorem dX12_writes_105 : decode cX12_writes 105 = .ok (.iconst 4, 1) := by decide +kernel
theorem dX12_writes_106 : decode cX12_writes 106 = .ok (.iload 6, 2) := by decide +kernel
theorem dX12_writes_108 : decode cX12_writes 108 = .ok (.imul, 1) := by decide +kernel
theorem dX12_writes_109 : decode cX12_writes 109 = .ok (.iadd, 1) := by decide +kernel
theorem dX12_writes_110 : decode cX12_writes 110 = .ok (.iconst 4, 1) := by decide +kernel
theorem dX12_writes_111 : decode cX12_writes 111 = .ok (.isub, 1) := by decide +kernel
theorem dX12_writes_112 : decode cX12_writes 112 = .ok (.iload 7, 2) := by decide +kernel
theorem dX12_writes_114 : decode cX12_writes 114 = .ok (.iadd, 1) := by decide +kernel
theorem dX12_writes_115 : decode cX12_writes 115 = .ok (.iaload, 1) := by decide +kernel
theorem dX12_writes_116 : decode cX12_writes 116 = .ok (.iastore, 1) := by decide +kernel
theorem dX12_writes_117 : decode cX12_writes 117 = .ok (.iinc 7 1, 3) := by decide +kernel
theorem dX12_writes_120 : decode cX12_writes 120 = .ok (.goto (-43), 3) := by decide +kernel
theorem dX12_writes_123 : decode cX12_writes 123 = .ok (.iinc 6 (-1), 3) := by decide +kernel
theorem dX12_writes_126 : decode cX12_writes 126 = .ok (.goto (-57), 3) := by decide +kernel
theorem dX12_writes_129 : decode cX12_writes 129 = .ok (.aload_n 0, 1) := by decide +kernel
theorem dX12_writes_130 : decode cX12_writes 130 = .ok (.getfield 7, 3) := by decide +kernel
theorem dX12_writes_133 : decode cX12_writes 133 = .ok (.sipush 522, 3) := by decide +kernel
theorem dX12_writes_136 : decode cX12_writes 136 = .ok (.aload_n 0, 1) := by decide +kernel
theorem dX12_writes_137 : decode cX12_writes 137 = .ok (.getfield 7, 3) := by decide +kernel
theorem dX12_writes_140 : decode cX12_writes 140 = .ok (.sipush 683, 3) := by decide +kernel
theorem dX12_writes_143 : decode cX12_writes 143 = .ok (.iaload, 1) := by decide +kernel
theorem dX12_writes_144 : decode cX12_writes 144 = .ok (.iastore, 1) := by decide +kernel
theorem dX12_writes_145 : decode cX12_writes 145 = .ok (.aload_n 0, 1) := by decide +kernel
theorem dX12_writes_146 : decode cX12_writes 146 = .ok (.getfield 7, 3) := by decide +kernel
theorem dX12_writes_149 : decode cX12_writes 149 = .ok (.sipush 523, 3) := by decide +kernel
theorem dX12_writes_152 : decode cX12_writes 152 = .ok (.iload_n 1, 1) := by decide +kernel
theorem dX12_writes_153 : decode cX12_writes 153 = .ok (.iastore, 1) := by decide +kernel
theorem dX12_writes_154 : decode cX12_writes 154 = .ok (.aload_n 0, 1) := by decide +kernel
theorem dX12_writes_155 : decode cX12_writes 155 = .ok (.getfield 7, 3) := by decide +kernel
theorem dX12_writes_158 : decode cX12_writes 158 = .ok (.sipush 524, 3) := by decide +kernel
theorem dX12_writes_161 : decode cX12_writes 161 = .ok (.iload 4, 2) := by decide +kernel
theorem dX12_writes_163 : decode cX12_writes 163 = .ok (.iastore, 1) := by decide +kernel
theorem dX12_writes_164 : decode cX12_writes 164 = .ok (.aload_n 0, 1) := by decide +kernel
theorem dX12_writes_165 : decode cX12_writes 165 = .ok (.getfield 7, 3) := by decide +kernel
theorem dX12_writes_168 : decode cX12_writes 168 = .ok (.sipush 525, 3) := by decide +kernel
theorem dX12_writes_171 : decode cX12_writes 171 = .ok (.iload_n 3, 1) := by decide +kernel
theorem dX12_writes_172 : decode cX12_writes 172 = .ok (.ifCond .eq 7, 3) := by decide +kernel
theorem dX12_writes_175 : decode cX12_writes 175 = .ok (.iconst 1, 1) := by decide +kernel
theorem dX12_writes_176 : decode cX12_writes 176 = .ok (.goto 4, 3) := by decide +kernel
theorem dX12_writes_179 : decode cX12_writes 179 = .ok (.iconst 0, 1) := by decide +kernel
theorem dX12_writes_180 : decode cX12_writes 180 = .ok (.iastore, 1) := by decide +kernel
theorem dX12_writes_181 : decode cX12_writes 181 = .ok (.aload_n 0, 1) := by decide +kernel
theorem dX12_writes_182 : decode cX12_writes 182 = .ok (.getfield 7, 3) := by decide +kernel
theorem dX12_writes_185 : decode cX12_writes 185 = .ok (.sipush 682, 3) := by decide +kernel
theorem dX12_writes_188 : decode cX12_writes 188 = .ok (.iload 5, 2) := by decide +kernel
theorem dX12_writes_190 : decode cX12_writes 190 = .ok (.iastore, 1) := by decide +kernel
theorem dX12_writes_191 : decode cX12_writes 191 = .ok (.return_, 1) := by decide +kernel
theorem dX12_comes_0 : decode cX12_comes 0 = .ok (.aload_n 0, 1) := by decide +kernel
theorem dX12_comes_1 : decode cX12_comes 1 = .ok (.getfield 7, 3) := by decide +kernel
theorem dX12_comes_4 : decode cX12_comes 4 = .ok (.sipush 480, 3) := by decide +kernel
theorem dX12_comes_7 : decode cX12_comes 7 = .ok (.iload_n 1, 1) := by decide +kernel
theorem dX12_comes_8 : decode cX12_comes 8 = .ok (.iadd, 1) := by decide +kernel
theorem dX12_comes_9 : decode cX12_comes 9 = .ok (.iaload, 1) := by decide +kernel
theorem dX12_comes_10 : decode cX12_comes 10 = .ok (.istore_n 2, 1) := by decide +kernel
theorem dX12_comes_11 : decode cX12_comes 11 = .ok (.aload_n 0, 1) := by decide +kernel
theorem dX12_comes_12 : decode cX12_comes 12 = .ok (.iload_n 1, 1) := by decide +kernel
theorem dX12_comes_13 : decode cX12_comes 13 = .ok (.iload_n 2, 1) := by decide +kernel
theorem dX12_comes_14 : decode cX12_comes 14 = .ok (.iconst 0, 1) := by decide +kernel
theorem dX12_comes_15 : decode cX12_comes 15 = .ok (.invokevirtual 115, 3) := by decide +kernel
theorem dX12_comes_18 : decode cX12_comes 18 = .ok (.istore_n 3, 1) := by decide +kernel
theorem dX12_comes_19 : decode cX12_comes 19 = .ok (.aload_n 0, 1) := by decide +kernel
theorem dX12_comes_20 : decode cX12_comes 20 = .ok (.iload_n 1, 1) := by decide +kernel
theorem dX12_comes_21 : decode cX12_comes 21 = .ok (.iload_n 2, 1) := by decide +kernel
theorem dX12_comes_22 : decode cX12_comes 22 = .ok (.iconst 1, 1) := by decide +kernel
theorem dX12_comes_23 : decode cX12_comes 23 = .ok (.invokevirtual 115, 3) := by decide +kernel
theorem dX12_comes_26 : decode cX12_comes 26 = .ok (.istore 4, 2) := by decide +kernel
theorem dX12_comes_28 : decode cX12_comes 28 = .ok (.aload_n 0, 1) := by decide +kernel
theorem dX12_comes_29 : decode cX12_comes 29 = .ok (.iload_n 1, 1) := by decide +kernel
theorem dX12_comes_30 : decode cX12_comes 30 = .ok (.iload_n 2, 1) := by decide +kernel
theorem dX12_comes_31 : decode cX12_comes 31 = .ok (.iconst 2, 1) := by decide +kernel
theorem dX12_comes_32 : decode cX12_comes 32 = .ok (.invokevirtual 115, 3) := by decide +kernel
theorem dX12_comes_35 : decode cX12_comes 35 = .ok (.istore 5, 2) := by decide +kernel
theorem dX12_comes_37 : decode cX12_comes 37 = .ok (.iload_n 3, 1) := by decide +kernel
theorem dX12_comes_38 : decode cX12_comes 38 = .ok (.bipush 11, 2) := by decide +kernel
theorem dX12_comes_40 : decode cX12_comes 40 = .ok (.if_icmp .ne 20, 3) := by decide +kernel
theorem dX12_comes_43 : decode cX12_comes 43 = .ok (.aload_n 0, 1) := by decide +kernel
theorem dX12_comes_44 : decode cX12_comes 44 = .ok (.iload 4, 2) := by decide +kernel
theorem dX12_comes_46 : decode cX12_comes 46 = .ok (.aload_n 0, 1) := by decide +kernel
theorem dX12_comes_47 : decode cX12_comes 47 = .ok (.getfield 7, 3) := by decide +kernel
theorem dX12_comes_50 : decode cX12_comes 50 = .ok (.sipush 687, 3) := by decide +kernel
theorem dX12_comes_53 : decode cX12_comes 53 = .ok (.iload_n 1, 1) := by decide +kernel
theorem dX12_comes_54 : decode cX12_comes 54 = .ok (.iadd, 1) := by decide +kernel
theorem dX12_comes_55 : decode cX12_comes 55 = .ok (.iaload, 1) := by decide +kernel
theorem dX12_comes_56 : decode cX12_comes 56 = .ok (.iconst 0, 1) := by decide +kernel
theorem dX12_comes_57 : decode cX12_comes 57 = .ok (.invokevirtual 119, 3) := by decide +kernel
theorem dX12_comes_60 : decode cX12_comes 60 = .ok (.iload_n 3, 1) := by decide +kernel
theorem dX12_comes_61 : decode cX12_comes 61 = .ok (.bipush 13, 2) := by decide +kernel
theorem dX12_comes_63 : decode cX12_comes 63 = .ok (.if_icmp .ne 21, 3) := by decide +kernel
theorem dX12_comes_66 : decode cX12_comes 66 = .ok (.aload_n 0, 1) := by decide +kernel
theorem dX12_comes_67 : decode cX12_comes 67 = .ok (.iload_n 1, 1) := by decide +kernel
theorem dX12_comes_68 : decode cX12_comes 68 = .ok (.iload 5, 2) := by decide +kernel
theorem dX12_comes_70 : decode cX12_comes 70 = .ok (.aload_n 0, 1) := by decide +kernel
theorem dX12_comes_71 : decode cX12_comes 71 = .ok (.getfield 7, 3) := by decide +kernel
theorem dX12_comes_74 : decode cX12_comes 74 = .ok (.sipush 486, 3) := by decide +kernel
theorem dX12_comes_77 : decode cX12_comes 77 = .ok (.iload 4, 2) := by decide +kernel
theorem dX12_comes_79 : decode cX12_comes 79 = .ok (.iadd, 1) := by decide +kernel
theorem dX12_comes_80 : decode cX12_comes 80 = .ok (.iaload, 1) := by decide +kernel
theorem dX12_comes_81 : decode cX12_comes 81 = .ok (.invokevirtual 123, 3) := by decide +kernel
theorem dX12_comes_84 : decode cX12_comes 84 = .ok (.aload_n 0, 1) := by decide +kernel
theorem dX12_comes_85 : decode cX12_comes 85 = .ok (.getfield 7, 3) := by decide +kernel
theorem dX12_comes_88 : decode cX12_comes 88 = .ok (.sipush 438, 3) := by decide +kernel
theorem dX12_comes_91 : decode cX12_comes 91 = .ok (.iload_n 1, 1) := by decide +kernel
theorem dX12_comes_92 : decode cX12_comes 92 = .ok (.iadd, 1) := by decide +kernel
theorem dX12_comes_93 : decode cX12_comes 93 = .ok (.iconst 0, 1) := by decide +kernel
theorem dX12_comes_94 : decode cX12_comes 94 = .ok (.iastore, 1) := by decide +kernel
theorem dX12_comes_95 : decode cX12_comes 95 = .ok (.aload_n 0, 1) := by decide +kernel
theorem dX12_comes_96 : decode cX12_comes 96 = .ok (.getfield 7, 3) := by decide +kernel
theorem dX12_comes_99 : decode cX12_comes 99 = .ok (.sipush 468, 3) := by decide +kernel
theorem dX12_comes_102 : decode cX12_comes 102 = .ok (.iload_n 1, 1) := by decide +kernel
theorem dX12_comes_103 : decode cX12_comes 103 = .ok (.iadd, 1) := by decide +kernel
theorem dX12_comes_104 : decode cX12_comes 104 = .ok (.iconst (-1), 1) := by decide +kernel
theorem dX12_comes_105 : decode cX12_comes 105 = .ok (.iastore, 1) := by decide +kernel
theorem dX12_comes_106 : decode cX12_comes 106 = .ok (.return_, 1) := by decide +kernel
theorem dX12_canTurn_0 : decode cX12_canTurn 0 = .ok (.aload_n 0, 1) := by decide +kernel
theorem dX12_canTurn_1 : decode cX12_canTurn 1 = .ok (.getfield 7, 3) := by decide +kernel
theorem dX12_canTurn_4 : decode cX12_canTurn 4 = .ok (.sipush 438, 3) := by decide +kernel
theorem dX12_canTurn_7 : decode cX12_canTurn 7 = .ok (.iload_n 1, 1) := by decide +kernel
theorem dX12_canTurn_8 : decode cX12_canTurn 8 = .ok (.iadd, 1) := by decide +kernel
theorem dX12_canTurn_9 : decode cX12_canTurn 9 = .ok (.iaload, 1) := by decide +kernel
theorem dX12_canTurn_10 : decode cX12_canTurn 10 = .ok (.ifCond .ne 16, 3) := by decide +kernel
theorem dX12_canTurn_13 : decode cX12_canTurn 13 = .ok (.aload_n 0, 1) := by decide +kernel
theorem dX12_canTurn_14 : decode cX12_canTurn 14 = .ok (.getfield 19, 3) := by decide +kernel
theorem dX12_canTurn_17 : decode cX12_canTurn 17 = .ok (.iload_n 1, 1) := by decide +kernel
theorem dX12_canTurn_18 : decode cX12_canTurn 18 = .ok (.iaload, 1) := by decide +kernel
theorem dX12_canTurn_19 : decode cX12_canTurn 19 = .ok (.ifCond .le 7, 3) := by decide +kernel
theorem dX12_canTurn_22 : decode cX12_canTurn 22 = .ok (.iconst 1, 1) := by decide +kernel
theorem dX12_canTurn_23 : decode cX12_canTurn 23 = .ok (.goto 4, 3) := by decide +kernel
theorem dX12_canTurn_26 : decode cX12_canTurn 26 = .ok (.iconst 0, 1) := by decide +kernel
theorem dX12_canTurn_27 : decode cX12_canTurn 27 = .ok (.ireturn, 1) := by decide +kernel
theorem dX12_turnOf_0 : decode cX12_turnOf 0 = .ok (.aload_n 0, 1) := by decide +kernel
theorem dX12_turnOf_1 : decode cX12_turnOf 1 = .ok (.getfield 41, 3) := by decide +kernel
theorem dX12_turnOf_4 : decode cX12_turnOf 4 = .ok (.aload_n 0, 1) := by decide +kernel
theorem dX12_turnOf_5 : decode cX12_turnOf 5 = .ok (.getfield 7, 3) := by decide +kernel
theorem dX12_turnOf_8 : decode cX12_turnOf 8 = .ok (.sipush 683, 3) := by decide +kernel
theorem dX12_turnOf_11 : decode cX12_turnOf 11 = .ok (.iaload, 1) := by decide +kernel
theorem dX12_turnOf_12 : decode cX12_turnOf 12 = .ok (.aload_n 0, 1) := by decide +kernel
theorem dX12_turnOf_13 : decode cX12_turnOf 13 = .ok (.getfield 44, 3) := by decide +kernel
theorem dX12_turnOf_16 : decode cX12_turnOf 16 = .ok (.irem, 1) := by decide +kernel
theorem dX12_turnOf_17 : decode cX12_turnOf 17 = .ok (.iaload, 1) := by decide +kernel
theorem dX12_turnOf_18 : decode cX12_turnOf 18 = .ok (.istore_n 1, 1) := by decide +kernel
theorem dX12_turnOf_19 : decode cX12_turnOf 19 = .ok (.iload_n 1, 1) := by decide +kernel
theorem dX12_turnOf_20 : decode cX12_turnOf 20 = .ok (.ifCond .lt 13, 3) := by decide +kernel
theorem dX12_turnOf_23 : decode cX12_turnOf 23 = .ok (.aload_n 0, 1) := by decide +kernel
theorem dX12_turnOf_24 : decode cX12_turnOf 24 = .ok (.iload_n 1, 1) := by decide +kernel
theorem dX12_turnOf_25 : decode cX12_turnOf 25 = .ok (.invokevirtual 127, 3) := by decide +kernel
theorem dX12_turnOf_28 : decode cX12_turnOf 28 = .ok (.ifCond .eq 5, 3) := by decide +kernel
theorem dX12_turnOf_31 : decode cX12_turnOf 31 = .ok (.iload_n 1, 1) := by decide +kernel
theorem dX12_turnOf_32 : decode cX12_turnOf 32 = .ok (.ireturn, 1) := by decide +kernel
theorem dX12_turnOf_33 : decode cX12_turnOf 33 = .ok (.iconst 1, 1) := by decide +kernel
theorem dX12_turnOf_34 : decode cX12_turnOf 34 = .ok (.istore_n 2, 1) := by decide +kernel
theorem dX12_turnOf_35 : decode cX12_turnOf 35 = .ok (.iload_n 2, 1) := by decide +kernel
theorem dX12_turnOf_36 : decode cX12_turnOf 36 = .ok (.bipush 6, 2) := by decide +kernel
theorem dX12_turnOf_38 : decode cX12_turnOf 38 = .ok (.if_icmp .gt 71, 3) := by decide +kernel
theorem dX12_turnOf_41 : decode cX12_turnOf 41 = .ok (.aload_n 0, 1) := by decide +kernel
theorem dX12_turnOf_42 : decode cX12_turnOf 42 = .ok (.getfield 7, 3) := by decide +kernel
theorem dX12_turnOf_45 : decode cX12_turnOf 45 = .ok (.sipush 684, 3) := by decide +kernel
theorem dX12_turnOf_48 : decode cX12_turnOf 48 = .ok (.iaload, 1) := by decide +kernel
theorem dX12_turnOf_49 : decode cX12_turnOf 49 = .ok (.iload_n 2, 1) := by decide +kernel
theorem dX12_turnOf_50 : decode cX12_turnOf 50 = .ok (.iadd, 1) := by decide +kernel
theorem dX12_turnOf_51 : decode cX12_turnOf 51 = .ok (.bipush 6, 2) := by decide +kernel
theorem dX12_turnOf_53 : decode cX12_turnOf 53 = .ok (.iadd, 1) := by decide +kernel
theorem dX12_turnOf_54 : decode cX12_turnOf 54 = .ok (.bipush 6, 2) := by decide +kernel
theorem dX12_turnOf_56 : decode cX12_turnOf 56 = .ok (.irem, 1) := by decide +kernel
theorem dX12_turnOf_57 : decode cX12_turnOf 57 = .ok (.istore_n 3, 1) := by decide +kernel
theorem dX12_turnOf_58 : decode cX12_turnOf 58 = .ok (.aload_n 0, 1) := by decide +kernel
theorem dX12_turnOf_59 : decode cX12_turnOf 59 = .ok (.getfield 25, 3) := by decide +kernel
theorem dX12_turnOf_62 : decode cX12_turnOf 62 = .ok (.iload_n 3, 1) := by decide +kernel
theorem dX12_turnOf_63 : decode cX12_turnOf 63 = .ok (.baload, 1) := by decide +kernel
theorem dX12_turnOf_64 : decode cX12_turnOf 64 = .ok (.ifCond .eq 39, 3) := by decide +kernel
theorem dX12_turnOf_67 : decode cX12_turnOf 67 = .ok (.aload_n 0, 1) := by decide +kernel
theorem dX12_turnOf_68 : decode cX12_turnOf 68 = .ok (.iload_n 3, 1) := by decide +kernel
theorem dX12_turnOf_69 : decode cX12_turnOf 69 = .ok (.invokevirtual 127, 3) := by decide +kernel
theorem dX12_turnOf_72 : decode cX12_turnOf 72 = .ok (.ifCond .ne 6, 3) := by decide +kernel
theorem dX12_turnOf_75 : decode cX12_turnOf 75 = .ok (.goto 28, 3) := by decide +kernel
theorem dX12_turnOf_78 : decode cX12_turnOf 78 = .ok (.aload_n 0, 1) := by decide +kernel
theorem dX12_turnOf_79 : decode cX12_turnOf 79 = .ok (.getfield 7, 3) := by decide +kernel
theorem dX12_turnOf_82 : decode cX12_turnOf 82 = .ok (.sipush 684, 3) := by decide +kernel
theorem dX12_turnOf_85 : decode cX12_turnOf 85 = .ok (.iload_n 3, 1) := by decide +kernel
theorem dX12_turnOf_86 : decode cX12_turnOf 86 = .ok (.iastore, 1) := by decide +kernel
theorem dX12_turnOf_87 : decode cX12_turnOf 87 = .ok (.aload_n 0, 1) := by decide +kernel
theorem dX12_turnOf_88 : decode cX12_turnOf 88 = .ok (.getfield 7, 3) := by decide +kernel
theorem dX12_turnOf_91 : decode cX12_turnOf 91 = .ok (.sipush 456, 3) := by decide +kernel
theorem dX12_turnOf_94 : decode cX12_turnOf 94 = .ok (.iload_n 3, 1) := by decide +kernel
theorem dX12_turnOf_95 : decode cX12_turnOf 95 = .ok (.iadd, 1) := by decide +kernel
theorem dX12_turnOf_96 : decode cX12_turnOf 96 = .ok (.dup2, 1) := by decide +kernel
theorem dX12_turnOf_97 : decode cX12_turnOf 97 = .ok (.iaload, 1) := by decide +kernel
theorem dX12_turnOf_98 : decode cX12_turnOf 98 = .ok (.iconst 1, 1) := by decide +kernel
theorem dX12_turnOf_99 : decode cX12_turnOf 99 = .ok (.iadd, 1) := by decide +kernel
theorem dX12_turnOf_100 : decode cX12_turnOf 100 = .ok (.iastore, 1) := by decide +kernel
theorem dX12_turnOf_101 : decode cX12_turnOf 101 = .ok (.iload_n 3, 1) := by decide +kernel
theorem dX12_turnOf_102 : decode cX12_turnOf 102 = .ok (.ireturn, 1) := by decide +kernel
theorem dX12_turnOf_103 : decode cX12_turnOf 103 = .ok (.iinc 2 1, 3) := by decide +kernel
theorem dX12_turnOf_106 : decode cX12_turnOf 106 = .ok (.goto (-71), 3) := by decide +kernel
theorem dX12_turnOf_109 : decode cX12_turnOf 109 = .ok (.aload_n 0, 1) := by decide +kernel
theorem dX12_turnOf_110 : decode cX12_turnOf 110 = .ok (.getfield 7, 3) := by decide +kernel
theorem dX12_turnOf_113 : decode cX12_turnOf 113 = .ok (.sipush 685, 3) := by decide +kernel
theorem dX12_turnOf_116 : decode cX12_turnOf 116 = .ok (.dup2, 1) := by decide +kernel
theorem dX12_turnOf_117 : decode cX12_turnOf 117 = .ok (.iaload, 1) := by decide +kernel
theorem dX12_turnOf_118 : decode cX12_turnOf 118 = .ok (.iconst 1, 1) := by decide +kernel
theorem dX12_turnOf_119 : decode cX12_turnOf 119 = .ok (.iadd, 1) := by decide +kernel
theorem dX12_turnOf_120 : decode cX12_turnOf 120 = .ok (.iastore, 1) := by decide +kernel
theorem dX12_turnOf_121 : decode cX12_turnOf 121 = .ok (.iconst (-1), 1) := by decide +kernel
theorem dX12_turnOf_122 : decode cX12_turnOf 122 = .ok (.ireturn, 1) := by decide +kernel
theorem dX12_ticks_0 : decode cX12_ticks 0 = .ok (.aload_n 0, 1) := by decide +kernel
theorem dX12_ticks_1 : decode cX12_ticks 1 = .ok (.getfield 7, 3) := by decide +kernel
theorem dX12_ticks_4 : decode cX12_ticks 4 = .ok (.sipush 683, 3) := by decide +kernel
theorem dX12_ticks_7 : decode cX12_ticks 7 = .ok (.iaload, 1) := by decide +kernel
theorem dX12_ticks_8 : decode cX12_ticks 8 = .ok (.istore_n 1, 1) := by decide +kernel
theorem dX12_ticks_9 : decode cX12_ticks 9 = .ok (.iconst 0, 1) := by decide +kernel
theorem dX12_ticks_10 : decode cX12_ticks 10 = .ok (.istore_n 2, 1) := by decide +kernel
theorem dX12_ticks_11 : decode cX12_ticks 11 = .ok (.iload_n 2, 1) := by decide +kernel
theorem dX12_ticks_12 : decode cX12_ticks 12 = .ok (.aload_n 0, 1) := by decide +kernel
theorem dX12_ticks_13 : decode cX12_ticks 13 = .ok (.getfield 96, 3) := by decide +kernel
theorem dX12_ticks_16 : decode cX12_ticks 16 = .ok (.if_icmp .ge 40, 3) := by decide +kernel
theorem dX12_ticks_19 : decode cX12_ticks 19 = .ok (.aload_n 0, 1) := by decide +kernel
theorem dX12_ticks_20 : decode cX12_ticks 20 = .ok (.getfield 32, 3) := by decide +kernel
theorem dX12_ticks_23 : decode cX12_ticks 23 = .ok (.iload_n 2, 1) := by decide +kernel
theorem dX12_ticks_24 : decode cX12_ticks 24 = .ok (.iaload, 1) := by decide +kernel
theorem dX12_ticks_25 : decode cX12_ticks 25 = .ok (.iload_n 1, 1) := by decide +kernel
theorem dX12_ticks_26 : decode cX12_ticks 26 = .ok (.if_icmp .ne 24, 3) := by decide +kernel
theorem dX12_ticks_29 : decode cX12_ticks 29 = .ok (.aload_n 0, 1) := by decide +kernel
theorem dX12_ticks_30 : decode cX12_ticks 30 = .ok (.getfield 7, 3) := by decide +kernel
theorem dX12_ticks_33 : decode cX12_ticks 33 = .ok (.sipush 486, 3) := by decide +kernel
theorem dX12_ticks_36 : decode cX12_ticks 36 = .ok (.aload_n 0, 1) := by decide +kernel
theorem dX12_ticks_37 : decode cX12_ticks 37 = .ok (.getfield 35, 3) := by decide +kernel
theorem dX12_ticks_40 : decode cX12_ticks 40 = .ok (.iload_n 2, 1) := by decide +kernel
theorem dX12_ticks_41 : decode cX12_ticks 41 = .ok (.iaload, 1) := by decide +kernel
theorem dX12_ticks_42 : decode cX12_ticks 42 = .ok (.iadd, 1) := by decide +kernel
theorem dX12_ticks_43 : decode cX12_ticks 43 = .ok (.aload_n 0, 1) := by decide +kernel
theorem dX12_ticks_44 : decode cX12_ticks 44 = .ok (.getfield 38, 3) := by decide +kernel
theorem dX12_ticks_47 : decode cX12_ticks 47 = .ok (.iload_n 2, 1) := by decide +kernel
theorem dX12_ticks_48 : decode cX12_ticks 48 = .ok (.iaload, 1) := by decide +kernel
theorem dX12_ticks_49 : decode cX12_ticks 49 = .ok (.iastore, 1) := by decide +kernel
theorem dX12_ticks_50 : decode cX12_ticks 50 = .ok (.iinc 2 1, 3) := by decide +kernel
theorem dX12_ticks_53 : decode cX12_ticks 53 = .ok (.goto (-42), 3) := by decide +kernel
theorem dX12_ticks_56 : decode cX12_ticks 56 = .ok (.iconst 0, 1) := by decide +kernel
theorem dX12_ticks_57 : decode cX12_ticks 57 = .ok (.istore_n 2, 1) := by decide +kernel
theorem dX12_ticks_58 : decode cX12_ticks 58 = .ok (.iload_n 2, 1) := by decide +kernel
theorem dX12_ticks_59 : decode cX12_ticks 59 = .ok (.bipush 6, 2) := by decide +kernel
theorem dX12_ticks_61 : decode cX12_ticks 61 = .ok (.if_icmp .ge 42, 3) := by decide +kernel
theorem dX12_ticks_64 : decode cX12_ticks 64 = .ok (.aload_n 0, 1) := by decide +kernel
theorem dX12_ticks_65 : decode cX12_ticks 65 = .ok (.getfield 7, 3) := by decide +kernel
theorem dX12_ticks_68 : decode cX12_ticks 68 = .ok (.sipush 438, 3) := by decide +kernel
theorem dX12_ticks_71 : decode cX12_ticks 71 = .ok (.iload_n 2, 1) := by decide +kernel
theorem dX12_ticks_72 : decode cX12_ticks 72 = .ok (.iadd, 1) := by decide +kernel
theorem dX12_ticks_73 : decode cX12_ticks 73 = .ok (.iaload, 1) := by decide +kernel
theorem dX12_ticks_74 : decode cX12_ticks 74 = .ok (.iconst 1, 1) := by decide +kernel
theorem dX12_ticks_75 : decode cX12_ticks 75 = .ok (.if_icmp .ne 22, 3) := by decide +kernel
theorem dX12_ticks_78 : decode cX12_ticks 78 = .ok (.aload_n 0, 1) := by decide +kernel
theorem dX12_ticks_79 : decode cX12_ticks 79 = .ok (.getfield 7, 3) := by decide +kernel
theorem dX12_ticks_82 : decode cX12_ticks 82 = .ok (.sipush 468, 3) := by decide +kernel
theorem dX12_ticks_85 : decode cX12_ticks 85 = .ok (.iload_n 2, 1) := by decide +kernel
theorem dX12_ticks_86 : decode cX12_ticks 86 = .ok (.iadd, 1) := by decide +kernel
theorem dX12_ticks_87 : decode cX12_ticks 87 = .ok (.iaload, 1) := by decide +kernel
theorem dX12_ticks_88 : decode cX12_ticks 88 = .ok (.iload_n 1, 1) := by decide +kernel
theorem dX12_ticks_89 : decode cX12_ticks 89 = .ok (.if_icmp .ne 8, 3) := by decide +kernel
theorem dX12_ticks_92 : decode cX12_ticks 92 = .ok (.aload_n 0, 1) := by decide +kernel
theorem dX12_ticks_93 : decode cX12_ticks 93 = .ok (.iload_n 2, 1) := by decide +kernel
theorem dX12_ticks_94 : decode cX12_ticks 94 = .ok (.invokevirtual 130, 3) := by decide +kernel
theorem dX12_ticks_97 : decode cX12_ticks 97 = .ok (.iinc 2 1, 3) := by decide +kernel
theorem dX12_ticks_100 : decode cX12_ticks 100 = .ok (.goto (-42), 3) := by decide +kernel
theorem dX12_ticks_103 : decode cX12_ticks 103 = .ok (.aload_n 0, 1) := by decide +kernel
theorem dX12_ticks_104 : decode cX12_ticks 104 = .ok (.invokevirtual 133, 3) := by decide +kernel
theorem dX12_ticks_107 : decode cX12_ticks 107 = .ok (.istore_n 2, 1) := by decide +kernel
theorem dX12_ticks_108 : decode cX12_ticks 108 = .ok (.iload_n 2, 1) := by decide +kernel
theorem dX12_ticks_109 : decode cX12_ticks 109 = .ok (.ifCond .lt 8, 3) := by decide +kernel
theorem dX12_ticks_112 : decode cX12_ticks 112 = .ok (.aload_n 0, 1) := by decide +kernel
theorem dX12_ticks_113 : decode cX12_ticks 113 = .ok (.iload_n 2, 1) := by decide +kernel
theorem dX12_ticks_114 : decode cX12_ticks 114 = .ok (.invokevirtual 136, 3) := by decide +kernel
theorem dX12_ticks_117 : decode cX12_ticks 117 = .ok (.aload_n 0, 1) := by decide +kernel
theorem dX12_ticks_118 : decode cX12_ticks 118 = .ok (.getfield 7, 3) := by decide +kernel
theorem dX12_ticks_121 : decode cX12_ticks 121 = .ok (.sipush 683, 3) := by decide +kernel
theorem dX12_ticks_124 : decode cX12_ticks 124 = .ok (.dup2, 1) := by decide +kernel
theorem dX12_ticks_125 : decode cX12_ticks 125 = .ok (.iaload, 1) := by decide +kernel
theorem dX12_ticks_126 : decode cX12_ticks 126 = .ok (.iconst 1, 1) := by decide +kernel
theorem dX12_ticks_127 : decode cX12_ticks 127 = .ok (.iadd, 1) := by decide +kernel
theorem dX12_ticks_128 : decode cX12_ticks 128 = .ok (.iastore, 1) := by decide +kernel
theorem dX12_ticks_129 : decode cX12_ticks 129 = .ok (.iload_n 2, 1) := by decide +kernel
theorem dX12_ticks_130 : decode cX12_ticks 130 = .ok (.ireturn, 1) := by decide +kernel
theorem dX12_trapOf_0 : decode cX12_trapOf 0 = .ok (.iload_n 2, 1) := by decide +kernel
theorem dX12_trapOf_1 : decode cX12_trapOf 1 = .ok (.iconst 5, 1) := by decide +kernel
theorem dX12_trapOf_2 : decode cX12_trapOf 2 = .ok (.if_icmp .eq 9, 3) := by decide +kernel
theorem dX12_trapOf_5 : decode cX12_trapOf 5 = .ok (.iload_n 2, 1) := by decide +kernel
theorem dX12_trapOf_6 : decode cX12_trapOf 6 = .ok (.bipush 6, 2) := by decide +kernel
theorem dX12_trapOf_8 : decode cX12_trapOf 8 = .ok (.if_icmp .ne 42, 3) := by decide +kernel
theorem dX12_trapOf_11 : decode cX12_trapOf 11 = .ok (.aload_n 0, 1) := by decide +kernel
theorem dX12_trapOf_12 : decode cX12_trapOf 12 = .ok (.getfield 22, 3) := by decide +kernel
theorem dX12_trapOf_15 : decode cX12_trapOf 15 = .ok (.iload_n 1, 1) := by decide +kernel
theorem dX12_trapOf_16 : decode cX12_trapOf 16 = .ok (.iaload, 1) := by decide +kernel
theorem dX12_trapOf_17 : decode cX12_trapOf 17 = .ok (.ifCond .ge 5, 3) := by decide +kernel
theorem dX12_trapOf_20 : decode cX12_trapOf 20 = .ok (.iconst 1, 1) := by decide +kernel
theorem dX12_trapOf_21 : decode cX12_trapOf 21 = .ok (.ireturn, 1) := by decide +kernel
theorem dX12_trapOf_22 : decode cX12_trapOf 22 = .ok (.aload_n 0, 1) := by decide +kernel
theorem dX12_trapOf_23 : decode cX12_trapOf 23 = .ok (.iload_n 1, 1) := by decide +kernel
theorem dX12_trapOf_24 : decode cX12_trapOf 24 = .ok (.iload 4, 2) := by decide +kernel
theorem dX12_trapOf_26 : decode cX12_trapOf 26 = .ok (.invokevirtual 139, 3) := by decide +kernel
theorem dX12_trapOf_29 : decode cX12_trapOf 29 = .ok (.iconst 0, 1) := by decide +kernel
theorem dX12_trapOf_30 : decode cX12_trapOf 30 = .ok (.aload_n 0, 1) := by decide +kernel
theorem dX12_trapOf_31 : decode cX12_trapOf 31 = .ok (.getfield 22, 3) := by decide +kernel
theorem dX12_trapOf_34 : decode cX12_trapOf 34 = .ok (.iload_n 1, 1) := by decide +kernel
theorem dX12_trapOf_35 : decode cX12_trapOf 35 = .ok (.iaload, 1) := by decide +kernel
theorem dX12_trapOf_36 : decode cX12_trapOf 36 = .ok (.iconst 1, 1) := by decide +kernel
theorem dX12_trapOf_37 : decode cX12_trapOf 37 = .ok (.isub, 1) := by decide +kernel
theorem dX12_trapOf_38 : decode cX12_trapOf 38 = .ok (.invokestatic 76, 3) := by decide +kernel
theorem dX12_trapOf_41 : decode cX12_trapOf 41 = .ok (.ifCond .eq 7, 3) := by decide +kernel
theorem dX12_trapOf_44 : decode cX12_trapOf 44 = .ok (.iconst 0, 1) := by decide +kernel
theorem dX12_trapOf_45 : decode cX12_trapOf 45 = .ok (.goto 4, 3) := by decide +kernel
theorem dX12_trapOf_48 : decode cX12_trapOf 48 = .ok (.iconst 2, 1) := by decide +kernel
theorem dX12_trapOf_49 : decode cX12_trapOf 49 = .ok (.ireturn, 1) := by decide +kernel
theorem dX12_trapOf_50 : decode cX12_trapOf 50 = .ok (.iload_n 2, 1) := by decide +kernel
theorem dX12_trapOf_51 : decode cX12_trapOf 51 = .ok (.bipush 10, 2) := by decide +kernel
theorem dX12_trapOf_53 : decode cX12_trapOf 53 = .ok (.if_icmp .eq 9, 3) := by decide +kernel
theorem dX12_trapOf_56 : decode cX12_trapOf 56 = .ok (.iload_n 2, 1) := by decide +kernel
theorem dX12_trapOf_57 : decode cX12_trapOf 57 = .ok (.bipush 11, 2) := by decide +kernel
theorem dX12_trapOf_59 : decode cX12_trapOf 59 = .ok (.if_icmp .ne 15, 3) := by decide +kernel
theorem dX12_trapOf_62 : decode cX12_trapOf 62 = .ok (.aload_n 0, 1) := by decide +kernel
theorem dX12_trapOf_63 : decode cX12_trapOf 63 = .ok (.getfield 29, 3) := by decide +kernel
theorem dX12_trapOf_66 : decode cX12_trapOf 66 = .ok (.iload_n 3, 1) := by decide +kernel
theorem dX12_trapOf_67 : decode cX12_trapOf 67 = .ok (.iaload, 1) := by decide +kernel
theorem dX12_trapOf_68 : decode cX12_trapOf 68 = .ok (.iconst 1, 1) := by decide +kernel
theorem dX12_trapOf_69 : decode cX12_trapOf 69 = .ok (.if_icmp .eq 32, 3) := by decide +kernel
theorem dX12_trapOf_72 : decode cX12_trapOf 72 = .ok (.iconst 3, 1) := by decide +kernel
theorem dX12_trapOf_73 : decode cX12_trapOf 73 = .ok (.ireturn, 1) := by decide +kernel
theorem dX12_trapOf_74 : decode cX12_trapOf 74 = .ok (.iload_n 2, 1) := by decide +kernel
theorem dX12_trapOf_75 : decode cX12_trapOf 75 = .ok (.bipush 12, 2) := by decide +kernel
theorem dX12_trapOf_77 : decode cX12_trapOf 77 = .ok (.if_icmp .eq 9, 3) := by decide +kernel
theorem dX12_trapOf_80 : decode cX12_trapOf 80 = .ok (.iload_n 2, 1) := by decide +kernel
theorem dX12_trapOf_81 : decode cX12_trapOf 81 = .ok (.bipush 13, 2) := by decide +kernel
theorem dX12_trapOf_83 : decode cX12_trapOf 83 = .ok (.if_icmp .ne 18, 3) := by decide +kernel
theorem dX12_trapOf_86 : decode cX12_trapOf 86 = .ok (.aload_n 0, 1) := by decide +kernel
theorem dX12_trapOf_87 : decode cX12_trapOf 87 = .ok (.getfield 29, 3) := by decide +kernel
theorem dX12_trapOf_90 : decode cX12_trapOf 90 = .ok (.iload_n 3, 1) := by decide +kernel
theorem dX12_trapOf_91 : decode cX12_trapOf 91 = .ok (.iaload, 1) := by decide +kernel
theorem dX12_trapOf_92 : decode cX12_trapOf 92 = .ok (.ifCond .ne 7, 3) := by decide +kernel
theorem dX12_trapOf_95 : decode cX12_trapOf 95 = .ok (.iconst 0, 1) := by decide +kernel
theorem dX12_trapOf_96 : decode cX12_trapOf 96 = .ok (.goto 4, 3) := by decide +kernel
theorem dX12_trapOf_99 : decode cX12_trapOf 99 = .ok (.iconst 3, 1) := by decide +kernel
theorem dX12_trapOf_100 : decode cX12_trapOf 100 = .ok (.ireturn, 1) := by decide +kernel
theorem dX12_trapOf_101 : decode cX12_trapOf 101 = .ok (.iload_n 2, 1) := by decide +kernel
theorem dX12_trapOf_102 : decode cX12_trapOf 102 = .ok (.bipush 11, 2) := by decide +kernel
theorem dX12_trapOf_104 : decode cX12_trapOf 104 = .ok (.if_icmp .eq 5, 3) := by decide +kernel
theorem dX12_trapOf_107 : decode cX12_trapOf 107 = .ok (.iconst 0, 1) := by decide +kernel
theorem dX12_trapOf_108 : decode cX12_trapOf 108 = .ok (.ireturn, 1) := by decide +kernel
theorem dX12_trapOf_109 : decode cX12_trapOf 109 = .ok (.iconst 0, 1) := by decide +kernel
theorem dX12_trapOf_110 : decode cX12_trapOf 110 = .ok (.istore 5, 2) := by decide +kernel
theorem dX12_trapOf_112 : decode cX12_trapOf 112 = .ok (.iload 5, 2) := by decide +kernel
theorem dX12_trapOf_114 : decode cX12_trapOf 114 = .ok (.bipush 6, 2) := by decide +kernel
theorem dX12_trapOf_116 : decode cX12_trapOf 116 = .ok (.if_icmp .ge 77, 3) := by decide +kernel
theorem dX12_trapOf_119 : decode cX12_trapOf 119 = .ok (.iload 5, 2) := by decide +kernel
theorem dX12_trapOf_121 : decode cX12_trapOf 121 = .ok (.iload_n 1, 1) := by decide +kernel
theorem dX12_trapOf_122 : decode cX12_trapOf 122 = .ok (.if_icmp .eq 65, 3) := by decide +kernel
theorem dX12_trapOf_125 : decode cX12_trapOf 125 = .ok (.aload_n 0, 1) := by decide +kernel
theorem dX12_trapOf_126 : decode cX12_trapOf 126 = .ok (.getfield 7, 3) := by decide +kernel
theorem dX12_trapOf_129 : decode cX12_trapOf 129 = .ok (.sipush 438, 3) := by decide +kernel
theorem dX12_trapOf_132 : decode cX12_trapOf 132 = .ok (.iload 5, 2) := by decide +kernel
theorem dX12_trapOf_134 : decode cX12_trapOf 134 = .ok (.iadd, 1) := by decide +kernel
theorem dX12_trapOf_135 : decode cX12_trapOf 135 = .ok (.iaload, 1) := by decide +kernel
theorem dX12_trapOf_136 : decode cX12_trapOf 136 = .ok (.iconst 1, 1) := by decide +kernel
theorem dX12_trapOf_137 : decode cX12_trapOf 137 = .ok (.if_icmp .ne 50, 3) := by decide +kernel
theorem dX12_trapOf_140 : decode cX12_trapOf 140 = .ok (.aload_n 0, 1) := by decide +kernel
theorem dX12_trapOf_141 : decode cX12_trapOf 141 = .ok (.iload 5, 2) := by decide +kernel
theorem dX12_trapOf_143 : decode cX12_trapOf 143 = .ok (.aload_n 0, 1) := by decide +kernel
theorem dX12_trapOf_144 : decode cX12_trapOf 144 = .ok (.getfield 7, 3) := by decide +kernel
theorem dX12_trapOf_147 : decode cX12_trapOf 147 = .ok (.sipush 480, 3) := by decide +kernel
theorem dX12_trapOf_150 : decode cX12_trapOf 150 = .ok (.iload 5, 2) := by decide +kernel
theorem dX12_trapOf_152 : decode cX12_trapOf 152 = .ok (.iadd, 1) := by decide +kernel
theorem dX12_trapOf_153 : decode cX12_trapOf 153 = .ok (.iaload, 1) := by decide +kernel
theorem dX12_trapOf_154 : decode cX12_trapOf 154 = .ok (.iconst 0, 1) := by decide +kernel
theorem dX12_trapOf_155 : decode cX12_trapOf 155 = .ok (.invokevirtual 115, 3) := by decide +kernel
theorem dX12_trapOf_158 : decode cX12_trapOf 158 = .ok (.bipush 11, 2) := by decide +kernel
theorem dX12_trapOf_160 : decode cX12_trapOf 160 = .ok (.if_icmp .ne 27, 3) := by decide +kernel
theorem dX12_trapOf_163 : decode cX12_trapOf 163 = .ok (.aload_n 0, 1) := by decide +kernel
theorem dX12_trapOf_164 : decode cX12_trapOf 164 = .ok (.iload 5, 2) := by decide +kernel
theorem dX12_trapOf_166 : decode cX12_trapOf 166 = .ok (.aload_n 0, 1) := by decide +kernel
theorem dX12_trapOf_167 : decode cX12_trapOf 167 = .ok (.getfield 7, 3) := by decide +kernel
theorem dX12_trapOf_170 : decode cX12_trapOf 170 = .ok (.sipush 480, 3) := by decide +kernel
theorem dX12_trapOf_173 : decode cX12_trapOf 173 = .ok (.iload 5, 2) := by decide +kernel
theorem dX12_trapOf_175 : decode cX12_trapOf 175 = .ok (.iadd, 1) := by decide +kernel
theorem dX12_trapOf_176 : decode cX12_trapOf 176 = .ok (.iaload, 1) := by decide +kernel
theorem dX12_trapOf_177 : decode cX12_trapOf 177 = .ok (.iconst 1, 1) := by decide +kernel
theorem dX12_trapOf_178 : decode cX12_trapOf 178 = .ok (.invokevirtual 115, 3) := by decide +kernel
theorem dX12_trapOf_181 : decode cX12_trapOf 181 = .ok (.iload_n 3, 1) := by decide +kernel
theorem dX12_trapOf_182 : decode cX12_trapOf 182 = .ok (.if_icmp .ne 5, 3) := by decide +kernel
theorem dX12_trapOf_185 : decode cX12_trapOf 185 = .ok (.iconst 4, 1) := by decide +kernel
theorem dX12_trapOf_186 : decode cX12_trapOf 186 = .ok (.ireturn, 1) := by decide +kernel
theorem dX12_trapOf_187 : decode cX12_trapOf 187 = .ok (.iinc 5 1, 3) := by decide +kernel
theorem dX12_trapOf_190 : decode cX12_trapOf 190 = .ok (.goto (-78), 3) := by decide +kernel
theorem dX12_trapOf_193 : decode cX12_trapOf 193 = .ok (.iconst 0, 1) := by decide +kernel
theorem dX12_trapOf_194 : decode cX12_trapOf 194 = .ok (.ireturn, 1) := by decide +kernel
theorem dX12_goesTo_0 : decode cX12_goesTo 0 = .ok (.aload_n 0, 1) := by decide +kernel
theorem dX12_goesTo_1 : decode cX12_goesTo 1 = .ok (.getfield 7, 3) := by decide +kernel
theorem dX12_goesTo_4 : decode cX12_goesTo 4 = .ok (.sipush 432, 3) := by decide +kernel
theorem dX12_goesTo_7 : decode cX12_goesTo 7 = .ok (.iload_n 1, 1) := by decide +kernel
theorem dX12_goesTo_8 : decode cX12_goesTo 8 = .ok (.iadd, 1) := by decide +kernel
theorem dX12_goesTo_9 : decode cX12_goesTo 9 = .ok (.iload_n 2, 1) := by decide +kernel
theorem dX12_goesTo_10 : decode cX12_goesTo 10 = .ok (.iastore, 1) := by decide +kernel
theorem dX12_goesTo_11 : decode cX12_goesTo 11 = .ok (.iload_n 2, 1) := by decide +kernel
theorem dX12_goesTo_12 : decode cX12_goesTo 12 = .ok (.aload_n 0, 1) := by decide +kernel
theorem dX12_goesTo_13 : decode cX12_goesTo 13 = .ok (.getfield 19, 3) := by decide +kernel
theorem dX12_goesTo_16 : decode cX12_goesTo 16 = .ok (.iload_n 1, 1) := by decide +kernel
theorem dX12_goesTo_17 : decode cX12_goesTo 17 = .ok (.iaload, 1) := by decide +kernel
theorem dX12_goesTo_18 : decode cX12_goesTo 18 = .ok (.if_icmp .ge 4, 3) := by decide +kernel
theorem dX12_goesTo_21 : decode cX12_goesTo 21 = .ok (.return_, 1) := by decide +kernel
theorem dX12_goesTo_22 : decode cX12_goesTo 22 = .ok (.aload_n 0, 1) := by decide +kernel
theorem dX12_goesTo_23 : decode cX12_goesTo 23 = .ok (.getfield 7, 3) := by decide +kernel
theorem dX12_goesTo_26 : decode cX12_goesTo 26 = .ok (.sipush 432, 3) := by decide +kernel
theorem dX12_goesTo_29 : decode cX12_goesTo 29 = .ok (.iload_n 1, 1) := by decide +kernel
theorem dX12_goesTo_30 : decode cX12_goesTo 30 = .ok (.iadd, 1) := by decide +kernel
theorem dX12_goesTo_31 : decode cX12_goesTo 31 = .ok (.iconst 0, 1) := by decide +kernel
theorem dX12_goesTo_32 : decode cX12_goesTo 32 = .ok (.iastore, 1) := by decide +kernel
theorem dX12_goesTo_33 : decode cX12_goesTo 33 = .ok (.aload_n 0, 1) := by decide +kernel
theorem dX12_goesTo_34 : decode cX12_goesTo 34 = .ok (.getfield 7, 3) := by decide +kernel
theorem dX12_goesTo_37 : decode cX12_goesTo 37 = .ok (.sipush 462, 3) := by decide +kernel
theorem dX12_goesTo_40 : decode cX12_goesTo 40 = .ok (.iload_n 1, 1) := by decide +kernel
theorem dX12_goesTo_41 : decode cX12_goesTo 41 = .ok (.iadd, 1) := by decide +kernel
theorem dX12_goesTo_42 : decode cX12_goesTo 42 = .ok (.dup2, 1) := by decide +kernel
theorem dX12_goesTo_43 : decode cX12_goesTo 43 = .ok (.iaload, 1) := by decide +kernel
theorem dX12_goesTo_44 : decode cX12_goesTo 44 = .ok (.iconst 1, 1) := by decide +kernel
theorem dX12_goesTo_45 : decode cX12_goesTo 45 = .ok (.iadd, 1) := by decide +kernel
theorem dX12_goesTo_46 : decode cX12_goesTo 46 = .ok (.iastore, 1) := by decide +kernel
theorem dX12_goesTo_47 : decode cX12_goesTo 47 = .ok (.return_, 1) := by decide +kernel
theorem dX12_does_0 : decode cX12_does 0 = .ok (.aload_n 0, 1) := by decide +kernel
theorem dX12_does_1 : decode cX12_does 1 = .ok (.getfield 7, 3) := by decide +kernel
theorem dX12_does_4 : decode cX12_does 4 = .ok (.sipush 432, 3) := by decide +kernel
theorem dX12_does_7 : decode cX12_does 7 = .ok (.iload_n 1, 1) := by decide +kernel
theorem dX12_does_8 : decode cX12_does 8 = .ok (.iadd, 1) := by decide +kernel
theorem dX12_does_9 : decode cX12_does 9 = .ok (.iaload, 1) := by decide +kernel
theorem dX12_does_10 : decode cX12_does 10 = .ok (.istore_n 2, 1) := by decide +kernel
theorem dX12_does_11 : decode cX12_does 11 = .ok (.aload_n 0, 1) := by decide +kernel
theorem dX12_does_12 : decode cX12_does 12 = .ok (.iload_n 1, 1) := by decide +kernel
theorem dX12_does_13 : decode cX12_does 13 = .ok (.iload_n 2, 1) := by decide +kernel
theorem dX12_does_14 : decode cX12_does 14 = .ok (.iconst 0, 1) := by decide +kernel
theorem dX12_does_15 : decode cX12_does 15 = .ok (.invokevirtual 115, 3) := by decide +kernel
theorem dX12_does_18 : decode cX12_does 18 = .ok (.istore_n 3, 1) := by decide +kernel
theorem dX12_does_19 : decode cX12_does 19 = .ok (.aload_n 0, 1) := by decide +kernel
theorem dX12_does_20 : decode cX12_does 20 = .ok (.iload_n 1, 1) := by decide +kernel
theorem dX12_does_21 : decode cX12_does 21 = .ok (.iload_n 2, 1) := by decide +kernel
theorem dX12_does_22 : decode cX12_does 22 = .ok (.iconst 1, 1) := by decide +kernel
theorem dX12_does_23 : decode cX12_does 23 = .ok (.invokevirtual 115, 3) := by decide +kernel
theorem dX12_does_26 : decode cX12_does 26 = .ok (.istore 4, 2) := by decide +kernel
theorem dX12_does_28 : decode cX12_does 28 = .ok (.aload_n 0, 1) := by decide +kernel
theorem dX12_does_29 : decode cX12_does 29 = .ok (.iload_n 1, 1) := by decide +kernel
theorem dX12_does_30 : decode cX12_does 30 = .ok (.iload_n 2, 1) := by decide +kernel
theorem dX12_does_31 : decode cX12_does 31 = .ok (.iconst 2, 1) := by decide +kernel
theorem dX12_does_32 : decode cX12_does 32 = .ok (.invokevirtual 115, 3) := by decide +kernel
theorem dX12_does_35 : decode cX12_does 35 = .ok (.istore 5, 2) := by decide +kernel
theorem dX12_does_37 : decode cX12_does 37 = .ok (.aload_n 0, 1) := by decide +kernel
theorem dX12_does_38 : decode cX12_does 38 = .ok (.iload_n 1, 1) := by decide +kernel
theorem dX12_does_39 : decode cX12_does 39 = .ok (.iload_n 2, 1) := by decide +kernel
theorem dX12_does_40 : decode cX12_does 40 = .ok (.iconst 3, 1) := by decide +kernel
theorem dX12_does_41 : decode cX12_does 41 = .ok (.invokevirtual 115, 3) := by decide +kernel
theorem dX12_does_44 : decode cX12_does 44 = .ok (.istore 6, 2) := by decide +kernel
theorem dX12_does_46 : decode cX12_does 46 = .ok (.aload_n 0, 1) := by decide +kernel
theorem dX12_does_47 : decode cX12_does 47 = .ok (.getfield 7, 3) := by decide +kernel
theorem dX12_does_50 : decode cX12_does 50 = .ok (.sipush 450, 3) := by decide +kernel
theorem dX12_does_53 : decode cX12_does 53 = .ok (.iload_n 1, 1) := by decide +kernel
theorem dX12_does_54 : decode cX12_does 54 = .ok (.iadd, 1) := by decide +kernel
theorem dX12_does_55 : decode cX12_does 55 = .ok (.dup2, 1) := by decide +kernel
theorem dX12_does_56 : decode cX12_does 56 = .ok (.iaload, 1) := by decide +kernel
theorem dX12_does_57 : decode cX12_does 57 = .ok (.iconst 1, 1) := by decide +kernel
theorem dX12_does_58 : decode cX12_does 58 = .ok (.iadd, 1) := by decide +kernel
theorem dX12_does_59 : decode cX12_does 59 = .ok (.iastore, 1) := by decide +kernel
theorem dX12_does_60 : decode cX12_does 60 = .ok (.aload_n 0, 1) := by decide +kernel
theorem dX12_does_61 : decode cX12_does 61 = .ok (.iload_n 1, 1) := by decide +kernel
theorem dX12_does_62 : decode cX12_does 62 = .ok (.iload_n 3, 1) := by decide +kernel
theorem dX12_does_63 : decode cX12_does 63 = .ok (.iload 4, 2) := by decide +kernel
theorem dX12_does_65 : decode cX12_does 65 = .ok (.iload 5, 2) := by decide +kernel
theorem dX12_does_67 : decode cX12_does 67 = .ok (.invokevirtual 143, 3) := by decide +kernel
theorem dX12_does_70 : decode cX12_does 70 = .ok (.istore 7, 2) := by decide +kernel
theorem dX12_does_72 : decode cX12_does 72 = .ok (.iload 7, 2) := by decide +kernel
theorem dX12_does_74 : decode cX12_does 74 = .ok (.ifCond .le 27, 3) := by decide +kernel
theorem dX12_does_77 : decode cX12_does 77 = .ok (.aload_n 0, 1) := by decide +kernel
theorem dX12_does_78 : decode cX12_does 78 = .ok (.getfield 7, 3) := by decide +kernel
theorem dX12_does_81 : decode cX12_does 81 = .ok (.sipush 438, 3) := by decide +kernel
theorem dX12_does_84 : decode cX12_does 84 = .ok (.iload_n 1, 1) := by decide +kernel
theorem dX12_does_85 : decode cX12_does 85 = .ok (.iadd, 1) := by decide +kernel
theorem dX12_does_86 : decode cX12_does 86 = .ok (.iconst 5, 1) := by decide +kernel
theorem dX12_does_87 : decode cX12_does 87 = .ok (.iastore, 1) := by decide +kernel
theorem dX12_does_88 : decode cX12_does 88 = .ok (.aload_n 0, 1) := by decide +kernel
theorem dX12_does_89 : decode cX12_does 89 = .ok (.getfield 7, 3) := by decide +kernel
theorem dX12_does_92 : decode cX12_does 92 = .ok (.sipush 444, 3) := by decide +kernel
theorem dX12_does_95 : decode cX12_does 95 = .ok (.iload_n 1, 1) := by decide +kernel
theorem dX12_does_96 : decode cX12_does 96 = .ok (.iadd, 1) := by decide +kernel
theorem dX12_does_97 : decode cX12_does 97 = .ok (.iload 7, 2) := by decide +kernel
theorem dX12_does_99 : decode cX12_does 99 = .ok (.iastore, 1) := by decide +kernel
theorem dX12_does_100 : decode cX12_does 100 = .ok (.return_, 1) := by decide +kernel
theorem dX12_does_101 : decode cX12_does 101 = .ok (.iload_n 2, 1) := by decide +kernel
theorem dX12_does_102 : decode cX12_does 102 = .ok (.iconst 1, 1) := by decide +kernel
theorem dX12_does_103 : decode cX12_does 103 = .ok (.iadd, 1) := by decide +kernel
theorem dX12_does_104 : decode cX12_does 104 = .ok (.istore 8, 2) := by decide +kernel
theorem dX12_does_106 : decode cX12_does 106 = .ok (.iload_n 3, 1) := by decide +kernel
theorem dX12_does_107 : decode cX12_does 107 = .ok (.bipush 7, 2) := by decide +kernel
theorem dX12_does_109 : decode cX12_does 109 = .ok (.if_icmp .eq 19, 3) := by decide +kernel
theorem dX12_does_112 : decode cX12_does 112 = .ok (.iload_n 3, 1) := by decide +kernel
theorem dX12_does_113 : decode cX12_does 113 = .ok (.bipush 8, 2) := by decide +kernel
theorem dX12_does_115 : decode cX12_does 115 = .ok (.if_icmp .ne 17, 3) := by decide +kernel
theorem dX12_does_118 : decode cX12_does 118 = .ok (.aload_n 0, 1) := by decide +kernel
theorem dX12_does_119 : decode cX12_does 119 = .ok (.iload_n 1, 1) := by decide +kernel
theorem dX12_does_120 : decode cX12_does 120 = .ok (.iload 4, 2) := by decide +kernel
theorem dX12_does_122 : decode cX12_does 122 = .ok (.invokevirtual 139, 3) := by decide +kernel
theorem dX12_does_125 : decode cX12_does 125 = .ok (.ifCond .eq 7, 3) := by decide +kernel
theorem dX12_does_128 : decode cX12_does 128 = .ok (.iload 5, 2) := by decide +kernel
theorem dX12_does_130 : decode cX12_does 130 = .ok (.istore 8, 2) := by decide +kernel
theorem dX12_does_132 : decode cX12_does 132 = .ok (.iload_n 3, 1) := by decide +kernel
theorem dX12_does_133 : decode cX12_does 133 = .ok (.bipush 9, 2) := by decide +kernel
theorem dX12_does_135 : decode cX12_does 135 = .ok (.if_icmp .ne 22, 3) := by decide +kernel
theorem dX12_does_138 : decode cX12_does 138 = .ok (.aload_n 0, 1) := by decide +kernel
theorem dX12_does_139 : decode cX12_does 139 = .ok (.bipush 24, 2) := by decide +kernel
theorem dX12_does_141 : decode cX12_does 141 = .ok (.iload_n 1, 1) := by decide +kernel
theorem dX12_does_142 : decode cX12_does 142 = .ok (.imul, 1) := by decide +kernel
theorem dX12_does_143 : decode cX12_does 143 = .ok (.iload_n 2, 1) := by decide +kernel
theorem dX12_does_144 : decode cX12_does 144 = .ok (.iadd, 1) := by decide +kernel
theorem dX12_does_145 : decode cX12_does 145 = .ok (.iload 4, 2) := by decide +kernel
theorem dX12_does_147 : decode cX12_does 147 = .ok (.invokevirtual 147, 3) := by decide +kernel
theorem dX12_does_150 : decode cX12_does 150 = .ok (.ifCond .eq 7, 3) := by decide +kernel
theorem dX12_does_153 : decode cX12_does 153 = .ok (.iload 5, 2) := by decide +kernel
theorem dX12_does_155 : decode cX12_does 155 = .ok (.istore 8, 2) := by decide +kernel
theorem dX12_does_157 : decode cX12_does 157 = .ok (.aload_n 0, 1) := by decide +kernel
theorem dX12_does_158 : decode cX12_does 158 = .ok (.iload_n 1, 1) := by decide +kernel
theorem dX12_does_159 : decode cX12_does 159 = .ok (.iload 8, 2) := by decide +kernel
theorem dX12_does_161 : decode cX12_does 161 = .ok (.invokevirtual 150, 3) := by decide +kernel
theorem dX12_does_164 : decode cX12_does 164 = .ok (.iload_n 3, 1) := by decide +kernel
theorem dX12_does_165 : decode cX12_does 165 = .ok (.bipush 7, 2) := by decide +kernel
theorem dX12_does_167 : decode cX12_does 167 = .ok (.if_icmp .lt 15, 3) := by decide +kernel
theorem dX12_does_170 : decode cX12_does 170 = .ok (.iload_n 3, 1) := by decide +kernel
theorem dX12_does_171 : decode cX12_does 171 = .ok (.bipush 15, 2) := by decide +kernel
theorem dX12_does_173 : decode cX12_does 173 = .ok (.if_icmp .eq 9, 3) := by decide +kernel
theorem dX12_does_176 : decode cX12_does 176 = .ok (.iload_n 3, 1) := by decide +kernel
theorem dX12_does_177 : decode cX12_does 177 = .ok (.bipush 18, 2) := by decide +kernel
theorem dX12_does_179 : decode cX12_does 179 = .ok (.if_icmp .le 18, 3) := by decide +kernel
theorem dX12_does_182 : decode cX12_does 182 = .ok (.aload_n 0, 1) := by decide +kernel
theorem dX12_does_183 : decode cX12_does 183 = .ok (.iload_n 1, 1) := by decide +kernel
theorem dX12_does_184 : decode cX12_does 184 = .ok (.iload_n 3, 1) := by decide +kernel
theorem dX12_does_185 : decode cX12_does 185 = .ok (.iload 4, 2) := by decide +kernel
theorem dX12_does_187 : decode cX12_does 187 = .ok (.iload 5, 2) := by decide +kernel
theorem dX12_does_189 : decode cX12_does 189 = .ok (.iload 6, 2) := by decide +kernel
theorem dX12_does_191 : decode cX12_does 191 = .ok (.invokevirtual 154, 3) := by decide +kernel
theorem dX12_does_194 : decode cX12_does 194 = .ok (.goto 130, 3) := by decide +kernel
theorem dX12_does_197 : decode cX12_does 197 = .ok (.iload_n 3, 1) := by decide +kernel
theorem dX12_does_198 : decode cX12_does 198 = .ok (.bipush 10, 2) := by decide +kernel
theorem dX12_does_200 : decode cX12_does 200 = .ok (.if_icmp .ne 20, 3) := by decide +kernel
theorem dX12_does_203 : decode cX12_does 203 = .ok (.aload_n 0, 1) := by decide +kernel
theorem dX12_does_204 : decode cX12_does 204 = .ok (.iload 4, 2) := by decide +kernel
theorem dX12_does_206 : decode cX12_does 206 = .ok (.aload_n 0, 1) := by decide +kernel
theorem dX12_does_207 : decode cX12_does 207 = .ok (.iload_n 1, 1) := by decide +kernel
theorem dX12_does_208 : decode cX12_does 208 = .ok (.iload 5, 2) := by decide +kernel
theorem dX12_does_210 : decode cX12_does 210 = .ok (.invokevirtual 139, 3) := by decide +kernel
theorem dX12_does_213 : decode cX12_does 213 = .ok (.iconst 0, 1) := by decide +kernel
theorem dX12_does_214 : decode cX12_does 214 = .ok (.invokevirtual 119, 3) := by decide +kernel
theorem dX12_does_217 : decode cX12_does 217 = .ok (.goto 107, 3) := by decide +kernel
theorem dX12_does_220 : decode cX12_does 220 = .ok (.iload_n 3, 1) := by decide +kernel
theorem dX12_does_221 : decode cX12_does 221 = .ok (.bipush 12, 2) := by decide +kernel
theorem dX12_does_223 : decode cX12_does 223 = .ok (.if_icmp .ne 24, 3) := by decide +kernel
theorem dX12_does_226 : decode cX12_does 226 = .ok (.aload_n 0, 1) := by decide +kernel
theorem dX12_does_227 : decode cX12_does 227 = .ok (.iload_n 1, 1) := by decide +kernel
theorem dX12_does_228 : decode cX12_does 228 = .ok (.iload 5, 2) := by decide +kernel
theorem dX12_does_230 : decode cX12_does 230 = .ok (.aload_n 0, 1) := by decide +kernel
theorem dX12_does_231 : decode cX12_does 231 = .ok (.getfield 7, 3) := by decide +kernel
theorem dX12_does_234 : decode cX12_does 234 = .ok (.sipush 486, 3) := by decide +kernel
theorem dX12_does_237 : decode cX12_does 237 = .ok (.iload 4, 2) := by decide +kernel
theorem dX12_does_239 : decode cX12_does 239 = .ok (.iadd, 1) := by decide +kernel
theorem dX12_does_240 : decode cX12_does 240 = .ok (.iaload, 1) := by decide +kernel
theorem dX12_does_241 : decode cX12_does 241 = .ok (.invokevirtual 123, 3) := by decide +kernel
theorem dX12_does_244 : decode cX12_does 244 = .ok (.goto 80, 3) := by decide +kernel
theorem dX12_does_247 : decode cX12_does 247 = .ok (.iload_n 3, 1) := by decide +kernel
theorem dX12_does_248 : decode cX12_does 248 = .ok (.bipush 11, 2) := by decide +kernel
theorem dX12_does_250 : decode cX12_does 250 = .ok (.if_icmp .eq 15, 3) := by decide +kernel
theorem dX12_does_253 : decode cX12_does 253 = .ok (.iload_n 3, 1) := by decide +kernel
theorem dX12_does_254 : decode cX12_does 254 = .ok (.bipush 13, 2) := by decide +kernel
theorem dX12_does_256 : decode cX12_does 256 = .ok (.if_icmp .eq 9, 3) := by decide +kernel
theorem dX12_does_259 : decode cX12_does 259 = .ok (.iload_n 3, 1) := by decide +kernel
theorem dX12_does_260 : decode cX12_does 260 = .ok (.bipush 14, 2) := by decide +kernel
theorem dX12_does_262 : decode cX12_does 262 = .ok (.if_icmp .ne 19, 3) := by decide +kernel
theorem dX12_does_265 : decode cX12_does 265 = .ok (.aload_n 0, 1) := by decide +kernel
theorem dX12_does_266 : decode cX12_does 266 = .ok (.iload_n 1, 1) := by decide +kernel
theorem dX12_does_267 : decode cX12_does 267 = .ok (.iload_n 2, 1) := by decide +kernel
theorem dX12_does_268 : decode cX12_does 268 = .ok (.iload_n 3, 1) := by decide +kernel
theorem dX12_does_269 : decode cX12_does 269 = .ok (.iload 4, 2) := by decide +kernel
theorem dX12_does_271 : decode cX12_does 271 = .ok (.iload 5, 2) := by decide +kernel
theorem dX12_does_273 : decode cX12_does 273 = .ok (.iload 6, 2) := by decide +kernel
theorem dX12_does_275 : decode cX12_does 275 = .ok (.invokevirtual 158, 3) := by decide +kernel
theorem dX12_does_278 : decode cX12_does 278 = .ok (.goto 46, 3) := by decide +kernel
theorem dX12_does_281 : decode cX12_does 281 = .ok (.iload_n 3, 1) := by decide +kernel
theorem dX12_does_282 : decode cX12_does 282 = .ok (.bipush 16, 2) := by decide +kernel
theorem dX12_does_284 : decode cX12_does 284 = .ok (.if_icmp .eq 9, 3) := by decide +kernel
theorem dX12_does_287 : decode cX12_does 287 = .ok (.iload_n 3, 1) := by decide +kernel
theorem dX12_does_288 : decode cX12_does 288 = .ok (.bipush 17, 2) := by decide +kernel
theorem dX12_does_290 : decode cX12_does 290 = .ok (.if_icmp .ne 17, 3) := by decide +kernel
theorem dX12_does_293 : decode cX12_does 293 = .ok (.aload_n 0, 1) := by decide +kernel
theorem dX12_does_294 : decode cX12_does 294 = .ok (.iload_n 1, 1) := by decide +kernel
theorem dX12_does_295 : decode cX12_does 295 = .ok (.iload_n 3, 1) := by decide +kernel
theorem dX12_does_296 : decode cX12_does 296 = .ok (.iload 4, 2) := by decide +kernel
theorem dX12_does_298 : decode cX12_does 298 = .ok (.iload 5, 2) := by decide +kernel
theorem dX12_does_300 : decode cX12_does 300 = .ok (.iload_n 2, 1) := by decide +kernel
theorem dX12_does_301 : decode cX12_does 301 = .ok (.invokevirtual 162, 3) := by decide +kernel
theorem dX12_does_304 : decode cX12_does 304 = .ok (.goto 20, 3) := by decide +kernel
theorem dX12_does_307 : decode cX12_does 307 = .ok (.iload_n 3, 1) := by decide +kernel
theorem dX12_does_308 : decode cX12_does 308 = .ok (.bipush 18, 2) := by decide +kernel
theorem dX12_does_310 : decode cX12_does 310 = .ok (.if_icmp .ne 14, 3) := by decide +kernel
theorem dX12_does_313 : decode cX12_does 313 = .ok (.aload_n 0, 1) := by decide +kernel
theorem dX12_does_314 : decode cX12_does 314 = .ok (.getfield 7, 3) := by decide +kernel
theorem dX12_does_317 : decode cX12_does 317 = .ok (.sipush 438, 3) := by decide +kernel
theorem dX12_does_320 : decode cX12_does 320 = .ok (.iload_n 1, 1) := by decide +kernel
theorem dX12_does_321 : decode cX12_does 321 = .ok (.iadd, 1) := by decide +kernel
theorem dX12_does_322 : decode cX12_does 322 = .ok (.iconst 4, 1) := by decide +kernel
theorem dX12_does_323 : decode cX12_does 323 = .ok (.iastore, 1) := by decide +kernel
theorem dX12_does_324 : decode cX12_does 324 = .ok (.return_, 1) := by decide +kernel
theorem dX12_isBack_0 : decode cX12_isBack 0 = .ok (.aload_n 0, 1) := by decide +kernel
theorem dX12_isBack_1 : decode cX12_isBack 1 = .ok (.getfield 7, 3) := by decide +kernel
theorem dX12_isBack_4 : decode cX12_isBack 4 = .ok (.sipush 288, 3) := by decide +kernel
theorem dX12_isBack_7 : decode cX12_isBack 7 = .ok (.iload_n 1, 1) := by decide +kernel
theorem dX12_isBack_8 : decode cX12_isBack 8 = .ok (.iadd, 1) := by decide +kernel
theorem dX12_isBack_9 : decode cX12_isBack 9 = .ok (.iaload, 1) := by decide +kernel
theorem dX12_isBack_10 : decode cX12_isBack 10 = .ok (.ifCond .ne 25, 3) := by decide +kernel
theorem dX12_isBack_13 : decode cX12_isBack 13 = .ok (.aload_n 0, 1) := by decide +kernel
theorem dX12_isBack_14 : decode cX12_isBack 14 = .ok (.getfield 7, 3) := by decide +kernel
theorem dX12_isBack_17 : decode cX12_isBack 17 = .ok (.sipush 288, 3) := by decide +kernel
theorem dX12_isBack_20 : decode cX12_isBack 20 = .ok (.iload_n 1, 1) := by decide +kernel
theorem dX12_isBack_21 : decode cX12_isBack 21 = .ok (.iadd, 1) := by decide +kernel
theorem dX12_isBack_22 : decode cX12_isBack 22 = .ok (.iconst 1, 1) := by decide +kernel
theorem dX12_isBack_23 : decode cX12_isBack 23 = .ok (.iastore, 1) := by decide +kernel
theorem dX12_isBack_24 : decode cX12_isBack 24 = .ok (.aload_n 0, 1) := by decide +kernel
theorem dX12_isBack_25 : decode cX12_isBack 25 = .ok (.getfield 7, 3) := by decide +kernel
theorem dX12_isBack_28 : decode cX12_isBack 28 = .ok (.sipush 144, 3) := by decide +kernel
theorem dX12_isBack_31 : decode cX12_isBack 31 = .ok (.iload_n 1, 1) := by decide +kernel
theorem dX12_isBack_32 : decode cX12_isBack 32 = .ok (.iadd, 1) := by decide +kernel
theorem dX12_isBack_33 : decode cX12_isBack 33 = .ok (.iload_n 2, 1) := by decide +kernel
theorem dX12_isBack_34 : decode cX12_isBack 34 = .ok (.iastore, 1) := by decide +kernel
theorem dX12_isBack_35 : decode cX12_isBack 35 = .ok (.aload_n 0, 1) := by decide +kernel
theorem dX12_isBack_36 : decode cX12_isBack 36 = .ok (.getfield 7, 3) := by decide +kernel
theorem dX12_isBack_39 : decode cX12_isBack 39 = .ok (.sipush 144, 3) := by decide +kernel
theorem dX12_isBack_42 : decode cX12_isBack 42 = .ok (.iload_n 1, 1) := by decide +kernel
theorem dX12_isBack_43 : decode cX12_isBack 43 = .ok (.iadd, 1) := by decide +kernel
theorem dX12_isBack_44 : decode cX12_isBack 44 = .ok (.iaload, 1) := by decide +kernel
theorem dX12_isBack_45 : decode cX12_isBack 45 = .ok (.ifCond .le 19, 3) := by decide +kernel
theorem dX12_isBack_48 : decode cX12_isBack 48 = .ok (.aload_n 0, 1) := by decide +kernel
theorem dX12_isBack_49 : decode cX12_isBack 49 = .ok (.getfield 7, 3) := by decide +kernel
theorem dX12_isBack_52 : decode cX12_isBack 52 = .ok (.sipush 144, 3) := by decide +kernel
theorem dX12_isBack_55 : decode cX12_isBack 55 = .ok (.iload_n 1, 1) := by decide +kernel
theorem dX12_isBack_56 : decode cX12_isBack 56 = .ok (.iadd, 1) := by decide +kernel
theorem dX12_isBack_57 : decode cX12_isBack 57 = .ok (.dup2, 1) := by decide +kernel
theorem dX12_isBack_58 : decode cX12_isBack 58 = .ok (.iaload, 1) := by decide +kernel
theorem dX12_isBack_59 : decode cX12_isBack 59 = .ok (.iconst 1, 1) := by decide +kernel
theorem dX12_isBack_60 : decode cX12_isBack 60 = .ok (.isub, 1) := by decide +kernel
theorem dX12_isBack_61 : decode cX12_isBack 61 = .ok (.iastore, 1) := by decide +kernel
theorem dX12_isBack_62 : decode cX12_isBack 62 = .ok (.iconst 1, 1) := by decide +kernel
theorem dX12_isBack_63 : decode cX12_isBack 63 = .ok (.ireturn, 1) := by decide +kernel
theorem dX12_isBack_64 : decode cX12_isBack 64 = .ok (.aload_n 0, 1) := by decide +kernel
theorem dX12_isBack_65 : decode cX12_isBack 65 = .ok (.getfield 7, 3) := by decide +kernel
theorem dX12_isBack_68 : decode cX12_isBack 68 = .ok (.sipush 288, 3) := by decide +kernel
theorem dX12_isBack_71 : decode cX12_isBack 71 = .ok (.iload_n 1, 1) := by decide +kernel
theorem dX12_isBack_72 : decode cX12_isBack 72 = .ok (.iadd, 1) := by decide +kernel
theorem dX12_isBack_73 : decode cX12_isBack 73 = .ok (.iconst 0, 1) := by decide +kernel
theorem dX12_isBack_74 : decode cX12_isBack 74 = .ok (.iastore, 1) := by decide +kernel
theorem dX12_isBack_75 : decode cX12_isBack 75 = .ok (.iconst 0, 1) := by decide +kernel
theorem dX12_isBack_76 : decode cX12_isBack 76 = .ok (.ireturn, 1) := by decide +kernel
theorem dX12_reckons_0 : decode cX12_reckons 0 = .ok (.iload_n 2, 1) := by decide +kernel
theorem dX12_reckons_1 : decode cX12_reckons 1 = .ok (.tableswitch 313 0 19 #[95, 106, 130, 154, 178, 209, 238, 313, 313, 313, 313, 313, 313, 313, 313, 267, 313, 313, 313, 284], 95) := by decide +kernel
theorem dX12_reckons_96 : decode cX12_reckons 96 = .ok (.aload_n 0, 1) := by decide +kernel
theorem dX12_reckons_97 : decode cX12_reckons 97 = .ok (.iload_n 1, 1) := by decide +kernel
theorem dX12_reckons_98 : decode cX12_reckons 98 = .ok (.iload_n 3, 1) := by decide +kernel
theorem dX12_reckons_99 : decode cX12_reckons 99 = .ok (.iload 4, 2) := by decide +kernel
theorem dX12_reckons_101 : decode cX12_reckons 101 = .ok (.invokevirtual 123, 3) := by decide +kernel
theorem dX12_reckons_104 : decode cX12_reckons 104 = .ok (.goto 237, 3) := by decide +kernel
theorem dX12_reckons_107 : decode cX12_reckons 107 = .ok (.aload_n 0, 1) := by decide +kernel
theorem dX12_reckons_108 : decode cX12_reckons 108 = .ok (.iload_n 1, 1) := by decide +kernel
theorem dX12_reckons_109 : decode cX12_reckons 109 = .ok (.iload_n 3, 1) := by decide +kernel
theorem dX12_reckons_110 : decode cX12_reckons 110 = .ok (.aload_n 0, 1) := by decide +kernel
theorem dX12_reckons_111 : decode cX12_reckons 111 = .ok (.iload_n 1, 1) := by decide +kernel
theorem dX12_reckons_112 : decode cX12_reckons 112 = .ok (.iload 4, 2) := by decide +kernel
theorem dX12_reckons_114 : decode cX12_reckons 114 = .ok (.invokevirtual 139, 3) := by decide +kernel
theorem dX12_reckons_117 : decode cX12_reckons 117 = .ok (.aload_n 0, 1) := by decide +kernel
theorem dX12_reckons_118 : decode cX12_reckons 118 = .ok (.iload_n 1, 1) := by decide +kernel
theorem dX12_reckons_119 : decode cX12_reckons 119 = .ok (.iload 5, 2) := by decide +kernel
theorem dX12_reckons_121 : decode cX12_reckons 121 = .ok (.invokevirtual 139, 3) := by decide +kernel
theorem dX12_reckons_124 : decode cX12_reckons 124 = .ok (.iadd, 1) := by decide +kernel
theorem dX12_reckons_125 : decode cX12_reckons 125 = .ok (.invokevirtual 123, 3) := by decide +kernel
theorem dX12_reckons_128 : decode cX12_reckons 128 = .ok (.goto 213, 3) := by decide +kernel
theorem dX12_reckons_131 : decode cX12_reckons 131 = .ok (.aload_n 0, 1) := by decide +kernel
theorem dX12_reckons_132 : decode cX12_reckons 132 = .ok (.iload_n 1, 1) := by decide +kernel
theorem dX12_reckons_133 : decode cX12_reckons 133 = .ok (.iload_n 3, 1) := by decide +kernel
theorem dX12_reckons_134 : decode cX12_reckons 134 = .ok (.aload_n 0, 1) := by decide +kernel
theorem dX12_reckons_135 : decode cX12_reckons 135 = .ok (.iload_n 1, 1) := by decide +kernel
theorem dX12_reckons_136 : decode cX12_reckons 136 = .ok (.iload 4, 2) := by decide +kernel
theorem dX12_reckons_138 : decode cX12_reckons 138 = .ok (.invokevirtual 139, 3) := by decide +kernel
theorem dX12_reckons_141 : decode cX12_reckons 141 = .ok (.aload_n 0, 1) := by decide +kernel
theorem dX12_reckons_142 : decode cX12_reckons 142 = .ok (.iload_n 1, 1) := by decide +kernel
theorem dX12_reckons_143 : decode cX12_reckons 143 = .ok (.iload 5, 2) := by decide +kernel
theorem dX12_reckons_145 : decode cX12_reckons 145 = .ok (.invokevirtual 139, 3) := by decide +kernel
theorem dX12_reckons_148 : decode cX12_reckons 148 = .ok (.isub, 1) := by decide +kernel
theorem dX12_reckons_149 : decode cX12_reckons 149 = .ok (.invokevirtual 123, 3) := by decide +kernel
