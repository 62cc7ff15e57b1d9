theorem dX11_share_28 : decode cX11_share 28 = .ok (.getfield 182, 3) := by decide +kernel
theorem dX11_share_31 : decode cX11_share 31 = .ok (.aload_n 0, 1) := by decide +kernel
theorem dX11_share_32 : decode cX11_share 32 = .ok (.getfield 28, 3) := by decide +kernel
theorem dX11_share_35 : decode cX11_share 35 = .ok (.getfield 114, 3) := by decide +kernel
theorem dX11_share_38 : decode cX11_share 38 = .ok (.invokestatic 257, 3) := by decide +kernel
theorem dX11_share_41 : decode cX11_share 41 = .ok (.ireturn, 1) := by decide +kernel
theorem dX11_count_0 : decode cX11_count 0 = .ok (.iload_n 1, 1) := by decide +kernel
theorem dX11_count_1 : decode cX11_count 1 = .ok (.tableswitch 175 0 12 #[67, 75, 83, 92, 100, 108, 116, 130, 138, 146, 154, 162, 167], 67) := by decide +kernel
theorem dX11_count_68 : decode cX11_count 68 = .ok (.aload_n 0, 1) := by decide +kernel
theorem dX11_count_69 : decode cX11_count 69 = .ok (.getfield 28, 3) := by decide +kernel
theorem dX11_count_72 : decode cX11_count 72 = .ok (.getfield 114, 3) := by decide +kernel
theorem dX11_count_75 : decode cX11_count 75 = .ok (.ireturn, 1) := by decide +kernel
theorem dX11_count_76 : decode cX11_count 76 = .ok (.aload_n 0, 1) := by decide +kernel
theorem dX11_count_77 : decode cX11_count 77 = .ok (.getfield 10, 3) := by decide +kernel
theorem dX11_count_80 : decode cX11_count 80 = .ok (.getfield 260, 3) := by decide +kernel
theorem dX11_count_83 : decode cX11_count 83 = .ok (.ireturn, 1) := by decide +kernel
theorem dX11_count_84 : decode cX11_count 84 = .ok (.aload_n 0, 1) := by decide +kernel
theorem dX11_count_85 : decode cX11_count 85 = .ok (.getfield 10, 3) := by decide +kernel
theorem dX11_count_88 : decode cX11_count 88 = .ok (.iconst (-1), 1) := by decide +kernel
theorem dX11_count_89 : decode cX11_count 89 = .ok (.invokevirtual 261, 3) := by decide +kernel
theorem dX11_count_92 : decode cX11_count 92 = .ok (.ireturn, 1) := by decide +kernel
theorem dX11_count_93 : decode cX11_count 93 = .ok (.aload_n 0, 1) := by decide +kernel
theorem dX11_count_94 : decode cX11_count 94 = .ok (.getfield 28, 3) := by decide +kernel
theorem dX11_count_97 : decode cX11_count 97 = .ok (.getfield 264, 3) := by decide +kernel
theorem dX11_count_100 : decode cX11_count 100 = .ok (.ireturn, 1) := by decide +kernel
theorem dX11_count_101 : decode cX11_count 101 = .ok (.aload_n 0, 1) := by decide +kernel
theorem dX11_count_102 : decode cX11_count 102 = .ok (.getfield 28, 3) := by decide +kernel
theorem dX11_count_105 : decode cX11_count 105 = .ok (.getfield 265, 3) := by decide +kernel
theorem dX11_count_108 : decode cX11_count 108 = .ok (.ireturn, 1) := by decide +kernel
theorem dX11_count_109 : decode cX11_count 109 = .ok (.aload_n 0, 1) := by decide +kernel
theorem dX11_count_110 : decode cX11_count 110 = .ok (.getfield 28, 3) := by decide +kernel
theorem dX11_count_113 : decode cX11_count 113 = .ok (.getfield 268, 3) := by decide +kernel
theorem dX11_count_116 : decode cX11_count 116 = .ok (.ireturn, 1) := by decide +kernel
theorem dX11_count_117 : decode cX11_count 117 = .ok (.aload_n 0, 1) := by decide +kernel
theorem dX11_count_118 : decode cX11_count 118 = .ok (.getfield 28, 3) := by decide +kernel
theorem dX11_count_121 : decode cX11_count 121 = .ok (.getfield 101, 3) := by decide +kernel
theorem dX11_count_124 : decode cX11_count 124 = .ok (.getfield 212, 3) := by decide +kernel
theorem dX11_count_127 : decode cX11_count 127 = .ok (.getfield 269, 3) := by decide +kernel
theorem dX11_count_130 : decode cX11_count 130 = .ok (.ireturn, 1) := by decide +kernel
theorem dX11_count_131 : decode cX11_count 131 = .ok (.aload_n 0, 1) := by decide +kernel
theorem dX11_count_132 : decode cX11_count 132 = .ok (.getfield 19, 3) := by decide +kernel
theorem dX11_count_135 : decode cX11_count 135 = .ok (.getfield 272, 3) := by decide +kernel
theorem dX11_count_138 : decode cX11_count 138 = .ok (.ireturn, 1) := by decide +kernel
theorem dX11_count_139 : decode cX11_count 139 = .ok (.aload_n 0, 1) := by decide +kernel
theorem dX11_count_140 : decode cX11_count 140 = .ok (.getfield 28, 3) := by decide +kernel
theorem dX11_count_143 : decode cX11_count 143 = .ok (.getfield 273, 3) := by decide +kernel
theorem dX11_count_146 : decode cX11_count 146 = .ok (.ireturn, 1) := by decide +kernel
theorem dX11_count_147 : decode cX11_count 147 = .ok (.aload_n 0, 1) := by decide +kernel
theorem dX11_count_148 : decode cX11_count 148 = .ok (.getfield 28, 3) := by decide +kernel
theorem dX11_count_151 : decode cX11_count 151 = .ok (.getfield 274, 3) := by decide +kernel
theorem dX11_count_154 : decode cX11_count 154 = .ok (.ireturn, 1) := by decide +kernel
theorem dX11_count_155 : decode cX11_count 155 = .ok (.aload_n 0, 1) := by decide +kernel
theorem dX11_count_156 : decode cX11_count 156 = .ok (.getfield 28, 3) := by decide +kernel
theorem dX11_count_159 : decode cX11_count 159 = .ok (.invokevirtual 277, 3) := by decide +kernel
theorem dX11_count_162 : decode cX11_count 162 = .ok (.ireturn, 1) := by decide +kernel
theorem dX11_count_163 : decode cX11_count 163 = .ok (.aload_n 0, 1) := by decide +kernel
theorem dX11_count_164 : decode cX11_count 164 = .ok (.invokevirtual 280, 3) := by decide +kernel
theorem dX11_count_167 : decode cX11_count 167 = .ok (.ireturn, 1) := by decide +kernel
theorem dX11_count_168 : decode cX11_count 168 = .ok (.aload_n 0, 1) := by decide +kernel
theorem dX11_count_169 : decode cX11_count 169 = .ok (.getfield 28, 3) := by decide +kernel
theorem dX11_count_172 : decode cX11_count 172 = .ok (.getfield 283, 3) := by decide +kernel
theorem dX11_count_175 : decode cX11_count 175 = .ok (.ireturn, 1) := by decide +kernel
theorem dX11_count_176 : decode cX11_count 176 = .ok (.iconst (-1), 1) := by decide +kernel
theorem dX11_count_177 : decode cX11_count 177 = .ok (.ireturn, 1) := by decide +kernel
theorem dX11_isThread_0 : decode cX11_isThread 0 = .ok (.iload_n 0, 1) := by decide +kernel
theorem dX11_isThread_1 : decode cX11_isThread 1 = .ok (.ifCond .lt 13, 3) := by decide +kernel
theorem dX11_isThread_4 : decode cX11_isThread 4 = .ok (.iload_n 0, 1) := by decide +kernel
theorem dX11_isThread_5 : decode cX11_isThread 5 = .ok (.bipush 6, 2) := by decide +kernel
theorem dX11_isThread_7 : decode cX11_isThread 7 = .ok (.if_icmp .ge 7, 3) := by decide +kernel
theorem dX11_isThread_10 : decode cX11_isThread 10 = .ok (.iconst 1, 1) := by decide +kernel
theorem dX11_isThread_11 : decode cX11_isThread 11 = .ok (.goto 4, 3) := by decide +kernel
theorem dX11_isThread_14 : decode cX11_isThread 14 = .ok (.iconst 0, 1) := by decide +kernel
theorem dX11_isThread_15 : decode cX11_isThread 15 = .ok (.ireturn, 1) := by decide +kernel
theorem dX11_isRegister_0 : decode cX11_isRegister 0 = .ok (.iload_n 0, 1) := by decide +kernel
theorem dX11_isRegister_1 : decode cX11_isRegister 1 = .ok (.ifCond .lt 13, 3) := by decide +kernel
theorem dX11_isRegister_4 : decode cX11_isRegister 4 = .ok (.iload_n 0, 1) := by decide +kernel
theorem dX11_isRegister_5 : decode cX11_isRegister 5 = .ok (.bipush 8, 2) := by decide +kernel
theorem dX11_isRegister_7 : decode cX11_isRegister 7 = .ok (.if_icmp .ge 7, 3) := by decide +kernel
theorem dX11_isRegister_10 : decode cX11_isRegister 10 = .ok (.iconst 1, 1) := by decide +kernel
theorem dX11_isRegister_11 : decode cX11_isRegister 11 = .ok (.goto 4, 3) := by decide +kernel
theorem dX11_isRegister_14 : decode cX11_isRegister 14 = .ok (.iconst 0, 1) := by decide +kernel
theorem dX11_isRegister_15 : decode cX11_isRegister 15 = .ok (.ireturn, 1) := by decide +kernel
theorem dX11_isPin_0 : decode cX11_isPin 0 = .ok (.iload_n 0, 1) := by decide +kernel
theorem dX11_isPin_1 : decode cX11_isPin 1 = .ok (.ifCond .lt 13, 3) := by decide +kernel
theorem dX11_isPin_4 : decode cX11_isPin 4 = .ok (.iload_n 0, 1) := by decide +kernel
theorem dX11_isPin_5 : decode cX11_isPin 5 = .ok (.bipush 8, 2) := by decide +kernel
theorem dX11_isPin_7 : decode cX11_isPin 7 = .ok (.if_icmp .ge 7, 3) := by decide +kernel
theorem dX11_isPin_10 : decode cX11_isPin 10 = .ok (.iconst 1, 1) := by decide +kernel
theorem dX11_isPin_11 : decode cX11_isPin 11 = .ok (.goto 4, 3) := by decide +kernel
theorem dX11_isPin_14 : decode cX11_isPin 14 = .ok (.iconst 0, 1) := by decide +kernel
theorem dX11_isPin_15 : decode cX11_isPin 15 = .ok (.ireturn, 1) := by decide +kernel
theorem dX11_tickOfInstruction_0 : decode cX11_tickOfInstruction 0 = .ok (.iconst 0, 1) := by decide +kernel
theorem dX11_tickOfInstruction_1 : decode cX11_tickOfInstruction 1 = .ok (.istore_n 3, 1) := by decide +kernel
theorem dX11_tickOfInstruction_2 : decode cX11_tickOfInstruction 2 = .ok (.iconst 0, 1) := by decide +kernel
theorem dX11_tickOfInstruction_3 : decode cX11_tickOfInstruction 3 = .ok (.istore 4, 2) := by decide +kernel
theorem dX11_tickOfInstruction_5 : decode cX11_tickOfInstruction 5 = .ok (.iload 4, 2) := by decide +kernel
theorem dX11_tickOfInstruction_7 : decode cX11_tickOfInstruction 7 = .ok (.sipush 300, 3) := by decide +kernel
theorem dX11_tickOfInstruction_10 : decode cX11_tickOfInstruction 10 = .ok (.if_icmp .ge 34, 3) := by decide +kernel
theorem dX11_tickOfInstruction_13 : decode cX11_tickOfInstruction 13 = .ok (.aload_n 0, 1) := by decide +kernel
theorem dX11_tickOfInstruction_14 : decode cX11_tickOfInstruction 14 = .ok (.getfield 114, 3) := by decide +kernel
theorem dX11_tickOfInstruction_17 : decode cX11_tickOfInstruction 17 = .ok (.istore 5, 2) := by decide +kernel
theorem dX11_tickOfInstruction_19 : decode cX11_tickOfInstruction 19 = .ok (.aload_n 0, 1) := by decide +kernel
theorem dX11_tickOfInstruction_20 : decode cX11_tickOfInstruction 20 = .ok (.invokevirtual 137, 3) := by decide +kernel
theorem dX11_tickOfInstruction_23 : decode cX11_tickOfInstruction 23 = .ok (.iload_n 1, 1) := by decide +kernel
theorem dX11_tickOfInstruction_24 : decode cX11_tickOfInstruction 24 = .ok (.if_icmp .ne 6, 3) := by decide +kernel
theorem dX11_tickOfInstruction_27 : decode cX11_tickOfInstruction 27 = .ok (.iinc 3 1, 3) := by decide +kernel
theorem dX11_tickOfInstruction_30 : decode cX11_tickOfInstruction 30 = .ok (.iload_n 3, 1) := by decide +kernel
theorem dX11_tickOfInstruction_31 : decode cX11_tickOfInstruction 31 = .ok (.iload_n 2, 1) := by decide +kernel
theorem dX11_tickOfInstruction_32 : decode cX11_tickOfInstruction 32 = .ok (.if_icmp .ne 6, 3) := by decide +kernel
theorem dX11_tickOfInstruction_35 : decode cX11_tickOfInstruction 35 = .ok (.iload 5, 2) := by decide +kernel
theorem dX11_tickOfInstruction_37 : decode cX11_tickOfInstruction 37 = .ok (.ireturn, 1) := by decide +kernel
theorem dX11_tickOfInstruction_38 : decode cX11_tickOfInstruction 38 = .ok (.iinc 4 1, 3) := by decide +kernel
theorem dX11_tickOfInstruction_41 : decode cX11_tickOfInstruction 41 = .ok (.goto (-36), 3) := by decide +kernel
theorem dX11_tickOfInstruction_44 : decode cX11_tickOfInstruction 44 = .ok (.iconst (-1), 1) := by decide +kernel
theorem dX11_tickOfInstruction_45 : decode cX11_tickOfInstruction 45 = .ok (.ireturn, 1) := by decide +kernel
theorem dX11_isSafe_0 : decode cX11_isSafe 0 = .ok (.aload_n 0, 1) := by decide +kernel
theorem dX11_isSafe_1 : decode cX11_isSafe 1 = .ok (.getfield 28, 3) := by decide +kernel
theorem dX11_isSafe_4 : decode cX11_isSafe 4 = .ok (.getfield 60, 3) := by decide +kernel
theorem dX11_isSafe_7 : decode cX11_isSafe 7 = .ok (.iload_n 1, 1) := by decide +kernel
theorem dX11_isSafe_8 : decode cX11_isSafe 8 = .ok (.aaload, 1) := by decide +kernel
theorem dX11_isSafe_9 : decode cX11_isSafe 9 = .ok (.astore_n 2, 1) := by decide +kernel
theorem dX11_isSafe_10 : decode cX11_isSafe 10 = .ok (.aload_n 2, 1) := by decide +kernel
theorem dX11_isSafe_11 : decode cX11_isSafe 11 = .ok (.getfield 97, 3) := by decide +kernel
theorem dX11_isSafe_14 : decode cX11_isSafe 14 = .ok (.ifCond .eq 26, 3) := by decide +kernel
theorem dX11_isSafe_17 : decode cX11_isSafe 17 = .ok (.aload_n 0, 1) := by decide +kernel
theorem dX11_isSafe_18 : decode cX11_isSafe 18 = .ok (.getfield 49, 3) := by decide +kernel
theorem dX11_isSafe_21 : decode cX11_isSafe 21 = .ok (.iload_n 1, 1) := by decide +kernel
theorem dX11_isSafe_22 : decode cX11_isSafe 22 = .ok (.iaload, 1) := by decide +kernel
theorem dX11_isSafe_23 : decode cX11_isSafe 23 = .ok (.ifCond .eq 17, 3) := by decide +kernel
theorem dX11_isSafe_26 : decode cX11_isSafe 26 = .ok (.aload_n 0, 1) := by decide +kernel
theorem dX11_isSafe_27 : decode cX11_isSafe 27 = .ok (.getfield 38, 3) := by decide +kernel
theorem dX11_isSafe_30 : decode cX11_isSafe 30 = .ok (.aload_n 2, 1) := by decide +kernel
theorem dX11_isSafe_31 : decode cX11_isSafe 31 = .ok (.getfield 64, 3) := by decide +kernel
theorem dX11_isSafe_34 : decode cX11_isSafe 34 = .ok (.invokevirtual 237, 3) := by decide +kernel
theorem dX11_isSafe_37 : decode cX11_isSafe 37 = .ok (.ifCond .ne 5, 3) := by decide +kernel
theorem dX11_isSafe_40 : decode cX11_isSafe 40 = .ok (.iconst 0, 1) := by decide +kernel
theorem dX11_isSafe_41 : decode cX11_isSafe 41 = .ok (.ireturn, 1) := by decide +kernel
theorem dX11_isSafe_42 : decode cX11_isSafe 42 = .ok (.aload_n 0, 1) := by decide +kernel
theorem dX11_isSafe_43 : decode cX11_isSafe 43 = .ok (.getfield 10, 3) := by decide +kernel
theorem dX11_isSafe_46 : decode cX11_isSafe 46 = .ok (.iload_n 1, 1) := by decide +kernel
theorem dX11_isSafe_47 : decode cX11_isSafe 47 = .ok (.aload_n 0, 1) := by decide +kernel
theorem dX11_isSafe_48 : decode cX11_isSafe 48 = .ok (.getfield 38, 3) := by decide +kernel
theorem dX11_isSafe_51 : decode cX11_isSafe 51 = .ok (.aload_n 2, 1) := by decide +kernel
theorem dX11_isSafe_52 : decode cX11_isSafe 52 = .ok (.getfield 64, 3) := by decide +kernel
theorem dX11_isSafe_55 : decode cX11_isSafe 55 = .ok (.iconst 1, 1) := by decide +kernel
theorem dX11_isSafe_56 : decode cX11_isSafe 56 = .ok (.invokevirtual 241, 3) := by decide +kernel
theorem dX11_isSafe_59 : decode cX11_isSafe 59 = .ok (.iconst 1, 1) := by decide +kernel
theorem dX11_isSafe_60 : decode cX11_isSafe 60 = .ok (.invokevirtual 245, 3) := by decide +kernel
theorem dX11_isSafe_63 : decode cX11_isSafe 63 = .ok (.istore_n 3, 1) := by decide +kernel
theorem dX11_isSafe_64 : decode cX11_isSafe 64 = .ok (.iload_n 3, 1) := by decide +kernel
theorem dX11_isSafe_65 : decode cX11_isSafe 65 = .ok (.iconst (-1), 1) := by decide +kernel
theorem dX11_isSafe_66 : decode cX11_isSafe 66 = .ok (.if_icmp .eq 17, 3) := by decide +kernel
theorem dX11_isSafe_69 : decode cX11_isSafe 69 = .ok (.aload_n 0, 1) := by decide +kernel
theorem dX11_isSafe_70 : decode cX11_isSafe 70 = .ok (.getfield 49, 3) := by decide +kernel
theorem dX11_isSafe_73 : decode cX11_isSafe 73 = .ok (.iload_n 1, 1) := by decide +kernel
theorem dX11_isSafe_74 : decode cX11_isSafe 74 = .ok (.iaload, 1) := by decide +kernel
theorem dX11_isSafe_75 : decode cX11_isSafe 75 = .ok (.iload_n 3, 1) := by decide +kernel
theorem dX11_isSafe_76 : decode cX11_isSafe 76 = .ok (.if_icmp .lt 7, 3) := by decide +kernel
theorem dX11_isSafe_79 : decode cX11_isSafe 79 = .ok (.iconst 1, 1) := by decide +kernel
theorem dX11_isSafe_80 : decode cX11_isSafe 80 = .ok (.goto 4, 3) := by decide +kernel
theorem dX11_isSafe_83 : decode cX11_isSafe 83 = .ok (.iconst 0, 1) := by decide +kernel
theorem dX11_isSafe_84 : decode cX11_isSafe 84 = .ok (.ireturn, 1) := by decide +kernel
theorem dX11_safeOnes_0 : decode cX11_safeOnes 0 = .ok (.iconst 0, 1) := by decide +kernel
theorem dX11_safeOnes_1 : decode cX11_safeOnes 1 = .ok (.istore_n 1, 1) := by decide +kernel
theorem dX11_safeOnes_2 : decode cX11_safeOnes 2 = .ok (.iconst 0, 1) := by decide +kernel
theorem dX11_safeOnes_3 : decode cX11_safeOnes 3 = .ok (.istore_n 2, 1) := by decide +kernel
theorem dX11_safeOnes_4 : decode cX11_safeOnes 4 = .ok (.iload_n 2, 1) := by decide +kernel
theorem dX11_safeOnes_5 : decode cX11_safeOnes 5 = .ok (.bipush 6, 2) := by decide +kernel
theorem dX11_safeOnes_7 : decode cX11_safeOnes 7 = .ok (.if_icmp .ge 23, 3) := by decide +kernel
theorem dX11_safeOnes_10 : decode cX11_safeOnes 10 = .ok (.aload_n 0, 1) := by decide +kernel
theorem dX11_safeOnes_11 : decode cX11_safeOnes 11 = .ok (.iload_n 2, 1) := by decide +kernel
theorem dX11_safeOnes_12 : decode cX11_safeOnes 12 = .ok (.invokevirtual 234, 3) := by decide +kernel
theorem dX11_safeOnes_15 : decode cX11_safeOnes 15 = .ok (.ifCond .eq 9, 3) := by decide +kernel
theorem dX11_safeOnes_18 : decode cX11_safeOnes 18 = .ok (.iload_n 1, 1) := by decide +kernel
theorem dX11_safeOnes_19 : decode cX11_safeOnes 19 = .ok (.iconst 1, 1) := by decide +kernel
theorem dX11_safeOnes_20 : decode cX11_safeOnes 20 = .ok (.iload_n 2, 1) := by decide +kernel
theorem dX11_safeOnes_21 : decode cX11_safeOnes 21 = .ok (.ishl, 1) := by decide +kernel
theorem dX11_safeOnes_22 : decode cX11_safeOnes 22 = .ok (.ior, 1) := by decide +kernel
theorem dX11_safeOnes_23 : decode cX11_safeOnes 23 = .ok (.istore_n 1, 1) := by decide +kernel
theorem dX11_safeOnes_24 : decode cX11_safeOnes 24 = .ok (.iinc 2 1, 3) := by decide +kernel
theorem dX11_safeOnes_27 : decode cX11_safeOnes 27 = .ok (.goto (-23), 3) := by decide +kernel
theorem dX11_safeOnes_30 : decode cX11_safeOnes 30 = .ok (.iload_n 1, 1) := by decide +kernel
theorem dX11_safeOnes_31 : decode cX11_safeOnes 31 = .ok (.ireturn, 1) := by decide +kernel
theorem dX11_ratioBits_0 : decode cX11_ratioBits 0 = .ok (.iload_n 1, 1) := by decide +kernel
theorem dX11_ratioBits_1 : decode cX11_ratioBits 1 = .ok (.ifCond .ne 25, 3) := by decide +kernel
theorem dX11_ratioBits_4 : decode cX11_ratioBits 4 = .ok (.iload_n 0, 1) := by decide +kernel
theorem dX11_ratioBits_5 : decode cX11_ratioBits 5 = .ok (.ifCond .ne 7, 3) := by decide +kernel
theorem dX11_ratioBits_8 : decode cX11_ratioBits 8 = .ok (.ldc_w 286, 3) := by decide +kernel
theorem dX11_ratioBits_11 : decode cX11_ratioBits 11 = .ok (.ireturn, 1) := by decide +kernel
theorem dX11_ratioBits_12 : decode cX11_ratioBits 12 = .ok (.iload_n 0, 1) := by decide +kernel
theorem dX11_ratioBits_13 : decode cX11_ratioBits 13 = .ok (.ifCond .ge 9, 3) := by decide +kernel
theorem dX11_ratioBits_16 : decode cX11_ratioBits 16 = .ok (.ldc_w 287, 3) := by decide +kernel
theorem dX11_ratioBits_19 : decode cX11_ratioBits 19 = .ok (.goto 6, 3) := by decide +kernel
theorem dX11_ratioBits_22 : decode cX11_ratioBits 22 = .ok (.ldc_w 288, 3) := by decide +kernel
theorem dX11_ratioBits_25 : decode cX11_ratioBits 25 = .ok (.ireturn, 1) := by decide +kernel
theorem dX11_ratioBits_26 : decode cX11_ratioBits 26 = .ok (.iload_n 0, 1) := by decide +kernel
theorem dX11_ratioBits_27 : decode cX11_ratioBits 27 = .ok (.ifCond .ne 15, 3) := by decide +kernel
theorem dX11_ratioBits_30 : decode cX11_ratioBits 30 = .ok (.iload_n 1, 1) := by decide +kernel
theorem dX11_ratioBits_31 : decode cX11_ratioBits 31 = .ok (.ifCond .ge 9, 3) := by decide +kernel
theorem dX11_ratioBits_34 : decode cX11_ratioBits 34 = .ok (.ldc_w 289, 3) := by decide +kernel
theorem dX11_ratioBits_37 : decode cX11_ratioBits 37 = .ok (.goto 4, 3) := by decide +kernel
theorem dX11_ratioBits_40 : decode cX11_ratioBits 40 = .ok (.iconst 0, 1) := by decide +kernel
theorem dX11_ratioBits_41 : decode cX11_ratioBits 41 = .ok (.ireturn, 1) := by decide +kernel
theorem dX11_ratioBits_42 : decode cX11_ratioBits 42 = .ok (.iload_n 0, 1) := by decide +kernel
theorem dX11_ratioBits_43 : decode cX11_ratioBits 43 = .ok (.i2f, 1) := by decide +kernel
theorem dX11_ratioBits_44 : decode cX11_ratioBits 44 = .ok (.iload_n 1, 1) := by decide +kernel
theorem dX11_ratioBits_45 : decode cX11_ratioBits 45 = .ok (.i2f, 1) := by decide +kernel
theorem dX11_ratioBits_46 : decode cX11_ratioBits 46 = .ok (.fdiv, 1) := by decide +kernel
theorem dX11_ratioBits_47 : decode cX11_ratioBits 47 = .ok (.invokestatic 290, 3) := by decide +kernel
theorem dX11_ratioBits_50 : decode cX11_ratioBits 50 = .ok (.ireturn, 1) := by decide +kernel
theorem dX11_bitsOf_0 : decode cX11_bitsOf 0 = .ok (.fload_n 0, 1) := by decide +kernel
theorem dX11_bitsOf_1 : decode cX11_bitsOf 1 = .ok (.fconst 0, 1) := by decide +kernel
theorem dX11_bitsOf_2 : decode cX11_bitsOf 2 = .ok (.fcmp .g, 1) := by decide +kernel
theorem dX11_bitsOf_3 : decode cX11_bitsOf 3 = .ok (.ifCond .ge 8, 3) := by decide +kernel
theorem dX11_bitsOf_6 : decode cX11_bitsOf 6 = .ok (.fload_n 0, 1) := by decide +kernel
theorem dX11_bitsOf_7 : decode cX11_bitsOf 7 = .ok (.fneg, 1) := by decide +kernel
theorem dX11_bitsOf_8 : decode cX11_bitsOf 8 = .ok (.goto 4, 3) := by decide +kernel
theorem dX11_bitsOf_11 : decode cX11_bitsOf 11 = .ok (.fload_n 0, 1) := by decide +kernel
theorem dX11_bitsOf_12 : decode cX11_bitsOf 12 = .ok (.fstore_n 1, 1) := by decide +kernel
theorem dX11_bitsOf_13 : decode cX11_bitsOf 13 = .ok (.sipush 150, 3) := by decide +kernel
theorem dX11_bitsOf_16 : decode cX11_bitsOf 16 = .ok (.istore_n 2, 1) := by decide +kernel
theorem dX11_bitsOf_17 : decode cX11_bitsOf 17 = .ok (.iconst 0, 1) := by decide +kernel
theorem dX11_bitsOf_18 : decode cX11_bitsOf 18 = .ok (.istore_n 3, 1) := by decide +kernel
theorem dX11_bitsOf_19 : decode cX11_bitsOf 19 = .ok (.iload_n 3, 1) := by decide +kernel
theorem dX11_bitsOf_20 : decode cX11_bitsOf 20 = .ok (.bipush 64, 2) := by decide +kernel
theorem dX11_bitsOf_22 : decode cX11_bitsOf 22 = .ok (.if_icmp .ge 24, 3) := by decide +kernel
theorem dX11_bitsOf_25 : decode cX11_bitsOf 25 = .ok (.fload_n 1, 1) := by decide +kernel
theorem dX11_bitsOf_26 : decode cX11_bitsOf 26 = .ok (.ldc_w 294, 3) := by decide +kernel
theorem dX11_bitsOf_29 : decode cX11_bitsOf 29 = .ok (.fcmp .l, 1) := by decide +kernel
theorem dX11_bitsOf_30 : decode cX11_bitsOf 30 = .ok (.ifCond .lt 16, 3) := by decide +kernel
theorem dX11_bitsOf_33 : decode cX11_bitsOf 33 = .ok (.fload_n 1, 1) := by decide +kernel
theorem dX11_bitsOf_34 : decode cX11_bitsOf 34 = .ok (.fconst 2, 1) := by decide +kernel
theorem dX11_bitsOf_35 : decode cX11_bitsOf 35 = .ok (.fdiv, 1) := by decide +kernel
theorem dX11_bitsOf_36 : decode cX11_bitsOf 36 = .ok (.fstore_n 1, 1) := by decide +kernel
theorem dX11_bitsOf_37 : decode cX11_bitsOf 37 = .ok (.iinc 2 1, 3) := by decide +kernel
theorem dX11_bitsOf_40 : decode cX11_bitsOf 40 = .ok (.iinc 3 1, 3) := by decide +kernel
theorem dX11_bitsOf_43 : decode cX11_bitsOf 43 = .ok (.goto (-24), 3) := by decide +kernel
theorem dX11_bitsOf_46 : decode cX11_bitsOf 46 = .ok (.iconst 0, 1) := by decide +kernel
theorem dX11_bitsOf_47 : decode cX11_bitsOf 47 = .ok (.istore_n 3, 1) := by decide +kernel
theorem dX11_bitsOf_48 : decode cX11_bitsOf 48 = .ok (.iload_n 3, 1) := by decide +kernel
theorem dX11_bitsOf_49 : decode cX11_bitsOf 49 = .ok (.bipush 64, 2) := by decide +kernel
theorem dX11_bitsOf_51 : decode cX11_bitsOf 51 = .ok (.if_icmp .ge 24, 3) := by decide +kernel
theorem dX11_bitsOf_54 : decode cX11_bitsOf 54 = .ok (.fload_n 1, 1) := by decide +kernel
theorem dX11_bitsOf_55 : decode cX11_bitsOf 55 = .ok (.ldc_w 295, 3) := by decide +kernel
theorem dX11_bitsOf_58 : decode cX11_bitsOf 58 = .ok (.fcmp .g, 1) := by decide +kernel
theorem dX11_bitsOf_59 : decode cX11_bitsOf 59 = .ok (.ifCond .ge 16, 3) := by decide +kernel
theorem dX11_bitsOf_62 : decode cX11_bitsOf 62 = .ok (.fload_n 1, 1) := by decide +kernel
theorem dX11_bitsOf_63 : decode cX11_bitsOf 63 = .ok (.fconst 2, 1) := by decide +kernel
theorem dX11_bitsOf_64 : decode cX11_bitsOf 64 = .ok (.fmul, 1) := by decide +kernel
theorem dX11_bitsOf_65 : decode cX11_bitsOf 65 = .ok (.fstore_n 1, 1) := by decide +kernel
theorem dX11_bitsOf_66 : decode cX11_bitsOf 66 = .ok (.iinc 2 (-1), 3) := by decide +kernel
theorem dX11_bitsOf_69 : decode cX11_bitsOf 69 = .ok (.iinc 3 1, 3) := by decide +kernel
theorem dX11_bitsOf_72 : decode cX11_bitsOf 72 = .ok (.goto (-24), 3) := by decide +kernel
theorem dX11_bitsOf_75 : decode cX11_bitsOf 75 = .ok (.iload_n 2, 1) := by decide +kernel
theorem dX11_bitsOf_76 : decode cX11_bitsOf 76 = .ok (.bipush 23, 2) := by decide +kernel
theorem dX11_bitsOf_78 : decode cX11_bitsOf 78 = .ok (.ishl, 1) := by decide +kernel
theorem dX11_bitsOf_79 : decode cX11_bitsOf 79 = .ok (.fload_n 1, 1) := by decide +kernel
theorem dX11_bitsOf_80 : decode cX11_bitsOf 80 = .ok (.f2i, 1) := by decide +kernel
theorem dX11_bitsOf_81 : decode cX11_bitsOf 81 = .ok (.ldc_w 296, 3) := by decide +kernel
theorem dX11_bitsOf_84 : decode cX11_bitsOf 84 = .ok (.iand, 1) := by decide +kernel
theorem dX11_bitsOf_85 : decode cX11_bitsOf 85 = .ok (.ior, 1) := by decide +kernel
theorem dX11_bitsOf_86 : decode cX11_bitsOf 86 = .ok (.istore_n 3, 1) := by decide +kernel
theorem dX11_bitsOf_87 : decode cX11_bitsOf 87 = .ok (.fload_n 0, 1) := by decide +kernel
theorem dX11_bitsOf_88 : decode cX11_bitsOf 88 = .ok (.fconst 0, 1) := by decide +kernel
theorem dX11_bitsOf_89 : decode cX11_bitsOf 89 = .ok (.fcmp .g, 1) := by decide +kernel
theorem dX11_bitsOf_90 : decode cX11_bitsOf 90 = .ok (.ifCond .ge 11, 3) := by decide +kernel
theorem dX11_bitsOf_93 : decode cX11_bitsOf 93 = .ok (.iload_n 3, 1) := by decide +kernel
theorem dX11_bitsOf_94 : decode cX11_bitsOf 94 = .ok (.ldc_w 289, 3) := by decide +kernel
theorem dX11_bitsOf_97 : decode cX11_bitsOf 97 = .ok (.ior, 1) := by decide +kernel
theorem dX11_bitsOf_98 : decode cX11_bitsOf 98 = .ok (.goto 4, 3) := by decide +kernel
theorem dX11_bitsOf_101 : decode cX11_bitsOf 101 = .ok (.iload_n 3, 1) := by decide +kernel
theorem dX11_bitsOf_102 : decode cX11_bitsOf 102 = .ok (.ireturn, 1) := by decide +kernel
theorem dX11_part_0 : decode cX11_part 0 = .ok (.iload_n 0, 1) := by decide +kernel
theorem dX11_part_1 : decode cX11_part 1 = .ok (.i2f, 1) := by decide +kernel
theorem dX11_part_2 : decode cX11_part 2 = .ok (.iload_n 1, 1) := by decide +kernel
theorem dX11_part_3 : decode cX11_part 3 = .ok (.i2f, 1) := by decide +kernel
theorem dX11_part_4 : decode cX11_part 4 = .ok (.fmul, 1) := by decide +kernel
theorem dX11_part_5 : decode cX11_part 5 = .ok (.ldc_w 297, 3) := by decide +kernel
theorem dX11_part_8 : decode cX11_part 8 = .ok (.fdiv, 1) := by decide +kernel
theorem dX11_part_9 : decode cX11_part 9 = .ok (.f2i, 1) := by decide +kernel
theorem dX11_part_10 : decode cX11_part 10 = .ok (.ireturn, 1) := by decide +kernel
theorem dX12_init_0 : decode cX12_init 0 = .ok (.aload_n 0, 1) := by decide +kernel
theorem dX12_init_1 : decode cX12_init 1 = .ok (.invokespecial 1, 3) := by decide +kernel
theorem dX12_init_4 : decode cX12_init 4 = .ok (.aload_n 0, 1) := by decide +kernel
theorem dX12_init_5 : decode cX12_init 5 = .ok (.sipush 693, 3) := by decide +kernel
theorem dX12_init_8 : decode cX12_init 8 = .ok (.newarray .int, 2) := by decide +kernel
theorem dX12_init_10 : decode cX12_init 10 = .ok (.putfield 7, 3) := by decide +kernel
theorem dX12_init_13 : decode cX12_init 13 = .ok (.aload_n 0, 1) := by decide +kernel
theorem dX12_init_14 : decode cX12_init 14 = .ok (.sipush 693, 3) := by decide +kernel
theorem dX12_init_17 : decode cX12_init 17 = .ok (.newarray .int, 2) := by decide +kernel
theorem dX12_init_19 : decode cX12_init 19 = .ok (.putfield 13, 3) := by decide +kernel
theorem dX12_init_22 : decode cX12_init 22 = .ok (.aload_n 0, 1) := by decide +kernel
theorem dX12_init_23 : decode cX12_init 23 = .ok (.sipush 576, 3) := by decide +kernel
theorem dX12_init_26 : decode cX12_init 26 = .ok (.newarray .int, 2) := by decide +kernel
theorem dX12_init_28 : decode cX12_init 28 = .ok (.putfield 16, 3) := by decide +kernel
theorem dX12_init_31 : decode cX12_init 31 = .ok (.aload_n 0, 1) := by decide +kernel
theorem dX12_init_32 : decode cX12_init 32 = .ok (.bipush 6, 2) := by decide +kernel
theorem dX12_init_34 : decode cX12_init 34 = .ok (.newarray .int, 2) := by decide +kernel
theorem dX12_init_36 : decode cX12_init 36 = .ok (.putfield 19, 3) := by decide +kernel
theorem dX12_init_39 : decode cX12_init 39 = .ok (.aload_n 0, 1) := by decide +kernel
theorem dX12_init_40 : decode cX12_init 40 = .ok (.bipush 6, 2) := by decide +kernel
theorem dX12_init_42 : decode cX12_init 42 = .ok (.newarray .int, 2) := by decide +kernel
theorem dX12_init_44 : decode cX12_init 44 = .ok (.putfield 22, 3) := by decide +kernel
theorem dX12_init_47 : decode cX12_init 47 = .ok (.aload_n 0, 1) := by decide +kernel
theorem dX12_init_48 : decode cX12_init 48 = .ok (.bipush 6, 2) := by decide +kernel
theorem dX12_init_50 : decode cX12_init 50 = .ok (.newarray .boolean, 2) := by decide +kernel
theorem dX12_init_52 : decode cX12_init 52 = .ok (.putfield 25, 3) := by decide +kernel
theorem dX12_init_55 : decode cX12_init 55 = .ok (.aload_n 0, 1) := by decide +kernel
theorem dX12_init_56 : decode cX12_init 56 = .ok (.bipush 8, 2) := by decide +kernel
theorem dX12_init_58 : decode cX12_init 58 = .ok (.newarray .int, 2) := by decide +kernel
theorem dX12_init_60 : decode cX12_init 60 = .ok (.putfield 29, 3) := by decide +kernel
theorem dX12_init_63 : decode cX12_init 63 = .ok (.aload_n 0, 1) := by decide +kernel
theorem dX12_init_64 : decode cX12_init 64 = .ok (.bipush 32, 2) := by decide +kernel
theorem dX12_init_66 : decode cX12_init 66 = .ok (.newarray .int, 2) := by decide +kernel
theorem dX12_init_68 : decode cX12_init 68 = .ok (.putfield 32, 3) := by decide +kernel
theorem dX12_init_71 : decode cX12_init 71 = .ok (.aload_n 0, 1) := by decide +kernel
theorem dX12_init_72 : decode cX12_init 72 = .ok (.bipush 32, 2) := by decide +kernel
theorem dX12_init_74 : decode cX12_init 74 = .ok (.newarray .int, 2) := by decide +kernel
theorem dX12_init_76 : decode cX12_init 76 = .ok (.putfield 35, 3) := by decide +kernel
theorem dX12_init_79 : decode cX12_init 79 = .ok (.aload_n 0, 1) := by decide +kernel
theorem dX12_init_80 : decode cX12_init 80 = .ok (.bipush 32, 2) := by decide +kernel
theorem dX12_init_82 : decode cX12_init 82 = .ok (.newarray .int, 2) := by decide +kernel
theorem dX12_init_84 : decode cX12_init 84 = .ok (.putfield 38, 3) := by decide +kernel
theorem dX12_init_87 : decode cX12_init 87 = .ok (.aload_n 0, 1) := by decide +kernel
theorem dX12_init_88 : decode cX12_init 88 = .ok (.bipush 16, 2) := by decide +kernel
theorem dX12_init_90 : decode cX12_init 90 = .ok (.newarray .int, 2) := by decide +kernel
theorem dX12_init_92 : decode cX12_init 92 = .ok (.putfield 41, 3) := by decide +kernel
theorem dX12_init_95 : decode cX12_init 95 = .ok (.aload_n 0, 1) := by decide +kernel
theorem dX12_init_96 : decode cX12_init 96 = .ok (.iconst 1, 1) := by decide +kernel
theorem dX12_init_97 : decode cX12_init 97 = .ok (.putfield 44, 3) := by decide +kernel
theorem dX12_init_100 : decode cX12_init 100 = .ok (.aload_n 0, 1) := by decide +kernel
theorem dX12_init_101 : decode cX12_init 101 = .ok (.bipush 6, 2) := by decide +kernel
theorem dX12_init_103 : decode cX12_init 103 = .ok (.newarray .int, 2) := by decide +kernel
theorem dX12_init_105 : decode cX12_init 105 = .ok (.putfield 48, 3) := by decide +kernel
theorem dX12_init_108 : decode cX12_init 108 = .ok (.aload_n 0, 1) := by decide +kernel
theorem dX12_init_109 : decode cX12_init 109 = .ok (.bipush 6, 2) := by decide +kernel
theorem dX12_init_111 : decode cX12_init 111 = .ok (.newarray .int, 2) := by decide +kernel
theorem dX12_init_113 : decode cX12_init 113 = .ok (.putfield 51, 3) := by decide +kernel
theorem dX12_init_116 : decode cX12_init 116 = .ok (.aload_n 0, 1) := by decide +kernel
theorem dX12_init_117 : decode cX12_init 117 = .ok (.bipush 6, 2) := by decide +kernel
theorem dX12_init_119 : decode cX12_init 119 = .ok (.newarray .int, 2) := by decide +kernel
theorem dX12_init_121 : decode cX12_init 121 = .ok (.putfield 54, 3) := by decide +kernel
theorem dX12_init_124 : decode cX12_init 124 = .ok (.aload_n 0, 1) := by decide +kernel
theorem dX12_init_125 : decode cX12_init 125 = .ok (.sipush 390, 3) := by decide +kernel
theorem dX12_init_128 : decode cX12_init 128 = .ok (.newarray .int, 2) := by decide +kernel
theorem dX12_init_130 : decode cX12_init 130 = .ok (.putfield 57, 3) := by decide +kernel
theorem dX12_init_133 : decode cX12_init 133 = .ok (.aload_n 0, 1) := by decide +kernel
theorem dX12_init_134 : decode cX12_init 134 = .ok (.bipush 65, 2) := by decide +kernel
theorem dX12_init_136 : decode cX12_init 136 = .ok (.newarray .int, 2) := by decide +kernel
theorem dX12_init_138 : decode cX12_init 138 = .ok (.putfield 60, 3) := by decide +kernel
theorem dX12_init_141 : decode cX12_init 141 = .ok (.aload_n 0, 1) := by decide +kernel
theorem dX12_init_142 : decode cX12_init 142 = .ok (.sipush 625, 3) := by decide +kernel
theorem dX12_init_145 : decode cX12_init 145 = .ok (.newarray .long, 2) := by decide +kernel
theorem dX12_init_147 : decode cX12_init 147 = .ok (.putfield 63, 3) := by decide +kernel
theorem dX12_init_150 : decode cX12_init 150 = .ok (.aload_n 0, 1) := by decide +kernel
theorem dX12_init_151 : decode cX12_init 151 = .ok (.bipush 6, 2) := by decide +kernel
theorem dX12_init_153 : decode cX12_init 153 = .ok (.newarray .int, 2) := by decide +kernel
theorem dX12_init_155 : decode cX12_init 155 = .ok (.putfield 67, 3) := by decide +kernel
theorem dX12_init_158 : decode cX12_init 158 = .ok (.iconst 0, 1) := by decide +kernel
theorem dX12_init_159 : decode cX12_init 159 = .ok (.istore_n 1, 1) := by decide +kernel
theorem dX12_init_160 : decode cX12_init 160 = .ok (.iload_n 1, 1) := by decide +kernel
theorem dX12_init_161 : decode cX12_init 161 = .ok (.bipush 6, 2) := by decide +kernel
theorem dX12_init_163 : decode cX12_init 163 = .ok (.if_icmp .ge 16, 3) := by decide +kernel
theorem dX12_init_166 : decode cX12_init 166 = .ok (.aload_n 0, 1) := by decide +kernel
theorem dX12_init_167 : decode cX12_init 167 = .ok (.getfield 22, 3) := by decide +kernel
theorem dX12_init_170 : decode cX12_init 170 = .ok (.iload_n 1, 1) := by decide +kernel
theorem dX12_init_171 : decode cX12_init 171 = .ok (.iconst (-1), 1) := by decide +kernel
theorem dX12_init_172 : decode cX12_init 172 = .ok (.iastore, 1) := by decide +kernel
theorem dX12_init_173 : decode cX12_init 173 = .ok (.iinc 1 1, 3) := by decide +kernel
theorem dX12_init_176 : decode cX12_init 176 = .ok (.goto (-16), 3) := by decide +kernel
theorem dX12_init_179 : decode cX12_init 179 = .ok (.iconst 0, 1) := by decide +kernel
theorem dX12_init_180 : decode cX12_init 180 = .ok (.istore_n 1, 1) := by decide +kernel
theorem dX12_init_181 : decode cX12_init 181 = .ok (.iload_n 1, 1) := by decide +kernel
theorem dX12_init_182 : decode cX12_init 182 = .ok (.bipush 8, 2) := by decide +kernel
theorem dX12_init_184 : decode cX12_init 184 = .ok (.if_icmp .ge 16, 3) := by decide +kernel
theorem dX12_init_187 : decode cX12_init 187 = .ok (.aload_n 0, 1) := by decide +kernel
theorem dX12_init_188 : decode cX12_init 188 = .ok (.getfield 29, 3) := by decide +kernel
theorem dX12_init_191 : decode cX12_init 191 = .ok (.iload_n 1, 1) := by decide +kernel
theorem dX12_init_192 : decode cX12_init 192 = .ok (.iconst 2, 1) := by decide +kernel
theorem dX12_init_193 : decode cX12_init 193 = .ok (.iastore, 1) := by decide +kernel
theorem dX12_init_194 : decode cX12_init 194 = .ok (.iinc 1 1, 3) := by decide +kernel
theorem dX12_init_197 : decode cX12_init 197 = .ok (.goto (-16), 3) := by decide +kernel
theorem dX12_init_200 : decode cX12_init 200 = .ok (.aload_n 0, 1) := by decide +kernel
theorem dX12_init_201 : decode cX12_init 201 = .ok (.getfield 41, 3) := by decide +kernel
theorem dX12_init_204 : decode cX12_init 204 = .ok (.iconst 0, 1) := by decide +kernel
theorem dX12_init_205 : decode cX12_init 205 = .ok (.iconst (-1), 1) := by decide +kernel
theorem dX12_init_206 : decode cX12_init 206 = .ok (.iastore, 1) := by decide +kernel
theorem dX12_init_207 : decode cX12_init 207 = .ok (.aload_n 0, 1) := by decide +kernel
theorem dX12_init_208 : decode cX12_init 208 = .ok (.invokevirtual 70, 3) := by decide +kernel
theorem dX12_init_211 : decode cX12_init 211 = .ok (.return_, 1) := by decide +kernel
theorem dX12_thrown_0 : decode cX12_thrown 0 = .ok (.aload_n 0, 1) := by decide +kernel
theorem dX12_thrown_1 : decode cX12_thrown 1 = .ok (.getfield 73, 3) := by decide +kernel
theorem dX12_thrown_4 : decode cX12_thrown 4 = .ok (.ireturn, 1) := by decide +kernel
theorem dX12_within_0 : decode cX12_within 0 = .ok (.iload_n 0, 1) := by decide +kernel
theorem dX12_within_1 : decode cX12_within 1 = .ok (.iload_n 1, 1) := by decide +kernel
theorem dX12_within_2 : decode cX12_within 2 = .ok (.if_icmp .lt 12, 3) := by decide +kernel
theorem dX12_within_5 : decode cX12_within 5 = .ok (.iload_n 0, 1) := by decide +kernel
theorem dX12_within_6 : decode cX12_within 6 = .ok (.iload_n 2, 1) := by decide +kernel
theorem dX12_within_7 : decode cX12_within 7 = .ok (.if_icmp .gt 7, 3) := by decide +kernel
theorem dX12_within_10 : decode cX12_within 10 = .ok (.iconst 1, 1) := by decide +kernel
theorem dX12_within_11 : decode cX12_within 11 = .ok (.goto 4, 3) := by decide +kernel
theorem dX12_within_14 : decode cX12_within 14 = .ok (.iconst 0, 1) := by decide +kernel
theorem dX12_within_15 : decode cX12_within 15 = .ok (.ireturn, 1) := by decide +kernel
theorem dX12_isThread_0 : decode cX12_isThread 0 = .ok (.iload_n 0, 1) := by decide +kernel
theorem dX12_isThread_1 : decode cX12_isThread 1 = .ok (.iconst 0, 1) := by decide +kernel
theorem dX12_isThread_2 : decode cX12_isThread 2 = .ok (.iconst 5, 1) := by decide +kernel
theorem dX12_isThread_3 : decode cX12_isThread 3 = .ok (.invokestatic 76, 3) := by decide +kernel
theorem dX12_isThread_6 : decode cX12_isThread 6 = .ok (.ireturn, 1) := by decide +kernel
theorem dX12_begins_0 : decode cX12_begins 0 = .ok (.iconst 0, 1) := by decide +kernel
theorem dX12_begins_1 : decode cX12_begins 1 = .ok (.istore_n 1, 1) := by decide +kernel
theorem dX12_begins_2 : decode cX12_begins 2 = .ok (.iload_n 1, 1) := by decide +kernel
theorem dX12_begins_3 : decode cX12_begins 3 = .ok (.sipush 693, 3) := by decide +kernel
theorem dX12_begins_6 : decode cX12_begins 6 = .ok (.if_icmp .ge 16, 3) := by decide +kernel
theorem dX12_begins_9 : decode cX12_begins 9 = .ok (.aload_n 0, 1) := by decide +kernel
theorem dX12_begins_10 : decode cX12_begins 10 = .ok (.getfield 7, 3) := by decide +kernel
theorem dX12_begins_13 : decode cX12_begins 13 = .ok (.iload_n 1, 1) := by decide +kernel
theorem dX12_begins_14 : decode cX12_begins 14 = .ok (.iconst 0, 1) := by decide +kernel
theorem dX12_begins_15 : decode cX12_begins 15 = .ok (.iastore, 1) := by decide +kernel
theorem dX12_begins_16 : decode cX12_begins 16 = .ok (.iinc 1 1, 3) := by decide +kernel
theorem dX12_begins_19 : decode cX12_begins 19 = .ok (.goto (-17), 3) := by decide +kernel
theorem dX12_begins_22 : decode cX12_begins 22 = .ok (.iconst 0, 1) := by decide +kernel
theorem dX12_begins_23 : decode cX12_begins 23 = .ok (.istore_n 1, 1) := by decide +kernel
theorem dX12_begins_24 : decode cX12_begins 24 = .ok (.iload_n 1, 1) := by decide +kernel
theorem dX12_begins_25 : decode cX12_begins 25 = .ok (.bipush 6, 2) := by decide +kernel
theorem dX12_begins_27 : decode cX12_begins 27 = .ok (.if_icmp .ge 20, 3) := by decide +kernel
theorem dX12_begins_30 : decode cX12_begins 30 = .ok (.aload_n 0, 1) := by decide +kernel
theorem dX12_begins_31 : decode cX12_begins 31 = .ok (.getfield 7, 3) := by decide +kernel
theorem dX12_begins_34 : decode cX12_begins 34 = .ok (.sipush 468, 3) := by decide +kernel
theorem dX12_begins_37 : decode cX12_begins 37 = .ok (.iload_n 1, 1) := by decide +kernel
theorem dX12_begins_38 : decode cX12_begins 38 = .ok (.iadd, 1) := by decide +kernel
theorem dX12_begins_39 : decode cX12_begins 39 = .ok (.iconst (-1), 1) := by decide +kernel
theorem dX12_begins_40 : decode cX12_begins 40 = .ok (.iastore, 1) := by decide +kernel
theorem dX12_begins_41 : decode cX12_begins 41 = .ok (.iinc 1 1, 3) := by decide +kernel
theorem dX12_begins_44 : decode cX12_begins 44 = .ok (.goto (-20), 3) := by decide +kernel
theorem dX12_begins_47 : decode cX12_begins 47 = .ok (.aload_n 0, 1) := by decide +kernel
theorem dX12_begins_48 : decode cX12_begins 48 = .ok (.getfield 7, 3) := by decide +kernel
theorem dX12_begins_51 : decode cX12_begins 51 = .ok (.sipush 684, 3) := by decide +kernel
theorem dX12_begins_54 : decode cX12_begins 54 = .ok (.iconst (-1), 1) := by decide +kernel
theorem dX12_begins_55 : decode cX12_begins 55 = .ok (.iastore, 1) := by decide +kernel
theorem dX12_begins_56 : decode cX12_begins 56 = .ok (.return_, 1) := by decide +kernel
theorem dX12_canTell_0 : decode cX12_canTell 0 = .ok (.iload_n 1, 1) := by decide +kernel
theorem dX12_canTell_1 : decode cX12_canTell 1 = .ok (.iconst 0, 1) := by decide +kernel
theorem dX12_canTell_2 : decode cX12_canTell 2 = .ok (.bipush 7, 2) := by decide +kernel
theorem dX12_canTell_4 : decode cX12_canTell 4 = .ok (.invokestatic 76, 3) := by decide +kernel
theorem dX12_canTell_7 : decode cX12_canTell 7 = .ok (.istore 5, 2) := by decide +kernel
theorem dX12_canTell_9 : decode cX12_canTell 9 = .ok (.iload_n 2, 1) := by decide +kernel
theorem dX12_canTell_10 : decode cX12_canTell 10 = .ok (.iconst 0, 1) := by decide +kernel
theorem dX12_canTell_11 : decode cX12_canTell 11 = .ok (.bipush 7, 2) := by decide +kernel
theorem dX12_canTell_13 : decode cX12_canTell 13 = .ok (.invokestatic 76, 3) := by decide +kernel
theorem dX12_canTell_16 : decode cX12_canTell 16 = .ok (.istore 6, 2) := by decide +kernel
theorem dX12_canTell_18 : decode cX12_canTell 18 = .ok (.iload_n 3, 1) := by decide +kernel
theorem dX12_canTell_19 : decode cX12_canTell 19 = .ok (.iconst 0, 1) := by decide +kernel
theorem dX12_canTell_20 : decode cX12_canTell 20 = .ok (.bipush 7, 2) := by decide +kernel
theorem dX12_canTell_22 : decode cX12_canTell 22 = .ok (.invokestatic 76, 3) := by decide +kernel
theorem dX12_canTell_25 : decode cX12_canTell 25 = .ok (.istore 7, 2) := by decide +kernel
theorem dX12_canTell_27 : decode cX12_canTell 27 = .ok (.iload_n 0, 1) := by decide +kernel
theorem dX12_canTell_28 : decode cX12_canTell 28 = .ok (.ifCond .eq 15, 3) := by decide +kernel
theorem dX12_canTell_31 : decode cX12_canTell 31 = .ok (.iload_n 0, 1) := by decide +kernel
theorem dX12_canTell_32 : decode cX12_canTell 32 = .ok (.bipush 14, 2) := by decide +kernel
theorem dX12_canTell_34 : decode cX12_canTell 34 = .ok (.if_icmp .eq 9, 3) := by decide +kernel
theorem dX12_canTell_37 : decode cX12_canTell 37 = .ok (.iload_n 0, 1) := by decide +kernel
theorem dX12_canTell_38 : decode cX12_canTell 38 = .ok (.bipush 15, 2) := by decide +kernel
theorem dX12_canTell_40 : decode cX12_canTell 40 = .ok (.if_icmp .ne 6, 3) := by decide +kernel
theorem dX12_canTell_43 : decode cX12_canTell 43 = .ok (.iload 5, 2) := by decide +kernel
theorem dX12_canTell_45 : decode cX12_canTell 45 = .ok (.ireturn, 1) := by decide +kernel
theorem dX12_canTell_46 : decode cX12_canTell 46 = .ok (.iload_n 0, 1) := by decide +kernel
theorem dX12_canTell_47 : decode cX12_canTell 47 = .ok (.iconst 5, 1) := by decide +kernel
theorem dX12_canTell_48 : decode cX12_canTell 48 = .ok (.if_icmp .eq 21, 3) := by decide +kernel
theorem dX12_canTell_51 : decode cX12_canTell 51 = .ok (.iload_n 0, 1) := by decide +kernel
theorem dX12_canTell_52 : decode cX12_canTell 52 = .ok (.bipush 6, 2) := by decide +kernel
theorem dX12_canTell_54 : decode cX12_canTell 54 = .ok (.if_icmp .eq 15, 3) := by decide +kernel
theorem dX12_canTell_57 : decode cX12_canTell 57 = .ok (.iload_n 0, 1) := by decide +kernel
theorem dX12_canTell_58 : decode cX12_canTell 58 = .ok (.bipush 10, 2) := by decide +kernel
theorem dX12_canTell_60 : decode cX12_canTell 60 = .ok (.if_icmp .eq 9, 3) := by decide +kernel
theorem dX12_canTell_63 : decode cX12_canTell 63 = .ok (.iload_n 0, 1) := by decide +kernel
theorem dX12_canTell_64 : decode cX12_canTell 64 = .ok (.bipush 12, 2) := by decide +kernel
theorem dX12_canTell_66 : decode cX12_canTell 66 = .ok (.if_icmp .ne 19, 3) := by decide +kernel
theorem dX12_canTell_69 : decode cX12_canTell 69 = .ok (.iload 5, 2) := by decide +kernel
theorem dX12_canTell_71 : decode cX12_canTell 71 = .ok (.ifCond .eq 12, 3) := by decide +kernel
theorem dX12_canTell_74 : decode cX12_canTell 74 = .ok (.iload 6, 2) := by decide +kernel
theorem dX12_canTell_76 : decode cX12_canTell 76 = .ok (.ifCond .eq 7, 3) := by decide +kernel
theorem dX12_canTell_79 : decode cX12_canTell 79 = .ok (.iconst 1, 1) := by decide +kernel
theorem dX12_canTell_80 : decode cX12_canTell 80 = .ok (.goto 4, 3) := by decide +kernel
theorem dX12_canTell_83 : decode cX12_canTell 83 = .ok (.iconst 0, 1) := by decide +kernel
theorem dX12_canTell_84 : decode cX12_canTell 84 = .ok (.ireturn, 1) := by decide +kernel
theorem dX12_canTell_85 : decode cX12_canTell 85 = .ok (.iload_n 0, 1) := by decide +kernel
theorem dX12_canTell_86 : decode cX12_canTell 86 = .ok (.bipush 7, 2) := by decide +kernel
theorem dX12_canTell_88 : decode cX12_canTell 88 = .ok (.if_icmp .ne 11, 3) := by decide +kernel
theorem dX12_canTell_91 : decode cX12_canTell 91 = .ok (.iload_n 2, 1) := by decide +kernel
theorem dX12_canTell_92 : decode cX12_canTell 92 = .ok (.iconst 0, 1) := by decide +kernel
theorem dX12_canTell_93 : decode cX12_canTell 93 = .ok (.bipush 23, 2) := by decide +kernel
theorem dX12_canTell_95 : decode cX12_canTell 95 = .ok (.invokestatic 76, 3) := by decide +kernel
theorem dX12_canTell_98 : decode cX12_canTell 98 = .ok (.ireturn, 1) := by decide +kernel
theorem dX12_canTell_99 : decode cX12_canTell 99 = .ok (.iload_n 0, 1) := by decide +kernel
theorem dX12_canTell_100 : decode cX12_canTell 100 = .ok (.bipush 8, 2) := by decide +kernel
theorem dX12_canTell_102 : decode cX12_canTell 102 = .ok (.if_icmp .ne 24, 3) := by decide +kernel
theorem dX12_canTell_105 : decode cX12_canTell 105 = .ok (.iload 5, 2) := by decide +kernel
theorem dX12_canTell_107 : decode cX12_canTell 107 = .ok (.ifCond .eq 17, 3) := by decide +kernel
theorem dX12_canTell_110 : decode cX12_canTell 110 = .ok (.iload_n 2, 1) := by decide +kernel
theorem dX12_canTell_111 : decode cX12_canTell 111 = .ok (.iconst 0, 1) := by decide +kernel
theorem dX12_canTell_112 : decode cX12_canTell 112 = .ok (.bipush 23, 2) := by decide +kernel
theorem dX12_canTell_114 : decode cX12_canTell 114 = .ok (.invokestatic 76, 3) := by decide +kernel
theorem dX12_canTell_117 : decode cX12_canTell 117 = .ok (.ifCond .eq 7, 3) := by decide +kernel
theorem dX12_canTell_120 : decode cX12_canTell 120 = .ok (.iconst 1, 1) := by decide +kernel
theorem dX12_canTell_121 : decode cX12_canTell 121 = .ok (.goto 4, 3) := by decide +kernel
theorem dX12_canTell_124 : decode cX12_canTell 124 = .ok (.iconst 0, 1) := by decide +kernel
theorem dX12_canTell_125 : decode cX12_canTell 125 = .ok (.ireturn, 1) := by decide +kernel
theorem dX12_canTell_126 : decode cX12_canTell 126 = .ok (.iload_n 0, 1) := by decide +kernel
theorem dX12_canTell_127 : decode cX12_canTell 127 = .ok (.bipush 9, 2) := by decide +kernel
theorem dX12_canTell_129 : decode cX12_canTell 129 = .ok (.if_icmp .ne 24, 3) := by decide +kernel
theorem dX12_canTell_132 : decode cX12_canTell 132 = .ok (.iload 5, 2) := by decide +kernel
theorem dX12_canTell_134 : decode cX12_canTell 134 = .ok (.ifCond .eq 17, 3) := by decide +kernel
theorem dX12_canTell_137 : decode cX12_canTell 137 = .ok (.iload_n 2, 1) := by decide +kernel
theorem dX12_canTell_138 : decode cX12_canTell 138 = .ok (.iconst 0, 1) := by decide +kernel
theorem dX12_canTell_139 : decode cX12_canTell 139 = .ok (.iload 4, 2) := by decide +kernel
theorem dX12_canTell_141 : decode cX12_canTell 141 = .ok (.invokestatic 76, 3) := by decide +kernel
theorem dX12_canTell_144 : decode cX12_canTell 144 = .ok (.ifCond .eq 7, 3) := by decide +kernel
theorem dX12_canTell_147 : decode cX12_canTell 147 = .ok (.iconst 1, 1) := by decide +kernel
theorem dX12_canTell_148 : decode cX12_canTell 148 = .ok (.goto 4, 3) := by decide +kernel
theorem dX12_canTell_151 : decode cX12_canTell 151 = .ok (.iconst 0, 1) := by decide +kernel
theorem dX12_canTell_152 : decode cX12_canTell 152 = .ok (.ireturn, 1) := by decide +kernel
theorem dX12_canTell_153 : decode cX12_canTell 153 = .ok (.iload_n 0, 1) := by decide +kernel
theorem dX12_canTell_154 : decode cX12_canTell 154 = .ok (.bipush 16, 2) := by decide +kernel
theorem dX12_canTell_156 : decode cX12_canTell 156 = .ok (.if_icmp .eq 9, 3) := by decide +kernel
theorem dX12_canTell_159 : decode cX12_canTell 159 = .ok (.iload_n 0, 1) := by decide +kernel
theorem dX12_canTell_160 : decode cX12_canTell 160 = .ok (.bipush 17, 2) := by decide +kernel
theorem dX12_canTell_162 : decode cX12_canTell 162 = .ok (.if_icmp .ne 23, 3) := by decide +kernel
theorem dX12_canTell_165 : decode cX12_canTell 165 = .ok (.iload_n 1, 1) := by decide +kernel
theorem dX12_canTell_166 : decode cX12_canTell 166 = .ok (.iconst 0, 1) := by decide +kernel
theorem dX12_canTell_167 : decode cX12_canTell 167 = .ok (.iconst 3, 1) := by decide +kernel
theorem dX12_canTell_168 : decode cX12_canTell 168 = .ok (.invokestatic 76, 3) := by decide +kernel
theorem dX12_canTell_171 : decode cX12_canTell 171 = .ok (.ifCond .eq 12, 3) := by decide +kernel
theorem dX12_canTell_174 : decode cX12_canTell 174 = .ok (.iload 6, 2) := by decide +kernel
theorem dX12_canTell_176 : decode cX12_canTell 176 = .ok (.ifCond .eq 7, 3) := by decide +kernel
theorem dX12_canTell_179 : decode cX12_canTell 179 = .ok (.iconst 1, 1) := by decide +kernel
theorem dX12_canTell_180 : decode cX12_canTell 180 = .ok (.goto 4, 3) := by decide +kernel
theorem dX12_canTell_183 : decode cX12_canTell 183 = .ok (.iconst 0, 1) := by decide +kernel
theorem dX12_canTell_184 : decode cX12_canTell 184 = .ok (.ireturn, 1) := by decide +kernel
theorem dX12_canTell_185 : decode cX12_canTell 185 = .ok (.iload_n 0, 1) := by decide +kernel
theorem dX12_canTell_186 : decode cX12_canTell 186 = .ok (.bipush 18, 2) := by decide +kernel
theorem dX12_canTell_188 : decode cX12_canTell 188 = .ok (.if_icmp .eq 18, 3) := by decide +kernel
theorem dX12_canTell_191 : decode cX12_canTell 191 = .ok (.iload 5, 2) := by decide +kernel
theorem dX12_canTell_193 : decode cX12_canTell 193 = .ok (.ifCond .eq 17, 3) := by decide +kernel
theorem dX12_canTell_196 : decode cX12_canTell 196 = .ok (.iload 6, 2) := by decide +kernel
theorem dX12_canTell_198 : decode cX12_canTell 198 = .ok (.ifCond .eq 12, 3) := by decide +kernel
theorem dX12_canTell_201 : decode cX12_canTell 201 = .ok (.iload 7, 2) := by decide +kernel
theorem dX12_canTell_203 : decode cX12_canTell 203 = .ok (.ifCond .eq 7, 3) := by decide +kernel
theorem dX12_canTell_206 : decode cX12_canTell 206 = .ok (.iconst 1, 1) := by decide +kernel
theorem dX12_canTell_207 : decode cX12_canTell 207 = .ok (.goto 4, 3) := by decide +kernel
theorem dX12_canTell_210 : decode cX12_canTell 210 = .ok (.iconst 0, 1) := by decide +kernel
theorem dX12_canTell_211 : decode cX12_canTell 211 = .ok (.ireturn, 1) := by decide +kernel
theorem dX12_tell_0 : decode cX12_tell 0 = .ok (.aload_n 0, 1) := by decide +kernel
theorem dX12_tell_1 : decode cX12_tell 1 = .ok (.iconst 0, 1) := by decide +kernel
theorem dX12_tell_2 : decode cX12_tell 2 = .ok (.putfield 73, 3) := by decide +kernel
theorem dX12_tell_5 : decode cX12_tell 5 = .ok (.iload_n 1, 1) := by decide +kernel
theorem dX12_tell_6 : decode cX12_tell 6 = .ok (.invokestatic 80, 3) := by decide +kernel
theorem dX12_tell_9 : decode cX12_tell 9 = .ok (.ifCond .eq 42, 3) := by decide +kernel
theorem dX12_tell_12 : decode cX12_tell 12 = .ok (.iload_n 2, 1) := by decide +kernel
theorem dX12_tell_13 : decode cX12_tell 13 = .ok (.iconst 0, 1) := by decide +kernel
theorem dX12_tell_14 : decode cX12_tell 14 = .ok (.bipush 20, 2) := by decide +kernel
theorem dX12_tell_16 : decode cX12_tell 16 = .ok (.invokestatic 76, 3) := by decide +kernel
theorem dX12_tell_19 : decode cX12_tell 19 = .ok (.ifCond .eq 32, 3) := by decide +kernel
theorem dX12_tell_22 : decode cX12_tell 22 = .ok (.aload_n 0, 1) := by decide +kernel
theorem dX12_tell_23 : decode cX12_tell 23 = .ok (.getfield 19, 3) := by decide +kernel
theorem dX12_tell_26 : decode cX12_tell 26 = .ok (.iload_n 1, 1) := by decide +kernel
theorem dX12_tell_27 : decode cX12_tell 27 = .ok (.iaload, 1) := by decide +kernel
theorem dX12_tell_28 : decode cX12_tell 28 = .ok (.bipush 24, 2) := by decide +kernel
theorem dX12_tell_30 : decode cX12_tell 30 = .ok (.if_icmp .eq 21, 3) := by decide +kernel
theorem dX12_tell_33 : decode cX12_tell 33 = .ok (.iload_n 2, 1) := by decide +kernel
theorem dX12_tell_34 : decode cX12_tell 34 = .ok (.iload_n 3, 1) := by decide +kernel
theorem dX12_tell_35 : decode cX12_tell 35 = .ok (.iload 4, 2) := by decide +kernel
theorem dX12_tell_37 : decode cX12_tell 37 = .ok (.iload 5, 2) := by decide +kernel
theorem dX12_tell_39 : decode cX12_tell 39 = .ok (.aload_n 0, 1) := by decide +kernel
theorem dX12_tell_40 : decode cX12_tell 40 = .ok (.getfield 19, 3) := by decide +kernel
theorem dX12_tell_43 : decode cX12_tell 43 = .ok (.iload_n 1, 1) := by decide +kernel
theorem dX12_tell_44 : decode cX12_tell 44 = .ok (.iaload, 1) := by decide +kernel
theorem dX12_tell_45 : decode cX12_tell 45 = .ok (.invokestatic 84, 3) := by decide +kernel
theorem dX12_tell_48 : decode cX12_tell 48 = .ok (.ifCond .ne 5, 3) := by decide +kernel
theorem dX12_tell_51 : decode cX12_tell 51 = .ok (.iconst (-1), 1) := by decide +kernel
theorem dX12_tell_52 : decode cX12_tell 52 = .ok (.ireturn, 1) := by decide +kernel
theorem dX12_tell_53 : decode cX12_tell 53 = .ok (.iconst 4, 1) := by decide +kernel
theorem dX12_tell_54 : decode cX12_tell 54 = .ok (.bipush 24, 2) := by decide +kernel
theorem dX12_tell_56 : decode cX12_tell 56 = .ok (.iload_n 1, 1) := by decide +kernel
theorem dX12_tell_57 : decode cX12_tell 57 = .ok (.imul, 1) := by decide +kernel
theorem dX12_tell_58 : decode cX12_tell 58 = .ok (.aload_n 0, 1) := by decide +kernel
theorem dX12_tell_59 : decode cX12_tell 59 = .ok (.getfield 19, 3) := by decide +kernel
theorem dX12_tell_62 : decode cX12_tell 62 = .ok (.iload_n 1, 1) := by decide +kernel
theorem dX12_tell_63 : decode cX12_tell 63 = .ok (.iaload, 1) := by decide +kernel
theorem dX12_tell_64 : decode cX12_tell 64 = .ok (.iadd, 1) := by decide +kernel
theorem dX12_tell_65 : decode cX12_tell 65 = .ok (.imul, 1) := by decide +kernel
theorem dX12_tell_66 : decode cX12_tell 66 = .ok (.istore 6, 2) := by decide +kernel
theorem dX12_tell_68 : decode cX12_tell 68 = .ok (.aload_n 0, 1) := by decide +kernel
theorem dX12_tell_69 : decode cX12_tell 69 = .ok (.getfield 16, 3) := by decide +kernel
theorem dX12_tell_72 : decode cX12_tell 72 = .ok (.iload 6, 2) := by decide +kernel
theorem dX12_tell_74 : decode cX12_tell 74 = .ok (.iload_n 2, 1) := by decide +kernel
theorem dX12_tell_75 : decode cX12_tell 75 = .ok (.iastore, 1) := by decide +kernel
theorem dX12_tell_76 : decode cX12_tell 76 = .ok (.aload_n 0, 1) := by decide +kernel
theorem dX12_tell_77 : decode cX12_tell 77 = .ok (.getfield 16, 3) := by decide +kernel
theorem dX12_tell_80 : decode cX12_tell 80 = .ok (.iload 6, 2) := by decide +kernel
theorem dX12_tell_82 : decode cX12_tell 82 = .ok (.iconst 1, 1) := by decide +kernel
theorem dX12_tell_83 : decode cX12_tell 83 = .ok (.iadd, 1) := by decide +kernel
theorem dX12_tell_84 : decode cX12_tell 84 = .ok (.iload_n 3, 1) := by decide +kernel
theorem dX12_tell_85 : decode cX12_tell 85 = .ok (.iastore, 1) := by decide +kernel
theorem dX12_tell_86 : decode cX12_tell 86 = .ok (.aload_n 0, 1) := by decide +kernel
theorem dX12_tell_87 : decode cX12_tell 87 = .ok (.getfield 16, 3) := by decide +kernel
theorem dX12_tell_90 : decode cX12_tell 90 = .ok (.iload 6, 2) := by decide +kernel
theorem dX12_tell_92 : decode cX12_tell 92 = .ok (.iconst 2, 1) := by decide +kernel
theorem dX12_tell_93 : decode cX12_tell 93 = .ok (.iadd, 1) := by decide +kernel
theorem dX12_tell_94 : decode cX12_tell 94 = .ok (.iload 4, 2) := by decide +kernel
theorem dX12_tell_96 : decode cX12_tell 96 = .ok (.iastore, 1) := by decide +kernel
theorem dX12_tell_97 : decode cX12_tell 97 = .ok (.aload_n 0, 1) := by decide +kernel
theorem dX12_tell_98 : decode cX12_tell 98 = .ok (.getfield 16, 3) := by decide +kernel
theorem dX12_tell_101 : decode cX12_tell 101 = .ok (.iload 6, 2) := by decide +kernel
theorem dX12_tell_103 : decode cX12_tell 103 = .ok (.iconst 3, 1) := by decide +kernel
theorem dX12_tell_104 : decode cX12_tell 104 = .ok (.iadd, 1) := by decide +kernel
theorem dX12_tell_105 : decode cX12_tell 105 = .ok (.iload 5, 2) := by decide +kernel
theorem dX12_tell_107 : decode cX12_tell 107 = .ok (.iastore, 1) := by decide +kernel
theorem dX12_tell_108 : decode cX12_tell 108 = .ok (.aload_n 0, 1) := by decide +kernel
theorem dX12_tell_109 : decode cX12_tell 109 = .ok (.getfield 19, 3) := by decide +kernel
theorem dX12_tell_112 : decode cX12_tell 112 = .ok (.iload_n 1, 1) := by decide +kernel
theorem dX12_tell_113 : decode cX12_tell 113 = .ok (.dup2, 1) := by decide +kernel
theorem dX12_tell_114 : decode cX12_tell 114 = .ok (.iaload, 1) := by decide +kernel
theorem dX12_tell_115 : decode cX12_tell 115 = .ok (.iconst 1, 1) := by decide +kernel
theorem dX12_tell_116 : decode cX12_tell 116 = .ok (.iadd, 1) := by decide +kernel
theorem dX12_tell_117 : decode cX12_tell 117 = .ok (.iastore, 1) := by decide +kernel
theorem dX12_tell_118 : decode cX12_tell 118 = .ok (.aload_n 0, 1) := by decide +kernel
theorem dX12_tell_119 : decode cX12_tell 119 = .ok (.getfield 19, 3) := by decide +kernel
theorem dX12_tell_122 : decode cX12_tell 122 = .ok (.iload_n 1, 1) := by decide +kernel
theorem dX12_tell_123 : decode cX12_tell 123 = .ok (.iaload, 1) := by decide +kernel
theorem dX12_tell_124 : decode cX12_tell 124 = .ok (.iconst 1, 1) := by decide +kernel
theorem dX12_tell_125 : decode cX12_tell 125 = .ok (.isub, 1) := by decide +kernel
theorem dX12_tell_126 : decode cX12_tell 126 = .ok (.ireturn, 1) := by decide +kernel
theorem dX12_leaves_0 : decode cX12_leaves 0 = .ok (.iconst 0, 1) := by decide +kernel
theorem dX12_leaves_1 : decode cX12_leaves 1 = .ok (.istore_n 2, 1) := by decide +kernel
theorem dX12_leaves_2 : decode cX12_leaves 2 = .ok (.iload_n 2, 1) := by decide +kernel
theorem dX12_leaves_3 : decode cX12_leaves 3 = .ok (.iconst 4, 1) := by decide +kernel
theorem dX12_leaves_4 : decode cX12_leaves 4 = .ok (.if_icmp .ge 103, 3) := by decide +kernel
theorem dX12_leaves_7 : decode cX12_leaves 7 = .ok (.iconst 0, 1) := by decide +kernel
theorem dX12_leaves_8 : decode cX12_leaves 8 = .ok (.istore_n 3, 1) := by decide +kernel
theorem dX12_leaves_9 : decode cX12_leaves 9 = .ok (.iconst 0, 1) := by decide +kernel
theorem dX12_leaves_10 : decode cX12_leaves 10 = .ok (.istore 4, 2) := by decide +kernel
theorem dX12_leaves_12 : decode cX12_leaves 12 = .ok (.iload 4, 2) := by decide +kernel
theorem dX12_leaves_14 : decode cX12_leaves 14 = .ok (.aload_n 0, 1) := by decide +kernel
theorem dX12_leaves_15 : decode cX12_leaves 15 = .ok (.getfield 7, 3) := by decide +kernel
theorem dX12_leaves_18 : decode cX12_leaves 18 = .ok (.sipush 518, 3) := by decide +kernel
theorem dX12_leaves_21 : decode cX12_leaves 21 = .ok (.iload_n 2, 1) := by decide +kernel
theorem dX12_leaves_22 : decode cX12_leaves 22 = .ok (.iadd, 1) := by decide +kernel
theorem dX12_leaves_23 : decode cX12_leaves 23 = .ok (.iaload, 1) := by decide +kernel
theorem dX12_leaves_24 : decode cX12_leaves 24 = .ok (.if_icmp .ge 66, 3) := by decide +kernel
theorem dX12_leaves_27 : decode cX12_leaves 27 = .ok (.aload_n 0, 1) := by decide +kernel
theorem dX12_leaves_28 : decode cX12_leaves 28 = .ok (.getfield 7, 3) := by decide +kernel
theorem dX12_leaves_31 : decode cX12_leaves 31 = .ok (.sipush 494, 3) := by decide +kernel
theorem dX12_leaves_34 : decode cX12_leaves 34 = .ok (.bipush 6, 2) := by decide +kernel
theorem dX12_leaves_36 : decode cX12_leaves 36 = .ok (.iload_n 2, 1) := by decide +kernel
theorem dX12_leaves_37 : decode cX12_leaves 37 = .ok (.imul, 1) := by decide +kernel
theorem dX12_leaves_38 : decode cX12_leaves 38 = .ok (.iadd, 1) := by decide +kernel
theorem dX12_leaves_39 : decode cX12_leaves 39 = .ok (.iload 4, 2) := by decide +kernel
theorem dX12_leaves_41 : decode cX12_leaves 41 = .ok (.iadd, 1) := by decide +kernel
theorem dX12_leaves_42 : decode cX12_leaves 42 = .ok (.iaload, 1) := by decide +kernel
theorem dX12_leaves_43 : decode cX12_leaves 43 = .ok (.iload_n 1, 1) := by decide +kernel
theorem dX12_leaves_44 : decode cX12_leaves 44 = .ok (.if_icmp .ne 6, 3) := by decide +kernel
theorem dX12_leaves_47 : decode cX12_leaves 47 = .ok (.goto 37, 3) := by decide +kernel
theorem dX12_leaves_50 : decode cX12_leaves 50 = .ok (.aload_n 0, 1) := by decide +kernel
theorem dX12_leaves_51 : decode cX12_leaves 51 = .ok (.getfield 7, 3) := by decide +kernel
theorem dX12_leaves_54 : decode cX12_leaves 54 = .ok (.sipush 494, 3) := by decide +kernel
theorem dX12_leaves_57 : decode cX12_leaves 57 = .ok (.bipush 6, 2) := by decide +kernel
theorem dX12_leaves_59 : decode cX12_leaves 59 = .ok (.iload_n 2, 1) := by decide +kernel
theorem dX12_leaves_60 : decode cX12_leaves 60 = .ok (.imul, 1) := by decide +kernel
theorem dX12_leaves_61 : decode cX12_leaves 61 = .ok (.iadd, 1) := by decide +kernel
theorem dX12_leaves_62 : decode cX12_leaves 62 = .ok (.iload_n 3, 1) := by decide +kernel
theorem dX12_leaves_63 : decode cX12_leaves 63 = .ok (.iadd, 1) := by decide +kernel
theorem dX12_leaves_64 : decode cX12_leaves 64 = .ok (.aload_n 0, 1) := by decide +kernel
theorem dX12_leaves_65 : decode cX12_leaves 65 = .ok (.getfield 7, 3) := by decide +kernel
theorem dX12_leaves_68 : decode cX12_leaves 68 = .ok (.sipush 494, 3) := by decide +kernel
theorem dX12_leaves_71 : decode cX12_leaves 71 = .ok (.bipush 6, 2) := by decide +kernel
theorem dX12_leaves_73 : decode cX12_leaves 73 = .ok (.iload_n 2, 1) := by decide +kernel
theorem dX12_leaves_74 : decode cX12_leaves 74 = .ok (.imul, 1) := by decide +kernel
theorem dX12_leaves_75 : decode cX12_leaves 75 = .ok (.iadd, 1) := by decide +kernel
theorem dX12_leaves_76 : decode cX12_leaves 76 = .ok (.iload 4, 2) := by decide +kernel
theorem dX12_leaves_78 : decode cX12_leaves 78 = .ok (.iadd, 1) := by decide +kernel
theorem dX12_leaves_79 : decode cX12_leaves 79 = .ok (.iaload, 1) := by decide +kernel
theorem dX12_leaves_80 : decode cX12_leaves 80 = .ok (.iastore, 1) := by decide +kernel
theorem dX12_leaves_81 : decode cX12_leaves 81 = .ok (.iinc 3 1, 3) := by decide +kernel
theorem dX12_leaves_84 : decode cX12_leaves 84 = .ok (.iinc 4 1, 3) := by decide +kernel
theorem dX12_leaves_87 : decode cX12_leaves 87 = .ok (.goto (-75), 3) := by decide +kernel
theorem dX12_leaves_90 : decode cX12_leaves 90 = .ok (.aload_n 0, 1) := by decide +kernel
theorem dX12_leaves_91 : decode cX12_leaves 91 = .ok (.getfield 7, 3) := by decide +kernel
theorem dX12_leaves_94 : decode cX12_leaves 94 = .ok (.sipush 518, 3) := by decide +kernel
theorem dX12_leaves_97 : decode cX12_leaves 97 = .ok (.iload_n 2, 1) := by decide +kernel
theorem dX12_leaves_98 : decode cX12_leaves 98 = .ok (.iadd, 1) := by decide +kernel
theorem dX12_leaves_99 : decode cX12_leaves 99 = .ok (.iload_n 3, 1) := by decide +kernel
theorem dX12_leaves_100 : decode cX12_leaves 100 = .ok (.iastore, 1) := by decide +kernel
theorem dX12_leaves_101 : decode cX12_leaves 101 = .ok (.iinc 2 1, 3) := by decide +kernel
theorem dX12_leaves_104 : decode cX12_leaves 104 = .ok (.goto (-102), 3) := by decide +kernel
theorem dX12_leaves_107 : decode cX12_leaves 107 = .ok (.return_, 1) := by decide +kernel
theorem dX12_wipes_0 : decode cX12_wipes 0 = .ok (.aload_n 0, 1) := by decide +kernel
theorem dX12_wipes_1 : decode cX12_wipes 1 = .ok (.iload_n 1, 1) := by decide +kernel
theorem dX12_wipes_2 : decode cX12_wipes 2 = .ok (.invokevirtual 88, 3) := by decide +kernel
theorem dX12_wipes_5 : decode cX12_wipes 5 = .ok (.aload_n 0, 1) := by decide +kernel
theorem dX12_wipes_6 : decode cX12_wipes 6 = .ok (.getfield 7, 3) := by decide +kernel
