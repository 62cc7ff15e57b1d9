theorem dX7_whoseTurn_4 : decode cX7_whoseTurn 4 = .ok (.aload_n 0, 1) := by decide +kernel
theorem dX7_whoseTurn_5 : decode cX7_whoseTurn 5 = .ok (.getfield 56, 3) := by decide +kernel
theorem dX7_whoseTurn_8 : decode cX7_whoseTurn 8 = .ok (.invokevirtual 149, 3) := by decide +kernel
theorem dX7_whoseTurn_11 : decode cX7_whoseTurn 11 = .ok (.istore_n 1, 1) := by decide +kernel
theorem dX7_whoseTurn_12 : decode cX7_whoseTurn 12 = .ok (.iload_n 1, 1) := by decide +kernel
theorem dX7_whoseTurn_13 : decode cX7_whoseTurn 13 = .ok (.invokestatic 79, 3) := by decide +kernel
theorem dX7_whoseTurn_16 : decode cX7_whoseTurn 16 = .ok (.ifCond .eq 17, 3) := by decide +kernel
theorem dX7_whoseTurn_19 : decode cX7_whoseTurn 19 = .ok (.aload_n 0, 1) := by decide +kernel
theorem dX7_whoseTurn_20 : decode cX7_whoseTurn 20 = .ok (.getfield 11, 3) := by decide +kernel
theorem dX7_whoseTurn_23 : decode cX7_whoseTurn 23 = .ok (.iload_n 1, 1) := by decide +kernel
theorem dX7_whoseTurn_24 : decode cX7_whoseTurn 24 = .ok (.aaload, 1) := by decide +kernel
theorem dX7_whoseTurn_25 : decode cX7_whoseTurn 25 = .ok (.invokevirtual 154, 3) := by decide +kernel
theorem dX7_whoseTurn_28 : decode cX7_whoseTurn 28 = .ok (.ifCond .eq 5, 3) := by decide +kernel
theorem dX7_whoseTurn_31 : decode cX7_whoseTurn 31 = .ok (.iload_n 1, 1) := by decide +kernel
theorem dX7_whoseTurn_32 : decode cX7_whoseTurn 32 = .ok (.ireturn, 1) := by decide +kernel
theorem dX7_whoseTurn_33 : decode cX7_whoseTurn 33 = .ok (.aload_n 0, 1) := by decide +kernel
theorem dX7_whoseTurn_34 : decode cX7_whoseTurn 34 = .ok (.getfield 31, 3) := by decide +kernel
theorem dX7_whoseTurn_37 : decode cX7_whoseTurn 37 = .ok (.istore_n 2, 1) := by decide +kernel
theorem dX7_whoseTurn_38 : decode cX7_whoseTurn 38 = .ok (.iconst 0, 1) := by decide +kernel
theorem dX7_whoseTurn_39 : decode cX7_whoseTurn 39 = .ok (.istore_n 3, 1) := by decide +kernel
theorem dX7_whoseTurn_40 : decode cX7_whoseTurn 40 = .ok (.iload_n 3, 1) := by decide +kernel
theorem dX7_whoseTurn_41 : decode cX7_whoseTurn 41 = .ok (.bipush 6, 2) := by decide +kernel
theorem dX7_whoseTurn_43 : decode cX7_whoseTurn 43 = .ok (.if_icmp .ge 88, 3) := by decide +kernel
theorem dX7_whoseTurn_46 : decode cX7_whoseTurn 46 = .ok (.iload_n 2, 1) := by decide +kernel
theorem dX7_whoseTurn_47 : decode cX7_whoseTurn 47 = .ok (.iconst 1, 1) := by decide +kernel
theorem dX7_whoseTurn_48 : decode cX7_whoseTurn 48 = .ok (.iadd, 1) := by decide +kernel
theorem dX7_whoseTurn_49 : decode cX7_whoseTurn 49 = .ok (.bipush 6, 2) := by decide +kernel
theorem dX7_whoseTurn_51 : decode cX7_whoseTurn 51 = .ok (.if_icmp .ge 9, 3) := by decide +kernel
theorem dX7_whoseTurn_54 : decode cX7_whoseTurn 54 = .ok (.iload_n 2, 1) := by decide +kernel
theorem dX7_whoseTurn_55 : decode cX7_whoseTurn 55 = .ok (.iconst 1, 1) := by decide +kernel
theorem dX7_whoseTurn_56 : decode cX7_whoseTurn 56 = .ok (.iadd, 1) := by decide +kernel
theorem dX7_whoseTurn_57 : decode cX7_whoseTurn 57 = .ok (.goto 4, 3) := by decide +kernel
theorem dX7_whoseTurn_60 : decode cX7_whoseTurn 60 = .ok (.iconst 0, 1) := by decide +kernel
theorem dX7_whoseTurn_61 : decode cX7_whoseTurn 61 = .ok (.istore_n 2, 1) := by decide +kernel
theorem dX7_whoseTurn_62 : decode cX7_whoseTurn 62 = .ok (.iload_n 2, 1) := by decide +kernel
theorem dX7_whoseTurn_63 : decode cX7_whoseTurn 63 = .ok (.invokestatic 79, 3) := by decide +kernel
theorem dX7_whoseTurn_66 : decode cX7_whoseTurn 66 = .ok (.ifCond .eq 59, 3) := by decide +kernel
theorem dX7_whoseTurn_69 : decode cX7_whoseTurn 69 = .ok (.aload_n 0, 1) := by decide +kernel
theorem dX7_whoseTurn_70 : decode cX7_whoseTurn 70 = .ok (.getfield 11, 3) := by decide +kernel
theorem dX7_whoseTurn_73 : decode cX7_whoseTurn 73 = .ok (.iload_n 2, 1) := by decide +kernel
theorem dX7_whoseTurn_74 : decode cX7_whoseTurn 74 = .ok (.aaload, 1) := by decide +kernel
theorem dX7_whoseTurn_75 : decode cX7_whoseTurn 75 = .ok (.getfield 158, 3) := by decide +kernel
theorem dX7_whoseTurn_78 : decode cX7_whoseTurn 78 = .ok (.ifCond .ne 47, 3) := by decide +kernel
theorem dX7_whoseTurn_81 : decode cX7_whoseTurn 81 = .ok (.aload_n 0, 1) := by decide +kernel
theorem dX7_whoseTurn_82 : decode cX7_whoseTurn 82 = .ok (.getfield 11, 3) := by decide +kernel
theorem dX7_whoseTurn_85 : decode cX7_whoseTurn 85 = .ok (.iload_n 2, 1) := by decide +kernel
theorem dX7_whoseTurn_86 : decode cX7_whoseTurn 86 = .ok (.aaload, 1) := by decide +kernel
theorem dX7_whoseTurn_87 : decode cX7_whoseTurn 87 = .ok (.invokevirtual 154, 3) := by decide +kernel
theorem dX7_whoseTurn_90 : decode cX7_whoseTurn 90 = .ok (.ifCond .eq 35, 3) := by decide +kernel
theorem dX7_whoseTurn_93 : decode cX7_whoseTurn 93 = .ok (.aload_n 0, 1) := by decide +kernel
theorem dX7_whoseTurn_94 : decode cX7_whoseTurn 94 = .ok (.getfield 11, 3) := by decide +kernel
theorem dX7_whoseTurn_97 : decode cX7_whoseTurn 97 = .ok (.iload_n 2, 1) := by decide +kernel
theorem dX7_whoseTurn_98 : decode cX7_whoseTurn 98 = .ok (.aaload, 1) := by decide +kernel
theorem dX7_whoseTurn_99 : decode cX7_whoseTurn 99 = .ok (.dup, 1) := by decide +kernel
theorem dX7_whoseTurn_100 : decode cX7_whoseTurn 100 = .ok (.getfield 162, 3) := by decide +kernel
theorem dX7_whoseTurn_103 : decode cX7_whoseTurn 103 = .ok (.iconst 1, 1) := by decide +kernel
theorem dX7_whoseTurn_104 : decode cX7_whoseTurn 104 = .ok (.iadd, 1) := by decide +kernel
theorem dX7_whoseTurn_105 : decode cX7_whoseTurn 105 = .ok (.putfield 162, 3) := by decide +kernel
theorem dX7_whoseTurn_108 : decode cX7_whoseTurn 108 = .ok (.aload_n 0, 1) := by decide +kernel
theorem dX7_whoseTurn_109 : decode cX7_whoseTurn 109 = .ok (.dup, 1) := by decide +kernel
theorem dX7_whoseTurn_110 : decode cX7_whoseTurn 110 = .ok (.getfield 62, 3) := by decide +kernel
theorem dX7_whoseTurn_113 : decode cX7_whoseTurn 113 = .ok (.iconst 1, 1) := by decide +kernel
theorem dX7_whoseTurn_114 : decode cX7_whoseTurn 114 = .ok (.iadd, 1) := by decide +kernel
theorem dX7_whoseTurn_115 : decode cX7_whoseTurn 115 = .ok (.putfield 62, 3) := by decide +kernel
theorem dX7_whoseTurn_118 : decode cX7_whoseTurn 118 = .ok (.aload_n 0, 1) := by decide +kernel
theorem dX7_whoseTurn_119 : decode cX7_whoseTurn 119 = .ok (.iload_n 2, 1) := by decide +kernel
theorem dX7_whoseTurn_120 : decode cX7_whoseTurn 120 = .ok (.putfield 31, 3) := by decide +kernel
theorem dX7_whoseTurn_123 : decode cX7_whoseTurn 123 = .ok (.iload_n 2, 1) := by decide +kernel
theorem dX7_whoseTurn_124 : decode cX7_whoseTurn 124 = .ok (.ireturn, 1) := by decide +kernel
theorem dX7_whoseTurn_125 : decode cX7_whoseTurn 125 = .ok (.iinc 3 1, 3) := by decide +kernel
theorem dX7_whoseTurn_128 : decode cX7_whoseTurn 128 = .ok (.goto (-88), 3) := by decide +kernel
theorem dX7_whoseTurn_131 : decode cX7_whoseTurn 131 = .ok (.aload_n 0, 1) := by decide +kernel
theorem dX7_whoseTurn_132 : decode cX7_whoseTurn 132 = .ok (.dup, 1) := by decide +kernel
theorem dX7_whoseTurn_133 : decode cX7_whoseTurn 133 = .ok (.getfield 59, 3) := by decide +kernel
theorem dX7_whoseTurn_136 : decode cX7_whoseTurn 136 = .ok (.iconst 1, 1) := by decide +kernel
theorem dX7_whoseTurn_137 : decode cX7_whoseTurn 137 = .ok (.iadd, 1) := by decide +kernel
theorem dX7_whoseTurn_138 : decode cX7_whoseTurn 138 = .ok (.putfield 59, 3) := by decide +kernel
theorem dX7_whoseTurn_141 : decode cX7_whoseTurn 141 = .ok (.iconst (-1), 1) := by decide +kernel
theorem dX7_whoseTurn_142 : decode cX7_whoseTurn 142 = .ok (.ireturn, 1) := by decide +kernel
theorem dX7_perform_0 : decode cX7_perform 0 = .ok (.aload_n 1, 1) := by decide +kernel
theorem dX7_perform_1 : decode cX7_perform 1 = .ok (.getfield 83, 3) := by decide +kernel
theorem dX7_perform_4 : decode cX7_perform 4 = .ok (.astore_n 2, 1) := by decide +kernel
theorem dX7_perform_5 : decode cX7_perform 5 = .ok (.aload_n 1, 1) := by decide +kernel
theorem dX7_perform_6 : decode cX7_perform 6 = .ok (.getfield 163, 3) := by decide +kernel
theorem dX7_perform_9 : decode cX7_perform 9 = .ok (.istore_n 3, 1) := by decide +kernel
theorem dX7_perform_10 : decode cX7_perform 10 = .ok (.aload_n 2, 1) := by decide +kernel
theorem dX7_perform_11 : decode cX7_perform 11 = .ok (.iload_n 3, 1) := by decide +kernel
theorem dX7_perform_12 : decode cX7_perform 12 = .ok (.invokevirtual 166, 3) := by decide +kernel
theorem dX7_perform_15 : decode cX7_perform 15 = .ok (.ifCond .ne 4, 3) := by decide +kernel
theorem dX7_perform_18 : decode cX7_perform 18 = .ok (.return_, 1) := by decide +kernel
theorem dX7_perform_19 : decode cX7_perform 19 = .ok (.aload_n 2, 1) := by decide +kernel
theorem dX7_perform_20 : decode cX7_perform 20 = .ok (.getfield 169, 3) := by decide +kernel
theorem dX7_perform_23 : decode cX7_perform 23 = .ok (.iload_n 3, 1) := by decide +kernel
theorem dX7_perform_24 : decode cX7_perform 24 = .ok (.iaload, 1) := by decide +kernel
theorem dX7_perform_25 : decode cX7_perform 25 = .ok (.istore 4, 2) := by decide +kernel
theorem dX7_perform_27 : decode cX7_perform 27 = .ok (.aload_n 2, 1) := by decide +kernel
theorem dX7_perform_28 : decode cX7_perform 28 = .ok (.getfield 173, 3) := by decide +kernel
theorem dX7_perform_31 : decode cX7_perform 31 = .ok (.iload_n 3, 1) := by decide +kernel
theorem dX7_perform_32 : decode cX7_perform 32 = .ok (.iaload, 1) := by decide +kernel
theorem dX7_perform_33 : decode cX7_perform 33 = .ok (.istore 5, 2) := by decide +kernel
theorem dX7_perform_35 : decode cX7_perform 35 = .ok (.aload_n 2, 1) := by decide +kernel
theorem dX7_perform_36 : decode cX7_perform 36 = .ok (.getfield 176, 3) := by decide +kernel
theorem dX7_perform_39 : decode cX7_perform 39 = .ok (.iload_n 3, 1) := by decide +kernel
theorem dX7_perform_40 : decode cX7_perform 40 = .ok (.iaload, 1) := by decide +kernel
theorem dX7_perform_41 : decode cX7_perform 41 = .ok (.istore 6, 2) := by decide +kernel
theorem dX7_perform_43 : decode cX7_perform 43 = .ok (.aload_n 2, 1) := by decide +kernel
theorem dX7_perform_44 : decode cX7_perform 44 = .ok (.getfield 179, 3) := by decide +kernel
theorem dX7_perform_47 : decode cX7_perform 47 = .ok (.iload_n 3, 1) := by decide +kernel
theorem dX7_perform_48 : decode cX7_perform 48 = .ok (.iaload, 1) := by decide +kernel
theorem dX7_perform_49 : decode cX7_perform 49 = .ok (.istore 7, 2) := by decide +kernel
theorem dX7_perform_51 : decode cX7_perform 51 = .ok (.aload_n 1, 1) := by decide +kernel
theorem dX7_perform_52 : decode cX7_perform 52 = .ok (.dup, 1) := by decide +kernel
theorem dX7_perform_53 : decode cX7_perform 53 = .ok (.getfield 182, 3) := by decide +kernel
theorem dX7_perform_56 : decode cX7_perform 56 = .ok (.iconst 1, 1) := by decide +kernel
theorem dX7_perform_57 : decode cX7_perform 57 = .ok (.iadd, 1) := by decide +kernel
theorem dX7_perform_58 : decode cX7_perform 58 = .ok (.putfield 182, 3) := by decide +kernel
theorem dX7_perform_61 : decode cX7_perform 61 = .ok (.aload_n 0, 1) := by decide +kernel
theorem dX7_perform_62 : decode cX7_perform 62 = .ok (.dup, 1) := by decide +kernel
theorem dX7_perform_63 : decode cX7_perform 63 = .ok (.getfield 65, 3) := by decide +kernel
theorem dX7_perform_66 : decode cX7_perform 66 = .ok (.iconst 1, 1) := by decide +kernel
theorem dX7_perform_67 : decode cX7_perform 67 = .ok (.iadd, 1) := by decide +kernel
theorem dX7_perform_68 : decode cX7_perform 68 = .ok (.putfield 65, 3) := by decide +kernel
theorem dX7_perform_71 : decode cX7_perform 71 = .ok (.aload_n 0, 1) := by decide +kernel
theorem dX7_perform_72 : decode cX7_perform 72 = .ok (.aload_n 1, 1) := by decide +kernel
theorem dX7_perform_73 : decode cX7_perform 73 = .ok (.iload 4, 2) := by decide +kernel
theorem dX7_perform_75 : decode cX7_perform 75 = .ok (.iload 5, 2) := by decide +kernel
theorem dX7_perform_77 : decode cX7_perform 77 = .ok (.iload 6, 2) := by decide +kernel
theorem dX7_perform_79 : decode cX7_perform 79 = .ok (.invokevirtual 183, 3) := by decide +kernel
theorem dX7_perform_82 : decode cX7_perform 82 = .ok (.istore 8, 2) := by decide +kernel
theorem dX7_perform_84 : decode cX7_perform 84 = .ok (.iload 8, 2) := by decide +kernel
theorem dX7_perform_86 : decode cX7_perform 86 = .ok (.ifCond .eq 10, 3) := by decide +kernel
theorem dX7_perform_89 : decode cX7_perform 89 = .ok (.aload_n 1, 1) := by decide +kernel
theorem dX7_perform_90 : decode cX7_perform 90 = .ok (.iload 8, 2) := by decide +kernel
theorem dX7_perform_92 : decode cX7_perform 92 = .ok (.invokevirtual 187, 3) := by decide +kernel
theorem dX7_perform_95 : decode cX7_perform 95 = .ok (.return_, 1) := by decide +kernel
theorem dX7_perform_96 : decode cX7_perform 96 = .ok (.aload_n 1, 1) := by decide +kernel
theorem dX7_perform_97 : decode cX7_perform 97 = .ok (.aload_n 1, 1) := by decide +kernel
theorem dX7_perform_98 : decode cX7_perform 98 = .ok (.iload 4, 2) := by decide +kernel
theorem dX7_perform_100 : decode cX7_perform 100 = .ok (.iload 5, 2) := by decide +kernel
theorem dX7_perform_102 : decode cX7_perform 102 = .ok (.iload 6, 2) := by decide +kernel
theorem dX7_perform_104 : decode cX7_perform 104 = .ok (.invokevirtual 190, 3) := by decide +kernel
theorem dX7_perform_107 : decode cX7_perform 107 = .ok (.invokevirtual 194, 3) := by decide +kernel
theorem dX7_perform_110 : decode cX7_perform 110 = .ok (.iload 4, 2) := by decide +kernel
theorem dX7_perform_112 : decode cX7_perform 112 = .ok (.bipush 10, 2) := by decide +kernel
theorem dX7_perform_114 : decode cX7_perform 114 = .ok (.if_icmp .lt 26, 3) := by decide +kernel
theorem dX7_perform_117 : decode cX7_perform 117 = .ok (.iload 4, 2) := by decide +kernel
theorem dX7_perform_119 : decode cX7_perform 119 = .ok (.bipush 17, 2) := by decide +kernel
theorem dX7_perform_121 : decode cX7_perform 121 = .ok (.if_icmp .gt 19, 3) := by decide +kernel
theorem dX7_perform_124 : decode cX7_perform 124 = .ok (.aload_n 0, 1) := by decide +kernel
theorem dX7_perform_125 : decode cX7_perform 125 = .ok (.aload_n 1, 1) := by decide +kernel
theorem dX7_perform_126 : decode cX7_perform 126 = .ok (.iload 4, 2) := by decide +kernel
theorem dX7_perform_128 : decode cX7_perform 128 = .ok (.iload 5, 2) := by decide +kernel
theorem dX7_perform_130 : decode cX7_perform 130 = .ok (.iload 6, 2) := by decide +kernel
theorem dX7_perform_132 : decode cX7_perform 132 = .ok (.iload 7, 2) := by decide +kernel
theorem dX7_perform_134 : decode cX7_perform 134 = .ok (.invokevirtual 197, 3) := by decide +kernel
theorem dX7_perform_137 : decode cX7_perform 137 = .ok (.goto 15, 3) := by decide +kernel
theorem dX7_perform_140 : decode cX7_perform 140 = .ok (.aload_n 1, 1) := by decide +kernel
theorem dX7_perform_141 : decode cX7_perform 141 = .ok (.iload 4, 2) := by decide +kernel
theorem dX7_perform_143 : decode cX7_perform 143 = .ok (.iload 5, 2) := by decide +kernel
theorem dX7_perform_145 : decode cX7_perform 145 = .ok (.iload 6, 2) := by decide +kernel
theorem dX7_perform_147 : decode cX7_perform 147 = .ok (.iload 7, 2) := by decide +kernel
theorem dX7_perform_149 : decode cX7_perform 149 = .ok (.invokevirtual 201, 3) := by decide +kernel
theorem dX7_perform_152 : decode cX7_perform 152 = .ok (.return_, 1) := by decide +kernel
theorem dX7_trapOf_0 : decode cX7_trapOf 0 = .ok (.iload_n 2, 1) := by decide +kernel
theorem dX7_trapOf_1 : decode cX7_trapOf 1 = .ok (.iconst 5, 1) := by decide +kernel
theorem dX7_trapOf_2 : decode cX7_trapOf 2 = .ok (.if_icmp .eq 9, 3) := by decide +kernel
theorem dX7_trapOf_5 : decode cX7_trapOf 5 = .ok (.iload_n 2, 1) := by decide +kernel
theorem dX7_trapOf_6 : decode cX7_trapOf 6 = .ok (.bipush 6, 2) := by decide +kernel
theorem dX7_trapOf_8 : decode cX7_trapOf 8 = .ok (.if_icmp .ne 32, 3) := by decide +kernel
theorem dX7_trapOf_11 : decode cX7_trapOf 11 = .ok (.aload_n 1, 1) := by decide +kernel
theorem dX7_trapOf_12 : decode cX7_trapOf 12 = .ok (.getfield 204, 3) := by decide +kernel
theorem dX7_trapOf_15 : decode cX7_trapOf 15 = .ok (.iconst (-1), 1) := by decide +kernel
theorem dX7_trapOf_16 : decode cX7_trapOf 16 = .ok (.if_icmp .ne 5, 3) := by decide +kernel
theorem dX7_trapOf_19 : decode cX7_trapOf 19 = .ok (.iconst 1, 1) := by decide +kernel
theorem dX7_trapOf_20 : decode cX7_trapOf 20 = .ok (.ireturn, 1) := by decide +kernel
theorem dX7_trapOf_21 : decode cX7_trapOf 21 = .ok (.aload_n 1, 1) := by decide +kernel
theorem dX7_trapOf_22 : decode cX7_trapOf 22 = .ok (.aload_n 1, 1) := by decide +kernel
theorem dX7_trapOf_23 : decode cX7_trapOf 23 = .ok (.iload 4, 2) := by decide +kernel
theorem dX7_trapOf_25 : decode cX7_trapOf 25 = .ok (.invokevirtual 207, 3) := by decide +kernel
theorem dX7_trapOf_28 : decode cX7_trapOf 28 = .ok (.invokevirtual 210, 3) := by decide +kernel
theorem dX7_trapOf_31 : decode cX7_trapOf 31 = .ok (.ifCond .eq 7, 3) := by decide +kernel
theorem dX7_trapOf_34 : decode cX7_trapOf 34 = .ok (.iconst 0, 1) := by decide +kernel
theorem dX7_trapOf_35 : decode cX7_trapOf 35 = .ok (.goto 4, 3) := by decide +kernel
theorem dX7_trapOf_38 : decode cX7_trapOf 38 = .ok (.iconst 2, 1) := by decide +kernel
theorem dX7_trapOf_39 : decode cX7_trapOf 39 = .ok (.ireturn, 1) := by decide +kernel
theorem dX7_trapOf_40 : decode cX7_trapOf 40 = .ok (.iload_n 2, 1) := by decide +kernel
theorem dX7_trapOf_41 : decode cX7_trapOf 41 = .ok (.bipush 10, 2) := by decide +kernel
theorem dX7_trapOf_43 : decode cX7_trapOf 43 = .ok (.if_icmp .eq 9, 3) := by decide +kernel
theorem dX7_trapOf_46 : decode cX7_trapOf 46 = .ok (.iload_n 2, 1) := by decide +kernel
theorem dX7_trapOf_47 : decode cX7_trapOf 47 = .ok (.bipush 11, 2) := by decide +kernel
theorem dX7_trapOf_49 : decode cX7_trapOf 49 = .ok (.if_icmp .ne 37, 3) := by decide +kernel
theorem dX7_trapOf_52 : decode cX7_trapOf 52 = .ok (.aload_n 0, 1) := by decide +kernel
theorem dX7_trapOf_53 : decode cX7_trapOf 53 = .ok (.getfield 20, 3) := by decide +kernel
theorem dX7_trapOf_56 : decode cX7_trapOf 56 = .ok (.iload_n 3, 1) := by decide +kernel
theorem dX7_trapOf_57 : decode cX7_trapOf 57 = .ok (.invokevirtual 213, 3) := by decide +kernel
theorem dX7_trapOf_60 : decode cX7_trapOf 60 = .ok (.iconst 1, 1) := by decide +kernel
theorem dX7_trapOf_61 : decode cX7_trapOf 61 = .ok (.if_icmp .eq 5, 3) := by decide +kernel
theorem dX7_trapOf_64 : decode cX7_trapOf 64 = .ok (.iconst 3, 1) := by decide +kernel
theorem dX7_trapOf_65 : decode cX7_trapOf 65 = .ok (.ireturn, 1) := by decide +kernel
theorem dX7_trapOf_66 : decode cX7_trapOf 66 = .ok (.iload_n 2, 1) := by decide +kernel
theorem dX7_trapOf_67 : decode cX7_trapOf 67 = .ok (.bipush 11, 2) := by decide +kernel
theorem dX7_trapOf_69 : decode cX7_trapOf 69 = .ok (.if_icmp .ne 15, 3) := by decide +kernel
theorem dX7_trapOf_72 : decode cX7_trapOf 72 = .ok (.aload_n 0, 1) := by decide +kernel
theorem dX7_trapOf_73 : decode cX7_trapOf 73 = .ok (.iload_n 3, 1) := by decide +kernel
theorem dX7_trapOf_74 : decode cX7_trapOf 74 = .ok (.invokevirtual 216, 3) := by decide +kernel
theorem dX7_trapOf_77 : decode cX7_trapOf 77 = .ok (.ifCond .eq 7, 3) := by decide +kernel
theorem dX7_trapOf_80 : decode cX7_trapOf 80 = .ok (.iconst 4, 1) := by decide +kernel
theorem dX7_trapOf_81 : decode cX7_trapOf 81 = .ok (.goto 4, 3) := by decide +kernel
theorem dX7_trapOf_84 : decode cX7_trapOf 84 = .ok (.iconst 0, 1) := by decide +kernel
theorem dX7_trapOf_85 : decode cX7_trapOf 85 = .ok (.ireturn, 1) := by decide +kernel
theorem dX7_trapOf_86 : decode cX7_trapOf 86 = .ok (.iload_n 2, 1) := by decide +kernel
theorem dX7_trapOf_87 : decode cX7_trapOf 87 = .ok (.bipush 12, 2) := by decide +kernel
theorem dX7_trapOf_89 : decode cX7_trapOf 89 = .ok (.if_icmp .eq 9, 3) := by decide +kernel
theorem dX7_trapOf_92 : decode cX7_trapOf 92 = .ok (.iload_n 2, 1) := by decide +kernel
theorem dX7_trapOf_93 : decode cX7_trapOf 93 = .ok (.bipush 13, 2) := by decide +kernel
theorem dX7_trapOf_95 : decode cX7_trapOf 95 = .ok (.if_icmp .ne 20, 3) := by decide +kernel
theorem dX7_trapOf_98 : decode cX7_trapOf 98 = .ok (.aload_n 0, 1) := by decide +kernel
theorem dX7_trapOf_99 : decode cX7_trapOf 99 = .ok (.getfield 20, 3) := by decide +kernel
theorem dX7_trapOf_102 : decode cX7_trapOf 102 = .ok (.iload_n 3, 1) := by decide +kernel
theorem dX7_trapOf_103 : decode cX7_trapOf 103 = .ok (.invokevirtual 213, 3) := by decide +kernel
theorem dX7_trapOf_106 : decode cX7_trapOf 106 = .ok (.ifCond .ne 7, 3) := by decide +kernel
theorem dX7_trapOf_109 : decode cX7_trapOf 109 = .ok (.iconst 0, 1) := by decide +kernel
theorem dX7_trapOf_110 : decode cX7_trapOf 110 = .ok (.goto 4, 3) := by decide +kernel
theorem dX7_trapOf_113 : decode cX7_trapOf 113 = .ok (.iconst 3, 1) := by decide +kernel
theorem dX7_trapOf_114 : decode cX7_trapOf 114 = .ok (.ireturn, 1) := by decide +kernel
theorem dX7_trapOf_115 : decode cX7_trapOf 115 = .ok (.iconst 0, 1) := by decide +kernel
theorem dX7_trapOf_116 : decode cX7_trapOf 116 = .ok (.ireturn, 1) := by decide +kernel
theorem dX7_isClaimed_0 : decode cX7_isClaimed 0 = .ok (.iconst 0, 1) := by decide +kernel
theorem dX7_isClaimed_1 : decode cX7_isClaimed 1 = .ok (.istore_n 2, 1) := by decide +kernel
theorem dX7_isClaimed_2 : decode cX7_isClaimed 2 = .ok (.iload_n 2, 1) := by decide +kernel
theorem dX7_isClaimed_3 : decode cX7_isClaimed 3 = .ok (.bipush 6, 2) := by decide +kernel
theorem dX7_isClaimed_5 : decode cX7_isClaimed 5 = .ok (.if_icmp .ge 49, 3) := by decide +kernel
theorem dX7_isClaimed_8 : decode cX7_isClaimed 8 = .ok (.aload_n 0, 1) := by decide +kernel
theorem dX7_isClaimed_9 : decode cX7_isClaimed 9 = .ok (.getfield 11, 3) := by decide +kernel
theorem dX7_isClaimed_12 : decode cX7_isClaimed 12 = .ok (.iload_n 2, 1) := by decide +kernel
theorem dX7_isClaimed_13 : decode cX7_isClaimed 13 = .ok (.aaload, 1) := by decide +kernel
theorem dX7_isClaimed_14 : decode cX7_isClaimed 14 = .ok (.astore_n 3, 1) := by decide +kernel
theorem dX7_isClaimed_15 : decode cX7_isClaimed 15 = .ok (.aload_n 3, 1) := by decide +kernel
theorem dX7_isClaimed_16 : decode cX7_isClaimed 16 = .ok (.getfield 104, 3) := by decide +kernel
theorem dX7_isClaimed_19 : decode cX7_isClaimed 19 = .ok (.iconst 1, 1) := by decide +kernel
theorem dX7_isClaimed_20 : decode cX7_isClaimed 20 = .ok (.if_icmp .ne 28, 3) := by decide +kernel
theorem dX7_isClaimed_23 : decode cX7_isClaimed 23 = .ok (.aload_n 3, 1) := by decide +kernel
theorem dX7_isClaimed_24 : decode cX7_isClaimed 24 = .ok (.getfield 107, 3) := by decide +kernel
theorem dX7_isClaimed_27 : decode cX7_isClaimed 27 = .ok (.getfield 126, 3) := by decide +kernel
theorem dX7_isClaimed_30 : decode cX7_isClaimed 30 = .ok (.bipush 11, 2) := by decide +kernel
theorem dX7_isClaimed_32 : decode cX7_isClaimed 32 = .ok (.if_icmp .ne 16, 3) := by decide +kernel
theorem dX7_isClaimed_35 : decode cX7_isClaimed 35 = .ok (.aload_n 3, 1) := by decide +kernel
theorem dX7_isClaimed_36 : decode cX7_isClaimed 36 = .ok (.getfield 107, 3) := by decide +kernel
theorem dX7_isClaimed_39 : decode cX7_isClaimed 39 = .ok (.getfield 129, 3) := by decide +kernel
theorem dX7_isClaimed_42 : decode cX7_isClaimed 42 = .ok (.iload_n 1, 1) := by decide +kernel
theorem dX7_isClaimed_43 : decode cX7_isClaimed 43 = .ok (.if_icmp .ne 5, 3) := by decide +kernel
theorem dX7_isClaimed_46 : decode cX7_isClaimed 46 = .ok (.iconst 1, 1) := by decide +kernel
theorem dX7_isClaimed_47 : decode cX7_isClaimed 47 = .ok (.ireturn, 1) := by decide +kernel
theorem dX7_isClaimed_48 : decode cX7_isClaimed 48 = .ok (.iinc 2 1, 3) := by decide +kernel
theorem dX7_isClaimed_51 : decode cX7_isClaimed 51 = .ok (.goto (-49), 3) := by decide +kernel
theorem dX7_isClaimed_54 : decode cX7_isClaimed 54 = .ok (.iconst 0, 1) := by decide +kernel
theorem dX7_isClaimed_55 : decode cX7_isClaimed 55 = .ok (.ireturn, 1) := by decide +kernel
theorem dX7_meetOthers_0 : decode cX7_meetOthers 0 = .ok (.iload_n 2, 1) := by decide +kernel
theorem dX7_meetOthers_1 : decode cX7_meetOthers 1 = .ok (.tableswitch 193 10 17 #[47, 71, 94, 111, 128, 155, 167, 182], 47) := by decide +kernel
theorem dX7_meetOthers_48 : decode cX7_meetOthers 48 = .ok (.aload_n 0, 1) := by decide +kernel
theorem dX7_meetOthers_49 : decode cX7_meetOthers 49 = .ok (.getfield 20, 3) := by decide +kernel
theorem dX7_meetOthers_52 : decode cX7_meetOthers 52 = .ok (.iload_n 3, 1) := by decide +kernel
theorem dX7_meetOthers_53 : decode cX7_meetOthers 53 = .ok (.aload_n 1, 1) := by decide +kernel
theorem dX7_meetOthers_54 : decode cX7_meetOthers 54 = .ok (.iload 4, 2) := by decide +kernel
theorem dX7_meetOthers_56 : decode cX7_meetOthers 56 = .ok (.invokevirtual 207, 3) := by decide +kernel
theorem dX7_meetOthers_59 : decode cX7_meetOthers 59 = .ok (.iconst 1, 1) := by decide +kernel
theorem dX7_meetOthers_60 : decode cX7_meetOthers 60 = .ok (.iand, 1) := by decide +kernel
theorem dX7_meetOthers_61 : decode cX7_meetOthers 61 = .ok (.aload_n 0, 1) := by decide +kernel
theorem dX7_meetOthers_62 : decode cX7_meetOthers 62 = .ok (.getfield 56, 3) := by decide +kernel
theorem dX7_meetOthers_65 : decode cX7_meetOthers 65 = .ok (.iconst 0, 1) := by decide +kernel
theorem dX7_meetOthers_66 : decode cX7_meetOthers 66 = .ok (.invokevirtual 135, 3) := by decide +kernel
theorem dX7_meetOthers_69 : decode cX7_meetOthers 69 = .ok (.goto 125, 3) := by decide +kernel
theorem dX7_meetOthers_72 : decode cX7_meetOthers 72 = .ok (.aload_n 0, 1) := by decide +kernel
theorem dX7_meetOthers_73 : decode cX7_meetOthers 73 = .ok (.aload_n 1, 1) := by decide +kernel
theorem dX7_meetOthers_74 : decode cX7_meetOthers 74 = .ok (.iload_n 3, 1) := by decide +kernel
theorem dX7_meetOthers_75 : decode cX7_meetOthers 75 = .ok (.aload_n 1, 1) := by decide +kernel
theorem dX7_meetOthers_76 : decode cX7_meetOthers 76 = .ok (.iload 4, 2) := by decide +kernel
theorem dX7_meetOthers_78 : decode cX7_meetOthers 78 = .ok (.invokevirtual 207, 3) := by decide +kernel
theorem dX7_meetOthers_81 : decode cX7_meetOthers 81 = .ok (.iconst 1, 1) := by decide +kernel
theorem dX7_meetOthers_82 : decode cX7_meetOthers 82 = .ok (.iand, 1) := by decide +kernel
theorem dX7_meetOthers_83 : decode cX7_meetOthers 83 = .ok (.aload_n 1, 1) := by decide +kernel
theorem dX7_meetOthers_84 : decode cX7_meetOthers 84 = .ok (.iload 5, 2) := by decide +kernel
theorem dX7_meetOthers_86 : decode cX7_meetOthers 86 = .ok (.invokevirtual 207, 3) := by decide +kernel
theorem dX7_meetOthers_89 : decode cX7_meetOthers 89 = .ok (.invokevirtual 219, 3) := by decide +kernel
theorem dX7_meetOthers_92 : decode cX7_meetOthers 92 = .ok (.goto 102, 3) := by decide +kernel
theorem dX7_meetOthers_95 : decode cX7_meetOthers 95 = .ok (.aload_n 1, 1) := by decide +kernel
theorem dX7_meetOthers_96 : decode cX7_meetOthers 96 = .ok (.iload 4, 2) := by decide +kernel
theorem dX7_meetOthers_98 : decode cX7_meetOthers 98 = .ok (.aload_n 0, 1) := by decide +kernel
theorem dX7_meetOthers_99 : decode cX7_meetOthers 99 = .ok (.getfield 20, 3) := by decide +kernel
theorem dX7_meetOthers_102 : decode cX7_meetOthers 102 = .ok (.iload_n 3, 1) := by decide +kernel
theorem dX7_meetOthers_103 : decode cX7_meetOthers 103 = .ok (.invokevirtual 142, 3) := by decide +kernel
theorem dX7_meetOthers_106 : decode cX7_meetOthers 106 = .ok (.invokevirtual 146, 3) := by decide +kernel
theorem dX7_meetOthers_109 : decode cX7_meetOthers 109 = .ok (.goto 85, 3) := by decide +kernel
theorem dX7_meetOthers_112 : decode cX7_meetOthers 112 = .ok (.aload_n 0, 1) := by decide +kernel
theorem dX7_meetOthers_113 : decode cX7_meetOthers 113 = .ok (.aload_n 1, 1) := by decide +kernel
theorem dX7_meetOthers_114 : decode cX7_meetOthers 114 = .ok (.iload_n 3, 1) := by decide +kernel
theorem dX7_meetOthers_115 : decode cX7_meetOthers 115 = .ok (.iload 4, 2) := by decide +kernel
theorem dX7_meetOthers_117 : decode cX7_meetOthers 117 = .ok (.aload_n 1, 1) := by decide +kernel
theorem dX7_meetOthers_118 : decode cX7_meetOthers 118 = .ok (.iload 5, 2) := by decide +kernel
theorem dX7_meetOthers_120 : decode cX7_meetOthers 120 = .ok (.invokevirtual 207, 3) := by decide +kernel
theorem dX7_meetOthers_123 : decode cX7_meetOthers 123 = .ok (.invokevirtual 223, 3) := by decide +kernel
theorem dX7_meetOthers_126 : decode cX7_meetOthers 126 = .ok (.goto 68, 3) := by decide +kernel
theorem dX7_meetOthers_129 : decode cX7_meetOthers 129 = .ok (.aload_n 1, 1) := by decide +kernel
theorem dX7_meetOthers_130 : decode cX7_meetOthers 130 = .ok (.iload_n 3, 1) := by decide +kernel
theorem dX7_meetOthers_131 : decode cX7_meetOthers 131 = .ok (.invokevirtual 207, 3) := by decide +kernel
theorem dX7_meetOthers_134 : decode cX7_meetOthers 134 = .ok (.aload_n 0, 1) := by decide +kernel
theorem dX7_meetOthers_135 : decode cX7_meetOthers 135 = .ok (.getfield 56, 3) := by decide +kernel
theorem dX7_meetOthers_138 : decode cX7_meetOthers 138 = .ok (.if_icmp .le 56, 3) := by decide +kernel
theorem dX7_meetOthers_141 : decode cX7_meetOthers 141 = .ok (.aload_n 0, 1) := by decide +kernel
theorem dX7_meetOthers_142 : decode cX7_meetOthers 142 = .ok (.aload_n 1, 1) := by decide +kernel
theorem dX7_meetOthers_143 : decode cX7_meetOthers 143 = .ok (.bipush 14, 2) := by decide +kernel
theorem dX7_meetOthers_145 : decode cX7_meetOthers 145 = .ok (.aload_n 1, 1) := by decide +kernel
theorem dX7_meetOthers_146 : decode cX7_meetOthers 146 = .ok (.iload_n 3, 1) := by decide +kernel
theorem dX7_meetOthers_147 : decode cX7_meetOthers 147 = .ok (.invokevirtual 207, 3) := by decide +kernel
theorem dX7_meetOthers_150 : decode cX7_meetOthers 150 = .ok (.invokevirtual 226, 3) := by decide +kernel
theorem dX7_meetOthers_153 : decode cX7_meetOthers 153 = .ok (.goto 41, 3) := by decide +kernel
theorem dX7_meetOthers_156 : decode cX7_meetOthers 156 = .ok (.aload_n 1, 1) := by decide +kernel
theorem dX7_meetOthers_157 : decode cX7_meetOthers 157 = .ok (.iload_n 3, 1) := by decide +kernel
theorem dX7_meetOthers_158 : decode cX7_meetOthers 158 = .ok (.aload_n 0, 1) := by decide +kernel
theorem dX7_meetOthers_159 : decode cX7_meetOthers 159 = .ok (.getfield 56, 3) := by decide +kernel
theorem dX7_meetOthers_162 : decode cX7_meetOthers 162 = .ok (.invokevirtual 146, 3) := by decide +kernel
theorem dX7_meetOthers_165 : decode cX7_meetOthers 165 = .ok (.goto 29, 3) := by decide +kernel
theorem dX7_meetOthers_168 : decode cX7_meetOthers 168 = .ok (.aload_n 0, 1) := by decide +kernel
theorem dX7_meetOthers_169 : decode cX7_meetOthers 169 = .ok (.aload_n 1, 1) := by decide +kernel
theorem dX7_meetOthers_170 : decode cX7_meetOthers 170 = .ok (.iload_n 3, 1) := by decide +kernel
theorem dX7_meetOthers_171 : decode cX7_meetOthers 171 = .ok (.aload_n 1, 1) := by decide +kernel
theorem dX7_meetOthers_172 : decode cX7_meetOthers 172 = .ok (.iload 4, 2) := by decide +kernel
theorem dX7_meetOthers_174 : decode cX7_meetOthers 174 = .ok (.invokevirtual 207, 3) := by decide +kernel
theorem dX7_meetOthers_177 : decode cX7_meetOthers 177 = .ok (.invokevirtual 230, 3) := by decide +kernel
theorem dX7_meetOthers_180 : decode cX7_meetOthers 180 = .ok (.goto 14, 3) := by decide +kernel
theorem dX7_meetOthers_183 : decode cX7_meetOthers 183 = .ok (.aload_n 0, 1) := by decide +kernel
theorem dX7_meetOthers_184 : decode cX7_meetOthers 184 = .ok (.aload_n 1, 1) := by decide +kernel
theorem dX7_meetOthers_185 : decode cX7_meetOthers 185 = .ok (.iload_n 3, 1) := by decide +kernel
theorem dX7_meetOthers_186 : decode cX7_meetOthers 186 = .ok (.iload 4, 2) := by decide +kernel
theorem dX7_meetOthers_188 : decode cX7_meetOthers 188 = .ok (.invokevirtual 233, 3) := by decide +kernel
theorem dX7_meetOthers_191 : decode cX7_meetOthers 191 = .ok (.goto 3, 3) := by decide +kernel
theorem dX7_meetOthers_194 : decode cX7_meetOthers 194 = .ok (.return_, 1) := by decide +kernel
theorem dX7_waitTill_0 : decode cX7_waitTill 0 = .ok (.aload_n 1, 1) := by decide +kernel
theorem dX7_waitTill_1 : decode cX7_waitTill 1 = .ok (.getfield 107, 3) := by decide +kernel
theorem dX7_waitTill_4 : decode cX7_waitTill 4 = .ok (.iload_n 2, 1) := by decide +kernel
theorem dX7_waitTill_5 : decode cX7_waitTill 5 = .ok (.putfield 126, 3) := by decide +kernel
theorem dX7_waitTill_8 : decode cX7_waitTill 8 = .ok (.aload_n 1, 1) := by decide +kernel
theorem dX7_waitTill_9 : decode cX7_waitTill 9 = .ok (.getfield 107, 3) := by decide +kernel
theorem dX7_waitTill_12 : decode cX7_waitTill 12 = .ok (.iload_n 3, 1) := by decide +kernel
theorem dX7_waitTill_13 : decode cX7_waitTill 13 = .ok (.putfield 111, 3) := by decide +kernel
theorem dX7_waitTill_16 : decode cX7_waitTill 16 = .ok (.aload_n 1, 1) := by decide +kernel
theorem dX7_waitTill_17 : decode cX7_waitTill 17 = .ok (.iconst 1, 1) := by decide +kernel
theorem dX7_waitTill_18 : decode cX7_waitTill 18 = .ok (.putfield 104, 3) := by decide +kernel
theorem dX7_waitTill_21 : decode cX7_waitTill 21 = .ok (.return_, 1) := by decide +kernel
theorem dX7_noteLate_0 : decode cX7_noteLate 0 = .ok (.iload_n 2, 1) := by decide +kernel
theorem dX7_noteLate_1 : decode cX7_noteLate 1 = .ok (.aload_n 0, 1) := by decide +kernel
theorem dX7_noteLate_2 : decode cX7_noteLate 2 = .ok (.getfield 56, 3) := by decide +kernel
theorem dX7_noteLate_5 : decode cX7_noteLate 5 = .ok (.if_icmp .lt 5, 3) := by decide +kernel
theorem dX7_noteLate_8 : decode cX7_noteLate 8 = .ok (.iconst 0, 1) := by decide +kernel
theorem dX7_noteLate_9 : decode cX7_noteLate 9 = .ok (.ireturn, 1) := by decide +kernel
theorem dX7_noteLate_10 : decode cX7_noteLate 10 = .ok (.aload_n 1, 1) := by decide +kernel
theorem dX7_noteLate_11 : decode cX7_noteLate 11 = .ok (.dup, 1) := by decide +kernel
theorem dX7_noteLate_12 : decode cX7_noteLate 12 = .ok (.getfield 236, 3) := by decide +kernel
theorem dX7_noteLate_15 : decode cX7_noteLate 15 = .ok (.iconst 1, 1) := by decide +kernel
theorem dX7_noteLate_16 : decode cX7_noteLate 16 = .ok (.iadd, 1) := by decide +kernel
theorem dX7_noteLate_17 : decode cX7_noteLate 17 = .ok (.putfield 236, 3) := by decide +kernel
theorem dX7_noteLate_20 : decode cX7_noteLate 20 = .ok (.aload_n 0, 1) := by decide +kernel
theorem dX7_noteLate_21 : decode cX7_noteLate 21 = .ok (.dup, 1) := by decide +kernel
theorem dX7_noteLate_22 : decode cX7_noteLate 22 = .ok (.getfield 68, 3) := by decide +kernel
theorem dX7_noteLate_25 : decode cX7_noteLate 25 = .ok (.iconst 1, 1) := by decide +kernel
theorem dX7_noteLate_26 : decode cX7_noteLate 26 = .ok (.iadd, 1) := by decide +kernel
theorem dX7_noteLate_27 : decode cX7_noteLate 27 = .ok (.putfield 68, 3) := by decide +kernel
theorem dX7_noteLate_30 : decode cX7_noteLate 30 = .ok (.iconst 1, 1) := by decide +kernel
theorem dX7_noteLate_31 : decode cX7_noteLate 31 = .ok (.ireturn, 1) := by decide +kernel
theorem dX7_writeAt_0 : decode cX7_writeAt 0 = .ok (.iload 4, 2) := by decide +kernel
theorem dX7_writeAt_2 : decode cX7_writeAt 2 = .ok (.aload_n 0, 1) := by decide +kernel
theorem dX7_writeAt_3 : decode cX7_writeAt 3 = .ok (.getfield 56, 3) := by decide +kernel
theorem dX7_writeAt_6 : decode cX7_writeAt 6 = .ok (.if_icmp .le 29, 3) := by decide +kernel
theorem dX7_writeAt_9 : decode cX7_writeAt 9 = .ok (.aload_n 1, 1) := by decide +kernel
theorem dX7_writeAt_10 : decode cX7_writeAt 10 = .ok (.getfield 107, 3) := by decide +kernel
theorem dX7_writeAt_13 : decode cX7_writeAt 13 = .ok (.iload_n 2, 1) := by decide +kernel
theorem dX7_writeAt_14 : decode cX7_writeAt 14 = .ok (.putfield 129, 3) := by decide +kernel
theorem dX7_writeAt_17 : decode cX7_writeAt 17 = .ok (.aload_n 1, 1) := by decide +kernel
theorem dX7_writeAt_18 : decode cX7_writeAt 18 = .ok (.getfield 107, 3) := by decide +kernel
theorem dX7_writeAt_21 : decode cX7_writeAt 21 = .ok (.iload_n 3, 1) := by decide +kernel
theorem dX7_writeAt_22 : decode cX7_writeAt 22 = .ok (.putfield 132, 3) := by decide +kernel
theorem dX7_writeAt_25 : decode cX7_writeAt 25 = .ok (.aload_n 0, 1) := by decide +kernel
theorem dX7_writeAt_26 : decode cX7_writeAt 26 = .ok (.aload_n 1, 1) := by decide +kernel
theorem dX7_writeAt_27 : decode cX7_writeAt 27 = .ok (.bipush 11, 2) := by decide +kernel
theorem dX7_writeAt_29 : decode cX7_writeAt 29 = .ok (.iload 4, 2) := by decide +kernel
theorem dX7_writeAt_31 : decode cX7_writeAt 31 = .ok (.invokevirtual 226, 3) := by decide +kernel
theorem dX7_writeAt_34 : decode cX7_writeAt 34 = .ok (.return_, 1) := by decide +kernel
theorem dX7_writeAt_35 : decode cX7_writeAt 35 = .ok (.aload_n 0, 1) := by decide +kernel
theorem dX7_writeAt_36 : decode cX7_writeAt 36 = .ok (.getfield 20, 3) := by decide +kernel
theorem dX7_writeAt_39 : decode cX7_writeAt 39 = .ok (.iload_n 2, 1) := by decide +kernel
theorem dX7_writeAt_40 : decode cX7_writeAt 40 = .ok (.iload_n 3, 1) := by decide +kernel
theorem dX7_writeAt_41 : decode cX7_writeAt 41 = .ok (.aload_n 0, 1) := by decide +kernel
theorem dX7_writeAt_42 : decode cX7_writeAt 42 = .ok (.getfield 56, 3) := by decide +kernel
theorem dX7_writeAt_45 : decode cX7_writeAt 45 = .ok (.aload_n 0, 1) := by decide +kernel
theorem dX7_writeAt_46 : decode cX7_writeAt 46 = .ok (.aload_n 1, 1) := by decide +kernel
theorem dX7_writeAt_47 : decode cX7_writeAt 47 = .ok (.iload 4, 2) := by decide +kernel
theorem dX7_writeAt_49 : decode cX7_writeAt 49 = .ok (.invokevirtual 237, 3) := by decide +kernel
theorem dX7_writeAt_52 : decode cX7_writeAt 52 = .ok (.invokevirtual 135, 3) := by decide +kernel
theorem dX7_writeAt_55 : decode cX7_writeAt 55 = .ok (.return_, 1) := by decide +kernel
theorem dX7_readAt_0 : decode cX7_readAt 0 = .ok (.iload 4, 2) := by decide +kernel
theorem dX7_readAt_2 : decode cX7_readAt 2 = .ok (.aload_n 0, 1) := by decide +kernel
theorem dX7_readAt_3 : decode cX7_readAt 3 = .ok (.getfield 56, 3) := by decide +kernel
theorem dX7_readAt_6 : decode cX7_readAt 6 = .ok (.if_icmp .le 29, 3) := by decide +kernel
theorem dX7_readAt_9 : decode cX7_readAt 9 = .ok (.aload_n 1, 1) := by decide +kernel
theorem dX7_readAt_10 : decode cX7_readAt 10 = .ok (.getfield 107, 3) := by decide +kernel
theorem dX7_readAt_13 : decode cX7_readAt 13 = .ok (.iload_n 2, 1) := by decide +kernel
theorem dX7_readAt_14 : decode cX7_readAt 14 = .ok (.putfield 129, 3) := by decide +kernel
theorem dX7_readAt_17 : decode cX7_readAt 17 = .ok (.aload_n 1, 1) := by decide +kernel
theorem dX7_readAt_18 : decode cX7_readAt 18 = .ok (.getfield 107, 3) := by decide +kernel
theorem dX7_readAt_21 : decode cX7_readAt 21 = .ok (.iload_n 3, 1) := by decide +kernel
theorem dX7_readAt_22 : decode cX7_readAt 22 = .ok (.putfield 139, 3) := by decide +kernel
theorem dX7_readAt_25 : decode cX7_readAt 25 = .ok (.aload_n 0, 1) := by decide +kernel
theorem dX7_readAt_26 : decode cX7_readAt 26 = .ok (.aload_n 1, 1) := by decide +kernel
theorem dX7_readAt_27 : decode cX7_readAt 27 = .ok (.bipush 13, 2) := by decide +kernel
theorem dX7_readAt_29 : decode cX7_readAt 29 = .ok (.iload 4, 2) := by decide +kernel
theorem dX7_readAt_31 : decode cX7_readAt 31 = .ok (.invokevirtual 226, 3) := by decide +kernel
theorem dX7_readAt_34 : decode cX7_readAt 34 = .ok (.return_, 1) := by decide +kernel
theorem dX7_readAt_35 : decode cX7_readAt 35 = .ok (.aload_n 0, 1) := by decide +kernel
theorem dX7_readAt_36 : decode cX7_readAt 36 = .ok (.aload_n 1, 1) := by decide +kernel
theorem dX7_readAt_37 : decode cX7_readAt 37 = .ok (.iload 4, 2) := by decide +kernel
theorem dX7_readAt_39 : decode cX7_readAt 39 = .ok (.invokevirtual 237, 3) := by decide +kernel
theorem dX7_readAt_42 : decode cX7_readAt 42 = .ok (.pop, 1) := by decide +kernel
theorem dX7_readAt_43 : decode cX7_readAt 43 = .ok (.aload_n 1, 1) := by decide +kernel
theorem dX7_readAt_44 : decode cX7_readAt 44 = .ok (.iload_n 3, 1) := by decide +kernel
theorem dX7_readAt_45 : decode cX7_readAt 45 = .ok (.aload_n 0, 1) := by decide +kernel
theorem dX7_readAt_46 : decode cX7_readAt 46 = .ok (.getfield 20, 3) := by decide +kernel
theorem dX7_readAt_49 : decode cX7_readAt 49 = .ok (.iload_n 2, 1) := by decide +kernel
theorem dX7_readAt_50 : decode cX7_readAt 50 = .ok (.invokevirtual 142, 3) := by decide +kernel
theorem dX7_readAt_53 : decode cX7_readAt 53 = .ok (.invokevirtual 146, 3) := by decide +kernel
theorem dX7_readAt_56 : decode cX7_readAt 56 = .ok (.return_, 1) := by decide +kernel
theorem dX7_send_0 : decode cX7_send 0 = .ok (.aload_n 0, 1) := by decide +kernel
theorem dX7_send_1 : decode cX7_send 1 = .ok (.iload_n 2, 1) := by decide +kernel
theorem dX7_send_2 : decode cX7_send 2 = .ok (.iconst 3, 1) := by decide +kernel
theorem dX7_send_3 : decode cX7_send 3 = .ok (.invokevirtual 241, 3) := by decide +kernel
theorem dX7_send_6 : decode cX7_send 6 = .ok (.astore 4, 2) := by decide +kernel
theorem dX7_send_8 : decode cX7_send 8 = .ok (.aload 4, 2) := by decide +kernel
theorem dX7_send_10 : decode cX7_send 10 = .ok (.ifnonnull 29, 3) := by decide +kernel
theorem dX7_send_13 : decode cX7_send 13 = .ok (.aload_n 1, 1) := by decide +kernel
theorem dX7_send_14 : decode cX7_send 14 = .ok (.getfield 107, 3) := by decide +kernel
theorem dX7_send_17 : decode cX7_send 17 = .ok (.iload_n 3, 1) := by decide +kernel
theorem dX7_send_18 : decode cX7_send 18 = .ok (.putfield 132, 3) := by decide +kernel
theorem dX7_send_21 : decode cX7_send 21 = .ok (.aload_n 1, 1) := by decide +kernel
theorem dX7_send_22 : decode cX7_send 22 = .ok (.iconst 2, 1) := by decide +kernel
theorem dX7_send_23 : decode cX7_send 23 = .ok (.putfield 104, 3) := by decide +kernel
theorem dX7_send_26 : decode cX7_send 26 = .ok (.aload_n 0, 1) := by decide +kernel
theorem dX7_send_27 : decode cX7_send 27 = .ok (.getfield 27, 3) := by decide +kernel
theorem dX7_send_30 : decode cX7_send 30 = .ok (.iload_n 2, 1) := by decide +kernel
theorem dX7_send_31 : decode cX7_send 31 = .ok (.aload_n 1, 1) := by decide +kernel
theorem dX7_send_32 : decode cX7_send 32 = .ok (.getfield 245, 3) := by decide +kernel
theorem dX7_send_35 : decode cX7_send 35 = .ok (.invokevirtual 248, 3) := by decide +kernel
theorem dX7_send_38 : decode cX7_send 38 = .ok (.return_, 1) := by decide +kernel
theorem dX7_send_39 : decode cX7_send 39 = .ok (.aload 4, 2) := by decide +kernel
theorem dX7_send_41 : decode cX7_send 41 = .ok (.aload 4, 2) := by decide +kernel
theorem dX7_send_43 : decode cX7_send 43 = .ok (.getfield 107, 3) := by decide +kernel
theorem dX7_send_46 : decode cX7_send 46 = .ok (.getfield 139, 3) := by decide +kernel
theorem dX7_send_49 : decode cX7_send 49 = .ok (.iload_n 3, 1) := by decide +kernel
theorem dX7_send_50 : decode cX7_send 50 = .ok (.invokevirtual 146, 3) := by decide +kernel
theorem dX7_send_53 : decode cX7_send 53 = .ok (.aload_n 0, 1) := by decide +kernel
theorem dX7_send_54 : decode cX7_send 54 = .ok (.iload_n 2, 1) := by decide +kernel
theorem dX7_send_55 : decode cX7_send 55 = .ok (.aload 4, 2) := by decide +kernel
theorem dX7_send_57 : decode cX7_send 57 = .ok (.invokevirtual 251, 3) := by decide +kernel
theorem dX7_send_60 : decode cX7_send 60 = .ok (.return_, 1) := by decide +kernel
theorem dX7_take_0 : decode cX7_take 0 = .ok (.aload_n 0, 1) := by decide +kernel
theorem dX7_take_1 : decode cX7_take 1 = .ok (.iload_n 2, 1) := by decide +kernel
theorem dX7_take_2 : decode cX7_take 2 = .ok (.iconst 2, 1) := by decide +kernel
theorem dX7_take_3 : decode cX7_take 3 = .ok (.invokevirtual 241, 3) := by decide +kernel
theorem dX7_take_6 : decode cX7_take 6 = .ok (.astore 4, 2) := by decide +kernel
theorem dX7_take_8 : decode cX7_take 8 = .ok (.aload 4, 2) := by decide +kernel
theorem dX7_take_10 : decode cX7_take 10 = .ok (.ifnonnull 29, 3) := by decide +kernel
theorem dX7_take_13 : decode cX7_take 13 = .ok (.aload_n 1, 1) := by decide +kernel
theorem dX7_take_14 : decode cX7_take 14 = .ok (.getfield 107, 3) := by decide +kernel
theorem dX7_take_17 : decode cX7_take 17 = .ok (.iload_n 3, 1) := by decide +kernel
theorem dX7_take_18 : decode cX7_take 18 = .ok (.putfield 139, 3) := by decide +kernel
theorem dX7_take_21 : decode cX7_take 21 = .ok (.aload_n 1, 1) := by decide +kernel
theorem dX7_take_22 : decode cX7_take 22 = .ok (.iconst 3, 1) := by decide +kernel
theorem dX7_take_23 : decode cX7_take 23 = .ok (.putfield 104, 3) := by decide +kernel
theorem dX7_take_26 : decode cX7_take 26 = .ok (.aload_n 0, 1) := by decide +kernel
theorem dX7_take_27 : decode cX7_take 27 = .ok (.getfield 27, 3) := by decide +kernel
theorem dX7_take_30 : decode cX7_take 30 = .ok (.iload_n 2, 1) := by decide +kernel
theorem dX7_take_31 : decode cX7_take 31 = .ok (.aload_n 1, 1) := by decide +kernel
theorem dX7_take_32 : decode cX7_take 32 = .ok (.getfield 245, 3) := by decide +kernel
theorem dX7_take_35 : decode cX7_take 35 = .ok (.invokevirtual 248, 3) := by decide +kernel
theorem dX7_take_38 : decode cX7_take 38 = .ok (.return_, 1) := by decide +kernel
theorem dX7_take_39 : decode cX7_take 39 = .ok (.aload_n 1, 1) := by decide +kernel
theorem dX7_take_40 : decode cX7_take 40 = .ok (.iload_n 3, 1) := by decide +kernel
theorem dX7_take_41 : decode cX7_take 41 = .ok (.aload 4, 2) := by decide +kernel
theorem dX7_take_43 : decode cX7_take 43 = .ok (.getfield 107, 3) := by decide +kernel
theorem dX7_take_46 : decode cX7_take 46 = .ok (.getfield 132, 3) := by decide +kernel
theorem dX7_take_49 : decode cX7_take 49 = .ok (.invokevirtual 146, 3) := by decide +kernel
theorem dX7_take_52 : decode cX7_take 52 = .ok (.aload_n 0, 1) := by decide +kernel
theorem dX7_take_53 : decode cX7_take 53 = .ok (.iload_n 2, 1) := by decide +kernel
theorem dX7_take_54 : decode cX7_take 54 = .ok (.aload 4, 2) := by decide +kernel
theorem dX7_take_56 : decode cX7_take 56 = .ok (.invokevirtual 251, 3) := by decide +kernel
theorem dX7_take_59 : decode cX7_take 59 = .ok (.return_, 1) := by decide +kernel
theorem dX7_firstAt_0 : decode cX7_firstAt 0 = .ok (.aload_n 0, 1) := by decide +kernel
theorem dX7_firstAt_1 : decode cX7_firstAt 1 = .ok (.getfield 27, 3) := by decide +kernel
theorem dX7_firstAt_4 : decode cX7_firstAt 4 = .ok (.iload_n 1, 1) := by decide +kernel
theorem dX7_firstAt_5 : decode cX7_firstAt 5 = .ok (.invokevirtual 255, 3) := by decide +kernel
theorem dX7_firstAt_8 : decode cX7_firstAt 8 = .ok (.istore_n 3, 1) := by decide +kernel
theorem dX7_firstAt_9 : decode cX7_firstAt 9 = .ok (.iload_n 3, 1) := by decide +kernel
theorem dX7_firstAt_10 : decode cX7_firstAt 10 = .ok (.invokestatic 79, 3) := by decide +kernel
theorem dX7_firstAt_13 : decode cX7_firstAt 13 = .ok (.ifCond .ne 5, 3) := by decide +kernel
theorem dX7_firstAt_16 : decode cX7_firstAt 16 = .ok (.aconst_null, 1) := by decide +kernel
theorem dX7_firstAt_17 : decode cX7_firstAt 17 = .ok (.areturn, 1) := by decide +kernel
theorem dX7_firstAt_18 : decode cX7_firstAt 18 = .ok (.aload_n 0, 1) := by decide +kernel
theorem dX7_firstAt_19 : decode cX7_firstAt 19 = .ok (.getfield 11, 3) := by decide +kernel
theorem dX7_firstAt_22 : decode cX7_firstAt 22 = .ok (.iload_n 3, 1) := by decide +kernel
theorem dX7_firstAt_23 : decode cX7_firstAt 23 = .ok (.aaload, 1) := by decide +kernel
theorem dX7_firstAt_24 : decode cX7_firstAt 24 = .ok (.getfield 104, 3) := by decide +kernel
theorem dX7_firstAt_27 : decode cX7_firstAt 27 = .ok (.iload_n 2, 1) := by decide +kernel
theorem dX7_firstAt_28 : decode cX7_firstAt 28 = .ok (.if_icmp .ne 12, 3) := by decide +kernel
theorem dX7_firstAt_31 : decode cX7_firstAt 31 = .ok (.aload_n 0, 1) := by decide +kernel
theorem dX7_firstAt_32 : decode cX7_firstAt 32 = .ok (.getfield 11, 3) := by decide +kernel
theorem dX7_firstAt_35 : decode cX7_firstAt 35 = .ok (.iload_n 3, 1) := by decide +kernel
theorem dX7_firstAt_36 : decode cX7_firstAt 36 = .ok (.aaload, 1) := by decide +kernel
theorem dX7_firstAt_37 : decode cX7_firstAt 37 = .ok (.goto 4, 3) := by decide +kernel
theorem dX7_firstAt_40 : decode cX7_firstAt 40 = .ok (.aconst_null, 1) := by decide +kernel
theorem dX7_firstAt_41 : decode cX7_firstAt 41 = .ok (.areturn, 1) := by decide +kernel
theorem dX7_release_0 : decode cX7_release 0 = .ok (.aload_n 0, 1) := by decide +kernel
theorem dX7_release_1 : decode cX7_release 1 = .ok (.getfield 27, 3) := by decide +kernel
theorem dX7_release_4 : decode cX7_release 4 = .ok (.iload_n 1, 1) := by decide +kernel
theorem dX7_release_5 : decode cX7_release 5 = .ok (.aload_n 2, 1) := by decide +kernel
theorem dX7_release_6 : decode cX7_release 6 = .ok (.getfield 245, 3) := by decide +kernel
theorem dX7_release_9 : decode cX7_release 9 = .ok (.invokevirtual 257, 3) := by decide +kernel
theorem dX7_release_12 : decode cX7_release 12 = .ok (.aload_n 2, 1) := by decide +kernel
theorem dX7_release_13 : decode cX7_release 13 = .ok (.iconst 0, 1) := by decide +kernel
theorem dX7_release_14 : decode cX7_release 14 = .ok (.putfield 104, 3) := by decide +kernel
theorem dX7_release_17 : decode cX7_release 17 = .ok (.aload_n 0, 1) := by decide +kernel
theorem dX7_release_18 : decode cX7_release 18 = .ok (.dup, 1) := by decide +kernel
theorem dX7_release_19 : decode cX7_release 19 = .ok (.getfield 71, 3) := by decide +kernel
theorem dX7_release_22 : decode cX7_release 22 = .ok (.iconst 1, 1) := by decide +kernel
theorem dX7_release_23 : decode cX7_release 23 = .ok (.iadd, 1) := by decide +kernel
theorem dX7_release_24 : decode cX7_release 24 = .ok (.putfield 71, 3) := by decide +kernel
theorem dX7_release_27 : decode cX7_release 27 = .ok (.return_, 1) := by decide +kernel
theorem dX7_howManyAt_0 : decode cX7_howManyAt 0 = .ok (.aload_n 0, 1) := by decide +kernel
theorem dX7_howManyAt_1 : decode cX7_howManyAt 1 = .ok (.iload_n 1, 1) := by decide +kernel
theorem dX7_howManyAt_2 : decode cX7_howManyAt 2 = .ok (.iload_n 2, 1) := by decide +kernel
theorem dX7_howManyAt_3 : decode cX7_howManyAt 3 = .ok (.invokevirtual 241, 3) := by decide +kernel
theorem dX7_howManyAt_6 : decode cX7_howManyAt 6 = .ok (.ifnonnull 7, 3) := by decide +kernel
theorem dX7_howManyAt_9 : decode cX7_howManyAt 9 = .ok (.iconst 0, 1) := by decide +kernel
theorem dX7_howManyAt_10 : decode cX7_howManyAt 10 = .ok (.goto 11, 3) := by decide +kernel
theorem dX7_howManyAt_13 : decode cX7_howManyAt 13 = .ok (.aload_n 0, 1) := by decide +kernel
theorem dX7_howManyAt_14 : decode cX7_howManyAt 14 = .ok (.getfield 27, 3) := by decide +kernel
theorem dX7_howManyAt_17 : decode cX7_howManyAt 17 = .ok (.iload_n 1, 1) := by decide +kernel
theorem dX7_howManyAt_18 : decode cX7_howManyAt 18 = .ok (.invokevirtual 260, 3) := by decide +kernel
theorem dX7_howManyAt_21 : decode cX7_howManyAt 21 = .ok (.ireturn, 1) := by decide +kernel
theorem dX7_trapped_0 : decode cX7_trapped 0 = .ok (.iconst 0, 1) := by decide +kernel
theorem dX7_trapped_1 : decode cX7_trapped 1 = .ok (.istore_n 1, 1) := by decide +kernel
theorem dX7_trapped_2 : decode cX7_trapped 2 = .ok (.iconst 0, 1) := by decide +kernel
theorem dX7_trapped_3 : decode cX7_trapped 3 = .ok (.istore_n 2, 1) := by decide +kernel
theorem dX7_trapped_4 : decode cX7_trapped 4 = .ok (.iload_n 2, 1) := by decide +kernel
theorem dX7_trapped_5 : decode cX7_trapped 5 = .ok (.bipush 6, 2) := by decide +kernel
theorem dX7_trapped_7 : decode cX7_trapped 7 = .ok (.if_icmp .ge 28, 3) := by decide +kernel
theorem dX7_trapped_10 : decode cX7_trapped 10 = .ok (.aload_n 0, 1) := by decide +kernel
theorem dX7_trapped_11 : decode cX7_trapped 11 = .ok (.getfield 11, 3) := by decide +kernel
theorem dX7_trapped_14 : decode cX7_trapped 14 = .ok (.iload_n 2, 1) := by decide +kernel
theorem dX7_trapped_15 : decode cX7_trapped 15 = .ok (.aaload, 1) := by decide +kernel
theorem dX7_trapped_16 : decode cX7_trapped 16 = .ok (.getfield 104, 3) := by decide +kernel
theorem dX7_trapped_19 : decode cX7_trapped 19 = .ok (.iconst 5, 1) := by decide +kernel
theorem dX7_trapped_20 : decode cX7_trapped 20 = .ok (.if_icmp .ne 9, 3) := by decide +kernel
theorem dX7_trapped_23 : decode cX7_trapped 23 = .ok (.iload_n 1, 1) := by decide +kernel
theorem dX7_trapped_24 : decode cX7_trapped 24 = .ok (.iconst 1, 1) := by decide +kernel
theorem dX7_trapped_25 : decode cX7_trapped 25 = .ok (.iload_n 2, 1) := by decide +kernel
theorem dX7_trapped_26 : decode cX7_trapped 26 = .ok (.ishl, 1) := by decide +kernel
theorem dX7_trapped_27 : decode cX7_trapped 27 = .ok (.ior, 1) := by decide +kernel
theorem dX7_trapped_28 : decode cX7_trapped 28 = .ok (.istore_n 1, 1) := by decide +kernel
theorem dX7_trapped_29 : decode cX7_trapped 29 = .ok (.iinc 2 1, 3) := by decide +kernel
theorem dX7_trapped_32 : decode cX7_trapped 32 = .ok (.goto (-28), 3) := by decide +kernel
theorem dX7_trapped_35 : decode cX7_trapped 35 = .ok (.iload_n 1, 1) := by decide +kernel
theorem dX7_trapped_36 : decode cX7_trapped 36 = .ok (.ireturn, 1) := by decide +kernel
theorem dX8_init_0 : decode cX8_init 0 = .ok (.aload_n 0, 1) := by decide +kernel
theorem dX8_init_1 : decode cX8_init 1 = .ok (.invokespecial 3, 3) := by decide +kernel
theorem dX8_init_4 : decode cX8_init 4 = .ok (.aload_n 0, 1) := by decide +kernel
theorem dX8_init_5 : decode cX8_init 5 = .ok (.bipush 8, 2) := by decide +kernel
theorem dX8_init_7 : decode cX8_init 7 = .ok (.newarray .int, 2) := by decide +kernel
theorem dX8_init_9 : decode cX8_init 9 = .ok (.putfield 9, 3) := by decide +kernel
theorem dX8_init_12 : decode cX8_init 12 = .ok (.aload_n 0, 1) := by decide +kernel
theorem dX8_init_13 : decode cX8_init 13 = .ok (.bipush 8, 2) := by decide +kernel
theorem dX8_init_15 : decode cX8_init 15 = .ok (.newarray .int, 2) := by decide +kernel
theorem dX8_init_17 : decode cX8_init 17 = .ok (.putfield 15, 3) := by decide +kernel
theorem dX8_init_20 : decode cX8_init 20 = .ok (.aload_n 0, 1) := by decide +kernel
theorem dX8_init_21 : decode cX8_init 21 = .ok (.new 18, 3) := by decide +kernel
theorem dX8_init_24 : decode cX8_init 24 = .ok (.dup, 1) := by decide +kernel
theorem dX8_init_25 : decode cX8_init 25 = .ok (.invokespecial 20, 3) := by decide +kernel
theorem dX8_init_28 : decode cX8_init 28 = .ok (.putfield 21, 3) := by decide +kernel
theorem dX8_init_31 : decode cX8_init 31 = .ok (.aload_n 0, 1) := by decide +kernel
theorem dX8_init_32 : decode cX8_init 32 = .ok (.getfield 9, 3) := by decide +kernel
theorem dX8_init_35 : decode cX8_init 35 = .ok (.iconst 2, 1) := by decide +kernel
theorem dX8_init_36 : decode cX8_init 36 = .ok (.invokestatic 25, 3) := by decide +kernel
theorem dX8_init_39 : decode cX8_init 39 = .ok (.return_, 1) := by decide +kernel
theorem dX8_kindOf_0 : decode cX8_kindOf 0 = .ok (.iload_n 1, 1) := by decide +kernel
theorem dX8_kindOf_1 : decode cX8_kindOf 1 = .ok (.invokestatic 31, 3) := by decide +kernel
theorem dX8_kindOf_4 : decode cX8_kindOf 4 = .ok (.ifCond .eq 12, 3) := by decide +kernel
theorem dX8_kindOf_7 : decode cX8_kindOf 7 = .ok (.aload_n 0, 1) := by decide +kernel
theorem dX8_kindOf_8 : decode cX8_kindOf 8 = .ok (.getfield 9, 3) := by decide +kernel
theorem dX8_kindOf_11 : decode cX8_kindOf 11 = .ok (.iload_n 1, 1) := by decide +kernel
theorem dX8_kindOf_12 : decode cX8_kindOf 12 = .ok (.iaload, 1) := by decide +kernel
theorem dX8_kindOf_13 : decode cX8_kindOf 13 = .ok (.goto 4, 3) := by decide +kernel
theorem dX8_kindOf_16 : decode cX8_kindOf 16 = .ok (.iconst 2, 1) := by decide +kernel
theorem dX8_kindOf_17 : decode cX8_kindOf 17 = .ok (.ireturn, 1) := by decide +kernel
theorem dX8_levelOf_0 : decode cX8_levelOf 0 = .ok (.iload_n 1, 1) := by decide +kernel
theorem dX8_levelOf_1 : decode cX8_levelOf 1 = .ok (.invokestatic 31, 3) := by decide +kernel
theorem dX8_levelOf_4 : decode cX8_levelOf 4 = .ok (.ifCond .eq 12, 3) := by decide +kernel
theorem dX8_levelOf_7 : decode cX8_levelOf 7 = .ok (.aload_n 0, 1) := by decide +kernel
theorem dX8_levelOf_8 : decode cX8_levelOf 8 = .ok (.getfield 15, 3) := by decide +kernel
theorem dX8_levelOf_11 : decode cX8_levelOf 11 = .ok (.iload_n 1, 1) := by decide +kernel
theorem dX8_levelOf_12 : decode cX8_levelOf 12 = .ok (.iaload, 1) := by decide +kernel
theorem dX8_levelOf_13 : decode cX8_levelOf 13 = .ok (.goto 4, 3) := by decide +kernel
theorem dX8_levelOf_16 : decode cX8_levelOf 16 = .ok (.iconst 0, 1) := by decide +kernel
theorem dX8_levelOf_17 : decode cX8_levelOf 17 = .ok (.ireturn, 1) := by decide +kernel
theorem dX8_name_0 : decode cX8_name 0 = .ok (.iload_n 1, 1) := by decide +kernel
theorem dX8_name_1 : decode cX8_name 1 = .ok (.invokestatic 31, 3) := by decide +kernel
theorem dX8_name_4 : decode cX8_name 4 = .ok (.ifCond .eq 13, 3) := by decide +kernel
theorem dX8_name_7 : decode cX8_name 7 = .ok (.aload_n 0, 1) := by decide +kernel
theorem dX8_name_8 : decode cX8_name 8 = .ok (.getfield 9, 3) := by decide +kernel
theorem dX8_name_11 : decode cX8_name 11 = .ok (.iload_n 1, 1) := by decide +kernel
theorem dX8_name_12 : decode cX8_name 12 = .ok (.iaload, 1) := by decide +kernel
theorem dX8_name_13 : decode cX8_name 13 = .ok (.iconst 2, 1) := by decide +kernel
theorem dX8_name_14 : decode cX8_name 14 = .ok (.if_icmp .eq 5, 3) := by decide +kernel
theorem dX8_name_17 : decode cX8_name 17 = .ok (.iconst 0, 1) := by decide +kernel
theorem dX8_name_18 : decode cX8_name 18 = .ok (.ireturn, 1) := by decide +kernel
theorem dX8_name_19 : decode cX8_name 19 = .ok (.iload_n 1, 1) := by decide +kernel
theorem dX8_name_20 : decode cX8_name 20 = .ok (.iconst 4, 1) := by decide +kernel
theorem dX8_name_21 : decode cX8_name 21 = .ok (.if_icmp .ge 7, 3) := by decide +kernel
theorem dX8_name_24 : decode cX8_name 24 = .ok (.iconst 0, 1) := by decide +kernel
theorem dX8_name_25 : decode cX8_name 25 = .ok (.goto 4, 3) := by decide +kernel
theorem dX8_name_28 : decode cX8_name 28 = .ok (.iconst 4, 1) := by decide +kernel
theorem dX8_name_29 : decode cX8_name 29 = .ok (.istore_n 3, 1) := by decide +kernel
theorem dX8_name_30 : decode cX8_name 30 = .ok (.iload_n 3, 1) := by decide +kernel
theorem dX8_name_31 : decode cX8_name 31 = .ok (.istore 4, 2) := by decide +kernel
theorem dX8_name_33 : decode cX8_name 33 = .ok (.iload 4, 2) := by decide +kernel
theorem dX8_name_35 : decode cX8_name 35 = .ok (.iload_n 3, 1) := by decide +kernel
theorem dX8_name_36 : decode cX8_name 36 = .ok (.iconst 4, 1) := by decide +kernel
theorem dX8_name_37 : decode cX8_name 37 = .ok (.iadd, 1) := by decide +kernel
theorem dX8_name_38 : decode cX8_name 38 = .ok (.if_icmp .ge 33, 3) := by decide +kernel
theorem dX8_name_41 : decode cX8_name 41 = .ok (.aload_n 0, 1) := by decide +kernel
theorem dX8_name_42 : decode cX8_name 42 = .ok (.getfield 9, 3) := by decide +kernel
theorem dX8_name_45 : decode cX8_name 45 = .ok (.iload 4, 2) := by decide +kernel
theorem dX8_name_47 : decode cX8_name 47 = .ok (.iaload, 1) := by decide +kernel
theorem dX8_name_48 : decode cX8_name 48 = .ok (.iconst 2, 1) := by decide +kernel
theorem dX8_name_49 : decode cX8_name 49 = .ok (.if_icmp .eq 16, 3) := by decide +kernel
theorem dX8_name_52 : decode cX8_name 52 = .ok (.aload_n 0, 1) := by decide +kernel
theorem dX8_name_53 : decode cX8_name 53 = .ok (.getfield 9, 3) := by decide +kernel
theorem dX8_name_56 : decode cX8_name 56 = .ok (.iload 4, 2) := by decide +kernel
theorem dX8_name_58 : decode cX8_name 58 = .ok (.iaload, 1) := by decide +kernel
theorem dX8_name_59 : decode cX8_name 59 = .ok (.iload_n 2, 1) := by decide +kernel
theorem dX8_name_60 : decode cX8_name 60 = .ok (.if_icmp .eq 5, 3) := by decide +kernel
theorem dX8_name_63 : decode cX8_name 63 = .ok (.iconst 0, 1) := by decide +kernel
theorem dX8_name_64 : decode cX8_name 64 = .ok (.ireturn, 1) := by decide +kernel
theorem dX8_name_65 : decode cX8_name 65 = .ok (.iinc 4 1, 3) := by decide +kernel
theorem dX8_name_68 : decode cX8_name 68 = .ok (.goto (-35), 3) := by decide +kernel
theorem dX8_name_71 : decode cX8_name 71 = .ok (.aload_n 0, 1) := by decide +kernel
theorem dX8_name_72 : decode cX8_name 72 = .ok (.getfield 9, 3) := by decide +kernel
theorem dX8_name_75 : decode cX8_name 75 = .ok (.iload_n 1, 1) := by decide +kernel
theorem dX8_name_76 : decode cX8_name 76 = .ok (.iload_n 2, 1) := by decide +kernel
theorem dX8_name_77 : decode cX8_name 77 = .ok (.iastore, 1) := by decide +kernel
theorem dX8_name_78 : decode cX8_name 78 = .ok (.iconst 1, 1) := by decide +kernel
theorem dX8_name_79 : decode cX8_name 79 = .ok (.ireturn, 1) := by decide +kernel
theorem dX8_drive_0 : decode cX8_drive 0 = .ok (.iload_n 1, 1) := by decide +kernel
theorem dX8_drive_1 : decode cX8_drive 1 = .ok (.invokestatic 31, 3) := by decide +kernel
theorem dX8_drive_4 : decode cX8_drive 4 = .ok (.ifCond .eq 10, 3) := by decide +kernel
theorem dX8_drive_7 : decode cX8_drive 7 = .ok (.aload_n 0, 1) := by decide +kernel
theorem dX8_drive_8 : decode cX8_drive 8 = .ok (.getfield 15, 3) := by decide +kernel
theorem dX8_drive_11 : decode cX8_drive 11 = .ok (.iload_n 1, 1) := by decide +kernel
theorem dX8_drive_12 : decode cX8_drive 12 = .ok (.iload_n 2, 1) := by decide +kernel
theorem dX8_drive_13 : decode cX8_drive 13 = .ok (.iastore, 1) := by decide +kernel
theorem dX8_drive_14 : decode cX8_drive 14 = .ok (.return_, 1) := by decide +kernel
theorem dX8_write_0 : decode cX8_write 0 = .ok (.iload_n 1, 1) := by decide +kernel
theorem dX8_write_1 : decode cX8_write 1 = .ok (.invokestatic 31, 3) := by decide +kernel
theorem dX8_write_4 : decode cX8_write 4 = .ok (.ifCond .eq 32, 3) := by decide +kernel
theorem dX8_write_7 : decode cX8_write 7 = .ok (.aload_n 0, 1) := by decide +kernel
theorem dX8_write_8 : decode cX8_write 8 = .ok (.getfield 15, 3) := by decide +kernel
theorem dX8_write_11 : decode cX8_write 11 = .ok (.iload_n 1, 1) := by decide +kernel
theorem dX8_write_12 : decode cX8_write 12 = .ok (.iaload, 1) := by decide +kernel
theorem dX8_write_13 : decode cX8_write 13 = .ok (.iload_n 2, 1) := by decide +kernel
theorem dX8_write_14 : decode cX8_write 14 = .ok (.if_icmp .eq 22, 3) := by decide +kernel
theorem dX8_write_17 : decode cX8_write 17 = .ok (.aload_n 0, 1) := by decide +kernel
theorem dX8_write_18 : decode cX8_write 18 = .ok (.getfield 15, 3) := by decide +kernel
theorem dX8_write_21 : decode cX8_write 21 = .ok (.iload_n 1, 1) := by decide +kernel
theorem dX8_write_22 : decode cX8_write 22 = .ok (.iload_n 2, 1) := by decide +kernel
theorem dX8_write_23 : decode cX8_write 23 = .ok (.iastore, 1) := by decide +kernel
theorem dX8_write_24 : decode cX8_write 24 = .ok (.aload_n 0, 1) := by decide +kernel
theorem dX8_write_25 : decode cX8_write 25 = .ok (.getfield 21, 3) := by decide +kernel
theorem dX8_write_28 : decode cX8_write 28 = .ok (.iload_n 3, 1) := by decide +kernel
theorem dX8_write_29 : decode cX8_write 29 = .ok (.iload_n 1, 1) := by decide +kernel
theorem dX8_write_30 : decode cX8_write 30 = .ok (.iload_n 2, 1) := by decide +kernel
theorem dX8_write_31 : decode cX8_write 31 = .ok (.iload 4, 2) := by decide +kernel
theorem dX8_write_33 : decode cX8_write 33 = .ok (.invokevirtual 35, 3) := by decide +kernel
theorem dX8_write_36 : decode cX8_write 36 = .ok (.return_, 1) := by decide +kernel
theorem dX8_reset_0 : decode cX8_reset 0 = .ok (.aload_n 0, 1) := by decide +kernel
theorem dX8_reset_1 : decode cX8_reset 1 = .ok (.getfield 15, 3) := by decide +kernel
theorem dX8_reset_4 : decode cX8_reset 4 = .ok (.iconst 0, 1) := by decide +kernel
theorem dX8_reset_5 : decode cX8_reset 5 = .ok (.invokestatic 25, 3) := by decide +kernel
theorem dX8_reset_8 : decode cX8_reset 8 = .ok (.aload_n 0, 1) := by decide +kernel
theorem dX8_reset_9 : decode cX8_reset 9 = .ok (.getfield 21, 3) := by decide +kernel
theorem dX8_reset_12 : decode cX8_reset 12 = .ok (.invokevirtual 39, 3) := by decide +kernel
theorem dX8_reset_15 : decode cX8_reset 15 = .ok (.return_, 1) := by decide +kernel
theorem dX8_copy_0 : decode cX8_copy 0 = .ok (.aload_n 1, 1) := by decide +kernel
theorem dX8_copy_1 : decode cX8_copy 1 = .ok (.getfield 9, 3) := by decide +kernel
theorem dX8_copy_4 : decode cX8_copy 4 = .ok (.iconst 0, 1) := by decide +kernel
