theorem dX3_append_44 : decode cX3_append 44 = .ok (.aload_n 0, 1) := by decide +kernel
theorem dX3_append_45 : decode cX3_append 45 = .ok (.getfield 9, 3) := by decide +kernel
theorem dX3_append_48 : decode cX3_append 48 = .ok (.iload 5, 2) := by decide +kernel
theorem dX3_append_50 : decode cX3_append 50 = .ok (.iconst 2, 1) := by decide +kernel
theorem dX3_append_51 : decode cX3_append 51 = .ok (.iadd, 1) := by decide +kernel
theorem dX3_append_52 : decode cX3_append 52 = .ok (.iload_n 3, 1) := by decide +kernel
theorem dX3_append_53 : decode cX3_append 53 = .ok (.iastore, 1) := by decide +kernel
theorem dX3_append_54 : decode cX3_append 54 = .ok (.aload_n 0, 1) := by decide +kernel
theorem dX3_append_55 : decode cX3_append 55 = .ok (.getfield 9, 3) := by decide +kernel
theorem dX3_append_58 : decode cX3_append 58 = .ok (.iload 5, 2) := by decide +kernel
theorem dX3_append_60 : decode cX3_append 60 = .ok (.iconst 3, 1) := by decide +kernel
theorem dX3_append_61 : decode cX3_append 61 = .ok (.iadd, 1) := by decide +kernel
theorem dX3_append_62 : decode cX3_append 62 = .ok (.iload 4, 2) := by decide +kernel
theorem dX3_append_64 : decode cX3_append 64 = .ok (.iastore, 1) := by decide +kernel
theorem dX3_append_65 : decode cX3_append 65 = .ok (.aload_n 0, 1) := by decide +kernel
theorem dX3_append_66 : decode cX3_append 66 = .ok (.aload_n 0, 1) := by decide +kernel
theorem dX3_append_67 : decode cX3_append 67 = .ok (.getfield 15, 3) := by decide +kernel
theorem dX3_append_70 : decode cX3_append 70 = .ok (.iconst 1, 1) := by decide +kernel
theorem dX3_append_71 : decode cX3_append 71 = .ok (.iadd, 1) := by decide +kernel
theorem dX3_append_72 : decode cX3_append 72 = .ok (.bipush 40, 2) := by decide +kernel
theorem dX3_append_74 : decode cX3_append 74 = .ok (.if_icmp .ge 12, 3) := by decide +kernel
theorem dX3_append_77 : decode cX3_append 77 = .ok (.aload_n 0, 1) := by decide +kernel
theorem dX3_append_78 : decode cX3_append 78 = .ok (.getfield 15, 3) := by decide +kernel
theorem dX3_append_81 : decode cX3_append 81 = .ok (.iconst 1, 1) := by decide +kernel
theorem dX3_append_82 : decode cX3_append 82 = .ok (.iadd, 1) := by decide +kernel
theorem dX3_append_83 : decode cX3_append 83 = .ok (.goto 4, 3) := by decide +kernel
theorem dX3_append_86 : decode cX3_append 86 = .ok (.iconst 0, 1) := by decide +kernel
theorem dX3_append_87 : decode cX3_append 87 = .ok (.putfield 15, 3) := by decide +kernel
theorem dX3_append_90 : decode cX3_append 90 = .ok (.aload_n 0, 1) := by decide +kernel
theorem dX3_append_91 : decode cX3_append 91 = .ok (.getfield 19, 3) := by decide +kernel
theorem dX3_append_94 : decode cX3_append 94 = .ok (.bipush 40, 2) := by decide +kernel
theorem dX3_append_96 : decode cX3_append 96 = .ok (.if_icmp .ge 13, 3) := by decide +kernel
theorem dX3_append_99 : decode cX3_append 99 = .ok (.aload_n 0, 1) := by decide +kernel
theorem dX3_append_100 : decode cX3_append 100 = .ok (.dup, 1) := by decide +kernel
theorem dX3_append_101 : decode cX3_append 101 = .ok (.getfield 19, 3) := by decide +kernel
theorem dX3_append_104 : decode cX3_append 104 = .ok (.iconst 1, 1) := by decide +kernel
theorem dX3_append_105 : decode cX3_append 105 = .ok (.iadd, 1) := by decide +kernel
theorem dX3_append_106 : decode cX3_append 106 = .ok (.putfield 19, 3) := by decide +kernel
theorem dX3_append_109 : decode cX3_append 109 = .ok (.return_, 1) := by decide +kernel
theorem dX3_look_0 : decode cX3_look 0 = .ok (.iload_n 1, 1) := by decide +kernel
theorem dX3_look_1 : decode cX3_look 1 = .ok (.ifCond .lt 20, 3) := by decide +kernel
theorem dX3_look_4 : decode cX3_look 4 = .ok (.iload_n 1, 1) := by decide +kernel
theorem dX3_look_5 : decode cX3_look 5 = .ok (.aload_n 0, 1) := by decide +kernel
theorem dX3_look_6 : decode cX3_look 6 = .ok (.getfield 19, 3) := by decide +kernel
theorem dX3_look_9 : decode cX3_look 9 = .ok (.if_icmp .ge 12, 3) := by decide +kernel
theorem dX3_look_12 : decode cX3_look 12 = .ok (.iload_n 2, 1) := by decide +kernel
theorem dX3_look_13 : decode cX3_look 13 = .ok (.ifCond .lt 8, 3) := by decide +kernel
theorem dX3_look_16 : decode cX3_look 16 = .ok (.iload_n 2, 1) := by decide +kernel
theorem dX3_look_17 : decode cX3_look 17 = .ok (.iconst 3, 1) := by decide +kernel
theorem dX3_look_18 : decode cX3_look 18 = .ok (.if_icmp .le 5, 3) := by decide +kernel
theorem dX3_look_21 : decode cX3_look 21 = .ok (.iconst (-1), 1) := by decide +kernel
theorem dX3_look_22 : decode cX3_look 22 = .ok (.ireturn, 1) := by decide +kernel
theorem dX3_look_23 : decode cX3_look 23 = .ok (.aload_n 0, 1) := by decide +kernel
theorem dX3_look_24 : decode cX3_look 24 = .ok (.getfield 15, 3) := by decide +kernel
theorem dX3_look_27 : decode cX3_look 27 = .ok (.iconst 1, 1) := by decide +kernel
theorem dX3_look_28 : decode cX3_look 28 = .ok (.isub, 1) := by decide +kernel
theorem dX3_look_29 : decode cX3_look 29 = .ok (.iload_n 1, 1) := by decide +kernel
theorem dX3_look_30 : decode cX3_look 30 = .ok (.isub, 1) := by decide +kernel
theorem dX3_look_31 : decode cX3_look 31 = .ok (.istore_n 3, 1) := by decide +kernel
theorem dX3_look_32 : decode cX3_look 32 = .ok (.iconst 4, 1) := by decide +kernel
theorem dX3_look_33 : decode cX3_look 33 = .ok (.iload_n 3, 1) := by decide +kernel
theorem dX3_look_34 : decode cX3_look 34 = .ok (.ifCond .ge 10, 3) := by decide +kernel
theorem dX3_look_37 : decode cX3_look 37 = .ok (.iload_n 3, 1) := by decide +kernel
theorem dX3_look_38 : decode cX3_look 38 = .ok (.bipush 40, 2) := by decide +kernel
theorem dX3_look_40 : decode cX3_look 40 = .ok (.iadd, 1) := by decide +kernel
theorem dX3_look_41 : decode cX3_look 41 = .ok (.goto 4, 3) := by decide +kernel
theorem dX3_look_44 : decode cX3_look 44 = .ok (.iload_n 3, 1) := by decide +kernel
theorem dX3_look_45 : decode cX3_look 45 = .ok (.imul, 1) := by decide +kernel
theorem dX3_look_46 : decode cX3_look 46 = .ok (.iload_n 2, 1) := by decide +kernel
theorem dX3_look_47 : decode cX3_look 47 = .ok (.iadd, 1) := by decide +kernel
theorem dX3_look_48 : decode cX3_look 48 = .ok (.istore 4, 2) := by decide +kernel
theorem dX3_look_50 : decode cX3_look 50 = .ok (.iload 4, 2) := by decide +kernel
theorem dX3_look_52 : decode cX3_look 52 = .ok (.ifCond .lt 23, 3) := by decide +kernel
theorem dX3_look_55 : decode cX3_look 55 = .ok (.iload 4, 2) := by decide +kernel
theorem dX3_look_57 : decode cX3_look 57 = .ok (.aload_n 0, 1) := by decide +kernel
theorem dX3_look_58 : decode cX3_look 58 = .ok (.getfield 9, 3) := by decide +kernel
theorem dX3_look_61 : decode cX3_look 61 = .ok (.arraylength, 1) := by decide +kernel
theorem dX3_look_62 : decode cX3_look 62 = .ok (.if_icmp .ge 13, 3) := by decide +kernel
theorem dX3_look_65 : decode cX3_look 65 = .ok (.aload_n 0, 1) := by decide +kernel
theorem dX3_look_66 : decode cX3_look 66 = .ok (.getfield 9, 3) := by decide +kernel
theorem dX3_look_69 : decode cX3_look 69 = .ok (.iload 4, 2) := by decide +kernel
theorem dX3_look_71 : decode cX3_look 71 = .ok (.iaload, 1) := by decide +kernel
theorem dX3_look_72 : decode cX3_look 72 = .ok (.goto 4, 3) := by decide +kernel
theorem dX3_look_75 : decode cX3_look 75 = .ok (.iconst (-1), 1) := by decide +kernel
theorem dX3_look_76 : decode cX3_look 76 = .ok (.ireturn, 1) := by decide +kernel
theorem dX3_clear_0 : decode cX3_clear 0 = .ok (.aload_n 0, 1) := by decide +kernel
theorem dX3_clear_1 : decode cX3_clear 1 = .ok (.iconst 0, 1) := by decide +kernel
theorem dX3_clear_2 : decode cX3_clear 2 = .ok (.putfield 15, 3) := by decide +kernel
theorem dX3_clear_5 : decode cX3_clear 5 = .ok (.aload_n 0, 1) := by decide +kernel
theorem dX3_clear_6 : decode cX3_clear 6 = .ok (.iconst 0, 1) := by decide +kernel
theorem dX3_clear_7 : decode cX3_clear 7 = .ok (.putfield 19, 3) := by decide +kernel
theorem dX3_clear_10 : decode cX3_clear 10 = .ok (.return_, 1) := by decide +kernel
theorem dX4_init_0 : decode cX4_init 0 = .ok (.aload_n 0, 1) := by decide +kernel
theorem dX4_init_1 : decode cX4_init 1 = .ok (.invokespecial 1, 3) := by decide +kernel
theorem dX4_init_4 : decode cX4_init 4 = .ok (.return_, 1) := by decide +kernel
theorem dX4_copy_0 : decode cX4_copy 0 = .ok (.aload_n 0, 1) := by decide +kernel
theorem dX4_copy_1 : decode cX4_copy 1 = .ok (.aload_n 1, 1) := by decide +kernel
theorem dX4_copy_2 : decode cX4_copy 2 = .ok (.getfield 7, 3) := by decide +kernel
theorem dX4_copy_5 : decode cX4_copy 5 = .ok (.putfield 7, 3) := by decide +kernel
theorem dX4_copy_8 : decode cX4_copy 8 = .ok (.aload_n 0, 1) := by decide +kernel
theorem dX4_copy_9 : decode cX4_copy 9 = .ok (.aload_n 1, 1) := by decide +kernel
theorem dX4_copy_10 : decode cX4_copy 10 = .ok (.getfield 13, 3) := by decide +kernel
theorem dX4_copy_13 : decode cX4_copy 13 = .ok (.putfield 13, 3) := by decide +kernel
theorem dX4_copy_16 : decode cX4_copy 16 = .ok (.aload_n 0, 1) := by decide +kernel
theorem dX4_copy_17 : decode cX4_copy 17 = .ok (.aload_n 1, 1) := by decide +kernel
theorem dX4_copy_18 : decode cX4_copy 18 = .ok (.getfield 16, 3) := by decide +kernel
theorem dX4_copy_21 : decode cX4_copy 21 = .ok (.putfield 16, 3) := by decide +kernel
theorem dX4_copy_24 : decode cX4_copy 24 = .ok (.aload_n 0, 1) := by decide +kernel
theorem dX4_copy_25 : decode cX4_copy 25 = .ok (.aload_n 1, 1) := by decide +kernel
theorem dX4_copy_26 : decode cX4_copy 26 = .ok (.getfield 19, 3) := by decide +kernel
theorem dX4_copy_29 : decode cX4_copy 29 = .ok (.putfield 19, 3) := by decide +kernel
theorem dX4_copy_32 : decode cX4_copy 32 = .ok (.aload_n 0, 1) := by decide +kernel
theorem dX4_copy_33 : decode cX4_copy 33 = .ok (.aload_n 1, 1) := by decide +kernel
theorem dX4_copy_34 : decode cX4_copy 34 = .ok (.getfield 22, 3) := by decide +kernel
theorem dX4_copy_37 : decode cX4_copy 37 = .ok (.putfield 22, 3) := by decide +kernel
theorem dX4_copy_40 : decode cX4_copy 40 = .ok (.return_, 1) := by decide +kernel
theorem dX5_init_0 : decode cX5_init 0 = .ok (.aload_n 0, 1) := by decide +kernel
theorem dX5_init_1 : decode cX5_init 1 = .ok (.invokespecial 3, 3) := by decide +kernel
theorem dX5_init_4 : decode cX5_init 4 = .ok (.aload_n 0, 1) := by decide +kernel
theorem dX5_init_5 : decode cX5_init 5 = .ok (.bipush 32, 2) := by decide +kernel
theorem dX5_init_7 : decode cX5_init 7 = .ok (.newarray .int, 2) := by decide +kernel
theorem dX5_init_9 : decode cX5_init 9 = .ok (.putfield 9, 3) := by decide +kernel
theorem dX5_init_12 : decode cX5_init 12 = .ok (.aload_n 0, 1) := by decide +kernel
theorem dX5_init_13 : decode cX5_init 13 = .ok (.bipush 32, 2) := by decide +kernel
theorem dX5_init_15 : decode cX5_init 15 = .ok (.newarray .int, 2) := by decide +kernel
theorem dX5_init_17 : decode cX5_init 17 = .ok (.putfield 15, 3) := by decide +kernel
theorem dX5_init_20 : decode cX5_init 20 = .ok (.aload_n 0, 1) := by decide +kernel
theorem dX5_init_21 : decode cX5_init 21 = .ok (.bipush 32, 2) := by decide +kernel
theorem dX5_init_23 : decode cX5_init 23 = .ok (.newarray .int, 2) := by decide +kernel
theorem dX5_init_25 : decode cX5_init 25 = .ok (.putfield 18, 3) := by decide +kernel
theorem dX5_init_28 : decode cX5_init 28 = .ok (.return_, 1) := by decide +kernel
theorem dX5_append_0 : decode cX5_append 0 = .ok (.aload_n 0, 1) := by decide +kernel
theorem dX5_append_1 : decode cX5_append 1 = .ok (.getfield 21, 3) := by decide +kernel
theorem dX5_append_4 : decode cX5_append 4 = .ok (.ifCond .lt 12, 3) := by decide +kernel
theorem dX5_append_7 : decode cX5_append 7 = .ok (.aload_n 0, 1) := by decide +kernel
theorem dX5_append_8 : decode cX5_append 8 = .ok (.getfield 21, 3) := by decide +kernel
theorem dX5_append_11 : decode cX5_append 11 = .ok (.bipush 32, 2) := by decide +kernel
theorem dX5_append_13 : decode cX5_append 13 = .ok (.if_icmp .lt 5, 3) := by decide +kernel
theorem dX5_append_16 : decode cX5_append 16 = .ok (.iconst (-1), 1) := by decide +kernel
theorem dX5_append_17 : decode cX5_append 17 = .ok (.ireturn, 1) := by decide +kernel
theorem dX5_append_18 : decode cX5_append 18 = .ok (.aload_n 0, 1) := by decide +kernel
theorem dX5_append_19 : decode cX5_append 19 = .ok (.getfield 9, 3) := by decide +kernel
theorem dX5_append_22 : decode cX5_append 22 = .ok (.aload_n 0, 1) := by decide +kernel
theorem dX5_append_23 : decode cX5_append 23 = .ok (.getfield 21, 3) := by decide +kernel
theorem dX5_append_26 : decode cX5_append 26 = .ok (.iload_n 1, 1) := by decide +kernel
theorem dX5_append_27 : decode cX5_append 27 = .ok (.iastore, 1) := by decide +kernel
theorem dX5_append_28 : decode cX5_append 28 = .ok (.aload_n 0, 1) := by decide +kernel
theorem dX5_append_29 : decode cX5_append 29 = .ok (.getfield 15, 3) := by decide +kernel
theorem dX5_append_32 : decode cX5_append 32 = .ok (.aload_n 0, 1) := by decide +kernel
theorem dX5_append_33 : decode cX5_append 33 = .ok (.getfield 21, 3) := by decide +kernel
theorem dX5_append_36 : decode cX5_append 36 = .ok (.iload_n 2, 1) := by decide +kernel
theorem dX5_append_37 : decode cX5_append 37 = .ok (.iastore, 1) := by decide +kernel
theorem dX5_append_38 : decode cX5_append 38 = .ok (.aload_n 0, 1) := by decide +kernel
theorem dX5_append_39 : decode cX5_append 39 = .ok (.getfield 18, 3) := by decide +kernel
theorem dX5_append_42 : decode cX5_append 42 = .ok (.aload_n 0, 1) := by decide +kernel
theorem dX5_append_43 : decode cX5_append 43 = .ok (.getfield 21, 3) := by decide +kernel
theorem dX5_append_46 : decode cX5_append 46 = .ok (.iload_n 3, 1) := by decide +kernel
theorem dX5_append_47 : decode cX5_append 47 = .ok (.iastore, 1) := by decide +kernel
theorem dX5_append_48 : decode cX5_append 48 = .ok (.aload_n 0, 1) := by decide +kernel
theorem dX5_append_49 : decode cX5_append 49 = .ok (.dup, 1) := by decide +kernel
theorem dX5_append_50 : decode cX5_append 50 = .ok (.getfield 21, 3) := by decide +kernel
theorem dX5_append_53 : decode cX5_append 53 = .ok (.iconst 1, 1) := by decide +kernel
theorem dX5_append_54 : decode cX5_append 54 = .ok (.iadd, 1) := by decide +kernel
theorem dX5_append_55 : decode cX5_append 55 = .ok (.putfield 21, 3) := by decide +kernel
theorem dX5_append_58 : decode cX5_append 58 = .ok (.aload_n 0, 1) := by decide +kernel
theorem dX5_append_59 : decode cX5_append 59 = .ok (.getfield 21, 3) := by decide +kernel
theorem dX5_append_62 : decode cX5_append 62 = .ok (.ireturn, 1) := by decide +kernel
theorem dX5_comeTo_0 : decode cX5_comeTo 0 = .ok (.iconst 0, 1) := by decide +kernel
theorem dX5_comeTo_1 : decode cX5_comeTo 1 = .ok (.istore_n 3, 1) := by decide +kernel
theorem dX5_comeTo_2 : decode cX5_comeTo 2 = .ok (.iload_n 3, 1) := by decide +kernel
theorem dX5_comeTo_3 : decode cX5_comeTo 3 = .ok (.aload_n 0, 1) := by decide +kernel
theorem dX5_comeTo_4 : decode cX5_comeTo 4 = .ok (.getfield 21, 3) := by decide +kernel
theorem dX5_comeTo_7 : decode cX5_comeTo 7 = .ok (.if_icmp .ge 41, 3) := by decide +kernel
theorem dX5_comeTo_10 : decode cX5_comeTo 10 = .ok (.iload_n 3, 1) := by decide +kernel
theorem dX5_comeTo_11 : decode cX5_comeTo 11 = .ok (.bipush 32, 2) := by decide +kernel
theorem dX5_comeTo_13 : decode cX5_comeTo 13 = .ok (.if_icmp .ge 35, 3) := by decide +kernel
theorem dX5_comeTo_16 : decode cX5_comeTo 16 = .ok (.aload_n 0, 1) := by decide +kernel
theorem dX5_comeTo_17 : decode cX5_comeTo 17 = .ok (.getfield 15, 3) := by decide +kernel
theorem dX5_comeTo_20 : decode cX5_comeTo 20 = .ok (.iload_n 3, 1) := by decide +kernel
theorem dX5_comeTo_21 : decode cX5_comeTo 21 = .ok (.iaload, 1) := by decide +kernel
theorem dX5_comeTo_22 : decode cX5_comeTo 22 = .ok (.iload_n 2, 1) := by decide +kernel
theorem dX5_comeTo_23 : decode cX5_comeTo 23 = .ok (.if_icmp .ne 19, 3) := by decide +kernel
theorem dX5_comeTo_26 : decode cX5_comeTo 26 = .ok (.aload_n 1, 1) := by decide +kernel
theorem dX5_comeTo_27 : decode cX5_comeTo 27 = .ok (.aload_n 0, 1) := by decide +kernel
theorem dX5_comeTo_28 : decode cX5_comeTo 28 = .ok (.getfield 9, 3) := by decide +kernel
theorem dX5_comeTo_31 : decode cX5_comeTo 31 = .ok (.iload_n 3, 1) := by decide +kernel
theorem dX5_comeTo_32 : decode cX5_comeTo 32 = .ok (.iaload, 1) := by decide +kernel
theorem dX5_comeTo_33 : decode cX5_comeTo 33 = .ok (.aload_n 0, 1) := by decide +kernel
theorem dX5_comeTo_34 : decode cX5_comeTo 34 = .ok (.getfield 18, 3) := by decide +kernel
theorem dX5_comeTo_37 : decode cX5_comeTo 37 = .ok (.iload_n 3, 1) := by decide +kernel
theorem dX5_comeTo_38 : decode cX5_comeTo 38 = .ok (.iaload, 1) := by decide +kernel
theorem dX5_comeTo_39 : decode cX5_comeTo 39 = .ok (.invokevirtual 25, 3) := by decide +kernel
theorem dX5_comeTo_42 : decode cX5_comeTo 42 = .ok (.iinc 3 1, 3) := by decide +kernel
theorem dX5_comeTo_45 : decode cX5_comeTo 45 = .ok (.goto (-43), 3) := by decide +kernel
theorem dX5_comeTo_48 : decode cX5_comeTo 48 = .ok (.return_, 1) := by decide +kernel
theorem dX6_init_0 : decode cX6_init 0 = .ok (.aload_n 0, 1) := by decide +kernel
theorem dX6_init_1 : decode cX6_init 1 = .ok (.invokespecial 3, 3) := by decide +kernel
theorem dX6_init_4 : decode cX6_init 4 = .ok (.aload_n 0, 1) := by decide +kernel
theorem dX6_init_5 : decode cX6_init 5 = .ok (.bipush 6, 2) := by decide +kernel
theorem dX6_init_7 : decode cX6_init 7 = .ok (.newarray .int, 2) := by decide +kernel
theorem dX6_init_9 : decode cX6_init 9 = .ok (.putfield 9, 3) := by decide +kernel
theorem dX6_init_12 : decode cX6_init 12 = .ok (.aload_n 0, 1) := by decide +kernel
theorem dX6_init_13 : decode cX6_init 13 = .ok (.sipush 390, 3) := by decide +kernel
theorem dX6_init_16 : decode cX6_init 16 = .ok (.newarray .int, 2) := by decide +kernel
theorem dX6_init_18 : decode cX6_init 18 = .ok (.putfield 15, 3) := by decide +kernel
theorem dX6_init_21 : decode cX6_init 21 = .ok (.aload_n 0, 1) := by decide +kernel
theorem dX6_init_22 : decode cX6_init 22 = .ok (.bipush 65, 2) := by decide +kernel
theorem dX6_init_24 : decode cX6_init 24 = .ok (.newarray .int, 2) := by decide +kernel
theorem dX6_init_26 : decode cX6_init 26 = .ok (.putfield 18, 3) := by decide +kernel
theorem dX6_init_29 : decode cX6_init 29 = .ok (.return_, 1) := by decide +kernel
theorem dX6_find_0 : decode cX6_find 0 = .ok (.iconst 0, 1) := by decide +kernel
theorem dX6_find_1 : decode cX6_find 1 = .ok (.istore_n 3, 1) := by decide +kernel
theorem dX6_find_2 : decode cX6_find 2 = .ok (.iconst 0, 1) := by decide +kernel
theorem dX6_find_3 : decode cX6_find 3 = .ok (.istore 4, 2) := by decide +kernel
theorem dX6_find_5 : decode cX6_find 5 = .ok (.iload 4, 2) := by decide +kernel
theorem dX6_find_7 : decode cX6_find 7 = .ok (.bipush 6, 2) := by decide +kernel
theorem dX6_find_9 : decode cX6_find 9 = .ok (.if_icmp .ge 41, 3) := by decide +kernel
theorem dX6_find_12 : decode cX6_find 12 = .ok (.aload_n 0, 1) := by decide +kernel
theorem dX6_find_13 : decode cX6_find 13 = .ok (.getfield 9, 3) := by decide +kernel
theorem dX6_find_16 : decode cX6_find 16 = .ok (.iload 4, 2) := by decide +kernel
theorem dX6_find_18 : decode cX6_find 18 = .ok (.aload_n 1, 1) := by decide +kernel
theorem dX6_find_19 : decode cX6_find 19 = .ok (.iload 4, 2) := by decide +kernel
theorem dX6_find_21 : decode cX6_find 21 = .ok (.iaload, 1) := by decide +kernel
theorem dX6_find_22 : decode cX6_find 22 = .ok (.iastore, 1) := by decide +kernel
theorem dX6_find_23 : decode cX6_find 23 = .ok (.iload_n 3, 1) := by decide +kernel
theorem dX6_find_24 : decode cX6_find 24 = .ok (.aload_n 1, 1) := by decide +kernel
theorem dX6_find_25 : decode cX6_find 25 = .ok (.iload 4, 2) := by decide +kernel
theorem dX6_find_27 : decode cX6_find 27 = .ok (.iaload, 1) := by decide +kernel
theorem dX6_find_28 : decode cX6_find 28 = .ok (.ifCond .le 13, 3) := by decide +kernel
theorem dX6_find_31 : decode cX6_find 31 = .ok (.ldc 21, 2) := by decide +kernel
theorem dX6_find_33 : decode cX6_find 33 = .ok (.aload_n 1, 1) := by decide +kernel
theorem dX6_find_34 : decode cX6_find 34 = .ok (.iload 4, 2) := by decide +kernel
theorem dX6_find_36 : decode cX6_find 36 = .ok (.iaload, 1) := by decide +kernel
theorem dX6_find_37 : decode cX6_find 37 = .ok (.idiv, 1) := by decide +kernel
theorem dX6_find_38 : decode cX6_find 38 = .ok (.goto 4, 3) := by decide +kernel
theorem dX6_find_41 : decode cX6_find 41 = .ok (.iconst 0, 1) := by decide +kernel
theorem dX6_find_42 : decode cX6_find 42 = .ok (.iadd, 1) := by decide +kernel
theorem dX6_find_43 : decode cX6_find 43 = .ok (.istore_n 3, 1) := by decide +kernel
theorem dX6_find_44 : decode cX6_find 44 = .ok (.iinc 4 1, 3) := by decide +kernel
theorem dX6_find_47 : decode cX6_find 47 = .ok (.goto (-42), 3) := by decide +kernel
theorem dX6_find_50 : decode cX6_find 50 = .ok (.iload_n 3, 1) := by decide +kernel
theorem dX6_find_51 : decode cX6_find 51 = .ok (.ldc 21, 2) := by decide +kernel
theorem dX6_find_53 : decode cX6_find 53 = .ok (.if_icmp .le 5, 3) := by decide +kernel
theorem dX6_find_56 : decode cX6_find 56 = .ok (.iconst 1, 1) := by decide +kernel
theorem dX6_find_57 : decode cX6_find 57 = .ok (.ireturn, 1) := by decide +kernel
theorem dX6_find_58 : decode cX6_find 58 = .ok (.iload_n 3, 1) := by decide +kernel
theorem dX6_find_59 : decode cX6_find 59 = .ok (.ifCond .ne 17, 3) := by decide +kernel
theorem dX6_find_62 : decode cX6_find 62 = .ok (.aload_n 2, 1) := by decide +kernel
theorem dX6_find_63 : decode cX6_find 63 = .ok (.iconst 1, 1) := by decide +kernel
theorem dX6_find_64 : decode cX6_find 64 = .ok (.putfield 22, 3) := by decide +kernel
theorem dX6_find_67 : decode cX6_find 67 = .ok (.aload_n 2, 1) := by decide +kernel
theorem dX6_find_68 : decode cX6_find 68 = .ok (.getfield 28, 3) := by decide +kernel
theorem dX6_find_71 : decode cX6_find 71 = .ok (.iconst 0, 1) := by decide +kernel
theorem dX6_find_72 : decode cX6_find 72 = .ok (.iconst (-1), 1) := by decide +kernel
theorem dX6_find_73 : decode cX6_find 73 = .ok (.iastore, 1) := by decide +kernel
theorem dX6_find_74 : decode cX6_find 74 = .ok (.iconst 0, 1) := by decide +kernel
theorem dX6_find_75 : decode cX6_find 75 = .ok (.ireturn, 1) := by decide +kernel
theorem dX6_find_76 : decode cX6_find 76 = .ok (.aload_n 0, 1) := by decide +kernel
theorem dX6_find_77 : decode cX6_find 77 = .ok (.aload_n 1, 1) := by decide +kernel
theorem dX6_find_78 : decode cX6_find 78 = .ok (.aload_n 2, 1) := by decide +kernel
theorem dX6_find_79 : decode cX6_find 79 = .ok (.invokevirtual 29, 3) := by decide +kernel
theorem dX6_find_82 : decode cX6_find 82 = .ok (.ireturn, 1) := by decide +kernel
theorem dX6_search_0 : decode cX6_search 0 = .ok (.iconst 0, 1) := by decide +kernel
theorem dX6_search_1 : decode cX6_search 1 = .ok (.istore_n 3, 1) := by decide +kernel
theorem dX6_search_2 : decode cX6_search 2 = .ok (.iload_n 3, 1) := by decide +kernel
theorem dX6_search_3 : decode cX6_search 3 = .ok (.bipush 64, 2) := by decide +kernel
theorem dX6_search_5 : decode cX6_search 5 = .ok (.if_icmp .gt 92, 3) := by decide +kernel
theorem dX6_search_8 : decode cX6_search 8 = .ok (.aload_n 0, 1) := by decide +kernel
theorem dX6_search_9 : decode cX6_search 9 = .ok (.aload_n 1, 1) := by decide +kernel
theorem dX6_search_10 : decode cX6_search 10 = .ok (.iload_n 3, 1) := by decide +kernel
theorem dX6_search_11 : decode cX6_search 11 = .ok (.invokevirtual 33, 3) := by decide +kernel
theorem dX6_search_14 : decode cX6_search 14 = .ok (.aload_n 0, 1) := by decide +kernel
theorem dX6_search_15 : decode cX6_search 15 = .ok (.iload_n 3, 1) := by decide +kernel
theorem dX6_search_16 : decode cX6_search 16 = .ok (.invokevirtual 37, 3) := by decide +kernel
theorem dX6_search_19 : decode cX6_search 19 = .ok (.istore 4, 2) := by decide +kernel
theorem dX6_search_21 : decode cX6_search 21 = .ok (.iload 4, 2) := by decide +kernel
theorem dX6_search_23 : decode cX6_search 23 = .ok (.iconst (-1), 1) := by decide +kernel
theorem dX6_search_24 : decode cX6_search 24 = .ok (.if_icmp .eq 16, 3) := by decide +kernel
theorem dX6_search_27 : decode cX6_search 27 = .ok (.aload_n 0, 1) := by decide +kernel
theorem dX6_search_28 : decode cX6_search 28 = .ok (.aload_n 2, 1) := by decide +kernel
theorem dX6_search_29 : decode cX6_search 29 = .ok (.iload_n 3, 1) := by decide +kernel
theorem dX6_search_30 : decode cX6_search 30 = .ok (.iload 4, 2) := by decide +kernel
theorem dX6_search_32 : decode cX6_search 32 = .ok (.isub, 1) := by decide +kernel
theorem dX6_search_33 : decode cX6_search 33 = .ok (.iload 4, 2) := by decide +kernel
theorem dX6_search_35 : decode cX6_search 35 = .ok (.invokevirtual 41, 3) := by decide +kernel
theorem dX6_search_38 : decode cX6_search 38 = .ok (.iconst 0, 1) := by decide +kernel
theorem dX6_search_39 : decode cX6_search 39 = .ok (.ireturn, 1) := by decide +kernel
theorem dX6_search_40 : decode cX6_search 40 = .ok (.aload_n 0, 1) := by decide +kernel
theorem dX6_search_41 : decode cX6_search 41 = .ok (.aload_n 1, 1) := by decide +kernel
theorem dX6_search_42 : decode cX6_search 42 = .ok (.invokevirtual 45, 3) := by decide +kernel
theorem dX6_search_45 : decode cX6_search 45 = .ok (.istore 5, 2) := by decide +kernel
theorem dX6_search_47 : decode cX6_search 47 = .ok (.iload 5, 2) := by decide +kernel
theorem dX6_search_49 : decode cX6_search 49 = .ok (.invokestatic 49, 3) := by decide +kernel
theorem dX6_search_52 : decode cX6_search 52 = .ok (.ifCond .eq 14, 3) := by decide +kernel
theorem dX6_search_55 : decode cX6_search 55 = .ok (.aload_n 0, 1) := by decide +kernel
theorem dX6_search_56 : decode cX6_search 56 = .ok (.getfield 9, 3) := by decide +kernel
theorem dX6_search_59 : decode cX6_search 59 = .ok (.iload 5, 2) := by decide +kernel
theorem dX6_search_61 : decode cX6_search 61 = .ok (.iaload, 1) := by decide +kernel
theorem dX6_search_62 : decode cX6_search 62 = .ok (.iload_n 3, 1) := by decide +kernel
theorem dX6_search_63 : decode cX6_search 63 = .ok (.if_icmp .gt 5, 3) := by decide +kernel
theorem dX6_search_66 : decode cX6_search 66 = .ok (.iconst 2, 1) := by decide +kernel
theorem dX6_search_67 : decode cX6_search 67 = .ok (.ireturn, 1) := by decide +kernel
theorem dX6_search_68 : decode cX6_search 68 = .ok (.aload_n 0, 1) := by decide +kernel
theorem dX6_search_69 : decode cX6_search 69 = .ok (.getfield 18, 3) := by decide +kernel
theorem dX6_search_72 : decode cX6_search 72 = .ok (.iload_n 3, 1) := by decide +kernel
theorem dX6_search_73 : decode cX6_search 73 = .ok (.iload 5, 2) := by decide +kernel
theorem dX6_search_75 : decode cX6_search 75 = .ok (.iastore, 1) := by decide +kernel
theorem dX6_search_76 : decode cX6_search 76 = .ok (.aload_n 0, 1) := by decide +kernel
theorem dX6_search_77 : decode cX6_search 77 = .ok (.getfield 9, 3) := by decide +kernel
theorem dX6_search_80 : decode cX6_search 80 = .ok (.iload 5, 2) := by decide +kernel
theorem dX6_search_82 : decode cX6_search 82 = .ok (.iload_n 3, 1) := by decide +kernel
theorem dX6_search_83 : decode cX6_search 83 = .ok (.iconst 1, 1) := by decide +kernel
theorem dX6_search_84 : decode cX6_search 84 = .ok (.iadd, 1) := by decide +kernel
theorem dX6_search_85 : decode cX6_search 85 = .ok (.aload_n 1, 1) := by decide +kernel
theorem dX6_search_86 : decode cX6_search 86 = .ok (.iload 5, 2) := by decide +kernel
theorem dX6_search_88 : decode cX6_search 88 = .ok (.iaload, 1) := by decide +kernel
theorem dX6_search_89 : decode cX6_search 89 = .ok (.iadd, 1) := by decide +kernel
theorem dX6_search_90 : decode cX6_search 90 = .ok (.iastore, 1) := by decide +kernel
theorem dX6_search_91 : decode cX6_search 91 = .ok (.iinc 3 1, 3) := by decide +kernel
theorem dX6_search_94 : decode cX6_search 94 = .ok (.goto (-92), 3) := by decide +kernel
theorem dX6_search_97 : decode cX6_search 97 = .ok (.iconst 3, 1) := by decide +kernel
theorem dX6_search_98 : decode cX6_search 98 = .ok (.ireturn, 1) := by decide +kernel
theorem dX6_note_0 : decode cX6_note 0 = .ok (.iconst 0, 1) := by decide +kernel
theorem dX6_note_1 : decode cX6_note 1 = .ok (.istore_n 3, 1) := by decide +kernel
theorem dX6_note_2 : decode cX6_note 2 = .ok (.iload_n 3, 1) := by decide +kernel
theorem dX6_note_3 : decode cX6_note 3 = .ok (.bipush 6, 2) := by decide +kernel
theorem dX6_note_5 : decode cX6_note 5 = .ok (.if_icmp .ge 38, 3) := by decide +kernel
theorem dX6_note_8 : decode cX6_note 8 = .ok (.aload_n 0, 1) := by decide +kernel
theorem dX6_note_9 : decode cX6_note 9 = .ok (.getfield 15, 3) := by decide +kernel
theorem dX6_note_12 : decode cX6_note 12 = .ok (.iload_n 2, 1) := by decide +kernel
theorem dX6_note_13 : decode cX6_note 13 = .ok (.bipush 6, 2) := by decide +kernel
theorem dX6_note_15 : decode cX6_note 15 = .ok (.imul, 1) := by decide +kernel
theorem dX6_note_16 : decode cX6_note 16 = .ok (.iload_n 3, 1) := by decide +kernel
theorem dX6_note_17 : decode cX6_note 17 = .ok (.iadd, 1) := by decide +kernel
theorem dX6_note_18 : decode cX6_note 18 = .ok (.aload_n 1, 1) := by decide +kernel
theorem dX6_note_19 : decode cX6_note 19 = .ok (.iload_n 3, 1) := by decide +kernel
theorem dX6_note_20 : decode cX6_note 20 = .ok (.iaload, 1) := by decide +kernel
theorem dX6_note_21 : decode cX6_note 21 = .ok (.ifCond .le 14, 3) := by decide +kernel
theorem dX6_note_24 : decode cX6_note 24 = .ok (.aload_n 0, 1) := by decide +kernel
theorem dX6_note_25 : decode cX6_note 25 = .ok (.getfield 9, 3) := by decide +kernel
theorem dX6_note_28 : decode cX6_note 28 = .ok (.iload_n 3, 1) := by decide +kernel
theorem dX6_note_29 : decode cX6_note 29 = .ok (.iaload, 1) := by decide +kernel
theorem dX6_note_30 : decode cX6_note 30 = .ok (.iload_n 2, 1) := by decide +kernel
theorem dX6_note_31 : decode cX6_note 31 = .ok (.isub, 1) := by decide +kernel
theorem dX6_note_32 : decode cX6_note 32 = .ok (.goto 4, 3) := by decide +kernel
theorem dX6_note_35 : decode cX6_note 35 = .ok (.iconst 0, 1) := by decide +kernel
theorem dX6_note_36 : decode cX6_note 36 = .ok (.iastore, 1) := by decide +kernel
theorem dX6_note_37 : decode cX6_note 37 = .ok (.iinc 3 1, 3) := by decide +kernel
theorem dX6_note_40 : decode cX6_note 40 = .ok (.goto (-38), 3) := by decide +kernel
theorem dX6_note_43 : decode cX6_note 43 = .ok (.return_, 1) := by decide +kernel
theorem dX6_periodAt_0 : decode cX6_periodAt 0 = .ok (.iconst 1, 1) := by decide +kernel
theorem dX6_periodAt_1 : decode cX6_periodAt 1 = .ok (.istore_n 2, 1) := by decide +kernel
theorem dX6_periodAt_2 : decode cX6_periodAt 2 = .ok (.iload_n 2, 1) := by decide +kernel
theorem dX6_periodAt_3 : decode cX6_periodAt 3 = .ok (.bipush 16, 2) := by decide +kernel
theorem dX6_periodAt_5 : decode cX6_periodAt 5 = .ok (.if_icmp .gt 27, 3) := by decide +kernel
theorem dX6_periodAt_8 : decode cX6_periodAt 8 = .ok (.iload_n 2, 1) := by decide +kernel
theorem dX6_periodAt_9 : decode cX6_periodAt 9 = .ok (.iload_n 1, 1) := by decide +kernel
theorem dX6_periodAt_10 : decode cX6_periodAt 10 = .ok (.if_icmp .gt 22, 3) := by decide +kernel
theorem dX6_periodAt_13 : decode cX6_periodAt 13 = .ok (.aload_n 0, 1) := by decide +kernel
theorem dX6_periodAt_14 : decode cX6_periodAt 14 = .ok (.iload_n 1, 1) := by decide +kernel
theorem dX6_periodAt_15 : decode cX6_periodAt 15 = .ok (.iload_n 1, 1) := by decide +kernel
theorem dX6_periodAt_16 : decode cX6_periodAt 16 = .ok (.iload_n 2, 1) := by decide +kernel
theorem dX6_periodAt_17 : decode cX6_periodAt 17 = .ok (.isub, 1) := by decide +kernel
theorem dX6_periodAt_18 : decode cX6_periodAt 18 = .ok (.invokevirtual 53, 3) := by decide +kernel
theorem dX6_periodAt_21 : decode cX6_periodAt 21 = .ok (.ifCond .eq 5, 3) := by decide +kernel
theorem dX6_periodAt_24 : decode cX6_periodAt 24 = .ok (.iload_n 2, 1) := by decide +kernel
theorem dX6_periodAt_25 : decode cX6_periodAt 25 = .ok (.ireturn, 1) := by decide +kernel
theorem dX6_periodAt_26 : decode cX6_periodAt 26 = .ok (.iinc 2 1, 3) := by decide +kernel
theorem dX6_periodAt_29 : decode cX6_periodAt 29 = .ok (.goto (-27), 3) := by decide +kernel
theorem dX6_periodAt_32 : decode cX6_periodAt 32 = .ok (.iconst (-1), 1) := by decide +kernel
theorem dX6_periodAt_33 : decode cX6_periodAt 33 = .ok (.ireturn, 1) := by decide +kernel
theorem dX6_isSame_0 : decode cX6_isSame 0 = .ok (.iconst 0, 1) := by decide +kernel
theorem dX6_isSame_1 : decode cX6_isSame 1 = .ok (.istore_n 3, 1) := by decide +kernel
theorem dX6_isSame_2 : decode cX6_isSame 2 = .ok (.iload_n 3, 1) := by decide +kernel
theorem dX6_isSame_3 : decode cX6_isSame 3 = .ok (.bipush 6, 2) := by decide +kernel
theorem dX6_isSame_5 : decode cX6_isSame 5 = .ok (.if_icmp .ge 36, 3) := by decide +kernel
theorem dX6_isSame_8 : decode cX6_isSame 8 = .ok (.aload_n 0, 1) := by decide +kernel
theorem dX6_isSame_9 : decode cX6_isSame 9 = .ok (.getfield 15, 3) := by decide +kernel
theorem dX6_isSame_12 : decode cX6_isSame 12 = .ok (.iload_n 1, 1) := by decide +kernel
theorem dX6_isSame_13 : decode cX6_isSame 13 = .ok (.bipush 6, 2) := by decide +kernel
theorem dX6_isSame_15 : decode cX6_isSame 15 = .ok (.imul, 1) := by decide +kernel
theorem dX6_isSame_16 : decode cX6_isSame 16 = .ok (.iload_n 3, 1) := by decide +kernel
theorem dX6_isSame_17 : decode cX6_isSame 17 = .ok (.iadd, 1) := by decide +kernel
theorem dX6_isSame_18 : decode cX6_isSame 18 = .ok (.iaload, 1) := by decide +kernel
theorem dX6_isSame_19 : decode cX6_isSame 19 = .ok (.aload_n 0, 1) := by decide +kernel
theorem dX6_isSame_20 : decode cX6_isSame 20 = .ok (.getfield 15, 3) := by decide +kernel
theorem dX6_isSame_23 : decode cX6_isSame 23 = .ok (.iload_n 2, 1) := by decide +kernel
theorem dX6_isSame_24 : decode cX6_isSame 24 = .ok (.bipush 6, 2) := by decide +kernel
theorem dX6_isSame_26 : decode cX6_isSame 26 = .ok (.imul, 1) := by decide +kernel
theorem dX6_isSame_27 : decode cX6_isSame 27 = .ok (.iload_n 3, 1) := by decide +kernel
theorem dX6_isSame_28 : decode cX6_isSame 28 = .ok (.iadd, 1) := by decide +kernel
theorem dX6_isSame_29 : decode cX6_isSame 29 = .ok (.iaload, 1) := by decide +kernel
theorem dX6_isSame_30 : decode cX6_isSame 30 = .ok (.if_icmp .eq 5, 3) := by decide +kernel
theorem dX6_isSame_33 : decode cX6_isSame 33 = .ok (.iconst 0, 1) := by decide +kernel
theorem dX6_isSame_34 : decode cX6_isSame 34 = .ok (.ireturn, 1) := by decide +kernel
theorem dX6_isSame_35 : decode cX6_isSame 35 = .ok (.iinc 3 1, 3) := by decide +kernel
theorem dX6_isSame_38 : decode cX6_isSame 38 = .ok (.goto (-36), 3) := by decide +kernel
theorem dX6_isSame_41 : decode cX6_isSame 41 = .ok (.iconst 1, 1) := by decide +kernel
theorem dX6_isSame_42 : decode cX6_isSame 42 = .ok (.ireturn, 1) := by decide +kernel
theorem dX6_leastLimit_0 : decode cX6_leastLimit 0 = .ok (.iconst (-1), 1) := by decide +kernel
theorem dX6_leastLimit_1 : decode cX6_leastLimit 1 = .ok (.istore_n 2, 1) := by decide +kernel
theorem dX6_leastLimit_2 : decode cX6_leastLimit 2 = .ok (.iconst 0, 1) := by decide +kernel
theorem dX6_leastLimit_3 : decode cX6_leastLimit 3 = .ok (.istore_n 3, 1) := by decide +kernel
theorem dX6_leastLimit_4 : decode cX6_leastLimit 4 = .ok (.iload_n 3, 1) := by decide +kernel
theorem dX6_leastLimit_5 : decode cX6_leastLimit 5 = .ok (.bipush 6, 2) := by decide +kernel
theorem dX6_leastLimit_7 : decode cX6_leastLimit 7 = .ok (.if_icmp .ge 37, 3) := by decide +kernel
theorem dX6_leastLimit_10 : decode cX6_leastLimit 10 = .ok (.aload_n 1, 1) := by decide +kernel
theorem dX6_leastLimit_11 : decode cX6_leastLimit 11 = .ok (.iload_n 3, 1) := by decide +kernel
theorem dX6_leastLimit_12 : decode cX6_leastLimit 12 = .ok (.iaload, 1) := by decide +kernel
theorem dX6_leastLimit_13 : decode cX6_leastLimit 13 = .ok (.ifCond .le 25, 3) := by decide +kernel
theorem dX6_leastLimit_16 : decode cX6_leastLimit 16 = .ok (.iload_n 2, 1) := by decide +kernel
theorem dX6_leastLimit_17 : decode cX6_leastLimit 17 = .ok (.iconst (-1), 1) := by decide +kernel
theorem dX6_leastLimit_18 : decode cX6_leastLimit 18 = .ok (.if_icmp .eq 18, 3) := by decide +kernel
theorem dX6_leastLimit_21 : decode cX6_leastLimit 21 = .ok (.aload_n 0, 1) := by decide +kernel
theorem dX6_leastLimit_22 : decode cX6_leastLimit 22 = .ok (.getfield 9, 3) := by decide +kernel
theorem dX6_leastLimit_25 : decode cX6_leastLimit 25 = .ok (.iload_n 3, 1) := by decide +kernel
theorem dX6_leastLimit_26 : decode cX6_leastLimit 26 = .ok (.iaload, 1) := by decide +kernel
theorem dX6_leastLimit_27 : decode cX6_leastLimit 27 = .ok (.aload_n 0, 1) := by decide +kernel
theorem dX6_leastLimit_28 : decode cX6_leastLimit 28 = .ok (.getfield 9, 3) := by decide +kernel
theorem dX6_leastLimit_31 : decode cX6_leastLimit 31 = .ok (.iload_n 2, 1) := by decide +kernel
theorem dX6_leastLimit_32 : decode cX6_leastLimit 32 = .ok (.iaload, 1) := by decide +kernel
theorem dX6_leastLimit_33 : decode cX6_leastLimit 33 = .ok (.if_icmp .ge 5, 3) := by decide +kernel
theorem dX6_leastLimit_36 : decode cX6_leastLimit 36 = .ok (.iload_n 3, 1) := by decide +kernel
theorem dX6_leastLimit_37 : decode cX6_leastLimit 37 = .ok (.istore_n 2, 1) := by decide +kernel
theorem dX6_leastLimit_38 : decode cX6_leastLimit 38 = .ok (.iinc 3 1, 3) := by decide +kernel
theorem dX6_leastLimit_41 : decode cX6_leastLimit 41 = .ok (.goto (-37), 3) := by decide +kernel
theorem dX6_leastLimit_44 : decode cX6_leastLimit 44 = .ok (.iload_n 2, 1) := by decide +kernel
theorem dX6_leastLimit_45 : decode cX6_leastLimit 45 = .ok (.ireturn, 1) := by decide +kernel
theorem dX6_fill_0 : decode cX6_fill 0 = .ok (.iconst 0, 1) := by decide +kernel
theorem dX6_fill_1 : decode cX6_fill 1 = .ok (.istore 4, 2) := by decide +kernel
theorem dX6_fill_3 : decode cX6_fill 3 = .ok (.iload 4, 2) := by decide +kernel
theorem dX6_fill_5 : decode cX6_fill 5 = .ok (.iload_n 3, 1) := by decide +kernel
theorem dX6_fill_6 : decode cX6_fill 6 = .ok (.if_icmp .ge 32, 3) := by decide +kernel
theorem dX6_fill_9 : decode cX6_fill 9 = .ok (.iload 4, 2) := by decide +kernel
theorem dX6_fill_11 : decode cX6_fill 11 = .ok (.bipush 16, 2) := by decide +kernel
theorem dX6_fill_13 : decode cX6_fill 13 = .ok (.if_icmp .ge 25, 3) := by decide +kernel
theorem dX6_fill_16 : decode cX6_fill 16 = .ok (.aload_n 1, 1) := by decide +kernel
theorem dX6_fill_17 : decode cX6_fill 17 = .ok (.getfield 28, 3) := by decide +kernel
theorem dX6_fill_20 : decode cX6_fill 20 = .ok (.iload 4, 2) := by decide +kernel
theorem dX6_fill_22 : decode cX6_fill 22 = .ok (.aload_n 0, 1) := by decide +kernel
theorem dX6_fill_23 : decode cX6_fill 23 = .ok (.getfield 18, 3) := by decide +kernel
theorem dX6_fill_26 : decode cX6_fill 26 = .ok (.iload_n 2, 1) := by decide +kernel
theorem dX6_fill_27 : decode cX6_fill 27 = .ok (.iload 4, 2) := by decide +kernel
theorem dX6_fill_29 : decode cX6_fill 29 = .ok (.iadd, 1) := by decide +kernel
theorem dX6_fill_30 : decode cX6_fill 30 = .ok (.iaload, 1) := by decide +kernel
theorem dX6_fill_31 : decode cX6_fill 31 = .ok (.iastore, 1) := by decide +kernel
theorem dX6_fill_32 : decode cX6_fill 32 = .ok (.iinc 4 1, 3) := by decide +kernel
theorem dX6_fill_35 : decode cX6_fill 35 = .ok (.goto (-32), 3) := by decide +kernel
theorem dX6_fill_38 : decode cX6_fill 38 = .ok (.aload_n 1, 1) := by decide +kernel
theorem dX6_fill_39 : decode cX6_fill 39 = .ok (.iload_n 3, 1) := by decide +kernel
theorem dX6_fill_40 : decode cX6_fill 40 = .ok (.putfield 22, 3) := by decide +kernel
theorem dX6_fill_43 : decode cX6_fill 43 = .ok (.return_, 1) := by decide +kernel
theorem dX7_init_0 : decode cX7_init 0 = .ok (.aload_n 0, 1) := by decide +kernel
theorem dX7_init_1 : decode cX7_init 1 = .ok (.invokespecial 3, 3) := by decide +kernel
theorem dX7_init_4 : decode cX7_init 4 = .ok (.aload_n 0, 1) := by decide +kernel
theorem dX7_init_5 : decode cX7_init 5 = .ok (.bipush 6, 2) := by decide +kernel
theorem dX7_init_7 : decode cX7_init 7 = .ok (.anewarray 9, 3) := by decide +kernel
theorem dX7_init_10 : decode cX7_init 10 = .ok (.putfield 11, 3) := by decide +kernel
theorem dX7_init_13 : decode cX7_init 13 = .ok (.aload_n 0, 1) := by decide +kernel
theorem dX7_init_14 : decode cX7_init 14 = .ok (.new 17, 3) := by decide +kernel
theorem dX7_init_17 : decode cX7_init 17 = .ok (.dup, 1) := by decide +kernel
theorem dX7_init_18 : decode cX7_init 18 = .ok (.invokespecial 19, 3) := by decide +kernel
theorem dX7_init_21 : decode cX7_init 21 = .ok (.putfield 20, 3) := by decide +kernel
theorem dX7_init_24 : decode cX7_init 24 = .ok (.aload_n 0, 1) := by decide +kernel
theorem dX7_init_25 : decode cX7_init 25 = .ok (.new 24, 3) := by decide +kernel
theorem dX7_init_28 : decode cX7_init 28 = .ok (.dup, 1) := by decide +kernel
theorem dX7_init_29 : decode cX7_init 29 = .ok (.invokespecial 26, 3) := by decide +kernel
theorem dX7_init_32 : decode cX7_init 32 = .ok (.putfield 27, 3) := by decide +kernel
theorem dX7_init_35 : decode cX7_init 35 = .ok (.aload_n 0, 1) := by decide +kernel
theorem dX7_init_36 : decode cX7_init 36 = .ok (.iconst (-1), 1) := by decide +kernel
theorem dX7_init_37 : decode cX7_init 37 = .ok (.putfield 31, 3) := by decide +kernel
theorem dX7_init_40 : decode cX7_init 40 = .ok (.aload_n 0, 1) := by decide +kernel
theorem dX7_init_41 : decode cX7_init 41 = .ok (.aload_n 1, 1) := by decide +kernel
theorem dX7_init_42 : decode cX7_init 42 = .ok (.putfield 35, 3) := by decide +kernel
theorem dX7_init_45 : decode cX7_init 45 = .ok (.aload_n 0, 1) := by decide +kernel
theorem dX7_init_46 : decode cX7_init 46 = .ok (.aload_n 2, 1) := by decide +kernel
theorem dX7_init_47 : decode cX7_init 47 = .ok (.putfield 39, 3) := by decide +kernel
theorem dX7_init_50 : decode cX7_init 50 = .ok (.iconst 0, 1) := by decide +kernel
theorem dX7_init_51 : decode cX7_init 51 = .ok (.istore_n 3, 1) := by decide +kernel
theorem dX7_init_52 : decode cX7_init 52 = .ok (.iload_n 3, 1) := by decide +kernel
theorem dX7_init_53 : decode cX7_init 53 = .ok (.bipush 6, 2) := by decide +kernel
theorem dX7_init_55 : decode cX7_init 55 = .ok (.if_icmp .ge 23, 3) := by decide +kernel
theorem dX7_init_58 : decode cX7_init 58 = .ok (.aload_n 0, 1) := by decide +kernel
theorem dX7_init_59 : decode cX7_init 59 = .ok (.getfield 11, 3) := by decide +kernel
theorem dX7_init_62 : decode cX7_init 62 = .ok (.iload_n 3, 1) := by decide +kernel
theorem dX7_init_63 : decode cX7_init 63 = .ok (.new 9, 3) := by decide +kernel
theorem dX7_init_66 : decode cX7_init 66 = .ok (.dup, 1) := by decide +kernel
theorem dX7_init_67 : decode cX7_init 67 = .ok (.iload_n 3, 1) := by decide +kernel
theorem dX7_init_68 : decode cX7_init 68 = .ok (.invokespecial 43, 3) := by decide +kernel
theorem dX7_init_71 : decode cX7_init 71 = .ok (.aastore, 1) := by decide +kernel
theorem dX7_init_72 : decode cX7_init 72 = .ok (.iinc 3 1, 3) := by decide +kernel
theorem dX7_init_75 : decode cX7_init 75 = .ok (.goto (-23), 3) := by decide +kernel
theorem dX7_init_78 : decode cX7_init 78 = .ok (.return_, 1) := by decide +kernel
theorem dX7_copy_0 : decode cX7_copy 0 = .ok (.iconst 0, 1) := by decide +kernel
theorem dX7_copy_1 : decode cX7_copy 1 = .ok (.istore_n 2, 1) := by decide +kernel
theorem dX7_copy_2 : decode cX7_copy 2 = .ok (.iload_n 2, 1) := by decide +kernel
theorem dX7_copy_3 : decode cX7_copy 3 = .ok (.bipush 6, 2) := by decide +kernel
theorem dX7_copy_5 : decode cX7_copy 5 = .ok (.if_icmp .ge 24, 3) := by decide +kernel
theorem dX7_copy_8 : decode cX7_copy 8 = .ok (.aload_n 0, 1) := by decide +kernel
theorem dX7_copy_9 : decode cX7_copy 9 = .ok (.getfield 11, 3) := by decide +kernel
theorem dX7_copy_12 : decode cX7_copy 12 = .ok (.iload_n 2, 1) := by decide +kernel
theorem dX7_copy_13 : decode cX7_copy 13 = .ok (.aaload, 1) := by decide +kernel
theorem dX7_copy_14 : decode cX7_copy 14 = .ok (.aload_n 1, 1) := by decide +kernel
theorem dX7_copy_15 : decode cX7_copy 15 = .ok (.getfield 11, 3) := by decide +kernel
theorem dX7_copy_18 : decode cX7_copy 18 = .ok (.iload_n 2, 1) := by decide +kernel
theorem dX7_copy_19 : decode cX7_copy 19 = .ok (.aaload, 1) := by decide +kernel
theorem dX7_copy_20 : decode cX7_copy 20 = .ok (.invokevirtual 46, 3) := by decide +kernel
theorem dX7_copy_23 : decode cX7_copy 23 = .ok (.iinc 2 1, 3) := by decide +kernel
theorem dX7_copy_26 : decode cX7_copy 26 = .ok (.goto (-24), 3) := by decide +kernel
theorem dX7_copy_29 : decode cX7_copy 29 = .ok (.aload_n 0, 1) := by decide +kernel
theorem dX7_copy_30 : decode cX7_copy 30 = .ok (.getfield 20, 3) := by decide +kernel
theorem dX7_copy_33 : decode cX7_copy 33 = .ok (.aload_n 1, 1) := by decide +kernel
theorem dX7_copy_34 : decode cX7_copy 34 = .ok (.getfield 20, 3) := by decide +kernel
theorem dX7_copy_37 : decode cX7_copy 37 = .ok (.invokevirtual 50, 3) := by decide +kernel
theorem dX7_copy_40 : decode cX7_copy 40 = .ok (.aload_n 0, 1) := by decide +kernel
theorem dX7_copy_41 : decode cX7_copy 41 = .ok (.getfield 27, 3) := by decide +kernel
theorem dX7_copy_44 : decode cX7_copy 44 = .ok (.aload_n 1, 1) := by decide +kernel
theorem dX7_copy_45 : decode cX7_copy 45 = .ok (.getfield 27, 3) := by decide +kernel
theorem dX7_copy_48 : decode cX7_copy 48 = .ok (.invokevirtual 53, 3) := by decide +kernel
theorem dX7_copy_51 : decode cX7_copy 51 = .ok (.aload_n 0, 1) := by decide +kernel
theorem dX7_copy_52 : decode cX7_copy 52 = .ok (.aload_n 1, 1) := by decide +kernel
theorem dX7_copy_53 : decode cX7_copy 53 = .ok (.getfield 56, 3) := by decide +kernel
theorem dX7_copy_56 : decode cX7_copy 56 = .ok (.putfield 56, 3) := by decide +kernel
theorem dX7_copy_59 : decode cX7_copy 59 = .ok (.aload_n 0, 1) := by decide +kernel
theorem dX7_copy_60 : decode cX7_copy 60 = .ok (.aload_n 1, 1) := by decide +kernel
theorem dX7_copy_61 : decode cX7_copy 61 = .ok (.getfield 59, 3) := by decide +kernel
theorem dX7_copy_64 : decode cX7_copy 64 = .ok (.putfield 59, 3) := by decide +kernel
theorem dX7_copy_67 : decode cX7_copy 67 = .ok (.aload_n 0, 1) := by decide +kernel
theorem dX7_copy_68 : decode cX7_copy 68 = .ok (.aload_n 1, 1) := by decide +kernel
theorem dX7_copy_69 : decode cX7_copy 69 = .ok (.getfield 62, 3) := by decide +kernel
theorem dX7_copy_72 : decode cX7_copy 72 = .ok (.putfield 62, 3) := by decide +kernel
theorem dX7_copy_75 : decode cX7_copy 75 = .ok (.aload_n 0, 1) := by decide +kernel
theorem dX7_copy_76 : decode cX7_copy 76 = .ok (.aload_n 1, 1) := by decide +kernel
theorem dX7_copy_77 : decode cX7_copy 77 = .ok (.getfield 65, 3) := by decide +kernel
theorem dX7_copy_80 : decode cX7_copy 80 = .ok (.putfield 65, 3) := by decide +kernel
theorem dX7_copy_83 : decode cX7_copy 83 = .ok (.aload_n 0, 1) := by decide +kernel
theorem dX7_copy_84 : decode cX7_copy 84 = .ok (.aload_n 1, 1) := by decide +kernel
theorem dX7_copy_85 : decode cX7_copy 85 = .ok (.getfield 68, 3) := by decide +kernel
theorem dX7_copy_88 : decode cX7_copy 88 = .ok (.putfield 68, 3) := by decide +kernel
theorem dX7_copy_91 : decode cX7_copy 91 = .ok (.aload_n 0, 1) := by decide +kernel
theorem dX7_copy_92 : decode cX7_copy 92 = .ok (.aload_n 1, 1) := by decide +kernel
theorem dX7_copy_93 : decode cX7_copy 93 = .ok (.getfield 31, 3) := by decide +kernel
theorem dX7_copy_96 : decode cX7_copy 96 = .ok (.putfield 31, 3) := by decide +kernel
theorem dX7_copy_99 : decode cX7_copy 99 = .ok (.aload_n 0, 1) := by decide +kernel
theorem dX7_copy_100 : decode cX7_copy 100 = .ok (.aload_n 1, 1) := by decide +kernel
theorem dX7_copy_101 : decode cX7_copy 101 = .ok (.getfield 71, 3) := by decide +kernel
theorem dX7_copy_104 : decode cX7_copy 104 = .ok (.putfield 71, 3) := by decide +kernel
theorem dX7_copy_107 : decode cX7_copy 107 = .ok (.return_, 1) := by decide +kernel
theorem dX7_reset_0 : decode cX7_reset 0 = .ok (.iconst 0, 1) := by decide +kernel
theorem dX7_reset_1 : decode cX7_reset 1 = .ok (.istore_n 1, 1) := by decide +kernel
theorem dX7_reset_2 : decode cX7_reset 2 = .ok (.iload_n 1, 1) := by decide +kernel
theorem dX7_reset_3 : decode cX7_reset 3 = .ok (.bipush 6, 2) := by decide +kernel
theorem dX7_reset_5 : decode cX7_reset 5 = .ok (.if_icmp .ge 18, 3) := by decide +kernel
theorem dX7_reset_8 : decode cX7_reset 8 = .ok (.aload_n 0, 1) := by decide +kernel
theorem dX7_reset_9 : decode cX7_reset 9 = .ok (.getfield 11, 3) := by decide +kernel
theorem dX7_reset_12 : decode cX7_reset 12 = .ok (.iload_n 1, 1) := by decide +kernel
theorem dX7_reset_13 : decode cX7_reset 13 = .ok (.aaload, 1) := by decide +kernel
theorem dX7_reset_14 : decode cX7_reset 14 = .ok (.invokevirtual 74, 3) := by decide +kernel
theorem dX7_reset_17 : decode cX7_reset 17 = .ok (.iinc 1 1, 3) := by decide +kernel
theorem dX7_reset_20 : decode cX7_reset 20 = .ok (.goto (-18), 3) := by decide +kernel
theorem dX7_reset_23 : decode cX7_reset 23 = .ok (.aload_n 0, 1) := by decide +kernel
theorem dX7_reset_24 : decode cX7_reset 24 = .ok (.getfield 20, 3) := by decide +kernel
theorem dX7_reset_27 : decode cX7_reset 27 = .ok (.invokevirtual 77, 3) := by decide +kernel
theorem dX7_reset_30 : decode cX7_reset 30 = .ok (.aload_n 0, 1) := by decide +kernel
theorem dX7_reset_31 : decode cX7_reset 31 = .ok (.getfield 27, 3) := by decide +kernel
theorem dX7_reset_34 : decode cX7_reset 34 = .ok (.invokevirtual 78, 3) := by decide +kernel
theorem dX7_reset_37 : decode cX7_reset 37 = .ok (.aload_n 0, 1) := by decide +kernel
theorem dX7_reset_38 : decode cX7_reset 38 = .ok (.iconst 0, 1) := by decide +kernel
theorem dX7_reset_39 : decode cX7_reset 39 = .ok (.putfield 56, 3) := by decide +kernel
theorem dX7_reset_42 : decode cX7_reset 42 = .ok (.aload_n 0, 1) := by decide +kernel
theorem dX7_reset_43 : decode cX7_reset 43 = .ok (.iconst 0, 1) := by decide +kernel
theorem dX7_reset_44 : decode cX7_reset 44 = .ok (.putfield 59, 3) := by decide +kernel
theorem dX7_reset_47 : decode cX7_reset 47 = .ok (.aload_n 0, 1) := by decide +kernel
theorem dX7_reset_48 : decode cX7_reset 48 = .ok (.iconst 0, 1) := by decide +kernel
theorem dX7_reset_49 : decode cX7_reset 49 = .ok (.putfield 62, 3) := by decide +kernel
theorem dX7_reset_52 : decode cX7_reset 52 = .ok (.aload_n 0, 1) := by decide +kernel
theorem dX7_reset_53 : decode cX7_reset 53 = .ok (.iconst 0, 1) := by decide +kernel
theorem dX7_reset_54 : decode cX7_reset 54 = .ok (.putfield 65, 3) := by decide +kernel
theorem dX7_reset_57 : decode cX7_reset 57 = .ok (.aload_n 0, 1) := by decide +kernel
theorem dX7_reset_58 : decode cX7_reset 58 = .ok (.iconst 0, 1) := by decide +kernel
theorem dX7_reset_59 : decode cX7_reset 59 = .ok (.putfield 68, 3) := by decide +kernel
theorem dX7_reset_62 : decode cX7_reset 62 = .ok (.aload_n 0, 1) := by decide +kernel
theorem dX7_reset_63 : decode cX7_reset 63 = .ok (.iconst (-1), 1) := by decide +kernel
theorem dX7_reset_64 : decode cX7_reset 64 = .ok (.putfield 31, 3) := by decide +kernel
theorem dX7_reset_67 : decode cX7_reset 67 = .ok (.aload_n 0, 1) := by decide +kernel
theorem dX7_reset_68 : decode cX7_reset 68 = .ok (.iconst 0, 1) := by decide +kernel
theorem dX7_reset_69 : decode cX7_reset 69 = .ok (.putfield 71, 3) := by decide +kernel
theorem dX7_reset_72 : decode cX7_reset 72 = .ok (.return_, 1) := by decide +kernel
theorem dX7_empty_0 : decode cX7_empty 0 = .ok (.iload_n 1, 1) := by decide +kernel
theorem dX7_empty_1 : decode cX7_empty 1 = .ok (.invokestatic 79, 3) := by decide +kernel
theorem dX7_empty_4 : decode cX7_empty 4 = .ok (.ifCond .ne 5, 3) := by decide +kernel
theorem dX7_empty_7 : decode cX7_empty 7 = .ok (.iconst (-1), 1) := by decide +kernel
theorem dX7_empty_8 : decode cX7_empty 8 = .ok (.ireturn, 1) := by decide +kernel
theorem dX7_empty_9 : decode cX7_empty 9 = .ok (.aload_n 0, 1) := by decide +kernel
theorem dX7_empty_10 : decode cX7_empty 10 = .ok (.getfield 11, 3) := by decide +kernel
theorem dX7_empty_13 : decode cX7_empty 13 = .ok (.iload_n 1, 1) := by decide +kernel
theorem dX7_empty_14 : decode cX7_empty 14 = .ok (.aaload, 1) := by decide +kernel
theorem dX7_empty_15 : decode cX7_empty 15 = .ok (.getfield 83, 3) := by decide +kernel
theorem dX7_empty_18 : decode cX7_empty 18 = .ok (.getfield 87, 3) := by decide +kernel
theorem dX7_empty_21 : decode cX7_empty 21 = .ok (.istore_n 2, 1) := by decide +kernel
theorem dX7_empty_22 : decode cX7_empty 22 = .ok (.aload_n 0, 1) := by decide +kernel
theorem dX7_empty_23 : decode cX7_empty 23 = .ok (.getfield 27, 3) := by decide +kernel
theorem dX7_empty_26 : decode cX7_empty 26 = .ok (.iload_n 1, 1) := by decide +kernel
theorem dX7_empty_27 : decode cX7_empty 27 = .ok (.invokevirtual 92, 3) := by decide +kernel
theorem dX7_empty_30 : decode cX7_empty 30 = .ok (.aload_n 0, 1) := by decide +kernel
theorem dX7_empty_31 : decode cX7_empty 31 = .ok (.getfield 11, 3) := by decide +kernel
theorem dX7_empty_34 : decode cX7_empty 34 = .ok (.iload_n 1, 1) := by decide +kernel
theorem dX7_empty_35 : decode cX7_empty 35 = .ok (.aaload, 1) := by decide +kernel
theorem dX7_empty_36 : decode cX7_empty 36 = .ok (.invokevirtual 95, 3) := by decide +kernel
theorem dX7_empty_39 : decode cX7_empty 39 = .ok (.iload_n 2, 1) := by decide +kernel
theorem dX7_empty_40 : decode cX7_empty 40 = .ok (.ireturn, 1) := by decide +kernel
theorem dX7_tick_0 : decode cX7_tick 0 = .ok (.aload_n 0, 1) := by decide +kernel
theorem dX7_tick_1 : decode cX7_tick 1 = .ok (.getfield 39, 3) := by decide +kernel
theorem dX7_tick_4 : decode cX7_tick 4 = .ok (.aload_n 0, 1) := by decide +kernel
theorem dX7_tick_5 : decode cX7_tick 5 = .ok (.getfield 20, 3) := by decide +kernel
theorem dX7_tick_8 : decode cX7_tick 8 = .ok (.aload_n 0, 1) := by decide +kernel
theorem dX7_tick_9 : decode cX7_tick 9 = .ok (.getfield 56, 3) := by decide +kernel
theorem dX7_tick_12 : decode cX7_tick 12 = .ok (.invokevirtual 98, 3) := by decide +kernel
theorem dX7_tick_15 : decode cX7_tick 15 = .ok (.iconst 0, 1) := by decide +kernel
theorem dX7_tick_16 : decode cX7_tick 16 = .ok (.istore_n 1, 1) := by decide +kernel
theorem dX7_tick_17 : decode cX7_tick 17 = .ok (.iload_n 1, 1) := by decide +kernel
theorem dX7_tick_18 : decode cX7_tick 18 = .ok (.bipush 6, 2) := by decide +kernel
theorem dX7_tick_20 : decode cX7_tick 20 = .ok (.if_icmp .ge 43, 3) := by decide +kernel
theorem dX7_tick_23 : decode cX7_tick 23 = .ok (.aload_n 0, 1) := by decide +kernel
theorem dX7_tick_24 : decode cX7_tick 24 = .ok (.getfield 11, 3) := by decide +kernel
theorem dX7_tick_27 : decode cX7_tick 27 = .ok (.iload_n 1, 1) := by decide +kernel
theorem dX7_tick_28 : decode cX7_tick 28 = .ok (.aaload, 1) := by decide +kernel
theorem dX7_tick_29 : decode cX7_tick 29 = .ok (.astore_n 2, 1) := by decide +kernel
theorem dX7_tick_30 : decode cX7_tick 30 = .ok (.aload_n 2, 1) := by decide +kernel
theorem dX7_tick_31 : decode cX7_tick 31 = .ok (.getfield 104, 3) := by decide +kernel
theorem dX7_tick_34 : decode cX7_tick 34 = .ok (.iconst 1, 1) := by decide +kernel
theorem dX7_tick_35 : decode cX7_tick 35 = .ok (.if_icmp .ne 22, 3) := by decide +kernel
theorem dX7_tick_38 : decode cX7_tick 38 = .ok (.aload_n 2, 1) := by decide +kernel
theorem dX7_tick_39 : decode cX7_tick 39 = .ok (.getfield 107, 3) := by decide +kernel
theorem dX7_tick_42 : decode cX7_tick 42 = .ok (.getfield 111, 3) := by decide +kernel
theorem dX7_tick_45 : decode cX7_tick 45 = .ok (.aload_n 0, 1) := by decide +kernel
theorem dX7_tick_46 : decode cX7_tick 46 = .ok (.getfield 56, 3) := by decide +kernel
theorem dX7_tick_49 : decode cX7_tick 49 = .ok (.if_icmp .ne 8, 3) := by decide +kernel
theorem dX7_tick_52 : decode cX7_tick 52 = .ok (.aload_n 0, 1) := by decide +kernel
theorem dX7_tick_53 : decode cX7_tick 53 = .ok (.aload_n 2, 1) := by decide +kernel
theorem dX7_tick_54 : decode cX7_tick 54 = .ok (.invokevirtual 116, 3) := by decide +kernel
theorem dX7_tick_57 : decode cX7_tick 57 = .ok (.iinc 1 1, 3) := by decide +kernel
theorem dX7_tick_60 : decode cX7_tick 60 = .ok (.goto (-43), 3) := by decide +kernel
theorem dX7_tick_63 : decode cX7_tick 63 = .ok (.aload_n 0, 1) := by decide +kernel
theorem dX7_tick_64 : decode cX7_tick 64 = .ok (.invokevirtual 119, 3) := by decide +kernel
theorem dX7_tick_67 : decode cX7_tick 67 = .ok (.istore_n 1, 1) := by decide +kernel
theorem dX7_tick_68 : decode cX7_tick 68 = .ok (.iload_n 1, 1) := by decide +kernel
theorem dX7_tick_69 : decode cX7_tick 69 = .ok (.invokestatic 79, 3) := by decide +kernel
theorem dX7_tick_72 : decode cX7_tick 72 = .ok (.ifCond .eq 13, 3) := by decide +kernel
theorem dX7_tick_75 : decode cX7_tick 75 = .ok (.aload_n 0, 1) := by decide +kernel
theorem dX7_tick_76 : decode cX7_tick 76 = .ok (.aload_n 0, 1) := by decide +kernel
theorem dX7_tick_77 : decode cX7_tick 77 = .ok (.getfield 11, 3) := by decide +kernel
theorem dX7_tick_80 : decode cX7_tick 80 = .ok (.iload_n 1, 1) := by decide +kernel
theorem dX7_tick_81 : decode cX7_tick 81 = .ok (.aaload, 1) := by decide +kernel
theorem dX7_tick_82 : decode cX7_tick 82 = .ok (.invokevirtual 123, 3) := by decide +kernel
theorem dX7_tick_85 : decode cX7_tick 85 = .ok (.aload_n 0, 1) := by decide +kernel
theorem dX7_tick_86 : decode cX7_tick 86 = .ok (.dup, 1) := by decide +kernel
theorem dX7_tick_87 : decode cX7_tick 87 = .ok (.getfield 56, 3) := by decide +kernel
theorem dX7_tick_90 : decode cX7_tick 90 = .ok (.iconst 1, 1) := by decide +kernel
theorem dX7_tick_91 : decode cX7_tick 91 = .ok (.iadd, 1) := by decide +kernel
theorem dX7_tick_92 : decode cX7_tick 92 = .ok (.putfield 56, 3) := by decide +kernel
theorem dX7_tick_95 : decode cX7_tick 95 = .ok (.iload_n 1, 1) := by decide +kernel
theorem dX7_tick_96 : decode cX7_tick 96 = .ok (.ireturn, 1) := by decide +kernel
theorem dX7_wake_0 : decode cX7_wake 0 = .ok (.aload_n 1, 1) := by decide +kernel
theorem dX7_wake_1 : decode cX7_wake 1 = .ok (.getfield 107, 3) := by decide +kernel
theorem dX7_wake_4 : decode cX7_wake 4 = .ok (.astore_n 2, 1) := by decide +kernel
theorem dX7_wake_5 : decode cX7_wake 5 = .ok (.aload_n 2, 1) := by decide +kernel
theorem dX7_wake_6 : decode cX7_wake 6 = .ok (.getfield 126, 3) := by decide +kernel
theorem dX7_wake_9 : decode cX7_wake 9 = .ok (.bipush 11, 2) := by decide +kernel
theorem dX7_wake_11 : decode cX7_wake 11 = .ok (.if_icmp .ne 26, 3) := by decide +kernel
theorem dX7_wake_14 : decode cX7_wake 14 = .ok (.aload_n 0, 1) := by decide +kernel
theorem dX7_wake_15 : decode cX7_wake 15 = .ok (.getfield 20, 3) := by decide +kernel
theorem dX7_wake_18 : decode cX7_wake 18 = .ok (.aload_n 2, 1) := by decide +kernel
theorem dX7_wake_19 : decode cX7_wake 19 = .ok (.getfield 129, 3) := by decide +kernel
theorem dX7_wake_22 : decode cX7_wake 22 = .ok (.aload_n 2, 1) := by decide +kernel
theorem dX7_wake_23 : decode cX7_wake 23 = .ok (.getfield 132, 3) := by decide +kernel
theorem dX7_wake_26 : decode cX7_wake 26 = .ok (.aload_n 0, 1) := by decide +kernel
theorem dX7_wake_27 : decode cX7_wake 27 = .ok (.getfield 56, 3) := by decide +kernel
theorem dX7_wake_30 : decode cX7_wake 30 = .ok (.iconst 0, 1) := by decide +kernel
theorem dX7_wake_31 : decode cX7_wake 31 = .ok (.invokevirtual 135, 3) := by decide +kernel
theorem dX7_wake_34 : decode cX7_wake 34 = .ok (.goto 31, 3) := by decide +kernel
theorem dX7_wake_37 : decode cX7_wake 37 = .ok (.aload_n 2, 1) := by decide +kernel
theorem dX7_wake_38 : decode cX7_wake 38 = .ok (.getfield 126, 3) := by decide +kernel
theorem dX7_wake_41 : decode cX7_wake 41 = .ok (.bipush 13, 2) := by decide +kernel
theorem dX7_wake_43 : decode cX7_wake 43 = .ok (.if_icmp .ne 22, 3) := by decide +kernel
theorem dX7_wake_46 : decode cX7_wake 46 = .ok (.aload_n 1, 1) := by decide +kernel
theorem dX7_wake_47 : decode cX7_wake 47 = .ok (.aload_n 2, 1) := by decide +kernel
theorem dX7_wake_48 : decode cX7_wake 48 = .ok (.getfield 139, 3) := by decide +kernel
theorem dX7_wake_51 : decode cX7_wake 51 = .ok (.aload_n 0, 1) := by decide +kernel
theorem dX7_wake_52 : decode cX7_wake 52 = .ok (.getfield 20, 3) := by decide +kernel
theorem dX7_wake_55 : decode cX7_wake 55 = .ok (.aload_n 2, 1) := by decide +kernel
theorem dX7_wake_56 : decode cX7_wake 56 = .ok (.getfield 129, 3) := by decide +kernel
theorem dX7_wake_59 : decode cX7_wake 59 = .ok (.invokevirtual 142, 3) := by decide +kernel
theorem dX7_wake_62 : decode cX7_wake 62 = .ok (.invokevirtual 146, 3) := by decide +kernel
theorem dX7_wake_65 : decode cX7_wake 65 = .ok (.aload_n 1, 1) := by decide +kernel
theorem dX7_wake_66 : decode cX7_wake 66 = .ok (.iconst 0, 1) := by decide +kernel
theorem dX7_wake_67 : decode cX7_wake 67 = .ok (.putfield 104, 3) := by decide +kernel
theorem dX7_wake_70 : decode cX7_wake 70 = .ok (.return_, 1) := by decide +kernel
theorem dX7_whoseTurn_0 : decode cX7_whoseTurn 0 = .ok (.aload_n 0, 1) := by decide +kernel
theorem dX7_whoseTurn_1 : decode cX7_whoseTurn 1 = .ok (.getfield 35, 3) := by decide +kernel
