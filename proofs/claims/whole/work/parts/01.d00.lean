theorem dX0_init_0 : decode cX0_init 0 = .ok (.aload_n 0, 1) := by decide +kernel
theorem dX0_init_1 : decode cX0_init 1 = .ok (.invokespecial 3, 3) := by decide +kernel
theorem dX0_init_4 : decode cX0_init 4 = .ok (.aload_n 0, 1) := by decide +kernel
theorem dX0_init_5 : decode cX0_init 5 = .ok (.iconst 4, 1) := by decide +kernel
theorem dX0_init_6 : decode cX0_init 6 = .ok (.bipush 6, 2) := by decide +kernel
theorem dX0_init_8 : decode cX0_init 8 = .ok (.multianewarray 9 2, 4) := by decide +kernel
theorem dX0_init_12 : decode cX0_init 12 = .ok (.putfield 11, 3) := by decide +kernel
theorem dX0_init_15 : decode cX0_init 15 = .ok (.aload_n 0, 1) := by decide +kernel
theorem dX0_init_16 : decode cX0_init 16 = .ok (.iconst 4, 1) := by decide +kernel
theorem dX0_init_17 : decode cX0_init 17 = .ok (.newarray .int, 2) := by decide +kernel
theorem dX0_init_19 : decode cX0_init 19 = .ok (.putfield 16, 3) := by decide +kernel
theorem dX0_init_22 : decode cX0_init 22 = .ok (.return_, 1) := by decide +kernel
theorem dX0_lengthAt_0 : decode cX0_lengthAt 0 = .ok (.iload_n 1, 1) := by decide +kernel
theorem dX0_lengthAt_1 : decode cX0_lengthAt 1 = .ok (.ifCond .lt 17, 3) := by decide +kernel
theorem dX0_lengthAt_4 : decode cX0_lengthAt 4 = .ok (.iload_n 1, 1) := by decide +kernel
theorem dX0_lengthAt_5 : decode cX0_lengthAt 5 = .ok (.iconst 4, 1) := by decide +kernel
theorem dX0_lengthAt_6 : decode cX0_lengthAt 6 = .ok (.if_icmp .ge 12, 3) := by decide +kernel
theorem dX0_lengthAt_9 : decode cX0_lengthAt 9 = .ok (.aload_n 0, 1) := by decide +kernel
theorem dX0_lengthAt_10 : decode cX0_lengthAt 10 = .ok (.getfield 16, 3) := by decide +kernel
theorem dX0_lengthAt_13 : decode cX0_lengthAt 13 = .ok (.iload_n 1, 1) := by decide +kernel
theorem dX0_lengthAt_14 : decode cX0_lengthAt 14 = .ok (.iaload, 1) := by decide +kernel
theorem dX0_lengthAt_15 : decode cX0_lengthAt 15 = .ok (.goto 4, 3) := by decide +kernel
theorem dX0_lengthAt_18 : decode cX0_lengthAt 18 = .ok (.iconst 0, 1) := by decide +kernel
theorem dX0_lengthAt_19 : decode cX0_lengthAt 19 = .ok (.ireturn, 1) := by decide +kernel
theorem dX0_firstAt_0 : decode cX0_firstAt 0 = .ok (.iload_n 1, 1) := by decide +kernel
theorem dX0_firstAt_1 : decode cX0_firstAt 1 = .ok (.ifCond .lt 18, 3) := by decide +kernel
theorem dX0_firstAt_4 : decode cX0_firstAt 4 = .ok (.iload_n 1, 1) := by decide +kernel
theorem dX0_firstAt_5 : decode cX0_firstAt 5 = .ok (.iconst 4, 1) := by decide +kernel
theorem dX0_firstAt_6 : decode cX0_firstAt 6 = .ok (.if_icmp .ge 13, 3) := by decide +kernel
theorem dX0_firstAt_9 : decode cX0_firstAt 9 = .ok (.aload_n 0, 1) := by decide +kernel
theorem dX0_firstAt_10 : decode cX0_firstAt 10 = .ok (.getfield 16, 3) := by decide +kernel
theorem dX0_firstAt_13 : decode cX0_firstAt 13 = .ok (.iload_n 1, 1) := by decide +kernel
theorem dX0_firstAt_14 : decode cX0_firstAt 14 = .ok (.iaload, 1) := by decide +kernel
theorem dX0_firstAt_15 : decode cX0_firstAt 15 = .ok (.iconst 1, 1) := by decide +kernel
theorem dX0_firstAt_16 : decode cX0_firstAt 16 = .ok (.if_icmp .ge 5, 3) := by decide +kernel
theorem dX0_firstAt_19 : decode cX0_firstAt 19 = .ok (.iconst (-1), 1) := by decide +kernel
theorem dX0_firstAt_20 : decode cX0_firstAt 20 = .ok (.ireturn, 1) := by decide +kernel
theorem dX0_firstAt_21 : decode cX0_firstAt 21 = .ok (.aload_n 0, 1) := by decide +kernel
theorem dX0_firstAt_22 : decode cX0_firstAt 22 = .ok (.getfield 11, 3) := by decide +kernel
theorem dX0_firstAt_25 : decode cX0_firstAt 25 = .ok (.iload_n 1, 1) := by decide +kernel
theorem dX0_firstAt_26 : decode cX0_firstAt 26 = .ok (.aaload, 1) := by decide +kernel
theorem dX0_firstAt_27 : decode cX0_firstAt 27 = .ok (.iconst 0, 1) := by decide +kernel
theorem dX0_firstAt_28 : decode cX0_firstAt 28 = .ok (.iaload, 1) := by decide +kernel
theorem dX0_firstAt_29 : decode cX0_firstAt 29 = .ok (.ireturn, 1) := by decide +kernel
theorem dX0_join_0 : decode cX0_join 0 = .ok (.iload_n 1, 1) := by decide +kernel
theorem dX0_join_1 : decode cX0_join 1 = .ok (.ifCond .lt 8, 3) := by decide +kernel
theorem dX0_join_4 : decode cX0_join 4 = .ok (.iload_n 1, 1) := by decide +kernel
theorem dX0_join_5 : decode cX0_join 5 = .ok (.iconst 4, 1) := by decide +kernel
theorem dX0_join_6 : decode cX0_join 6 = .ok (.if_icmp .lt 4, 3) := by decide +kernel
theorem dX0_join_9 : decode cX0_join 9 = .ok (.return_, 1) := by decide +kernel
theorem dX0_join_10 : decode cX0_join 10 = .ok (.aload_n 0, 1) := by decide +kernel
theorem dX0_join_11 : decode cX0_join 11 = .ok (.getfield 16, 3) := by decide +kernel
theorem dX0_join_14 : decode cX0_join 14 = .ok (.iload_n 1, 1) := by decide +kernel
theorem dX0_join_15 : decode cX0_join 15 = .ok (.iaload, 1) := by decide +kernel
theorem dX0_join_16 : decode cX0_join 16 = .ok (.istore_n 3, 1) := by decide +kernel
theorem dX0_join_17 : decode cX0_join 17 = .ok (.iload_n 3, 1) := by decide +kernel
theorem dX0_join_18 : decode cX0_join 18 = .ok (.ifCond .lt 27, 3) := by decide +kernel
theorem dX0_join_21 : decode cX0_join 21 = .ok (.iload_n 3, 1) := by decide +kernel
theorem dX0_join_22 : decode cX0_join 22 = .ok (.bipush 6, 2) := by decide +kernel
theorem dX0_join_24 : decode cX0_join 24 = .ok (.if_icmp .ge 21, 3) := by decide +kernel
theorem dX0_join_27 : decode cX0_join 27 = .ok (.aload_n 0, 1) := by decide +kernel
theorem dX0_join_28 : decode cX0_join 28 = .ok (.getfield 11, 3) := by decide +kernel
theorem dX0_join_31 : decode cX0_join 31 = .ok (.iload_n 1, 1) := by decide +kernel
theorem dX0_join_32 : decode cX0_join 32 = .ok (.aaload, 1) := by decide +kernel
theorem dX0_join_33 : decode cX0_join 33 = .ok (.iload_n 3, 1) := by decide +kernel
theorem dX0_join_34 : decode cX0_join 34 = .ok (.iload_n 2, 1) := by decide +kernel
theorem dX0_join_35 : decode cX0_join 35 = .ok (.iastore, 1) := by decide +kernel
theorem dX0_join_36 : decode cX0_join 36 = .ok (.aload_n 0, 1) := by decide +kernel
theorem dX0_join_37 : decode cX0_join 37 = .ok (.getfield 16, 3) := by decide +kernel
theorem dX0_join_40 : decode cX0_join 40 = .ok (.iload_n 1, 1) := by decide +kernel
theorem dX0_join_41 : decode cX0_join 41 = .ok (.iload_n 3, 1) := by decide +kernel
theorem dX0_join_42 : decode cX0_join 42 = .ok (.iconst 1, 1) := by decide +kernel
theorem dX0_join_43 : decode cX0_join 43 = .ok (.iadd, 1) := by decide +kernel
theorem dX0_join_44 : decode cX0_join 44 = .ok (.iastore, 1) := by decide +kernel
theorem dX0_join_45 : decode cX0_join 45 = .ok (.return_, 1) := by decide +kernel
theorem dX0_leave_0 : decode cX0_leave 0 = .ok (.iload_n 1, 1) := by decide +kernel
theorem dX0_leave_1 : decode cX0_leave 1 = .ok (.ifCond .lt 8, 3) := by decide +kernel
theorem dX0_leave_4 : decode cX0_leave 4 = .ok (.iload_n 1, 1) := by decide +kernel
theorem dX0_leave_5 : decode cX0_leave 5 = .ok (.iconst 4, 1) := by decide +kernel
theorem dX0_leave_6 : decode cX0_leave 6 = .ok (.if_icmp .lt 4, 3) := by decide +kernel
theorem dX0_leave_9 : decode cX0_leave 9 = .ok (.return_, 1) := by decide +kernel
theorem dX0_leave_10 : decode cX0_leave 10 = .ok (.aload_n 0, 1) := by decide +kernel
theorem dX0_leave_11 : decode cX0_leave 11 = .ok (.getfield 11, 3) := by decide +kernel
theorem dX0_leave_14 : decode cX0_leave 14 = .ok (.iload_n 1, 1) := by decide +kernel
theorem dX0_leave_15 : decode cX0_leave 15 = .ok (.aaload, 1) := by decide +kernel
theorem dX0_leave_16 : decode cX0_leave 16 = .ok (.astore_n 3, 1) := by decide +kernel
theorem dX0_leave_17 : decode cX0_leave 17 = .ok (.iconst 0, 1) := by decide +kernel
theorem dX0_leave_18 : decode cX0_leave 18 = .ok (.istore 4, 2) := by decide +kernel
theorem dX0_leave_20 : decode cX0_leave 20 = .ok (.iconst 0, 1) := by decide +kernel
theorem dX0_leave_21 : decode cX0_leave 21 = .ok (.istore 5, 2) := by decide +kernel
theorem dX0_leave_23 : decode cX0_leave 23 = .ok (.iload 5, 2) := by decide +kernel
theorem dX0_leave_25 : decode cX0_leave 25 = .ok (.aload_n 0, 1) := by decide +kernel
theorem dX0_leave_26 : decode cX0_leave 26 = .ok (.getfield 16, 3) := by decide +kernel
theorem dX0_leave_29 : decode cX0_leave 29 = .ok (.iload_n 1, 1) := by decide +kernel
theorem dX0_leave_30 : decode cX0_leave 30 = .ok (.iaload, 1) := by decide +kernel
theorem dX0_leave_31 : decode cX0_leave 31 = .ok (.if_icmp .ge 35, 3) := by decide +kernel
theorem dX0_leave_34 : decode cX0_leave 34 = .ok (.iload 5, 2) := by decide +kernel
theorem dX0_leave_36 : decode cX0_leave 36 = .ok (.bipush 6, 2) := by decide +kernel
theorem dX0_leave_38 : decode cX0_leave 38 = .ok (.if_icmp .ge 28, 3) := by decide +kernel
theorem dX0_leave_41 : decode cX0_leave 41 = .ok (.aload_n 3, 1) := by decide +kernel
theorem dX0_leave_42 : decode cX0_leave 42 = .ok (.iload 5, 2) := by decide +kernel
theorem dX0_leave_44 : decode cX0_leave 44 = .ok (.iaload, 1) := by decide +kernel
theorem dX0_leave_45 : decode cX0_leave 45 = .ok (.iload_n 2, 1) := by decide +kernel
theorem dX0_leave_46 : decode cX0_leave 46 = .ok (.if_icmp .eq 14, 3) := by decide +kernel
theorem dX0_leave_49 : decode cX0_leave 49 = .ok (.aload_n 3, 1) := by decide +kernel
theorem dX0_leave_50 : decode cX0_leave 50 = .ok (.iload 4, 2) := by decide +kernel
theorem dX0_leave_52 : decode cX0_leave 52 = .ok (.aload_n 3, 1) := by decide +kernel
theorem dX0_leave_53 : decode cX0_leave 53 = .ok (.iload 5, 2) := by decide +kernel
theorem dX0_leave_55 : decode cX0_leave 55 = .ok (.iaload, 1) := by decide +kernel
theorem dX0_leave_56 : decode cX0_leave 56 = .ok (.iastore, 1) := by decide +kernel
theorem dX0_leave_57 : decode cX0_leave 57 = .ok (.iinc 4 1, 3) := by decide +kernel
theorem dX0_leave_60 : decode cX0_leave 60 = .ok (.iinc 5 1, 3) := by decide +kernel
theorem dX0_leave_63 : decode cX0_leave 63 = .ok (.goto (-40), 3) := by decide +kernel
theorem dX0_leave_66 : decode cX0_leave 66 = .ok (.aload_n 0, 1) := by decide +kernel
theorem dX0_leave_67 : decode cX0_leave 67 = .ok (.getfield 16, 3) := by decide +kernel
theorem dX0_leave_70 : decode cX0_leave 70 = .ok (.iload_n 1, 1) := by decide +kernel
theorem dX0_leave_71 : decode cX0_leave 71 = .ok (.iload 4, 2) := by decide +kernel
theorem dX0_leave_73 : decode cX0_leave 73 = .ok (.iastore, 1) := by decide +kernel
theorem dX0_leave_74 : decode cX0_leave 74 = .ok (.return_, 1) := by decide +kernel
theorem dX0_leaveAll_0 : decode cX0_leaveAll 0 = .ok (.iconst 0, 1) := by decide +kernel
theorem dX0_leaveAll_1 : decode cX0_leaveAll 1 = .ok (.istore_n 2, 1) := by decide +kernel
theorem dX0_leaveAll_2 : decode cX0_leaveAll 2 = .ok (.iload_n 2, 1) := by decide +kernel
theorem dX0_leaveAll_3 : decode cX0_leaveAll 3 = .ok (.iconst 4, 1) := by decide +kernel
theorem dX0_leaveAll_4 : decode cX0_leaveAll 4 = .ok (.if_icmp .ge 15, 3) := by decide +kernel
theorem dX0_leaveAll_7 : decode cX0_leaveAll 7 = .ok (.aload_n 0, 1) := by decide +kernel
theorem dX0_leaveAll_8 : decode cX0_leaveAll 8 = .ok (.iload_n 2, 1) := by decide +kernel
theorem dX0_leaveAll_9 : decode cX0_leaveAll 9 = .ok (.iload_n 1, 1) := by decide +kernel
theorem dX0_leaveAll_10 : decode cX0_leaveAll 10 = .ok (.invokevirtual 20, 3) := by decide +kernel
theorem dX0_leaveAll_13 : decode cX0_leaveAll 13 = .ok (.iinc 2 1, 3) := by decide +kernel
theorem dX0_leaveAll_16 : decode cX0_leaveAll 16 = .ok (.goto (-14), 3) := by decide +kernel
theorem dX0_leaveAll_19 : decode cX0_leaveAll 19 = .ok (.return_, 1) := by decide +kernel
theorem dX0_reset_0 : decode cX0_reset 0 = .ok (.aload_n 0, 1) := by decide +kernel
theorem dX0_reset_1 : decode cX0_reset 1 = .ok (.getfield 16, 3) := by decide +kernel
theorem dX0_reset_4 : decode cX0_reset 4 = .ok (.iconst 0, 1) := by decide +kernel
theorem dX0_reset_5 : decode cX0_reset 5 = .ok (.invokestatic 24, 3) := by decide +kernel
theorem dX0_reset_8 : decode cX0_reset 8 = .ok (.return_, 1) := by decide +kernel
theorem dX0_copy_0 : decode cX0_copy 0 = .ok (.iconst 0, 1) := by decide +kernel
theorem dX0_copy_1 : decode cX0_copy 1 = .ok (.istore_n 2, 1) := by decide +kernel
theorem dX0_copy_2 : decode cX0_copy 2 = .ok (.iload_n 2, 1) := by decide +kernel
theorem dX0_copy_3 : decode cX0_copy 3 = .ok (.iconst 4, 1) := by decide +kernel
theorem dX0_copy_4 : decode cX0_copy 4 = .ok (.if_icmp .ge 28, 3) := by decide +kernel
theorem dX0_copy_7 : decode cX0_copy 7 = .ok (.aload_n 1, 1) := by decide +kernel
theorem dX0_copy_8 : decode cX0_copy 8 = .ok (.getfield 11, 3) := by decide +kernel
theorem dX0_copy_11 : decode cX0_copy 11 = .ok (.iload_n 2, 1) := by decide +kernel
theorem dX0_copy_12 : decode cX0_copy 12 = .ok (.aaload, 1) := by decide +kernel
theorem dX0_copy_13 : decode cX0_copy 13 = .ok (.iconst 0, 1) := by decide +kernel
theorem dX0_copy_14 : decode cX0_copy 14 = .ok (.aload_n 0, 1) := by decide +kernel
theorem dX0_copy_15 : decode cX0_copy 15 = .ok (.getfield 11, 3) := by decide +kernel
theorem dX0_copy_18 : decode cX0_copy 18 = .ok (.iload_n 2, 1) := by decide +kernel
theorem dX0_copy_19 : decode cX0_copy 19 = .ok (.aaload, 1) := by decide +kernel
theorem dX0_copy_20 : decode cX0_copy 20 = .ok (.iconst 0, 1) := by decide +kernel
theorem dX0_copy_21 : decode cX0_copy 21 = .ok (.bipush 6, 2) := by decide +kernel
theorem dX0_copy_23 : decode cX0_copy 23 = .ok (.invokestatic 30, 3) := by decide +kernel
theorem dX0_copy_26 : decode cX0_copy 26 = .ok (.iinc 2 1, 3) := by decide +kernel
theorem dX0_copy_29 : decode cX0_copy 29 = .ok (.goto (-27), 3) := by decide +kernel
theorem dX0_copy_32 : decode cX0_copy 32 = .ok (.aload_n 1, 1) := by decide +kernel
theorem dX0_copy_33 : decode cX0_copy 33 = .ok (.getfield 16, 3) := by decide +kernel
theorem dX0_copy_36 : decode cX0_copy 36 = .ok (.iconst 0, 1) := by decide +kernel
theorem dX0_copy_37 : decode cX0_copy 37 = .ok (.aload_n 0, 1) := by decide +kernel
theorem dX0_copy_38 : decode cX0_copy 38 = .ok (.getfield 16, 3) := by decide +kernel
theorem dX0_copy_41 : decode cX0_copy 41 = .ok (.iconst 0, 1) := by decide +kernel
theorem dX0_copy_42 : decode cX0_copy 42 = .ok (.iconst 4, 1) := by decide +kernel
theorem dX0_copy_43 : decode cX0_copy 43 = .ok (.invokestatic 30, 3) := by decide +kernel
theorem dX0_copy_46 : decode cX0_copy 46 = .ok (.return_, 1) := by decide +kernel
theorem dX1_init_0 : decode cX1_init 0 = .ok (.aload_n 0, 1) := by decide +kernel
theorem dX1_init_1 : decode cX1_init 1 = .ok (.invokespecial 3, 3) := by decide +kernel
theorem dX1_init_4 : decode cX1_init 4 = .ok (.aload_n 0, 1) := by decide +kernel
theorem dX1_init_5 : decode cX1_init 5 = .ok (.bipush 24, 2) := by decide +kernel
theorem dX1_init_7 : decode cX1_init 7 = .ok (.newarray .int, 2) := by decide +kernel
theorem dX1_init_9 : decode cX1_init 9 = .ok (.putfield 9, 3) := by decide +kernel
theorem dX1_init_12 : decode cX1_init 12 = .ok (.aload_n 0, 1) := by decide +kernel
theorem dX1_init_13 : decode cX1_init 13 = .ok (.bipush 24, 2) := by decide +kernel
theorem dX1_init_15 : decode cX1_init 15 = .ok (.newarray .int, 2) := by decide +kernel
theorem dX1_init_17 : decode cX1_init 17 = .ok (.putfield 15, 3) := by decide +kernel
theorem dX1_init_20 : decode cX1_init 20 = .ok (.aload_n 0, 1) := by decide +kernel
theorem dX1_init_21 : decode cX1_init 21 = .ok (.bipush 24, 2) := by decide +kernel
theorem dX1_init_23 : decode cX1_init 23 = .ok (.newarray .int, 2) := by decide +kernel
theorem dX1_init_25 : decode cX1_init 25 = .ok (.putfield 18, 3) := by decide +kernel
theorem dX1_init_28 : decode cX1_init 28 = .ok (.aload_n 0, 1) := by decide +kernel
theorem dX1_init_29 : decode cX1_init 29 = .ok (.bipush 24, 2) := by decide +kernel
theorem dX1_init_31 : decode cX1_init 31 = .ok (.newarray .int, 2) := by decide +kernel
theorem dX1_init_33 : decode cX1_init 33 = .ok (.putfield 21, 3) := by decide +kernel
theorem dX1_init_36 : decode cX1_init 36 = .ok (.return_, 1) := by decide +kernel
theorem dX1_has_0 : decode cX1_has 0 = .ok (.iload_n 1, 1) := by decide +kernel
theorem dX1_has_1 : decode cX1_has 1 = .ok (.ifCond .lt 21, 3) := by decide +kernel
theorem dX1_has_4 : decode cX1_has 4 = .ok (.iload_n 1, 1) := by decide +kernel
theorem dX1_has_5 : decode cX1_has 5 = .ok (.aload_n 0, 1) := by decide +kernel
theorem dX1_has_6 : decode cX1_has 6 = .ok (.getfield 24, 3) := by decide +kernel
theorem dX1_has_9 : decode cX1_has 9 = .ok (.if_icmp .ge 13, 3) := by decide +kernel
theorem dX1_has_12 : decode cX1_has 12 = .ok (.iload_n 1, 1) := by decide +kernel
theorem dX1_has_13 : decode cX1_has 13 = .ok (.bipush 24, 2) := by decide +kernel
theorem dX1_has_15 : decode cX1_has 15 = .ok (.if_icmp .ge 7, 3) := by decide +kernel
theorem dX1_has_18 : decode cX1_has 18 = .ok (.iconst 1, 1) := by decide +kernel
theorem dX1_has_19 : decode cX1_has 19 = .ok (.goto 4, 3) := by decide +kernel
theorem dX1_has_22 : decode cX1_has 22 = .ok (.iconst 0, 1) := by decide +kernel
theorem dX1_has_23 : decode cX1_has 23 = .ok (.ireturn, 1) := by decide +kernel
theorem dX1_suits_0 : decode cX1_suits 0 = .ok (.iload_n 1, 1) := by decide +kernel
theorem dX1_suits_1 : decode cX1_suits 1 = .ok (.ifCond .lt 9, 3) := by decide +kernel
theorem dX1_suits_4 : decode cX1_suits 4 = .ok (.iload_n 1, 1) := by decide +kernel
theorem dX1_suits_5 : decode cX1_suits 5 = .ok (.bipush 21, 2) := by decide +kernel
theorem dX1_suits_7 : decode cX1_suits 7 = .ok (.if_icmp .lt 5, 3) := by decide +kernel
theorem dX1_suits_10 : decode cX1_suits 10 = .ok (.iconst 0, 1) := by decide +kernel
theorem dX1_suits_11 : decode cX1_suits 11 = .ok (.ireturn, 1) := by decide +kernel
theorem dX1_suits_12 : decode cX1_suits 12 = .ok (.iconst 3, 1) := by decide +kernel
theorem dX1_suits_13 : decode cX1_suits 13 = .ok (.iload_n 1, 1) := by decide +kernel
theorem dX1_suits_14 : decode cX1_suits 14 = .ok (.imul, 1) := by decide +kernel
theorem dX1_suits_15 : decode cX1_suits 15 = .ok (.istore 5, 2) := by decide +kernel
theorem dX1_suits_17 : decode cX1_suits 17 = .ok (.iload_n 2, 1) := by decide +kernel
theorem dX1_suits_18 : decode cX1_suits 18 = .ok (.getstatic 28, 3) := by decide +kernel
theorem dX1_suits_21 : decode cX1_suits 21 = .ok (.iload 5, 2) := by decide +kernel
theorem dX1_suits_23 : decode cX1_suits 23 = .ok (.iaload, 1) := by decide +kernel
theorem dX1_suits_24 : decode cX1_suits 24 = .ok (.invokestatic 31, 3) := by decide +kernel
theorem dX1_suits_27 : decode cX1_suits 27 = .ok (.ifCond .eq 52, 3) := by decide +kernel
theorem dX1_suits_30 : decode cX1_suits 30 = .ok (.iload_n 3, 1) := by decide +kernel
theorem dX1_suits_31 : decode cX1_suits 31 = .ok (.getstatic 28, 3) := by decide +kernel
theorem dX1_suits_34 : decode cX1_suits 34 = .ok (.iload 5, 2) := by decide +kernel
theorem dX1_suits_36 : decode cX1_suits 36 = .ok (.iconst 1, 1) := by decide +kernel
theorem dX1_suits_37 : decode cX1_suits 37 = .ok (.iadd, 1) := by decide +kernel
theorem dX1_suits_38 : decode cX1_suits 38 = .ok (.iaload, 1) := by decide +kernel
theorem dX1_suits_39 : decode cX1_suits 39 = .ok (.invokestatic 31, 3) := by decide +kernel
theorem dX1_suits_42 : decode cX1_suits 42 = .ok (.ifCond .eq 37, 3) := by decide +kernel
theorem dX1_suits_45 : decode cX1_suits 45 = .ok (.iload 4, 2) := by decide +kernel
theorem dX1_suits_47 : decode cX1_suits 47 = .ok (.getstatic 28, 3) := by decide +kernel
theorem dX1_suits_50 : decode cX1_suits 50 = .ok (.iload 5, 2) := by decide +kernel
theorem dX1_suits_52 : decode cX1_suits 52 = .ok (.iconst 2, 1) := by decide +kernel
theorem dX1_suits_53 : decode cX1_suits 53 = .ok (.iadd, 1) := by decide +kernel
theorem dX1_suits_54 : decode cX1_suits 54 = .ok (.iaload, 1) := by decide +kernel
theorem dX1_suits_55 : decode cX1_suits 55 = .ok (.invokestatic 31, 3) := by decide +kernel
theorem dX1_suits_58 : decode cX1_suits 58 = .ok (.ifCond .eq 21, 3) := by decide +kernel
theorem dX1_suits_61 : decode cX1_suits 61 = .ok (.iload_n 1, 1) := by decide +kernel
theorem dX1_suits_62 : decode cX1_suits 62 = .ok (.bipush 9, 2) := by decide +kernel
theorem dX1_suits_64 : decode cX1_suits 64 = .ok (.if_icmp .ne 11, 3) := by decide +kernel
theorem dX1_suits_67 : decode cX1_suits 67 = .ok (.iload_n 3, 1) := by decide +kernel
theorem dX1_suits_68 : decode cX1_suits 68 = .ok (.aload_n 0, 1) := by decide +kernel
theorem dX1_suits_69 : decode cX1_suits 69 = .ok (.getfield 24, 3) := by decide +kernel
theorem dX1_suits_72 : decode cX1_suits 72 = .ok (.if_icmp .gt 7, 3) := by decide +kernel
theorem dX1_suits_75 : decode cX1_suits 75 = .ok (.iconst 1, 1) := by decide +kernel
theorem dX1_suits_76 : decode cX1_suits 76 = .ok (.goto 4, 3) := by decide +kernel
theorem dX1_suits_79 : decode cX1_suits 79 = .ok (.iconst 0, 1) := by decide +kernel
theorem dX1_suits_80 : decode cX1_suits 80 = .ok (.ireturn, 1) := by decide +kernel
theorem dX1_upTo_0 : decode cX1_upTo 0 = .ok (.iload_n 1, 1) := by decide +kernel
theorem dX1_upTo_1 : decode cX1_upTo 1 = .ok (.ifCond .lt 12, 3) := by decide +kernel
theorem dX1_upTo_4 : decode cX1_upTo 4 = .ok (.iload_n 0, 1) := by decide +kernel
theorem dX1_upTo_5 : decode cX1_upTo 5 = .ok (.ifCond .lt 12, 3) := by decide +kernel
theorem dX1_upTo_8 : decode cX1_upTo 8 = .ok (.iload_n 0, 1) := by decide +kernel
theorem dX1_upTo_9 : decode cX1_upTo 9 = .ok (.iload_n 1, 1) := by decide +kernel
theorem dX1_upTo_10 : decode cX1_upTo 10 = .ok (.if_icmp .gt 7, 3) := by decide +kernel
theorem dX1_upTo_13 : decode cX1_upTo 13 = .ok (.iconst 1, 1) := by decide +kernel
theorem dX1_upTo_14 : decode cX1_upTo 14 = .ok (.goto 4, 3) := by decide +kernel
theorem dX1_upTo_17 : decode cX1_upTo 17 = .ok (.iconst 0, 1) := by decide +kernel
theorem dX1_upTo_18 : decode cX1_upTo 18 = .ok (.ireturn, 1) := by decide +kernel
theorem dX1_append_0 : decode cX1_append 0 = .ok (.aload_n 0, 1) := by decide +kernel
theorem dX1_append_1 : decode cX1_append 1 = .ok (.getfield 24, 3) := by decide +kernel
theorem dX1_append_4 : decode cX1_append 4 = .ok (.istore 5, 2) := by decide +kernel
theorem dX1_append_6 : decode cX1_append 6 = .ok (.iload 5, 2) := by decide +kernel
theorem dX1_append_8 : decode cX1_append 8 = .ok (.ifCond .lt 10, 3) := by decide +kernel
theorem dX1_append_11 : decode cX1_append 11 = .ok (.iload 5, 2) := by decide +kernel
theorem dX1_append_13 : decode cX1_append 13 = .ok (.bipush 24, 2) := by decide +kernel
theorem dX1_append_15 : decode cX1_append 15 = .ok (.if_icmp .lt 5, 3) := by decide +kernel
theorem dX1_append_18 : decode cX1_append 18 = .ok (.iconst (-1), 1) := by decide +kernel
theorem dX1_append_19 : decode cX1_append 19 = .ok (.ireturn, 1) := by decide +kernel
theorem dX1_append_20 : decode cX1_append 20 = .ok (.aload_n 0, 1) := by decide +kernel
theorem dX1_append_21 : decode cX1_append 21 = .ok (.getfield 9, 3) := by decide +kernel
theorem dX1_append_24 : decode cX1_append 24 = .ok (.iload 5, 2) := by decide +kernel
theorem dX1_append_26 : decode cX1_append 26 = .ok (.iload_n 1, 1) := by decide +kernel
theorem dX1_append_27 : decode cX1_append 27 = .ok (.iastore, 1) := by decide +kernel
theorem dX1_append_28 : decode cX1_append 28 = .ok (.aload_n 0, 1) := by decide +kernel
theorem dX1_append_29 : decode cX1_append 29 = .ok (.getfield 15, 3) := by decide +kernel
theorem dX1_append_32 : decode cX1_append 32 = .ok (.iload 5, 2) := by decide +kernel
theorem dX1_append_34 : decode cX1_append 34 = .ok (.iload_n 2, 1) := by decide +kernel
theorem dX1_append_35 : decode cX1_append 35 = .ok (.iastore, 1) := by decide +kernel
theorem dX1_append_36 : decode cX1_append 36 = .ok (.aload_n 0, 1) := by decide +kernel
theorem dX1_append_37 : decode cX1_append 37 = .ok (.getfield 18, 3) := by decide +kernel
theorem dX1_append_40 : decode cX1_append 40 = .ok (.iload 5, 2) := by decide +kernel
theorem dX1_append_42 : decode cX1_append 42 = .ok (.iload_n 3, 1) := by decide +kernel
theorem dX1_append_43 : decode cX1_append 43 = .ok (.iastore, 1) := by decide +kernel
theorem dX1_append_44 : decode cX1_append 44 = .ok (.aload_n 0, 1) := by decide +kernel
theorem dX1_append_45 : decode cX1_append 45 = .ok (.getfield 21, 3) := by decide +kernel
theorem dX1_append_48 : decode cX1_append 48 = .ok (.iload 5, 2) := by decide +kernel
theorem dX1_append_50 : decode cX1_append 50 = .ok (.iload 4, 2) := by decide +kernel
theorem dX1_append_52 : decode cX1_append 52 = .ok (.iastore, 1) := by decide +kernel
theorem dX1_append_53 : decode cX1_append 53 = .ok (.aload_n 0, 1) := by decide +kernel
theorem dX1_append_54 : decode cX1_append 54 = .ok (.dup, 1) := by decide +kernel
theorem dX1_append_55 : decode cX1_append 55 = .ok (.getfield 24, 3) := by decide +kernel
theorem dX1_append_58 : decode cX1_append 58 = .ok (.iconst 1, 1) := by decide +kernel
theorem dX1_append_59 : decode cX1_append 59 = .ok (.iadd, 1) := by decide +kernel
theorem dX1_append_60 : decode cX1_append 60 = .ok (.putfield 24, 3) := by decide +kernel
theorem dX1_append_63 : decode cX1_append 63 = .ok (.iload 5, 2) := by decide +kernel
theorem dX1_append_65 : decode cX1_append 65 = .ok (.ireturn, 1) := by decide +kernel
theorem dX1_copy_0 : decode cX1_copy 0 = .ok (.aload_n 1, 1) := by decide +kernel
theorem dX1_copy_1 : decode cX1_copy 1 = .ok (.getfield 9, 3) := by decide +kernel
theorem dX1_copy_4 : decode cX1_copy 4 = .ok (.iconst 0, 1) := by decide +kernel
theorem dX1_copy_5 : decode cX1_copy 5 = .ok (.aload_n 0, 1) := by decide +kernel
theorem dX1_copy_6 : decode cX1_copy 6 = .ok (.getfield 9, 3) := by decide +kernel
theorem dX1_copy_9 : decode cX1_copy 9 = .ok (.iconst 0, 1) := by decide +kernel
theorem dX1_copy_10 : decode cX1_copy 10 = .ok (.bipush 24, 2) := by decide +kernel
theorem dX1_copy_12 : decode cX1_copy 12 = .ok (.invokestatic 35, 3) := by decide +kernel
theorem dX1_copy_15 : decode cX1_copy 15 = .ok (.aload_n 1, 1) := by decide +kernel
theorem dX1_copy_16 : decode cX1_copy 16 = .ok (.getfield 15, 3) := by decide +kernel
theorem dX1_copy_19 : decode cX1_copy 19 = .ok (.iconst 0, 1) := by decide +kernel
theorem dX1_copy_20 : decode cX1_copy 20 = .ok (.aload_n 0, 1) := by decide +kernel
theorem dX1_copy_21 : decode cX1_copy 21 = .ok (.getfield 15, 3) := by decide +kernel
theorem dX1_copy_24 : decode cX1_copy 24 = .ok (.iconst 0, 1) := by decide +kernel
theorem dX1_copy_25 : decode cX1_copy 25 = .ok (.bipush 24, 2) := by decide +kernel
theorem dX1_copy_27 : decode cX1_copy 27 = .ok (.invokestatic 35, 3) := by decide +kernel
theorem dX1_copy_30 : decode cX1_copy 30 = .ok (.aload_n 1, 1) := by decide +kernel
theorem dX1_copy_31 : decode cX1_copy 31 = .ok (.getfield 18, 3) := by decide +kernel
theorem dX1_copy_34 : decode cX1_copy 34 = .ok (.iconst 0, 1) := by decide +kernel
theorem dX1_copy_35 : decode cX1_copy 35 = .ok (.aload_n 0, 1) := by decide +kernel
theorem dX1_copy_36 : decode cX1_copy 36 = .ok (.getfield 18, 3) := by decide +kernel
theorem dX1_copy_39 : decode cX1_copy 39 = .ok (.iconst 0, 1) := by decide +kernel
theorem dX1_copy_40 : decode cX1_copy 40 = .ok (.bipush 24, 2) := by decide +kernel
theorem dX1_copy_42 : decode cX1_copy 42 = .ok (.invokestatic 35, 3) := by decide +kernel
theorem dX1_copy_45 : decode cX1_copy 45 = .ok (.aload_n 1, 1) := by decide +kernel
theorem dX1_copy_46 : decode cX1_copy 46 = .ok (.getfield 21, 3) := by decide +kernel
theorem dX1_copy_49 : decode cX1_copy 49 = .ok (.iconst 0, 1) := by decide +kernel
theorem dX1_copy_50 : decode cX1_copy 50 = .ok (.aload_n 0, 1) := by decide +kernel
theorem dX1_copy_51 : decode cX1_copy 51 = .ok (.getfield 21, 3) := by decide +kernel
theorem dX1_copy_54 : decode cX1_copy 54 = .ok (.iconst 0, 1) := by decide +kernel
theorem dX1_copy_55 : decode cX1_copy 55 = .ok (.bipush 24, 2) := by decide +kernel
theorem dX1_copy_57 : decode cX1_copy 57 = .ok (.invokestatic 35, 3) := by decide +kernel
theorem dX1_copy_60 : decode cX1_copy 60 = .ok (.aload_n 0, 1) := by decide +kernel
theorem dX1_copy_61 : decode cX1_copy 61 = .ok (.aload_n 1, 1) := by decide +kernel
theorem dX1_copy_62 : decode cX1_copy 62 = .ok (.getfield 24, 3) := by decide +kernel
theorem dX1_copy_65 : decode cX1_copy 65 = .ok (.putfield 24, 3) := by decide +kernel
theorem dX1_copy_68 : decode cX1_copy 68 = .ok (.return_, 1) := by decide +kernel
theorem dX2_init_0 : decode cX2_init 0 = .ok (.aload_n 0, 1) := by decide +kernel
theorem dX2_init_1 : decode cX2_init 1 = .ok (.invokespecial 3, 3) := by decide +kernel
theorem dX2_init_4 : decode cX2_init 4 = .ok (.aload_n 0, 1) := by decide +kernel
theorem dX2_init_5 : decode cX2_init 5 = .ok (.bipush 25, 2) := by decide +kernel
theorem dX2_init_7 : decode cX2_init 7 = .ok (.newarray .int, 2) := by decide +kernel
theorem dX2_init_9 : decode cX2_init 9 = .ok (.putfield 9, 3) := by decide +kernel
theorem dX2_init_12 : decode cX2_init 12 = .ok (.return_, 1) := by decide +kernel
theorem dX2_isPlain_0 : decode cX2_isPlain 0 = .ok (.iconst 0, 1) := by decide +kernel
theorem dX2_isPlain_1 : decode cX2_isPlain 1 = .ok (.istore_n 2, 1) := by decide +kernel
theorem dX2_isPlain_2 : decode cX2_isPlain 2 = .ok (.iload_n 2, 1) := by decide +kernel
theorem dX2_isPlain_3 : decode cX2_isPlain 3 = .ok (.bipush 24, 2) := by decide +kernel
theorem dX2_isPlain_5 : decode cX2_isPlain 5 = .ok (.if_icmp .ge 71, 3) := by decide +kernel
theorem dX2_isPlain_8 : decode cX2_isPlain 8 = .ok (.aload_n 1, 1) := by decide +kernel
theorem dX2_isPlain_9 : decode cX2_isPlain 9 = .ok (.iload_n 2, 1) := by decide +kernel
theorem dX2_isPlain_10 : decode cX2_isPlain 10 = .ok (.invokevirtual 15, 3) := by decide +kernel
theorem dX2_isPlain_13 : decode cX2_isPlain 13 = .ok (.ifCond .eq 63, 3) := by decide +kernel
theorem dX2_isPlain_16 : decode cX2_isPlain 16 = .ok (.aload_n 1, 1) := by decide +kernel
theorem dX2_isPlain_17 : decode cX2_isPlain 17 = .ok (.getfield 21, 3) := by decide +kernel
theorem dX2_isPlain_20 : decode cX2_isPlain 20 = .ok (.iload_n 2, 1) := by decide +kernel
theorem dX2_isPlain_21 : decode cX2_isPlain 21 = .ok (.iaload, 1) := by decide +kernel
theorem dX2_isPlain_22 : decode cX2_isPlain 22 = .ok (.istore_n 3, 1) := by decide +kernel
theorem dX2_isPlain_23 : decode cX2_isPlain 23 = .ok (.iload_n 3, 1) := by decide +kernel
theorem dX2_isPlain_24 : decode cX2_isPlain 24 = .ok (.invokestatic 24, 3) := by decide +kernel
theorem dX2_isPlain_27 : decode cX2_isPlain 27 = .ok (.ifCond .ne 5, 3) := by decide +kernel
theorem dX2_isPlain_30 : decode cX2_isPlain 30 = .ok (.iconst 0, 1) := by decide +kernel
theorem dX2_isPlain_31 : decode cX2_isPlain 31 = .ok (.ireturn, 1) := by decide +kernel
theorem dX2_isPlain_32 : decode cX2_isPlain 32 = .ok (.iload_n 3, 1) := by decide +kernel
theorem dX2_isPlain_33 : decode cX2_isPlain 33 = .ok (.bipush 7, 2) := by decide +kernel
theorem dX2_isPlain_35 : decode cX2_isPlain 35 = .ok (.if_icmp .eq 9, 3) := by decide +kernel
theorem dX2_isPlain_38 : decode cX2_isPlain 38 = .ok (.iload_n 3, 1) := by decide +kernel
theorem dX2_isPlain_39 : decode cX2_isPlain 39 = .ok (.bipush 8, 2) := by decide +kernel
theorem dX2_isPlain_41 : decode cX2_isPlain 41 = .ok (.if_icmp .ne 13, 3) := by decide +kernel
theorem dX2_isPlain_44 : decode cX2_isPlain 44 = .ok (.aload_n 1, 1) := by decide +kernel
theorem dX2_isPlain_45 : decode cX2_isPlain 45 = .ok (.iload_n 2, 1) := by decide +kernel
theorem dX2_isPlain_46 : decode cX2_isPlain 46 = .ok (.invokestatic 27, 3) := by decide +kernel
theorem dX2_isPlain_49 : decode cX2_isPlain 49 = .ok (.ifCond .ne 5, 3) := by decide +kernel
theorem dX2_isPlain_52 : decode cX2_isPlain 52 = .ok (.iconst 0, 1) := by decide +kernel
theorem dX2_isPlain_53 : decode cX2_isPlain 53 = .ok (.ireturn, 1) := by decide +kernel
theorem dX2_isPlain_54 : decode cX2_isPlain 54 = .ok (.iload_n 3, 1) := by decide +kernel
theorem dX2_isPlain_55 : decode cX2_isPlain 55 = .ok (.bipush 9, 2) := by decide +kernel
theorem dX2_isPlain_57 : decode cX2_isPlain 57 = .ok (.if_icmp .ne 13, 3) := by decide +kernel
theorem dX2_isPlain_60 : decode cX2_isPlain 60 = .ok (.aload_n 1, 1) := by decide +kernel
theorem dX2_isPlain_61 : decode cX2_isPlain 61 = .ok (.iload_n 2, 1) := by decide +kernel
theorem dX2_isPlain_62 : decode cX2_isPlain 62 = .ok (.invokestatic 31, 3) := by decide +kernel
theorem dX2_isPlain_65 : decode cX2_isPlain 65 = .ok (.ifCond .ne 5, 3) := by decide +kernel
theorem dX2_isPlain_68 : decode cX2_isPlain 68 = .ok (.iconst 0, 1) := by decide +kernel
theorem dX2_isPlain_69 : decode cX2_isPlain 69 = .ok (.ireturn, 1) := by decide +kernel
theorem dX2_isPlain_70 : decode cX2_isPlain 70 = .ok (.iinc 2 1, 3) := by decide +kernel
theorem dX2_isPlain_73 : decode cX2_isPlain 73 = .ok (.goto (-71), 3) := by decide +kernel
theorem dX2_isPlain_76 : decode cX2_isPlain 76 = .ok (.aload_n 1, 1) := by decide +kernel
theorem dX2_isPlain_77 : decode cX2_isPlain 77 = .ok (.getfield 34, 3) := by decide +kernel
theorem dX2_isPlain_80 : decode cX2_isPlain 80 = .ok (.ifCond .le 7, 3) := by decide +kernel
theorem dX2_isPlain_83 : decode cX2_isPlain 83 = .ok (.iconst 1, 1) := by decide +kernel
theorem dX2_isPlain_84 : decode cX2_isPlain 84 = .ok (.goto 4, 3) := by decide +kernel
theorem dX2_isPlain_87 : decode cX2_isPlain 87 = .ok (.iconst 0, 1) := by decide +kernel
theorem dX2_isPlain_88 : decode cX2_isPlain 88 = .ok (.ireturn, 1) := by decide +kernel
theorem dX2_isPlainKind_0 : decode cX2_isPlainKind 0 = .ok (.iload_n 0, 1) := by decide +kernel
theorem dX2_isPlainKind_1 : decode cX2_isPlainKind 1 = .ok (.bipush 10, 2) := by decide +kernel
theorem dX2_isPlainKind_3 : decode cX2_isPlainKind 3 = .ok (.if_icmp .le 27, 3) := by decide +kernel
theorem dX2_isPlainKind_6 : decode cX2_isPlainKind 6 = .ok (.iload_n 0, 1) := by decide +kernel
theorem dX2_isPlainKind_7 : decode cX2_isPlainKind 7 = .ok (.bipush 12, 2) := by decide +kernel
theorem dX2_isPlainKind_9 : decode cX2_isPlainKind 9 = .ok (.if_icmp .eq 21, 3) := by decide +kernel
theorem dX2_isPlainKind_12 : decode cX2_isPlainKind 12 = .ok (.iload_n 0, 1) := by decide +kernel
theorem dX2_isPlainKind_13 : decode cX2_isPlainKind 13 = .ok (.bipush 15, 2) := by decide +kernel
theorem dX2_isPlainKind_15 : decode cX2_isPlainKind 15 = .ok (.if_icmp .eq 15, 3) := by decide +kernel
theorem dX2_isPlainKind_18 : decode cX2_isPlainKind 18 = .ok (.iload_n 0, 1) := by decide +kernel
theorem dX2_isPlainKind_19 : decode cX2_isPlainKind 19 = .ok (.bipush 19, 2) := by decide +kernel
theorem dX2_isPlainKind_21 : decode cX2_isPlainKind 21 = .ok (.if_icmp .eq 9, 3) := by decide +kernel
theorem dX2_isPlainKind_24 : decode cX2_isPlainKind 24 = .ok (.iload_n 0, 1) := by decide +kernel
theorem dX2_isPlainKind_25 : decode cX2_isPlainKind 25 = .ok (.bipush 20, 2) := by decide +kernel
theorem dX2_isPlainKind_27 : decode cX2_isPlainKind 27 = .ok (.if_icmp .ne 7, 3) := by decide +kernel
theorem dX2_isPlainKind_30 : decode cX2_isPlainKind 30 = .ok (.iconst 1, 1) := by decide +kernel
theorem dX2_isPlainKind_31 : decode cX2_isPlainKind 31 = .ok (.goto 4, 3) := by decide +kernel
theorem dX2_isPlainKind_34 : decode cX2_isPlainKind 34 = .ok (.iconst 0, 1) := by decide +kernel
theorem dX2_isPlainKind_35 : decode cX2_isPlainKind 35 = .ok (.ireturn, 1) := by decide +kernel
theorem dX2_leapsWell_0 : decode cX2_leapsWell 0 = .ok (.aload_n 0, 1) := by decide +kernel
theorem dX2_leapsWell_1 : decode cX2_leapsWell 1 = .ok (.getfield 38, 3) := by decide +kernel
theorem dX2_leapsWell_4 : decode cX2_leapsWell 4 = .ok (.iload_n 1, 1) := by decide +kernel
theorem dX2_leapsWell_5 : decode cX2_leapsWell 5 = .ok (.iaload, 1) := by decide +kernel
theorem dX2_leapsWell_6 : decode cX2_leapsWell 6 = .ok (.istore_n 2, 1) := by decide +kernel
theorem dX2_leapsWell_7 : decode cX2_leapsWell 7 = .ok (.iconst 0, 1) := by decide +kernel
theorem dX2_leapsWell_8 : decode cX2_leapsWell 8 = .ok (.istore_n 3, 1) := by decide +kernel
theorem dX2_leapsWell_9 : decode cX2_leapsWell 9 = .ok (.iload_n 3, 1) := by decide +kernel
theorem dX2_leapsWell_10 : decode cX2_leapsWell 10 = .ok (.bipush 24, 2) := by decide +kernel
theorem dX2_leapsWell_12 : decode cX2_leapsWell 12 = .ok (.if_icmp .ge 83, 3) := by decide +kernel
theorem dX2_leapsWell_15 : decode cX2_leapsWell 15 = .ok (.aload_n 0, 1) := by decide +kernel
theorem dX2_leapsWell_16 : decode cX2_leapsWell 16 = .ok (.iload_n 3, 1) := by decide +kernel
theorem dX2_leapsWell_17 : decode cX2_leapsWell 17 = .ok (.invokevirtual 15, 3) := by decide +kernel
theorem dX2_leapsWell_20 : decode cX2_leapsWell 20 = .ok (.ifCond .eq 75, 3) := by decide +kernel
theorem dX2_leapsWell_23 : decode cX2_leapsWell 23 = .ok (.aload_n 0, 1) := by decide +kernel
theorem dX2_leapsWell_24 : decode cX2_leapsWell 24 = .ok (.getfield 21, 3) := by decide +kernel
theorem dX2_leapsWell_27 : decode cX2_leapsWell 27 = .ok (.iload_n 3, 1) := by decide +kernel
theorem dX2_leapsWell_28 : decode cX2_leapsWell 28 = .ok (.iaload, 1) := by decide +kernel
theorem dX2_leapsWell_29 : decode cX2_leapsWell 29 = .ok (.bipush 9, 2) := by decide +kernel
theorem dX2_leapsWell_31 : decode cX2_leapsWell 31 = .ok (.if_icmp .eq 6, 3) := by decide +kernel
theorem dX2_leapsWell_34 : decode cX2_leapsWell 34 = .ok (.goto 55, 3) := by decide +kernel
theorem dX2_leapsWell_37 : decode cX2_leapsWell 37 = .ok (.aload_n 0, 1) := by decide +kernel
theorem dX2_leapsWell_38 : decode cX2_leapsWell 38 = .ok (.getfield 38, 3) := by decide +kernel
theorem dX2_leapsWell_41 : decode cX2_leapsWell 41 = .ok (.iload_n 3, 1) := by decide +kernel
theorem dX2_leapsWell_42 : decode cX2_leapsWell 42 = .ok (.iaload, 1) := by decide +kernel
theorem dX2_leapsWell_43 : decode cX2_leapsWell 43 = .ok (.istore 4, 2) := by decide +kernel
theorem dX2_leapsWell_45 : decode cX2_leapsWell 45 = .ok (.iload_n 1, 1) := by decide +kernel
theorem dX2_leapsWell_46 : decode cX2_leapsWell 46 = .ok (.iload 4, 2) := by decide +kernel
theorem dX2_leapsWell_48 : decode cX2_leapsWell 48 = .ok (.if_icmp .lt 12, 3) := by decide +kernel
theorem dX2_leapsWell_51 : decode cX2_leapsWell 51 = .ok (.iload_n 1, 1) := by decide +kernel
theorem dX2_leapsWell_52 : decode cX2_leapsWell 52 = .ok (.iload_n 3, 1) := by decide +kernel
theorem dX2_leapsWell_53 : decode cX2_leapsWell 53 = .ok (.if_icmp .gt 7, 3) := by decide +kernel
theorem dX2_leapsWell_56 : decode cX2_leapsWell 56 = .ok (.iconst 1, 1) := by decide +kernel
theorem dX2_leapsWell_57 : decode cX2_leapsWell 57 = .ok (.goto 4, 3) := by decide +kernel
theorem dX2_leapsWell_60 : decode cX2_leapsWell 60 = .ok (.iconst 0, 1) := by decide +kernel
theorem dX2_leapsWell_61 : decode cX2_leapsWell 61 = .ok (.istore 5, 2) := by decide +kernel
theorem dX2_leapsWell_63 : decode cX2_leapsWell 63 = .ok (.iload 5, 2) := by decide +kernel
theorem dX2_leapsWell_65 : decode cX2_leapsWell 65 = .ok (.ifCond .eq 11, 3) := by decide +kernel
theorem dX2_leapsWell_68 : decode cX2_leapsWell 68 = .ok (.iload_n 2, 1) := by decide +kernel
theorem dX2_leapsWell_69 : decode cX2_leapsWell 69 = .ok (.iload_n 3, 1) := by decide +kernel
theorem dX2_leapsWell_70 : decode cX2_leapsWell 70 = .ok (.if_icmp .le 19, 3) := by decide +kernel
theorem dX2_leapsWell_73 : decode cX2_leapsWell 73 = .ok (.goto 14, 3) := by decide +kernel
theorem dX2_leapsWell_76 : decode cX2_leapsWell 76 = .ok (.iload_n 2, 1) := by decide +kernel
theorem dX2_leapsWell_77 : decode cX2_leapsWell 77 = .ok (.iload 4, 2) := by decide +kernel
theorem dX2_leapsWell_79 : decode cX2_leapsWell 79 = .ok (.if_icmp .le 10, 3) := by decide +kernel
theorem dX2_leapsWell_82 : decode cX2_leapsWell 82 = .ok (.iload_n 2, 1) := by decide +kernel
theorem dX2_leapsWell_83 : decode cX2_leapsWell 83 = .ok (.iload_n 3, 1) := by decide +kernel
theorem dX2_leapsWell_84 : decode cX2_leapsWell 84 = .ok (.if_icmp .gt 5, 3) := by decide +kernel
theorem dX2_leapsWell_87 : decode cX2_leapsWell 87 = .ok (.iconst 0, 1) := by decide +kernel
theorem dX2_leapsWell_88 : decode cX2_leapsWell 88 = .ok (.ireturn, 1) := by decide +kernel
theorem dX2_leapsWell_89 : decode cX2_leapsWell 89 = .ok (.iinc 3 1, 3) := by decide +kernel
theorem dX2_leapsWell_92 : decode cX2_leapsWell 92 = .ok (.goto (-83), 3) := by decide +kernel
theorem dX2_leapsWell_95 : decode cX2_leapsWell 95 = .ok (.iload_n 2, 1) := by decide +kernel
theorem dX2_leapsWell_96 : decode cX2_leapsWell 96 = .ok (.iload_n 1, 1) := by decide +kernel
theorem dX2_leapsWell_97 : decode cX2_leapsWell 97 = .ok (.if_icmp .le 7, 3) := by decide +kernel
theorem dX2_leapsWell_100 : decode cX2_leapsWell 100 = .ok (.iconst 1, 1) := by decide +kernel
theorem dX2_leapsWell_101 : decode cX2_leapsWell 101 = .ok (.goto 4, 3) := by decide +kernel
theorem dX2_leapsWell_104 : decode cX2_leapsWell 104 = .ok (.iconst 0, 1) := by decide +kernel
theorem dX2_leapsWell_105 : decode cX2_leapsWell 105 = .ok (.ireturn, 1) := by decide +kernel
theorem dX2_nestsWell_0 : decode cX2_nestsWell 0 = .ok (.aload_n 0, 1) := by decide +kernel
theorem dX2_nestsWell_1 : decode cX2_nestsWell 1 = .ok (.getfield 38, 3) := by decide +kernel
theorem dX2_nestsWell_4 : decode cX2_nestsWell 4 = .ok (.iload_n 1, 1) := by decide +kernel
theorem dX2_nestsWell_5 : decode cX2_nestsWell 5 = .ok (.iaload, 1) := by decide +kernel
theorem dX2_nestsWell_6 : decode cX2_nestsWell 6 = .ok (.istore_n 2, 1) := by decide +kernel
theorem dX2_nestsWell_7 : decode cX2_nestsWell 7 = .ok (.iconst 0, 1) := by decide +kernel
theorem dX2_nestsWell_8 : decode cX2_nestsWell 8 = .ok (.istore_n 3, 1) := by decide +kernel
theorem dX2_nestsWell_9 : decode cX2_nestsWell 9 = .ok (.iload_n 3, 1) := by decide +kernel
theorem dX2_nestsWell_10 : decode cX2_nestsWell 10 = .ok (.iload_n 1, 1) := by decide +kernel
theorem dX2_nestsWell_11 : decode cX2_nestsWell 11 = .ok (.if_icmp .ge 57, 3) := by decide +kernel
theorem dX2_nestsWell_14 : decode cX2_nestsWell 14 = .ok (.aload_n 0, 1) := by decide +kernel
theorem dX2_nestsWell_15 : decode cX2_nestsWell 15 = .ok (.iload_n 3, 1) := by decide +kernel
theorem dX2_nestsWell_16 : decode cX2_nestsWell 16 = .ok (.invokevirtual 15, 3) := by decide +kernel
theorem dX2_nestsWell_19 : decode cX2_nestsWell 19 = .ok (.ifCond .eq 49, 3) := by decide +kernel
theorem dX2_nestsWell_22 : decode cX2_nestsWell 22 = .ok (.iload_n 2, 1) := by decide +kernel
theorem dX2_nestsWell_23 : decode cX2_nestsWell 23 = .ok (.aload_n 0, 1) := by decide +kernel
theorem dX2_nestsWell_24 : decode cX2_nestsWell 24 = .ok (.getfield 38, 3) := by decide +kernel
theorem dX2_nestsWell_27 : decode cX2_nestsWell 27 = .ok (.iload_n 3, 1) := by decide +kernel
theorem dX2_nestsWell_28 : decode cX2_nestsWell 28 = .ok (.iaload, 1) := by decide +kernel
theorem dX2_nestsWell_29 : decode cX2_nestsWell 29 = .ok (.if_icmp .le 12, 3) := by decide +kernel
theorem dX2_nestsWell_32 : decode cX2_nestsWell 32 = .ok (.iload_n 2, 1) := by decide +kernel
theorem dX2_nestsWell_33 : decode cX2_nestsWell 33 = .ok (.iload_n 3, 1) := by decide +kernel
theorem dX2_nestsWell_34 : decode cX2_nestsWell 34 = .ok (.if_icmp .gt 7, 3) := by decide +kernel
theorem dX2_nestsWell_37 : decode cX2_nestsWell 37 = .ok (.iconst 1, 1) := by decide +kernel
theorem dX2_nestsWell_38 : decode cX2_nestsWell 38 = .ok (.goto 4, 3) := by decide +kernel
theorem dX2_nestsWell_41 : decode cX2_nestsWell 41 = .ok (.iconst 0, 1) := by decide +kernel
theorem dX2_nestsWell_42 : decode cX2_nestsWell 42 = .ok (.istore 4, 2) := by decide +kernel
theorem dX2_nestsWell_44 : decode cX2_nestsWell 44 = .ok (.aload_n 0, 1) := by decide +kernel
theorem dX2_nestsWell_45 : decode cX2_nestsWell 45 = .ok (.getfield 21, 3) := by decide +kernel
theorem dX2_nestsWell_48 : decode cX2_nestsWell 48 = .ok (.iload_n 3, 1) := by decide +kernel
theorem dX2_nestsWell_49 : decode cX2_nestsWell 49 = .ok (.iaload, 1) := by decide +kernel
theorem dX2_nestsWell_50 : decode cX2_nestsWell 50 = .ok (.bipush 9, 2) := by decide +kernel
theorem dX2_nestsWell_52 : decode cX2_nestsWell 52 = .ok (.if_icmp .ne 10, 3) := by decide +kernel
theorem dX2_nestsWell_55 : decode cX2_nestsWell 55 = .ok (.iload 4, 2) := by decide +kernel
theorem dX2_nestsWell_57 : decode cX2_nestsWell 57 = .ok (.ifCond .eq 5, 3) := by decide +kernel
theorem dX2_nestsWell_60 : decode cX2_nestsWell 60 = .ok (.iconst 0, 1) := by decide +kernel
theorem dX2_nestsWell_61 : decode cX2_nestsWell 61 = .ok (.ireturn, 1) := by decide +kernel
theorem dX2_nestsWell_62 : decode cX2_nestsWell 62 = .ok (.iinc 3 1, 3) := by decide +kernel
theorem dX2_nestsWell_65 : decode cX2_nestsWell 65 = .ok (.goto (-56), 3) := by decide +kernel
theorem dX2_nestsWell_68 : decode cX2_nestsWell 68 = .ok (.iconst 1, 1) := by decide +kernel
theorem dX2_nestsWell_69 : decode cX2_nestsWell 69 = .ok (.ireturn, 1) := by decide +kernel
theorem dX2_ofRound_0 : decode cX2_ofRound 0 = .ok (.aload_n 0, 1) := by decide +kernel
theorem dX2_ofRound_1 : decode cX2_ofRound 1 = .ok (.getfield 9, 3) := by decide +kernel
theorem dX2_ofRound_4 : decode cX2_ofRound 4 = .ok (.iconst (-1), 1) := by decide +kernel
theorem dX2_ofRound_5 : decode cX2_ofRound 5 = .ok (.invokestatic 41, 3) := by decide +kernel
theorem dX2_ofRound_8 : decode cX2_ofRound 8 = .ok (.aload_n 0, 1) := by decide +kernel
theorem dX2_ofRound_9 : decode cX2_ofRound 9 = .ok (.getfield 9, 3) := by decide +kernel
theorem dX2_ofRound_12 : decode cX2_ofRound 12 = .ok (.iconst 0, 1) := by decide +kernel
theorem dX2_ofRound_13 : decode cX2_ofRound 13 = .ok (.iconst 0, 1) := by decide +kernel
theorem dX2_ofRound_14 : decode cX2_ofRound 14 = .ok (.iastore, 1) := by decide +kernel
theorem dX2_ofRound_15 : decode cX2_ofRound 15 = .ok (.iconst 0, 1) := by decide +kernel
theorem dX2_ofRound_16 : decode cX2_ofRound 16 = .ok (.istore_n 3, 1) := by decide +kernel
theorem dX2_ofRound_17 : decode cX2_ofRound 17 = .ok (.iload_n 3, 1) := by decide +kernel
theorem dX2_ofRound_18 : decode cX2_ofRound 18 = .ok (.bipush 24, 2) := by decide +kernel
theorem dX2_ofRound_20 : decode cX2_ofRound 20 = .ok (.if_icmp .ge 115, 3) := by decide +kernel
theorem dX2_ofRound_23 : decode cX2_ofRound 23 = .ok (.aload_n 1, 1) := by decide +kernel
theorem dX2_ofRound_24 : decode cX2_ofRound 24 = .ok (.iload_n 3, 1) := by decide +kernel
theorem dX2_ofRound_25 : decode cX2_ofRound 25 = .ok (.invokevirtual 15, 3) := by decide +kernel
theorem dX2_ofRound_28 : decode cX2_ofRound 28 = .ok (.ifCond .eq 107, 3) := by decide +kernel
theorem dX2_ofRound_31 : decode cX2_ofRound 31 = .ok (.aload_n 0, 1) := by decide +kernel
theorem dX2_ofRound_32 : decode cX2_ofRound 32 = .ok (.getfield 9, 3) := by decide +kernel
theorem dX2_ofRound_35 : decode cX2_ofRound 35 = .ok (.iload_n 3, 1) := by decide +kernel
theorem dX2_ofRound_36 : decode cX2_ofRound 36 = .ok (.iaload, 1) := by decide +kernel
theorem dX2_ofRound_37 : decode cX2_ofRound 37 = .ok (.iconst (-1), 1) := by decide +kernel
theorem dX2_ofRound_38 : decode cX2_ofRound 38 = .ok (.if_icmp .ne 6, 3) := by decide +kernel
theorem dX2_ofRound_41 : decode cX2_ofRound 41 = .ok (.goto 88, 3) := by decide +kernel
theorem dX2_ofRound_44 : decode cX2_ofRound 44 = .ok (.aload_n 1, 1) := by decide +kernel
theorem dX2_ofRound_45 : decode cX2_ofRound 45 = .ok (.getfield 21, 3) := by decide +kernel
theorem dX2_ofRound_48 : decode cX2_ofRound 48 = .ok (.iload_n 3, 1) := by decide +kernel
theorem dX2_ofRound_49 : decode cX2_ofRound 49 = .ok (.iaload, 1) := by decide +kernel
theorem dX2_ofRound_50 : decode cX2_ofRound 50 = .ok (.istore 4, 2) := by decide +kernel
theorem dX2_ofRound_52 : decode cX2_ofRound 52 = .ok (.iload 4, 2) := by decide +kernel
theorem dX2_ofRound_54 : decode cX2_ofRound 54 = .ok (.bipush 9, 2) := by decide +kernel
theorem dX2_ofRound_56 : decode cX2_ofRound 56 = .ok (.if_icmp .ne 12, 3) := by decide +kernel
theorem dX2_ofRound_59 : decode cX2_ofRound 59 = .ok (.aload_n 0, 1) := by decide +kernel
theorem dX2_ofRound_60 : decode cX2_ofRound 60 = .ok (.aload_n 1, 1) := by decide +kernel
theorem dX2_ofRound_61 : decode cX2_ofRound 61 = .ok (.iload_n 3, 1) := by decide +kernel
theorem dX2_ofRound_62 : decode cX2_ofRound 62 = .ok (.invokevirtual 47, 3) := by decide +kernel
theorem dX2_ofRound_65 : decode cX2_ofRound 65 = .ok (.goto 11, 3) := by decide +kernel
theorem dX2_ofRound_68 : decode cX2_ofRound 68 = .ok (.aload_n 0, 1) := by decide +kernel
theorem dX2_ofRound_69 : decode cX2_ofRound 69 = .ok (.getfield 9, 3) := by decide +kernel
theorem dX2_ofRound_72 : decode cX2_ofRound 72 = .ok (.iload_n 3, 1) := by decide +kernel
theorem dX2_ofRound_73 : decode cX2_ofRound 73 = .ok (.iaload, 1) := by decide +kernel
theorem dX2_ofRound_74 : decode cX2_ofRound 74 = .ok (.iconst 1, 1) := by decide +kernel
theorem dX2_ofRound_75 : decode cX2_ofRound 75 = .ok (.iadd, 1) := by decide +kernel
theorem dX2_ofRound_76 : decode cX2_ofRound 76 = .ok (.istore 5, 2) := by decide +kernel
theorem dX2_ofRound_78 : decode cX2_ofRound 78 = .ok (.iload 4, 2) := by decide +kernel
theorem dX2_ofRound_80 : decode cX2_ofRound 80 = .ok (.bipush 7, 2) := by decide +kernel
theorem dX2_ofRound_82 : decode cX2_ofRound 82 = .ok (.if_icmp .eq 13, 3) := by decide +kernel
theorem dX2_ofRound_85 : decode cX2_ofRound 85 = .ok (.aload_n 0, 1) := by decide +kernel
theorem dX2_ofRound_86 : decode cX2_ofRound 86 = .ok (.iload_n 3, 1) := by decide +kernel
theorem dX2_ofRound_87 : decode cX2_ofRound 87 = .ok (.iconst 1, 1) := by decide +kernel
theorem dX2_ofRound_88 : decode cX2_ofRound 88 = .ok (.iadd, 1) := by decide +kernel
theorem dX2_ofRound_89 : decode cX2_ofRound 89 = .ok (.iload 5, 2) := by decide +kernel
theorem dX2_ofRound_91 : decode cX2_ofRound 91 = .ok (.iload_n 2, 1) := by decide +kernel
theorem dX2_ofRound_92 : decode cX2_ofRound 92 = .ok (.invokevirtual 51, 3) := by decide +kernel
theorem dX2_ofRound_95 : decode cX2_ofRound 95 = .ok (.iload 4, 2) := by decide +kernel
theorem dX2_ofRound_97 : decode cX2_ofRound 97 = .ok (.bipush 7, 2) := by decide +kernel
theorem dX2_ofRound_99 : decode cX2_ofRound 99 = .ok (.if_icmp .eq 10, 3) := by decide +kernel
theorem dX2_ofRound_102 : decode cX2_ofRound 102 = .ok (.iload 4, 2) := by decide +kernel
theorem dX2_ofRound_104 : decode cX2_ofRound 104 = .ok (.bipush 8, 2) := by decide +kernel
theorem dX2_ofRound_106 : decode cX2_ofRound 106 = .ok (.if_icmp .ne 23, 3) := by decide +kernel
theorem dX2_ofRound_109 : decode cX2_ofRound 109 = .ok (.aload_n 0, 1) := by decide +kernel
theorem dX2_ofRound_110 : decode cX2_ofRound 110 = .ok (.aload_n 1, 1) := by decide +kernel
theorem dX2_ofRound_111 : decode cX2_ofRound 111 = .ok (.getfield 38, 3) := by decide +kernel
theorem dX2_ofRound_114 : decode cX2_ofRound 114 = .ok (.iload_n 3, 1) := by decide +kernel
theorem dX2_ofRound_115 : decode cX2_ofRound 115 = .ok (.iaload, 1) := by decide +kernel
theorem dX2_ofRound_116 : decode cX2_ofRound 116 = .ok (.aload_n 1, 1) := by decide +kernel
theorem dX2_ofRound_117 : decode cX2_ofRound 117 = .ok (.getfield 34, 3) := by decide +kernel
theorem dX2_ofRound_120 : decode cX2_ofRound 120 = .ok (.invokestatic 55, 3) := by decide +kernel
theorem dX2_ofRound_123 : decode cX2_ofRound 123 = .ok (.iload 5, 2) := by decide +kernel
theorem dX2_ofRound_125 : decode cX2_ofRound 125 = .ok (.iload_n 2, 1) := by decide +kernel
theorem dX2_ofRound_126 : decode cX2_ofRound 126 = .ok (.invokevirtual 51, 3) := by decide +kernel
theorem dX2_ofRound_129 : decode cX2_ofRound 129 = .ok (.iinc 3 1, 3) := by decide +kernel
theorem dX2_ofRound_132 : decode cX2_ofRound 132 = .ok (.goto (-115), 3) := by decide +kernel
theorem dX2_ofRound_135 : decode cX2_ofRound 135 = .ok (.aload_n 1, 1) := by decide +kernel
theorem dX2_ofRound_136 : decode cX2_ofRound 136 = .ok (.getfield 34, 3) := by decide +kernel
theorem dX2_ofRound_139 : decode cX2_ofRound 139 = .ok (.ifCond .lt 24, 3) := by decide +kernel
theorem dX2_ofRound_142 : decode cX2_ofRound 142 = .ok (.aload_n 1, 1) := by decide +kernel
theorem dX2_ofRound_143 : decode cX2_ofRound 143 = .ok (.getfield 34, 3) := by decide +kernel
theorem dX2_ofRound_146 : decode cX2_ofRound 146 = .ok (.bipush 24, 2) := by decide +kernel
theorem dX2_ofRound_148 : decode cX2_ofRound 148 = .ok (.if_icmp .gt 15, 3) := by decide +kernel
theorem dX2_ofRound_151 : decode cX2_ofRound 151 = .ok (.aload_n 0, 1) := by decide +kernel
theorem dX2_ofRound_152 : decode cX2_ofRound 152 = .ok (.getfield 9, 3) := by decide +kernel
theorem dX2_ofRound_155 : decode cX2_ofRound 155 = .ok (.aload_n 1, 1) := by decide +kernel
theorem dX2_ofRound_156 : decode cX2_ofRound 156 = .ok (.getfield 34, 3) := by decide +kernel
theorem dX2_ofRound_159 : decode cX2_ofRound 159 = .ok (.iaload, 1) := by decide +kernel
theorem dX2_ofRound_160 : decode cX2_ofRound 160 = .ok (.goto 4, 3) := by decide +kernel
theorem dX2_ofRound_163 : decode cX2_ofRound 163 = .ok (.iconst (-1), 1) := by decide +kernel
theorem dX2_ofRound_164 : decode cX2_ofRound 164 = .ok (.ireturn, 1) := by decide +kernel
theorem dX2_behindLoop_0 : decode cX2_behindLoop 0 = .ok (.aload_n 1, 1) := by decide +kernel
theorem dX2_behindLoop_1 : decode cX2_behindLoop 1 = .ok (.getfield 38, 3) := by decide +kernel
theorem dX2_behindLoop_4 : decode cX2_behindLoop 4 = .ok (.iload_n 2, 1) := by decide +kernel
theorem dX2_behindLoop_5 : decode cX2_behindLoop 5 = .ok (.iaload, 1) := by decide +kernel
theorem dX2_behindLoop_6 : decode cX2_behindLoop 6 = .ok (.istore_n 3, 1) := by decide +kernel
theorem dX2_behindLoop_7 : decode cX2_behindLoop 7 = .ok (.iload_n 3, 1) := by decide +kernel
theorem dX2_behindLoop_8 : decode cX2_behindLoop 8 = .ok (.ifCond .lt 8, 3) := by decide +kernel
theorem dX2_behindLoop_11 : decode cX2_behindLoop 11 = .ok (.iload_n 3, 1) := by decide +kernel
theorem dX2_behindLoop_12 : decode cX2_behindLoop 12 = .ok (.iload_n 2, 1) := by decide +kernel
theorem dX2_behindLoop_13 : decode cX2_behindLoop 13 = .ok (.if_icmp .le 12, 3) := by decide +kernel
theorem dX2_behindLoop_16 : decode cX2_behindLoop 16 = .ok (.aload_n 0, 1) := by decide +kernel
theorem dX2_behindLoop_17 : decode cX2_behindLoop 17 = .ok (.getfield 9, 3) := by decide +kernel
theorem dX2_behindLoop_20 : decode cX2_behindLoop 20 = .ok (.iload_n 2, 1) := by decide +kernel
theorem dX2_behindLoop_21 : decode cX2_behindLoop 21 = .ok (.iaload, 1) := by decide +kernel
theorem dX2_behindLoop_22 : decode cX2_behindLoop 22 = .ok (.iconst 1, 1) := by decide +kernel
theorem dX2_behindLoop_23 : decode cX2_behindLoop 23 = .ok (.iadd, 1) := by decide +kernel
theorem dX2_behindLoop_24 : decode cX2_behindLoop 24 = .ok (.ireturn, 1) := by decide +kernel
theorem dX2_behindLoop_25 : decode cX2_behindLoop 25 = .ok (.aload_n 0, 1) := by decide +kernel
theorem dX2_behindLoop_26 : decode cX2_behindLoop 26 = .ok (.getfield 9, 3) := by decide +kernel
theorem dX2_behindLoop_29 : decode cX2_behindLoop 29 = .ok (.iload_n 2, 1) := by decide +kernel
theorem dX2_behindLoop_30 : decode cX2_behindLoop 30 = .ok (.iaload, 1) := by decide +kernel
theorem dX2_behindLoop_31 : decode cX2_behindLoop 31 = .ok (.aload_n 0, 1) := by decide +kernel
theorem dX2_behindLoop_32 : decode cX2_behindLoop 32 = .ok (.getfield 9, 3) := by decide +kernel
theorem dX2_behindLoop_35 : decode cX2_behindLoop 35 = .ok (.iload_n 3, 1) := by decide +kernel
theorem dX2_behindLoop_36 : decode cX2_behindLoop 36 = .ok (.iaload, 1) := by decide +kernel
theorem dX2_behindLoop_37 : decode cX2_behindLoop 37 = .ok (.isub, 1) := by decide +kernel
theorem dX2_behindLoop_38 : decode cX2_behindLoop 38 = .ok (.iconst 1, 1) := by decide +kernel
theorem dX2_behindLoop_39 : decode cX2_behindLoop 39 = .ok (.iadd, 1) := by decide +kernel
theorem dX2_behindLoop_40 : decode cX2_behindLoop 40 = .ok (.istore 4, 2) := by decide +kernel
theorem dX2_behindLoop_42 : decode cX2_behindLoop 42 = .ok (.aload_n 0, 1) := by decide +kernel
theorem dX2_behindLoop_43 : decode cX2_behindLoop 43 = .ok (.getfield 9, 3) := by decide +kernel
theorem dX2_behindLoop_46 : decode cX2_behindLoop 46 = .ok (.iload_n 3, 1) := by decide +kernel
theorem dX2_behindLoop_47 : decode cX2_behindLoop 47 = .ok (.iaload, 1) := by decide +kernel
theorem dX2_behindLoop_48 : decode cX2_behindLoop 48 = .ok (.aload_n 1, 1) := by decide +kernel
theorem dX2_behindLoop_49 : decode cX2_behindLoop 49 = .ok (.getfield 61, 3) := by decide +kernel
theorem dX2_behindLoop_52 : decode cX2_behindLoop 52 = .ok (.iload_n 2, 1) := by decide +kernel
theorem dX2_behindLoop_53 : decode cX2_behindLoop 53 = .ok (.iaload, 1) := by decide +kernel
theorem dX2_behindLoop_54 : decode cX2_behindLoop 54 = .ok (.iconst 1, 1) := by decide +kernel
theorem dX2_behindLoop_55 : decode cX2_behindLoop 55 = .ok (.iadd, 1) := by decide +kernel
theorem dX2_behindLoop_56 : decode cX2_behindLoop 56 = .ok (.iload 4, 2) := by decide +kernel
theorem dX2_behindLoop_58 : decode cX2_behindLoop 58 = .ok (.imul, 1) := by decide +kernel
theorem dX2_behindLoop_59 : decode cX2_behindLoop 59 = .ok (.iadd, 1) := by decide +kernel
theorem dX2_behindLoop_60 : decode cX2_behindLoop 60 = .ok (.ireturn, 1) := by decide +kernel
theorem dX2_comeTo_0 : decode cX2_comeTo 0 = .ok (.iload_n 1, 1) := by decide +kernel
theorem dX2_comeTo_1 : decode cX2_comeTo 1 = .ok (.ifCond .lt 9, 3) := by decide +kernel
theorem dX2_comeTo_4 : decode cX2_comeTo 4 = .ok (.iload_n 1, 1) := by decide +kernel
theorem dX2_comeTo_5 : decode cX2_comeTo 5 = .ok (.bipush 24, 2) := by decide +kernel
theorem dX2_comeTo_7 : decode cX2_comeTo 7 = .ok (.if_icmp .le 4, 3) := by decide +kernel
theorem dX2_comeTo_10 : decode cX2_comeTo 10 = .ok (.return_, 1) := by decide +kernel
theorem dX2_comeTo_11 : decode cX2_comeTo 11 = .ok (.iload_n 2, 1) := by decide +kernel
theorem dX2_comeTo_12 : decode cX2_comeTo 12 = .ok (.ldc 64, 2) := by decide +kernel
theorem dX2_comeTo_14 : decode cX2_comeTo 14 = .ok (.invokestatic 55, 3) := by decide +kernel
theorem dX2_comeTo_17 : decode cX2_comeTo 17 = .ok (.istore 4, 2) := by decide +kernel
theorem dX2_comeTo_19 : decode cX2_comeTo 19 = .ok (.aload_n 0, 1) := by decide +kernel
theorem dX2_comeTo_20 : decode cX2_comeTo 20 = .ok (.getfield 9, 3) := by decide +kernel
theorem dX2_comeTo_23 : decode cX2_comeTo 23 = .ok (.iload_n 1, 1) := by decide +kernel
theorem dX2_comeTo_24 : decode cX2_comeTo 24 = .ok (.iaload, 1) := by decide +kernel
theorem dX2_comeTo_25 : decode cX2_comeTo 25 = .ok (.istore 5, 2) := by decide +kernel
theorem dX2_comeTo_27 : decode cX2_comeTo 27 = .ok (.iload 5, 2) := by decide +kernel
theorem dX2_comeTo_29 : decode cX2_comeTo 29 = .ok (.iconst (-1), 1) := by decide +kernel
theorem dX2_comeTo_30 : decode cX2_comeTo 30 = .ok (.if_icmp .eq 24, 3) := by decide +kernel
theorem dX2_comeTo_33 : decode cX2_comeTo 33 = .ok (.iload_n 3, 1) := by decide +kernel
theorem dX2_comeTo_34 : decode cX2_comeTo 34 = .ok (.ifCond .eq 13, 3) := by decide +kernel
theorem dX2_comeTo_37 : decode cX2_comeTo 37 = .ok (.iload 4, 2) := by decide +kernel
theorem dX2_comeTo_39 : decode cX2_comeTo 39 = .ok (.iload 5, 2) := by decide +kernel
theorem dX2_comeTo_41 : decode cX2_comeTo 41 = .ok (.if_icmp .le 21, 3) := by decide +kernel
theorem dX2_comeTo_44 : decode cX2_comeTo 44 = .ok (.goto 10, 3) := by decide +kernel
theorem dX2_comeTo_47 : decode cX2_comeTo 47 = .ok (.iload 4, 2) := by decide +kernel
theorem dX2_comeTo_49 : decode cX2_comeTo 49 = .ok (.iload 5, 2) := by decide +kernel
theorem dX2_comeTo_51 : decode cX2_comeTo 51 = .ok (.if_icmp .ge 11, 3) := by decide +kernel
theorem dX2_comeTo_54 : decode cX2_comeTo 54 = .ok (.aload_n 0, 1) := by decide +kernel
theorem dX2_comeTo_55 : decode cX2_comeTo 55 = .ok (.getfield 9, 3) := by decide +kernel
theorem dX2_comeTo_58 : decode cX2_comeTo 58 = .ok (.iload_n 1, 1) := by decide +kernel
theorem dX2_comeTo_59 : decode cX2_comeTo 59 = .ok (.iload 4, 2) := by decide +kernel
theorem dX2_comeTo_61 : decode cX2_comeTo 61 = .ok (.iastore, 1) := by decide +kernel
theorem dX2_comeTo_62 : decode cX2_comeTo 62 = .ok (.return_, 1) := by decide +kernel
theorem dX3_init_0 : decode cX3_init 0 = .ok (.aload_n 0, 1) := by decide +kernel
theorem dX3_init_1 : decode cX3_init 1 = .ok (.invokespecial 3, 3) := by decide +kernel
theorem dX3_init_4 : decode cX3_init 4 = .ok (.aload_n 0, 1) := by decide +kernel
theorem dX3_init_5 : decode cX3_init 5 = .ok (.sipush 160, 3) := by decide +kernel
theorem dX3_init_8 : decode cX3_init 8 = .ok (.newarray .int, 2) := by decide +kernel
theorem dX3_init_10 : decode cX3_init 10 = .ok (.putfield 9, 3) := by decide +kernel
theorem dX3_init_13 : decode cX3_init 13 = .ok (.return_, 1) := by decide +kernel
theorem dX3_append_0 : decode cX3_append 0 = .ok (.iconst 4, 1) := by decide +kernel
theorem dX3_append_1 : decode cX3_append 1 = .ok (.aload_n 0, 1) := by decide +kernel
theorem dX3_append_2 : decode cX3_append 2 = .ok (.getfield 15, 3) := by decide +kernel
theorem dX3_append_5 : decode cX3_append 5 = .ok (.imul, 1) := by decide +kernel
theorem dX3_append_6 : decode cX3_append 6 = .ok (.istore 5, 2) := by decide +kernel
theorem dX3_append_8 : decode cX3_append 8 = .ok (.iload 5, 2) := by decide +kernel
theorem dX3_append_10 : decode cX3_append 10 = .ok (.ifCond .lt 15, 3) := by decide +kernel
theorem dX3_append_13 : decode cX3_append 13 = .ok (.iload 5, 2) := by decide +kernel
theorem dX3_append_15 : decode cX3_append 15 = .ok (.iconst 3, 1) := by decide +kernel
theorem dX3_append_16 : decode cX3_append 16 = .ok (.iadd, 1) := by decide +kernel
theorem dX3_append_17 : decode cX3_append 17 = .ok (.aload_n 0, 1) := by decide +kernel
theorem dX3_append_18 : decode cX3_append 18 = .ok (.getfield 9, 3) := by decide +kernel
theorem dX3_append_21 : decode cX3_append 21 = .ok (.arraylength, 1) := by decide +kernel
theorem dX3_append_22 : decode cX3_append 22 = .ok (.if_icmp .lt 4, 3) := by decide +kernel
theorem dX3_append_25 : decode cX3_append 25 = .ok (.return_, 1) := by decide +kernel
theorem dX3_append_26 : decode cX3_append 26 = .ok (.aload_n 0, 1) := by decide +kernel
theorem dX3_append_27 : decode cX3_append 27 = .ok (.getfield 9, 3) := by decide +kernel
theorem dX3_append_30 : decode cX3_append 30 = .ok (.iload 5, 2) := by decide +kernel
theorem dX3_append_32 : decode cX3_append 32 = .ok (.iload_n 1, 1) := by decide +kernel
theorem dX3_append_33 : decode cX3_append 33 = .ok (.iastore, 1) := by decide +kernel
theorem dX3_append_34 : decode cX3_append 34 = .ok (.aload_n 0, 1) := by decide +kernel
theorem dX3_append_35 : decode cX3_append 35 = .ok (.getfield 9, 3) := by decide +kernel
theorem dX3_append_38 : decode cX3_append 38 = .ok (.iload 5, 2) := by decide +kernel
theorem dX3_append_40 : decode cX3_append 40 = .ok (.iconst 1, 1) := by decide +kernel
theorem dX3_append_41 : decode cX3_append 41 = .ok (.iadd, 1) := by decide +kernel
theorem dX3_append_42 : decode cX3_append 42 = .ok (.iload_n 2, 1) := by decide +kernel
theorem dX3_append_43 : decode cX3_append 43 = .ok (.iastore, 1) := by decide +kernel
