theorem dX12_keeps_6 : decode cX12_keeps 6 = .ok (.if_icmp .ge 21, 3) := by decide +kernel
theorem dX12_keeps_9 : decode cX12_keeps 9 = .ok (.aload_n 0, 1) := by decide +kernel
theorem dX12_keeps_10 : decode cX12_keeps 10 = .ok (.getfield 13, 3) := by decide +kernel
theorem dX12_keeps_13 : decode cX12_keeps 13 = .ok (.iload_n 1, 1) := by decide +kernel
theorem dX12_keeps_14 : decode cX12_keeps 14 = .ok (.aload_n 0, 1) := by decide +kernel
theorem dX12_keeps_15 : decode cX12_keeps 15 = .ok (.getfield 7, 3) := by decide +kernel
theorem dX12_keeps_18 : decode cX12_keeps 18 = .ok (.iload_n 1, 1) := by decide +kernel
theorem dX12_keeps_19 : decode cX12_keeps 19 = .ok (.iaload, 1) := by decide +kernel
theorem dX12_keeps_20 : decode cX12_keeps 20 = .ok (.iastore, 1) := by decide +kernel
theorem dX12_keeps_21 : decode cX12_keeps 21 = .ok (.iinc 1 1, 3) := by decide +kernel
theorem dX12_keeps_24 : decode cX12_keeps 24 = .ok (.goto (-22), 3) := by decide +kernel
theorem dX12_keeps_27 : decode cX12_keeps 27 = .ok (.return_, 1) := by decide +kernel
theorem dX12_comesBack_0 : decode cX12_comesBack 0 = .ok (.iconst 0, 1) := by decide +kernel
theorem dX12_comesBack_1 : decode cX12_comesBack 1 = .ok (.istore_n 1, 1) := by decide +kernel
theorem dX12_comesBack_2 : decode cX12_comesBack 2 = .ok (.iload_n 1, 1) := by decide +kernel
theorem dX12_comesBack_3 : decode cX12_comesBack 3 = .ok (.sipush 693, 3) := by decide +kernel
theorem dX12_comesBack_6 : decode cX12_comesBack 6 = .ok (.if_icmp .ge 21, 3) := by decide +kernel
theorem dX12_comesBack_9 : decode cX12_comesBack 9 = .ok (.aload_n 0, 1) := by decide +kernel
theorem dX12_comesBack_10 : decode cX12_comesBack 10 = .ok (.getfield 7, 3) := by decide +kernel
theorem dX12_comesBack_13 : decode cX12_comesBack 13 = .ok (.iload_n 1, 1) := by decide +kernel
theorem dX12_comesBack_14 : decode cX12_comesBack 14 = .ok (.aload_n 0, 1) := by decide +kernel
theorem dX12_comesBack_15 : decode cX12_comesBack 15 = .ok (.getfield 13, 3) := by decide +kernel
theorem dX12_comesBack_18 : decode cX12_comesBack 18 = .ok (.iload_n 1, 1) := by decide +kernel
theorem dX12_comesBack_19 : decode cX12_comesBack 19 = .ok (.iaload, 1) := by decide +kernel
theorem dX12_comesBack_20 : decode cX12_comesBack 20 = .ok (.iastore, 1) := by decide +kernel
theorem dX12_comesBack_21 : decode cX12_comesBack 21 = .ok (.iinc 1 1, 3) := by decide +kernel
theorem dX12_comesBack_24 : decode cX12_comesBack 24 = .ok (.goto (-22), 3) := by decide +kernel
theorem dX12_comesBack_27 : decode cX12_comesBack 27 = .ok (.return_, 1) := by decide +kernel
theorem dX12_tickOf_0 : decode cX12_tickOf 0 = .ok (.iload_n 2, 1) := by decide +kernel
theorem dX12_tickOf_1 : decode cX12_tickOf 1 = .ok (.istore_n 3, 1) := by decide +kernel
theorem dX12_tickOf_2 : decode cX12_tickOf 2 = .ok (.iconst 0, 1) := by decide +kernel
theorem dX12_tickOf_3 : decode cX12_tickOf 3 = .ok (.istore 4, 2) := by decide +kernel
theorem dX12_tickOf_5 : decode cX12_tickOf 5 = .ok (.iload 4, 2) := by decide +kernel
theorem dX12_tickOf_7 : decode cX12_tickOf 7 = .ok (.sipush 300, 3) := by decide +kernel
theorem dX12_tickOf_10 : decode cX12_tickOf 10 = .ok (.if_icmp .ge 38, 3) := by decide +kernel
theorem dX12_tickOf_13 : decode cX12_tickOf 13 = .ok (.aload_n 0, 1) := by decide +kernel
theorem dX12_tickOf_14 : decode cX12_tickOf 14 = .ok (.invokevirtual 172, 3) := by decide +kernel
theorem dX12_tickOf_17 : decode cX12_tickOf 17 = .ok (.iload_n 1, 1) := by decide +kernel
theorem dX12_tickOf_18 : decode cX12_tickOf 18 = .ok (.if_icmp .eq 6, 3) := by decide +kernel
theorem dX12_tickOf_21 : decode cX12_tickOf 21 = .ok (.goto 21, 3) := by decide +kernel
theorem dX12_tickOf_24 : decode cX12_tickOf 24 = .ok (.iinc 3 (-1), 3) := by decide +kernel
theorem dX12_tickOf_27 : decode cX12_tickOf 27 = .ok (.iload_n 3, 1) := by decide +kernel
theorem dX12_tickOf_28 : decode cX12_tickOf 28 = .ok (.ifCond .ne 14, 3) := by decide +kernel
theorem dX12_tickOf_31 : decode cX12_tickOf 31 = .ok (.aload_n 0, 1) := by decide +kernel
theorem dX12_tickOf_32 : decode cX12_tickOf 32 = .ok (.getfield 7, 3) := by decide +kernel
theorem dX12_tickOf_35 : decode cX12_tickOf 35 = .ok (.sipush 683, 3) := by decide +kernel
theorem dX12_tickOf_38 : decode cX12_tickOf 38 = .ok (.iaload, 1) := by decide +kernel
theorem dX12_tickOf_39 : decode cX12_tickOf 39 = .ok (.iconst 1, 1) := by decide +kernel
theorem dX12_tickOf_40 : decode cX12_tickOf 40 = .ok (.isub, 1) := by decide +kernel
theorem dX12_tickOf_41 : decode cX12_tickOf 41 = .ok (.ireturn, 1) := by decide +kernel
theorem dX12_tickOf_42 : decode cX12_tickOf 42 = .ok (.iinc 4 1, 3) := by decide +kernel
theorem dX12_tickOf_45 : decode cX12_tickOf 45 = .ok (.goto (-40), 3) := by decide +kernel
theorem dX12_tickOf_48 : decode cX12_tickOf 48 = .ok (.iconst (-1), 1) := by decide +kernel
theorem dX12_tickOf_49 : decode cX12_tickOf 49 = .ok (.ireturn, 1) := by decide +kernel
theorem dX12_will_0 : decode cX12_will 0 = .ok (.aload_n 0, 1) := by decide +kernel
theorem dX12_will_1 : decode cX12_will 1 = .ok (.iconst 0, 1) := by decide +kernel
theorem dX12_will_2 : decode cX12_will 2 = .ok (.putfield 73, 3) := by decide +kernel
theorem dX12_will_5 : decode cX12_will 5 = .ok (.iload_n 1, 1) := by decide +kernel
theorem dX12_will_6 : decode cX12_will 6 = .ok (.invokestatic 80, 3) := by decide +kernel
theorem dX12_will_9 : decode cX12_will 9 = .ok (.ifCond .eq 13, 3) := by decide +kernel
theorem dX12_will_12 : decode cX12_will 12 = .ok (.iload_n 2, 1) := by decide +kernel
theorem dX12_will_13 : decode cX12_will 13 = .ok (.iconst 1, 1) := by decide +kernel
theorem dX12_will_14 : decode cX12_will 14 = .ok (.bipush 60, 2) := by decide +kernel
theorem dX12_will_16 : decode cX12_will 16 = .ok (.invokestatic 76, 3) := by decide +kernel
theorem dX12_will_19 : decode cX12_will 19 = .ok (.ifCond .ne 5, 3) := by decide +kernel
theorem dX12_will_22 : decode cX12_will 22 = .ok (.iconst (-1), 1) := by decide +kernel
theorem dX12_will_23 : decode cX12_will 23 = .ok (.ireturn, 1) := by decide +kernel
theorem dX12_will_24 : decode cX12_will 24 = .ok (.aload_n 0, 1) := by decide +kernel
theorem dX12_will_25 : decode cX12_will 25 = .ok (.invokevirtual 227, 3) := by decide +kernel
theorem dX12_will_28 : decode cX12_will 28 = .ok (.aload_n 0, 1) := by decide +kernel
theorem dX12_will_29 : decode cX12_will 29 = .ok (.iload_n 1, 1) := by decide +kernel
theorem dX12_will_30 : decode cX12_will 30 = .ok (.iload_n 2, 1) := by decide +kernel
theorem dX12_will_31 : decode cX12_will 31 = .ok (.invokevirtual 230, 3) := by decide +kernel
theorem dX12_will_34 : decode cX12_will 34 = .ok (.istore_n 3, 1) := by decide +kernel
theorem dX12_will_35 : decode cX12_will 35 = .ok (.aload_n 0, 1) := by decide +kernel
theorem dX12_will_36 : decode cX12_will 36 = .ok (.invokevirtual 233, 3) := by decide +kernel
theorem dX12_will_39 : decode cX12_will 39 = .ok (.iload_n 3, 1) := by decide +kernel
theorem dX12_will_40 : decode cX12_will 40 = .ok (.ireturn, 1) := by decide +kernel
theorem dX12_alone_0 : decode cX12_alone 0 = .ok (.aload_n 0, 1) := by decide +kernel
theorem dX12_alone_1 : decode cX12_alone 1 = .ok (.iconst 0, 1) := by decide +kernel
theorem dX12_alone_2 : decode cX12_alone 2 = .ok (.putfield 73, 3) := by decide +kernel
theorem dX12_alone_5 : decode cX12_alone 5 = .ok (.iload_n 1, 1) := by decide +kernel
theorem dX12_alone_6 : decode cX12_alone 6 = .ok (.invokestatic 80, 3) := by decide +kernel
theorem dX12_alone_9 : decode cX12_alone 9 = .ok (.ifCond .eq 13, 3) := by decide +kernel
theorem dX12_alone_12 : decode cX12_alone 12 = .ok (.iload_n 2, 1) := by decide +kernel
theorem dX12_alone_13 : decode cX12_alone 13 = .ok (.iconst 1, 1) := by decide +kernel
theorem dX12_alone_14 : decode cX12_alone 14 = .ok (.bipush 60, 2) := by decide +kernel
theorem dX12_alone_16 : decode cX12_alone 16 = .ok (.invokestatic 76, 3) := by decide +kernel
theorem dX12_alone_19 : decode cX12_alone 19 = .ok (.ifCond .ne 5, 3) := by decide +kernel
theorem dX12_alone_22 : decode cX12_alone 22 = .ok (.iconst (-1), 1) := by decide +kernel
theorem dX12_alone_23 : decode cX12_alone 23 = .ok (.ireturn, 1) := by decide +kernel
theorem dX12_alone_24 : decode cX12_alone 24 = .ok (.aload_n 0, 1) := by decide +kernel
theorem dX12_alone_25 : decode cX12_alone 25 = .ok (.invokevirtual 227, 3) := by decide +kernel
theorem dX12_alone_28 : decode cX12_alone 28 = .ok (.iconst 0, 1) := by decide +kernel
theorem dX12_alone_29 : decode cX12_alone 29 = .ok (.istore_n 3, 1) := by decide +kernel
theorem dX12_alone_30 : decode cX12_alone 30 = .ok (.iload_n 3, 1) := by decide +kernel
theorem dX12_alone_31 : decode cX12_alone 31 = .ok (.bipush 6, 2) := by decide +kernel
theorem dX12_alone_33 : decode cX12_alone 33 = .ok (.if_icmp .ge 31, 3) := by decide +kernel
theorem dX12_alone_36 : decode cX12_alone 36 = .ok (.aload_n 0, 1) := by decide +kernel
theorem dX12_alone_37 : decode cX12_alone 37 = .ok (.getfield 67, 3) := by decide +kernel
theorem dX12_alone_40 : decode cX12_alone 40 = .ok (.iload_n 3, 1) := by decide +kernel
theorem dX12_alone_41 : decode cX12_alone 41 = .ok (.aload_n 0, 1) := by decide +kernel
theorem dX12_alone_42 : decode cX12_alone 42 = .ok (.getfield 19, 3) := by decide +kernel
theorem dX12_alone_45 : decode cX12_alone 45 = .ok (.iload_n 3, 1) := by decide +kernel
theorem dX12_alone_46 : decode cX12_alone 46 = .ok (.iaload, 1) := by decide +kernel
theorem dX12_alone_47 : decode cX12_alone 47 = .ok (.iastore, 1) := by decide +kernel
theorem dX12_alone_48 : decode cX12_alone 48 = .ok (.iload_n 3, 1) := by decide +kernel
theorem dX12_alone_49 : decode cX12_alone 49 = .ok (.iload_n 1, 1) := by decide +kernel
theorem dX12_alone_50 : decode cX12_alone 50 = .ok (.if_icmp .eq 8, 3) := by decide +kernel
theorem dX12_alone_53 : decode cX12_alone 53 = .ok (.aload_n 0, 1) := by decide +kernel
theorem dX12_alone_54 : decode cX12_alone 54 = .ok (.iload_n 3, 1) := by decide +kernel
theorem dX12_alone_55 : decode cX12_alone 55 = .ok (.invokevirtual 92, 3) := by decide +kernel
theorem dX12_alone_58 : decode cX12_alone 58 = .ok (.iinc 3 1, 3) := by decide +kernel
theorem dX12_alone_61 : decode cX12_alone 61 = .ok (.goto (-31), 3) := by decide +kernel
theorem dX12_alone_64 : decode cX12_alone 64 = .ok (.aload_n 0, 1) := by decide +kernel
theorem dX12_alone_65 : decode cX12_alone 65 = .ok (.iload_n 1, 1) := by decide +kernel
theorem dX12_alone_66 : decode cX12_alone 66 = .ok (.iload_n 2, 1) := by decide +kernel
theorem dX12_alone_67 : decode cX12_alone 67 = .ok (.invokevirtual 230, 3) := by decide +kernel
theorem dX12_alone_70 : decode cX12_alone 70 = .ok (.istore_n 3, 1) := by decide +kernel
theorem dX12_alone_71 : decode cX12_alone 71 = .ok (.iconst 0, 1) := by decide +kernel
theorem dX12_alone_72 : decode cX12_alone 72 = .ok (.istore 4, 2) := by decide +kernel
theorem dX12_alone_74 : decode cX12_alone 74 = .ok (.iload 4, 2) := by decide +kernel
theorem dX12_alone_76 : decode cX12_alone 76 = .ok (.bipush 6, 2) := by decide +kernel
theorem dX12_alone_78 : decode cX12_alone 78 = .ok (.if_icmp .ge 23, 3) := by decide +kernel
theorem dX12_alone_81 : decode cX12_alone 81 = .ok (.aload_n 0, 1) := by decide +kernel
theorem dX12_alone_82 : decode cX12_alone 82 = .ok (.getfield 19, 3) := by decide +kernel
theorem dX12_alone_85 : decode cX12_alone 85 = .ok (.iload 4, 2) := by decide +kernel
theorem dX12_alone_87 : decode cX12_alone 87 = .ok (.aload_n 0, 1) := by decide +kernel
theorem dX12_alone_88 : decode cX12_alone 88 = .ok (.getfield 67, 3) := by decide +kernel
theorem dX12_alone_91 : decode cX12_alone 91 = .ok (.iload 4, 2) := by decide +kernel
theorem dX12_alone_93 : decode cX12_alone 93 = .ok (.iaload, 1) := by decide +kernel
theorem dX12_alone_94 : decode cX12_alone 94 = .ok (.iastore, 1) := by decide +kernel
theorem dX12_alone_95 : decode cX12_alone 95 = .ok (.iinc 4 1, 3) := by decide +kernel
theorem dX12_alone_98 : decode cX12_alone 98 = .ok (.goto (-24), 3) := by decide +kernel
theorem dX12_alone_101 : decode cX12_alone 101 = .ok (.aload_n 0, 1) := by decide +kernel
theorem dX12_alone_102 : decode cX12_alone 102 = .ok (.invokevirtual 233, 3) := by decide +kernel
theorem dX12_alone_105 : decode cX12_alone 105 = .ok (.iload_n 3, 1) := by decide +kernel
theorem dX12_alone_106 : decode cX12_alone 106 = .ok (.ireturn, 1) := by decide +kernel
theorem dX12_ahead_0 : decode cX12_ahead 0 = .ok (.aload_n 0, 1) := by decide +kernel
theorem dX12_ahead_1 : decode cX12_ahead 1 = .ok (.iload_n 1, 1) := by decide +kernel
theorem dX12_ahead_2 : decode cX12_ahead 2 = .ok (.invokestatic 80, 3) := by decide +kernel
theorem dX12_ahead_5 : decode cX12_ahead 5 = .ok (.ifCond .eq 28, 3) := by decide +kernel
theorem dX12_ahead_8 : decode cX12_ahead 8 = .ok (.iload_n 2, 1) := by decide +kernel
theorem dX12_ahead_9 : decode cX12_ahead 9 = .ok (.iconst 0, 1) := by decide +kernel
theorem dX12_ahead_10 : decode cX12_ahead 10 = .ok (.bipush 7, 2) := by decide +kernel
theorem dX12_ahead_12 : decode cX12_ahead 12 = .ok (.invokestatic 76, 3) := by decide +kernel
theorem dX12_ahead_15 : decode cX12_ahead 15 = .ok (.ifCond .eq 18, 3) := by decide +kernel
theorem dX12_ahead_18 : decode cX12_ahead 18 = .ok (.iload_n 3, 1) := by decide +kernel
theorem dX12_ahead_19 : decode cX12_ahead 19 = .ok (.iconst 1, 1) := by decide +kernel
theorem dX12_ahead_20 : decode cX12_ahead 20 = .ok (.sipush 300, 3) := by decide +kernel
theorem dX12_ahead_23 : decode cX12_ahead 23 = .ok (.invokestatic 76, 3) := by decide +kernel
theorem dX12_ahead_26 : decode cX12_ahead 26 = .ok (.ifCond .eq 7, 3) := by decide +kernel
theorem dX12_ahead_29 : decode cX12_ahead 29 = .ok (.iconst 1, 1) := by decide +kernel
theorem dX12_ahead_30 : decode cX12_ahead 30 = .ok (.goto 4, 3) := by decide +kernel
theorem dX12_ahead_33 : decode cX12_ahead 33 = .ok (.iconst 0, 1) := by decide +kernel
theorem dX12_ahead_34 : decode cX12_ahead 34 = .ok (.invokevirtual 175, 3) := by decide +kernel
theorem dX12_ahead_37 : decode cX12_ahead 37 = .ok (.ifCond .eq 5, 3) := by decide +kernel
theorem dX12_ahead_40 : decode cX12_ahead 40 = .ok (.iconst 0, 1) := by decide +kernel
theorem dX12_ahead_41 : decode cX12_ahead 41 = .ok (.ireturn, 1) := by decide +kernel
theorem dX12_ahead_42 : decode cX12_ahead 42 = .ok (.aload_n 0, 1) := by decide +kernel
theorem dX12_ahead_43 : decode cX12_ahead 43 = .ok (.invokevirtual 227, 3) := by decide +kernel
theorem dX12_ahead_46 : decode cX12_ahead 46 = .ok (.iconst 0, 1) := by decide +kernel
theorem dX12_ahead_47 : decode cX12_ahead 47 = .ok (.istore 4, 2) := by decide +kernel
theorem dX12_ahead_49 : decode cX12_ahead 49 = .ok (.iload 4, 2) := by decide +kernel
theorem dX12_ahead_51 : decode cX12_ahead 51 = .ok (.iload_n 3, 1) := by decide +kernel
theorem dX12_ahead_52 : decode cX12_ahead 52 = .ok (.if_icmp .ge 14, 3) := by decide +kernel
theorem dX12_ahead_55 : decode cX12_ahead 55 = .ok (.aload_n 0, 1) := by decide +kernel
theorem dX12_ahead_56 : decode cX12_ahead 56 = .ok (.invokevirtual 172, 3) := by decide +kernel
theorem dX12_ahead_59 : decode cX12_ahead 59 = .ok (.pop, 1) := by decide +kernel
theorem dX12_ahead_60 : decode cX12_ahead 60 = .ok (.iinc 4 1, 3) := by decide +kernel
theorem dX12_ahead_63 : decode cX12_ahead 63 = .ok (.goto (-14), 3) := by decide +kernel
theorem dX12_ahead_66 : decode cX12_ahead 66 = .ok (.aload_n 0, 1) := by decide +kernel
theorem dX12_ahead_67 : decode cX12_ahead 67 = .ok (.iload_n 1, 1) := by decide +kernel
theorem dX12_ahead_68 : decode cX12_ahead 68 = .ok (.iload_n 2, 1) := by decide +kernel
theorem dX12_ahead_69 : decode cX12_ahead 69 = .ok (.invokevirtual 139, 3) := by decide +kernel
theorem dX12_ahead_72 : decode cX12_ahead 72 = .ok (.istore 4, 2) := by decide +kernel
theorem dX12_ahead_74 : decode cX12_ahead 74 = .ok (.aload_n 0, 1) := by decide +kernel
theorem dX12_ahead_75 : decode cX12_ahead 75 = .ok (.invokevirtual 233, 3) := by decide +kernel
theorem dX12_ahead_78 : decode cX12_ahead 78 = .ok (.iload 4, 2) := by decide +kernel
theorem dX12_ahead_80 : decode cX12_ahead 80 = .ok (.ireturn, 1) := by decide +kernel
theorem dX12_allOf_0 : decode cX12_allOf 0 = .ok (.iconst 0, 1) := by decide +kernel
theorem dX12_allOf_1 : decode cX12_allOf 1 = .ok (.istore_n 2, 1) := by decide +kernel
theorem dX12_allOf_2 : decode cX12_allOf 2 = .ok (.iconst 0, 1) := by decide +kernel
theorem dX12_allOf_3 : decode cX12_allOf 3 = .ok (.istore_n 3, 1) := by decide +kernel
theorem dX12_allOf_4 : decode cX12_allOf 4 = .ok (.iload_n 3, 1) := by decide +kernel
theorem dX12_allOf_5 : decode cX12_allOf 5 = .ok (.bipush 6, 2) := by decide +kernel
theorem dX12_allOf_7 : decode cX12_allOf 7 = .ok (.if_icmp .ge 20, 3) := by decide +kernel
theorem dX12_allOf_10 : decode cX12_allOf 10 = .ok (.iload_n 2, 1) := by decide +kernel
theorem dX12_allOf_11 : decode cX12_allOf 11 = .ok (.aload_n 0, 1) := by decide +kernel
theorem dX12_allOf_12 : decode cX12_allOf 12 = .ok (.getfield 7, 3) := by decide +kernel
theorem dX12_allOf_15 : decode cX12_allOf 15 = .ok (.iload_n 1, 1) := by decide +kernel
theorem dX12_allOf_16 : decode cX12_allOf 16 = .ok (.iload_n 3, 1) := by decide +kernel
theorem dX12_allOf_17 : decode cX12_allOf 17 = .ok (.iadd, 1) := by decide +kernel
theorem dX12_allOf_18 : decode cX12_allOf 18 = .ok (.iaload, 1) := by decide +kernel
theorem dX12_allOf_19 : decode cX12_allOf 19 = .ok (.iadd, 1) := by decide +kernel
theorem dX12_allOf_20 : decode cX12_allOf 20 = .ok (.istore_n 2, 1) := by decide +kernel
theorem dX12_allOf_21 : decode cX12_allOf 21 = .ok (.iinc 3 1, 3) := by decide +kernel
theorem dX12_allOf_24 : decode cX12_allOf 24 = .ok (.goto (-20), 3) := by decide +kernel
theorem dX12_allOf_27 : decode cX12_allOf 27 = .ok (.iload_n 2, 1) := by decide +kernel
theorem dX12_allOf_28 : decode cX12_allOf 28 = .ok (.ireturn, 1) := by decide +kernel
theorem dX12_share_0 : decode cX12_share 0 = .ok (.aload_n 0, 1) := by decide +kernel
theorem dX12_share_1 : decode cX12_share 1 = .ok (.iconst 0, 1) := by decide +kernel
theorem dX12_share_2 : decode cX12_share 2 = .ok (.putfield 73, 3) := by decide +kernel
theorem dX12_share_5 : decode cX12_share 5 = .ok (.iload_n 1, 1) := by decide +kernel
theorem dX12_share_6 : decode cX12_share 6 = .ok (.invokestatic 80, 3) := by decide +kernel
theorem dX12_share_9 : decode cX12_share 9 = .ok (.ifCond .eq 41, 3) := by decide +kernel
theorem dX12_share_12 : decode cX12_share 12 = .ok (.aload_n 0, 1) := by decide +kernel
theorem dX12_share_13 : decode cX12_share 13 = .ok (.getfield 7, 3) := by decide +kernel
theorem dX12_share_16 : decode cX12_share 16 = .ok (.sipush 683, 3) := by decide +kernel
theorem dX12_share_19 : decode cX12_share 19 = .ok (.iaload, 1) := by decide +kernel
theorem dX12_share_20 : decode cX12_share 20 = .ok (.ifCond .le 30, 3) := by decide +kernel
theorem dX12_share_23 : decode cX12_share 23 = .ok (.aload_n 0, 1) := by decide +kernel
theorem dX12_share_24 : decode cX12_share 24 = .ok (.getfield 7, 3) := by decide +kernel
theorem dX12_share_27 : decode cX12_share 27 = .ok (.sipush 450, 3) := by decide +kernel
theorem dX12_share_30 : decode cX12_share 30 = .ok (.iload_n 1, 1) := by decide +kernel
theorem dX12_share_31 : decode cX12_share 31 = .ok (.iadd, 1) := by decide +kernel
theorem dX12_share_32 : decode cX12_share 32 = .ok (.iaload, 1) := by decide +kernel
theorem dX12_share_33 : decode cX12_share 33 = .ok (.i2f, 1) := by decide +kernel
theorem dX12_share_34 : decode cX12_share 34 = .ok (.aload_n 0, 1) := by decide +kernel
theorem dX12_share_35 : decode cX12_share 35 = .ok (.getfield 7, 3) := by decide +kernel
theorem dX12_share_38 : decode cX12_share 38 = .ok (.sipush 683, 3) := by decide +kernel
theorem dX12_share_41 : decode cX12_share 41 = .ok (.iaload, 1) := by decide +kernel
theorem dX12_share_42 : decode cX12_share 42 = .ok (.i2f, 1) := by decide +kernel
theorem dX12_share_43 : decode cX12_share 43 = .ok (.fdiv, 1) := by decide +kernel
theorem dX12_share_44 : decode cX12_share 44 = .ok (.invokestatic 165, 3) := by decide +kernel
theorem dX12_share_47 : decode cX12_share 47 = .ok (.goto 4, 3) := by decide +kernel
theorem dX12_share_50 : decode cX12_share 50 = .ok (.iconst (-1), 1) := by decide +kernel
theorem dX12_share_51 : decode cX12_share 51 = .ok (.ireturn, 1) := by decide +kernel
theorem dX12_spares_0 : decode cX12_spares 0 = .ok (.iconst 0, 1) := by decide +kernel
theorem dX12_spares_1 : decode cX12_spares 1 = .ok (.istore_n 1, 1) := by decide +kernel
theorem dX12_spares_2 : decode cX12_spares 2 = .ok (.iconst 0, 1) := by decide +kernel
theorem dX12_spares_3 : decode cX12_spares 3 = .ok (.istore_n 2, 1) := by decide +kernel
theorem dX12_spares_4 : decode cX12_spares 4 = .ok (.iload_n 2, 1) := by decide +kernel
theorem dX12_spares_5 : decode cX12_spares 5 = .ok (.aload_n 0, 1) := by decide +kernel
theorem dX12_spares_6 : decode cX12_spares 6 = .ok (.getfield 44, 3) := by decide +kernel
theorem dX12_spares_9 : decode cX12_spares 9 = .ok (.if_icmp .ge 21, 3) := by decide +kernel
theorem dX12_spares_12 : decode cX12_spares 12 = .ok (.aload_n 0, 1) := by decide +kernel
theorem dX12_spares_13 : decode cX12_spares 13 = .ok (.getfield 41, 3) := by decide +kernel
theorem dX12_spares_16 : decode cX12_spares 16 = .ok (.iload_n 2, 1) := by decide +kernel
theorem dX12_spares_17 : decode cX12_spares 17 = .ok (.iaload, 1) := by decide +kernel
theorem dX12_spares_18 : decode cX12_spares 18 = .ok (.ifCond .ge 6, 3) := by decide +kernel
theorem dX12_spares_21 : decode cX12_spares 21 = .ok (.iinc 1 1, 3) := by decide +kernel
theorem dX12_spares_24 : decode cX12_spares 24 = .ok (.iinc 2 1, 3) := by decide +kernel
theorem dX12_spares_27 : decode cX12_spares 27 = .ok (.goto (-23), 3) := by decide +kernel
theorem dX12_spares_30 : decode cX12_spares 30 = .ok (.iload_n 1, 1) := by decide +kernel
theorem dX12_spares_31 : decode cX12_spares 31 = .ok (.ireturn, 1) := by decide +kernel
theorem dX12_setOf_0 : decode cX12_setOf 0 = .ok (.iconst 0, 1) := by decide +kernel
theorem dX12_setOf_1 : decode cX12_setOf 1 = .ok (.istore_n 2, 1) := by decide +kernel
theorem dX12_setOf_2 : decode cX12_setOf 2 = .ok (.iconst 0, 1) := by decide +kernel
theorem dX12_setOf_3 : decode cX12_setOf 3 = .ok (.istore_n 3, 1) := by decide +kernel
theorem dX12_setOf_4 : decode cX12_setOf 4 = .ok (.iload_n 3, 1) := by decide +kernel
theorem dX12_setOf_5 : decode cX12_setOf 5 = .ok (.bipush 6, 2) := by decide +kernel
theorem dX12_setOf_7 : decode cX12_setOf 7 = .ok (.if_icmp .ge 44, 3) := by decide +kernel
theorem dX12_setOf_10 : decode cX12_setOf 10 = .ok (.iload_n 1, 1) := by decide +kernel
theorem dX12_setOf_11 : decode cX12_setOf 11 = .ok (.ifCond .eq 20, 3) := by decide +kernel
theorem dX12_setOf_14 : decode cX12_setOf 14 = .ok (.aload_n 0, 1) := by decide +kernel
theorem dX12_setOf_15 : decode cX12_setOf 15 = .ok (.getfield 7, 3) := by decide +kernel
theorem dX12_setOf_18 : decode cX12_setOf 18 = .ok (.sipush 438, 3) := by decide +kernel
theorem dX12_setOf_21 : decode cX12_setOf 21 = .ok (.iload_n 3, 1) := by decide +kernel
theorem dX12_setOf_22 : decode cX12_setOf 22 = .ok (.iadd, 1) := by decide +kernel
theorem dX12_setOf_23 : decode cX12_setOf 23 = .ok (.iaload, 1) := by decide +kernel
theorem dX12_setOf_24 : decode cX12_setOf 24 = .ok (.iconst 5, 1) := by decide +kernel
theorem dX12_setOf_25 : decode cX12_setOf 25 = .ok (.if_icmp .ne 20, 3) := by decide +kernel
theorem dX12_setOf_28 : decode cX12_setOf 28 = .ok (.goto 11, 3) := by decide +kernel
theorem dX12_setOf_31 : decode cX12_setOf 31 = .ok (.aload_n 0, 1) := by decide +kernel
theorem dX12_setOf_32 : decode cX12_setOf 32 = .ok (.iload_n 3, 1) := by decide +kernel
theorem dX12_setOf_33 : decode cX12_setOf 33 = .ok (.invokevirtual 224, 3) := by decide +kernel
theorem dX12_setOf_36 : decode cX12_setOf 36 = .ok (.ifCond .eq 9, 3) := by decide +kernel
theorem dX12_setOf_39 : decode cX12_setOf 39 = .ok (.iload_n 2, 1) := by decide +kernel
theorem dX12_setOf_40 : decode cX12_setOf 40 = .ok (.iconst 1, 1) := by decide +kernel
theorem dX12_setOf_41 : decode cX12_setOf 41 = .ok (.iload_n 3, 1) := by decide +kernel
theorem dX12_setOf_42 : decode cX12_setOf 42 = .ok (.ishl, 1) := by decide +kernel
theorem dX12_setOf_43 : decode cX12_setOf 43 = .ok (.ior, 1) := by decide +kernel
theorem dX12_setOf_44 : decode cX12_setOf 44 = .ok (.istore_n 2, 1) := by decide +kernel
theorem dX12_setOf_45 : decode cX12_setOf 45 = .ok (.iinc 3 1, 3) := by decide +kernel
theorem dX12_setOf_48 : decode cX12_setOf 48 = .ok (.goto (-44), 3) := by decide +kernel
theorem dX12_setOf_51 : decode cX12_setOf 51 = .ok (.iload_n 2, 1) := by decide +kernel
theorem dX12_setOf_52 : decode cX12_setOf 52 = .ok (.ireturn, 1) := by decide +kernel
theorem dX12_count_0 : decode cX12_count 0 = .ok (.aload_n 0, 1) := by decide +kernel
theorem dX12_count_1 : decode cX12_count 1 = .ok (.iconst 0, 1) := by decide +kernel
theorem dX12_count_2 : decode cX12_count 2 = .ok (.putfield 73, 3) := by decide +kernel
theorem dX12_count_5 : decode cX12_count 5 = .ok (.iload_n 1, 1) := by decide +kernel
theorem dX12_count_6 : decode cX12_count 6 = .ok (.tableswitch 162 0 12 #[66, 75, 80, 85, 93, 102, 110, 119, 124, 132, 141, 147, 153], 66) := by decide +kernel
theorem dX12_count_72 : decode cX12_count 72 = .ok (.aload_n 0, 1) := by decide +kernel
theorem dX12_count_73 : decode cX12_count 73 = .ok (.getfield 7, 3) := by decide +kernel
theorem dX12_count_76 : decode cX12_count 76 = .ok (.sipush 683, 3) := by decide +kernel
theorem dX12_count_79 : decode cX12_count 79 = .ok (.iaload, 1) := by decide +kernel
theorem dX12_count_80 : decode cX12_count 80 = .ok (.ireturn, 1) := by decide +kernel
theorem dX12_count_81 : decode cX12_count 81 = .ok (.aload_n 0, 1) := by decide +kernel
theorem dX12_count_82 : decode cX12_count 82 = .ok (.getfield 44, 3) := by decide +kernel
theorem dX12_count_85 : decode cX12_count 85 = .ok (.ireturn, 1) := by decide +kernel
theorem dX12_count_86 : decode cX12_count 86 = .ok (.aload_n 0, 1) := by decide +kernel
theorem dX12_count_87 : decode cX12_count 87 = .ok (.invokevirtual 236, 3) := by decide +kernel
theorem dX12_count_90 : decode cX12_count 90 = .ok (.ireturn, 1) := by decide +kernel
theorem dX12_count_91 : decode cX12_count 91 = .ok (.aload_n 0, 1) := by decide +kernel
theorem dX12_count_92 : decode cX12_count 92 = .ok (.sipush 456, 3) := by decide +kernel
theorem dX12_count_95 : decode cX12_count 95 = .ok (.invokevirtual 239, 3) := by decide +kernel
theorem dX12_count_98 : decode cX12_count 98 = .ok (.ireturn, 1) := by decide +kernel
theorem dX12_count_99 : decode cX12_count 99 = .ok (.aload_n 0, 1) := by decide +kernel
theorem dX12_count_100 : decode cX12_count 100 = .ok (.getfield 7, 3) := by decide +kernel
theorem dX12_count_103 : decode cX12_count 103 = .ok (.sipush 685, 3) := by decide +kernel
theorem dX12_count_106 : decode cX12_count 106 = .ok (.iaload, 1) := by decide +kernel
theorem dX12_count_107 : decode cX12_count 107 = .ok (.ireturn, 1) := by decide +kernel
theorem dX12_count_108 : decode cX12_count 108 = .ok (.aload_n 0, 1) := by decide +kernel
theorem dX12_count_109 : decode cX12_count 109 = .ok (.sipush 450, 3) := by decide +kernel
theorem dX12_count_112 : decode cX12_count 112 = .ok (.invokevirtual 239, 3) := by decide +kernel
theorem dX12_count_115 : decode cX12_count 115 = .ok (.ireturn, 1) := by decide +kernel
theorem dX12_count_116 : decode cX12_count 116 = .ok (.aload_n 0, 1) := by decide +kernel
theorem dX12_count_117 : decode cX12_count 117 = .ok (.getfield 7, 3) := by decide +kernel
theorem dX12_count_120 : decode cX12_count 120 = .ok (.sipush 682, 3) := by decide +kernel
theorem dX12_count_123 : decode cX12_count 123 = .ok (.iaload, 1) := by decide +kernel
theorem dX12_count_124 : decode cX12_count 124 = .ok (.ireturn, 1) := by decide +kernel
theorem dX12_count_125 : decode cX12_count 125 = .ok (.aload_n 0, 1) := by decide +kernel
theorem dX12_count_126 : decode cX12_count 126 = .ok (.getfield 96, 3) := by decide +kernel
theorem dX12_count_129 : decode cX12_count 129 = .ok (.ireturn, 1) := by decide +kernel
theorem dX12_count_130 : decode cX12_count 130 = .ok (.aload_n 0, 1) := by decide +kernel
theorem dX12_count_131 : decode cX12_count 131 = .ok (.sipush 474, 3) := by decide +kernel
theorem dX12_count_134 : decode cX12_count 134 = .ok (.invokevirtual 239, 3) := by decide +kernel
theorem dX12_count_137 : decode cX12_count 137 = .ok (.ireturn, 1) := by decide +kernel
theorem dX12_count_138 : decode cX12_count 138 = .ok (.aload_n 0, 1) := by decide +kernel
theorem dX12_count_139 : decode cX12_count 139 = .ok (.getfield 7, 3) := by decide +kernel
theorem dX12_count_142 : decode cX12_count 142 = .ok (.sipush 684, 3) := by decide +kernel
theorem dX12_count_145 : decode cX12_count 145 = .ok (.iaload, 1) := by decide +kernel
theorem dX12_count_146 : decode cX12_count 146 = .ok (.ireturn, 1) := by decide +kernel
theorem dX12_count_147 : decode cX12_count 147 = .ok (.aload_n 0, 1) := by decide +kernel
theorem dX12_count_148 : decode cX12_count 148 = .ok (.iconst 1, 1) := by decide +kernel
theorem dX12_count_149 : decode cX12_count 149 = .ok (.invokevirtual 242, 3) := by decide +kernel
theorem dX12_count_152 : decode cX12_count 152 = .ok (.ireturn, 1) := by decide +kernel
theorem dX12_count_153 : decode cX12_count 153 = .ok (.aload_n 0, 1) := by decide +kernel
theorem dX12_count_154 : decode cX12_count 154 = .ok (.iconst 0, 1) := by decide +kernel
theorem dX12_count_155 : decode cX12_count 155 = .ok (.invokevirtual 242, 3) := by decide +kernel
theorem dX12_count_158 : decode cX12_count 158 = .ok (.ireturn, 1) := by decide +kernel
theorem dX12_count_159 : decode cX12_count 159 = .ok (.aload_n 0, 1) := by decide +kernel
theorem dX12_count_160 : decode cX12_count 160 = .ok (.getfield 7, 3) := by decide +kernel
theorem dX12_count_163 : decode cX12_count 163 = .ok (.sipush 686, 3) := by decide +kernel
theorem dX12_count_166 : decode cX12_count 166 = .ok (.iaload, 1) := by decide +kernel
theorem dX12_count_167 : decode cX12_count 167 = .ok (.ireturn, 1) := by decide +kernel
theorem dX12_count_168 : decode cX12_count 168 = .ok (.iconst (-1), 1) := by decide +kernel
theorem dX12_count_169 : decode cX12_count 169 = .ok (.ireturn, 1) := by decide +kernel
theorem dJxf58ca_isNaN_12338_0 : decode cJxf58ca_isNaN_12338 0 = .ok (.fload_n 0, 1) := by decide +kernel
theorem dJxf58ca_isNaN_12338_1 : decode cJxf58ca_isNaN_12338 1 = .ok (.fload_n 0, 1) := by decide +kernel
theorem dJxf58ca_isNaN_12338_2 : decode cJxf58ca_isNaN_12338 2 = .ok (.fcmp .l, 1) := by decide +kernel
theorem dJxf58ca_isNaN_12338_3 : decode cJxf58ca_isNaN_12338 3 = .ok (.ifCond .eq 7, 3) := by decide +kernel
theorem dJxf58ca_isNaN_12338_6 : decode cJxf58ca_isNaN_12338 6 = .ok (.iconst 1, 1) := by decide +kernel
theorem dJxf58ca_isNaN_12338_7 : decode cJxf58ca_isNaN_12338 7 = .ok (.goto 4, 3) := by decide +kernel
theorem dJxf58ca_isNaN_12338_10 : decode cJxf58ca_isNaN_12338 10 = .ok (.iconst 0, 1) := by decide +kernel
theorem dJxf58ca_isNaN_12338_11 : decode cJxf58ca_isNaN_12338 11 = .ok (.ireturn, 1) := by decide +kernel
theorem dJxf58ca_floatToIntBits_5c35a_0 : decode cJxf58ca_floatToIntBits_5c35a 0 = .ok (.fload_n 0, 1) := by decide +kernel
theorem dJxf58ca_floatToIntBits_5c35a_1 : decode cJxf58ca_floatToIntBits_5c35a 1 = .ok (.invokestatic 59, 3) := by decide +kernel
theorem dJxf58ca_floatToIntBits_5c35a_4 : decode cJxf58ca_floatToIntBits_5c35a 4 = .ok (.ifCond .ne 8, 3) := by decide +kernel
theorem dJxf58ca_floatToIntBits_5c35a_7 : decode cJxf58ca_floatToIntBits_5c35a 7 = .ok (.fload_n 0, 1) := by decide +kernel
theorem dJxf58ca_floatToIntBits_5c35a_8 : decode cJxf58ca_floatToIntBits_5c35a 8 = .ok (.invokestatic 74, 3) := by decide +kernel
theorem dJxf58ca_floatToIntBits_5c35a_11 : decode cJxf58ca_floatToIntBits_5c35a 11 = .ok (.ireturn, 1) := by decide +kernel
theorem dJxf58ca_floatToIntBits_5c35a_12 : decode cJxf58ca_floatToIntBits_5c35a 12 = .ok (.ldc 77, 2) := by decide +kernel
theorem dJxf58ca_floatToIntBits_5c35a_14 : decode cJxf58ca_floatToIntBits_5c35a 14 = .ok (.ireturn, 1) := by decide +kernel
theorem dJ9_max_7cf53_0 : decode cJ9_max_7cf53 0 = .ok (.iload_n 0, 1) := by decide +kernel
theorem dJ9_max_7cf53_1 : decode cJ9_max_7cf53 1 = .ok (.iload_n 1, 1) := by decide +kernel
theorem dJ9_max_7cf53_2 : decode cJ9_max_7cf53 2 = .ok (.if_icmp .lt 7, 3) := by decide +kernel
theorem dJ9_max_7cf53_5 : decode cJ9_max_7cf53 5 = .ok (.iload_n 0, 1) := by decide +kernel
theorem dJ9_max_7cf53_6 : decode cJ9_max_7cf53 6 = .ok (.goto 4, 3) := by decide +kernel
theorem dJ9_max_7cf53_9 : decode cJ9_max_7cf53 9 = .ok (.iload_n 1, 1) := by decide +kernel
theorem dJ9_max_7cf53_10 : decode cJ9_max_7cf53 10 = .ok (.ireturn, 1) := by decide +kernel
theorem dJ9_min_7cf53_0 : decode cJ9_min_7cf53 0 = .ok (.iload_n 0, 1) := by decide +kernel
theorem dJ9_min_7cf53_1 : decode cJ9_min_7cf53 1 = .ok (.iload_n 1, 1) := by decide +kernel
theorem dJ9_min_7cf53_2 : decode cJ9_min_7cf53 2 = .ok (.if_icmp .gt 7, 3) := by decide +kernel
theorem dJ9_min_7cf53_5 : decode cJ9_min_7cf53 5 = .ok (.iload_n 0, 1) := by decide +kernel
theorem dJ9_min_7cf53_6 : decode cJ9_min_7cf53 6 = .ok (.goto 4, 3) := by decide +kernel
theorem dJ9_min_7cf53_9 : decode cJ9_min_7cf53 9 = .ok (.iload_n 1, 1) := by decide +kernel
theorem dJ9_min_7cf53_10 : decode cJ9_min_7cf53 10 = .ok (.ireturn, 1) := by decide +kernel
theorem dJ7_fill_53178_0 : decode cJ7_fill_53178 0 = .ok (.iconst 0, 1) := by decide +kernel
theorem dJ7_fill_53178_1 : decode cJ7_fill_53178 1 = .ok (.istore_n 2, 1) := by decide +kernel
theorem dJ7_fill_53178_2 : decode cJ7_fill_53178 2 = .ok (.aload_n 0, 1) := by decide +kernel
theorem dJ7_fill_53178_3 : decode cJ7_fill_53178 3 = .ok (.arraylength, 1) := by decide +kernel
theorem dJ7_fill_53178_4 : decode cJ7_fill_53178 4 = .ok (.istore_n 3, 1) := by decide +kernel
theorem dJ7_fill_53178_5 : decode cJ7_fill_53178 5 = .ok (.iload_n 2, 1) := by decide +kernel
theorem dJ7_fill_53178_6 : decode cJ7_fill_53178 6 = .ok (.iload_n 3, 1) := by decide +kernel
theorem dJ7_fill_53178_7 : decode cJ7_fill_53178 7 = .ok (.if_icmp .ge 13, 3) := by decide +kernel
theorem dJ7_fill_53178_10 : decode cJ7_fill_53178 10 = .ok (.aload_n 0, 1) := by decide +kernel
theorem dJ7_fill_53178_11 : decode cJ7_fill_53178 11 = .ok (.iload_n 2, 1) := by decide +kernel
theorem dJ7_fill_53178_12 : decode cJ7_fill_53178 12 = .ok (.iload_n 1, 1) := by decide +kernel
theorem dJ7_fill_53178_13 : decode cJ7_fill_53178 13 = .ok (.iastore, 1) := by decide +kernel
theorem dJ7_fill_53178_14 : decode cJ7_fill_53178 14 = .ok (.iinc 2 1, 3) := by decide +kernel
theorem dJ7_fill_53178_17 : decode cJ7_fill_53178 17 = .ok (.goto (-12), 3) := by decide +kernel
theorem dJ7_fill_53178_20 : decode cJ7_fill_53178 20 = .ok (.return_, 1) := by decide +kernel
theorem dL_set_0 : decode cL_set 0 = .ok (.aload 4, 2) := by decide +kernel
theorem dL_set_2 : decode cL_set 2 = .ok (.iconst 0, 1) := by decide +kernel
theorem dL_set_3 : decode cL_set 3 = .ok (.aload_n 0, 1) := by decide +kernel
theorem dL_set_4 : decode cL_set 4 = .ok (.iload_n 1, 1) := by decide +kernel
theorem dL_set_5 : decode cL_set 5 = .ok (.iload_n 2, 1) := by decide +kernel
theorem dL_set_6 : decode cL_set 6 = .ok (.iload_n 3, 1) := by decide +kernel
theorem dL_set_7 : decode cL_set 7 = .ok (.invokevirtual 7, 3) := by decide +kernel
theorem dL_set_10 : decode cL_set 10 = .ok (.i2l, 1) := by decide +kernel
theorem dL_set_11 : decode cL_set 11 = .ok (.lastore, 1) := by decide +kernel
theorem dL_set_12 : decode cL_set 12 = .ok (.goto 7, 3) := by decide +kernel
theorem dL_set_15 : decode cL_set 15 = .ok (.astore 5, 2) := by decide +kernel
theorem dL_set_17 : decode cL_set 17 = .ok (.iconst 1, 1) := by decide +kernel
theorem dL_set_18 : decode cL_set 18 = .ok (.ireturn, 1) := by decide +kernel
theorem dL_set_19 : decode cL_set 19 = .ok (.iconst 0, 1) := by decide +kernel
theorem dL_set_20 : decode cL_set 20 = .ok (.ireturn, 1) := by decide +kernel
theorem dL_register_0 : decode cL_register 0 = .ok (.aload_n 3, 1) := by decide +kernel
theorem dL_register_1 : decode cL_register 1 = .ok (.iconst 0, 1) := by decide +kernel
theorem dL_register_2 : decode cL_register 2 = .ok (.aload_n 0, 1) := by decide +kernel
theorem dL_register_3 : decode cL_register 3 = .ok (.iload_n 1, 1) := by decide +kernel
theorem dL_register_4 : decode cL_register 4 = .ok (.iload_n 2, 1) := by decide +kernel
theorem dL_register_5 : decode cL_register 5 = .ok (.invokevirtual 15, 3) := by decide +kernel
theorem dL_register_8 : decode cL_register 8 = .ok (.i2l, 1) := by decide +kernel
theorem dL_register_9 : decode cL_register 9 = .ok (.lastore, 1) := by decide +kernel
theorem dL_register_10 : decode cL_register 10 = .ok (.goto 7, 3) := by decide +kernel
theorem dL_register_13 : decode cL_register 13 = .ok (.astore 4, 2) := by decide +kernel
theorem dL_register_15 : decode cL_register 15 = .ok (.iconst 1, 1) := by decide +kernel
theorem dL_register_16 : decode cL_register 16 = .ok (.ireturn, 1) := by decide +kernel
theorem dL_register_17 : decode cL_register 17 = .ok (.iconst 0, 1) := by decide +kernel
theorem dL_register_18 : decode cL_register 18 = .ok (.ireturn, 1) := by decide +kernel
theorem dL_cell_0 : decode cL_cell 0 = .ok (.aload_n 3, 1) := by decide +kernel
theorem dL_cell_1 : decode cL_cell 1 = .ok (.iconst 0, 1) := by decide +kernel
theorem dL_cell_2 : decode cL_cell 2 = .ok (.aload_n 0, 1) := by decide +kernel
theorem dL_cell_3 : decode cL_cell 3 = .ok (.iload_n 1, 1) := by decide +kernel
theorem dL_cell_4 : decode cL_cell 4 = .ok (.iload_n 2, 1) := by decide +kernel
theorem dL_cell_5 : decode cL_cell 5 = .ok (.invokevirtual 19, 3) := by decide +kernel
theorem dL_cell_8 : decode cL_cell 8 = .ok (.i2l, 1) := by decide +kernel
theorem dL_cell_9 : decode cL_cell 9 = .ok (.lastore, 1) := by decide +kernel
theorem dL_cell_10 : decode cL_cell 10 = .ok (.goto 7, 3) := by decide +kernel
theorem dL_cell_13 : decode cL_cell 13 = .ok (.astore 4, 2) := by decide +kernel
theorem dL_cell_15 : decode cL_cell 15 = .ok (.iconst 1, 1) := by decide +kernel
theorem dL_cell_16 : decode cL_cell 16 = .ok (.ireturn, 1) := by decide +kernel
theorem dL_cell_17 : decode cL_cell 17 = .ok (.iconst 0, 1) := by decide +kernel
theorem dL_cell_18 : decode cL_cell 18 = .ok (.ireturn, 1) := by decide +kernel
theorem dL_code_0 : decode cL_code 0 = .ok (.aload 4, 2) := by decide +kernel
theorem dL_code_2 : decode cL_code 2 = .ok (.iconst 0, 1) := by decide +kernel
theorem dL_code_3 : decode cL_code 3 = .ok (.aload_n 0, 1) := by decide +kernel
theorem dL_code_4 : decode cL_code 4 = .ok (.iload_n 1, 1) := by decide +kernel
theorem dL_code_5 : decode cL_code 5 = .ok (.iload_n 2, 1) := by decide +kernel
theorem dL_code_6 : decode cL_code 6 = .ok (.iload_n 3, 1) := by decide +kernel
theorem dL_code_7 : decode cL_code 7 = .ok (.invokevirtual 22, 3) := by decide +kernel
theorem dL_code_10 : decode cL_code 10 = .ok (.i2l, 1) := by decide +kernel
theorem dL_code_11 : decode cL_code 11 = .ok (.lastore, 1) := by decide +kernel
theorem dL_code_12 : decode cL_code 12 = .ok (.goto 7, 3) := by decide +kernel
theorem dL_code_15 : decode cL_code 15 = .ok (.astore 5, 2) := by decide +kernel
theorem dL_code_17 : decode cL_code 17 = .ok (.iconst 1, 1) := by decide +kernel
theorem dL_code_18 : decode cL_code 18 = .ok (.ireturn, 1) := by decide +kernel
theorem dL_code_19 : decode cL_code 19 = .ok (.iconst 0, 1) := by decide +kernel
theorem dL_code_20 : decode cL_code 20 = .ok (.ireturn, 1) := by decide +kernel
theorem dL_ahead_0 : decode cL_ahead 0 = .ok (.aload 4, 2) := by decide +kernel
theorem dL_ahead_2 : decode cL_ahead 2 = .ok (.iconst 0, 1) := by decide +kernel
theorem dL_ahead_3 : decode cL_ahead 3 = .ok (.aload_n 0, 1) := by decide +kernel
theorem dL_ahead_4 : decode cL_ahead 4 = .ok (.iload_n 1, 1) := by decide +kernel
theorem dL_ahead_5 : decode cL_ahead 5 = .ok (.iload_n 2, 1) := by decide +kernel
theorem dL_ahead_6 : decode cL_ahead 6 = .ok (.iload_n 3, 1) := by decide +kernel
theorem dL_ahead_7 : decode cL_ahead 7 = .ok (.invokevirtual 25, 3) := by decide +kernel
theorem dL_ahead_10 : decode cL_ahead 10 = .ok (.i2l, 1) := by decide +kernel
theorem dL_ahead_11 : decode cL_ahead 11 = .ok (.lastore, 1) := by decide +kernel
theorem dL_ahead_12 : decode cL_ahead 12 = .ok (.goto 7, 3) := by decide +kernel
theorem dL_ahead_15 : decode cL_ahead 15 = .ok (.astore 5, 2) := by decide +kernel
theorem dL_ahead_17 : decode cL_ahead 17 = .ok (.iconst 1, 1) := by decide +kernel
theorem dL_ahead_18 : decode cL_ahead 18 = .ok (.ireturn, 1) := by decide +kernel
theorem dL_ahead_19 : decode cL_ahead 19 = .ok (.iconst 0, 1) := by decide +kernel
theorem dL_ahead_20 : decode cL_ahead 20 = .ok (.ireturn, 1) := by decide +kernel
theorem dL_law_0 : decode cL_law 0 = .ok (.new 8, 3) := by decide +kernel
theorem dL_law_3 : decode cL_law 3 = .ok (.dup, 1) := by decide +kernel
theorem dL_law_4 : decode cL_law 4 = .ok (.invokespecial 28, 3) := by decide +kernel
theorem dL_law_7 : decode cL_law 7 = .ok (.astore_n 1, 1) := by decide +kernel
theorem dL_law_8 : decode cL_law 8 = .ok (.new 29, 3) := by decide +kernel
theorem dL_law_11 : decode cL_law 11 = .ok (.dup, 1) := by decide +kernel
theorem dL_law_12 : decode cL_law 12 = .ok (.invokespecial 31, 3) := by decide +kernel
theorem dL_law_15 : decode cL_law 15 = .ok (.astore_n 2, 1) := by decide +kernel
theorem dL_law_16 : decode cL_law 16 = .ok (.iconst 1, 1) := by decide +kernel
theorem dL_law_17 : decode cL_law 17 = .ok (.newarray .long, 2) := by decide +kernel
theorem dL_law_19 : decode cL_law 19 = .ok (.astore_n 3, 1) := by decide +kernel
theorem dL_law_20 : decode cL_law 20 = .ok (.iconst 0, 1) := by decide +kernel
theorem dL_law_21 : decode cL_law 21 = .ok (.istore 4, 2) := by decide +kernel
theorem dL_law_23 : decode cL_law 23 = .ok (.iload 4, 2) := by decide +kernel
theorem dL_law_25 : decode cL_law 25 = .ok (.aload_n 0, 1) := by decide +kernel
theorem dL_law_26 : decode cL_law 26 = .ok (.arraylength, 1) := by decide +kernel
theorem dL_law_27 : decode cL_law 27 = .ok (.bipush 6, 2) := by decide +kernel
theorem dL_law_29 : decode cL_law 29 = .ok (.isub, 1) := by decide +kernel
theorem dL_law_30 : decode cL_law 30 = .ok (.if_icmp .gt 1400, 3) := by decide +kernel
theorem dL_law_33 : decode cL_law 33 = .ok (.aload_n 0, 1) := by decide +kernel
theorem dL_law_34 : decode cL_law 34 = .ok (.iload 4, 2) := by decide +kernel
theorem dL_law_36 : decode cL_law 36 = .ok (.iaload, 1) := by decide +kernel
theorem dL_law_37 : decode cL_law 37 = .ok (.bipush 31, 2) := by decide +kernel
theorem dL_law_39 : decode cL_law 39 = .ok (.iand, 1) := by decide +kernel
theorem dL_law_40 : decode cL_law 40 = .ok (.tableswitch 1384 0 28 #[132, 205, 230, 267, 320, 373, 438, 463, 500, 537, 574, 587, 600, 625, 705, 773, 841, 921, 958, 995, 1032, 1069, 1094, 1131, 1180, 1217, 1254, 1334, 1359], 132) := by decide +kernel
theorem dL_law_172 : decode cL_law 172 = .ok (.aload_n 1, 1) := by decide +kernel
theorem dL_law_173 : decode cL_law 173 = .ok (.aload_n 0, 1) := by decide +kernel
theorem dL_law_174 : decode cL_law 174 = .ok (.iload 4, 2) := by decide +kernel
theorem dL_law_176 : decode cL_law 176 = .ok (.iconst 1, 1) := by decide +kernel
theorem dL_law_177 : decode cL_law 177 = .ok (.iadd, 1) := by decide +kernel
theorem dL_law_178 : decode cL_law 178 = .ok (.iaload, 1) := by decide +kernel
theorem dL_law_179 : decode cL_law 179 = .ok (.aload_n 0, 1) := by decide +kernel
theorem dL_law_180 : decode cL_law 180 = .ok (.iload 4, 2) := by decide +kernel
theorem dL_law_182 : decode cL_law 182 = .ok (.iconst 2, 1) := by decide +kernel
theorem dL_law_183 : decode cL_law 183 = .ok (.iadd, 1) := by decide +kernel
theorem dL_law_184 : decode cL_law 184 = .ok (.iaload, 1) := by decide +kernel
theorem dL_law_185 : decode cL_law 185 = .ok (.aload_n 0, 1) := by decide +kernel
theorem dL_law_186 : decode cL_law 186 = .ok (.iload 4, 2) := by decide +kernel
theorem dL_law_188 : decode cL_law 188 = .ok (.iconst 3, 1) := by decide +kernel
theorem dL_law_189 : decode cL_law 189 = .ok (.iadd, 1) := by decide +kernel
theorem dL_law_190 : decode cL_law 190 = .ok (.iaload, 1) := by decide +kernel
theorem dL_law_191 : decode cL_law 191 = .ok (.aload_n 0, 1) := by decide +kernel
theorem dL_law_192 : decode cL_law 192 = .ok (.iload 4, 2) := by decide +kernel
theorem dL_law_194 : decode cL_law 194 = .ok (.iconst 4, 1) := by decide +kernel
theorem dL_law_195 : decode cL_law 195 = .ok (.iadd, 1) := by decide +kernel
theorem dL_law_196 : decode cL_law 196 = .ok (.iaload, 1) := by decide +kernel
theorem dL_law_197 : decode cL_law 197 = .ok (.aload_n 0, 1) := by decide +kernel
theorem dL_law_198 : decode cL_law 198 = .ok (.iload 4, 2) := by decide +kernel
theorem dL_law_200 : decode cL_law 200 = .ok (.iconst 5, 1) := by decide +kernel
theorem dL_law_201 : decode cL_law 201 = .ok (.iadd, 1) := by decide +kernel
theorem dL_law_202 : decode cL_law 202 = .ok (.iaload, 1) := by decide +kernel
theorem dL_law_203 : decode cL_law 203 = .ok (.invokevirtual 32, 3) := by decide +kernel
theorem dL_law_206 : decode cL_law 206 = .ok (.aload_n 2, 1) := by decide +kernel
theorem dL_law_207 : decode cL_law 207 = .ok (.aload_n 0, 1) := by decide +kernel
theorem dL_law_208 : decode cL_law 208 = .ok (.iload 4, 2) := by decide +kernel
theorem dL_law_210 : decode cL_law 210 = .ok (.iconst 1, 1) := by decide +kernel
theorem dL_law_211 : decode cL_law 211 = .ok (.iadd, 1) := by decide +kernel
theorem dL_law_212 : decode cL_law 212 = .ok (.iaload, 1) := by decide +kernel
theorem dL_law_213 : decode cL_law 213 = .ok (.aload_n 0, 1) := by decide +kernel
theorem dL_law_214 : decode cL_law 214 = .ok (.iload 4, 2) := by decide +kernel
theorem dL_law_216 : decode cL_law 216 = .ok (.iconst 2, 1) := by decide +kernel
theorem dL_law_217 : decode cL_law 217 = .ok (.iadd, 1) := by decide +kernel
theorem dL_law_218 : decode cL_law 218 = .ok (.iaload, 1) := by decide +kernel
theorem dL_law_219 : decode cL_law 219 = .ok (.aload_n 0, 1) := by decide +kernel
theorem dL_law_220 : decode cL_law 220 = .ok (.iload 4, 2) := by decide +kernel
theorem dL_law_222 : decode cL_law 222 = .ok (.iconst 3, 1) := by decide +kernel
theorem dL_law_223 : decode cL_law 223 = .ok (.iadd, 1) := by decide +kernel
theorem dL_law_224 : decode cL_law 224 = .ok (.iaload, 1) := by decide +kernel
theorem dL_law_225 : decode cL_law 225 = .ok (.aload_n 0, 1) := by decide +kernel
theorem dL_law_226 : decode cL_law 226 = .ok (.iload 4, 2) := by decide +kernel
theorem dL_law_228 : decode cL_law 228 = .ok (.iconst 4, 1) := by decide +kernel
theorem dL_law_229 : decode cL_law 229 = .ok (.iadd, 1) := by decide +kernel
theorem dL_law_230 : decode cL_law 230 = .ok (.iaload, 1) := by decide +kernel
theorem dL_law_231 : decode cL_law 231 = .ok (.aload_n 0, 1) := by decide +kernel
theorem dL_law_232 : decode cL_law 232 = .ok (.iload 4, 2) := by decide +kernel
theorem dL_law_234 : decode cL_law 234 = .ok (.iconst 5, 1) := by decide +kernel
theorem dL_law_235 : decode cL_law 235 = .ok (.iadd, 1) := by decide +kernel
theorem dL_law_236 : decode cL_law 236 = .ok (.iaload, 1) := by decide +kernel
theorem dL_law_237 : decode cL_law 237 = .ok (.invokevirtual 36, 3) := by decide +kernel
theorem dL_law_240 : decode cL_law 240 = .ok (.if_icmp .eq 1184, 3) := by decide +kernel
theorem dL_law_243 : decode cL_law 243 = .ok (.iconst 0, 1) := by decide +kernel
theorem dL_law_244 : decode cL_law 244 = .ok (.ireturn, 1) := by decide +kernel
theorem dL_law_245 : decode cL_law 245 = .ok (.aload_n 1, 1) := by decide +kernel
theorem dL_law_246 : decode cL_law 246 = .ok (.aload_n 0, 1) := by decide +kernel
theorem dL_law_247 : decode cL_law 247 = .ok (.iload 4, 2) := by decide +kernel
theorem dL_law_249 : decode cL_law 249 = .ok (.iconst 1, 1) := by decide +kernel
theorem dL_law_250 : decode cL_law 250 = .ok (.iadd, 1) := by decide +kernel
theorem dL_law_251 : decode cL_law 251 = .ok (.iaload, 1) := by decide +kernel
theorem dL_law_252 : decode cL_law 252 = .ok (.invokevirtual 37, 3) := by decide +kernel
theorem dL_law_255 : decode cL_law 255 = .ok (.aload_n 2, 1) := by decide +kernel
theorem dL_law_256 : decode cL_law 256 = .ok (.aload_n 0, 1) := by decide +kernel
theorem dL_law_257 : decode cL_law 257 = .ok (.iload 4, 2) := by decide +kernel
theorem dL_law_259 : decode cL_law 259 = .ok (.iconst 1, 1) := by decide +kernel
theorem dL_law_260 : decode cL_law 260 = .ok (.iadd, 1) := by decide +kernel
theorem dL_law_261 : decode cL_law 261 = .ok (.iaload, 1) := by decide +kernel
theorem dL_law_262 : decode cL_law 262 = .ok (.invokevirtual 41, 3) := by decide +kernel
theorem dL_law_265 : decode cL_law 265 = .ok (.if_icmp .eq 1159, 3) := by decide +kernel
theorem dL_law_268 : decode cL_law 268 = .ok (.iconst 0, 1) := by decide +kernel
theorem dL_law_269 : decode cL_law 269 = .ok (.ireturn, 1) := by decide +kernel
theorem dL_law_270 : decode cL_law 270 = .ok (.aload_n 1, 1) := by decide +kernel
theorem dL_law_271 : decode cL_law 271 = .ok (.aload_n 0, 1) := by decide +kernel
theorem dL_law_272 : decode cL_law 272 = .ok (.iload 4, 2) := by decide +kernel
theorem dL_law_274 : decode cL_law 274 = .ok (.iconst 1, 1) := by decide +kernel
theorem dL_law_275 : decode cL_law 275 = .ok (.iadd, 1) := by decide +kernel
theorem dL_law_276 : decode cL_law 276 = .ok (.iaload, 1) := by decide +kernel
theorem dL_law_277 : decode cL_law 277 = .ok (.aload_n 0, 1) := by decide +kernel
theorem dL_law_278 : decode cL_law 278 = .ok (.iload 4, 2) := by decide +kernel
theorem dL_law_280 : decode cL_law 280 = .ok (.iconst 2, 1) := by decide +kernel
theorem dL_law_281 : decode cL_law 281 = .ok (.iadd, 1) := by decide +kernel
theorem dL_law_282 : decode cL_law 282 = .ok (.iaload, 1) := by decide +kernel
theorem dL_law_283 : decode cL_law 283 = .ok (.invokevirtual 42, 3) := by decide +kernel
theorem dL_law_286 : decode cL_law 286 = .ok (.aload_n 2, 1) := by decide +kernel
theorem dL_law_287 : decode cL_law 287 = .ok (.aload_n 0, 1) := by decide +kernel
theorem dL_law_288 : decode cL_law 288 = .ok (.iload 4, 2) := by decide +kernel
theorem dL_law_290 : decode cL_law 290 = .ok (.iconst 1, 1) := by decide +kernel
theorem dL_law_291 : decode cL_law 291 = .ok (.iadd, 1) := by decide +kernel
theorem dL_law_292 : decode cL_law 292 = .ok (.iaload, 1) := by decide +kernel
theorem dL_law_293 : decode cL_law 293 = .ok (.aload_n 0, 1) := by decide +kernel
theorem dL_law_294 : decode cL_law 294 = .ok (.iload 4, 2) := by decide +kernel
theorem dL_law_296 : decode cL_law 296 = .ok (.iconst 2, 1) := by decide +kernel
theorem dL_law_297 : decode cL_law 297 = .ok (.iadd, 1) := by decide +kernel
theorem dL_law_298 : decode cL_law 298 = .ok (.iaload, 1) := by decide +kernel
theorem dL_law_299 : decode cL_law 299 = .ok (.invokevirtual 45, 3) := by decide +kernel
theorem dL_law_302 : decode cL_law 302 = .ok (.if_icmp .eq 1122, 3) := by decide +kernel
theorem dL_law_305 : decode cL_law 305 = .ok (.iconst 0, 1) := by decide +kernel
theorem dL_law_306 : decode cL_law 306 = .ok (.ireturn, 1) := by decide +kernel
theorem dL_law_307 : decode cL_law 307 = .ok (.aload_n 1, 1) := by decide +kernel
theorem dL_law_308 : decode cL_law 308 = .ok (.aload_n 0, 1) := by decide +kernel
theorem dL_law_309 : decode cL_law 309 = .ok (.iload 4, 2) := by decide +kernel
theorem dL_law_311 : decode cL_law 311 = .ok (.iconst 1, 1) := by decide +kernel
theorem dL_law_312 : decode cL_law 312 = .ok (.iadd, 1) := by decide +kernel
theorem dL_law_313 : decode cL_law 313 = .ok (.iaload, 1) := by decide +kernel
theorem dL_law_314 : decode cL_law 314 = .ok (.aload_n 0, 1) := by decide +kernel
theorem dL_law_315 : decode cL_law 315 = .ok (.iload 4, 2) := by decide +kernel
theorem dL_law_317 : decode cL_law 317 = .ok (.iconst 2, 1) := by decide +kernel
theorem dL_law_318 : decode cL_law 318 = .ok (.iadd, 1) := by decide +kernel
theorem dL_law_319 : decode cL_law 319 = .ok (.iaload, 1) := by decide +kernel
theorem dL_law_320 : decode cL_law 320 = .ok (.ifCond .eq 7, 3) := by decide +kernel
theorem dL_law_323 : decode cL_law 323 = .ok (.iconst 1, 1) := by decide +kernel
theorem dL_law_324 : decode cL_law 324 = .ok (.goto 4, 3) := by decide +kernel
theorem dL_law_327 : decode cL_law 327 = .ok (.iconst 0, 1) := by decide +kernel
theorem dL_law_328 : decode cL_law 328 = .ok (.invokevirtual 46, 3) := by decide +kernel
theorem dL_law_331 : decode cL_law 331 = .ok (.aload_n 2, 1) := by decide +kernel
theorem dL_law_332 : decode cL_law 332 = .ok (.aload_n 0, 1) := by decide +kernel
theorem dL_law_333 : decode cL_law 333 = .ok (.iload 4, 2) := by decide +kernel
theorem dL_law_335 : decode cL_law 335 = .ok (.iconst 1, 1) := by decide +kernel
theorem dL_law_336 : decode cL_law 336 = .ok (.iadd, 1) := by decide +kernel
theorem dL_law_337 : decode cL_law 337 = .ok (.iaload, 1) := by decide +kernel
theorem dL_law_338 : decode cL_law 338 = .ok (.aload_n 0, 1) := by decide +kernel
theorem dL_law_339 : decode cL_law 339 = .ok (.iload 4, 2) := by decide +kernel
theorem dL_law_341 : decode cL_law 341 = .ok (.iconst 2, 1) := by decide +kernel
theorem dL_law_342 : decode cL_law 342 = .ok (.iadd, 1) := by decide +kernel
theorem dL_law_343 : decode cL_law 343 = .ok (.iaload, 1) := by decide +kernel
theorem dL_law_344 : decode cL_law 344 = .ok (.ifCond .eq 7, 3) := by decide +kernel
theorem dL_law_347 : decode cL_law 347 = .ok (.iconst 1, 1) := by decide +kernel
theorem dL_law_348 : decode cL_law 348 = .ok (.goto 4, 3) := by decide +kernel
theorem dL_law_351 : decode cL_law 351 = .ok (.iconst 0, 1) := by decide +kernel
theorem dL_law_352 : decode cL_law 352 = .ok (.invokevirtual 50, 3) := by decide +kernel
theorem dL_law_355 : decode cL_law 355 = .ok (.if_icmp .eq 1069, 3) := by decide +kernel
theorem dL_law_358 : decode cL_law 358 = .ok (.iconst 0, 1) := by decide +kernel
theorem dL_law_359 : decode cL_law 359 = .ok (.ireturn, 1) := by decide +kernel
theorem dL_law_360 : decode cL_law 360 = .ok (.aload_n 1, 1) := by decide +kernel
theorem dL_law_361 : decode cL_law 361 = .ok (.aload_n 0, 1) := by decide +kernel
theorem dL_law_362 : decode cL_law 362 = .ok (.iload 4, 2) := by decide +kernel
theorem dL_law_364 : decode cL_law 364 = .ok (.iconst 1, 1) := by decide +kernel
theorem dL_law_365 : decode cL_law 365 = .ok (.iadd, 1) := by decide +kernel
theorem dL_law_366 : decode cL_law 366 = .ok (.iaload, 1) := by decide +kernel
theorem dL_law_367 : decode cL_law 367 = .ok (.aload_n 0, 1) := by decide +kernel
theorem dL_law_368 : decode cL_law 368 = .ok (.iload 4, 2) := by decide +kernel
theorem dL_law_370 : decode cL_law 370 = .ok (.iconst 2, 1) := by decide +kernel
theorem dL_law_371 : decode cL_law 371 = .ok (.iadd, 1) := by decide +kernel
theorem dL_law_372 : decode cL_law 372 = .ok (.iaload, 1) := by decide +kernel
theorem dL_law_373 : decode cL_law 373 = .ok (.ifCond .eq 7, 3) := by decide +kernel
theorem dL_law_376 : decode cL_law 376 = .ok (.iconst 1, 1) := by decide +kernel
theorem dL_law_377 : decode cL_law 377 = .ok (.goto 4, 3) := by decide +kernel
theorem dL_law_380 : decode cL_law 380 = .ok (.iconst 0, 1) := by decide +kernel
theorem dL_law_381 : decode cL_law 381 = .ok (.invokevirtual 51, 3) := by decide +kernel
theorem dL_law_384 : decode cL_law 384 = .ok (.aload_n 2, 1) := by decide +kernel
theorem dL_law_385 : decode cL_law 385 = .ok (.aload_n 0, 1) := by decide +kernel
theorem dL_law_386 : decode cL_law 386 = .ok (.iload 4, 2) := by decide +kernel
theorem dL_law_388 : decode cL_law 388 = .ok (.iconst 1, 1) := by decide +kernel
theorem dL_law_389 : decode cL_law 389 = .ok (.iadd, 1) := by decide +kernel
theorem dL_law_390 : decode cL_law 390 = .ok (.iaload, 1) := by decide +kernel
theorem dL_law_391 : decode cL_law 391 = .ok (.aload_n 0, 1) := by decide +kernel
theorem dL_law_392 : decode cL_law 392 = .ok (.iload 4, 2) := by decide +kernel
theorem dL_law_394 : decode cL_law 394 = .ok (.iconst 2, 1) := by decide +kernel
theorem dL_law_395 : decode cL_law 395 = .ok (.iadd, 1) := by decide +kernel
theorem dL_law_396 : decode cL_law 396 = .ok (.iaload, 1) := by decide +kernel
theorem dL_law_397 : decode cL_law 397 = .ok (.ifCond .eq 7, 3) := by decide +kernel
theorem dL_law_400 : decode cL_law 400 = .ok (.iconst 1, 1) := by decide +kernel
theorem dL_law_401 : decode cL_law 401 = .ok (.goto 4, 3) := by decide +kernel
theorem dL_law_404 : decode cL_law 404 = .ok (.iconst 0, 1) := by decide +kernel
theorem dL_law_405 : decode cL_law 405 = .ok (.invokevirtual 54, 3) := by decide +kernel
theorem dL_law_408 : decode cL_law 408 = .ok (.if_icmp .eq 1016, 3) := by decide +kernel
theorem dL_law_411 : decode cL_law 411 = .ok (.iconst 0, 1) := by decide +kernel
theorem dL_law_412 : decode cL_law 412 = .ok (.ireturn, 1) := by decide +kernel
theorem dL_law_413 : decode cL_law 413 = .ok (.aload_n 1, 1) := by decide +kernel
theorem dL_law_414 : decode cL_law 414 = .ok (.aload_n 0, 1) := by decide +kernel
theorem dL_law_415 : decode cL_law 415 = .ok (.iload 4, 2) := by decide +kernel
theorem dL_law_417 : decode cL_law 417 = .ok (.iconst 1, 1) := by decide +kernel
theorem dL_law_418 : decode cL_law 418 = .ok (.iadd, 1) := by decide +kernel
theorem dL_law_419 : decode cL_law 419 = .ok (.iaload, 1) := by decide +kernel
theorem dL_law_420 : decode cL_law 420 = .ok (.aload_n 0, 1) := by decide +kernel
theorem dL_law_421 : decode cL_law 421 = .ok (.iload 4, 2) := by decide +kernel
theorem dL_law_423 : decode cL_law 423 = .ok (.iconst 2, 1) := by decide +kernel
theorem dL_law_424 : decode cL_law 424 = .ok (.iadd, 1) := by decide +kernel
theorem dL_law_425 : decode cL_law 425 = .ok (.iaload, 1) := by decide +kernel
theorem dL_law_426 : decode cL_law 426 = .ok (.aload_n 0, 1) := by decide +kernel
theorem dL_law_427 : decode cL_law 427 = .ok (.iload 4, 2) := by decide +kernel
theorem dL_law_429 : decode cL_law 429 = .ok (.iconst 3, 1) := by decide +kernel
theorem dL_law_430 : decode cL_law 430 = .ok (.iadd, 1) := by decide +kernel
theorem dL_law_431 : decode cL_law 431 = .ok (.iaload, 1) := by decide +kernel
theorem dL_law_432 : decode cL_law 432 = .ok (.ifCond .eq 7, 3) := by decide +kernel
theorem dL_law_435 : decode cL_law 435 = .ok (.iconst 1, 1) := by decide +kernel
theorem dL_law_436 : decode cL_law 436 = .ok (.goto 4, 3) := by decide +kernel
theorem dL_law_439 : decode cL_law 439 = .ok (.iconst 0, 1) := by decide +kernel
theorem dL_law_440 : decode cL_law 440 = .ok (.invokevirtual 55, 3) := by decide +kernel
theorem dL_law_443 : decode cL_law 443 = .ok (.aload_n 2, 1) := by decide +kernel
theorem dL_law_444 : decode cL_law 444 = .ok (.aload_n 0, 1) := by decide +kernel
theorem dL_law_445 : decode cL_law 445 = .ok (.iload 4, 2) := by decide +kernel
theorem dL_law_447 : decode cL_law 447 = .ok (.iconst 1, 1) := by decide +kernel
theorem dL_law_448 : decode cL_law 448 = .ok (.iadd, 1) := by decide +kernel
theorem dL_law_449 : decode cL_law 449 = .ok (.iaload, 1) := by decide +kernel
theorem dL_law_450 : decode cL_law 450 = .ok (.aload_n 0, 1) := by decide +kernel
theorem dL_law_451 : decode cL_law 451 = .ok (.iload 4, 2) := by decide +kernel
theorem dL_law_453 : decode cL_law 453 = .ok (.iconst 2, 1) := by decide +kernel
theorem dL_law_454 : decode cL_law 454 = .ok (.iadd, 1) := by decide +kernel
theorem dL_law_455 : decode cL_law 455 = .ok (.iaload, 1) := by decide +kernel
theorem dL_law_456 : decode cL_law 456 = .ok (.aload_n 0, 1) := by decide +kernel
theorem dL_law_457 : decode cL_law 457 = .ok (.iload 4, 2) := by decide +kernel
theorem dL_law_459 : decode cL_law 459 = .ok (.iconst 3, 1) := by decide +kernel
theorem dL_law_460 : decode cL_law 460 = .ok (.iadd, 1) := by decide +kernel
theorem dL_law_461 : decode cL_law 461 = .ok (.iaload, 1) := by decide +kernel
theorem dL_law_462 : decode cL_law 462 = .ok (.ifCond .eq 7, 3) := by decide +kernel
theorem dL_law_465 : decode cL_law 465 = .ok (.iconst 1, 1) := by decide +kernel
theorem dL_law_466 : decode cL_law 466 = .ok (.goto 4, 3) := by decide +kernel
theorem dL_law_469 : decode cL_law 469 = .ok (.iconst 0, 1) := by decide +kernel
theorem dL_law_470 : decode cL_law 470 = .ok (.invokevirtual 59, 3) := by decide +kernel
theorem dL_law_473 : decode cL_law 473 = .ok (.if_icmp .eq 951, 3) := by decide +kernel
theorem dL_law_476 : decode cL_law 476 = .ok (.iconst 0, 1) := by decide +kernel
theorem dL_law_477 : decode cL_law 477 = .ok (.ireturn, 1) := by decide +kernel
theorem dL_law_478 : decode cL_law 478 = .ok (.aload_n 1, 1) := by decide +kernel
theorem dL_law_479 : decode cL_law 479 = .ok (.aload_n 0, 1) := by decide +kernel
