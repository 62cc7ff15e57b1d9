theorem dX8_copy_5 : decode cX8_copy 5 = .ok (.aload_n 0, 1) := by decide +kernel
theorem dX8_copy_6 : decode cX8_copy 6 = .ok (.getfield 9, 3) := by decide +kernel
theorem dX8_copy_9 : decode cX8_copy 9 = .ok (.iconst 0, 1) := by decide +kernel
theorem dX8_copy_10 : decode cX8_copy 10 = .ok (.bipush 8, 2) := by decide +kernel
theorem dX8_copy_12 : decode cX8_copy 12 = .ok (.invokestatic 42, 3) := by decide +kernel
theorem dX8_copy_15 : decode cX8_copy 15 = .ok (.aload_n 1, 1) := by decide +kernel
theorem dX8_copy_16 : decode cX8_copy 16 = .ok (.getfield 15, 3) := by decide +kernel
theorem dX8_copy_19 : decode cX8_copy 19 = .ok (.iconst 0, 1) := by decide +kernel
theorem dX8_copy_20 : decode cX8_copy 20 = .ok (.aload_n 0, 1) := by decide +kernel
theorem dX8_copy_21 : decode cX8_copy 21 = .ok (.getfield 15, 3) := by decide +kernel
theorem dX8_copy_24 : decode cX8_copy 24 = .ok (.iconst 0, 1) := by decide +kernel
theorem dX8_copy_25 : decode cX8_copy 25 = .ok (.bipush 8, 2) := by decide +kernel
theorem dX8_copy_27 : decode cX8_copy 27 = .ok (.invokestatic 42, 3) := by decide +kernel
theorem dX8_copy_30 : decode cX8_copy 30 = .ok (.return_, 1) := by decide +kernel
theorem dX9_init_0 : decode cX9_init 0 = .ok (.aload_n 0, 1) := by decide +kernel
theorem dX9_init_1 : decode cX9_init 1 = .ok (.invokespecial 3, 3) := by decide +kernel
theorem dX9_init_4 : decode cX9_init 4 = .ok (.aload_n 0, 1) := by decide +kernel
theorem dX9_init_5 : decode cX9_init 5 = .ok (.new 9, 3) := by decide +kernel
theorem dX9_init_8 : decode cX9_init 8 = .ok (.dup, 1) := by decide +kernel
theorem dX9_init_9 : decode cX9_init 9 = .ok (.invokespecial 11, 3) := by decide +kernel
theorem dX9_init_12 : decode cX9_init 12 = .ok (.putfield 12, 3) := by decide +kernel
theorem dX9_init_15 : decode cX9_init 15 = .ok (.aload_n 0, 1) := by decide +kernel
theorem dX9_init_16 : decode cX9_init 16 = .ok (.new 18, 3) := by decide +kernel
theorem dX9_init_19 : decode cX9_init 19 = .ok (.dup, 1) := by decide +kernel
theorem dX9_init_20 : decode cX9_init 20 = .ok (.invokespecial 20, 3) := by decide +kernel
theorem dX9_init_23 : decode cX9_init 23 = .ok (.putfield 21, 3) := by decide +kernel
theorem dX9_init_26 : decode cX9_init 26 = .ok (.aload_n 0, 1) := by decide +kernel
theorem dX9_init_27 : decode cX9_init 27 = .ok (.bipush 8, 2) := by decide +kernel
theorem dX9_init_29 : decode cX9_init 29 = .ok (.newarray .int, 2) := by decide +kernel
theorem dX9_init_31 : decode cX9_init 31 = .ok (.putfield 25, 3) := by decide +kernel
theorem dX9_init_34 : decode cX9_init 34 = .ok (.aload_n 0, 1) := by decide +kernel
theorem dX9_init_35 : decode cX9_init 35 = .ok (.bipush 16, 2) := by decide +kernel
theorem dX9_init_37 : decode cX9_init 37 = .ok (.newarray .int, 2) := by decide +kernel
theorem dX9_init_39 : decode cX9_init 39 = .ok (.putfield 29, 3) := by decide +kernel
theorem dX9_init_42 : decode cX9_init 42 = .ok (.aload_n 0, 1) := by decide +kernel
theorem dX9_init_43 : decode cX9_init 43 = .ok (.bipush 24, 2) := by decide +kernel
theorem dX9_init_45 : decode cX9_init 45 = .ok (.newarray .int, 2) := by decide +kernel
theorem dX9_init_47 : decode cX9_init 47 = .ok (.putfield 32, 3) := by decide +kernel
theorem dX9_init_50 : decode cX9_init 50 = .ok (.aload_n 0, 1) := by decide +kernel
theorem dX9_init_51 : decode cX9_init 51 = .ok (.iconst (-1), 1) := by decide +kernel
theorem dX9_init_52 : decode cX9_init 52 = .ok (.putfield 35, 3) := by decide +kernel
theorem dX9_init_55 : decode cX9_init 55 = .ok (.aload_n 0, 1) := by decide +kernel
theorem dX9_init_56 : decode cX9_init 56 = .ok (.iconst 1, 1) := by decide +kernel
theorem dX9_init_57 : decode cX9_init 57 = .ok (.putfield 39, 3) := by decide +kernel
theorem dX9_init_60 : decode cX9_init 60 = .ok (.aload_n 0, 1) := by decide +kernel
theorem dX9_init_61 : decode cX9_init 61 = .ok (.iconst 0, 1) := by decide +kernel
theorem dX9_init_62 : decode cX9_init 62 = .ok (.putfield 43, 3) := by decide +kernel
theorem dX9_init_65 : decode cX9_init 65 = .ok (.aload_n 0, 1) := by decide +kernel
theorem dX9_init_66 : decode cX9_init 66 = .ok (.iconst 0, 1) := by decide +kernel
theorem dX9_init_67 : decode cX9_init 67 = .ok (.putfield 46, 3) := by decide +kernel
theorem dX9_init_70 : decode cX9_init 70 = .ok (.aload_n 0, 1) := by decide +kernel
theorem dX9_init_71 : decode cX9_init 71 = .ok (.iload_n 1, 1) := by decide +kernel
theorem dX9_init_72 : decode cX9_init 72 = .ok (.putfield 49, 3) := by decide +kernel
theorem dX9_init_75 : decode cX9_init 75 = .ok (.return_, 1) := by decide +kernel
theorem dX9_canGo_0 : decode cX9_canGo 0 = .ok (.aload_n 0, 1) := by decide +kernel
theorem dX9_canGo_1 : decode cX9_canGo 1 = .ok (.getfield 43, 3) := by decide +kernel
theorem dX9_canGo_4 : decode cX9_canGo 4 = .ok (.ifCond .ne 21, 3) := by decide +kernel
theorem dX9_canGo_7 : decode cX9_canGo 7 = .ok (.aload_n 0, 1) := by decide +kernel
theorem dX9_canGo_8 : decode cX9_canGo 8 = .ok (.getfield 12, 3) := by decide +kernel
theorem dX9_canGo_11 : decode cX9_canGo 11 = .ok (.aload_n 0, 1) := by decide +kernel
theorem dX9_canGo_12 : decode cX9_canGo 12 = .ok (.getfield 52, 3) := by decide +kernel
theorem dX9_canGo_15 : decode cX9_canGo 15 = .ok (.invokevirtual 55, 3) := by decide +kernel
theorem dX9_canGo_18 : decode cX9_canGo 18 = .ok (.ifCond .eq 7, 3) := by decide +kernel
theorem dX9_canGo_21 : decode cX9_canGo 21 = .ok (.iconst 1, 1) := by decide +kernel
theorem dX9_canGo_22 : decode cX9_canGo 22 = .ok (.goto 4, 3) := by decide +kernel
theorem dX9_canGo_25 : decode cX9_canGo 25 = .ok (.iconst 0, 1) := by decide +kernel
theorem dX9_canGo_26 : decode cX9_canGo 26 = .ok (.ireturn, 1) := by decide +kernel
theorem dX9_read_0 : decode cX9_read 0 = .ok (.iload_n 1, 1) := by decide +kernel
theorem dX9_read_1 : decode cX9_read 1 = .ok (.invokestatic 59, 3) := by decide +kernel
theorem dX9_read_4 : decode cX9_read 4 = .ok (.ifCond .eq 12, 3) := by decide +kernel
theorem dX9_read_7 : decode cX9_read 7 = .ok (.aload_n 0, 1) := by decide +kernel
theorem dX9_read_8 : decode cX9_read 8 = .ok (.getfield 25, 3) := by decide +kernel
theorem dX9_read_11 : decode cX9_read 11 = .ok (.iload_n 1, 1) := by decide +kernel
theorem dX9_read_12 : decode cX9_read 12 = .ok (.iaload, 1) := by decide +kernel
theorem dX9_read_13 : decode cX9_read 13 = .ok (.goto 4, 3) := by decide +kernel
theorem dX9_read_16 : decode cX9_read 16 = .ok (.iconst 0, 1) := by decide +kernel
theorem dX9_read_17 : decode cX9_read 17 = .ok (.ireturn, 1) := by decide +kernel
theorem dX9_write_0 : decode cX9_write 0 = .ok (.iload_n 1, 1) := by decide +kernel
theorem dX9_write_1 : decode cX9_write 1 = .ok (.invokestatic 59, 3) := by decide +kernel
theorem dX9_write_4 : decode cX9_write 4 = .ok (.ifCond .eq 10, 3) := by decide +kernel
theorem dX9_write_7 : decode cX9_write 7 = .ok (.aload_n 0, 1) := by decide +kernel
theorem dX9_write_8 : decode cX9_write 8 = .ok (.getfield 25, 3) := by decide +kernel
theorem dX9_write_11 : decode cX9_write 11 = .ok (.iload_n 1, 1) := by decide +kernel
theorem dX9_write_12 : decode cX9_write 12 = .ok (.iload_n 2, 1) := by decide +kernel
theorem dX9_write_13 : decode cX9_write 13 = .ok (.iastore, 1) := by decide +kernel
theorem dX9_write_14 : decode cX9_write 14 = .ok (.return_, 1) := by decide +kernel
theorem dX9_hasCell_0 : decode cX9_hasCell 0 = .ok (.iload_n 1, 1) := by decide +kernel
theorem dX9_hasCell_1 : decode cX9_hasCell 1 = .ok (.ifCond .lt 21, 3) := by decide +kernel
theorem dX9_hasCell_4 : decode cX9_hasCell 4 = .ok (.iload_n 1, 1) := by decide +kernel
theorem dX9_hasCell_5 : decode cX9_hasCell 5 = .ok (.aload_n 0, 1) := by decide +kernel
theorem dX9_hasCell_6 : decode cX9_hasCell 6 = .ok (.getfield 35, 3) := by decide +kernel
theorem dX9_hasCell_9 : decode cX9_hasCell 9 = .ok (.if_icmp .ge 13, 3) := by decide +kernel
theorem dX9_hasCell_12 : decode cX9_hasCell 12 = .ok (.iload_n 1, 1) := by decide +kernel
theorem dX9_hasCell_13 : decode cX9_hasCell 13 = .ok (.bipush 16, 2) := by decide +kernel
theorem dX9_hasCell_15 : decode cX9_hasCell 15 = .ok (.if_icmp .ge 7, 3) := by decide +kernel
theorem dX9_hasCell_18 : decode cX9_hasCell 18 = .ok (.iconst 1, 1) := by decide +kernel
theorem dX9_hasCell_19 : decode cX9_hasCell 19 = .ok (.goto 4, 3) := by decide +kernel
theorem dX9_hasCell_22 : decode cX9_hasCell 22 = .ok (.iconst 0, 1) := by decide +kernel
theorem dX9_hasCell_23 : decode cX9_hasCell 23 = .ok (.ireturn, 1) := by decide +kernel
theorem dX9_stillToGoBack_0 : decode cX9_stillToGoBack 0 = .ok (.aload_n 0, 1) := by decide +kernel
theorem dX9_stillToGoBack_1 : decode cX9_stillToGoBack 1 = .ok (.getfield 12, 3) := by decide +kernel
theorem dX9_stillToGoBack_4 : decode cX9_stillToGoBack 4 = .ok (.iload_n 1, 1) := by decide +kernel
theorem dX9_stillToGoBack_5 : decode cX9_stillToGoBack 5 = .ok (.invokevirtual 55, 3) := by decide +kernel
theorem dX9_stillToGoBack_8 : decode cX9_stillToGoBack 8 = .ok (.ifCond .eq 12, 3) := by decide +kernel
theorem dX9_stillToGoBack_11 : decode cX9_stillToGoBack 11 = .ok (.aload_n 0, 1) := by decide +kernel
theorem dX9_stillToGoBack_12 : decode cX9_stillToGoBack 12 = .ok (.getfield 32, 3) := by decide +kernel
theorem dX9_stillToGoBack_15 : decode cX9_stillToGoBack 15 = .ok (.iload_n 1, 1) := by decide +kernel
theorem dX9_stillToGoBack_16 : decode cX9_stillToGoBack 16 = .ok (.iaload, 1) := by decide +kernel
theorem dX9_stillToGoBack_17 : decode cX9_stillToGoBack 17 = .ok (.ifCond .ne 5, 3) := by decide +kernel
theorem dX9_stillToGoBack_20 : decode cX9_stillToGoBack 20 = .ok (.iconst 0, 1) := by decide +kernel
theorem dX9_stillToGoBack_21 : decode cX9_stillToGoBack 21 = .ok (.ireturn, 1) := by decide +kernel
theorem dX9_stillToGoBack_22 : decode cX9_stillToGoBack 22 = .ok (.aload_n 0, 1) := by decide +kernel
theorem dX9_stillToGoBack_23 : decode cX9_stillToGoBack 23 = .ok (.getfield 12, 3) := by decide +kernel
theorem dX9_stillToGoBack_26 : decode cX9_stillToGoBack 26 = .ok (.getfield 62, 3) := by decide +kernel
theorem dX9_stillToGoBack_29 : decode cX9_stillToGoBack 29 = .ok (.iload_n 1, 1) := by decide +kernel
theorem dX9_stillToGoBack_30 : decode cX9_stillToGoBack 30 = .ok (.iaload, 1) := by decide +kernel
theorem dX9_stillToGoBack_31 : decode cX9_stillToGoBack 31 = .ok (.aload_n 0, 1) := by decide +kernel
theorem dX9_stillToGoBack_32 : decode cX9_stillToGoBack 32 = .ok (.getfield 32, 3) := by decide +kernel
theorem dX9_stillToGoBack_35 : decode cX9_stillToGoBack 35 = .ok (.iload_n 1, 1) := by decide +kernel
theorem dX9_stillToGoBack_36 : decode cX9_stillToGoBack 36 = .ok (.iaload, 1) := by decide +kernel
theorem dX9_stillToGoBack_37 : decode cX9_stillToGoBack 37 = .ok (.isub, 1) := by decide +kernel
theorem dX9_stillToGoBack_38 : decode cX9_stillToGoBack 38 = .ok (.ireturn, 1) := by decide +kernel
theorem dX9_goTo_0 : decode cX9_goTo 0 = .ok (.iload_n 1, 1) := by decide +kernel
theorem dX9_goTo_1 : decode cX9_goTo 1 = .ok (.aload_n 0, 1) := by decide +kernel
theorem dX9_goTo_2 : decode cX9_goTo 2 = .ok (.getfield 12, 3) := by decide +kernel
theorem dX9_goTo_5 : decode cX9_goTo 5 = .ok (.getfield 65, 3) := by decide +kernel
theorem dX9_goTo_8 : decode cX9_goTo 8 = .ok (.if_icmp .ge 11, 3) := by decide +kernel
theorem dX9_goTo_11 : decode cX9_goTo 11 = .ok (.aload_n 0, 1) := by decide +kernel
theorem dX9_goTo_12 : decode cX9_goTo 12 = .ok (.iload_n 1, 1) := by decide +kernel
theorem dX9_goTo_13 : decode cX9_goTo 13 = .ok (.putfield 52, 3) := by decide +kernel
theorem dX9_goTo_16 : decode cX9_goTo 16 = .ok (.goto 18, 3) := by decide +kernel
theorem dX9_goTo_19 : decode cX9_goTo 19 = .ok (.aload_n 0, 1) := by decide +kernel
theorem dX9_goTo_20 : decode cX9_goTo 20 = .ok (.iconst 0, 1) := by decide +kernel
theorem dX9_goTo_21 : decode cX9_goTo 21 = .ok (.putfield 52, 3) := by decide +kernel
theorem dX9_goTo_24 : decode cX9_goTo 24 = .ok (.aload_n 0, 1) := by decide +kernel
theorem dX9_goTo_25 : decode cX9_goTo 25 = .ok (.dup, 1) := by decide +kernel
theorem dX9_goTo_26 : decode cX9_goTo 26 = .ok (.getfield 68, 3) := by decide +kernel
theorem dX9_goTo_29 : decode cX9_goTo 29 = .ok (.iconst 1, 1) := by decide +kernel
theorem dX9_goTo_30 : decode cX9_goTo 30 = .ok (.iadd, 1) := by decide +kernel
theorem dX9_goTo_31 : decode cX9_goTo 31 = .ok (.putfield 68, 3) := by decide +kernel
theorem dX9_goTo_34 : decode cX9_goTo 34 = .ok (.return_, 1) := by decide +kernel
theorem dX9_stopBy_0 : decode cX9_stopBy 0 = .ok (.aload_n 0, 1) := by decide +kernel
theorem dX9_stopBy_1 : decode cX9_stopBy 1 = .ok (.iconst 5, 1) := by decide +kernel
theorem dX9_stopBy_2 : decode cX9_stopBy 2 = .ok (.putfield 43, 3) := by decide +kernel
theorem dX9_stopBy_5 : decode cX9_stopBy 5 = .ok (.aload_n 0, 1) := by decide +kernel
theorem dX9_stopBy_6 : decode cX9_stopBy 6 = .ok (.iload_n 1, 1) := by decide +kernel
theorem dX9_stopBy_7 : decode cX9_stopBy 7 = .ok (.putfield 46, 3) := by decide +kernel
theorem dX9_stopBy_10 : decode cX9_stopBy 10 = .ok (.return_, 1) := by decide +kernel
theorem dX9_next_0 : decode cX9_next 0 = .ok (.iload_n 1, 1) := by decide +kernel
theorem dX9_next_1 : decode cX9_next 1 = .ok (.bipush 7, 2) := by decide +kernel
theorem dX9_next_3 : decode cX9_next 3 = .ok (.if_icmp .eq 17, 3) := by decide +kernel
theorem dX9_next_6 : decode cX9_next 6 = .ok (.iload_n 1, 1) := by decide +kernel
theorem dX9_next_7 : decode cX9_next 7 = .ok (.bipush 8, 2) := by decide +kernel
theorem dX9_next_9 : decode cX9_next 9 = .ok (.if_icmp .ne 13, 3) := by decide +kernel
theorem dX9_next_12 : decode cX9_next 12 = .ok (.aload_n 0, 1) := by decide +kernel
theorem dX9_next_13 : decode cX9_next 13 = .ok (.iload_n 2, 1) := by decide +kernel
theorem dX9_next_14 : decode cX9_next 14 = .ok (.invokevirtual 71, 3) := by decide +kernel
theorem dX9_next_17 : decode cX9_next 17 = .ok (.ifCond .eq 5, 3) := by decide +kernel
theorem dX9_next_20 : decode cX9_next 20 = .ok (.iload_n 3, 1) := by decide +kernel
theorem dX9_next_21 : decode cX9_next 21 = .ok (.ireturn, 1) := by decide +kernel
theorem dX9_next_22 : decode cX9_next 22 = .ok (.iload_n 1, 1) := by decide +kernel
theorem dX9_next_23 : decode cX9_next 23 = .ok (.bipush 9, 2) := by decide +kernel
theorem dX9_next_25 : decode cX9_next 25 = .ok (.if_icmp .ne 17, 3) := by decide +kernel
theorem dX9_next_28 : decode cX9_next 28 = .ok (.aload_n 0, 1) := by decide +kernel
theorem dX9_next_29 : decode cX9_next 29 = .ok (.getfield 12, 3) := by decide +kernel
theorem dX9_next_32 : decode cX9_next 32 = .ok (.aload_n 0, 1) := by decide +kernel
theorem dX9_next_33 : decode cX9_next 33 = .ok (.getfield 52, 3) := by decide +kernel
theorem dX9_next_36 : decode cX9_next 36 = .ok (.invokevirtual 55, 3) := by decide +kernel
theorem dX9_next_39 : decode cX9_next 39 = .ok (.ifCond .ne 10, 3) := by decide +kernel
theorem dX9_next_42 : decode cX9_next 42 = .ok (.aload_n 0, 1) := by decide +kernel
theorem dX9_next_43 : decode cX9_next 43 = .ok (.getfield 52, 3) := by decide +kernel
theorem dX9_next_46 : decode cX9_next 46 = .ok (.iconst 1, 1) := by decide +kernel
theorem dX9_next_47 : decode cX9_next 47 = .ok (.iadd, 1) := by decide +kernel
theorem dX9_next_48 : decode cX9_next 48 = .ok (.ireturn, 1) := by decide +kernel
theorem dX9_next_49 : decode cX9_next 49 = .ok (.aload_n 0, 1) := by decide +kernel
theorem dX9_next_50 : decode cX9_next 50 = .ok (.getfield 32, 3) := by decide +kernel
theorem dX9_next_53 : decode cX9_next 53 = .ok (.aload_n 0, 1) := by decide +kernel
theorem dX9_next_54 : decode cX9_next 54 = .ok (.getfield 52, 3) := by decide +kernel
theorem dX9_next_57 : decode cX9_next 57 = .ok (.iaload, 1) := by decide +kernel
theorem dX9_next_58 : decode cX9_next 58 = .ok (.iload_n 2, 1) := by decide +kernel
theorem dX9_next_59 : decode cX9_next 59 = .ok (.if_icmp .ge 18, 3) := by decide +kernel
theorem dX9_next_62 : decode cX9_next 62 = .ok (.aload_n 0, 1) := by decide +kernel
theorem dX9_next_63 : decode cX9_next 63 = .ok (.getfield 32, 3) := by decide +kernel
theorem dX9_next_66 : decode cX9_next 66 = .ok (.aload_n 0, 1) := by decide +kernel
theorem dX9_next_67 : decode cX9_next 67 = .ok (.getfield 52, 3) := by decide +kernel
theorem dX9_next_70 : decode cX9_next 70 = .ok (.dup2, 1) := by decide +kernel
theorem dX9_next_71 : decode cX9_next 71 = .ok (.iaload, 1) := by decide +kernel
theorem dX9_next_72 : decode cX9_next 72 = .ok (.iconst 1, 1) := by decide +kernel
theorem dX9_next_73 : decode cX9_next 73 = .ok (.iadd, 1) := by decide +kernel
theorem dX9_next_74 : decode cX9_next 74 = .ok (.iastore, 1) := by decide +kernel
theorem dX9_next_75 : decode cX9_next 75 = .ok (.iload_n 3, 1) := by decide +kernel
theorem dX9_next_76 : decode cX9_next 76 = .ok (.ireturn, 1) := by decide +kernel
theorem dX9_next_77 : decode cX9_next 77 = .ok (.aload_n 0, 1) := by decide +kernel
theorem dX9_next_78 : decode cX9_next 78 = .ok (.getfield 32, 3) := by decide +kernel
theorem dX9_next_81 : decode cX9_next 81 = .ok (.aload_n 0, 1) := by decide +kernel
theorem dX9_next_82 : decode cX9_next 82 = .ok (.getfield 52, 3) := by decide +kernel
theorem dX9_next_85 : decode cX9_next 85 = .ok (.iconst 0, 1) := by decide +kernel
theorem dX9_next_86 : decode cX9_next 86 = .ok (.iastore, 1) := by decide +kernel
theorem dX9_next_87 : decode cX9_next 87 = .ok (.aload_n 0, 1) := by decide +kernel
theorem dX9_next_88 : decode cX9_next 88 = .ok (.getfield 52, 3) := by decide +kernel
theorem dX9_next_91 : decode cX9_next 91 = .ok (.iconst 1, 1) := by decide +kernel
theorem dX9_next_92 : decode cX9_next 92 = .ok (.iadd, 1) := by decide +kernel
theorem dX9_next_93 : decode cX9_next 93 = .ok (.ireturn, 1) := by decide +kernel
theorem dX9_compute_0 : decode cX9_compute 0 = .ok (.iload_n 1, 1) := by decide +kernel
theorem dX9_compute_1 : decode cX9_compute 1 = .ok (.tableswitch 277 0 20 #[99, 108, 128, 148, 168, 195, 208, 277, 277, 277, 277, 277, 277, 277, 277, 277, 277, 277, 225, 233, 255], 99) := by decide +kernel
theorem dX9_compute_100 : decode cX9_compute 100 = .ok (.aload_n 0, 1) := by decide +kernel
theorem dX9_compute_101 : decode cX9_compute 101 = .ok (.iload_n 2, 1) := by decide +kernel
theorem dX9_compute_102 : decode cX9_compute 102 = .ok (.iload_n 3, 1) := by decide +kernel
theorem dX9_compute_103 : decode cX9_compute 103 = .ok (.invokevirtual 75, 3) := by decide +kernel
theorem dX9_compute_106 : decode cX9_compute 106 = .ok (.goto 172, 3) := by decide +kernel
theorem dX9_compute_109 : decode cX9_compute 109 = .ok (.aload_n 0, 1) := by decide +kernel
theorem dX9_compute_110 : decode cX9_compute 110 = .ok (.iload_n 2, 1) := by decide +kernel
theorem dX9_compute_111 : decode cX9_compute 111 = .ok (.aload_n 0, 1) := by decide +kernel
theorem dX9_compute_112 : decode cX9_compute 112 = .ok (.iload_n 3, 1) := by decide +kernel
theorem dX9_compute_113 : decode cX9_compute 113 = .ok (.invokevirtual 71, 3) := by decide +kernel
theorem dX9_compute_116 : decode cX9_compute 116 = .ok (.aload_n 0, 1) := by decide +kernel
theorem dX9_compute_117 : decode cX9_compute 117 = .ok (.iload 4, 2) := by decide +kernel
theorem dX9_compute_119 : decode cX9_compute 119 = .ok (.invokevirtual 71, 3) := by decide +kernel
theorem dX9_compute_122 : decode cX9_compute 122 = .ok (.iadd, 1) := by decide +kernel
theorem dX9_compute_123 : decode cX9_compute 123 = .ok (.invokevirtual 75, 3) := by decide +kernel
theorem dX9_compute_126 : decode cX9_compute 126 = .ok (.goto 152, 3) := by decide +kernel
theorem dX9_compute_129 : decode cX9_compute 129 = .ok (.aload_n 0, 1) := by decide +kernel
theorem dX9_compute_130 : decode cX9_compute 130 = .ok (.iload_n 2, 1) := by decide +kernel
theorem dX9_compute_131 : decode cX9_compute 131 = .ok (.aload_n 0, 1) := by decide +kernel
theorem dX9_compute_132 : decode cX9_compute 132 = .ok (.iload_n 3, 1) := by decide +kernel
theorem dX9_compute_133 : decode cX9_compute 133 = .ok (.invokevirtual 71, 3) := by decide +kernel
theorem dX9_compute_136 : decode cX9_compute 136 = .ok (.aload_n 0, 1) := by decide +kernel
theorem dX9_compute_137 : decode cX9_compute 137 = .ok (.iload 4, 2) := by decide +kernel
theorem dX9_compute_139 : decode cX9_compute 139 = .ok (.invokevirtual 71, 3) := by decide +kernel
theorem dX9_compute_142 : decode cX9_compute 142 = .ok (.isub, 1) := by decide +kernel
theorem dX9_compute_143 : decode cX9_compute 143 = .ok (.invokevirtual 75, 3) := by decide +kernel
theorem dX9_compute_146 : decode cX9_compute 146 = .ok (.goto 132, 3) := by decide +kernel
theorem dX9_compute_149 : decode cX9_compute 149 = .ok (.aload_n 0, 1) := by decide +kernel
theorem dX9_compute_150 : decode cX9_compute 150 = .ok (.iload_n 2, 1) := by decide +kernel
theorem dX9_compute_151 : decode cX9_compute 151 = .ok (.aload_n 0, 1) := by decide +kernel
theorem dX9_compute_152 : decode cX9_compute 152 = .ok (.iload_n 3, 1) := by decide +kernel
theorem dX9_compute_153 : decode cX9_compute 153 = .ok (.invokevirtual 71, 3) := by decide +kernel
theorem dX9_compute_156 : decode cX9_compute 156 = .ok (.aload_n 0, 1) := by decide +kernel
theorem dX9_compute_157 : decode cX9_compute 157 = .ok (.iload 4, 2) := by decide +kernel
theorem dX9_compute_159 : decode cX9_compute 159 = .ok (.invokevirtual 71, 3) := by decide +kernel
theorem dX9_compute_162 : decode cX9_compute 162 = .ok (.imul, 1) := by decide +kernel
theorem dX9_compute_163 : decode cX9_compute 163 = .ok (.invokevirtual 75, 3) := by decide +kernel
theorem dX9_compute_166 : decode cX9_compute 166 = .ok (.goto 112, 3) := by decide +kernel
theorem dX9_compute_169 : decode cX9_compute 169 = .ok (.aload_n 0, 1) := by decide +kernel
theorem dX9_compute_170 : decode cX9_compute 170 = .ok (.iload_n 2, 1) := by decide +kernel
theorem dX9_compute_171 : decode cX9_compute 171 = .ok (.aload_n 0, 1) := by decide +kernel
theorem dX9_compute_172 : decode cX9_compute 172 = .ok (.iload_n 3, 1) := by decide +kernel
theorem dX9_compute_173 : decode cX9_compute 173 = .ok (.invokevirtual 71, 3) := by decide +kernel
theorem dX9_compute_176 : decode cX9_compute 176 = .ok (.aload_n 0, 1) := by decide +kernel
theorem dX9_compute_177 : decode cX9_compute 177 = .ok (.iload 4, 2) := by decide +kernel
theorem dX9_compute_179 : decode cX9_compute 179 = .ok (.invokevirtual 71, 3) := by decide +kernel
theorem dX9_compute_182 : decode cX9_compute 182 = .ok (.if_icmp .ge 7, 3) := by decide +kernel
theorem dX9_compute_185 : decode cX9_compute 185 = .ok (.iconst 1, 1) := by decide +kernel
theorem dX9_compute_186 : decode cX9_compute 186 = .ok (.goto 4, 3) := by decide +kernel
theorem dX9_compute_189 : decode cX9_compute 189 = .ok (.iconst 0, 1) := by decide +kernel
theorem dX9_compute_190 : decode cX9_compute 190 = .ok (.invokevirtual 75, 3) := by decide +kernel
theorem dX9_compute_193 : decode cX9_compute 193 = .ok (.goto 85, 3) := by decide +kernel
theorem dX9_compute_196 : decode cX9_compute 196 = .ok (.aload_n 0, 1) := by decide +kernel
theorem dX9_compute_197 : decode cX9_compute 197 = .ok (.iload_n 2, 1) := by decide +kernel
theorem dX9_compute_198 : decode cX9_compute 198 = .ok (.aload_n 0, 1) := by decide +kernel
theorem dX9_compute_199 : decode cX9_compute 199 = .ok (.iload_n 3, 1) := by decide +kernel
theorem dX9_compute_200 : decode cX9_compute 200 = .ok (.invokevirtual 71, 3) := by decide +kernel
theorem dX9_compute_203 : decode cX9_compute 203 = .ok (.invokevirtual 79, 3) := by decide +kernel
theorem dX9_compute_206 : decode cX9_compute 206 = .ok (.goto 72, 3) := by decide +kernel
theorem dX9_compute_209 : decode cX9_compute 209 = .ok (.aload_n 0, 1) := by decide +kernel
theorem dX9_compute_210 : decode cX9_compute 210 = .ok (.aload_n 0, 1) := by decide +kernel
theorem dX9_compute_211 : decode cX9_compute 211 = .ok (.iload_n 3, 1) := by decide +kernel
theorem dX9_compute_212 : decode cX9_compute 212 = .ok (.invokevirtual 71, 3) := by decide +kernel
theorem dX9_compute_215 : decode cX9_compute 215 = .ok (.aload_n 0, 1) := by decide +kernel
theorem dX9_compute_216 : decode cX9_compute 216 = .ok (.iload_n 2, 1) := by decide +kernel
theorem dX9_compute_217 : decode cX9_compute 217 = .ok (.invokevirtual 71, 3) := by decide +kernel
theorem dX9_compute_220 : decode cX9_compute 220 = .ok (.invokevirtual 82, 3) := by decide +kernel
theorem dX9_compute_223 : decode cX9_compute 223 = .ok (.goto 55, 3) := by decide +kernel
theorem dX9_compute_226 : decode cX9_compute 226 = .ok (.aload_n 0, 1) := by decide +kernel
theorem dX9_compute_227 : decode cX9_compute 227 = .ok (.iconst 4, 1) := by decide +kernel
theorem dX9_compute_228 : decode cX9_compute 228 = .ok (.putfield 43, 3) := by decide +kernel
theorem dX9_compute_231 : decode cX9_compute 231 = .ok (.goto 47, 3) := by decide +kernel
theorem dX9_compute_234 : decode cX9_compute 234 = .ok (.aload_n 0, 1) := by decide +kernel
theorem dX9_compute_235 : decode cX9_compute 235 = .ok (.iload_n 2, 1) := by decide +kernel
theorem dX9_compute_236 : decode cX9_compute 236 = .ok (.aload_n 0, 1) := by decide +kernel
theorem dX9_compute_237 : decode cX9_compute 237 = .ok (.iload_n 3, 1) := by decide +kernel
theorem dX9_compute_238 : decode cX9_compute 238 = .ok (.invokevirtual 71, 3) := by decide +kernel
theorem dX9_compute_241 : decode cX9_compute 241 = .ok (.aload_n 0, 1) := by decide +kernel
theorem dX9_compute_242 : decode cX9_compute 242 = .ok (.iload 4, 2) := by decide +kernel
theorem dX9_compute_244 : decode cX9_compute 244 = .ok (.invokevirtual 71, 3) := by decide +kernel
theorem dX9_compute_247 : decode cX9_compute 247 = .ok (.invokestatic 85, 3) := by decide +kernel
theorem dX9_compute_250 : decode cX9_compute 250 = .ok (.invokevirtual 75, 3) := by decide +kernel
theorem dX9_compute_253 : decode cX9_compute 253 = .ok (.goto 25, 3) := by decide +kernel
theorem dX9_compute_256 : decode cX9_compute 256 = .ok (.aload_n 0, 1) := by decide +kernel
theorem dX9_compute_257 : decode cX9_compute 257 = .ok (.iload_n 2, 1) := by decide +kernel
theorem dX9_compute_258 : decode cX9_compute 258 = .ok (.aload_n 0, 1) := by decide +kernel
theorem dX9_compute_259 : decode cX9_compute 259 = .ok (.iload_n 3, 1) := by decide +kernel
theorem dX9_compute_260 : decode cX9_compute 260 = .ok (.invokevirtual 71, 3) := by decide +kernel
theorem dX9_compute_263 : decode cX9_compute 263 = .ok (.aload_n 0, 1) := by decide +kernel
theorem dX9_compute_264 : decode cX9_compute 264 = .ok (.iload 4, 2) := by decide +kernel
theorem dX9_compute_266 : decode cX9_compute 266 = .ok (.invokevirtual 71, 3) := by decide +kernel
theorem dX9_compute_269 : decode cX9_compute 269 = .ok (.invokestatic 89, 3) := by decide +kernel
theorem dX9_compute_272 : decode cX9_compute 272 = .ok (.invokevirtual 75, 3) := by decide +kernel
theorem dX9_compute_275 : decode cX9_compute 275 = .ok (.goto 3, 3) := by decide +kernel
theorem dX9_compute_278 : decode cX9_compute 278 = .ok (.return_, 1) := by decide +kernel
theorem dX9_load_0 : decode cX9_load 0 = .ok (.aload_n 0, 1) := by decide +kernel
theorem dX9_load_1 : decode cX9_load 1 = .ok (.iload_n 2, 1) := by decide +kernel
theorem dX9_load_2 : decode cX9_load 2 = .ok (.invokevirtual 92, 3) := by decide +kernel
theorem dX9_load_5 : decode cX9_load 5 = .ok (.ifCond .eq 14, 3) := by decide +kernel
theorem dX9_load_8 : decode cX9_load 8 = .ok (.aload_n 0, 1) := by decide +kernel
theorem dX9_load_9 : decode cX9_load 9 = .ok (.iload_n 1, 1) := by decide +kernel
theorem dX9_load_10 : decode cX9_load 10 = .ok (.aload_n 0, 1) := by decide +kernel
theorem dX9_load_11 : decode cX9_load 11 = .ok (.getfield 29, 3) := by decide +kernel
theorem dX9_load_14 : decode cX9_load 14 = .ok (.iload_n 2, 1) := by decide +kernel
theorem dX9_load_15 : decode cX9_load 15 = .ok (.iaload, 1) := by decide +kernel
theorem dX9_load_16 : decode cX9_load 16 = .ok (.invokevirtual 75, 3) := by decide +kernel
theorem dX9_load_19 : decode cX9_load 19 = .ok (.return_, 1) := by decide +kernel
theorem dX9_store_0 : decode cX9_store 0 = .ok (.aload_n 0, 1) := by decide +kernel
theorem dX9_store_1 : decode cX9_store 1 = .ok (.iload_n 1, 1) := by decide +kernel
theorem dX9_store_2 : decode cX9_store 2 = .ok (.invokevirtual 92, 3) := by decide +kernel
theorem dX9_store_5 : decode cX9_store 5 = .ok (.ifCond .eq 10, 3) := by decide +kernel
theorem dX9_store_8 : decode cX9_store 8 = .ok (.aload_n 0, 1) := by decide +kernel
theorem dX9_store_9 : decode cX9_store 9 = .ok (.getfield 29, 3) := by decide +kernel
theorem dX9_store_12 : decode cX9_store 12 = .ok (.iload_n 1, 1) := by decide +kernel
theorem dX9_store_13 : decode cX9_store 13 = .ok (.iload_n 2, 1) := by decide +kernel
theorem dX9_store_14 : decode cX9_store 14 = .ok (.iastore, 1) := by decide +kernel
theorem dX9_store_15 : decode cX9_store 15 = .ok (.return_, 1) := by decide +kernel
theorem dX9_empty_0 : decode cX9_empty 0 = .ok (.aload_n 0, 1) := by decide +kernel
theorem dX9_empty_1 : decode cX9_empty 1 = .ok (.getfield 12, 3) := by decide +kernel
theorem dX9_empty_4 : decode cX9_empty 4 = .ok (.iconst 0, 1) := by decide +kernel
theorem dX9_empty_5 : decode cX9_empty 5 = .ok (.putfield 65, 3) := by decide +kernel
theorem dX9_empty_8 : decode cX9_empty 8 = .ok (.aload_n 0, 1) := by decide +kernel
theorem dX9_empty_9 : decode cX9_empty 9 = .ok (.invokevirtual 95, 3) := by decide +kernel
theorem dX9_empty_12 : decode cX9_empty 12 = .ok (.return_, 1) := by decide +kernel
theorem dX9_reset_0 : decode cX9_reset 0 = .ok (.aload_n 0, 1) := by decide +kernel
theorem dX9_reset_1 : decode cX9_reset 1 = .ok (.getfield 25, 3) := by decide +kernel
theorem dX9_reset_4 : decode cX9_reset 4 = .ok (.iconst 0, 1) := by decide +kernel
theorem dX9_reset_5 : decode cX9_reset 5 = .ok (.invokestatic 98, 3) := by decide +kernel
theorem dX9_reset_8 : decode cX9_reset 8 = .ok (.aload_n 0, 1) := by decide +kernel
theorem dX9_reset_9 : decode cX9_reset 9 = .ok (.getfield 29, 3) := by decide +kernel
theorem dX9_reset_12 : decode cX9_reset 12 = .ok (.iconst 0, 1) := by decide +kernel
theorem dX9_reset_13 : decode cX9_reset 13 = .ok (.invokestatic 98, 3) := by decide +kernel
theorem dX9_reset_16 : decode cX9_reset 16 = .ok (.aload_n 0, 1) := by decide +kernel
theorem dX9_reset_17 : decode cX9_reset 17 = .ok (.invokevirtual 95, 3) := by decide +kernel
theorem dX9_reset_20 : decode cX9_reset 20 = .ok (.aload_n 0, 1) := by decide +kernel
theorem dX9_reset_21 : decode cX9_reset 21 = .ok (.iconst 0, 1) := by decide +kernel
theorem dX9_reset_22 : decode cX9_reset 22 = .ok (.putfield 104, 3) := by decide +kernel
theorem dX9_reset_25 : decode cX9_reset 25 = .ok (.aload_n 0, 1) := by decide +kernel
theorem dX9_reset_26 : decode cX9_reset 26 = .ok (.iconst 0, 1) := by decide +kernel
theorem dX9_reset_27 : decode cX9_reset 27 = .ok (.putfield 107, 3) := by decide +kernel
theorem dX9_reset_30 : decode cX9_reset 30 = .ok (.aload_n 0, 1) := by decide +kernel
theorem dX9_reset_31 : decode cX9_reset 31 = .ok (.iconst 0, 1) := by decide +kernel
theorem dX9_reset_32 : decode cX9_reset 32 = .ok (.putfield 68, 3) := by decide +kernel
theorem dX9_reset_35 : decode cX9_reset 35 = .ok (.aload_n 0, 1) := by decide +kernel
theorem dX9_reset_36 : decode cX9_reset 36 = .ok (.iconst 0, 1) := by decide +kernel
theorem dX9_reset_37 : decode cX9_reset 37 = .ok (.putfield 110, 3) := by decide +kernel
theorem dX9_reset_40 : decode cX9_reset 40 = .ok (.return_, 1) := by decide +kernel
theorem dX9_rewind_0 : decode cX9_rewind 0 = .ok (.aload_n 0, 1) := by decide +kernel
theorem dX9_rewind_1 : decode cX9_rewind 1 = .ok (.getfield 32, 3) := by decide +kernel
theorem dX9_rewind_4 : decode cX9_rewind 4 = .ok (.iconst 0, 1) := by decide +kernel
theorem dX9_rewind_5 : decode cX9_rewind 5 = .ok (.invokestatic 98, 3) := by decide +kernel
theorem dX9_rewind_8 : decode cX9_rewind 8 = .ok (.aload_n 0, 1) := by decide +kernel
theorem dX9_rewind_9 : decode cX9_rewind 9 = .ok (.iconst 0, 1) := by decide +kernel
theorem dX9_rewind_10 : decode cX9_rewind 10 = .ok (.putfield 52, 3) := by decide +kernel
theorem dX9_rewind_13 : decode cX9_rewind 13 = .ok (.aload_n 0, 1) := by decide +kernel
theorem dX9_rewind_14 : decode cX9_rewind 14 = .ok (.iconst 0, 1) := by decide +kernel
theorem dX9_rewind_15 : decode cX9_rewind 15 = .ok (.putfield 43, 3) := by decide +kernel
theorem dX9_rewind_18 : decode cX9_rewind 18 = .ok (.aload_n 0, 1) := by decide +kernel
theorem dX9_rewind_19 : decode cX9_rewind 19 = .ok (.iconst 0, 1) := by decide +kernel
theorem dX9_rewind_20 : decode cX9_rewind 20 = .ok (.putfield 46, 3) := by decide +kernel
theorem dX9_rewind_23 : decode cX9_rewind 23 = .ok (.return_, 1) := by decide +kernel
theorem dX9_copy_0 : decode cX9_copy 0 = .ok (.aload_n 0, 1) := by decide +kernel
theorem dX9_copy_1 : decode cX9_copy 1 = .ok (.getfield 12, 3) := by decide +kernel
theorem dX9_copy_4 : decode cX9_copy 4 = .ok (.aload_n 1, 1) := by decide +kernel
theorem dX9_copy_5 : decode cX9_copy 5 = .ok (.getfield 12, 3) := by decide +kernel
theorem dX9_copy_8 : decode cX9_copy 8 = .ok (.invokevirtual 113, 3) := by decide +kernel
theorem dX9_copy_11 : decode cX9_copy 11 = .ok (.aload_n 0, 1) := by decide +kernel
theorem dX9_copy_12 : decode cX9_copy 12 = .ok (.getfield 21, 3) := by decide +kernel
theorem dX9_copy_15 : decode cX9_copy 15 = .ok (.aload_n 1, 1) := by decide +kernel
theorem dX9_copy_16 : decode cX9_copy 16 = .ok (.getfield 21, 3) := by decide +kernel
theorem dX9_copy_19 : decode cX9_copy 19 = .ok (.invokevirtual 117, 3) := by decide +kernel
theorem dX9_copy_22 : decode cX9_copy 22 = .ok (.aload_n 1, 1) := by decide +kernel
theorem dX9_copy_23 : decode cX9_copy 23 = .ok (.getfield 25, 3) := by decide +kernel
theorem dX9_copy_26 : decode cX9_copy 26 = .ok (.iconst 0, 1) := by decide +kernel
theorem dX9_copy_27 : decode cX9_copy 27 = .ok (.aload_n 0, 1) := by decide +kernel
theorem dX9_copy_28 : decode cX9_copy 28 = .ok (.getfield 25, 3) := by decide +kernel
theorem dX9_copy_31 : decode cX9_copy 31 = .ok (.iconst 0, 1) := by decide +kernel
theorem dX9_copy_32 : decode cX9_copy 32 = .ok (.bipush 8, 2) := by decide +kernel
theorem dX9_copy_34 : decode cX9_copy 34 = .ok (.invokestatic 120, 3) := by decide +kernel
theorem dX9_copy_37 : decode cX9_copy 37 = .ok (.aload_n 1, 1) := by decide +kernel
theorem dX9_copy_38 : decode cX9_copy 38 = .ok (.getfield 29, 3) := by decide +kernel
theorem dX9_copy_41 : decode cX9_copy 41 = .ok (.iconst 0, 1) := by decide +kernel
theorem dX9_copy_42 : decode cX9_copy 42 = .ok (.aload_n 0, 1) := by decide +kernel
theorem dX9_copy_43 : decode cX9_copy 43 = .ok (.getfield 29, 3) := by decide +kernel
theorem dX9_copy_46 : decode cX9_copy 46 = .ok (.iconst 0, 1) := by decide +kernel
theorem dX9_copy_47 : decode cX9_copy 47 = .ok (.bipush 16, 2) := by decide +kernel
theorem dX9_copy_49 : decode cX9_copy 49 = .ok (.invokestatic 120, 3) := by decide +kernel
theorem dX9_copy_52 : decode cX9_copy 52 = .ok (.aload_n 1, 1) := by decide +kernel
theorem dX9_copy_53 : decode cX9_copy 53 = .ok (.getfield 32, 3) := by decide +kernel
theorem dX9_copy_56 : decode cX9_copy 56 = .ok (.iconst 0, 1) := by decide +kernel
theorem dX9_copy_57 : decode cX9_copy 57 = .ok (.aload_n 0, 1) := by decide +kernel
theorem dX9_copy_58 : decode cX9_copy 58 = .ok (.getfield 32, 3) := by decide +kernel
theorem dX9_copy_61 : decode cX9_copy 61 = .ok (.iconst 0, 1) := by decide +kernel
theorem dX9_copy_62 : decode cX9_copy 62 = .ok (.bipush 24, 2) := by decide +kernel
theorem dX9_copy_64 : decode cX9_copy 64 = .ok (.invokestatic 120, 3) := by decide +kernel
theorem dX9_copy_67 : decode cX9_copy 67 = .ok (.aload_n 0, 1) := by decide +kernel
theorem dX9_copy_68 : decode cX9_copy 68 = .ok (.aload_n 1, 1) := by decide +kernel
theorem dX9_copy_69 : decode cX9_copy 69 = .ok (.getfield 35, 3) := by decide +kernel
theorem dX9_copy_72 : decode cX9_copy 72 = .ok (.putfield 35, 3) := by decide +kernel
theorem dX9_copy_75 : decode cX9_copy 75 = .ok (.aload_n 0, 1) := by decide +kernel
theorem dX9_copy_76 : decode cX9_copy 76 = .ok (.aload_n 1, 1) := by decide +kernel
theorem dX9_copy_77 : decode cX9_copy 77 = .ok (.getfield 39, 3) := by decide +kernel
theorem dX9_copy_80 : decode cX9_copy 80 = .ok (.putfield 39, 3) := by decide +kernel
theorem dX9_copy_83 : decode cX9_copy 83 = .ok (.aload_n 0, 1) := by decide +kernel
theorem dX9_copy_84 : decode cX9_copy 84 = .ok (.aload_n 1, 1) := by decide +kernel
theorem dX9_copy_85 : decode cX9_copy 85 = .ok (.getfield 52, 3) := by decide +kernel
theorem dX9_copy_88 : decode cX9_copy 88 = .ok (.putfield 52, 3) := by decide +kernel
theorem dX9_copy_91 : decode cX9_copy 91 = .ok (.aload_n 0, 1) := by decide +kernel
theorem dX9_copy_92 : decode cX9_copy 92 = .ok (.aload_n 1, 1) := by decide +kernel
theorem dX9_copy_93 : decode cX9_copy 93 = .ok (.getfield 43, 3) := by decide +kernel
theorem dX9_copy_96 : decode cX9_copy 96 = .ok (.putfield 43, 3) := by decide +kernel
theorem dX9_copy_99 : decode cX9_copy 99 = .ok (.aload_n 0, 1) := by decide +kernel
theorem dX9_copy_100 : decode cX9_copy 100 = .ok (.aload_n 1, 1) := by decide +kernel
theorem dX9_copy_101 : decode cX9_copy 101 = .ok (.getfield 46, 3) := by decide +kernel
theorem dX9_copy_104 : decode cX9_copy 104 = .ok (.putfield 46, 3) := by decide +kernel
theorem dX9_copy_107 : decode cX9_copy 107 = .ok (.aload_n 0, 1) := by decide +kernel
theorem dX9_copy_108 : decode cX9_copy 108 = .ok (.aload_n 1, 1) := by decide +kernel
theorem dX9_copy_109 : decode cX9_copy 109 = .ok (.getfield 104, 3) := by decide +kernel
theorem dX9_copy_112 : decode cX9_copy 112 = .ok (.putfield 104, 3) := by decide +kernel
theorem dX9_copy_115 : decode cX9_copy 115 = .ok (.aload_n 0, 1) := by decide +kernel
theorem dX9_copy_116 : decode cX9_copy 116 = .ok (.aload_n 1, 1) := by decide +kernel
theorem dX9_copy_117 : decode cX9_copy 117 = .ok (.getfield 107, 3) := by decide +kernel
theorem dX9_copy_120 : decode cX9_copy 120 = .ok (.putfield 107, 3) := by decide +kernel
theorem dX9_copy_123 : decode cX9_copy 123 = .ok (.aload_n 0, 1) := by decide +kernel
theorem dX9_copy_124 : decode cX9_copy 124 = .ok (.aload_n 1, 1) := by decide +kernel
theorem dX9_copy_125 : decode cX9_copy 125 = .ok (.getfield 68, 3) := by decide +kernel
theorem dX9_copy_128 : decode cX9_copy 128 = .ok (.putfield 68, 3) := by decide +kernel
theorem dX9_copy_131 : decode cX9_copy 131 = .ok (.aload_n 0, 1) := by decide +kernel
theorem dX9_copy_132 : decode cX9_copy 132 = .ok (.aload_n 1, 1) := by decide +kernel
theorem dX9_copy_133 : decode cX9_copy 133 = .ok (.getfield 110, 3) := by decide +kernel
theorem dX9_copy_136 : decode cX9_copy 136 = .ok (.putfield 110, 3) := by decide +kernel
theorem dX9_copy_139 : decode cX9_copy 139 = .ok (.return_, 1) := by decide +kernel
theorem dX10_init_0 : decode cX10_init 0 = .ok (.aload_n 0, 1) := by decide +kernel
theorem dX10_init_1 : decode cX10_init 1 = .ok (.invokespecial 3, 3) := by decide +kernel
theorem dX10_init_4 : decode cX10_init 4 = .ok (.aload_n 0, 1) := by decide +kernel
theorem dX10_init_5 : decode cX10_init 5 = .ok (.bipush 16, 2) := by decide +kernel
theorem dX10_init_7 : decode cX10_init 7 = .ok (.newarray .int, 2) := by decide +kernel
theorem dX10_init_9 : decode cX10_init 9 = .ok (.putfield 9, 3) := by decide +kernel
theorem dX10_init_12 : decode cX10_init 12 = .ok (.aload_n 0, 1) := by decide +kernel
theorem dX10_init_13 : decode cX10_init 13 = .ok (.iconst 1, 1) := by decide +kernel
theorem dX10_init_14 : decode cX10_init 14 = .ok (.putfield 15, 3) := by decide +kernel
theorem dX10_init_17 : decode cX10_init 17 = .ok (.aload_n 0, 1) := by decide +kernel
theorem dX10_init_18 : decode cX10_init 18 = .ok (.getfield 9, 3) := by decide +kernel
theorem dX10_init_21 : decode cX10_init 21 = .ok (.iconst (-1), 1) := by decide +kernel
theorem dX10_init_22 : decode cX10_init 22 = .ok (.invokestatic 19, 3) := by decide +kernel
theorem dX10_init_25 : decode cX10_init 25 = .ok (.return_, 1) := by decide +kernel
theorem dX10_has_0 : decode cX10_has 0 = .ok (.iload_n 1, 1) := by decide +kernel
theorem dX10_has_1 : decode cX10_has 1 = .ok (.ifCond .lt 21, 3) := by decide +kernel
theorem dX10_has_4 : decode cX10_has 4 = .ok (.iload_n 1, 1) := by decide +kernel
theorem dX10_has_5 : decode cX10_has 5 = .ok (.aload_n 0, 1) := by decide +kernel
theorem dX10_has_6 : decode cX10_has 6 = .ok (.getfield 15, 3) := by decide +kernel
theorem dX10_has_9 : decode cX10_has 9 = .ok (.if_icmp .ge 13, 3) := by decide +kernel
theorem dX10_has_12 : decode cX10_has 12 = .ok (.iload_n 1, 1) := by decide +kernel
theorem dX10_has_13 : decode cX10_has 13 = .ok (.bipush 16, 2) := by decide +kernel
theorem dX10_has_15 : decode cX10_has 15 = .ok (.if_icmp .ge 7, 3) := by decide +kernel
theorem dX10_has_18 : decode cX10_has 18 = .ok (.iconst 1, 1) := by decide +kernel
theorem dX10_has_19 : decode cX10_has 19 = .ok (.goto 4, 3) := by decide +kernel
theorem dX10_has_22 : decode cX10_has 22 = .ok (.iconst 0, 1) := by decide +kernel
theorem dX10_has_23 : decode cX10_has 23 = .ok (.ireturn, 1) := by decide +kernel
theorem dX10_ownerAt_0 : decode cX10_ownerAt 0 = .ok (.aload_n 0, 1) := by decide +kernel
theorem dX10_ownerAt_1 : decode cX10_ownerAt 1 = .ok (.getfield 15, 3) := by decide +kernel
theorem dX10_ownerAt_4 : decode cX10_ownerAt 4 = .ok (.iconst 1, 1) := by decide +kernel
theorem dX10_ownerAt_5 : decode cX10_ownerAt 5 = .ok (.if_icmp .ge 5, 3) := by decide +kernel
theorem dX10_ownerAt_8 : decode cX10_ownerAt 8 = .ok (.iconst (-1), 1) := by decide +kernel
theorem dX10_ownerAt_9 : decode cX10_ownerAt 9 = .ok (.ireturn, 1) := by decide +kernel
theorem dX10_ownerAt_10 : decode cX10_ownerAt 10 = .ok (.iload_n 1, 1) := by decide +kernel
theorem dX10_ownerAt_11 : decode cX10_ownerAt 11 = .ok (.aload_n 0, 1) := by decide +kernel
theorem dX10_ownerAt_12 : decode cX10_ownerAt 12 = .ok (.getfield 15, 3) := by decide +kernel
theorem dX10_ownerAt_15 : decode cX10_ownerAt 15 = .ok (.irem, 1) := by decide +kernel
theorem dX10_ownerAt_16 : decode cX10_ownerAt 16 = .ok (.istore_n 2, 1) := by decide +kernel
theorem dX10_ownerAt_17 : decode cX10_ownerAt 17 = .ok (.aload_n 0, 1) := by decide +kernel
theorem dX10_ownerAt_18 : decode cX10_ownerAt 18 = .ok (.iload_n 2, 1) := by decide +kernel
theorem dX10_ownerAt_19 : decode cX10_ownerAt 19 = .ok (.invokevirtual 25, 3) := by decide +kernel
theorem dX10_ownerAt_22 : decode cX10_ownerAt 22 = .ok (.ifCond .eq 12, 3) := by decide +kernel
theorem dX10_ownerAt_25 : decode cX10_ownerAt 25 = .ok (.aload_n 0, 1) := by decide +kernel
theorem dX10_ownerAt_26 : decode cX10_ownerAt 26 = .ok (.getfield 9, 3) := by decide +kernel
theorem dX10_ownerAt_29 : decode cX10_ownerAt 29 = .ok (.iload_n 2, 1) := by decide +kernel
theorem dX10_ownerAt_30 : decode cX10_ownerAt 30 = .ok (.iaload, 1) := by decide +kernel
theorem dX10_ownerAt_31 : decode cX10_ownerAt 31 = .ok (.goto 4, 3) := by decide +kernel
theorem dX10_ownerAt_34 : decode cX10_ownerAt 34 = .ok (.iconst (-1), 1) := by decide +kernel
theorem dX10_ownerAt_35 : decode cX10_ownerAt 35 = .ok (.ireturn, 1) := by decide +kernel
theorem dX10_resize_0 : decode cX10_resize 0 = .ok (.aload_n 0, 1) := by decide +kernel
theorem dX10_resize_1 : decode cX10_resize 1 = .ok (.getfield 15, 3) := by decide +kernel
theorem dX10_resize_4 : decode cX10_resize 4 = .ok (.istore_n 2, 1) := by decide +kernel
theorem dX10_resize_5 : decode cX10_resize 5 = .ok (.iload_n 2, 1) := by decide +kernel
theorem dX10_resize_6 : decode cX10_resize 6 = .ok (.istore_n 3, 1) := by decide +kernel
theorem dX10_resize_7 : decode cX10_resize 7 = .ok (.iload_n 3, 1) := by decide +kernel
theorem dX10_resize_8 : decode cX10_resize 8 = .ok (.iload_n 1, 1) := by decide +kernel
theorem dX10_resize_9 : decode cX10_resize 9 = .ok (.if_icmp .ge 22, 3) := by decide +kernel
theorem dX10_resize_12 : decode cX10_resize 12 = .ok (.iload_n 3, 1) := by decide +kernel
theorem dX10_resize_13 : decode cX10_resize 13 = .ok (.bipush 16, 2) := by decide +kernel
theorem dX10_resize_15 : decode cX10_resize 15 = .ok (.if_icmp .ge 16, 3) := by decide +kernel
theorem dX10_resize_18 : decode cX10_resize 18 = .ok (.aload_n 0, 1) := by decide +kernel
theorem dX10_resize_19 : decode cX10_resize 19 = .ok (.getfield 9, 3) := by decide +kernel
theorem dX10_resize_22 : decode cX10_resize 22 = .ok (.iload_n 3, 1) := by decide +kernel
theorem dX10_resize_23 : decode cX10_resize 23 = .ok (.iconst (-1), 1) := by decide +kernel
theorem dX10_resize_24 : decode cX10_resize 24 = .ok (.iastore, 1) := by decide +kernel
theorem dX10_resize_25 : decode cX10_resize 25 = .ok (.iinc 3 1, 3) := by decide +kernel
theorem dX10_resize_28 : decode cX10_resize 28 = .ok (.goto (-21), 3) := by decide +kernel
theorem dX10_resize_31 : decode cX10_resize 31 = .ok (.aload_n 0, 1) := by decide +kernel
theorem dX10_resize_32 : decode cX10_resize 32 = .ok (.iload_n 1, 1) := by decide +kernel
theorem dX10_resize_33 : decode cX10_resize 33 = .ok (.putfield 15, 3) := by decide +kernel
theorem dX10_resize_36 : decode cX10_resize 36 = .ok (.iload_n 2, 1) := by decide +kernel
theorem dX10_resize_37 : decode cX10_resize 37 = .ok (.ireturn, 1) := by decide +kernel
theorem dX10_owned_0 : decode cX10_owned 0 = .ok (.iconst 0, 1) := by decide +kernel
theorem dX10_owned_1 : decode cX10_owned 1 = .ok (.istore_n 2, 1) := by decide +kernel
theorem dX10_owned_2 : decode cX10_owned 2 = .ok (.iconst 0, 1) := by decide +kernel
theorem dX10_owned_3 : decode cX10_owned 3 = .ok (.istore_n 3, 1) := by decide +kernel
theorem dX10_owned_4 : decode cX10_owned 4 = .ok (.iload_n 3, 1) := by decide +kernel
theorem dX10_owned_5 : decode cX10_owned 5 = .ok (.bipush 16, 2) := by decide +kernel
theorem dX10_owned_7 : decode cX10_owned 7 = .ok (.if_icmp .ge 30, 3) := by decide +kernel
theorem dX10_owned_10 : decode cX10_owned 10 = .ok (.aload_n 0, 1) := by decide +kernel
theorem dX10_owned_11 : decode cX10_owned 11 = .ok (.iload_n 3, 1) := by decide +kernel
theorem dX10_owned_12 : decode cX10_owned 12 = .ok (.invokevirtual 25, 3) := by decide +kernel
theorem dX10_owned_15 : decode cX10_owned 15 = .ok (.ifCond .eq 22, 3) := by decide +kernel
theorem dX10_owned_18 : decode cX10_owned 18 = .ok (.aload_n 0, 1) := by decide +kernel
theorem dX10_owned_19 : decode cX10_owned 19 = .ok (.getfield 9, 3) := by decide +kernel
theorem dX10_owned_22 : decode cX10_owned 22 = .ok (.iload_n 3, 1) := by decide +kernel
theorem dX10_owned_23 : decode cX10_owned 23 = .ok (.iaload, 1) := by decide +kernel
theorem dX10_owned_24 : decode cX10_owned 24 = .ok (.iload_n 1, 1) := by decide +kernel
theorem dX10_owned_25 : decode cX10_owned 25 = .ok (.if_icmp .ne 6, 3) := by decide +kernel
theorem dX10_owned_28 : decode cX10_owned 28 = .ok (.iinc 2 1, 3) := by decide +kernel
theorem dX10_owned_31 : decode cX10_owned 31 = .ok (.iinc 3 1, 3) := by decide +kernel
theorem dX10_owned_34 : decode cX10_owned 34 = .ok (.goto (-30), 3) := by decide +kernel
theorem dX10_owned_37 : decode cX10_owned 37 = .ok (.iload_n 2, 1) := by decide +kernel
theorem dX10_owned_38 : decode cX10_owned 38 = .ok (.ireturn, 1) := by decide +kernel
theorem dX10_ticksOf_0 : decode cX10_ticksOf 0 = .ok (.aload_n 0, 1) := by decide +kernel
theorem dX10_ticksOf_1 : decode cX10_ticksOf 1 = .ok (.iload_n 1, 1) := by decide +kernel
theorem dX10_ticksOf_2 : decode cX10_ticksOf 2 = .ok (.invokevirtual 29, 3) := by decide +kernel
theorem dX10_ticksOf_5 : decode cX10_ticksOf 5 = .ok (.istore 4, 2) := by decide +kernel
theorem dX10_ticksOf_7 : decode cX10_ticksOf 7 = .ok (.iload 4, 2) := by decide +kernel
theorem dX10_ticksOf_9 : decode cX10_ticksOf 9 = .ok (.iconst 1, 1) := by decide +kernel
theorem dX10_ticksOf_10 : decode cX10_ticksOf 10 = .ok (.if_icmp .lt 14, 3) := by decide +kernel
theorem dX10_ticksOf_13 : decode cX10_ticksOf 13 = .ok (.iload_n 2, 1) := by decide +kernel
theorem dX10_ticksOf_14 : decode cX10_ticksOf 14 = .ok (.iconst 1, 1) := by decide +kernel
theorem dX10_ticksOf_15 : decode cX10_ticksOf 15 = .ok (.if_icmp .lt 9, 3) := by decide +kernel
theorem dX10_ticksOf_18 : decode cX10_ticksOf 18 = .ok (.iload_n 2, 1) := by decide +kernel
theorem dX10_ticksOf_19 : decode cX10_ticksOf 19 = .ok (.ldc 33, 2) := by decide +kernel
theorem dX10_ticksOf_21 : decode cX10_ticksOf 21 = .ok (.if_icmp .le 5, 3) := by decide +kernel
theorem dX10_ticksOf_24 : decode cX10_ticksOf 24 = .ok (.iconst (-1), 1) := by decide +kernel
theorem dX10_ticksOf_25 : decode cX10_ticksOf 25 = .ok (.ireturn, 1) := by decide +kernel
theorem dX10_ticksOf_26 : decode cX10_ticksOf 26 = .ok (.iload_n 2, 1) := by decide +kernel
theorem dX10_ticksOf_27 : decode cX10_ticksOf 27 = .ok (.iconst 1, 1) := by decide +kernel
theorem dX10_ticksOf_28 : decode cX10_ticksOf 28 = .ok (.isub, 1) := by decide +kernel
theorem dX10_ticksOf_29 : decode cX10_ticksOf 29 = .ok (.iload 4, 2) := by decide +kernel
theorem dX10_ticksOf_31 : decode cX10_ticksOf 31 = .ok (.idiv, 1) := by decide +kernel
theorem dX10_ticksOf_32 : decode cX10_ticksOf 32 = .ok (.istore 5, 2) := by decide +kernel
theorem dX10_ticksOf_34 : decode cX10_ticksOf 34 = .ok (.iload_n 2, 1) := by decide +kernel
theorem dX10_ticksOf_35 : decode cX10_ticksOf 35 = .ok (.iload 5, 2) := by decide +kernel
theorem dX10_ticksOf_37 : decode cX10_ticksOf 37 = .ok (.iload 4, 2) := by decide +kernel
theorem dX10_ticksOf_39 : decode cX10_ticksOf 39 = .ok (.imul, 1) := by decide +kernel
theorem dX10_ticksOf_40 : decode cX10_ticksOf 40 = .ok (.isub, 1) := by decide +kernel
theorem dX10_ticksOf_41 : decode cX10_ticksOf 41 = .ok (.istore 6, 2) := by decide +kernel
theorem dX10_ticksOf_43 : decode cX10_ticksOf 43 = .ok (.aload_n 0, 1) := by decide +kernel
theorem dX10_ticksOf_44 : decode cX10_ticksOf 44 = .ok (.iconst 0, 1) := by decide +kernel
theorem dX10_ticksOf_45 : decode cX10_ticksOf 45 = .ok (.iload_n 1, 1) := by decide +kernel
theorem dX10_ticksOf_46 : decode cX10_ticksOf 46 = .ok (.iload 6, 2) := by decide +kernel
theorem dX10_ticksOf_48 : decode cX10_ticksOf 48 = .ok (.invokevirtual 34, 3) := by decide +kernel
theorem dX10_ticksOf_51 : decode cX10_ticksOf 51 = .ok (.istore 7, 2) := by decide +kernel
theorem dX10_ticksOf_53 : decode cX10_ticksOf 53 = .ok (.iconst 1, 1) := by decide +kernel
theorem dX10_ticksOf_54 : decode cX10_ticksOf 54 = .ok (.istore 8, 2) := by decide +kernel
theorem dX10_ticksOf_56 : decode cX10_ticksOf 56 = .ok (.iload 8, 2) := by decide +kernel
theorem dX10_ticksOf_58 : decode cX10_ticksOf 58 = .ok (.aload_n 0, 1) := by decide +kernel
theorem dX10_ticksOf_59 : decode cX10_ticksOf 59 = .ok (.getfield 15, 3) := by decide +kernel
theorem dX10_ticksOf_62 : decode cX10_ticksOf 62 = .ok (.if_icmp .ge 43, 3) := by decide +kernel
theorem dX10_ticksOf_65 : decode cX10_ticksOf 65 = .ok (.aload_n 0, 1) := by decide +kernel
theorem dX10_ticksOf_66 : decode cX10_ticksOf 66 = .ok (.iload 8, 2) := by decide +kernel
theorem dX10_ticksOf_68 : decode cX10_ticksOf 68 = .ok (.iload_n 1, 1) := by decide +kernel
theorem dX10_ticksOf_69 : decode cX10_ticksOf 69 = .ok (.iload 6, 2) := by decide +kernel
theorem dX10_ticksOf_71 : decode cX10_ticksOf 71 = .ok (.invokevirtual 34, 3) := by decide +kernel
theorem dX10_ticksOf_74 : decode cX10_ticksOf 74 = .ok (.istore 9, 2) := by decide +kernel
theorem dX10_ticksOf_76 : decode cX10_ticksOf 76 = .ok (.iload_n 3, 1) := by decide +kernel
theorem dX10_ticksOf_77 : decode cX10_ticksOf 77 = .ok (.ifCond .eq 13, 3) := by decide +kernel
theorem dX10_ticksOf_80 : decode cX10_ticksOf 80 = .ok (.iload 7, 2) := by decide +kernel
theorem dX10_ticksOf_82 : decode cX10_ticksOf 82 = .ok (.iload 9, 2) := by decide +kernel
theorem dX10_ticksOf_84 : decode cX10_ticksOf 84 = .ok (.invokestatic 38, 3) := by decide +kernel
theorem dX10_ticksOf_87 : decode cX10_ticksOf 87 = .ok (.goto 10, 3) := by decide +kernel
theorem dX10_ticksOf_90 : decode cX10_ticksOf 90 = .ok (.iload 7, 2) := by decide +kernel
theorem dX10_ticksOf_92 : decode cX10_ticksOf 92 = .ok (.iload 9, 2) := by decide +kernel
theorem dX10_ticksOf_94 : decode cX10_ticksOf 94 = .ok (.invokestatic 44, 3) := by decide +kernel
theorem dX10_ticksOf_97 : decode cX10_ticksOf 97 = .ok (.istore 7, 2) := by decide +kernel
theorem dX10_ticksOf_99 : decode cX10_ticksOf 99 = .ok (.iinc 8 1, 3) := by decide +kernel
theorem dX10_ticksOf_102 : decode cX10_ticksOf 102 = .ok (.goto (-46), 3) := by decide +kernel
theorem dX10_ticksOf_105 : decode cX10_ticksOf 105 = .ok (.iload 5, 2) := by decide +kernel
theorem dX10_ticksOf_107 : decode cX10_ticksOf 107 = .ok (.aload_n 0, 1) := by decide +kernel
theorem dX10_ticksOf_108 : decode cX10_ticksOf 108 = .ok (.getfield 15, 3) := by decide +kernel
theorem dX10_ticksOf_111 : decode cX10_ticksOf 111 = .ok (.imul, 1) := by decide +kernel
theorem dX10_ticksOf_112 : decode cX10_ticksOf 112 = .ok (.iload 7, 2) := by decide +kernel
theorem dX10_ticksOf_114 : decode cX10_ticksOf 114 = .ok (.iadd, 1) := by decide +kernel
theorem dX10_ticksOf_115 : decode cX10_ticksOf 115 = .ok (.ireturn, 1) := by decide +kernel
theorem dX10_ticksFrom_0 : decode cX10_ticksFrom 0 = .ok (.iconst 0, 1) := by decide +kernel
theorem dX10_ticksFrom_1 : decode cX10_ticksFrom 1 = .ok (.istore 4, 2) := by decide +kernel
theorem dX10_ticksFrom_3 : decode cX10_ticksFrom 3 = .ok (.iconst 1, 1) := by decide +kernel
theorem dX10_ticksFrom_4 : decode cX10_ticksFrom 4 = .ok (.istore 5, 2) := by decide +kernel
theorem dX10_ticksFrom_6 : decode cX10_ticksFrom 6 = .ok (.iload 5, 2) := by decide +kernel
theorem dX10_ticksFrom_8 : decode cX10_ticksFrom 8 = .ok (.aload_n 0, 1) := by decide +kernel
theorem dX10_ticksFrom_9 : decode cX10_ticksFrom 9 = .ok (.getfield 15, 3) := by decide +kernel
theorem dX10_ticksFrom_12 : decode cX10_ticksFrom 12 = .ok (.if_icmp .gt 35, 3) := by decide +kernel
theorem dX10_ticksFrom_15 : decode cX10_ticksFrom 15 = .ok (.aload_n 0, 1) := by decide +kernel
theorem dX10_ticksFrom_16 : decode cX10_ticksFrom 16 = .ok (.iload_n 1, 1) := by decide +kernel
theorem dX10_ticksFrom_17 : decode cX10_ticksFrom 17 = .ok (.iload 5, 2) := by decide +kernel
theorem dX10_ticksFrom_19 : decode cX10_ticksFrom 19 = .ok (.iadd, 1) := by decide +kernel
theorem dX10_ticksFrom_20 : decode cX10_ticksFrom 20 = .ok (.iconst 1, 1) := by decide +kernel
theorem dX10_ticksFrom_21 : decode cX10_ticksFrom 21 = .ok (.isub, 1) := by decide +kernel
theorem dX10_ticksFrom_22 : decode cX10_ticksFrom 22 = .ok (.invokevirtual 47, 3) := by decide +kernel
theorem dX10_ticksFrom_25 : decode cX10_ticksFrom 25 = .ok (.iload_n 2, 1) := by decide +kernel
theorem dX10_ticksFrom_26 : decode cX10_ticksFrom 26 = .ok (.if_icmp .ne 6, 3) := by decide +kernel
theorem dX10_ticksFrom_29 : decode cX10_ticksFrom 29 = .ok (.iinc 4 1, 3) := by decide +kernel
theorem dX10_ticksFrom_32 : decode cX10_ticksFrom 32 = .ok (.iload 4, 2) := by decide +kernel
theorem dX10_ticksFrom_34 : decode cX10_ticksFrom 34 = .ok (.iload_n 3, 1) := by decide +kernel
theorem dX10_ticksFrom_35 : decode cX10_ticksFrom 35 = .ok (.if_icmp .ne 6, 3) := by decide +kernel
theorem dX10_ticksFrom_38 : decode cX10_ticksFrom 38 = .ok (.iload 5, 2) := by decide +kernel
theorem dX10_ticksFrom_40 : decode cX10_ticksFrom 40 = .ok (.ireturn, 1) := by decide +kernel
theorem dX10_ticksFrom_41 : decode cX10_ticksFrom 41 = .ok (.iinc 5 1, 3) := by decide +kernel
theorem dX10_ticksFrom_44 : decode cX10_ticksFrom 44 = .ok (.goto (-38), 3) := by decide +kernel
theorem dX10_ticksFrom_47 : decode cX10_ticksFrom 47 = .ok (.aload_n 0, 1) := by decide +kernel
theorem dX10_ticksFrom_48 : decode cX10_ticksFrom 48 = .ok (.getfield 15, 3) := by decide +kernel
theorem dX10_ticksFrom_51 : decode cX10_ticksFrom 51 = .ok (.ireturn, 1) := by decide +kernel
theorem dX11_init_0 : decode cX11_init 0 = .ok (.aload_n 0, 1) := by decide +kernel
theorem dX11_init_1 : decode cX11_init 1 = .ok (.invokespecial 1, 3) := by decide +kernel
theorem dX11_init_4 : decode cX11_init 4 = .ok (.aload_n 0, 1) := by decide +kernel
theorem dX11_init_5 : decode cX11_init 5 = .ok (.new 7, 3) := by decide +kernel
theorem dX11_init_8 : decode cX11_init 8 = .ok (.dup, 1) := by decide +kernel
theorem dX11_init_9 : decode cX11_init 9 = .ok (.invokespecial 9, 3) := by decide +kernel
theorem dX11_init_12 : decode cX11_init 12 = .ok (.putfield 10, 3) := by decide +kernel
theorem dX11_init_15 : decode cX11_init 15 = .ok (.aload_n 0, 1) := by decide +kernel
theorem dX11_init_16 : decode cX11_init 16 = .ok (.new 16, 3) := by decide +kernel
theorem dX11_init_19 : decode cX11_init 19 = .ok (.dup, 1) := by decide +kernel
theorem dX11_init_20 : decode cX11_init 20 = .ok (.invokespecial 18, 3) := by decide +kernel
theorem dX11_init_23 : decode cX11_init 23 = .ok (.putfield 19, 3) := by decide +kernel
theorem dX11_init_26 : decode cX11_init 26 = .ok (.aload_n 0, 1) := by decide +kernel
theorem dX11_init_27 : decode cX11_init 27 = .ok (.new 23, 3) := by decide +kernel
theorem dX11_init_30 : decode cX11_init 30 = .ok (.dup, 1) := by decide +kernel
theorem dX11_init_31 : decode cX11_init 31 = .ok (.aload_n 0, 1) := by decide +kernel
theorem dX11_init_32 : decode cX11_init 32 = .ok (.getfield 10, 3) := by decide +kernel
theorem dX11_init_35 : decode cX11_init 35 = .ok (.aload_n 0, 1) := by decide +kernel
theorem dX11_init_36 : decode cX11_init 36 = .ok (.getfield 19, 3) := by decide +kernel
theorem dX11_init_39 : decode cX11_init 39 = .ok (.invokespecial 25, 3) := by decide +kernel
theorem dX11_init_42 : decode cX11_init 42 = .ok (.putfield 28, 3) := by decide +kernel
theorem dX11_init_45 : decode cX11_init 45 = .ok (.aload_n 0, 1) := by decide +kernel
theorem dX11_init_46 : decode cX11_init 46 = .ok (.new 23, 3) := by decide +kernel
theorem dX11_init_49 : decode cX11_init 49 = .ok (.dup, 1) := by decide +kernel
theorem dX11_init_50 : decode cX11_init 50 = .ok (.aload_n 0, 1) := by decide +kernel
theorem dX11_init_51 : decode cX11_init 51 = .ok (.getfield 10, 3) := by decide +kernel
theorem dX11_init_54 : decode cX11_init 54 = .ok (.aload_n 0, 1) := by decide +kernel
theorem dX11_init_55 : decode cX11_init 55 = .ok (.getfield 19, 3) := by decide +kernel
theorem dX11_init_58 : decode cX11_init 58 = .ok (.invokespecial 25, 3) := by decide +kernel
theorem dX11_init_61 : decode cX11_init 61 = .ok (.putfield 32, 3) := by decide +kernel
theorem dX11_init_64 : decode cX11_init 64 = .ok (.aload_n 0, 1) := by decide +kernel
theorem dX11_init_65 : decode cX11_init 65 = .ok (.new 35, 3) := by decide +kernel
theorem dX11_init_68 : decode cX11_init 68 = .ok (.dup, 1) := by decide +kernel
theorem dX11_init_69 : decode cX11_init 69 = .ok (.invokespecial 37, 3) := by decide +kernel
theorem dX11_init_72 : decode cX11_init 72 = .ok (.putfield 38, 3) := by decide +kernel
theorem dX11_init_75 : decode cX11_init 75 = .ok (.aload_n 0, 1) := by decide +kernel
theorem dX11_init_76 : decode cX11_init 76 = .ok (.new 42, 3) := by decide +kernel
theorem dX11_init_79 : decode cX11_init 79 = .ok (.dup, 1) := by decide +kernel
theorem dX11_init_80 : decode cX11_init 80 = .ok (.invokespecial 44, 3) := by decide +kernel
theorem dX11_init_83 : decode cX11_init 83 = .ok (.putfield 45, 3) := by decide +kernel
theorem dX11_init_86 : decode cX11_init 86 = .ok (.aload_n 0, 1) := by decide +kernel
theorem dX11_init_87 : decode cX11_init 87 = .ok (.bipush 6, 2) := by decide +kernel
theorem dX11_init_89 : decode cX11_init 89 = .ok (.newarray .int, 2) := by decide +kernel
theorem dX11_init_91 : decode cX11_init 91 = .ok (.putfield 49, 3) := by decide +kernel
theorem dX11_init_94 : decode cX11_init 94 = .ok (.aload_n 0, 1) := by decide +kernel
theorem dX11_init_95 : decode cX11_init 95 = .ok (.bipush 6, 2) := by decide +kernel
theorem dX11_init_97 : decode cX11_init 97 = .ok (.newarray .int, 2) := by decide +kernel
theorem dX11_init_99 : decode cX11_init 99 = .ok (.putfield 53, 3) := by decide +kernel
theorem dX11_init_102 : decode cX11_init 102 = .ok (.return_, 1) := by decide +kernel
theorem dX11_tell_0 : decode cX11_tell 0 = .ok (.iload_n 1, 1) := by decide +kernel
theorem dX11_tell_1 : decode cX11_tell 1 = .ok (.invokestatic 56, 3) := by decide +kernel
theorem dX11_tell_4 : decode cX11_tell 4 = .ok (.ifCond .ne 5, 3) := by decide +kernel
theorem dX11_tell_7 : decode cX11_tell 7 = .ok (.iconst (-1), 1) := by decide +kernel
theorem dX11_tell_8 : decode cX11_tell 8 = .ok (.ireturn, 1) := by decide +kernel
theorem dX11_tell_9 : decode cX11_tell 9 = .ok (.aload_n 0, 1) := by decide +kernel
theorem dX11_tell_10 : decode cX11_tell 10 = .ok (.getfield 28, 3) := by decide +kernel
theorem dX11_tell_13 : decode cX11_tell 13 = .ok (.getfield 60, 3) := by decide +kernel
theorem dX11_tell_16 : decode cX11_tell 16 = .ok (.iload_n 1, 1) := by decide +kernel
theorem dX11_tell_17 : decode cX11_tell 17 = .ok (.aaload, 1) := by decide +kernel
theorem dX11_tell_18 : decode cX11_tell 18 = .ok (.getfield 64, 3) := by decide +kernel
theorem dX11_tell_21 : decode cX11_tell 21 = .ok (.astore 6, 2) := by decide +kernel
theorem dX11_tell_23 : decode cX11_tell 23 = .ok (.aload 6, 2) := by decide +kernel
theorem dX11_tell_25 : decode cX11_tell 25 = .ok (.iload_n 2, 1) := by decide +kernel
theorem dX11_tell_26 : decode cX11_tell 26 = .ok (.iload_n 3, 1) := by decide +kernel
theorem dX11_tell_27 : decode cX11_tell 27 = .ok (.iload 4, 2) := by decide +kernel
theorem dX11_tell_29 : decode cX11_tell 29 = .ok (.iload 5, 2) := by decide +kernel
theorem dX11_tell_31 : decode cX11_tell 31 = .ok (.invokevirtual 70, 3) := by decide +kernel
theorem dX11_tell_34 : decode cX11_tell 34 = .ok (.ifCond .eq 17, 3) := by decide +kernel
theorem dX11_tell_37 : decode cX11_tell 37 = .ok (.aload 6, 2) := by decide +kernel
theorem dX11_tell_39 : decode cX11_tell 39 = .ok (.iload_n 2, 1) := by decide +kernel
theorem dX11_tell_40 : decode cX11_tell 40 = .ok (.iload_n 3, 1) := by decide +kernel
theorem dX11_tell_41 : decode cX11_tell 41 = .ok (.iload 4, 2) := by decide +kernel
theorem dX11_tell_43 : decode cX11_tell 43 = .ok (.iload 5, 2) := by decide +kernel
theorem dX11_tell_45 : decode cX11_tell 45 = .ok (.invokevirtual 76, 3) := by decide +kernel
theorem dX11_tell_48 : decode cX11_tell 48 = .ok (.goto 4, 3) := by decide +kernel
theorem dX11_tell_51 : decode cX11_tell 51 = .ok (.iconst (-1), 1) := by decide +kernel
theorem dX11_tell_52 : decode cX11_tell 52 = .ok (.ireturn, 1) := by decide +kernel
