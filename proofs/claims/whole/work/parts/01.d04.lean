theorem dX11_wipe_0 : decode cX11_wipe 0 = .ok (.iload_n 1, 1) := by decide +kernel
theorem dX11_wipe_1 : decode cX11_wipe 1 = .ok (.invokestatic 56, 3) := by decide +kernel
theorem dX11_wipe_4 : decode cX11_wipe 4 = .ok (.ifCond .eq 14, 3) := by decide +kernel
theorem dX11_wipe_7 : decode cX11_wipe 7 = .ok (.aload_n 0, 1) := by decide +kernel
theorem dX11_wipe_8 : decode cX11_wipe 8 = .ok (.getfield 28, 3) := by decide +kernel
theorem dX11_wipe_11 : decode cX11_wipe 11 = .ok (.iload_n 1, 1) := by decide +kernel
theorem dX11_wipe_12 : decode cX11_wipe 12 = .ok (.invokevirtual 80, 3) := by decide +kernel
theorem dX11_wipe_15 : decode cX11_wipe 15 = .ok (.goto 4, 3) := by decide +kernel
theorem dX11_wipe_18 : decode cX11_wipe 18 = .ok (.iconst (-1), 1) := by decide +kernel
theorem dX11_wipe_19 : decode cX11_wipe 19 = .ok (.ireturn, 1) := by decide +kernel
theorem dX11_memory_0 : decode cX11_memory 0 = .ok (.iload_n 1, 1) := by decide +kernel
theorem dX11_memory_1 : decode cX11_memory 1 = .ok (.invokestatic 56, 3) := by decide +kernel
theorem dX11_memory_4 : decode cX11_memory 4 = .ok (.ifCond .eq 9, 3) := by decide +kernel
theorem dX11_memory_7 : decode cX11_memory 7 = .ok (.iload_n 2, 1) := by decide +kernel
theorem dX11_memory_8 : decode cX11_memory 8 = .ok (.bipush 16, 2) := by decide +kernel
theorem dX11_memory_10 : decode cX11_memory 10 = .ok (.if_icmp .le 6, 3) := by decide +kernel
theorem dX11_memory_13 : decode cX11_memory 13 = .ok (.bipush (-2), 2) := by decide +kernel
theorem dX11_memory_15 : decode cX11_memory 15 = .ok (.ireturn, 1) := by decide +kernel
theorem dX11_memory_16 : decode cX11_memory 16 = .ok (.aload_n 0, 1) := by decide +kernel
theorem dX11_memory_17 : decode cX11_memory 17 = .ok (.getfield 28, 3) := by decide +kernel
theorem dX11_memory_20 : decode cX11_memory 20 = .ok (.getfield 60, 3) := by decide +kernel
theorem dX11_memory_23 : decode cX11_memory 23 = .ok (.iload_n 1, 1) := by decide +kernel
theorem dX11_memory_24 : decode cX11_memory 24 = .ok (.aaload, 1) := by decide +kernel
theorem dX11_memory_25 : decode cX11_memory 25 = .ok (.astore_n 3, 1) := by decide +kernel
theorem dX11_memory_26 : decode cX11_memory 26 = .ok (.aload_n 3, 1) := by decide +kernel
theorem dX11_memory_27 : decode cX11_memory 27 = .ok (.getfield 84, 3) := by decide +kernel
theorem dX11_memory_30 : decode cX11_memory 30 = .ok (.istore 4, 2) := by decide +kernel
theorem dX11_memory_32 : decode cX11_memory 32 = .ok (.aload_n 3, 1) := by decide +kernel
theorem dX11_memory_33 : decode cX11_memory 33 = .ok (.iload_n 2, 1) := by decide +kernel
theorem dX11_memory_34 : decode cX11_memory 34 = .ok (.ifCond .ge 7, 3) := by decide +kernel
theorem dX11_memory_37 : decode cX11_memory 37 = .ok (.iconst (-1), 1) := by decide +kernel
theorem dX11_memory_38 : decode cX11_memory 38 = .ok (.goto 4, 3) := by decide +kernel
theorem dX11_memory_41 : decode cX11_memory 41 = .ok (.iload_n 2, 1) := by decide +kernel
theorem dX11_memory_42 : decode cX11_memory 42 = .ok (.putfield 84, 3) := by decide +kernel
theorem dX11_memory_45 : decode cX11_memory 45 = .ok (.aload_n 3, 1) := by decide +kernel
theorem dX11_memory_46 : decode cX11_memory 46 = .ok (.getfield 88, 3) := by decide +kernel
theorem dX11_memory_49 : decode cX11_memory 49 = .ok (.iconst 0, 1) := by decide +kernel
theorem dX11_memory_50 : decode cX11_memory 50 = .ok (.invokestatic 91, 3) := by decide +kernel
theorem dX11_memory_53 : decode cX11_memory 53 = .ok (.iload 4, 2) := by decide +kernel
theorem dX11_memory_55 : decode cX11_memory 55 = .ok (.ireturn, 1) := by decide +kernel
theorem dX11_hard_0 : decode cX11_hard 0 = .ok (.iload_n 1, 1) := by decide +kernel
theorem dX11_hard_1 : decode cX11_hard 1 = .ok (.invokestatic 56, 3) := by decide +kernel
theorem dX11_hard_4 : decode cX11_hard 4 = .ok (.ifCond .eq 19, 3) := by decide +kernel
theorem dX11_hard_7 : decode cX11_hard 7 = .ok (.aload_n 0, 1) := by decide +kernel
theorem dX11_hard_8 : decode cX11_hard 8 = .ok (.getfield 28, 3) := by decide +kernel
theorem dX11_hard_11 : decode cX11_hard 11 = .ok (.getfield 60, 3) := by decide +kernel
theorem dX11_hard_14 : decode cX11_hard 14 = .ok (.iload_n 1, 1) := by decide +kernel
theorem dX11_hard_15 : decode cX11_hard 15 = .ok (.aaload, 1) := by decide +kernel
theorem dX11_hard_16 : decode cX11_hard 16 = .ok (.getfield 97, 3) := by decide +kernel
theorem dX11_hard_19 : decode cX11_hard 19 = .ok (.iload_n 2, 1) := by decide +kernel
theorem dX11_hard_20 : decode cX11_hard 20 = .ok (.if_icmp .ne 5, 3) := by decide +kernel
theorem dX11_hard_23 : decode cX11_hard 23 = .ok (.iconst 0, 1) := by decide +kernel
theorem dX11_hard_24 : decode cX11_hard 24 = .ok (.ireturn, 1) := by decide +kernel
theorem dX11_hard_25 : decode cX11_hard 25 = .ok (.aload_n 0, 1) := by decide +kernel
theorem dX11_hard_26 : decode cX11_hard 26 = .ok (.getfield 28, 3) := by decide +kernel
theorem dX11_hard_29 : decode cX11_hard 29 = .ok (.getfield 60, 3) := by decide +kernel
theorem dX11_hard_32 : decode cX11_hard 32 = .ok (.iload_n 1, 1) := by decide +kernel
theorem dX11_hard_33 : decode cX11_hard 33 = .ok (.aaload, 1) := by decide +kernel
theorem dX11_hard_34 : decode cX11_hard 34 = .ok (.iload_n 2, 1) := by decide +kernel
theorem dX11_hard_35 : decode cX11_hard 35 = .ok (.putfield 97, 3) := by decide +kernel
theorem dX11_hard_38 : decode cX11_hard 38 = .ok (.iconst 1, 1) := by decide +kernel
theorem dX11_hard_39 : decode cX11_hard 39 = .ok (.ireturn, 1) := by decide +kernel
theorem dX11_pin_0 : decode cX11_pin 0 = .ok (.aload_n 0, 1) := by decide +kernel
theorem dX11_pin_1 : decode cX11_pin 1 = .ok (.getfield 28, 3) := by decide +kernel
theorem dX11_pin_4 : decode cX11_pin 4 = .ok (.getfield 101, 3) := by decide +kernel
theorem dX11_pin_7 : decode cX11_pin 7 = .ok (.iload_n 1, 1) := by decide +kernel
theorem dX11_pin_8 : decode cX11_pin 8 = .ok (.iload_n 2, 1) := by decide +kernel
theorem dX11_pin_9 : decode cX11_pin 9 = .ok (.ifCond .eq 7, 3) := by decide +kernel
theorem dX11_pin_12 : decode cX11_pin 12 = .ok (.iconst 1, 1) := by decide +kernel
theorem dX11_pin_13 : decode cX11_pin 13 = .ok (.goto 4, 3) := by decide +kernel
theorem dX11_pin_16 : decode cX11_pin 16 = .ok (.iconst 0, 1) := by decide +kernel
theorem dX11_pin_17 : decode cX11_pin 17 = .ok (.invokevirtual 105, 3) := by decide +kernel
theorem dX11_pin_20 : decode cX11_pin 20 = .ok (.ireturn, 1) := by decide +kernel
theorem dX11_event_0 : decode cX11_event 0 = .ok (.aload_n 0, 1) := by decide +kernel
theorem dX11_event_1 : decode cX11_event 1 = .ok (.getfield 28, 3) := by decide +kernel
theorem dX11_event_4 : decode cX11_event 4 = .ok (.getfield 101, 3) := by decide +kernel
theorem dX11_event_7 : decode cX11_event 7 = .ok (.iload_n 1, 1) := by decide +kernel
theorem dX11_event_8 : decode cX11_event 8 = .ok (.invokevirtual 111, 3) := by decide +kernel
theorem dX11_event_11 : decode cX11_event 11 = .ok (.ifCond .ne 20, 3) := by decide +kernel
theorem dX11_event_14 : decode cX11_event 14 = .ok (.iload_n 2, 1) := by decide +kernel
theorem dX11_event_15 : decode cX11_event 15 = .ok (.aload_n 0, 1) := by decide +kernel
theorem dX11_event_16 : decode cX11_event 16 = .ok (.getfield 28, 3) := by decide +kernel
theorem dX11_event_19 : decode cX11_event 19 = .ok (.getfield 114, 3) := by decide +kernel
theorem dX11_event_22 : decode cX11_event 22 = .ok (.if_icmp .lt 9, 3) := by decide +kernel
theorem dX11_event_25 : decode cX11_event 25 = .ok (.iload_n 2, 1) := by decide +kernel
theorem dX11_event_26 : decode cX11_event 26 = .ok (.ldc 117, 2) := by decide +kernel
theorem dX11_event_28 : decode cX11_event 28 = .ok (.if_icmp .le 5, 3) := by decide +kernel
theorem dX11_event_31 : decode cX11_event 31 = .ok (.iconst (-1), 1) := by decide +kernel
theorem dX11_event_32 : decode cX11_event 32 = .ok (.ireturn, 1) := by decide +kernel
theorem dX11_event_33 : decode cX11_event 33 = .ok (.aload_n 0, 1) := by decide +kernel
theorem dX11_event_34 : decode cX11_event 34 = .ok (.getfield 19, 3) := by decide +kernel
theorem dX11_event_37 : decode cX11_event 37 = .ok (.iload_n 1, 1) := by decide +kernel
theorem dX11_event_38 : decode cX11_event 38 = .ok (.iload_n 2, 1) := by decide +kernel
theorem dX11_event_39 : decode cX11_event 39 = .ok (.iload_n 3, 1) := by decide +kernel
theorem dX11_event_40 : decode cX11_event 40 = .ok (.ifCond .eq 7, 3) := by decide +kernel
theorem dX11_event_43 : decode cX11_event 43 = .ok (.iconst 1, 1) := by decide +kernel
theorem dX11_event_44 : decode cX11_event 44 = .ok (.goto 4, 3) := by decide +kernel
theorem dX11_event_47 : decode cX11_event 47 = .ok (.iconst 0, 1) := by decide +kernel
theorem dX11_event_48 : decode cX11_event 48 = .ok (.invokevirtual 118, 3) := by decide +kernel
theorem dX11_event_51 : decode cX11_event 51 = .ok (.ireturn, 1) := by decide +kernel
theorem dX11_slots_0 : decode cX11_slots 0 = .ok (.iload_n 1, 1) := by decide +kernel
theorem dX11_slots_1 : decode cX11_slots 1 = .ok (.iconst 1, 1) := by decide +kernel
theorem dX11_slots_2 : decode cX11_slots 2 = .ok (.if_icmp .lt 9, 3) := by decide +kernel
theorem dX11_slots_5 : decode cX11_slots 5 = .ok (.iload_n 1, 1) := by decide +kernel
theorem dX11_slots_6 : decode cX11_slots 6 = .ok (.bipush 16, 2) := by decide +kernel
theorem dX11_slots_8 : decode cX11_slots 8 = .ok (.if_icmp .le 7, 3) := by decide +kernel
theorem dX11_slots_11 : decode cX11_slots 11 = .ok (.iconst (-1), 1) := by decide +kernel
theorem dX11_slots_12 : decode cX11_slots 12 = .ok (.goto 11, 3) := by decide +kernel
theorem dX11_slots_15 : decode cX11_slots 15 = .ok (.aload_n 0, 1) := by decide +kernel
theorem dX11_slots_16 : decode cX11_slots 16 = .ok (.getfield 10, 3) := by decide +kernel
theorem dX11_slots_19 : decode cX11_slots 19 = .ok (.iload_n 1, 1) := by decide +kernel
theorem dX11_slots_20 : decode cX11_slots 20 = .ok (.invokevirtual 121, 3) := by decide +kernel
theorem dX11_slots_23 : decode cX11_slots 23 = .ok (.ireturn, 1) := by decide +kernel
theorem dX11_slot_0 : decode cX11_slot 0 = .ok (.aload_n 0, 1) := by decide +kernel
theorem dX11_slot_1 : decode cX11_slot 1 = .ok (.getfield 10, 3) := by decide +kernel
theorem dX11_slot_4 : decode cX11_slot 4 = .ok (.iload_n 1, 1) := by decide +kernel
theorem dX11_slot_5 : decode cX11_slot 5 = .ok (.invokevirtual 124, 3) := by decide +kernel
theorem dX11_slot_8 : decode cX11_slot 8 = .ok (.ifCond .eq 15, 3) := by decide +kernel
theorem dX11_slot_11 : decode cX11_slot 11 = .ok (.iload_n 2, 1) := by decide +kernel
theorem dX11_slot_12 : decode cX11_slot 12 = .ok (.iconst (-1), 1) := by decide +kernel
theorem dX11_slot_13 : decode cX11_slot 13 = .ok (.if_icmp .eq 12, 3) := by decide +kernel
theorem dX11_slot_16 : decode cX11_slot 16 = .ok (.iload_n 2, 1) := by decide +kernel
theorem dX11_slot_17 : decode cX11_slot 17 = .ok (.invokestatic 56, 3) := by decide +kernel
theorem dX11_slot_20 : decode cX11_slot 20 = .ok (.ifCond .ne 5, 3) := by decide +kernel
theorem dX11_slot_23 : decode cX11_slot 23 = .ok (.iconst 0, 1) := by decide +kernel
theorem dX11_slot_24 : decode cX11_slot 24 = .ok (.ireturn, 1) := by decide +kernel
theorem dX11_slot_25 : decode cX11_slot 25 = .ok (.aload_n 0, 1) := by decide +kernel
theorem dX11_slot_26 : decode cX11_slot 26 = .ok (.getfield 10, 3) := by decide +kernel
theorem dX11_slot_29 : decode cX11_slot 29 = .ok (.getfield 127, 3) := by decide +kernel
theorem dX11_slot_32 : decode cX11_slot 32 = .ok (.iload_n 1, 1) := by decide +kernel
theorem dX11_slot_33 : decode cX11_slot 33 = .ok (.iload_n 2, 1) := by decide +kernel
theorem dX11_slot_34 : decode cX11_slot 34 = .ok (.iastore, 1) := by decide +kernel
theorem dX11_slot_35 : decode cX11_slot 35 = .ok (.iconst 1, 1) := by decide +kernel
theorem dX11_slot_36 : decode cX11_slot 36 = .ok (.ireturn, 1) := by decide +kernel
theorem dX11_due_0 : decode cX11_due 0 = .ok (.iload_n 1, 1) := by decide +kernel
theorem dX11_due_1 : decode cX11_due 1 = .ok (.invokestatic 56, 3) := by decide +kernel
theorem dX11_due_4 : decode cX11_due 4 = .ok (.ifCond .eq 14, 3) := by decide +kernel
theorem dX11_due_7 : decode cX11_due 7 = .ok (.iload_n 2, 1) := by decide +kernel
theorem dX11_due_8 : decode cX11_due 8 = .ok (.ifCond .lt 10, 3) := by decide +kernel
theorem dX11_due_11 : decode cX11_due 11 = .ok (.iload_n 2, 1) := by decide +kernel
theorem dX11_due_12 : decode cX11_due 12 = .ok (.sipush 9999, 3) := by decide +kernel
theorem dX11_due_15 : decode cX11_due 15 = .ok (.if_icmp .le 5, 3) := by decide +kernel
theorem dX11_due_18 : decode cX11_due 18 = .ok (.iconst (-1), 1) := by decide +kernel
theorem dX11_due_19 : decode cX11_due 19 = .ok (.ireturn, 1) := by decide +kernel
theorem dX11_due_20 : decode cX11_due 20 = .ok (.aload_n 0, 1) := by decide +kernel
theorem dX11_due_21 : decode cX11_due 21 = .ok (.getfield 49, 3) := by decide +kernel
theorem dX11_due_24 : decode cX11_due 24 = .ok (.iload_n 1, 1) := by decide +kernel
theorem dX11_due_25 : decode cX11_due 25 = .ok (.iaload, 1) := by decide +kernel
theorem dX11_due_26 : decode cX11_due 26 = .ok (.istore_n 3, 1) := by decide +kernel
theorem dX11_due_27 : decode cX11_due 27 = .ok (.aload_n 0, 1) := by decide +kernel
theorem dX11_due_28 : decode cX11_due 28 = .ok (.getfield 49, 3) := by decide +kernel
theorem dX11_due_31 : decode cX11_due 31 = .ok (.iload_n 1, 1) := by decide +kernel
theorem dX11_due_32 : decode cX11_due 32 = .ok (.iload_n 2, 1) := by decide +kernel
theorem dX11_due_33 : decode cX11_due 33 = .ok (.iastore, 1) := by decide +kernel
theorem dX11_due_34 : decode cX11_due 34 = .ok (.iload_n 3, 1) := by decide +kernel
theorem dX11_due_35 : decode cX11_due 35 = .ok (.ireturn, 1) := by decide +kernel
theorem dX11_asks_0 : decode cX11_asks 0 = .ok (.iload_n 1, 1) := by decide +kernel
theorem dX11_asks_1 : decode cX11_asks 1 = .ok (.invokestatic 56, 3) := by decide +kernel
theorem dX11_asks_4 : decode cX11_asks 4 = .ok (.ifCond .eq 13, 3) := by decide +kernel
theorem dX11_asks_7 : decode cX11_asks 7 = .ok (.iload_n 2, 1) := by decide +kernel
theorem dX11_asks_8 : decode cX11_asks 8 = .ok (.ifCond .lt 9, 3) := by decide +kernel
theorem dX11_asks_11 : decode cX11_asks 11 = .ok (.iload_n 2, 1) := by decide +kernel
theorem dX11_asks_12 : decode cX11_asks 12 = .ok (.bipush 16, 2) := by decide +kernel
theorem dX11_asks_14 : decode cX11_asks 14 = .ok (.if_icmp .le 5, 3) := by decide +kernel
theorem dX11_asks_17 : decode cX11_asks 17 = .ok (.iconst (-1), 1) := by decide +kernel
theorem dX11_asks_18 : decode cX11_asks 18 = .ok (.ireturn, 1) := by decide +kernel
theorem dX11_asks_19 : decode cX11_asks 19 = .ok (.aload_n 0, 1) := by decide +kernel
theorem dX11_asks_20 : decode cX11_asks 20 = .ok (.getfield 53, 3) := by decide +kernel
theorem dX11_asks_23 : decode cX11_asks 23 = .ok (.iload_n 1, 1) := by decide +kernel
theorem dX11_asks_24 : decode cX11_asks 24 = .ok (.iaload, 1) := by decide +kernel
theorem dX11_asks_25 : decode cX11_asks 25 = .ok (.istore_n 3, 1) := by decide +kernel
theorem dX11_asks_26 : decode cX11_asks 26 = .ok (.aload_n 0, 1) := by decide +kernel
theorem dX11_asks_27 : decode cX11_asks 27 = .ok (.getfield 53, 3) := by decide +kernel
theorem dX11_asks_30 : decode cX11_asks 30 = .ok (.iload_n 1, 1) := by decide +kernel
theorem dX11_asks_31 : decode cX11_asks 31 = .ok (.iload_n 2, 1) := by decide +kernel
theorem dX11_asks_32 : decode cX11_asks 32 = .ok (.iastore, 1) := by decide +kernel
theorem dX11_asks_33 : decode cX11_asks 33 = .ok (.iload_n 3, 1) := by decide +kernel
theorem dX11_asks_34 : decode cX11_asks 34 = .ok (.ireturn, 1) := by decide +kernel
theorem dX11_found_0 : decode cX11_found 0 = .ok (.aload_n 0, 1) := by decide +kernel
theorem dX11_found_1 : decode cX11_found 1 = .ok (.getfield 45, 3) := by decide +kernel
theorem dX11_found_4 : decode cX11_found 4 = .ok (.aload_n 0, 1) := by decide +kernel
theorem dX11_found_5 : decode cX11_found 5 = .ok (.getfield 53, 3) := by decide +kernel
theorem dX11_found_8 : decode cX11_found 8 = .ok (.aload_n 0, 1) := by decide +kernel
theorem dX11_found_9 : decode cX11_found 9 = .ok (.getfield 10, 3) := by decide +kernel
theorem dX11_found_12 : decode cX11_found 12 = .ok (.invokevirtual 130, 3) := by decide +kernel
theorem dX11_found_15 : decode cX11_found 15 = .ok (.ireturn, 1) := by decide +kernel
theorem dX11_start_0 : decode cX11_start 0 = .ok (.aload_n 0, 1) := by decide +kernel
theorem dX11_start_1 : decode cX11_start 1 = .ok (.getfield 28, 3) := by decide +kernel
theorem dX11_start_4 : decode cX11_start 4 = .ok (.getfield 114, 3) := by decide +kernel
theorem dX11_start_7 : decode cX11_start 7 = .ok (.istore_n 1, 1) := by decide +kernel
theorem dX11_start_8 : decode cX11_start 8 = .ok (.aload_n 0, 1) := by decide +kernel
theorem dX11_start_9 : decode cX11_start 9 = .ok (.getfield 28, 3) := by decide +kernel
theorem dX11_start_12 : decode cX11_start 12 = .ok (.invokevirtual 134, 3) := by decide +kernel
theorem dX11_start_15 : decode cX11_start 15 = .ok (.iload_n 1, 1) := by decide +kernel
theorem dX11_start_16 : decode cX11_start 16 = .ok (.ireturn, 1) := by decide +kernel
theorem dX11_run_0 : decode cX11_run 0 = .ok (.iload_n 1, 1) := by decide +kernel
theorem dX11_run_1 : decode cX11_run 1 = .ok (.iconst 1, 1) := by decide +kernel
theorem dX11_run_2 : decode cX11_run 2 = .ok (.if_icmp .lt 10, 3) := by decide +kernel
theorem dX11_run_5 : decode cX11_run 5 = .ok (.iload_n 1, 1) := by decide +kernel
theorem dX11_run_6 : decode cX11_run 6 = .ok (.sipush 200, 3) := by decide +kernel
theorem dX11_run_9 : decode cX11_run 9 = .ok (.if_icmp .le 5, 3) := by decide +kernel
theorem dX11_run_12 : decode cX11_run 12 = .ok (.iconst (-1), 1) := by decide +kernel
theorem dX11_run_13 : decode cX11_run 13 = .ok (.ireturn, 1) := by decide +kernel
theorem dX11_run_14 : decode cX11_run 14 = .ok (.iconst 0, 1) := by decide +kernel
theorem dX11_run_15 : decode cX11_run 15 = .ok (.istore_n 2, 1) := by decide +kernel
theorem dX11_run_16 : decode cX11_run 16 = .ok (.iconst 0, 1) := by decide +kernel
theorem dX11_run_17 : decode cX11_run 17 = .ok (.istore_n 3, 1) := by decide +kernel
theorem dX11_run_18 : decode cX11_run 18 = .ok (.iload_n 3, 1) := by decide +kernel
theorem dX11_run_19 : decode cX11_run 19 = .ok (.iload_n 1, 1) := by decide +kernel
theorem dX11_run_20 : decode cX11_run 20 = .ok (.if_icmp .ge 23, 3) := by decide +kernel
theorem dX11_run_23 : decode cX11_run 23 = .ok (.aload_n 0, 1) := by decide +kernel
theorem dX11_run_24 : decode cX11_run 24 = .ok (.getfield 28, 3) := by decide +kernel
theorem dX11_run_27 : decode cX11_run 27 = .ok (.invokevirtual 137, 3) := by decide +kernel
theorem dX11_run_30 : decode cX11_run 30 = .ok (.iconst (-1), 1) := by decide +kernel
theorem dX11_run_31 : decode cX11_run 31 = .ok (.if_icmp .eq 6, 3) := by decide +kernel
theorem dX11_run_34 : decode cX11_run 34 = .ok (.iinc 2 1, 3) := by decide +kernel
theorem dX11_run_37 : decode cX11_run 37 = .ok (.iinc 3 1, 3) := by decide +kernel
theorem dX11_run_40 : decode cX11_run 40 = .ok (.goto (-22), 3) := by decide +kernel
theorem dX11_run_43 : decode cX11_run 43 = .ok (.iload_n 2, 1) := by decide +kernel
theorem dX11_run_44 : decode cX11_run 44 = .ok (.ireturn, 1) := by decide +kernel
theorem dX11_set_0 : decode cX11_set 0 = .ok (.iload_n 1, 1) := by decide +kernel
theorem dX11_set_1 : decode cX11_set 1 = .ok (.invokestatic 56, 3) := by decide +kernel
theorem dX11_set_4 : decode cX11_set 4 = .ok (.ifCond .eq 10, 3) := by decide +kernel
theorem dX11_set_7 : decode cX11_set 7 = .ok (.iload_n 2, 1) := by decide +kernel
theorem dX11_set_8 : decode cX11_set 8 = .ok (.invokestatic 141, 3) := by decide +kernel
theorem dX11_set_11 : decode cX11_set 11 = .ok (.ifCond .ne 11, 3) := by decide +kernel
theorem dX11_set_14 : decode cX11_set 14 = .ok (.new 144, 3) := by decide +kernel
theorem dX11_set_17 : decode cX11_set 17 = .ok (.dup, 1) := by decide +kernel
theorem dX11_set_18 : decode cX11_set 18 = .ok (.invokespecial 146, 3) := by decide +kernel
theorem dX11_set_21 : decode cX11_set 21 = .ok (.athrow, 1) := by decide +kernel
theorem dX11_set_22 : decode cX11_set 22 = .ok (.aload_n 0, 1) := by decide +kernel
theorem dX11_set_23 : decode cX11_set 23 = .ok (.getfield 28, 3) := by decide +kernel
theorem dX11_set_26 : decode cX11_set 26 = .ok (.getfield 60, 3) := by decide +kernel
theorem dX11_set_29 : decode cX11_set 29 = .ok (.iload_n 1, 1) := by decide +kernel
theorem dX11_set_30 : decode cX11_set 30 = .ok (.aaload, 1) := by decide +kernel
theorem dX11_set_31 : decode cX11_set 31 = .ok (.iload_n 2, 1) := by decide +kernel
theorem dX11_set_32 : decode cX11_set 32 = .ok (.invokevirtual 147, 3) := by decide +kernel
theorem dX11_set_35 : decode cX11_set 35 = .ok (.istore 4, 2) := by decide +kernel
theorem dX11_set_37 : decode cX11_set 37 = .ok (.aload_n 0, 1) := by decide +kernel
theorem dX11_set_38 : decode cX11_set 38 = .ok (.getfield 28, 3) := by decide +kernel
theorem dX11_set_41 : decode cX11_set 41 = .ok (.getfield 60, 3) := by decide +kernel
theorem dX11_set_44 : decode cX11_set 44 = .ok (.iload_n 1, 1) := by decide +kernel
theorem dX11_set_45 : decode cX11_set 45 = .ok (.aaload, 1) := by decide +kernel
theorem dX11_set_46 : decode cX11_set 46 = .ok (.iload_n 2, 1) := by decide +kernel
theorem dX11_set_47 : decode cX11_set 47 = .ok (.iload_n 3, 1) := by decide +kernel
theorem dX11_set_48 : decode cX11_set 48 = .ok (.invokevirtual 150, 3) := by decide +kernel
theorem dX11_set_51 : decode cX11_set 51 = .ok (.iload 4, 2) := by decide +kernel
theorem dX11_set_53 : decode cX11_set 53 = .ok (.ireturn, 1) := by decide +kernel
theorem dX11_register_0 : decode cX11_register 0 = .ok (.iload_n 1, 1) := by decide +kernel
theorem dX11_register_1 : decode cX11_register 1 = .ok (.invokestatic 56, 3) := by decide +kernel
theorem dX11_register_4 : decode cX11_register 4 = .ok (.ifCond .eq 10, 3) := by decide +kernel
theorem dX11_register_7 : decode cX11_register 7 = .ok (.iload_n 2, 1) := by decide +kernel
theorem dX11_register_8 : decode cX11_register 8 = .ok (.invokestatic 141, 3) := by decide +kernel
theorem dX11_register_11 : decode cX11_register 11 = .ok (.ifCond .ne 11, 3) := by decide +kernel
theorem dX11_register_14 : decode cX11_register 14 = .ok (.new 144, 3) := by decide +kernel
theorem dX11_register_17 : decode cX11_register 17 = .ok (.dup, 1) := by decide +kernel
theorem dX11_register_18 : decode cX11_register 18 = .ok (.invokespecial 146, 3) := by decide +kernel
theorem dX11_register_21 : decode cX11_register 21 = .ok (.athrow, 1) := by decide +kernel
theorem dX11_register_22 : decode cX11_register 22 = .ok (.aload_n 0, 1) := by decide +kernel
theorem dX11_register_23 : decode cX11_register 23 = .ok (.getfield 28, 3) := by decide +kernel
theorem dX11_register_26 : decode cX11_register 26 = .ok (.getfield 60, 3) := by decide +kernel
theorem dX11_register_29 : decode cX11_register 29 = .ok (.iload_n 1, 1) := by decide +kernel
theorem dX11_register_30 : decode cX11_register 30 = .ok (.aaload, 1) := by decide +kernel
theorem dX11_register_31 : decode cX11_register 31 = .ok (.iload_n 2, 1) := by decide +kernel
theorem dX11_register_32 : decode cX11_register 32 = .ok (.invokevirtual 147, 3) := by decide +kernel
theorem dX11_register_35 : decode cX11_register 35 = .ok (.ireturn, 1) := by decide +kernel
theorem dX11_cell_0 : decode cX11_cell 0 = .ok (.iload_n 1, 1) := by decide +kernel
theorem dX11_cell_1 : decode cX11_cell 1 = .ok (.invokestatic 56, 3) := by decide +kernel
theorem dX11_cell_4 : decode cX11_cell 4 = .ok (.ifCond .eq 19, 3) := by decide +kernel
theorem dX11_cell_7 : decode cX11_cell 7 = .ok (.aload_n 0, 1) := by decide +kernel
theorem dX11_cell_8 : decode cX11_cell 8 = .ok (.getfield 28, 3) := by decide +kernel
theorem dX11_cell_11 : decode cX11_cell 11 = .ok (.getfield 60, 3) := by decide +kernel
theorem dX11_cell_14 : decode cX11_cell 14 = .ok (.iload_n 1, 1) := by decide +kernel
theorem dX11_cell_15 : decode cX11_cell 15 = .ok (.aaload, 1) := by decide +kernel
theorem dX11_cell_16 : decode cX11_cell 16 = .ok (.iload_n 2, 1) := by decide +kernel
theorem dX11_cell_17 : decode cX11_cell 17 = .ok (.invokevirtual 154, 3) := by decide +kernel
theorem dX11_cell_20 : decode cX11_cell 20 = .ok (.ifCond .ne 11, 3) := by decide +kernel
theorem dX11_cell_23 : decode cX11_cell 23 = .ok (.new 144, 3) := by decide +kernel
theorem dX11_cell_26 : decode cX11_cell 26 = .ok (.dup, 1) := by decide +kernel
theorem dX11_cell_27 : decode cX11_cell 27 = .ok (.invokespecial 146, 3) := by decide +kernel
theorem dX11_cell_30 : decode cX11_cell 30 = .ok (.athrow, 1) := by decide +kernel
theorem dX11_cell_31 : decode cX11_cell 31 = .ok (.aload_n 0, 1) := by decide +kernel
theorem dX11_cell_32 : decode cX11_cell 32 = .ok (.getfield 28, 3) := by decide +kernel
theorem dX11_cell_35 : decode cX11_cell 35 = .ok (.getfield 60, 3) := by decide +kernel
theorem dX11_cell_38 : decode cX11_cell 38 = .ok (.iload_n 1, 1) := by decide +kernel
theorem dX11_cell_39 : decode cX11_cell 39 = .ok (.aaload, 1) := by decide +kernel
theorem dX11_cell_40 : decode cX11_cell 40 = .ok (.getfield 88, 3) := by decide +kernel
theorem dX11_cell_43 : decode cX11_cell 43 = .ok (.iload_n 2, 1) := by decide +kernel
theorem dX11_cell_44 : decode cX11_cell 44 = .ok (.iaload, 1) := by decide +kernel
theorem dX11_cell_45 : decode cX11_cell 45 = .ok (.ireturn, 1) := by decide +kernel
theorem dX11_code_0 : decode cX11_code 0 = .ok (.iload_n 1, 1) := by decide +kernel
theorem dX11_code_1 : decode cX11_code 1 = .ok (.invokestatic 56, 3) := by decide +kernel
theorem dX11_code_4 : decode cX11_code 4 = .ok (.ifCond .eq 31, 3) := by decide +kernel
theorem dX11_code_7 : decode cX11_code 7 = .ok (.aload_n 0, 1) := by decide +kernel
theorem dX11_code_8 : decode cX11_code 8 = .ok (.getfield 28, 3) := by decide +kernel
theorem dX11_code_11 : decode cX11_code 11 = .ok (.getfield 60, 3) := by decide +kernel
theorem dX11_code_14 : decode cX11_code 14 = .ok (.iload_n 1, 1) := by decide +kernel
theorem dX11_code_15 : decode cX11_code 15 = .ok (.aaload, 1) := by decide +kernel
theorem dX11_code_16 : decode cX11_code 16 = .ok (.getfield 64, 3) := by decide +kernel
theorem dX11_code_19 : decode cX11_code 19 = .ok (.iload_n 2, 1) := by decide +kernel
theorem dX11_code_20 : decode cX11_code 20 = .ok (.invokevirtual 157, 3) := by decide +kernel
theorem dX11_code_23 : decode cX11_code 23 = .ok (.ifCond .eq 12, 3) := by decide +kernel
theorem dX11_code_26 : decode cX11_code 26 = .ok (.iload_n 3, 1) := by decide +kernel
theorem dX11_code_27 : decode cX11_code 27 = .ok (.ifCond .lt 8, 3) := by decide +kernel
theorem dX11_code_30 : decode cX11_code 30 = .ok (.iload_n 3, 1) := by decide +kernel
theorem dX11_code_31 : decode cX11_code 31 = .ok (.iconst 4, 1) := by decide +kernel
theorem dX11_code_32 : decode cX11_code 32 = .ok (.if_icmp .le 11, 3) := by decide +kernel
theorem dX11_code_35 : decode cX11_code 35 = .ok (.new 144, 3) := by decide +kernel
theorem dX11_code_38 : decode cX11_code 38 = .ok (.dup, 1) := by decide +kernel
theorem dX11_code_39 : decode cX11_code 39 = .ok (.invokespecial 146, 3) := by decide +kernel
theorem dX11_code_42 : decode cX11_code 42 = .ok (.athrow, 1) := by decide +kernel
theorem dX11_code_43 : decode cX11_code 43 = .ok (.aload_n 0, 1) := by decide +kernel
theorem dX11_code_44 : decode cX11_code 44 = .ok (.getfield 28, 3) := by decide +kernel
theorem dX11_code_47 : decode cX11_code 47 = .ok (.getfield 60, 3) := by decide +kernel
theorem dX11_code_50 : decode cX11_code 50 = .ok (.iload_n 1, 1) := by decide +kernel
theorem dX11_code_51 : decode cX11_code 51 = .ok (.aaload, 1) := by decide +kernel
theorem dX11_code_52 : decode cX11_code 52 = .ok (.getfield 64, 3) := by decide +kernel
theorem dX11_code_55 : decode cX11_code 55 = .ok (.astore 4, 2) := by decide +kernel
theorem dX11_code_57 : decode cX11_code 57 = .ok (.iload_n 3, 1) := by decide +kernel
theorem dX11_code_58 : decode cX11_code 58 = .ok (.tableswitch 62 0 3 #[30, 38, 46, 54], 30) := by decide +kernel
theorem dX11_code_88 : decode cX11_code 88 = .ok (.aload 4, 2) := by decide +kernel
theorem dX11_code_90 : decode cX11_code 90 = .ok (.getfield 158, 3) := by decide +kernel
theorem dX11_code_93 : decode cX11_code 93 = .ok (.iload_n 2, 1) := by decide +kernel
theorem dX11_code_94 : decode cX11_code 94 = .ok (.iaload, 1) := by decide +kernel
theorem dX11_code_95 : decode cX11_code 95 = .ok (.ireturn, 1) := by decide +kernel
theorem dX11_code_96 : decode cX11_code 96 = .ok (.aload 4, 2) := by decide +kernel
theorem dX11_code_98 : decode cX11_code 98 = .ok (.getfield 161, 3) := by decide +kernel
theorem dX11_code_101 : decode cX11_code 101 = .ok (.iload_n 2, 1) := by decide +kernel
theorem dX11_code_102 : decode cX11_code 102 = .ok (.iaload, 1) := by decide +kernel
theorem dX11_code_103 : decode cX11_code 103 = .ok (.ireturn, 1) := by decide +kernel
theorem dX11_code_104 : decode cX11_code 104 = .ok (.aload 4, 2) := by decide +kernel
theorem dX11_code_106 : decode cX11_code 106 = .ok (.getfield 164, 3) := by decide +kernel
theorem dX11_code_109 : decode cX11_code 109 = .ok (.iload_n 2, 1) := by decide +kernel
theorem dX11_code_110 : decode cX11_code 110 = .ok (.iaload, 1) := by decide +kernel
theorem dX11_code_111 : decode cX11_code 111 = .ok (.ireturn, 1) := by decide +kernel
theorem dX11_code_112 : decode cX11_code 112 = .ok (.aload 4, 2) := by decide +kernel
theorem dX11_code_114 : decode cX11_code 114 = .ok (.getfield 167, 3) := by decide +kernel
theorem dX11_code_117 : decode cX11_code 117 = .ok (.iload_n 2, 1) := by decide +kernel
theorem dX11_code_118 : decode cX11_code 118 = .ok (.iaload, 1) := by decide +kernel
theorem dX11_code_119 : decode cX11_code 119 = .ok (.ireturn, 1) := by decide +kernel
theorem dX11_code_120 : decode cX11_code 120 = .ok (.aload_n 0, 1) := by decide +kernel
theorem dX11_code_121 : decode cX11_code 121 = .ok (.getfield 28, 3) := by decide +kernel
theorem dX11_code_124 : decode cX11_code 124 = .ok (.getfield 60, 3) := by decide +kernel
theorem dX11_code_127 : decode cX11_code 127 = .ok (.iload_n 1, 1) := by decide +kernel
theorem dX11_code_128 : decode cX11_code 128 = .ok (.aaload, 1) := by decide +kernel
theorem dX11_code_129 : decode cX11_code 129 = .ok (.iload_n 2, 1) := by decide +kernel
theorem dX11_code_130 : decode cX11_code 130 = .ok (.invokevirtual 170, 3) := by decide +kernel
theorem dX11_code_133 : decode cX11_code 133 = .ok (.ireturn, 1) := by decide +kernel
theorem dX11_thread_0 : decode cX11_thread 0 = .ok (.iload_n 1, 1) := by decide +kernel
theorem dX11_thread_1 : decode cX11_thread 1 = .ok (.invokestatic 56, 3) := by decide +kernel
theorem dX11_thread_4 : decode cX11_thread 4 = .ok (.ifCond .ne 6, 3) := by decide +kernel
theorem dX11_thread_7 : decode cX11_thread 7 = .ok (.bipush (-2), 2) := by decide +kernel
theorem dX11_thread_9 : decode cX11_thread 9 = .ok (.ireturn, 1) := by decide +kernel
theorem dX11_thread_10 : decode cX11_thread 10 = .ok (.aload_n 0, 1) := by decide +kernel
theorem dX11_thread_11 : decode cX11_thread 11 = .ok (.getfield 28, 3) := by decide +kernel
theorem dX11_thread_14 : decode cX11_thread 14 = .ok (.getfield 60, 3) := by decide +kernel
theorem dX11_thread_17 : decode cX11_thread 17 = .ok (.iload_n 1, 1) := by decide +kernel
theorem dX11_thread_18 : decode cX11_thread 18 = .ok (.aaload, 1) := by decide +kernel
theorem dX11_thread_19 : decode cX11_thread 19 = .ok (.astore_n 3, 1) := by decide +kernel
theorem dX11_thread_20 : decode cX11_thread 20 = .ok (.iload_n 2, 1) := by decide +kernel
theorem dX11_thread_21 : decode cX11_thread 21 = .ok (.tableswitch 162 0 12 #[67, 72, 77, 82, 87, 92, 97, 117, 122, 130, 143, 148, 155], 67) := by decide +kernel
theorem dX11_thread_88 : decode cX11_thread 88 = .ok (.aload_n 3, 1) := by decide +kernel
theorem dX11_thread_89 : decode cX11_thread 89 = .ok (.getfield 173, 3) := by decide +kernel
theorem dX11_thread_92 : decode cX11_thread 92 = .ok (.ireturn, 1) := by decide +kernel
theorem dX11_thread_93 : decode cX11_thread 93 = .ok (.aload_n 3, 1) := by decide +kernel
theorem dX11_thread_94 : decode cX11_thread 94 = .ok (.getfield 176, 3) := by decide +kernel
theorem dX11_thread_97 : decode cX11_thread 97 = .ok (.ireturn, 1) := by decide +kernel
theorem dX11_thread_98 : decode cX11_thread 98 = .ok (.aload_n 3, 1) := by decide +kernel
theorem dX11_thread_99 : decode cX11_thread 99 = .ok (.getfield 179, 3) := by decide +kernel
theorem dX11_thread_102 : decode cX11_thread 102 = .ok (.ireturn, 1) := by decide +kernel
theorem dX11_thread_103 : decode cX11_thread 103 = .ok (.aload_n 3, 1) := by decide +kernel
theorem dX11_thread_104 : decode cX11_thread 104 = .ok (.getfield 182, 3) := by decide +kernel
theorem dX11_thread_107 : decode cX11_thread 107 = .ok (.ireturn, 1) := by decide +kernel
theorem dX11_thread_108 : decode cX11_thread 108 = .ok (.aload_n 3, 1) := by decide +kernel
theorem dX11_thread_109 : decode cX11_thread 109 = .ok (.getfield 185, 3) := by decide +kernel
theorem dX11_thread_112 : decode cX11_thread 112 = .ok (.ireturn, 1) := by decide +kernel
theorem dX11_thread_113 : decode cX11_thread 113 = .ok (.aload_n 3, 1) := by decide +kernel
theorem dX11_thread_114 : decode cX11_thread 114 = .ok (.getfield 188, 3) := by decide +kernel
theorem dX11_thread_117 : decode cX11_thread 117 = .ok (.ireturn, 1) := by decide +kernel
theorem dX11_thread_118 : decode cX11_thread 118 = .ok (.aload_n 3, 1) := by decide +kernel
theorem dX11_thread_119 : decode cX11_thread 119 = .ok (.getfield 173, 3) := by decide +kernel
theorem dX11_thread_122 : decode cX11_thread 122 = .ok (.iconst 1, 1) := by decide +kernel
theorem dX11_thread_123 : decode cX11_thread 123 = .ok (.if_icmp .ne 13, 3) := by decide +kernel
theorem dX11_thread_126 : decode cX11_thread 126 = .ok (.aload_n 3, 1) := by decide +kernel
theorem dX11_thread_127 : decode cX11_thread 127 = .ok (.getfield 191, 3) := by decide +kernel
theorem dX11_thread_130 : decode cX11_thread 130 = .ok (.getfield 195, 3) := by decide +kernel
theorem dX11_thread_133 : decode cX11_thread 133 = .ok (.goto 4, 3) := by decide +kernel
theorem dX11_thread_136 : decode cX11_thread 136 = .ok (.iconst (-1), 1) := by decide +kernel
theorem dX11_thread_137 : decode cX11_thread 137 = .ok (.ireturn, 1) := by decide +kernel
theorem dX11_thread_138 : decode cX11_thread 138 = .ok (.aload_n 3, 1) := by decide +kernel
theorem dX11_thread_139 : decode cX11_thread 139 = .ok (.getfield 200, 3) := by decide +kernel
theorem dX11_thread_142 : decode cX11_thread 142 = .ok (.ireturn, 1) := by decide +kernel
theorem dX11_thread_143 : decode cX11_thread 143 = .ok (.aload_n 3, 1) := by decide +kernel
theorem dX11_thread_144 : decode cX11_thread 144 = .ok (.getfield 64, 3) := by decide +kernel
theorem dX11_thread_147 : decode cX11_thread 147 = .ok (.getfield 203, 3) := by decide +kernel
theorem dX11_thread_150 : decode cX11_thread 150 = .ok (.ireturn, 1) := by decide +kernel
theorem dX11_thread_151 : decode cX11_thread 151 = .ok (.aload_n 3, 1) := by decide +kernel
theorem dX11_thread_152 : decode cX11_thread 152 = .ok (.getfield 97, 3) := by decide +kernel
theorem dX11_thread_155 : decode cX11_thread 155 = .ok (.ifCond .eq 7, 3) := by decide +kernel
theorem dX11_thread_158 : decode cX11_thread 158 = .ok (.iconst 1, 1) := by decide +kernel
theorem dX11_thread_159 : decode cX11_thread 159 = .ok (.goto 4, 3) := by decide +kernel
theorem dX11_thread_162 : decode cX11_thread 162 = .ok (.iconst 0, 1) := by decide +kernel
theorem dX11_thread_163 : decode cX11_thread 163 = .ok (.ireturn, 1) := by decide +kernel
theorem dX11_thread_164 : decode cX11_thread 164 = .ok (.aload_n 3, 1) := by decide +kernel
theorem dX11_thread_165 : decode cX11_thread 165 = .ok (.getfield 84, 3) := by decide +kernel
theorem dX11_thread_168 : decode cX11_thread 168 = .ok (.ireturn, 1) := by decide +kernel
theorem dX11_thread_169 : decode cX11_thread 169 = .ok (.aload_n 0, 1) := by decide +kernel
theorem dX11_thread_170 : decode cX11_thread 170 = .ok (.getfield 49, 3) := by decide +kernel
theorem dX11_thread_173 : decode cX11_thread 173 = .ok (.iload_n 1, 1) := by decide +kernel
theorem dX11_thread_174 : decode cX11_thread 174 = .ok (.iaload, 1) := by decide +kernel
theorem dX11_thread_175 : decode cX11_thread 175 = .ok (.ireturn, 1) := by decide +kernel
theorem dX11_thread_176 : decode cX11_thread 176 = .ok (.aload_n 0, 1) := by decide +kernel
theorem dX11_thread_177 : decode cX11_thread 177 = .ok (.getfield 53, 3) := by decide +kernel
theorem dX11_thread_180 : decode cX11_thread 180 = .ok (.iload_n 1, 1) := by decide +kernel
theorem dX11_thread_181 : decode cX11_thread 181 = .ok (.iaload, 1) := by decide +kernel
theorem dX11_thread_182 : decode cX11_thread 182 = .ok (.ireturn, 1) := by decide +kernel
theorem dX11_thread_183 : decode cX11_thread 183 = .ok (.bipush (-2), 2) := by decide +kernel
theorem dX11_thread_185 : decode cX11_thread 185 = .ok (.ireturn, 1) := by decide +kernel
theorem dX11_level_0 : decode cX11_level 0 = .ok (.iload_n 1, 1) := by decide +kernel
theorem dX11_level_1 : decode cX11_level 1 = .ok (.invokestatic 206, 3) := by decide +kernel
theorem dX11_level_4 : decode cX11_level 4 = .ok (.ifCond .ne 5, 3) := by decide +kernel
theorem dX11_level_7 : decode cX11_level 7 = .ok (.iconst (-1), 1) := by decide +kernel
theorem dX11_level_8 : decode cX11_level 8 = .ok (.ireturn, 1) := by decide +kernel
theorem dX11_level_9 : decode cX11_level 9 = .ok (.iload_n 2, 1) := by decide +kernel
theorem dX11_level_10 : decode cX11_level 10 = .ok (.ifCond .ne 15, 3) := by decide +kernel
theorem dX11_level_13 : decode cX11_level 13 = .ok (.aload_n 0, 1) := by decide +kernel
theorem dX11_level_14 : decode cX11_level 14 = .ok (.getfield 28, 3) := by decide +kernel
theorem dX11_level_17 : decode cX11_level 17 = .ok (.getfield 101, 3) := by decide +kernel
theorem dX11_level_20 : decode cX11_level 20 = .ok (.iload_n 1, 1) := by decide +kernel
theorem dX11_level_21 : decode cX11_level 21 = .ok (.invokevirtual 209, 3) := by decide +kernel
theorem dX11_level_24 : decode cX11_level 24 = .ok (.ireturn, 1) := by decide +kernel
theorem dX11_level_25 : decode cX11_level 25 = .ok (.iload_n 2, 1) := by decide +kernel
theorem dX11_level_26 : decode cX11_level 26 = .ok (.iconst 1, 1) := by decide +kernel
theorem dX11_level_27 : decode cX11_level 27 = .ok (.if_icmp .ne 17, 3) := by decide +kernel
theorem dX11_level_30 : decode cX11_level 30 = .ok (.aload_n 0, 1) := by decide +kernel
theorem dX11_level_31 : decode cX11_level 31 = .ok (.getfield 28, 3) := by decide +kernel
theorem dX11_level_34 : decode cX11_level 34 = .ok (.getfield 101, 3) := by decide +kernel
theorem dX11_level_37 : decode cX11_level 37 = .ok (.iload_n 1, 1) := by decide +kernel
theorem dX11_level_38 : decode cX11_level 38 = .ok (.invokevirtual 111, 3) := by decide +kernel
theorem dX11_level_41 : decode cX11_level 41 = .ok (.goto 4, 3) := by decide +kernel
theorem dX11_level_44 : decode cX11_level 44 = .ok (.iconst (-1), 1) := by decide +kernel
theorem dX11_level_45 : decode cX11_level 45 = .ok (.ireturn, 1) := by decide +kernel
theorem dX11_edge_0 : decode cX11_edge 0 = .ok (.aload_n 0, 1) := by decide +kernel
theorem dX11_edge_1 : decode cX11_edge 1 = .ok (.getfield 28, 3) := by decide +kernel
theorem dX11_edge_4 : decode cX11_edge 4 = .ok (.getfield 101, 3) := by decide +kernel
theorem dX11_edge_7 : decode cX11_edge 7 = .ok (.getfield 212, 3) := by decide +kernel
theorem dX11_edge_10 : decode cX11_edge 10 = .ok (.iload_n 1, 1) := by decide +kernel
theorem dX11_edge_11 : decode cX11_edge 11 = .ok (.iload_n 2, 1) := by decide +kernel
theorem dX11_edge_12 : decode cX11_edge 12 = .ok (.invokevirtual 216, 3) := by decide +kernel
theorem dX11_edge_15 : decode cX11_edge 15 = .ok (.ireturn, 1) := by decide +kernel
theorem dX11_channel_0 : decode cX11_channel 0 = .ok (.iload_n 1, 1) := by decide +kernel
theorem dX11_channel_1 : decode cX11_channel 1 = .ok (.ifCond .lt 8, 3) := by decide +kernel
theorem dX11_channel_4 : decode cX11_channel 4 = .ok (.iload_n 1, 1) := by decide +kernel
theorem dX11_channel_5 : decode cX11_channel 5 = .ok (.iconst 4, 1) := by decide +kernel
theorem dX11_channel_6 : decode cX11_channel 6 = .ok (.if_icmp .lt 5, 3) := by decide +kernel
theorem dX11_channel_9 : decode cX11_channel 9 = .ok (.iconst (-1), 1) := by decide +kernel
theorem dX11_channel_10 : decode cX11_channel 10 = .ok (.ireturn, 1) := by decide +kernel
theorem dX11_channel_11 : decode cX11_channel 11 = .ok (.iload_n 2, 1) := by decide +kernel
theorem dX11_channel_12 : decode cX11_channel 12 = .ok (.tableswitch 60 0 2 #[28, 38, 48], 28) := by decide +kernel
theorem dX11_channel_40 : decode cX11_channel 40 = .ok (.aload_n 0, 1) := by decide +kernel
theorem dX11_channel_41 : decode cX11_channel 41 = .ok (.getfield 28, 3) := by decide +kernel
theorem dX11_channel_44 : decode cX11_channel 44 = .ok (.iload_n 1, 1) := by decide +kernel
theorem dX11_channel_45 : decode cX11_channel 45 = .ok (.iconst 2, 1) := by decide +kernel
theorem dX11_channel_46 : decode cX11_channel 46 = .ok (.invokevirtual 222, 3) := by decide +kernel
theorem dX11_channel_49 : decode cX11_channel 49 = .ok (.ireturn, 1) := by decide +kernel
theorem dX11_channel_50 : decode cX11_channel 50 = .ok (.aload_n 0, 1) := by decide +kernel
theorem dX11_channel_51 : decode cX11_channel 51 = .ok (.getfield 28, 3) := by decide +kernel
theorem dX11_channel_54 : decode cX11_channel 54 = .ok (.iload_n 1, 1) := by decide +kernel
theorem dX11_channel_55 : decode cX11_channel 55 = .ok (.iconst 3, 1) := by decide +kernel
theorem dX11_channel_56 : decode cX11_channel 56 = .ok (.invokevirtual 222, 3) := by decide +kernel
theorem dX11_channel_59 : decode cX11_channel 59 = .ok (.ireturn, 1) := by decide +kernel
theorem dX11_channel_60 : decode cX11_channel 60 = .ok (.aload_n 0, 1) := by decide +kernel
theorem dX11_channel_61 : decode cX11_channel 61 = .ok (.getfield 28, 3) := by decide +kernel
theorem dX11_channel_64 : decode cX11_channel 64 = .ok (.getfield 225, 3) := by decide +kernel
theorem dX11_channel_67 : decode cX11_channel 67 = .ok (.iload_n 1, 1) := by decide +kernel
theorem dX11_channel_68 : decode cX11_channel 68 = .ok (.invokevirtual 229, 3) := by decide +kernel
theorem dX11_channel_71 : decode cX11_channel 71 = .ok (.ireturn, 1) := by decide +kernel
theorem dX11_channel_72 : decode cX11_channel 72 = .ok (.iconst (-1), 1) := by decide +kernel
theorem dX11_channel_73 : decode cX11_channel 73 = .ok (.ireturn, 1) := by decide +kernel
theorem dX11_table_0 : decode cX11_table 0 = .ok (.aload_n 0, 1) := by decide +kernel
theorem dX11_table_1 : decode cX11_table 1 = .ok (.getfield 10, 3) := by decide +kernel
theorem dX11_table_4 : decode cX11_table 4 = .ok (.iload_n 1, 1) := by decide +kernel
theorem dX11_table_5 : decode cX11_table 5 = .ok (.invokevirtual 124, 3) := by decide +kernel
theorem dX11_table_8 : decode cX11_table 8 = .ok (.ifCond .eq 15, 3) := by decide +kernel
theorem dX11_table_11 : decode cX11_table 11 = .ok (.aload_n 0, 1) := by decide +kernel
theorem dX11_table_12 : decode cX11_table 12 = .ok (.getfield 10, 3) := by decide +kernel
theorem dX11_table_15 : decode cX11_table 15 = .ok (.getfield 127, 3) := by decide +kernel
theorem dX11_table_18 : decode cX11_table 18 = .ok (.iload_n 1, 1) := by decide +kernel
theorem dX11_table_19 : decode cX11_table 19 = .ok (.iaload, 1) := by decide +kernel
theorem dX11_table_20 : decode cX11_table 20 = .ok (.goto 5, 3) := by decide +kernel
theorem dX11_table_23 : decode cX11_table 23 = .ok (.bipush (-2), 2) := by decide +kernel
theorem dX11_table_25 : decode cX11_table 25 = .ok (.ireturn, 1) := by decide +kernel
theorem dX11_bound_0 : decode cX11_bound 0 = .ok (.iload_n 1, 1) := by decide +kernel
theorem dX11_bound_1 : decode cX11_bound 1 = .ok (.invokestatic 56, 3) := by decide +kernel
theorem dX11_bound_4 : decode cX11_bound 4 = .ok (.ifCond .eq 12, 3) := by decide +kernel
theorem dX11_bound_7 : decode cX11_bound 7 = .ok (.iload_n 2, 1) := by decide +kernel
theorem dX11_bound_8 : decode cX11_bound 8 = .ok (.ifCond .lt 8, 3) := by decide +kernel
theorem dX11_bound_11 : decode cX11_bound 11 = .ok (.iload_n 2, 1) := by decide +kernel
theorem dX11_bound_12 : decode cX11_bound 12 = .ok (.iconst 5, 1) := by decide +kernel
theorem dX11_bound_13 : decode cX11_bound 13 = .ok (.if_icmp .le 5, 3) := by decide +kernel
theorem dX11_bound_16 : decode cX11_bound 16 = .ok (.iconst (-1), 1) := by decide +kernel
theorem dX11_bound_17 : decode cX11_bound 17 = .ok (.ireturn, 1) := by decide +kernel
theorem dX11_bound_18 : decode cX11_bound 18 = .ok (.iload_n 2, 1) := by decide +kernel
theorem dX11_bound_19 : decode cX11_bound 19 = .ok (.iconst 5, 1) := by decide +kernel
theorem dX11_bound_20 : decode cX11_bound 20 = .ok (.if_icmp .ne 17, 3) := by decide +kernel
theorem dX11_bound_23 : decode cX11_bound 23 = .ok (.aload_n 0, 1) := by decide +kernel
theorem dX11_bound_24 : decode cX11_bound 24 = .ok (.iload_n 1, 1) := by decide +kernel
theorem dX11_bound_25 : decode cX11_bound 25 = .ok (.invokevirtual 234, 3) := by decide +kernel
theorem dX11_bound_28 : decode cX11_bound 28 = .ok (.ifCond .eq 7, 3) := by decide +kernel
theorem dX11_bound_31 : decode cX11_bound 31 = .ok (.iconst 1, 1) := by decide +kernel
theorem dX11_bound_32 : decode cX11_bound 32 = .ok (.goto 4, 3) := by decide +kernel
theorem dX11_bound_35 : decode cX11_bound 35 = .ok (.iconst 0, 1) := by decide +kernel
theorem dX11_bound_36 : decode cX11_bound 36 = .ok (.ireturn, 1) := by decide +kernel
theorem dX11_bound_37 : decode cX11_bound 37 = .ok (.aload_n 0, 1) := by decide +kernel
theorem dX11_bound_38 : decode cX11_bound 38 = .ok (.getfield 28, 3) := by decide +kernel
theorem dX11_bound_41 : decode cX11_bound 41 = .ok (.getfield 60, 3) := by decide +kernel
theorem dX11_bound_44 : decode cX11_bound 44 = .ok (.iload_n 1, 1) := by decide +kernel
theorem dX11_bound_45 : decode cX11_bound 45 = .ok (.aaload, 1) := by decide +kernel
theorem dX11_bound_46 : decode cX11_bound 46 = .ok (.getfield 64, 3) := by decide +kernel
theorem dX11_bound_49 : decode cX11_bound 49 = .ok (.astore_n 3, 1) := by decide +kernel
theorem dX11_bound_50 : decode cX11_bound 50 = .ok (.aload_n 0, 1) := by decide +kernel
theorem dX11_bound_51 : decode cX11_bound 51 = .ok (.getfield 38, 3) := by decide +kernel
theorem dX11_bound_54 : decode cX11_bound 54 = .ok (.aload_n 3, 1) := by decide +kernel
theorem dX11_bound_55 : decode cX11_bound 55 = .ok (.invokevirtual 237, 3) := by decide +kernel
theorem dX11_bound_58 : decode cX11_bound 58 = .ok (.istore 4, 2) := by decide +kernel
theorem dX11_bound_60 : decode cX11_bound 60 = .ok (.iload_n 2, 1) := by decide +kernel
theorem dX11_bound_61 : decode cX11_bound 61 = .ok (.ifCond .ne 14, 3) := by decide +kernel
theorem dX11_bound_64 : decode cX11_bound 64 = .ok (.iload 4, 2) := by decide +kernel
theorem dX11_bound_66 : decode cX11_bound 66 = .ok (.ifCond .eq 7, 3) := by decide +kernel
theorem dX11_bound_69 : decode cX11_bound 69 = .ok (.iconst 1, 1) := by decide +kernel
theorem dX11_bound_70 : decode cX11_bound 70 = .ok (.goto 4, 3) := by decide +kernel
theorem dX11_bound_73 : decode cX11_bound 73 = .ok (.iconst 0, 1) := by decide +kernel
theorem dX11_bound_74 : decode cX11_bound 74 = .ok (.ireturn, 1) := by decide +kernel
theorem dX11_bound_75 : decode cX11_bound 75 = .ok (.iload 4, 2) := by decide +kernel
theorem dX11_bound_77 : decode cX11_bound 77 = .ok (.ifCond .ne 5, 3) := by decide +kernel
theorem dX11_bound_80 : decode cX11_bound 80 = .ok (.iconst (-1), 1) := by decide +kernel
theorem dX11_bound_81 : decode cX11_bound 81 = .ok (.ireturn, 1) := by decide +kernel
theorem dX11_bound_82 : decode cX11_bound 82 = .ok (.iload_n 2, 1) := by decide +kernel
theorem dX11_bound_83 : decode cX11_bound 83 = .ok (.iconst 2, 1) := by decide +kernel
theorem dX11_bound_84 : decode cX11_bound 84 = .ok (.if_icmp .eq 8, 3) := by decide +kernel
theorem dX11_bound_87 : decode cX11_bound 87 = .ok (.iload_n 2, 1) := by decide +kernel
theorem dX11_bound_88 : decode cX11_bound 88 = .ok (.iconst 4, 1) := by decide +kernel
theorem dX11_bound_89 : decode cX11_bound 89 = .ok (.if_icmp .ne 7, 3) := by decide +kernel
theorem dX11_bound_92 : decode cX11_bound 92 = .ok (.iconst 1, 1) := by decide +kernel
theorem dX11_bound_93 : decode cX11_bound 93 = .ok (.goto 4, 3) := by decide +kernel
theorem dX11_bound_96 : decode cX11_bound 96 = .ok (.iconst 0, 1) := by decide +kernel
theorem dX11_bound_97 : decode cX11_bound 97 = .ok (.istore 5, 2) := by decide +kernel
theorem dX11_bound_99 : decode cX11_bound 99 = .ok (.aload_n 0, 1) := by decide +kernel
theorem dX11_bound_100 : decode cX11_bound 100 = .ok (.getfield 38, 3) := by decide +kernel
theorem dX11_bound_103 : decode cX11_bound 103 = .ok (.aload_n 3, 1) := by decide +kernel
theorem dX11_bound_104 : decode cX11_bound 104 = .ok (.iload 5, 2) := by decide +kernel
theorem dX11_bound_106 : decode cX11_bound 106 = .ok (.invokevirtual 241, 3) := by decide +kernel
theorem dX11_bound_109 : decode cX11_bound 109 = .ok (.istore 6, 2) := by decide +kernel
theorem dX11_bound_111 : decode cX11_bound 111 = .ok (.iload_n 2, 1) := by decide +kernel
theorem dX11_bound_112 : decode cX11_bound 112 = .ok (.iconst 2, 1) := by decide +kernel
theorem dX11_bound_113 : decode cX11_bound 113 = .ok (.if_icmp .gt 8, 3) := by decide +kernel
theorem dX11_bound_116 : decode cX11_bound 116 = .ok (.iload 6, 2) := by decide +kernel
theorem dX11_bound_118 : decode cX11_bound 118 = .ok (.goto 15, 3) := by decide +kernel
theorem dX11_bound_121 : decode cX11_bound 121 = .ok (.aload_n 0, 1) := by decide +kernel
theorem dX11_bound_122 : decode cX11_bound 122 = .ok (.getfield 10, 3) := by decide +kernel
theorem dX11_bound_125 : decode cX11_bound 125 = .ok (.iload_n 1, 1) := by decide +kernel
theorem dX11_bound_126 : decode cX11_bound 126 = .ok (.iload 6, 2) := by decide +kernel
theorem dX11_bound_128 : decode cX11_bound 128 = .ok (.iload 5, 2) := by decide +kernel
theorem dX11_bound_130 : decode cX11_bound 130 = .ok (.invokevirtual 245, 3) := by decide +kernel
theorem dX11_bound_133 : decode cX11_bound 133 = .ok (.ireturn, 1) := by decide +kernel
theorem dX11_span_0 : decode cX11_span 0 = .ok (.iload_n 1, 1) := by decide +kernel
theorem dX11_span_1 : decode cX11_span 1 = .ok (.invokestatic 56, 3) := by decide +kernel
theorem dX11_span_4 : decode cX11_span 4 = .ok (.ifCond .eq 12, 3) := by decide +kernel
theorem dX11_span_7 : decode cX11_span 7 = .ok (.iload_n 3, 1) := by decide +kernel
theorem dX11_span_8 : decode cX11_span 8 = .ok (.ifCond .lt 8, 3) := by decide +kernel
theorem dX11_span_11 : decode cX11_span 11 = .ok (.iload_n 3, 1) := by decide +kernel
theorem dX11_span_12 : decode cX11_span 12 = .ok (.iconst 1, 1) := by decide +kernel
theorem dX11_span_13 : decode cX11_span 13 = .ok (.if_icmp .le 5, 3) := by decide +kernel
theorem dX11_span_16 : decode cX11_span 16 = .ok (.iconst (-1), 1) := by decide +kernel
theorem dX11_span_17 : decode cX11_span 17 = .ok (.ireturn, 1) := by decide +kernel
theorem dX11_span_18 : decode cX11_span 18 = .ok (.aload_n 0, 1) := by decide +kernel
theorem dX11_span_19 : decode cX11_span 19 = .ok (.getfield 10, 3) := by decide +kernel
theorem dX11_span_22 : decode cX11_span 22 = .ok (.iload_n 1, 1) := by decide +kernel
theorem dX11_span_23 : decode cX11_span 23 = .ok (.iload_n 2, 1) := by decide +kernel
theorem dX11_span_24 : decode cX11_span 24 = .ok (.iload_n 3, 1) := by decide +kernel
theorem dX11_span_25 : decode cX11_span 25 = .ok (.iconst 1, 1) := by decide +kernel
theorem dX11_span_26 : decode cX11_span 26 = .ok (.if_icmp .ne 7, 3) := by decide +kernel
theorem dX11_span_29 : decode cX11_span 29 = .ok (.iconst 1, 1) := by decide +kernel
theorem dX11_span_30 : decode cX11_span 30 = .ok (.goto 4, 3) := by decide +kernel
theorem dX11_span_33 : decode cX11_span 33 = .ok (.iconst 0, 1) := by decide +kernel
theorem dX11_span_34 : decode cX11_span 34 = .ok (.invokevirtual 245, 3) := by decide +kernel
theorem dX11_span_37 : decode cX11_span 37 = .ok (.ireturn, 1) := by decide +kernel
theorem dX11_will_0 : decode cX11_will 0 = .ok (.iload_n 1, 1) := by decide +kernel
theorem dX11_will_1 : decode cX11_will 1 = .ok (.invokestatic 56, 3) := by decide +kernel
theorem dX11_will_4 : decode cX11_will 4 = .ok (.ifCond .eq 14, 3) := by decide +kernel
theorem dX11_will_7 : decode cX11_will 7 = .ok (.iload_n 2, 1) := by decide +kernel
theorem dX11_will_8 : decode cX11_will 8 = .ok (.iconst 1, 1) := by decide +kernel
theorem dX11_will_9 : decode cX11_will 9 = .ok (.if_icmp .lt 9, 3) := by decide +kernel
theorem dX11_will_12 : decode cX11_will 12 = .ok (.iload_n 2, 1) := by decide +kernel
theorem dX11_will_13 : decode cX11_will 13 = .ok (.bipush 60, 2) := by decide +kernel
theorem dX11_will_15 : decode cX11_will 15 = .ok (.if_icmp .le 5, 3) := by decide +kernel
theorem dX11_will_18 : decode cX11_will 18 = .ok (.iconst (-1), 1) := by decide +kernel
theorem dX11_will_19 : decode cX11_will 19 = .ok (.ireturn, 1) := by decide +kernel
theorem dX11_will_20 : decode cX11_will 20 = .ok (.aload_n 0, 1) := by decide +kernel
theorem dX11_will_21 : decode cX11_will 21 = .ok (.getfield 32, 3) := by decide +kernel
theorem dX11_will_24 : decode cX11_will 24 = .ok (.aload_n 0, 1) := by decide +kernel
theorem dX11_will_25 : decode cX11_will 25 = .ok (.getfield 28, 3) := by decide +kernel
theorem dX11_will_28 : decode cX11_will 28 = .ok (.invokevirtual 249, 3) := by decide +kernel
theorem dX11_will_31 : decode cX11_will 31 = .ok (.aload_n 0, 1) := by decide +kernel
theorem dX11_will_32 : decode cX11_will 32 = .ok (.getfield 32, 3) := by decide +kernel
theorem dX11_will_35 : decode cX11_will 35 = .ok (.iload_n 1, 1) := by decide +kernel
theorem dX11_will_36 : decode cX11_will 36 = .ok (.iload_n 2, 1) := by decide +kernel
theorem dX11_will_37 : decode cX11_will 37 = .ok (.invokestatic 253, 3) := by decide +kernel
theorem dX11_will_40 : decode cX11_will 40 = .ok (.ireturn, 1) := by decide +kernel
theorem dX11_alone_0 : decode cX11_alone 0 = .ok (.iload_n 1, 1) := by decide +kernel
theorem dX11_alone_1 : decode cX11_alone 1 = .ok (.invokestatic 56, 3) := by decide +kernel
theorem dX11_alone_4 : decode cX11_alone 4 = .ok (.ifCond .eq 14, 3) := by decide +kernel
theorem dX11_alone_7 : decode cX11_alone 7 = .ok (.iload_n 2, 1) := by decide +kernel
theorem dX11_alone_8 : decode cX11_alone 8 = .ok (.iconst 1, 1) := by decide +kernel
theorem dX11_alone_9 : decode cX11_alone 9 = .ok (.if_icmp .lt 9, 3) := by decide +kernel
theorem dX11_alone_12 : decode cX11_alone 12 = .ok (.iload_n 2, 1) := by decide +kernel
theorem dX11_alone_13 : decode cX11_alone 13 = .ok (.bipush 60, 2) := by decide +kernel
theorem dX11_alone_15 : decode cX11_alone 15 = .ok (.if_icmp .le 5, 3) := by decide +kernel
theorem dX11_alone_18 : decode cX11_alone 18 = .ok (.iconst (-1), 1) := by decide +kernel
theorem dX11_alone_19 : decode cX11_alone 19 = .ok (.ireturn, 1) := by decide +kernel
theorem dX11_alone_20 : decode cX11_alone 20 = .ok (.aload_n 0, 1) := by decide +kernel
theorem dX11_alone_21 : decode cX11_alone 21 = .ok (.getfield 32, 3) := by decide +kernel
theorem dX11_alone_24 : decode cX11_alone 24 = .ok (.aload_n 0, 1) := by decide +kernel
theorem dX11_alone_25 : decode cX11_alone 25 = .ok (.getfield 28, 3) := by decide +kernel
theorem dX11_alone_28 : decode cX11_alone 28 = .ok (.invokevirtual 249, 3) := by decide +kernel
theorem dX11_alone_31 : decode cX11_alone 31 = .ok (.iconst 0, 1) := by decide +kernel
theorem dX11_alone_32 : decode cX11_alone 32 = .ok (.istore_n 3, 1) := by decide +kernel
theorem dX11_alone_33 : decode cX11_alone 33 = .ok (.iload_n 3, 1) := by decide +kernel
theorem dX11_alone_34 : decode cX11_alone 34 = .ok (.bipush 6, 2) := by decide +kernel
theorem dX11_alone_36 : decode cX11_alone 36 = .ok (.if_icmp .ge 23, 3) := by decide +kernel
theorem dX11_alone_39 : decode cX11_alone 39 = .ok (.iload_n 3, 1) := by decide +kernel
theorem dX11_alone_40 : decode cX11_alone 40 = .ok (.iload_n 1, 1) := by decide +kernel
theorem dX11_alone_41 : decode cX11_alone 41 = .ok (.if_icmp .eq 12, 3) := by decide +kernel
theorem dX11_alone_44 : decode cX11_alone 44 = .ok (.aload_n 0, 1) := by decide +kernel
theorem dX11_alone_45 : decode cX11_alone 45 = .ok (.getfield 32, 3) := by decide +kernel
theorem dX11_alone_48 : decode cX11_alone 48 = .ok (.iload_n 3, 1) := by decide +kernel
theorem dX11_alone_49 : decode cX11_alone 49 = .ok (.invokevirtual 80, 3) := by decide +kernel
theorem dX11_alone_52 : decode cX11_alone 52 = .ok (.pop, 1) := by decide +kernel
theorem dX11_alone_53 : decode cX11_alone 53 = .ok (.iinc 3 1, 3) := by decide +kernel
theorem dX11_alone_56 : decode cX11_alone 56 = .ok (.goto (-23), 3) := by decide +kernel
theorem dX11_alone_59 : decode cX11_alone 59 = .ok (.aload_n 0, 1) := by decide +kernel
theorem dX11_alone_60 : decode cX11_alone 60 = .ok (.getfield 32, 3) := by decide +kernel
theorem dX11_alone_63 : decode cX11_alone 63 = .ok (.iload_n 1, 1) := by decide +kernel
theorem dX11_alone_64 : decode cX11_alone 64 = .ok (.iload_n 2, 1) := by decide +kernel
theorem dX11_alone_65 : decode cX11_alone 65 = .ok (.invokestatic 253, 3) := by decide +kernel
theorem dX11_alone_68 : decode cX11_alone 68 = .ok (.ireturn, 1) := by decide +kernel
theorem dX11_ahead_0 : decode cX11_ahead 0 = .ok (.iload_n 1, 1) := by decide +kernel
theorem dX11_ahead_1 : decode cX11_ahead 1 = .ok (.invokestatic 56, 3) := by decide +kernel
theorem dX11_ahead_4 : decode cX11_ahead 4 = .ok (.ifCond .eq 22, 3) := by decide +kernel
theorem dX11_ahead_7 : decode cX11_ahead 7 = .ok (.iload_n 2, 1) := by decide +kernel
theorem dX11_ahead_8 : decode cX11_ahead 8 = .ok (.invokestatic 141, 3) := by decide +kernel
theorem dX11_ahead_11 : decode cX11_ahead 11 = .ok (.ifCond .eq 15, 3) := by decide +kernel
theorem dX11_ahead_14 : decode cX11_ahead 14 = .ok (.iload_n 3, 1) := by decide +kernel
theorem dX11_ahead_15 : decode cX11_ahead 15 = .ok (.iconst 1, 1) := by decide +kernel
theorem dX11_ahead_16 : decode cX11_ahead 16 = .ok (.if_icmp .lt 10, 3) := by decide +kernel
theorem dX11_ahead_19 : decode cX11_ahead 19 = .ok (.iload_n 3, 1) := by decide +kernel
theorem dX11_ahead_20 : decode cX11_ahead 20 = .ok (.sipush 300, 3) := by decide +kernel
theorem dX11_ahead_23 : decode cX11_ahead 23 = .ok (.if_icmp .le 11, 3) := by decide +kernel
theorem dX11_ahead_26 : decode cX11_ahead 26 = .ok (.new 144, 3) := by decide +kernel
theorem dX11_ahead_29 : decode cX11_ahead 29 = .ok (.dup, 1) := by decide +kernel
theorem dX11_ahead_30 : decode cX11_ahead 30 = .ok (.invokespecial 146, 3) := by decide +kernel
theorem dX11_ahead_33 : decode cX11_ahead 33 = .ok (.athrow, 1) := by decide +kernel
theorem dX11_ahead_34 : decode cX11_ahead 34 = .ok (.aload_n 0, 1) := by decide +kernel
theorem dX11_ahead_35 : decode cX11_ahead 35 = .ok (.getfield 32, 3) := by decide +kernel
theorem dX11_ahead_38 : decode cX11_ahead 38 = .ok (.aload_n 0, 1) := by decide +kernel
theorem dX11_ahead_39 : decode cX11_ahead 39 = .ok (.getfield 28, 3) := by decide +kernel
theorem dX11_ahead_42 : decode cX11_ahead 42 = .ok (.invokevirtual 249, 3) := by decide +kernel
theorem dX11_ahead_45 : decode cX11_ahead 45 = .ok (.iconst 0, 1) := by decide +kernel
theorem dX11_ahead_46 : decode cX11_ahead 46 = .ok (.istore 4, 2) := by decide +kernel
theorem dX11_ahead_48 : decode cX11_ahead 48 = .ok (.iload 4, 2) := by decide +kernel
theorem dX11_ahead_50 : decode cX11_ahead 50 = .ok (.iload_n 3, 1) := by decide +kernel
theorem dX11_ahead_51 : decode cX11_ahead 51 = .ok (.if_icmp .ge 17, 3) := by decide +kernel
theorem dX11_ahead_54 : decode cX11_ahead 54 = .ok (.aload_n 0, 1) := by decide +kernel
theorem dX11_ahead_55 : decode cX11_ahead 55 = .ok (.getfield 32, 3) := by decide +kernel
theorem dX11_ahead_58 : decode cX11_ahead 58 = .ok (.invokevirtual 137, 3) := by decide +kernel
theorem dX11_ahead_61 : decode cX11_ahead 61 = .ok (.pop, 1) := by decide +kernel
theorem dX11_ahead_62 : decode cX11_ahead 62 = .ok (.iinc 4 1, 3) := by decide +kernel
theorem dX11_ahead_65 : decode cX11_ahead 65 = .ok (.goto (-17), 3) := by decide +kernel
theorem dX11_ahead_68 : decode cX11_ahead 68 = .ok (.aload_n 0, 1) := by decide +kernel
theorem dX11_ahead_69 : decode cX11_ahead 69 = .ok (.getfield 32, 3) := by decide +kernel
theorem dX11_ahead_72 : decode cX11_ahead 72 = .ok (.getfield 60, 3) := by decide +kernel
theorem dX11_ahead_75 : decode cX11_ahead 75 = .ok (.iload_n 1, 1) := by decide +kernel
theorem dX11_ahead_76 : decode cX11_ahead 76 = .ok (.aaload, 1) := by decide +kernel
theorem dX11_ahead_77 : decode cX11_ahead 77 = .ok (.iload_n 2, 1) := by decide +kernel
theorem dX11_ahead_78 : decode cX11_ahead 78 = .ok (.invokevirtual 147, 3) := by decide +kernel
theorem dX11_ahead_81 : decode cX11_ahead 81 = .ok (.ireturn, 1) := by decide +kernel
theorem dX11_share_0 : decode cX11_share 0 = .ok (.iload_n 1, 1) := by decide +kernel
theorem dX11_share_1 : decode cX11_share 1 = .ok (.invokestatic 56, 3) := by decide +kernel
theorem dX11_share_4 : decode cX11_share 4 = .ok (.ifCond .eq 13, 3) := by decide +kernel
theorem dX11_share_7 : decode cX11_share 7 = .ok (.aload_n 0, 1) := by decide +kernel
theorem dX11_share_8 : decode cX11_share 8 = .ok (.getfield 28, 3) := by decide +kernel
theorem dX11_share_11 : decode cX11_share 11 = .ok (.getfield 114, 3) := by decide +kernel
theorem dX11_share_14 : decode cX11_share 14 = .ok (.ifCond .ne 5, 3) := by decide +kernel
theorem dX11_share_17 : decode cX11_share 17 = .ok (.iconst (-1), 1) := by decide +kernel
theorem dX11_share_18 : decode cX11_share 18 = .ok (.ireturn, 1) := by decide +kernel
theorem dX11_share_19 : decode cX11_share 19 = .ok (.aload_n 0, 1) := by decide +kernel
theorem dX11_share_20 : decode cX11_share 20 = .ok (.getfield 28, 3) := by decide +kernel
theorem dX11_share_23 : decode cX11_share 23 = .ok (.getfield 60, 3) := by decide +kernel
theorem dX11_share_26 : decode cX11_share 26 = .ok (.iload_n 1, 1) := by decide +kernel
theorem dX11_share_27 : decode cX11_share 27 = .ok (.aaload, 1) := by decide +kernel
