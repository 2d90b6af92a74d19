theorem dX8_init_0 : decode cX8_init 0 = .ok (.aload_n 0, 1) := by decide +kernel
theorem dX8_init_1 : decode cX8_init 1 = .ok (.invokespecial 3, 3) := by decide +kernel
theorem dX8_init_4 : decode cX8_init 4 = .ok (.aload_n 0, 1) := by decide +kernel
theorem dX8_init_5 : decode cX8_init 5 = .ok (.new 9, 3) := by decide +kernel
theorem dX8_init_8 : decode cX8_init 8 = .ok (.dup, 1) := by decide +kernel
theorem dX8_init_9 : decode cX8_init 9 = .ok (.invokespecial 11, 3) := by decide +kernel
theorem dX8_init_12 : decode cX8_init 12 = .ok (.putfield 12, 3) := by decide +kernel
theorem dX8_init_15 : decode cX8_init 15 = .ok (.aload_n 0, 1) := by decide +kernel
theorem dX8_init_16 : decode cX8_init 16 = .ok (.new 16, 3) := by decide +kernel
theorem dX8_init_19 : decode cX8_init 19 = .ok (.dup, 1) := by decide +kernel
theorem dX8_init_20 : decode cX8_init 20 = .ok (.bipush 8, 2) := by decide +kernel
theorem dX8_init_22 : decode cX8_init 22 = .ok (.iconst 0, 1) := by decide +kernel
theorem dX8_init_23 : decode cX8_init 23 = .ok (.invokespecial 18, 3) := by decide +kernel
theorem dX8_init_26 : decode cX8_init 26 = .ok (.putfield 21, 3) := by decide +kernel
theorem dX8_init_29 : decode cX8_init 29 = .ok (.aload_n 0, 1) := by decide +kernel
theorem dX8_init_30 : decode cX8_init 30 = .ok (.new 25, 3) := by decide +kernel
theorem dX8_init_33 : decode cX8_init 33 = .ok (.dup, 1) := by decide +kernel
theorem dX8_init_34 : decode cX8_init 34 = .ok (.aload_n 0, 1) := by decide +kernel
theorem dX8_init_35 : decode cX8_init 35 = .ok (.getfield 12, 3) := by decide +kernel
theorem dX8_init_38 : decode cX8_init 38 = .ok (.invokespecial 27, 3) := by decide +kernel
theorem dX8_init_41 : decode cX8_init 41 = .ok (.putfield 30, 3) := by decide +kernel
theorem dX8_init_44 : decode cX8_init 44 = .ok (.aload_n 0, 1) := by decide +kernel
theorem dX8_init_45 : decode cX8_init 45 = .ok (.new 34, 3) := by decide +kernel
theorem dX8_init_48 : decode cX8_init 48 = .ok (.dup, 1) := by decide +kernel
theorem dX8_init_49 : decode cX8_init 49 = .ok (.aload_n 0, 1) := by decide +kernel
theorem dX8_init_50 : decode cX8_init 50 = .ok (.getfield 12, 3) := by decide +kernel
theorem dX8_init_53 : decode cX8_init 53 = .ok (.aload_n 0, 1) := by decide +kernel
theorem dX8_init_54 : decode cX8_init 54 = .ok (.getfield 21, 3) := by decide +kernel
theorem dX8_init_57 : decode cX8_init 57 = .ok (.invokespecial 36, 3) := by decide +kernel
theorem dX8_init_60 : decode cX8_init 60 = .ok (.putfield 39, 3) := by decide +kernel
theorem dX8_init_63 : decode cX8_init 63 = .ok (.aload_n 0, 1) := by decide +kernel
theorem dX8_init_64 : decode cX8_init 64 = .ok (.new 43, 3) := by decide +kernel
theorem dX8_init_67 : decode cX8_init 67 = .ok (.dup, 1) := by decide +kernel
theorem dX8_init_68 : decode cX8_init 68 = .ok (.invokespecial 45, 3) := by decide +kernel
theorem dX8_init_71 : decode cX8_init 71 = .ok (.putfield 46, 3) := by decide +kernel
theorem dX8_init_74 : decode cX8_init 74 = .ok (.aload_n 0, 1) := by decide +kernel
theorem dX8_init_75 : decode cX8_init 75 = .ok (.iconst 4, 1) := by decide +kernel
theorem dX8_init_76 : decode cX8_init 76 = .ok (.anewarray 50, 3) := by decide +kernel
theorem dX8_init_79 : decode cX8_init 79 = .ok (.dup, 1) := by decide +kernel
theorem dX8_init_80 : decode cX8_init 80 = .ok (.iconst 0, 1) := by decide +kernel
theorem dX8_init_81 : decode cX8_init 81 = .ok (.new 50, 3) := by decide +kernel
theorem dX8_init_84 : decode cX8_init 84 = .ok (.dup, 1) := by decide +kernel
theorem dX8_init_85 : decode cX8_init 85 = .ok (.invokespecial 52, 3) := by decide +kernel
theorem dX8_init_88 : decode cX8_init 88 = .ok (.aastore, 1) := by decide +kernel
theorem dX8_init_89 : decode cX8_init 89 = .ok (.dup, 1) := by decide +kernel
theorem dX8_init_90 : decode cX8_init 90 = .ok (.iconst 1, 1) := by decide +kernel
theorem dX8_init_91 : decode cX8_init 91 = .ok (.new 50, 3) := by decide +kernel
theorem dX8_init_94 : decode cX8_init 94 = .ok (.dup, 1) := by decide +kernel
theorem dX8_init_95 : decode cX8_init 95 = .ok (.invokespecial 52, 3) := by decide +kernel
theorem dX8_init_98 : decode cX8_init 98 = .ok (.aastore, 1) := by decide +kernel
theorem dX8_init_99 : decode cX8_init 99 = .ok (.dup, 1) := by decide +kernel
theorem dX8_init_100 : decode cX8_init 100 = .ok (.iconst 2, 1) := by decide +kernel
theorem dX8_init_101 : decode cX8_init 101 = .ok (.new 50, 3) := by decide +kernel
theorem dX8_init_104 : decode cX8_init 104 = .ok (.dup, 1) := by decide +kernel
theorem dX8_init_105 : decode cX8_init 105 = .ok (.invokespecial 52, 3) := by decide +kernel
theorem dX8_init_108 : decode cX8_init 108 = .ok (.aastore, 1) := by decide +kernel
theorem dX8_init_109 : decode cX8_init 109 = .ok (.dup, 1) := by decide +kernel
theorem dX8_init_110 : decode cX8_init 110 = .ok (.iconst 3, 1) := by decide +kernel
theorem dX8_init_111 : decode cX8_init 111 = .ok (.new 50, 3) := by decide +kernel
theorem dX8_init_114 : decode cX8_init 114 = .ok (.dup, 1) := by decide +kernel
theorem dX8_init_115 : decode cX8_init 115 = .ok (.invokespecial 52, 3) := by decide +kernel
theorem dX8_init_118 : decode cX8_init 118 = .ok (.aastore, 1) := by decide +kernel
theorem dX8_init_119 : decode cX8_init 119 = .ok (.putfield 53, 3) := by decide +kernel
theorem dX8_init_122 : decode cX8_init 122 = .ok (.aload_n 0, 1) := by decide +kernel
theorem dX8_init_123 : decode cX8_init 123 = .ok (.iconst 0, 1) := by decide +kernel
theorem dX8_init_124 : decode cX8_init 124 = .ok (.putfield 57, 3) := by decide +kernel
theorem dX8_init_127 : decode cX8_init 127 = .ok (.return_, 1) := by decide +kernel
theorem dX8_type_0 : decode cX8_type 0 = .ok (.iload_n 1, 1) := by decide +kernel
theorem dX8_type_1 : decode cX8_type 1 = .ok (.invokestatic 61, 3) := by decide +kernel
theorem dX8_type_4 : decode cX8_type 4 = .ok (.ifCond .ne 14, 3) := by decide +kernel
theorem dX8_type_7 : decode cX8_type 7 = .ok (.iload_n 2, 1) := by decide +kernel
theorem dX8_type_8 : decode cX8_type 8 = .ok (.ifCond .lt 10, 3) := by decide +kernel
theorem dX8_type_11 : decode cX8_type 11 = .ok (.iload_n 2, 1) := by decide +kernel
theorem dX8_type_12 : decode cX8_type 12 = .ok (.sipush 255, 3) := by decide +kernel
theorem dX8_type_15 : decode cX8_type 15 = .ok (.if_icmp .le 6, 3) := by decide +kernel
theorem dX8_type_18 : decode cX8_type 18 = .ok (.bipush (-2), 2) := by decide +kernel
theorem dX8_type_20 : decode cX8_type 20 = .ok (.ireturn, 1) := by decide +kernel
theorem dX8_type_21 : decode cX8_type 21 = .ok (.aload_n 0, 1) := by decide +kernel
theorem dX8_type_22 : decode cX8_type 22 = .ok (.iload_n 1, 1) := by decide +kernel
theorem dX8_type_23 : decode cX8_type 23 = .ok (.invokevirtual 65, 3) := by decide +kernel
theorem dX8_type_26 : decode cX8_type 26 = .ok (.astore_n 3, 1) := by decide +kernel
theorem dX8_type_27 : decode cX8_type 27 = .ok (.aload_n 3, 1) := by decide +kernel
theorem dX8_type_28 : decode cX8_type 28 = .ok (.invokevirtual 69, 3) := by decide +kernel
theorem dX8_type_31 : decode cX8_type 31 = .ok (.ifCond .eq 6, 3) := by decide +kernel
theorem dX8_type_34 : decode cX8_type 34 = .ok (.bipush (-4), 2) := by decide +kernel
theorem dX8_type_36 : decode cX8_type 36 = .ok (.ireturn, 1) := by decide +kernel
theorem dX8_type_37 : decode cX8_type 37 = .ok (.aload_n 3, 1) := by decide +kernel
theorem dX8_type_38 : decode cX8_type 38 = .ok (.iload_n 2, 1) := by decide +kernel
theorem dX8_type_39 : decode cX8_type 39 = .ok (.invokevirtual 75, 3) := by decide +kernel
theorem dX8_type_42 : decode cX8_type 42 = .ok (.aload_n 3, 1) := by decide +kernel
theorem dX8_type_43 : decode cX8_type 43 = .ok (.getfield 79, 3) := by decide +kernel
theorem dX8_type_46 : decode cX8_type 46 = .ok (.ireturn, 1) := by decide +kernel
theorem dX8_wipe_0 : decode cX8_wipe 0 = .ok (.iload_n 1, 1) := by decide +kernel
theorem dX8_wipe_1 : decode cX8_wipe 1 = .ok (.invokestatic 61, 3) := by decide +kernel
theorem dX8_wipe_4 : decode cX8_wipe 4 = .ok (.ifCond .eq 6, 3) := by decide +kernel
theorem dX8_wipe_7 : decode cX8_wipe 7 = .ok (.bipush (-2), 2) := by decide +kernel
theorem dX8_wipe_9 : decode cX8_wipe 9 = .ok (.ireturn, 1) := by decide +kernel
theorem dX8_wipe_10 : decode cX8_wipe 10 = .ok (.aload_n 0, 1) := by decide +kernel
theorem dX8_wipe_11 : decode cX8_wipe 11 = .ok (.iload_n 1, 1) := by decide +kernel
theorem dX8_wipe_12 : decode cX8_wipe 12 = .ok (.invokevirtual 65, 3) := by decide +kernel
theorem dX8_wipe_15 : decode cX8_wipe 15 = .ok (.astore_n 2, 1) := by decide +kernel
theorem dX8_wipe_16 : decode cX8_wipe 16 = .ok (.aload_n 2, 1) := by decide +kernel
theorem dX8_wipe_17 : decode cX8_wipe 17 = .ok (.getfield 79, 3) := by decide +kernel
theorem dX8_wipe_20 : decode cX8_wipe 20 = .ok (.istore_n 3, 1) := by decide +kernel
theorem dX8_wipe_21 : decode cX8_wipe 21 = .ok (.aload_n 2, 1) := by decide +kernel
theorem dX8_wipe_22 : decode cX8_wipe 22 = .ok (.iconst 0, 1) := by decide +kernel
theorem dX8_wipe_23 : decode cX8_wipe 23 = .ok (.invokevirtual 82, 3) := by decide +kernel
theorem dX8_wipe_26 : decode cX8_wipe 26 = .ok (.iload_n 3, 1) := by decide +kernel
theorem dX8_wipe_27 : decode cX8_wipe 27 = .ok (.ireturn, 1) := by decide +kernel
theorem dX8_undo_0 : decode cX8_undo 0 = .ok (.iload_n 1, 1) := by decide +kernel
theorem dX8_undo_1 : decode cX8_undo 1 = .ok (.invokestatic 61, 3) := by decide +kernel
theorem dX8_undo_4 : decode cX8_undo 4 = .ok (.ifCond .eq 6, 3) := by decide +kernel
theorem dX8_undo_7 : decode cX8_undo 7 = .ok (.bipush (-2), 2) := by decide +kernel
theorem dX8_undo_9 : decode cX8_undo 9 = .ok (.ireturn, 1) := by decide +kernel
theorem dX8_undo_10 : decode cX8_undo 10 = .ok (.aload_n 0, 1) := by decide +kernel
theorem dX8_undo_11 : decode cX8_undo 11 = .ok (.iload_n 1, 1) := by decide +kernel
theorem dX8_undo_12 : decode cX8_undo 12 = .ok (.invokevirtual 65, 3) := by decide +kernel
theorem dX8_undo_15 : decode cX8_undo 15 = .ok (.astore_n 2, 1) := by decide +kernel
theorem dX8_undo_16 : decode cX8_undo 16 = .ok (.aload_n 2, 1) := by decide +kernel
theorem dX8_undo_17 : decode cX8_undo 17 = .ok (.getfield 79, 3) := by decide +kernel
theorem dX8_undo_20 : decode cX8_undo 20 = .ok (.ifCond .ne 6, 3) := by decide +kernel
theorem dX8_undo_23 : decode cX8_undo 23 = .ok (.bipush (-3), 2) := by decide +kernel
theorem dX8_undo_25 : decode cX8_undo 25 = .ok (.ireturn, 1) := by decide +kernel
theorem dX8_undo_26 : decode cX8_undo 26 = .ok (.aload_n 2, 1) := by decide +kernel
theorem dX8_undo_27 : decode cX8_undo 27 = .ok (.aload_n 2, 1) := by decide +kernel
theorem dX8_undo_28 : decode cX8_undo 28 = .ok (.getfield 79, 3) := by decide +kernel
theorem dX8_undo_31 : decode cX8_undo 31 = .ok (.iconst 1, 1) := by decide +kernel
theorem dX8_undo_32 : decode cX8_undo 32 = .ok (.isub, 1) := by decide +kernel
theorem dX8_undo_33 : decode cX8_undo 33 = .ok (.invokevirtual 82, 3) := by decide +kernel
theorem dX8_undo_36 : decode cX8_undo 36 = .ok (.aload_n 2, 1) := by decide +kernel
theorem dX8_undo_37 : decode cX8_undo 37 = .ok (.getfield 79, 3) := by decide +kernel
theorem dX8_undo_40 : decode cX8_undo 40 = .ok (.ireturn, 1) := by decide +kernel
theorem dX8_fault_0 : decode cX8_fault 0 = .ok (.iload_n 1, 1) := by decide +kernel
theorem dX8_fault_1 : decode cX8_fault 1 = .ok (.invokestatic 61, 3) := by decide +kernel
theorem dX8_fault_4 : decode cX8_fault 4 = .ok (.ifCond .eq 8, 3) := by decide +kernel
theorem dX8_fault_7 : decode cX8_fault 7 = .ok (.bipush (-2), 2) := by decide +kernel
theorem dX8_fault_9 : decode cX8_fault 9 = .ok (.goto 11, 3) := by decide +kernel
theorem dX8_fault_12 : decode cX8_fault 12 = .ok (.aload_n 0, 1) := by decide +kernel
theorem dX8_fault_13 : decode cX8_fault 13 = .ok (.iload_n 1, 1) := by decide +kernel
theorem dX8_fault_14 : decode cX8_fault 14 = .ok (.invokevirtual 65, 3) := by decide +kernel
theorem dX8_fault_17 : decode cX8_fault 17 = .ok (.invokevirtual 85, 3) := by decide +kernel
theorem dX8_fault_20 : decode cX8_fault 20 = .ok (.ireturn, 1) := by decide +kernel
theorem dX8_thing_0 : decode cX8_thing 0 = .ok (.aload_n 0, 1) := by decide +kernel
theorem dX8_thing_1 : decode cX8_thing 1 = .ok (.getfield 12, 3) := by decide +kernel
theorem dX8_thing_4 : decode cX8_thing 4 = .ok (.getfield 89, 3) := by decide +kernel
theorem dX8_thing_7 : decode cX8_thing 7 = .ok (.iload_n 1, 1) := by decide +kernel
theorem dX8_thing_8 : decode cX8_thing 8 = .ok (.iload_n 2, 1) := by decide +kernel
theorem dX8_thing_9 : decode cX8_thing 9 = .ok (.invokevirtual 93, 3) := by decide +kernel
theorem dX8_thing_12 : decode cX8_thing 12 = .ok (.ireturn, 1) := by decide +kernel
theorem dX8_person_0 : decode cX8_person 0 = .ok (.aload_n 0, 1) := by decide +kernel
theorem dX8_person_1 : decode cX8_person 1 = .ok (.getfield 12, 3) := by decide +kernel
theorem dX8_person_4 : decode cX8_person 4 = .ok (.getfield 97, 3) := by decide +kernel
theorem dX8_person_7 : decode cX8_person 7 = .ok (.iload_n 1, 1) := by decide +kernel
theorem dX8_person_8 : decode cX8_person 8 = .ok (.iload_n 2, 1) := by decide +kernel
theorem dX8_person_9 : decode cX8_person 9 = .ok (.invokevirtual 93, 3) := by decide +kernel
theorem dX8_person_12 : decode cX8_person 12 = .ok (.ireturn, 1) := by decide +kernel
theorem dX8_sit_0 : decode cX8_sit 0 = .ok (.iload_n 1, 1) := by decide +kernel
theorem dX8_sit_1 : decode cX8_sit 1 = .ok (.invokestatic 100, 3) := by decide +kernel
theorem dX8_sit_4 : decode cX8_sit 4 = .ok (.ifCond .ne 17, 3) := by decide +kernel
theorem dX8_sit_7 : decode cX8_sit 7 = .ok (.iload_n 2, 1) := by decide +kernel
theorem dX8_sit_8 : decode cX8_sit 8 = .ok (.invokestatic 103, 3) := by decide +kernel
theorem dX8_sit_11 : decode cX8_sit 11 = .ok (.ifCond .ne 10, 3) := by decide +kernel
theorem dX8_sit_14 : decode cX8_sit 14 = .ok (.iload_n 3, 1) := by decide +kernel
theorem dX8_sit_15 : decode cX8_sit 15 = .ok (.invokestatic 106, 3) := by decide +kernel
theorem dX8_sit_18 : decode cX8_sit 18 = .ok (.ifCond .eq 6, 3) := by decide +kernel
theorem dX8_sit_21 : decode cX8_sit 21 = .ok (.bipush (-2), 2) := by decide +kernel
theorem dX8_sit_23 : decode cX8_sit 23 = .ok (.ireturn, 1) := by decide +kernel
theorem dX8_sit_24 : decode cX8_sit 24 = .ok (.aload_n 0, 1) := by decide +kernel
theorem dX8_sit_25 : decode cX8_sit 25 = .ok (.getfield 12, 3) := by decide +kernel
theorem dX8_sit_28 : decode cX8_sit 28 = .ok (.getfield 109, 3) := by decide +kernel
theorem dX8_sit_31 : decode cX8_sit 31 = .ok (.invokevirtual 112, 3) := by decide +kernel
theorem dX8_sit_34 : decode cX8_sit 34 = .ok (.ifCond .eq 6, 3) := by decide +kernel
theorem dX8_sit_37 : decode cX8_sit 37 = .ok (.bipush (-4), 2) := by decide +kernel
theorem dX8_sit_39 : decode cX8_sit 39 = .ok (.ireturn, 1) := by decide +kernel
theorem dX8_sit_40 : decode cX8_sit 40 = .ok (.aload_n 0, 1) := by decide +kernel
theorem dX8_sit_41 : decode cX8_sit 41 = .ok (.getfield 12, 3) := by decide +kernel
theorem dX8_sit_44 : decode cX8_sit 44 = .ok (.getfield 109, 3) := by decide +kernel
theorem dX8_sit_47 : decode cX8_sit 47 = .ok (.iload_n 1, 1) := by decide +kernel
theorem dX8_sit_48 : decode cX8_sit 48 = .ok (.iload_n 3, 1) := by decide +kernel
theorem dX8_sit_49 : decode cX8_sit 49 = .ok (.iload_n 2, 1) := by decide +kernel
theorem dX8_sit_50 : decode cX8_sit 50 = .ok (.invokevirtual 113, 3) := by decide +kernel
theorem dX8_sit_53 : decode cX8_sit 53 = .ok (.aload_n 0, 1) := by decide +kernel
theorem dX8_sit_54 : decode cX8_sit 54 = .ok (.getfield 12, 3) := by decide +kernel
theorem dX8_sit_57 : decode cX8_sit 57 = .ok (.getfield 109, 3) := by decide +kernel
theorem dX8_sit_60 : decode cX8_sit 60 = .ok (.getfield 117, 3) := by decide +kernel
theorem dX8_sit_63 : decode cX8_sit 63 = .ok (.ireturn, 1) := by decide +kernel
theorem dX8_window_0 : decode cX8_window 0 = .ok (.iload_n 1, 1) := by decide +kernel
theorem dX8_window_1 : decode cX8_window 1 = .ok (.invokestatic 100, 3) := by decide +kernel
theorem dX8_window_4 : decode cX8_window 4 = .ok (.ifCond .ne 10, 3) := by decide +kernel
theorem dX8_window_7 : decode cX8_window 7 = .ok (.iload_n 2, 1) := by decide +kernel
theorem dX8_window_8 : decode cX8_window 8 = .ok (.invokestatic 106, 3) := by decide +kernel
theorem dX8_window_11 : decode cX8_window 11 = .ok (.ifCond .eq 6, 3) := by decide +kernel
theorem dX8_window_14 : decode cX8_window 14 = .ok (.bipush (-2), 2) := by decide +kernel
theorem dX8_window_16 : decode cX8_window 16 = .ok (.ireturn, 1) := by decide +kernel
theorem dX8_window_17 : decode cX8_window 17 = .ok (.aload_n 0, 1) := by decide +kernel
theorem dX8_window_18 : decode cX8_window 18 = .ok (.getfield 12, 3) := by decide +kernel
theorem dX8_window_21 : decode cX8_window 21 = .ok (.getfield 120, 3) := by decide +kernel
theorem dX8_window_24 : decode cX8_window 24 = .ok (.invokevirtual 112, 3) := by decide +kernel
theorem dX8_window_27 : decode cX8_window 27 = .ok (.ifCond .eq 6, 3) := by decide +kernel
theorem dX8_window_30 : decode cX8_window 30 = .ok (.bipush (-4), 2) := by decide +kernel
theorem dX8_window_32 : decode cX8_window 32 = .ok (.ireturn, 1) := by decide +kernel
theorem dX8_window_33 : decode cX8_window 33 = .ok (.aload_n 0, 1) := by decide +kernel
theorem dX8_window_34 : decode cX8_window 34 = .ok (.getfield 12, 3) := by decide +kernel
theorem dX8_window_37 : decode cX8_window 37 = .ok (.getfield 120, 3) := by decide +kernel
theorem dX8_window_40 : decode cX8_window 40 = .ok (.iload_n 1, 1) := by decide +kernel
theorem dX8_window_41 : decode cX8_window 41 = .ok (.iload_n 2, 1) := by decide +kernel
theorem dX8_window_42 : decode cX8_window 42 = .ok (.iconst 0, 1) := by decide +kernel
theorem dX8_window_43 : decode cX8_window 43 = .ok (.invokevirtual 113, 3) := by decide +kernel
theorem dX8_window_46 : decode cX8_window 46 = .ok (.aload_n 0, 1) := by decide +kernel
theorem dX8_window_47 : decode cX8_window 47 = .ok (.getfield 12, 3) := by decide +kernel
theorem dX8_window_50 : decode cX8_window 50 = .ok (.getfield 120, 3) := by decide +kernel
theorem dX8_window_53 : decode cX8_window 53 = .ok (.getfield 117, 3) := by decide +kernel
theorem dX8_window_56 : decode cX8_window 56 = .ok (.ireturn, 1) := by decide +kernel
theorem dX8_back_0 : decode cX8_back 0 = .ok (.iload_n 1, 1) := by decide +kernel
theorem dX8_back_1 : decode cX8_back 1 = .ok (.ifCond .eq 11, 3) := by decide +kernel
theorem dX8_back_4 : decode cX8_back 4 = .ok (.iload_n 1, 1) := by decide +kernel
theorem dX8_back_5 : decode cX8_back 5 = .ok (.iconst 1, 1) := by decide +kernel
theorem dX8_back_6 : decode cX8_back 6 = .ok (.if_icmp .eq 6, 3) := by decide +kernel
theorem dX8_back_9 : decode cX8_back 9 = .ok (.bipush (-2), 2) := by decide +kernel
theorem dX8_back_11 : decode cX8_back 11 = .ok (.ireturn, 1) := by decide +kernel
theorem dX8_back_12 : decode cX8_back 12 = .ok (.iload_n 1, 1) := by decide +kernel
theorem dX8_back_13 : decode cX8_back 13 = .ok (.ifCond .ne 13, 3) := by decide +kernel
theorem dX8_back_16 : decode cX8_back 16 = .ok (.aload_n 0, 1) := by decide +kernel
theorem dX8_back_17 : decode cX8_back 17 = .ok (.getfield 12, 3) := by decide +kernel
theorem dX8_back_20 : decode cX8_back 20 = .ok (.getfield 109, 3) := by decide +kernel
theorem dX8_back_23 : decode cX8_back 23 = .ok (.goto 10, 3) := by decide +kernel
theorem dX8_back_26 : decode cX8_back 26 = .ok (.aload_n 0, 1) := by decide +kernel
theorem dX8_back_27 : decode cX8_back 27 = .ok (.getfield 12, 3) := by decide +kernel
theorem dX8_back_30 : decode cX8_back 30 = .ok (.getfield 120, 3) := by decide +kernel
theorem dX8_back_33 : decode cX8_back 33 = .ok (.astore_n 2, 1) := by decide +kernel
theorem dX8_back_34 : decode cX8_back 34 = .ok (.aload_n 2, 1) := by decide +kernel
theorem dX8_back_35 : decode cX8_back 35 = .ok (.getfield 117, 3) := by decide +kernel
theorem dX8_back_38 : decode cX8_back 38 = .ok (.ifCond .ne 6, 3) := by decide +kernel
theorem dX8_back_41 : decode cX8_back 41 = .ok (.bipush (-3), 2) := by decide +kernel
theorem dX8_back_43 : decode cX8_back 43 = .ok (.ireturn, 1) := by decide +kernel
theorem dX8_back_44 : decode cX8_back 44 = .ok (.aload_n 2, 1) := by decide +kernel
theorem dX8_back_45 : decode cX8_back 45 = .ok (.invokevirtual 123, 3) := by decide +kernel
theorem dX8_back_48 : decode cX8_back 48 = .ok (.aload_n 2, 1) := by decide +kernel
theorem dX8_back_49 : decode cX8_back 49 = .ok (.getfield 117, 3) := by decide +kernel
theorem dX8_back_52 : decode cX8_back 52 = .ok (.ireturn, 1) := by decide +kernel
theorem dX8_read_0 : decode cX8_read 0 = .ok (.iload_n 1, 1) := by decide +kernel
theorem dX8_read_1 : decode cX8_read 1 = .ok (.invokestatic 126, 3) := by decide +kernel
theorem dX8_read_4 : decode cX8_read 4 = .ok (.ifCond .eq 6, 3) := by decide +kernel
theorem dX8_read_7 : decode cX8_read 7 = .ok (.bipush (-2), 2) := by decide +kernel
theorem dX8_read_9 : decode cX8_read 9 = .ok (.ireturn, 1) := by decide +kernel
theorem dX8_read_10 : decode cX8_read 10 = .ok (.aload_n 0, 1) := by decide +kernel
theorem dX8_read_11 : decode cX8_read 11 = .ok (.getfield 53, 3) := by decide +kernel
theorem dX8_read_14 : decode cX8_read 14 = .ok (.iload_n 1, 1) := by decide +kernel
theorem dX8_read_15 : decode cX8_read 15 = .ok (.aaload, 1) := by decide +kernel
theorem dX8_read_16 : decode cX8_read 16 = .ok (.astore_n 2, 1) := by decide +kernel
theorem dX8_read_17 : decode cX8_read 17 = .ok (.aload_n 2, 1) := by decide +kernel
theorem dX8_read_18 : decode cX8_read 18 = .ok (.invokevirtual 129, 3) := by decide +kernel
theorem dX8_read_21 : decode cX8_read 21 = .ok (.ifCond .eq 9, 3) := by decide +kernel
theorem dX8_read_24 : decode cX8_read 24 = .ok (.aload_n 0, 1) := by decide +kernel
theorem dX8_read_25 : decode cX8_read 25 = .ok (.iconst 1, 1) := by decide +kernel
theorem dX8_read_26 : decode cX8_read 26 = .ok (.invokevirtual 132, 3) := by decide +kernel
theorem dX8_read_29 : decode cX8_read 29 = .ok (.ireturn, 1) := by decide +kernel
theorem dX8_read_30 : decode cX8_read 30 = .ok (.iconst 0, 1) := by decide +kernel
theorem dX8_read_31 : decode cX8_read 31 = .ok (.istore_n 3, 1) := by decide +kernel
theorem dX8_read_32 : decode cX8_read 32 = .ok (.iconst 0, 1) := by decide +kernel
theorem dX8_read_33 : decode cX8_read 33 = .ok (.istore 4, 2) := by decide +kernel
theorem dX8_read_35 : decode cX8_read 35 = .ok (.iload 4, 2) := by decide +kernel
theorem dX8_read_37 : decode cX8_read 37 = .ok (.iconst 2, 1) := by decide +kernel
theorem dX8_read_38 : decode cX8_read 38 = .ok (.iadd, 1) := by decide +kernel
theorem dX8_read_39 : decode cX8_read 39 = .ok (.aload_n 2, 1) := by decide +kernel
theorem dX8_read_40 : decode cX8_read 40 = .ok (.getfield 136, 3) := by decide +kernel
theorem dX8_read_43 : decode cX8_read 43 = .ok (.if_icmp .ge 44, 3) := by decide +kernel
theorem dX8_read_46 : decode cX8_read 46 = .ok (.aload_n 0, 1) := by decide +kernel
theorem dX8_read_47 : decode cX8_read 47 = .ok (.aload_n 2, 1) := by decide +kernel
theorem dX8_read_48 : decode cX8_read 48 = .ok (.iload 4, 2) := by decide +kernel
theorem dX8_read_50 : decode cX8_read 50 = .ok (.invokevirtual 137, 3) := by decide +kernel
theorem dX8_read_53 : decode cX8_read 53 = .ok (.aload_n 2, 1) := by decide +kernel
theorem dX8_read_54 : decode cX8_read 54 = .ok (.iload 4, 2) := by decide +kernel
theorem dX8_read_56 : decode cX8_read 56 = .ok (.iconst 1, 1) := by decide +kernel
theorem dX8_read_57 : decode cX8_read 57 = .ok (.iadd, 1) := by decide +kernel
theorem dX8_read_58 : decode cX8_read 58 = .ok (.invokevirtual 137, 3) := by decide +kernel
theorem dX8_read_61 : decode cX8_read 61 = .ok (.aload_n 2, 1) := by decide +kernel
theorem dX8_read_62 : decode cX8_read 62 = .ok (.iload 4, 2) := by decide +kernel
theorem dX8_read_64 : decode cX8_read 64 = .ok (.iconst 2, 1) := by decide +kernel
theorem dX8_read_65 : decode cX8_read 65 = .ok (.iadd, 1) := by decide +kernel
theorem dX8_read_66 : decode cX8_read 66 = .ok (.invokevirtual 137, 3) := by decide +kernel
theorem dX8_read_69 : decode cX8_read 69 = .ok (.invokevirtual 140, 3) := by decide +kernel
theorem dX8_read_72 : decode cX8_read 72 = .ok (.ifCond .ge 6, 3) := by decide +kernel
theorem dX8_read_75 : decode cX8_read 75 = .ok (.goto 12, 3) := by decide +kernel
theorem dX8_read_78 : decode cX8_read 78 = .ok (.iinc 3 1, 3) := by decide +kernel
theorem dX8_read_81 : decode cX8_read 81 = .ok (.iinc 4 3, 3) := by decide +kernel
theorem dX8_read_84 : decode cX8_read 84 = .ok (.goto (-49), 3) := by decide +kernel
theorem dX8_read_87 : decode cX8_read 87 = .ok (.iload_n 3, 1) := by decide +kernel
theorem dX8_read_88 : decode cX8_read 88 = .ok (.ireturn, 1) := by decide +kernel
theorem dX8_layers_0 : decode cX8_layers 0 = .ok (.iload_n 1, 1) := by decide +kernel
theorem dX8_layers_1 : decode cX8_layers 1 = .ok (.invokestatic 100, 3) := by decide +kernel
theorem dX8_layers_4 : decode cX8_layers 4 = .ok (.ifCond .ne 24, 3) := by decide +kernel
theorem dX8_layers_7 : decode cX8_layers 7 = .ok (.aload_n 0, 1) := by decide +kernel
theorem dX8_layers_8 : decode cX8_layers 8 = .ok (.getfield 12, 3) := by decide +kernel
theorem dX8_layers_11 : decode cX8_layers 11 = .ok (.iload_n 2, 1) := by decide +kernel
theorem dX8_layers_12 : decode cX8_layers 12 = .ok (.invokevirtual 144, 3) := by decide +kernel
theorem dX8_layers_15 : decode cX8_layers 15 = .ok (.ifCond .ne 13, 3) := by decide +kernel
theorem dX8_layers_18 : decode cX8_layers 18 = .ok (.iload_n 3, 1) := by decide +kernel
theorem dX8_layers_19 : decode cX8_layers 19 = .ok (.iconst (-1), 1) := by decide +kernel
theorem dX8_layers_20 : decode cX8_layers 20 = .ok (.if_icmp .lt 8, 3) := by decide +kernel
theorem dX8_layers_23 : decode cX8_layers 23 = .ok (.iload_n 3, 1) := by decide +kernel
theorem dX8_layers_24 : decode cX8_layers 24 = .ok (.iconst 5, 1) := by decide +kernel
theorem dX8_layers_25 : decode cX8_layers 25 = .ok (.if_icmp .lt 6, 3) := by decide +kernel
theorem dX8_layers_28 : decode cX8_layers 28 = .ok (.bipush (-2), 2) := by decide +kernel
theorem dX8_layers_30 : decode cX8_layers 30 = .ok (.ireturn, 1) := by decide +kernel
theorem dX8_layers_31 : decode cX8_layers 31 = .ok (.aload_n 0, 1) := by decide +kernel
theorem dX8_layers_32 : decode cX8_layers 32 = .ok (.getfield 12, 3) := by decide +kernel
theorem dX8_layers_35 : decode cX8_layers 35 = .ok (.iload_n 2, 1) := by decide +kernel
theorem dX8_layers_36 : decode cX8_layers 36 = .ok (.iload_n 1, 1) := by decide +kernel
theorem dX8_layers_37 : decode cX8_layers 37 = .ok (.iconst 0, 1) := by decide +kernel
theorem dX8_layers_38 : decode cX8_layers 38 = .ok (.invokevirtual 147, 3) := by decide +kernel
theorem dX8_layers_41 : decode cX8_layers 41 = .ok (.pop, 1) := by decide +kernel
theorem dX8_layers_42 : decode cX8_layers 42 = .ok (.iload_n 3, 1) := by decide +kernel
theorem dX8_layers_43 : decode cX8_layers 43 = .ok (.iconst (-1), 1) := by decide +kernel
theorem dX8_layers_44 : decode cX8_layers 44 = .ok (.if_icmp .ne 16, 3) := by decide +kernel
theorem dX8_layers_47 : decode cX8_layers 47 = .ok (.aload_n 0, 1) := by decide +kernel
theorem dX8_layers_48 : decode cX8_layers 48 = .ok (.getfield 12, 3) := by decide +kernel
theorem dX8_layers_51 : decode cX8_layers 51 = .ok (.getfield 150, 3) := by decide +kernel
theorem dX8_layers_54 : decode cX8_layers 54 = .ok (.getfield 154, 3) := by decide +kernel
theorem dX8_layers_57 : decode cX8_layers 57 = .ok (.goto 14, 3) := by decide +kernel
theorem dX8_layers_60 : decode cX8_layers 60 = .ok (.aload_n 0, 1) := by decide +kernel
theorem dX8_layers_61 : decode cX8_layers 61 = .ok (.getfield 12, 3) := by decide +kernel
theorem dX8_layers_64 : decode cX8_layers 64 = .ok (.getfield 150, 3) := by decide +kernel
theorem dX8_layers_67 : decode cX8_layers 67 = .ok (.iload_n 3, 1) := by decide +kernel
theorem dX8_layers_68 : decode cX8_layers 68 = .ok (.invokevirtual 157, 3) := by decide +kernel
theorem dX8_layers_71 : decode cX8_layers 71 = .ok (.ireturn, 1) := by decide +kernel
theorem dX8_strong_0 : decode cX8_strong 0 = .ok (.iload_n 1, 1) := by decide +kernel
theorem dX8_strong_1 : decode cX8_strong 1 = .ok (.invokestatic 100, 3) := by decide +kernel
theorem dX8_strong_4 : decode cX8_strong 4 = .ok (.ifCond .ne 23, 3) := by decide +kernel
theorem dX8_strong_7 : decode cX8_strong 7 = .ok (.aload_n 0, 1) := by decide +kernel
theorem dX8_strong_8 : decode cX8_strong 8 = .ok (.getfield 12, 3) := by decide +kernel
theorem dX8_strong_11 : decode cX8_strong 11 = .ok (.iload_n 2, 1) := by decide +kernel
theorem dX8_strong_12 : decode cX8_strong 12 = .ok (.invokevirtual 144, 3) := by decide +kernel
theorem dX8_strong_15 : decode cX8_strong 15 = .ok (.ifCond .ne 12, 3) := by decide +kernel
theorem dX8_strong_18 : decode cX8_strong 18 = .ok (.iload_n 3, 1) := by decide +kernel
theorem dX8_strong_19 : decode cX8_strong 19 = .ok (.ifCond .lt 8, 3) := by decide +kernel
theorem dX8_strong_22 : decode cX8_strong 22 = .ok (.iload_n 3, 1) := by decide +kernel
theorem dX8_strong_23 : decode cX8_strong 23 = .ok (.iconst 5, 1) := by decide +kernel
theorem dX8_strong_24 : decode cX8_strong 24 = .ok (.if_icmp .lt 6, 3) := by decide +kernel
theorem dX8_strong_27 : decode cX8_strong 27 = .ok (.bipush (-2), 2) := by decide +kernel
theorem dX8_strong_29 : decode cX8_strong 29 = .ok (.ireturn, 1) := by decide +kernel
theorem dX8_strong_30 : decode cX8_strong 30 = .ok (.aload_n 0, 1) := by decide +kernel
theorem dX8_strong_31 : decode cX8_strong 31 = .ok (.getfield 12, 3) := by decide +kernel
theorem dX8_strong_34 : decode cX8_strong 34 = .ok (.iload_n 2, 1) := by decide +kernel
theorem dX8_strong_35 : decode cX8_strong 35 = .ok (.iload_n 1, 1) := by decide +kernel
theorem dX8_strong_36 : decode cX8_strong 36 = .ok (.iconst 0, 1) := by decide +kernel
theorem dX8_strong_37 : decode cX8_strong 37 = .ok (.invokevirtual 147, 3) := by decide +kernel
theorem dX8_strong_40 : decode cX8_strong 40 = .ok (.pop, 1) := by decide +kernel
theorem dX8_strong_41 : decode cX8_strong 41 = .ok (.aload_n 0, 1) := by decide +kernel
theorem dX8_strong_42 : decode cX8_strong 42 = .ok (.getfield 12, 3) := by decide +kernel
theorem dX8_strong_45 : decode cX8_strong 45 = .ok (.getfield 150, 3) := by decide +kernel
theorem dX8_strong_48 : decode cX8_strong 48 = .ok (.iload_n 3, 1) := by decide +kernel
theorem dX8_strong_49 : decode cX8_strong 49 = .ok (.invokevirtual 160, 3) := by decide +kernel
theorem dX8_strong_52 : decode cX8_strong 52 = .ok (.ireturn, 1) := by decide +kernel
theorem dX8_tells_0 : decode cX8_tells 0 = .ok (.iload_n 1, 1) := by decide +kernel
theorem dX8_tells_1 : decode cX8_tells 1 = .ok (.invokestatic 100, 3) := by decide +kernel
theorem dX8_tells_4 : decode cX8_tells 4 = .ok (.ifCond .ne 19, 3) := by decide +kernel
theorem dX8_tells_7 : decode cX8_tells 7 = .ok (.iload_n 2, 1) := by decide +kernel
theorem dX8_tells_8 : decode cX8_tells 8 = .ok (.iconst (-1), 1) := by decide +kernel
theorem dX8_tells_9 : decode cX8_tells 9 = .ok (.if_icmp .eq 17, 3) := by decide +kernel
theorem dX8_tells_12 : decode cX8_tells 12 = .ok (.aload_n 0, 1) := by decide +kernel
theorem dX8_tells_13 : decode cX8_tells 13 = .ok (.getfield 12, 3) := by decide +kernel
theorem dX8_tells_16 : decode cX8_tells 16 = .ok (.iload_n 2, 1) := by decide +kernel
theorem dX8_tells_17 : decode cX8_tells 17 = .ok (.invokevirtual 144, 3) := by decide +kernel
theorem dX8_tells_20 : decode cX8_tells 20 = .ok (.ifCond .eq 6, 3) := by decide +kernel
theorem dX8_tells_23 : decode cX8_tells 23 = .ok (.bipush (-2), 2) := by decide +kernel
theorem dX8_tells_25 : decode cX8_tells 25 = .ok (.ireturn, 1) := by decide +kernel
theorem dX8_tells_26 : decode cX8_tells 26 = .ok (.iload_n 2, 1) := by decide +kernel
theorem dX8_tells_27 : decode cX8_tells 27 = .ok (.iconst (-1), 1) := by decide +kernel
theorem dX8_tells_28 : decode cX8_tells 28 = .ok (.if_icmp .ne 16, 3) := by decide +kernel
theorem dX8_tells_31 : decode cX8_tells 31 = .ok (.aload_n 0, 1) := by decide +kernel
theorem dX8_tells_32 : decode cX8_tells 32 = .ok (.getfield 12, 3) := by decide +kernel
theorem dX8_tells_35 : decode cX8_tells 35 = .ok (.iload_n 1, 1) := by decide +kernel
theorem dX8_tells_36 : decode cX8_tells 36 = .ok (.bipush 63, 2) := by decide +kernel
theorem dX8_tells_38 : decode cX8_tells 38 = .ok (.invokevirtual 163, 3) := by decide +kernel
theorem dX8_tells_41 : decode cX8_tells 41 = .ok (.goto 13, 3) := by decide +kernel
theorem dX8_tells_44 : decode cX8_tells 44 = .ok (.aload_n 0, 1) := by decide +kernel
theorem dX8_tells_45 : decode cX8_tells 45 = .ok (.getfield 12, 3) := by decide +kernel
theorem dX8_tells_48 : decode cX8_tells 48 = .ok (.iload_n 2, 1) := by decide +kernel
theorem dX8_tells_49 : decode cX8_tells 49 = .ok (.iload_n 1, 1) := by decide +kernel
theorem dX8_tells_50 : decode cX8_tells 50 = .ok (.iconst 0, 1) := by decide +kernel
theorem dX8_tells_51 : decode cX8_tells 51 = .ok (.invokevirtual 147, 3) := by decide +kernel
theorem dX8_tells_54 : decode cX8_tells 54 = .ok (.ireturn, 1) := by decide +kernel
theorem dX8_nowhere_0 : decode cX8_nowhere 0 = .ok (.iload_n 1, 1) := by decide +kernel
theorem dX8_nowhere_1 : decode cX8_nowhere 1 = .ok (.invokestatic 100, 3) := by decide +kernel
theorem dX8_nowhere_4 : decode cX8_nowhere 4 = .ok (.ifCond .eq 6, 3) := by decide +kernel
theorem dX8_nowhere_7 : decode cX8_nowhere 7 = .ok (.bipush (-2), 2) := by decide +kernel
theorem dX8_nowhere_9 : decode cX8_nowhere 9 = .ok (.ireturn, 1) := by decide +kernel
theorem dX8_nowhere_10 : decode cX8_nowhere 10 = .ok (.aload_n 0, 1) := by decide +kernel
theorem dX8_nowhere_11 : decode cX8_nowhere 11 = .ok (.getfield 12, 3) := by decide +kernel
theorem dX8_nowhere_14 : decode cX8_nowhere 14 = .ok (.iload_n 1, 1) := by decide +kernel
theorem dX8_nowhere_15 : decode cX8_nowhere 15 = .ok (.bipush 63, 2) := by decide +kernel
theorem dX8_nowhere_17 : decode cX8_nowhere 17 = .ok (.invokevirtual 163, 3) := by decide +kernel
theorem dX8_nowhere_20 : decode cX8_nowhere 20 = .ok (.istore_n 2, 1) := by decide +kernel
theorem dX8_nowhere_21 : decode cX8_nowhere 21 = .ok (.iconst 0, 1) := by decide +kernel
theorem dX8_nowhere_22 : decode cX8_nowhere 22 = .ok (.istore_n 3, 1) := by decide +kernel
theorem dX8_nowhere_23 : decode cX8_nowhere 23 = .ok (.iconst 0, 1) := by decide +kernel
theorem dX8_nowhere_24 : decode cX8_nowhere 24 = .ok (.istore 4, 2) := by decide +kernel
theorem dX8_nowhere_26 : decode cX8_nowhere 26 = .ok (.iload 4, 2) := by decide +kernel
theorem dX8_nowhere_28 : decode cX8_nowhere 28 = .ok (.aload_n 0, 1) := by decide +kernel
theorem dX8_nowhere_29 : decode cX8_nowhere 29 = .ok (.getfield 12, 3) := by decide +kernel
theorem dX8_nowhere_32 : decode cX8_nowhere 32 = .ok (.getfield 109, 3) := by decide +kernel
theorem dX8_nowhere_35 : decode cX8_nowhere 35 = .ok (.getfield 117, 3) := by decide +kernel
theorem dX8_nowhere_38 : decode cX8_nowhere 38 = .ok (.if_icmp .ge 106, 3) := by decide +kernel
theorem dX8_nowhere_41 : decode cX8_nowhere 41 = .ok (.aload_n 0, 1) := by decide +kernel
theorem dX8_nowhere_42 : decode cX8_nowhere 42 = .ok (.getfield 12, 3) := by decide +kernel
theorem dX8_nowhere_45 : decode cX8_nowhere 45 = .ok (.getfield 109, 3) := by decide +kernel
theorem dX8_nowhere_48 : decode cX8_nowhere 48 = .ok (.getfield 166, 3) := by decide +kernel
theorem dX8_nowhere_51 : decode cX8_nowhere 51 = .ok (.iload 4, 2) := by decide +kernel
theorem dX8_nowhere_53 : decode cX8_nowhere 53 = .ok (.iaload, 1) := by decide +kernel
theorem dX8_nowhere_54 : decode cX8_nowhere 54 = .ok (.istore 5, 2) := by decide +kernel
theorem dX8_nowhere_56 : decode cX8_nowhere 56 = .ok (.aload_n 0, 1) := by decide +kernel
theorem dX8_nowhere_57 : decode cX8_nowhere 57 = .ok (.getfield 12, 3) := by decide +kernel
theorem dX8_nowhere_60 : decode cX8_nowhere 60 = .ok (.getfield 109, 3) := by decide +kernel
theorem dX8_nowhere_63 : decode cX8_nowhere 63 = .ok (.getfield 170, 3) := by decide +kernel
theorem dX8_nowhere_66 : decode cX8_nowhere 66 = .ok (.iload 4, 2) := by decide +kernel
theorem dX8_nowhere_68 : decode cX8_nowhere 68 = .ok (.iaload, 1) := by decide +kernel
theorem dX8_nowhere_69 : decode cX8_nowhere 69 = .ok (.iload_n 1, 1) := by decide +kernel
theorem dX8_nowhere_70 : decode cX8_nowhere 70 = .ok (.if_icmp .gt 68, 3) := by decide +kernel
theorem dX8_nowhere_73 : decode cX8_nowhere 73 = .ok (.aload_n 0, 1) := by decide +kernel
theorem dX8_nowhere_74 : decode cX8_nowhere 74 = .ok (.getfield 12, 3) := by decide +kernel
theorem dX8_nowhere_77 : decode cX8_nowhere 77 = .ok (.aload_n 0, 1) := by decide +kernel
theorem dX8_nowhere_78 : decode cX8_nowhere 78 = .ok (.getfield 12, 3) := by decide +kernel
theorem dX8_nowhere_81 : decode cX8_nowhere 81 = .ok (.getfield 109, 3) := by decide +kernel
theorem dX8_nowhere_84 : decode cX8_nowhere 84 = .ok (.getfield 173, 3) := by decide +kernel
theorem dX8_nowhere_87 : decode cX8_nowhere 87 = .ok (.iload 4, 2) := by decide +kernel
theorem dX8_nowhere_89 : decode cX8_nowhere 89 = .ok (.iaload, 1) := by decide +kernel
theorem dX8_nowhere_90 : decode cX8_nowhere 90 = .ok (.invokevirtual 144, 3) := by decide +kernel
theorem dX8_nowhere_93 : decode cX8_nowhere 93 = .ok (.ifCond .ne 45, 3) := by decide +kernel
theorem dX8_nowhere_96 : decode cX8_nowhere 96 = .ok (.aload_n 0, 1) := by decide +kernel
theorem dX8_nowhere_97 : decode cX8_nowhere 97 = .ok (.getfield 12, 3) := by decide +kernel
theorem dX8_nowhere_100 : decode cX8_nowhere 100 = .ok (.iload 5, 2) := by decide +kernel
theorem dX8_nowhere_102 : decode cX8_nowhere 102 = .ok (.invokevirtual 175, 3) := by decide +kernel
theorem dX8_nowhere_105 : decode cX8_nowhere 105 = .ok (.ifCond .eq 6, 3) := by decide +kernel
theorem dX8_nowhere_108 : decode cX8_nowhere 108 = .ok (.goto 30, 3) := by decide +kernel
theorem dX8_nowhere_111 : decode cX8_nowhere 111 = .ok (.iload_n 2, 1) := by decide +kernel
theorem dX8_nowhere_112 : decode cX8_nowhere 112 = .ok (.aload_n 0, 1) := by decide +kernel
theorem dX8_nowhere_113 : decode cX8_nowhere 113 = .ok (.getfield 12, 3) := by decide +kernel
theorem dX8_nowhere_116 : decode cX8_nowhere 116 = .ok (.getfield 97, 3) := by decide +kernel
theorem dX8_nowhere_119 : decode cX8_nowhere 119 = .ok (.getfield 178, 3) := by decide +kernel
theorem dX8_nowhere_122 : decode cX8_nowhere 122 = .ok (.iload 5, 2) := by decide +kernel
theorem dX8_nowhere_124 : decode cX8_nowhere 124 = .ok (.iaload, 1) := by decide +kernel
theorem dX8_nowhere_125 : decode cX8_nowhere 125 = .ok (.invokestatic 181, 3) := by decide +kernel
theorem dX8_nowhere_128 : decode cX8_nowhere 128 = .ok (.ifCond .ne 10, 3) := by decide +kernel
theorem dX8_nowhere_131 : decode cX8_nowhere 131 = .ok (.iload_n 3, 1) := by decide +kernel
theorem dX8_nowhere_132 : decode cX8_nowhere 132 = .ok (.iconst 1, 1) := by decide +kernel
theorem dX8_nowhere_133 : decode cX8_nowhere 133 = .ok (.iload 5, 2) := by decide +kernel
theorem dX8_nowhere_135 : decode cX8_nowhere 135 = .ok (.ishl, 1) := by decide +kernel
theorem dX8_nowhere_136 : decode cX8_nowhere 136 = .ok (.ior, 1) := by decide +kernel
theorem dX8_nowhere_137 : decode cX8_nowhere 137 = .ok (.istore_n 3, 1) := by decide +kernel
theorem dX8_nowhere_138 : decode cX8_nowhere 138 = .ok (.iinc 4 1, 3) := by decide +kernel
theorem dX8_nowhere_141 : decode cX8_nowhere 141 = .ok (.goto (-115), 3) := by decide +kernel
theorem dX8_nowhere_144 : decode cX8_nowhere 144 = .ok (.iload_n 3, 1) := by decide +kernel
theorem dX8_nowhere_145 : decode cX8_nowhere 145 = .ok (.ireturn, 1) := by decide +kernel
theorem dX8_last_0 : decode cX8_last 0 = .ok (.aload_n 0, 1) := by decide +kernel
theorem dX8_last_1 : decode cX8_last 1 = .ok (.getfield 12, 3) := by decide +kernel
theorem dX8_last_4 : decode cX8_last 4 = .ok (.iload_n 1, 1) := by decide +kernel
theorem dX8_last_5 : decode cX8_last 5 = .ok (.invokevirtual 144, 3) := by decide +kernel
theorem dX8_last_8 : decode cX8_last 8 = .ok (.ifCond .ne 14, 3) := by decide +kernel
theorem dX8_last_11 : decode cX8_last 11 = .ok (.aload_n 0, 1) := by decide +kernel
theorem dX8_last_12 : decode cX8_last 12 = .ok (.getfield 12, 3) := by decide +kernel
theorem dX8_last_15 : decode cX8_last 15 = .ok (.iload_n 2, 1) := by decide +kernel
theorem dX8_last_16 : decode cX8_last 16 = .ok (.invokevirtual 175, 3) := by decide +kernel
theorem dX8_last_19 : decode cX8_last 19 = .ok (.ifCond .eq 6, 3) := by decide +kernel
theorem dX8_last_22 : decode cX8_last 22 = .ok (.bipush (-2), 2) := by decide +kernel
theorem dX8_last_24 : decode cX8_last 24 = .ok (.ireturn, 1) := by decide +kernel
theorem dX8_last_25 : decode cX8_last 25 = .ok (.bipush 23, 2) := by decide +kernel
theorem dX8_last_27 : decode cX8_last 27 = .ok (.istore_n 3, 1) := by decide +kernel
theorem dX8_last_28 : decode cX8_last 28 = .ok (.iload_n 3, 1) := by decide +kernel
theorem dX8_last_29 : decode cX8_last 29 = .ok (.ifCond .lt 28, 3) := by decide +kernel
theorem dX8_last_32 : decode cX8_last 32 = .ok (.aload_n 0, 1) := by decide +kernel
theorem dX8_last_33 : decode cX8_last 33 = .ok (.getfield 12, 3) := by decide +kernel
theorem dX8_last_36 : decode cX8_last 36 = .ok (.iload_n 1, 1) := by decide +kernel
theorem dX8_last_37 : decode cX8_last 37 = .ok (.iload_n 3, 1) := by decide +kernel
theorem dX8_last_38 : decode cX8_last 38 = .ok (.iconst 0, 1) := by decide +kernel
theorem dX8_last_39 : decode cX8_last 39 = .ok (.invokevirtual 147, 3) := by decide +kernel
theorem dX8_last_42 : decode cX8_last 42 = .ok (.iload_n 2, 1) := by decide +kernel
theorem dX8_last_43 : decode cX8_last 43 = .ok (.invokestatic 181, 3) := by decide +kernel
theorem dX8_last_46 : decode cX8_last 46 = .ok (.ifCond .eq 5, 3) := by decide +kernel
theorem dX8_last_49 : decode cX8_last 49 = .ok (.iload_n 3, 1) := by decide +kernel
theorem dX8_last_50 : decode cX8_last 50 = .ok (.ireturn, 1) := by decide +kernel
theorem dX8_last_51 : decode cX8_last 51 = .ok (.iinc 3 (-1), 3) := by decide +kernel
theorem dX8_last_54 : decode cX8_last 54 = .ok (.goto (-26), 3) := by decide +kernel
theorem dX8_last_57 : decode cX8_last 57 = .ok (.iconst (-1), 1) := by decide +kernel
theorem dX8_last_58 : decode cX8_last 58 = .ok (.ireturn, 1) := by decide +kernel
theorem dX8_together_0 : decode cX8_together 0 = .ok (.iload_n 1, 1) := by decide +kernel
theorem dX8_together_1 : decode cX8_together 1 = .ok (.iconst (-1), 1) := by decide +kernel
theorem dX8_together_2 : decode cX8_together 2 = .ok (.if_icmp .lt 9, 3) := by decide +kernel
theorem dX8_together_5 : decode cX8_together 5 = .ok (.iload_n 1, 1) := by decide +kernel
theorem dX8_together_6 : decode cX8_together 6 = .ok (.bipush 28, 2) := by decide +kernel
theorem dX8_together_8 : decode cX8_together 8 = .ok (.if_icmp .lt 6, 3) := by decide +kernel
theorem dX8_together_11 : decode cX8_together 11 = .ok (.bipush (-2), 2) := by decide +kernel
theorem dX8_together_13 : decode cX8_together 13 = .ok (.ireturn, 1) := by decide +kernel
theorem dX8_together_14 : decode cX8_together 14 = .ok (.aload_n 0, 1) := by decide +kernel
theorem dX8_together_15 : decode cX8_together 15 = .ok (.getfield 12, 3) := by decide +kernel
theorem dX8_together_18 : decode cX8_together 18 = .ok (.invokevirtual 185, 3) := by decide +kernel
theorem dX8_together_21 : decode cX8_together 21 = .ok (.lstore_n 2, 1) := by decide +kernel
theorem dX8_together_22 : decode cX8_together 22 = .ok (.iload_n 1, 1) := by decide +kernel
theorem dX8_together_23 : decode cX8_together 23 = .ok (.iconst (-1), 1) := by decide +kernel
theorem dX8_together_24 : decode cX8_together 24 = .ok (.if_icmp .ne 8, 3) := by decide +kernel
theorem dX8_together_27 : decode cX8_together 27 = .ok (.lload_n 2, 1) := by decide +kernel
theorem dX8_together_28 : decode cX8_together 28 = .ok (.invokestatic 189, 3) := by decide +kernel
theorem dX8_together_31 : decode cX8_together 31 = .ok (.ireturn, 1) := by decide +kernel
theorem dX8_together_32 : decode cX8_together 32 = .ok (.iload_n 1, 1) := by decide +kernel
theorem dX8_together_33 : decode cX8_together 33 = .ok (.istore 4, 2) := by decide +kernel
theorem dX8_together_35 : decode cX8_together 35 = .ok (.iconst 0, 1) := by decide +kernel
theorem dX8_together_36 : decode cX8_together 36 = .ok (.istore 5, 2) := by decide +kernel
theorem dX8_together_38 : decode cX8_together 38 = .ok (.iload 5, 2) := by decide +kernel
theorem dX8_together_40 : decode cX8_together 40 = .ok (.bipush 64, 2) := by decide +kernel
theorem dX8_together_42 : decode cX8_together 42 = .ok (.if_icmp .ge 31, 3) := by decide +kernel
theorem dX8_together_45 : decode cX8_together 45 = .ok (.lload_n 2, 1) := by decide +kernel
theorem dX8_together_46 : decode cX8_together 46 = .ok (.iload 5, 2) := by decide +kernel
theorem dX8_together_48 : decode cX8_together 48 = .ok (.lshr, 1) := by decide +kernel
theorem dX8_together_49 : decode cX8_together 49 = .ok (.lconst 1, 1) := by decide +kernel
theorem dX8_together_50 : decode cX8_together 50 = .ok (.land, 1) := by decide +kernel
theorem dX8_together_51 : decode cX8_together 51 = .ok (.lconst 1, 1) := by decide +kernel
theorem dX8_together_52 : decode cX8_together 52 = .ok (.lcmp, 1) := by decide +kernel
theorem dX8_together_53 : decode cX8_together 53 = .ok (.ifCond .ne 14, 3) := by decide +kernel
theorem dX8_together_56 : decode cX8_together 56 = .ok (.iload 4, 2) := by decide +kernel
theorem dX8_together_58 : decode cX8_together 58 = .ok (.ifCond .ne 6, 3) := by decide +kernel
theorem dX8_together_61 : decode cX8_together 61 = .ok (.iload 5, 2) := by decide +kernel
theorem dX8_together_63 : decode cX8_together 63 = .ok (.ireturn, 1) := by decide +kernel
theorem dX8_together_64 : decode cX8_together 64 = .ok (.iinc 4 (-1), 3) := by decide +kernel
theorem dX8_together_67 : decode cX8_together 67 = .ok (.iinc 5 1, 3) := by decide +kernel
theorem dX8_together_70 : decode cX8_together 70 = .ok (.goto (-32), 3) := by decide +kernel
theorem dX8_together_73 : decode cX8_together 73 = .ok (.iconst (-1), 1) := by decide +kernel
theorem dX8_together_74 : decode cX8_together 74 = .ok (.ireturn, 1) := by decide +kernel
theorem dX8_hide_0 : decode cX8_hide 0 = .ok (.aload_n 0, 1) := by decide +kernel
theorem dX8_hide_1 : decode cX8_hide 1 = .ok (.getfield 12, 3) := by decide +kernel
theorem dX8_hide_4 : decode cX8_hide 4 = .ok (.iload_n 1, 1) := by decide +kernel
theorem dX8_hide_5 : decode cX8_hide 5 = .ok (.invokevirtual 175, 3) := by decide +kernel
theorem dX8_hide_8 : decode cX8_hide 8 = .ok (.ifCond .ne 29, 3) := by decide +kernel
theorem dX8_hide_11 : decode cX8_hide 11 = .ok (.iload_n 2, 1) := by decide +kernel
theorem dX8_hide_12 : decode cX8_hide 12 = .ok (.invokestatic 100, 3) := by decide +kernel
theorem dX8_hide_15 : decode cX8_hide 15 = .ok (.ifCond .ne 22, 3) := by decide +kernel
theorem dX8_hide_18 : decode cX8_hide 18 = .ok (.iload_n 3, 1) := by decide +kernel
theorem dX8_hide_19 : decode cX8_hide 19 = .ok (.invokestatic 100, 3) := by decide +kernel
theorem dX8_hide_22 : decode cX8_hide 22 = .ok (.ifCond .ne 15, 3) := by decide +kernel
theorem dX8_hide_25 : decode cX8_hide 25 = .ok (.iload 4, 2) := by decide +kernel
theorem dX8_hide_27 : decode cX8_hide 27 = .ok (.iconst (-1), 1) := by decide +kernel
theorem dX8_hide_28 : decode cX8_hide 28 = .ok (.if_icmp .lt 9, 3) := by decide +kernel
theorem dX8_hide_31 : decode cX8_hide 31 = .ok (.iload 4, 2) := by decide +kernel
theorem dX8_hide_33 : decode cX8_hide 33 = .ok (.iconst 2, 1) := by decide +kernel
theorem dX8_hide_34 : decode cX8_hide 34 = .ok (.if_icmp .lt 6, 3) := by decide +kernel
theorem dX8_hide_37 : decode cX8_hide 37 = .ok (.bipush (-2), 2) := by decide +kernel
theorem dX8_hide_39 : decode cX8_hide 39 = .ok (.ireturn, 1) := by decide +kernel
theorem dX8_hide_40 : decode cX8_hide 40 = .ok (.aload_n 0, 1) := by decide +kernel
theorem dX8_hide_41 : decode cX8_hide 41 = .ok (.getfield 30, 3) := by decide +kernel
theorem dX8_hide_44 : decode cX8_hide 44 = .ok (.iload_n 2, 1) := by decide +kernel
theorem dX8_hide_45 : decode cX8_hide 45 = .ok (.iload_n 3, 1) := by decide +kernel
theorem dX8_hide_46 : decode cX8_hide 46 = .ok (.iconst 1, 1) := by decide +kernel
theorem dX8_hide_47 : decode cX8_hide 47 = .ok (.aload_n 0, 1) := by decide +kernel
theorem dX8_hide_48 : decode cX8_hide 48 = .ok (.getfield 12, 3) := by decide +kernel
theorem dX8_hide_51 : decode cX8_hide 51 = .ok (.getfield 97, 3) := by decide +kernel
theorem dX8_hide_54 : decode cX8_hide 54 = .ok (.getfield 178, 3) := by decide +kernel
theorem dX8_hide_57 : decode cX8_hide 57 = .ok (.iload_n 1, 1) := by decide +kernel
theorem dX8_hide_58 : decode cX8_hide 58 = .ok (.iaload, 1) := by decide +kernel
theorem dX8_hide_59 : decode cX8_hide 59 = .ok (.ishl, 1) := by decide +kernel
theorem dX8_hide_60 : decode cX8_hide 60 = .ok (.iconst 0, 1) := by decide +kernel
theorem dX8_hide_61 : decode cX8_hide 61 = .ok (.invokevirtual 195, 3) := by decide +kernel
theorem dX8_hide_64 : decode cX8_hide 64 = .ok (.aload_n 0, 1) := by decide +kernel
theorem dX8_hide_65 : decode cX8_hide 65 = .ok (.getfield 30, 3) := by decide +kernel
theorem dX8_hide_68 : decode cX8_hide 68 = .ok (.bipush 63, 2) := by decide +kernel
theorem dX8_hide_70 : decode cX8_hide 70 = .ok (.iload_n 1, 1) := by decide +kernel
theorem dX8_hide_71 : decode cX8_hide 71 = .ok (.invokevirtual 199, 3) := by decide +kernel
theorem dX8_hide_74 : decode cX8_hide 74 = .ok (.aload_n 0, 1) := by decide +kernel
theorem dX8_hide_75 : decode cX8_hide 75 = .ok (.getfield 30, 3) := by decide +kernel
theorem dX8_hide_78 : decode cX8_hide 78 = .ok (.iload 4, 2) := by decide +kernel
theorem dX8_hide_80 : decode cX8_hide 80 = .ok (.invokevirtual 202, 3) := by decide +kernel
theorem dX8_hide_83 : decode cX8_hide 83 = .ok (.ireturn, 1) := by decide +kernel
theorem dX8_frame_0 : decode cX8_frame 0 = .ok (.aload_n 0, 1) := by decide +kernel
theorem dX8_frame_1 : decode cX8_frame 1 = .ok (.getfield 12, 3) := by decide +kernel
theorem dX8_frame_4 : decode cX8_frame 4 = .ok (.iload_n 1, 1) := by decide +kernel
theorem dX8_frame_5 : decode cX8_frame 5 = .ok (.invokevirtual 144, 3) := by decide +kernel
theorem dX8_frame_8 : decode cX8_frame 8 = .ok (.ifCond .ne 37, 3) := by decide +kernel
theorem dX8_frame_11 : decode cX8_frame 11 = .ok (.iload_n 2, 1) := by decide +kernel
theorem dX8_frame_12 : decode cX8_frame 12 = .ok (.invokestatic 205, 3) := by decide +kernel
theorem dX8_frame_15 : decode cX8_frame 15 = .ok (.ifCond .ne 30, 3) := by decide +kernel
theorem dX8_frame_18 : decode cX8_frame 18 = .ok (.iload_n 3, 1) := by decide +kernel
theorem dX8_frame_19 : decode cX8_frame 19 = .ok (.invokestatic 100, 3) := by decide +kernel
theorem dX8_frame_22 : decode cX8_frame 22 = .ok (.ifCond .ne 23, 3) := by decide +kernel
theorem dX8_frame_25 : decode cX8_frame 25 = .ok (.iload 4, 2) := by decide +kernel
theorem dX8_frame_27 : decode cX8_frame 27 = .ok (.invokestatic 100, 3) := by decide +kernel
theorem dX8_frame_30 : decode cX8_frame 30 = .ok (.ifCond .ne 15, 3) := by decide +kernel
theorem dX8_frame_33 : decode cX8_frame 33 = .ok (.iload 5, 2) := by decide +kernel
theorem dX8_frame_35 : decode cX8_frame 35 = .ok (.iconst (-1), 1) := by decide +kernel
theorem dX8_frame_36 : decode cX8_frame 36 = .ok (.if_icmp .lt 9, 3) := by decide +kernel
theorem dX8_frame_39 : decode cX8_frame 39 = .ok (.iload 5, 2) := by decide +kernel
theorem dX8_frame_41 : decode cX8_frame 41 = .ok (.iconst 2, 1) := by decide +kernel
theorem dX8_frame_42 : decode cX8_frame 42 = .ok (.if_icmp .lt 6, 3) := by decide +kernel
theorem dX8_frame_45 : decode cX8_frame 45 = .ok (.bipush (-2), 2) := by decide +kernel
theorem dX8_frame_47 : decode cX8_frame 47 = .ok (.ireturn, 1) := by decide +kernel
theorem dX8_frame_48 : decode cX8_frame 48 = .ok (.aload_n 0, 1) := by decide +kernel
theorem dX8_frame_49 : decode cX8_frame 49 = .ok (.getfield 30, 3) := by decide +kernel
theorem dX8_frame_52 : decode cX8_frame 52 = .ok (.iload_n 3, 1) := by decide +kernel
theorem dX8_frame_53 : decode cX8_frame 53 = .ok (.iload 4, 2) := by decide +kernel
theorem dX8_frame_55 : decode cX8_frame 55 = .ok (.sipush 255, 3) := by decide +kernel
theorem dX8_frame_58 : decode cX8_frame 58 = .ok (.iload_n 2, 1) := by decide +kernel
theorem dX8_frame_59 : decode cX8_frame 59 = .ok (.invokevirtual 195, 3) := by decide +kernel
theorem dX8_frame_62 : decode cX8_frame 62 = .ok (.aload_n 0, 1) := by decide +kernel
theorem dX8_frame_63 : decode cX8_frame 63 = .ok (.getfield 30, 3) := by decide +kernel
theorem dX8_frame_66 : decode cX8_frame 66 = .ok (.iconst 1, 1) := by decide +kernel
theorem dX8_frame_67 : decode cX8_frame 67 = .ok (.iload_n 1, 1) := by decide +kernel
theorem dX8_frame_68 : decode cX8_frame 68 = .ok (.ishl, 1) := by decide +kernel
theorem dX8_frame_69 : decode cX8_frame 69 = .ok (.iconst (-1), 1) := by decide +kernel
theorem dX8_frame_70 : decode cX8_frame 70 = .ok (.invokevirtual 199, 3) := by decide +kernel
theorem dX8_frame_73 : decode cX8_frame 73 = .ok (.aload_n 0, 1) := by decide +kernel
theorem dX8_frame_74 : decode cX8_frame 74 = .ok (.getfield 30, 3) := by decide +kernel
theorem dX8_frame_77 : decode cX8_frame 77 = .ok (.iload 5, 2) := by decide +kernel
theorem dX8_frame_79 : decode cX8_frame 79 = .ok (.invokevirtual 202, 3) := by decide +kernel
theorem dX8_frame_82 : decode cX8_frame 82 = .ok (.ireturn, 1) := by decide +kernel
theorem dX8_air_0 : decode cX8_air 0 = .ok (.iload_n 1, 1) := by decide +kernel
theorem dX8_air_1 : decode cX8_air 1 = .ok (.ifCond .lt 35, 3) := by decide +kernel
theorem dX8_air_4 : decode cX8_air 4 = .ok (.iload_n 1, 1) := by decide +kernel
theorem dX8_air_5 : decode cX8_air 5 = .ok (.bipush 63, 2) := by decide +kernel
theorem dX8_air_7 : decode cX8_air 7 = .ok (.if_icmp .gt 29, 3) := by decide +kernel
theorem dX8_air_10 : decode cX8_air 10 = .ok (.iload_n 2, 1) := by decide +kernel
theorem dX8_air_11 : decode cX8_air 11 = .ok (.invokestatic 100, 3) := by decide +kernel
theorem dX8_air_14 : decode cX8_air 14 = .ok (.ifCond .ne 22, 3) := by decide +kernel
theorem dX8_air_17 : decode cX8_air 17 = .ok (.iload_n 3, 1) := by decide +kernel
theorem dX8_air_18 : decode cX8_air 18 = .ok (.invokestatic 100, 3) := by decide +kernel
theorem dX8_air_21 : decode cX8_air 21 = .ok (.ifCond .ne 15, 3) := by decide +kernel
theorem dX8_air_24 : decode cX8_air 24 = .ok (.iload 4, 2) := by decide +kernel
theorem dX8_air_26 : decode cX8_air 26 = .ok (.iconst (-1), 1) := by decide +kernel
theorem dX8_air_27 : decode cX8_air 27 = .ok (.if_icmp .lt 9, 3) := by decide +kernel
theorem dX8_air_30 : decode cX8_air 30 = .ok (.iload 4, 2) := by decide +kernel
theorem dX8_air_32 : decode cX8_air 32 = .ok (.iconst 3, 1) := by decide +kernel
theorem dX8_air_33 : decode cX8_air 33 = .ok (.if_icmp .lt 6, 3) := by decide +kernel
theorem dX8_air_36 : decode cX8_air 36 = .ok (.bipush (-2), 2) := by decide +kernel
theorem dX8_air_38 : decode cX8_air 38 = .ok (.ireturn, 1) := by decide +kernel
theorem dX8_air_39 : decode cX8_air 39 = .ok (.aload_n 0, 1) := by decide +kernel
theorem dX8_air_40 : decode cX8_air 40 = .ok (.getfield 30, 3) := by decide +kernel
theorem dX8_air_43 : decode cX8_air 43 = .ok (.iload_n 2, 1) := by decide +kernel
theorem dX8_air_44 : decode cX8_air 44 = .ok (.iload_n 3, 1) := by decide +kernel
theorem dX8_air_45 : decode cX8_air 45 = .ok (.sipush 255, 3) := by decide +kernel
theorem dX8_air_48 : decode cX8_air 48 = .ok (.iconst 0, 1) := by decide +kernel
theorem dX8_air_49 : decode cX8_air 49 = .ok (.invokevirtual 195, 3) := by decide +kernel
theorem dX8_air_52 : decode cX8_air 52 = .ok (.aload_n 0, 1) := by decide +kernel
theorem dX8_air_53 : decode cX8_air 53 = .ok (.getfield 30, 3) := by decide +kernel
theorem dX8_air_56 : decode cX8_air 56 = .ok (.iload_n 1, 1) := by decide +kernel
theorem dX8_air_57 : decode cX8_air 57 = .ok (.invokevirtual 208, 3) := by decide +kernel
theorem dX8_air_60 : decode cX8_air 60 = .ok (.aload_n 0, 1) := by decide +kernel
theorem dX8_air_61 : decode cX8_air 61 = .ok (.getfield 30, 3) := by decide +kernel
theorem dX8_air_64 : decode cX8_air 64 = .ok (.iload 4, 2) := by decide +kernel
theorem dX8_air_66 : decode cX8_air 66 = .ok (.invokevirtual 202, 3) := by decide +kernel
theorem dX8_air_69 : decode cX8_air 69 = .ok (.ireturn, 1) := by decide +kernel
theorem dX8_known_0 : decode cX8_known 0 = .ok (.iload_n 1, 1) := by decide +kernel
theorem dX8_known_1 : decode cX8_known 1 = .ok (.invokestatic 100, 3) := by decide +kernel
theorem dX8_known_4 : decode cX8_known 4 = .ok (.ifCond .eq 6, 3) := by decide +kernel
theorem dX8_known_7 : decode cX8_known 7 = .ok (.bipush (-2), 2) := by decide +kernel
theorem dX8_known_9 : decode cX8_known 9 = .ok (.ireturn, 1) := by decide +kernel
theorem dX8_known_10 : decode cX8_known 10 = .ok (.aload_n 0, 1) := by decide +kernel
theorem dX8_known_11 : decode cX8_known 11 = .ok (.getfield 12, 3) := by decide +kernel
theorem dX8_known_14 : decode cX8_known 14 = .ok (.iload_n 1, 1) := by decide +kernel
theorem dX8_known_15 : decode cX8_known 15 = .ok (.bipush 63, 2) := by decide +kernel
theorem dX8_known_17 : decode cX8_known 17 = .ok (.invokevirtual 163, 3) := by decide +kernel
theorem dX8_known_20 : decode cX8_known 20 = .ok (.istore_n 2, 1) := by decide +kernel
theorem dX8_known_21 : decode cX8_known 21 = .ok (.iconst 1, 1) := by decide +kernel
theorem dX8_known_22 : decode cX8_known 22 = .ok (.aload_n 0, 1) := by decide +kernel
theorem dX8_known_23 : decode cX8_known 23 = .ok (.getfield 12, 3) := by decide +kernel
theorem dX8_known_26 : decode cX8_known 26 = .ok (.getfield 89, 3) := by decide +kernel
theorem dX8_known_29 : decode cX8_known 29 = .ok (.getfield 211, 3) := by decide +kernel
theorem dX8_known_32 : decode cX8_known 32 = .ok (.ishl, 1) := by decide +kernel
theorem dX8_known_33 : decode cX8_known 33 = .ok (.iconst 1, 1) := by decide +kernel
theorem dX8_known_34 : decode cX8_known 34 = .ok (.isub, 1) := by decide +kernel
theorem dX8_known_35 : decode cX8_known 35 = .ok (.istore_n 3, 1) := by decide +kernel
theorem dX8_known_36 : decode cX8_known 36 = .ok (.iload_n 3, 1) := by decide +kernel
theorem dX8_known_37 : decode cX8_known 37 = .ok (.istore 4, 2) := by decide +kernel
theorem dX8_known_39 : decode cX8_known 39 = .ok (.iconst 0, 1) := by decide +kernel
theorem dX8_known_40 : decode cX8_known 40 = .ok (.istore 5, 2) := by decide +kernel
theorem dX8_known_42 : decode cX8_known 42 = .ok (.iload 5, 2) := by decide +kernel
theorem dX8_known_44 : decode cX8_known 44 = .ok (.iload_n 3, 1) := by decide +kernel
theorem dX8_known_45 : decode cX8_known 45 = .ok (.if_icmp .ge 40, 3) := by decide +kernel
theorem dX8_known_48 : decode cX8_known 48 = .ok (.iload 5, 2) := by decide +kernel
theorem dX8_known_50 : decode cX8_known 50 = .ok (.invokestatic 214, 3) := by decide +kernel
theorem dX8_known_53 : decode cX8_known 53 = .ok (.iload 4, 2) := by decide +kernel
theorem dX8_known_55 : decode cX8_known 55 = .ok (.invokestatic 214, 3) := by decide +kernel
theorem dX8_known_58 : decode cX8_known 58 = .ok (.if_icmp .ge 21, 3) := by decide +kernel
theorem dX8_known_61 : decode cX8_known 61 = .ok (.aload_n 0, 1) := by decide +kernel
theorem dX8_known_62 : decode cX8_known 62 = .ok (.getfield 12, 3) := by decide +kernel
theorem dX8_known_65 : decode cX8_known 65 = .ok (.iload_n 1, 1) := by decide +kernel
theorem dX8_known_66 : decode cX8_known 66 = .ok (.iload 5, 2) := by decide +kernel
theorem dX8_known_68 : decode cX8_known 68 = .ok (.invokevirtual 163, 3) := by decide +kernel
theorem dX8_known_71 : decode cX8_known 71 = .ok (.iload_n 2, 1) := by decide +kernel
theorem dX8_known_72 : decode cX8_known 72 = .ok (.if_icmp .ne 7, 3) := by decide +kernel
theorem dX8_known_75 : decode cX8_known 75 = .ok (.iload 5, 2) := by decide +kernel
theorem dX8_known_77 : decode cX8_known 77 = .ok (.istore 4, 2) := by decide +kernel
theorem dX8_known_79 : decode cX8_known 79 = .ok (.iinc 5 1, 3) := by decide +kernel
theorem dX8_known_82 : decode cX8_known 82 = .ok (.goto (-40), 3) := by decide +kernel
theorem dX8_known_85 : decode cX8_known 85 = .ok (.iload 4, 2) := by decide +kernel
theorem dX8_known_87 : decode cX8_known 87 = .ok (.ireturn, 1) := by decide +kernel
theorem dX8_smelt_0 : decode cX8_smelt 0 = .ok (.iload_n 1, 1) := by decide +kernel
theorem dX8_smelt_1 : decode cX8_smelt 1 = .ok (.invokestatic 100, 3) := by decide +kernel
theorem dX8_smelt_4 : decode cX8_smelt 4 = .ok (.ifCond .ne 17, 3) := by decide +kernel
theorem dX8_smelt_7 : decode cX8_smelt 7 = .ok (.iload_n 2, 1) := by decide +kernel
theorem dX8_smelt_8 : decode cX8_smelt 8 = .ok (.invokestatic 106, 3) := by decide +kernel
theorem dX8_smelt_11 : decode cX8_smelt 11 = .ok (.ifCond .ne 10, 3) := by decide +kernel
theorem dX8_smelt_14 : decode cX8_smelt 14 = .ok (.iload_n 3, 1) := by decide +kernel
theorem dX8_smelt_15 : decode cX8_smelt 15 = .ok (.invokestatic 205, 3) := by decide +kernel
theorem dX8_smelt_18 : decode cX8_smelt 18 = .ok (.ifCond .eq 6, 3) := by decide +kernel
theorem dX8_smelt_21 : decode cX8_smelt 21 = .ok (.bipush (-2), 2) := by decide +kernel
theorem dX8_smelt_23 : decode cX8_smelt 23 = .ok (.ireturn, 1) := by decide +kernel
theorem dX8_smelt_24 : decode cX8_smelt 24 = .ok (.aload_n 0, 1) := by decide +kernel
theorem dX8_smelt_25 : decode cX8_smelt 25 = .ok (.getfield 21, 3) := by decide +kernel
theorem dX8_smelt_28 : decode cX8_smelt 28 = .ok (.invokevirtual 112, 3) := by decide +kernel
theorem dX8_smelt_31 : decode cX8_smelt 31 = .ok (.ifCond .eq 6, 3) := by decide +kernel
theorem dX8_smelt_34 : decode cX8_smelt 34 = .ok (.bipush (-4), 2) := by decide +kernel
theorem dX8_smelt_36 : decode cX8_smelt 36 = .ok (.ireturn, 1) := by decide +kernel
theorem dX8_smelt_37 : decode cX8_smelt 37 = .ok (.aload_n 0, 1) := by decide +kernel
theorem dX8_smelt_38 : decode cX8_smelt 38 = .ok (.getfield 21, 3) := by decide +kernel
theorem dX8_smelt_41 : decode cX8_smelt 41 = .ok (.iload_n 1, 1) := by decide +kernel
theorem dX8_smelt_42 : decode cX8_smelt 42 = .ok (.iload_n 2, 1) := by decide +kernel
theorem dX8_smelt_43 : decode cX8_smelt 43 = .ok (.iload_n 3, 1) := by decide +kernel
theorem dX8_smelt_44 : decode cX8_smelt 44 = .ok (.invokevirtual 113, 3) := by decide +kernel
theorem dX8_smelt_47 : decode cX8_smelt 47 = .ok (.aload_n 0, 1) := by decide +kernel
theorem dX8_smelt_48 : decode cX8_smelt 48 = .ok (.getfield 21, 3) := by decide +kernel
theorem dX8_smelt_51 : decode cX8_smelt 51 = .ok (.getfield 117, 3) := by decide +kernel
theorem dX8_smelt_54 : decode cX8_smelt 54 = .ok (.ireturn, 1) := by decide +kernel
theorem dX8_forget_0 : decode cX8_forget 0 = .ok (.aload_n 0, 1) := by decide +kernel
theorem dX8_forget_1 : decode cX8_forget 1 = .ok (.getfield 21, 3) := by decide +kernel
theorem dX8_forget_4 : decode cX8_forget 4 = .ok (.getfield 117, 3) := by decide +kernel
theorem dX8_forget_7 : decode cX8_forget 7 = .ok (.istore_n 1, 1) := by decide +kernel
theorem dX8_forget_8 : decode cX8_forget 8 = .ok (.aload_n 0, 1) := by decide +kernel
theorem dX8_forget_9 : decode cX8_forget 9 = .ok (.getfield 21, 3) := by decide +kernel
theorem dX8_forget_12 : decode cX8_forget 12 = .ok (.invokevirtual 218, 3) := by decide +kernel
theorem dX8_forget_15 : decode cX8_forget 15 = .ok (.iload_n 1, 1) := by decide +kernel
theorem dX8_forget_16 : decode cX8_forget 16 = .ok (.ireturn, 1) := by decide +kernel
theorem dX8_when_0 : decode cX8_when 0 = .ok (.aload_n 0, 1) := by decide +kernel
theorem dX8_when_1 : decode cX8_when 1 = .ok (.getfield 12, 3) := by decide +kernel
theorem dX8_when_4 : decode cX8_when 4 = .ok (.iload_n 1, 1) := by decide +kernel
theorem dX8_when_5 : decode cX8_when 5 = .ok (.invokevirtual 175, 3) := by decide +kernel
theorem dX8_when_8 : decode cX8_when 8 = .ok (.ifCond .ne 14, 3) := by decide +kernel
theorem dX8_when_11 : decode cX8_when 11 = .ok (.aload_n 0, 1) := by decide +kernel
theorem dX8_when_12 : decode cX8_when 12 = .ok (.getfield 12, 3) := by decide +kernel
theorem dX8_when_15 : decode cX8_when 15 = .ok (.iload_n 2, 1) := by decide +kernel
theorem dX8_when_16 : decode cX8_when 16 = .ok (.invokevirtual 144, 3) := by decide +kernel
theorem dX8_when_19 : decode cX8_when 19 = .ok (.ifCond .eq 6, 3) := by decide +kernel
theorem dX8_when_22 : decode cX8_when 22 = .ok (.bipush (-2), 2) := by decide +kernel
theorem dX8_when_24 : decode cX8_when 24 = .ok (.ireturn, 1) := by decide +kernel
theorem dX8_when_25 : decode cX8_when 25 = .ok (.aload_n 0, 1) := by decide +kernel
theorem dX8_when_26 : decode cX8_when 26 = .ok (.getfield 39, 3) := by decide +kernel
theorem dX8_when_29 : decode cX8_when 29 = .ok (.iload_n 1, 1) := by decide +kernel
theorem dX8_when_30 : decode cX8_when 30 = .ok (.iload_n 2, 1) := by decide +kernel
theorem dX8_when_31 : decode cX8_when 31 = .ok (.invokevirtual 221, 3) := by decide +kernel
theorem dX8_when_34 : decode cX8_when 34 = .ok (.ireturn, 1) := by decide +kernel
theorem dX8_who_0 : decode cX8_who 0 = .ok (.aload_n 0, 1) := by decide +kernel
theorem dX8_who_1 : decode cX8_who 1 = .ok (.iload_n 1, 1) := by decide +kernel
theorem dX8_who_2 : decode cX8_who 2 = .ok (.invokevirtual 224, 3) := by decide +kernel
theorem dX8_who_5 : decode cX8_who 5 = .ok (.ifCond .eq 8, 3) := by decide +kernel
theorem dX8_who_8 : decode cX8_who 8 = .ok (.bipush (-2), 2) := by decide +kernel
theorem dX8_who_10 : decode cX8_who 10 = .ok (.goto 11, 3) := by decide +kernel
theorem dX8_who_13 : decode cX8_who 13 = .ok (.aload_n 0, 1) := by decide +kernel
theorem dX8_who_14 : decode cX8_who 14 = .ok (.getfield 39, 3) := by decide +kernel
theorem dX8_who_17 : decode cX8_who 17 = .ok (.iload_n 1, 1) := by decide +kernel
theorem dX8_who_18 : decode cX8_who 18 = .ok (.invokevirtual 227, 3) := by decide +kernel
theorem dX8_who_21 : decode cX8_who 21 = .ok (.ireturn, 1) := by decide +kernel
theorem dX8_stand_0 : decode cX8_stand 0 = .ok (.aload_n 0, 1) := by decide +kernel
theorem dX8_stand_1 : decode cX8_stand 1 = .ok (.iload_n 1, 1) := by decide +kernel
theorem dX8_stand_2 : decode cX8_stand 2 = .ok (.invokevirtual 224, 3) := by decide +kernel
theorem dX8_stand_5 : decode cX8_stand 5 = .ok (.ifCond .ne 10, 3) := by decide +kernel
theorem dX8_stand_8 : decode cX8_stand 8 = .ok (.iload_n 2, 1) := by decide +kernel
theorem dX8_stand_9 : decode cX8_stand 9 = .ok (.invokestatic 100, 3) := by decide +kernel
theorem dX8_stand_12 : decode cX8_stand 12 = .ok (.ifCond .eq 8, 3) := by decide +kernel
theorem dX8_stand_15 : decode cX8_stand 15 = .ok (.bipush (-2), 2) := by decide +kernel
theorem dX8_stand_17 : decode cX8_stand 17 = .ok (.goto 12, 3) := by decide +kernel
theorem dX8_stand_20 : decode cX8_stand 20 = .ok (.aload_n 0, 1) := by decide +kernel
theorem dX8_stand_21 : decode cX8_stand 21 = .ok (.getfield 39, 3) := by decide +kernel
theorem dX8_stand_24 : decode cX8_stand 24 = .ok (.iload_n 1, 1) := by decide +kernel
theorem dX8_stand_25 : decode cX8_stand 25 = .ok (.iload_n 2, 1) := by decide +kernel
theorem dX8_stand_26 : decode cX8_stand 26 = .ok (.invokevirtual 230, 3) := by decide +kernel
theorem dX8_stand_29 : decode cX8_stand 29 = .ok (.ireturn, 1) := by decide +kernel
theorem dX8_draughts_0 : decode cX8_draughts 0 = .ok (.iload_n 1, 1) := by decide +kernel
theorem dX8_draughts_1 : decode cX8_draughts 1 = .ok (.ifCond .lt 54, 3) := by decide +kernel
theorem dX8_draughts_4 : decode cX8_draughts 4 = .ok (.iload_n 1, 1) := by decide +kernel
theorem dX8_draughts_5 : decode cX8_draughts 5 = .ok (.bipush 16, 2) := by decide +kernel
theorem dX8_draughts_7 : decode cX8_draughts 7 = .ok (.if_icmp .gt 48, 3) := by decide +kernel
theorem dX8_draughts_10 : decode cX8_draughts 10 = .ok (.aload_n 0, 1) := by decide +kernel
theorem dX8_draughts_11 : decode cX8_draughts 11 = .ok (.getfield 12, 3) := by decide +kernel
theorem dX8_draughts_14 : decode cX8_draughts 14 = .ok (.iload_n 2, 1) := by decide +kernel
theorem dX8_draughts_15 : decode cX8_draughts 15 = .ok (.invokevirtual 144, 3) := by decide +kernel
theorem dX8_draughts_18 : decode cX8_draughts 18 = .ok (.ifCond .ne 37, 3) := by decide +kernel
theorem dX8_draughts_21 : decode cX8_draughts 21 = .ok (.aload_n 0, 1) := by decide +kernel
theorem dX8_draughts_22 : decode cX8_draughts 22 = .ok (.getfield 12, 3) := by decide +kernel
theorem dX8_draughts_25 : decode cX8_draughts 25 = .ok (.iload_n 3, 1) := by decide +kernel
theorem dX8_draughts_26 : decode cX8_draughts 26 = .ok (.invokevirtual 175, 3) := by decide +kernel
theorem dX8_draughts_29 : decode cX8_draughts 29 = .ok (.ifCond .ne 26, 3) := by decide +kernel
theorem dX8_draughts_32 : decode cX8_draughts 32 = .ok (.iload 4, 2) := by decide +kernel
theorem dX8_draughts_34 : decode cX8_draughts 34 = .ok (.ifCond .lt 21, 3) := by decide +kernel
theorem dX8_draughts_37 : decode cX8_draughts 37 = .ok (.iload 4, 2) := by decide +kernel
theorem dX8_draughts_39 : decode cX8_draughts 39 = .ok (.bipush 9, 2) := by decide +kernel
theorem dX8_draughts_41 : decode cX8_draughts 41 = .ok (.if_icmp .gt 14, 3) := by decide +kernel
theorem dX8_draughts_44 : decode cX8_draughts 44 = .ok (.iload 5, 2) := by decide +kernel
theorem dX8_draughts_46 : decode cX8_draughts 46 = .ok (.ifCond .lt 9, 3) := by decide +kernel
theorem dX8_draughts_49 : decode cX8_draughts 49 = .ok (.iload 5, 2) := by decide +kernel
theorem dX8_draughts_51 : decode cX8_draughts 51 = .ok (.iconst 1, 1) := by decide +kernel
theorem dX8_draughts_52 : decode cX8_draughts 52 = .ok (.if_icmp .le 9, 3) := by decide +kernel
theorem dX8_draughts_55 : decode cX8_draughts 55 = .ok (.bipush (-2), 2) := by decide +kernel
theorem dX8_draughts_57 : decode cX8_draughts 57 = .ok (.invokestatic 233, 3) := by decide +kernel
theorem dX8_draughts_60 : decode cX8_draughts 60 = .ok (.lreturn, 1) := by decide +kernel
theorem dX8_draughts_61 : decode cX8_draughts 61 = .ok (.iload 4, 2) := by decide +kernel
theorem dX8_draughts_63 : decode cX8_draughts 63 = .ok (.iconst 1, 1) := by decide +kernel
theorem dX8_draughts_64 : decode cX8_draughts 64 = .ok (.iadd, 1) := by decide +kernel
theorem dX8_draughts_65 : decode cX8_draughts 65 = .ok (.istore 6, 2) := by decide +kernel
theorem dX8_draughts_67 : decode cX8_draughts 67 = .ok (.lconst 0, 1) := by decide +kernel
theorem dX8_draughts_68 : decode cX8_draughts 68 = .ok (.lstore 7, 2) := by decide +kernel
theorem dX8_draughts_70 : decode cX8_draughts 70 = .ok (.iconst 0, 1) := by decide +kernel
theorem dX8_draughts_71 : decode cX8_draughts 71 = .ok (.istore 9, 2) := by decide +kernel
theorem dX8_draughts_73 : decode cX8_draughts 73 = .ok (.iload 9, 2) := by decide +kernel
theorem dX8_draughts_75 : decode cX8_draughts 75 = .ok (.iconst 1, 1) := by decide +kernel
theorem dX8_draughts_76 : decode cX8_draughts 76 = .ok (.iload 6, 2) := by decide +kernel
theorem dX8_draughts_78 : decode cX8_draughts 78 = .ok (.ishl, 1) := by decide +kernel
theorem dX8_draughts_79 : decode cX8_draughts 79 = .ok (.if_icmp .ge 70, 3) := by decide +kernel
theorem dX8_draughts_82 : decode cX8_draughts 82 = .ok (.iload 9, 2) := by decide +kernel
theorem dX8_draughts_84 : decode cX8_draughts 84 = .ok (.invokestatic 214, 3) := by decide +kernel
theorem dX8_draughts_87 : decode cX8_draughts 87 = .ok (.istore 10, 2) := by decide +kernel
theorem dX8_draughts_89 : decode cX8_draughts 89 = .ok (.iload_n 1, 1) := by decide +kernel
theorem dX8_draughts_90 : decode cX8_draughts 90 = .ok (.iload 10, 2) := by decide +kernel
theorem dX8_draughts_92 : decode cX8_draughts 92 = .ok (.invokestatic 237, 3) := by decide +kernel
theorem dX8_draughts_95 : decode cX8_draughts 95 = .ok (.bipush 16, 2) := by decide +kernel
theorem dX8_draughts_97 : decode cX8_draughts 97 = .ok (.iload_n 1, 1) := by decide +kernel
theorem dX8_draughts_98 : decode cX8_draughts 98 = .ok (.isub, 1) := by decide +kernel
theorem dX8_draughts_99 : decode cX8_draughts 99 = .ok (.iload 6, 2) := by decide +kernel
theorem dX8_draughts_101 : decode cX8_draughts 101 = .ok (.iload 10, 2) := by decide +kernel
theorem dX8_draughts_103 : decode cX8_draughts 103 = .ok (.isub, 1) := by decide +kernel
theorem dX8_draughts_104 : decode cX8_draughts 104 = .ok (.invokestatic 237, 3) := by decide +kernel
theorem dX8_draughts_107 : decode cX8_draughts 107 = .ok (.lmul, 1) := by decide +kernel
theorem dX8_draughts_108 : decode cX8_draughts 108 = .ok (.lstore 11, 2) := by decide +kernel
theorem dX8_draughts_110 : decode cX8_draughts 110 = .ok (.lload 11, 2) := by decide +kernel
theorem dX8_draughts_112 : decode cX8_draughts 112 = .ok (.lconst 0, 1) := by decide +kernel
theorem dX8_draughts_113 : decode cX8_draughts 113 = .ok (.lcmp, 1) := by decide +kernel
theorem dX8_draughts_114 : decode cX8_draughts 114 = .ok (.ifCond .le 29, 3) := by decide +kernel
theorem dX8_draughts_117 : decode cX8_draughts 117 = .ok (.aload_n 0, 1) := by decide +kernel
theorem dX8_draughts_118 : decode cX8_draughts 118 = .ok (.getfield 12, 3) := by decide +kernel
theorem dX8_draughts_121 : decode cX8_draughts 121 = .ok (.iload_n 2, 1) := by decide +kernel
theorem dX8_draughts_122 : decode cX8_draughts 122 = .ok (.iload 4, 2) := by decide +kernel
theorem dX8_draughts_124 : decode cX8_draughts 124 = .ok (.iload 9, 2) := by decide +kernel
theorem dX8_draughts_126 : decode cX8_draughts 126 = .ok (.invokevirtual 147, 3) := by decide +kernel
theorem dX8_draughts_129 : decode cX8_draughts 129 = .ok (.iload_n 3, 1) := by decide +kernel
theorem dX8_draughts_130 : decode cX8_draughts 130 = .ok (.invokestatic 181, 3) := by decide +kernel
theorem dX8_draughts_133 : decode cX8_draughts 133 = .ok (.ifCond .eq 10, 3) := by decide +kernel
theorem dX8_draughts_136 : decode cX8_draughts 136 = .ok (.lload 7, 2) := by decide +kernel
theorem dX8_draughts_138 : decode cX8_draughts 138 = .ok (.lload 11, 2) := by decide +kernel
theorem dX8_draughts_140 : decode cX8_draughts 140 = .ok (.ladd, 1) := by decide +kernel
theorem dX8_draughts_141 : decode cX8_draughts 141 = .ok (.lstore 7, 2) := by decide +kernel
theorem dX8_draughts_143 : decode cX8_draughts 143 = .ok (.iinc 9 1, 3) := by decide +kernel
theorem dX8_draughts_146 : decode cX8_draughts 146 = .ok (.goto (-73), 3) := by decide +kernel
theorem dX8_draughts_149 : decode cX8_draughts 149 = .ok (.aload_n 0, 1) := by decide +kernel
theorem dX8_draughts_150 : decode cX8_draughts 150 = .ok (.getfield 46, 3) := by decide +kernel
theorem dX8_draughts_153 : decode cX8_draughts 153 = .ok (.lload 7, 2) := by decide +kernel
theorem dX8_draughts_155 : decode cX8_draughts 155 = .ok (.bipush 16, 2) := by decide +kernel
theorem dX8_draughts_157 : decode cX8_draughts 157 = .ok (.iload 6, 2) := by decide +kernel
theorem dX8_draughts_159 : decode cX8_draughts 159 = .ok (.invokestatic 237, 3) := by decide +kernel
theorem dX8_draughts_162 : decode cX8_draughts 162 = .ok (.invokevirtual 241, 3) := by decide +kernel
theorem dX8_draughts_165 : decode cX8_draughts 165 = .ok (.iload 5, 2) := by decide +kernel
theorem dX8_draughts_167 : decode cX8_draughts 167 = .ok (.ifCond .ne 13, 3) := by decide +kernel
theorem dX8_draughts_170 : decode cX8_draughts 170 = .ok (.aload_n 0, 1) := by decide +kernel
theorem dX8_draughts_171 : decode cX8_draughts 171 = .ok (.getfield 46, 3) := by decide +kernel
theorem dX8_draughts_174 : decode cX8_draughts 174 = .ok (.getfield 245, 3) := by decide +kernel
theorem dX8_draughts_177 : decode cX8_draughts 177 = .ok (.goto 10, 3) := by decide +kernel
theorem dX8_draughts_180 : decode cX8_draughts 180 = .ok (.aload_n 0, 1) := by decide +kernel
theorem dX8_draughts_181 : decode cX8_draughts 181 = .ok (.getfield 46, 3) := by decide +kernel
theorem dX8_draughts_184 : decode cX8_draughts 184 = .ok (.getfield 249, 3) := by decide +kernel
theorem dX8_draughts_187 : decode cX8_draughts 187 = .ok (.lreturn, 1) := by decide +kernel
theorem dX8_found_0 : decode cX8_found 0 = .ok (.iload_n 1, 1) := by decide +kernel
theorem dX8_found_1 : decode cX8_found 1 = .ok (.ifCond .lt 42, 3) := by decide +kernel
theorem dX8_found_4 : decode cX8_found 4 = .ok (.iload_n 1, 1) := by decide +kernel
theorem dX8_found_5 : decode cX8_found 5 = .ok (.ldc 252, 2) := by decide +kernel
theorem dX8_found_7 : decode cX8_found 7 = .ok (.if_icmp .gt 36, 3) := by decide +kernel
theorem dX8_found_10 : decode cX8_found 10 = .ok (.aload_n 0, 1) := by decide +kernel
theorem dX8_found_11 : decode cX8_found 11 = .ok (.getfield 12, 3) := by decide +kernel
theorem dX8_found_14 : decode cX8_found 14 = .ok (.iload_n 2, 1) := by decide +kernel
theorem dX8_found_15 : decode cX8_found 15 = .ok (.invokevirtual 144, 3) := by decide +kernel
theorem dX8_found_18 : decode cX8_found 18 = .ok (.ifCond .ne 25, 3) := by decide +kernel
theorem dX8_found_21 : decode cX8_found 21 = .ok (.aload_n 0, 1) := by decide +kernel
theorem dX8_found_22 : decode cX8_found 22 = .ok (.getfield 12, 3) := by decide +kernel
theorem dX8_found_25 : decode cX8_found 25 = .ok (.iload_n 3, 1) := by decide +kernel
theorem dX8_found_26 : decode cX8_found 26 = .ok (.invokevirtual 175, 3) := by decide +kernel
theorem dX8_found_29 : decode cX8_found 29 = .ok (.ifCond .ne 14, 3) := by decide +kernel
theorem dX8_found_32 : decode cX8_found 32 = .ok (.iload 4, 2) := by decide +kernel
theorem dX8_found_34 : decode cX8_found 34 = .ok (.ifCond .lt 9, 3) := by decide +kernel
theorem dX8_found_37 : decode cX8_found 37 = .ok (.iload 4, 2) := by decide +kernel
theorem dX8_found_39 : decode cX8_found 39 = .ok (.iconst 1, 1) := by decide +kernel
theorem dX8_found_40 : decode cX8_found 40 = .ok (.if_icmp .le 9, 3) := by decide +kernel
theorem dX8_found_43 : decode cX8_found 43 = .ok (.bipush (-2), 2) := by decide +kernel
theorem dX8_found_45 : decode cX8_found 45 = .ok (.invokestatic 233, 3) := by decide +kernel
theorem dX8_found_48 : decode cX8_found 48 = .ok (.lreturn, 1) := by decide +kernel
theorem dX8_found_49 : decode cX8_found 49 = .ok (.iconst 0, 1) := by decide +kernel
theorem dX8_found_50 : decode cX8_found 50 = .ok (.istore 5, 2) := by decide +kernel
theorem dX8_found_52 : decode cX8_found 52 = .ok (.iconst 0, 1) := by decide +kernel
theorem dX8_found_53 : decode cX8_found 53 = .ok (.istore 6, 2) := by decide +kernel
theorem dX8_found_55 : decode cX8_found 55 = .ok (.iload 6, 2) := by decide +kernel
theorem dX8_found_57 : decode cX8_found 57 = .ok (.bipush 24, 2) := by decide +kernel
theorem dX8_found_59 : decode cX8_found 59 = .ok (.if_icmp .ge 39, 3) := by decide +kernel
theorem dX8_found_62 : decode cX8_found 62 = .ok (.iload_n 1, 1) := by decide +kernel
theorem dX8_found_63 : decode cX8_found 63 = .ok (.iload 6, 2) := by decide +kernel
theorem dX8_found_65 : decode cX8_found 65 = .ok (.invokestatic 181, 3) := by decide +kernel
theorem dX8_found_68 : decode cX8_found 68 = .ok (.ifCond .eq 24, 3) := by decide +kernel
theorem dX8_found_71 : decode cX8_found 71 = .ok (.aload_n 0, 1) := by decide +kernel
theorem dX8_found_72 : decode cX8_found 72 = .ok (.getfield 12, 3) := by decide +kernel
theorem dX8_found_75 : decode cX8_found 75 = .ok (.iload_n 2, 1) := by decide +kernel
theorem dX8_found_76 : decode cX8_found 76 = .ok (.iload 6, 2) := by decide +kernel
theorem dX8_found_78 : decode cX8_found 78 = .ok (.iconst 0, 1) := by decide +kernel
theorem dX8_found_79 : decode cX8_found 79 = .ok (.invokevirtual 147, 3) := by decide +kernel
theorem dX8_found_82 : decode cX8_found 82 = .ok (.iload_n 3, 1) := by decide +kernel
theorem dX8_found_83 : decode cX8_found 83 = .ok (.invokestatic 181, 3) := by decide +kernel
theorem dX8_found_86 : decode cX8_found 86 = .ok (.ifCond .eq 6, 3) := by decide +kernel
theorem dX8_found_89 : decode cX8_found 89 = .ok (.iinc 5 1, 3) := by decide +kernel
theorem dX8_found_92 : decode cX8_found 92 = .ok (.iinc 6 1, 3) := by decide +kernel
theorem dX8_found_95 : decode cX8_found 95 = .ok (.goto (-40), 3) := by decide +kernel
theorem dX8_found_98 : decode cX8_found 98 = .ok (.aload_n 0, 1) := by decide +kernel
theorem dX8_found_99 : decode cX8_found 99 = .ok (.getfield 46, 3) := by decide +kernel
theorem dX8_found_102 : decode cX8_found 102 = .ok (.iload 5, 2) := by decide +kernel
theorem dX8_found_104 : decode cX8_found 104 = .ok (.i2l, 1) := by decide +kernel
theorem dX8_found_105 : decode cX8_found 105 = .ok (.iload_n 1, 1) := by decide +kernel
theorem dX8_found_106 : decode cX8_found 106 = .ok (.invokestatic 214, 3) := by decide +kernel
theorem dX8_found_109 : decode cX8_found 109 = .ok (.i2l, 1) := by decide +kernel
theorem dX8_found_110 : decode cX8_found 110 = .ok (.invokevirtual 241, 3) := by decide +kernel
theorem dX8_found_113 : decode cX8_found 113 = .ok (.iload 4, 2) := by decide +kernel
theorem dX8_found_115 : decode cX8_found 115 = .ok (.ifCond .ne 13, 3) := by decide +kernel
theorem dX8_found_118 : decode cX8_found 118 = .ok (.aload_n 0, 1) := by decide +kernel
theorem dX8_found_119 : decode cX8_found 119 = .ok (.getfield 46, 3) := by decide +kernel
theorem dX8_found_122 : decode cX8_found 122 = .ok (.getfield 245, 3) := by decide +kernel
theorem dX8_found_125 : decode cX8_found 125 = .ok (.goto 10, 3) := by decide +kernel
theorem dX8_found_128 : decode cX8_found 128 = .ok (.aload_n 0, 1) := by decide +kernel
theorem dX8_found_129 : decode cX8_found 129 = .ok (.getfield 46, 3) := by decide +kernel
theorem dX8_found_132 : decode cX8_found 132 = .ok (.getfield 249, 3) := by decide +kernel
theorem dX8_found_135 : decode cX8_found 135 = .ok (.lreturn, 1) := by decide +kernel
theorem dX8_day_0 : decode cX8_day 0 = .ok (.iload_n 2, 1) := by decide +kernel
theorem dX8_day_1 : decode cX8_day 1 = .ok (.invokestatic 100, 3) := by decide +kernel
theorem dX8_day_4 : decode cX8_day 4 = .ok (.ifCond .ne 14, 3) := by decide +kernel
theorem dX8_day_7 : decode cX8_day 7 = .ok (.aload_n 0, 1) := by decide +kernel
theorem dX8_day_8 : decode cX8_day 8 = .ok (.getfield 12, 3) := by decide +kernel
theorem dX8_day_11 : decode cX8_day 11 = .ok (.iload_n 3, 1) := by decide +kernel
theorem dX8_day_12 : decode cX8_day 12 = .ok (.invokevirtual 144, 3) := by decide +kernel
theorem dX8_day_15 : decode cX8_day 15 = .ok (.ifCond .eq 6, 3) := by decide +kernel
theorem dX8_day_18 : decode cX8_day 18 = .ok (.bipush (-2), 2) := by decide +kernel
theorem dX8_day_20 : decode cX8_day 20 = .ok (.ireturn, 1) := by decide +kernel
theorem dX8_day_21 : decode cX8_day 21 = .ok (.aload_n 0, 1) := by decide +kernel
theorem dX8_day_22 : decode cX8_day 22 = .ok (.getfield 12, 3) := by decide +kernel
theorem dX8_day_25 : decode cX8_day 25 = .ok (.iload_n 1, 1) := by decide +kernel
theorem dX8_day_26 : decode cX8_day 26 = .ok (.iload_n 2, 1) := by decide +kernel
theorem dX8_day_27 : decode cX8_day 27 = .ok (.iload_n 3, 1) := by decide +kernel
theorem dX8_day_28 : decode cX8_day 28 = .ok (.invokevirtual 253, 3) := by decide +kernel
theorem dX8_day_31 : decode cX8_day 31 = .ok (.ireturn, 1) := by decide +kernel
theorem dX8_sheet_0 : decode cX8_sheet 0 = .ok (.iload_n 1, 1) := by decide +kernel
theorem dX8_sheet_1 : decode cX8_sheet 1 = .ok (.invokestatic 126, 3) := by decide +kernel
theorem dX8_sheet_4 : decode cX8_sheet 4 = .ok (.ifCond .ne 16, 3) := by decide +kernel
theorem dX8_sheet_7 : decode cX8_sheet 7 = .ok (.iload_n 2, 1) := by decide +kernel
theorem dX8_sheet_8 : decode cX8_sheet 8 = .ok (.invokestatic 256, 3) := by decide +kernel
theorem dX8_sheet_11 : decode cX8_sheet 11 = .ok (.ifCond .ne 9, 3) := by decide +kernel
theorem dX8_sheet_14 : decode cX8_sheet 14 = .ok (.iload_n 3, 1) := by decide +kernel
theorem dX8_sheet_15 : decode cX8_sheet 15 = .ok (.bipush 60, 2) := by decide +kernel
theorem dX8_sheet_17 : decode cX8_sheet 17 = .ok (.if_icmp .le 6, 3) := by decide +kernel
theorem dX8_sheet_20 : decode cX8_sheet 20 = .ok (.bipush (-2), 2) := by decide +kernel
theorem dX8_sheet_22 : decode cX8_sheet 22 = .ok (.ireturn, 1) := by decide +kernel
theorem dX8_sheet_23 : decode cX8_sheet 23 = .ok (.iload_n 3, 1) := by decide +kernel
theorem dX8_sheet_24 : decode cX8_sheet 24 = .ok (.ifCond .ge 9, 3) := by decide +kernel
theorem dX8_sheet_27 : decode cX8_sheet 27 = .ok (.aload_n 0, 1) := by decide +kernel
theorem dX8_sheet_28 : decode cX8_sheet 28 = .ok (.iconst 5, 1) := by decide +kernel
theorem dX8_sheet_29 : decode cX8_sheet 29 = .ok (.invokevirtual 132, 3) := by decide +kernel
theorem dX8_sheet_32 : decode cX8_sheet 32 = .ok (.ireturn, 1) := by decide +kernel
theorem dX8_sheet_33 : decode cX8_sheet 33 = .ok (.aload_n 0, 1) := by decide +kernel
theorem dX8_sheet_34 : decode cX8_sheet 34 = .ok (.getfield 53, 3) := by decide +kernel
theorem dX8_sheet_37 : decode cX8_sheet 37 = .ok (.iload_n 1, 1) := by decide +kernel
theorem dX8_sheet_38 : decode cX8_sheet 38 = .ok (.aaload, 1) := by decide +kernel
theorem dX8_sheet_39 : decode cX8_sheet 39 = .ok (.iload_n 2, 1) := by decide +kernel
theorem dX8_sheet_40 : decode cX8_sheet 40 = .ok (.iload_n 3, 1) := by decide +kernel
theorem dX8_sheet_41 : decode cX8_sheet 41 = .ok (.invokevirtual 259, 3) := by decide +kernel
theorem dX8_sheet_44 : decode cX8_sheet 44 = .ok (.iload_n 3, 1) := by decide +kernel
theorem dX8_sheet_45 : decode cX8_sheet 45 = .ok (.ireturn, 1) := by decide +kernel
theorem dX8_lose_0 : decode cX8_lose 0 = .ok (.iload_n 1, 1) := by decide +kernel
theorem dX8_lose_1 : decode cX8_lose 1 = .ok (.invokestatic 126, 3) := by decide +kernel
theorem dX8_lose_4 : decode cX8_lose 4 = .ok (.ifCond .eq 6, 3) := by decide +kernel
theorem dX8_lose_7 : decode cX8_lose 7 = .ok (.bipush (-2), 2) := by decide +kernel
theorem dX8_lose_9 : decode cX8_lose 9 = .ok (.ireturn, 1) := by decide +kernel
theorem dX8_lose_10 : decode cX8_lose 10 = .ok (.aload_n 0, 1) := by decide +kernel
theorem dX8_lose_11 : decode cX8_lose 11 = .ok (.getfield 53, 3) := by decide +kernel
theorem dX8_lose_14 : decode cX8_lose 14 = .ok (.iload_n 1, 1) := by decide +kernel
theorem dX8_lose_15 : decode cX8_lose 15 = .ok (.aaload, 1) := by decide +kernel
theorem dX8_lose_16 : decode cX8_lose 16 = .ok (.invokevirtual 129, 3) := by decide +kernel
theorem dX8_lose_19 : decode cX8_lose 19 = .ok (.ifCond .eq 9, 3) := by decide +kernel
theorem dX8_lose_22 : decode cX8_lose 22 = .ok (.aload_n 0, 1) := by decide +kernel
theorem dX8_lose_23 : decode cX8_lose 23 = .ok (.iconst 1, 1) := by decide +kernel
theorem dX8_lose_24 : decode cX8_lose 24 = .ok (.invokevirtual 132, 3) := by decide +kernel
theorem dX8_lose_27 : decode cX8_lose 27 = .ok (.ireturn, 1) := by decide +kernel
theorem dX8_lose_28 : decode cX8_lose 28 = .ok (.aload_n 0, 1) := by decide +kernel
theorem dX8_lose_29 : decode cX8_lose 29 = .ok (.getfield 53, 3) := by decide +kernel
theorem dX8_lose_32 : decode cX8_lose 32 = .ok (.iload_n 1, 1) := by decide +kernel
theorem dX8_lose_33 : decode cX8_lose 33 = .ok (.aaload, 1) := by decide +kernel
theorem dX8_lose_34 : decode cX8_lose 34 = .ok (.getfield 136, 3) := by decide +kernel
theorem dX8_lose_37 : decode cX8_lose 37 = .ok (.istore_n 2, 1) := by decide +kernel
theorem dX8_lose_38 : decode cX8_lose 38 = .ok (.aload_n 0, 1) := by decide +kernel
theorem dX8_lose_39 : decode cX8_lose 39 = .ok (.getfield 53, 3) := by decide +kernel
theorem dX8_lose_42 : decode cX8_lose 42 = .ok (.iload_n 1, 1) := by decide +kernel
theorem dX8_lose_43 : decode cX8_lose 43 = .ok (.aaload, 1) := by decide +kernel
theorem dX8_lose_44 : decode cX8_lose 44 = .ok (.invokevirtual 262, 3) := by decide +kernel
theorem dX8_lose_47 : decode cX8_lose 47 = .ok (.iload_n 2, 1) := by decide +kernel
theorem dX8_lose_48 : decode cX8_lose 48 = .ok (.ireturn, 1) := by decide +kernel
theorem dX8_put_0 : decode cX8_put 0 = .ok (.iload_n 1, 1) := by decide +kernel
theorem dX8_put_1 : decode cX8_put 1 = .ok (.invokestatic 126, 3) := by decide +kernel
theorem dX8_put_4 : decode cX8_put 4 = .ok (.ifCond .ne 10, 3) := by decide +kernel
theorem dX8_put_7 : decode cX8_put 7 = .ok (.iload_n 2, 1) := by decide +kernel
theorem dX8_put_8 : decode cX8_put 8 = .ok (.invokestatic 256, 3) := by decide +kernel
theorem dX8_put_11 : decode cX8_put 11 = .ok (.ifCond .eq 6, 3) := by decide +kernel
theorem dX8_put_14 : decode cX8_put 14 = .ok (.bipush (-2), 2) := by decide +kernel
theorem dX8_put_16 : decode cX8_put 16 = .ok (.ireturn, 1) := by decide +kernel
theorem dX8_put_17 : decode cX8_put 17 = .ok (.aload_n 0, 1) := by decide +kernel
theorem dX8_put_18 : decode cX8_put 18 = .ok (.getfield 53, 3) := by decide +kernel
theorem dX8_put_21 : decode cX8_put 21 = .ok (.iload_n 1, 1) := by decide +kernel
theorem dX8_put_22 : decode cX8_put 22 = .ok (.aaload, 1) := by decide +kernel
theorem dX8_put_23 : decode cX8_put 23 = .ok (.iload_n 2, 1) := by decide +kernel
theorem dX8_put_24 : decode cX8_put 24 = .ok (.iload_n 3, 1) := by decide +kernel
theorem dX8_put_25 : decode cX8_put 25 = .ok (.invokevirtual 265, 3) := by decide +kernel
theorem dX8_put_28 : decode cX8_put 28 = .ok (.istore 5, 2) := by decide +kernel
theorem dX8_put_30 : decode cX8_put 30 = .ok (.iload 5, 2) := by decide +kernel
theorem dX8_put_32 : decode cX8_put 32 = .ok (.ifCond .eq 10, 3) := by decide +kernel
theorem dX8_put_35 : decode cX8_put 35 = .ok (.aload_n 0, 1) := by decide +kernel
theorem dX8_put_36 : decode cX8_put 36 = .ok (.iload 5, 2) := by decide +kernel
theorem dX8_put_38 : decode cX8_put 38 = .ok (.invokevirtual 132, 3) := by decide +kernel
theorem dX8_put_41 : decode cX8_put 41 = .ok (.ireturn, 1) := by decide +kernel
theorem dX8_put_42 : decode cX8_put 42 = .ok (.aload_n 0, 1) := by decide +kernel
theorem dX8_put_43 : decode cX8_put 43 = .ok (.getfield 53, 3) := by decide +kernel
theorem dX8_put_46 : decode cX8_put 46 = .ok (.iload_n 1, 1) := by decide +kernel
theorem dX8_put_47 : decode cX8_put 47 = .ok (.aaload, 1) := by decide +kernel
theorem dX8_put_48 : decode cX8_put 48 = .ok (.iload_n 3, 1) := by decide +kernel
theorem dX8_put_49 : decode cX8_put 49 = .ok (.iload 4, 2) := by decide +kernel
theorem dX8_put_51 : decode cX8_put 51 = .ok (.invokevirtual 268, 3) := by decide +kernel
theorem dX8_put_54 : decode cX8_put 54 = .ok (.iconst 1, 1) := by decide +kernel
theorem dX8_put_55 : decode cX8_put 55 = .ok (.ireturn, 1) := by decide +kernel
theorem dX8_get_0 : decode cX8_get 0 = .ok (.iload_n 1, 1) := by decide +kernel
theorem dX8_get_1 : decode cX8_get 1 = .ok (.invokestatic 126, 3) := by decide +kernel
theorem dX8_get_4 : decode cX8_get 4 = .ok (.ifCond .ne 10, 3) := by decide +kernel
theorem dX8_get_7 : decode cX8_get 7 = .ok (.iload_n 2, 1) := by decide +kernel
theorem dX8_get_8 : decode cX8_get 8 = .ok (.invokestatic 256, 3) := by decide +kernel
theorem dX8_get_11 : decode cX8_get 11 = .ok (.ifCond .eq 7, 3) := by decide +kernel
theorem dX8_get_14 : decode cX8_get 14 = .ok (.ldc_w 271, 3) := by decide +kernel
theorem dX8_get_17 : decode cX8_get 17 = .ok (.ireturn, 1) := by decide +kernel
theorem dX8_get_18 : decode cX8_get 18 = .ok (.aload_n 0, 1) := by decide +kernel
theorem dX8_get_19 : decode cX8_get 19 = .ok (.getfield 53, 3) := by decide +kernel
theorem dX8_get_22 : decode cX8_get 22 = .ok (.iload_n 1, 1) := by decide +kernel
theorem dX8_get_23 : decode cX8_get 23 = .ok (.aaload, 1) := by decide +kernel
theorem dX8_get_24 : decode cX8_get 24 = .ok (.iload_n 2, 1) := by decide +kernel
theorem dX8_get_25 : decode cX8_get 25 = .ok (.iload_n 3, 1) := by decide +kernel
theorem dX8_get_26 : decode cX8_get 26 = .ok (.invokevirtual 265, 3) := by decide +kernel
theorem dX8_get_29 : decode cX8_get 29 = .ok (.istore 4, 2) := by decide +kernel
theorem dX8_get_31 : decode cX8_get 31 = .ok (.iload 4, 2) := by decide +kernel
theorem dX8_get_33 : decode cX8_get 33 = .ok (.ifCond .eq 14, 3) := by decide +kernel
theorem dX8_get_36 : decode cX8_get 36 = .ok (.aload_n 0, 1) := by decide +kernel
theorem dX8_get_37 : decode cX8_get 37 = .ok (.iload 4, 2) := by decide +kernel
theorem dX8_get_39 : decode cX8_get 39 = .ok (.invokevirtual 132, 3) := by decide +kernel
theorem dX8_get_42 : decode cX8_get 42 = .ok (.pop, 1) := by decide +kernel
theorem dX8_get_43 : decode cX8_get 43 = .ok (.ldc_w 271, 3) := by decide +kernel
theorem dX8_get_46 : decode cX8_get 46 = .ok (.ireturn, 1) := by decide +kernel
theorem dX8_get_47 : decode cX8_get 47 = .ok (.aload_n 0, 1) := by decide +kernel
theorem dX8_get_48 : decode cX8_get 48 = .ok (.getfield 53, 3) := by decide +kernel
theorem dX8_get_51 : decode cX8_get 51 = .ok (.iload_n 1, 1) := by decide +kernel
theorem dX8_get_52 : decode cX8_get 52 = .ok (.aaload, 1) := by decide +kernel
theorem dX8_get_53 : decode cX8_get 53 = .ok (.iload_n 3, 1) := by decide +kernel
theorem dX8_get_54 : decode cX8_get 54 = .ok (.invokevirtual 137, 3) := by decide +kernel
theorem dX8_get_57 : decode cX8_get 57 = .ok (.ireturn, 1) := by decide +kernel
theorem dX8_copy_0 : decode cX8_copy 0 = .ok (.iload_n 1, 1) := by decide +kernel
theorem dX8_copy_1 : decode cX8_copy 1 = .ok (.invokestatic 126, 3) := by decide +kernel
theorem dX8_copy_4 : decode cX8_copy 4 = .ok (.ifCond .ne 10, 3) := by decide +kernel
theorem dX8_copy_7 : decode cX8_copy 7 = .ok (.iload_n 3, 1) := by decide +kernel
theorem dX8_copy_8 : decode cX8_copy 8 = .ok (.invokestatic 126, 3) := by decide +kernel
theorem dX8_copy_11 : decode cX8_copy 11 = .ok (.ifCond .eq 6, 3) := by decide +kernel
theorem dX8_copy_14 : decode cX8_copy 14 = .ok (.bipush (-2), 2) := by decide +kernel
theorem dX8_copy_16 : decode cX8_copy 16 = .ok (.ireturn, 1) := by decide +kernel
theorem dX8_copy_17 : decode cX8_copy 17 = .ok (.aload_n 0, 1) := by decide +kernel
theorem dX8_copy_18 : decode cX8_copy 18 = .ok (.getfield 53, 3) := by decide +kernel
theorem dX8_copy_21 : decode cX8_copy 21 = .ok (.iload_n 1, 1) := by decide +kernel
theorem dX8_copy_22 : decode cX8_copy 22 = .ok (.aaload, 1) := by decide +kernel
theorem dX8_copy_23 : decode cX8_copy 23 = .ok (.astore 6, 2) := by decide +kernel
theorem dX8_copy_25 : decode cX8_copy 25 = .ok (.aload_n 0, 1) := by decide +kernel
theorem dX8_copy_26 : decode cX8_copy 26 = .ok (.getfield 53, 3) := by decide +kernel
theorem dX8_copy_29 : decode cX8_copy 29 = .ok (.iload_n 3, 1) := by decide +kernel
theorem dX8_copy_30 : decode cX8_copy 30 = .ok (.aaload, 1) := by decide +kernel
theorem dX8_copy_31 : decode cX8_copy 31 = .ok (.astore 7, 2) := by decide +kernel
theorem dX8_copy_33 : decode cX8_copy 33 = .ok (.aload 6, 2) := by decide +kernel
theorem dX8_copy_35 : decode cX8_copy 35 = .ok (.invokevirtual 129, 3) := by decide +kernel
theorem dX8_copy_38 : decode cX8_copy 38 = .ok (.ifCond .ne 11, 3) := by decide +kernel
theorem dX8_copy_41 : decode cX8_copy 41 = .ok (.aload 7, 2) := by decide +kernel
theorem dX8_copy_43 : decode cX8_copy 43 = .ok (.invokevirtual 129, 3) := by decide +kernel
theorem dX8_copy_46 : decode cX8_copy 46 = .ok (.ifCond .eq 9, 3) := by decide +kernel
theorem dX8_copy_49 : decode cX8_copy 49 = .ok (.aload_n 0, 1) := by decide +kernel
theorem dX8_copy_50 : decode cX8_copy 50 = .ok (.iconst 1, 1) := by decide +kernel
theorem dX8_copy_51 : decode cX8_copy 51 = .ok (.invokevirtual 132, 3) := by decide +kernel
theorem dX8_copy_54 : decode cX8_copy 54 = .ok (.ireturn, 1) := by decide +kernel
theorem dX8_copy_55 : decode cX8_copy 55 = .ok (.aload 6, 2) := by decide +kernel
theorem dX8_copy_57 : decode cX8_copy 57 = .ok (.getfield 272, 3) := by decide +kernel
theorem dX8_copy_60 : decode cX8_copy 60 = .ok (.aload 7, 2) := by decide +kernel
theorem dX8_copy_62 : decode cX8_copy 62 = .ok (.getfield 272, 3) := by decide +kernel
theorem dX8_copy_65 : decode cX8_copy 65 = .ok (.if_icmp .eq 9, 3) := by decide +kernel
theorem dX8_copy_68 : decode cX8_copy 68 = .ok (.aload_n 0, 1) := by decide +kernel
theorem dX8_copy_69 : decode cX8_copy 69 = .ok (.iconst 4, 1) := by decide +kernel
theorem dX8_copy_70 : decode cX8_copy 70 = .ok (.invokevirtual 132, 3) := by decide +kernel
theorem dX8_copy_73 : decode cX8_copy 73 = .ok (.ireturn, 1) := by decide +kernel
theorem dX8_copy_74 : decode cX8_copy 74 = .ok (.iload 5, 2) := by decide +kernel
theorem dX8_copy_76 : decode cX8_copy 76 = .ok (.ifCond .lt 26, 3) := by decide +kernel
theorem dX8_copy_79 : decode cX8_copy 79 = .ok (.aload 6, 2) := by decide +kernel
theorem dX8_copy_81 : decode cX8_copy 81 = .ok (.iload_n 2, 1) := by decide +kernel
theorem dX8_copy_82 : decode cX8_copy 82 = .ok (.iload 5, 2) := by decide +kernel
theorem dX8_copy_84 : decode cX8_copy 84 = .ok (.invokevirtual 275, 3) := by decide +kernel
theorem dX8_copy_87 : decode cX8_copy 87 = .ok (.ifCond .ne 15, 3) := by decide +kernel
theorem dX8_copy_90 : decode cX8_copy 90 = .ok (.aload 7, 2) := by decide +kernel
theorem dX8_copy_92 : decode cX8_copy 92 = .ok (.iload 4, 2) := by decide +kernel
theorem dX8_copy_94 : decode cX8_copy 94 = .ok (.iload 5, 2) := by decide +kernel
theorem dX8_copy_96 : decode cX8_copy 96 = .ok (.invokevirtual 275, 3) := by decide +kernel
theorem dX8_copy_99 : decode cX8_copy 99 = .ok (.ifCond .eq 9, 3) := by decide +kernel
theorem dX8_copy_102 : decode cX8_copy 102 = .ok (.aload_n 0, 1) := by decide +kernel
theorem dX8_copy_103 : decode cX8_copy 103 = .ok (.iconst 2, 1) := by decide +kernel
theorem dX8_copy_104 : decode cX8_copy 104 = .ok (.invokevirtual 132, 3) := by decide +kernel
theorem dX8_copy_107 : decode cX8_copy 107 = .ok (.ireturn, 1) := by decide +kernel
theorem dX8_copy_108 : decode cX8_copy 108 = .ok (.aload 6, 2) := by decide +kernel
theorem dX8_copy_110 : decode cX8_copy 110 = .ok (.getfield 278, 3) := by decide +kernel
theorem dX8_copy_113 : decode cX8_copy 113 = .ok (.iload_n 2, 1) := by decide +kernel
theorem dX8_copy_114 : decode cX8_copy 114 = .ok (.aload 7, 2) := by decide +kernel
theorem dX8_copy_116 : decode cX8_copy 116 = .ok (.getfield 278, 3) := by decide +kernel
theorem dX8_copy_119 : decode cX8_copy 119 = .ok (.iload 4, 2) := by decide +kernel
theorem dX8_copy_121 : decode cX8_copy 121 = .ok (.iload 5, 2) := by decide +kernel
theorem dX8_copy_123 : decode cX8_copy 123 = .ok (.invokestatic 281, 3) := by decide +kernel
theorem dX8_copy_126 : decode cX8_copy 126 = .ok (.iconst 1, 1) := by decide +kernel
theorem dX8_copy_127 : decode cX8_copy 127 = .ok (.ireturn, 1) := by decide +kernel
theorem dX8_write_0 : decode cX8_write 0 = .ok (.aload_n 0, 1) := by decide +kernel
theorem dX8_write_1 : decode cX8_write 1 = .ok (.getfield 12, 3) := by decide +kernel
theorem dX8_write_4 : decode cX8_write 4 = .ok (.iload_n 1, 1) := by decide +kernel
theorem dX8_write_5 : decode cX8_write 5 = .ok (.invokevirtual 144, 3) := by decide +kernel
theorem dX8_write_8 : decode cX8_write 8 = .ok (.ifCond .ne 10, 3) := by decide +kernel
theorem dX8_write_11 : decode cX8_write 11 = .ok (.iload_n 2, 1) := by decide +kernel
theorem dX8_write_12 : decode cX8_write 12 = .ok (.invokestatic 126, 3) := by decide +kernel
theorem dX8_write_15 : decode cX8_write 15 = .ok (.ifCond .eq 6, 3) := by decide +kernel
theorem dX8_write_18 : decode cX8_write 18 = .ok (.bipush (-2), 2) := by decide +kernel
theorem dX8_write_20 : decode cX8_write 20 = .ok (.ireturn, 1) := by decide +kernel
theorem dX8_write_21 : decode cX8_write 21 = .ok (.aload_n 0, 1) := by decide +kernel
theorem dX8_write_22 : decode cX8_write 22 = .ok (.getfield 53, 3) := by decide +kernel
theorem dX8_write_25 : decode cX8_write 25 = .ok (.iload_n 2, 1) := by decide +kernel
theorem dX8_write_26 : decode cX8_write 26 = .ok (.aaload, 1) := by decide +kernel
theorem dX8_write_27 : decode cX8_write 27 = .ok (.astore_n 3, 1) := by decide +kernel
theorem dX8_write_28 : decode cX8_write 28 = .ok (.aload_n 3, 1) := by decide +kernel
theorem dX8_write_29 : decode cX8_write 29 = .ok (.invokevirtual 129, 3) := by decide +kernel
theorem dX8_write_32 : decode cX8_write 32 = .ok (.ifCond .eq 9, 3) := by decide +kernel
theorem dX8_write_35 : decode cX8_write 35 = .ok (.aload_n 0, 1) := by decide +kernel
theorem dX8_write_36 : decode cX8_write 36 = .ok (.iconst 1, 1) := by decide +kernel
theorem dX8_write_37 : decode cX8_write 37 = .ok (.invokevirtual 132, 3) := by decide +kernel
theorem dX8_write_40 : decode cX8_write 40 = .ok (.ireturn, 1) := by decide +kernel
theorem dX8_write_41 : decode cX8_write 41 = .ok (.aload_n 3, 1) := by decide +kernel
theorem dX8_write_42 : decode cX8_write 42 = .ok (.getfield 136, 3) := by decide +kernel
theorem dX8_write_45 : decode cX8_write 45 = .ok (.bipush 24, 2) := by decide +kernel
theorem dX8_write_47 : decode cX8_write 47 = .ok (.invokestatic 287, 3) := by decide +kernel
theorem dX8_write_50 : decode cX8_write 50 = .ok (.istore 4, 2) := by decide +kernel
theorem dX8_write_52 : decode cX8_write 52 = .ok (.iconst 0, 1) := by decide +kernel
theorem dX8_write_53 : decode cX8_write 53 = .ok (.istore 5, 2) := by decide +kernel
theorem dX8_write_55 : decode cX8_write 55 = .ok (.iload 5, 2) := by decide +kernel
theorem dX8_write_57 : decode cX8_write 57 = .ok (.iload 4, 2) := by decide +kernel
theorem dX8_write_59 : decode cX8_write 59 = .ok (.if_icmp .ge 26, 3) := by decide +kernel
theorem dX8_write_62 : decode cX8_write 62 = .ok (.aload_n 3, 1) := by decide +kernel
theorem dX8_write_63 : decode cX8_write 63 = .ok (.iload 5, 2) := by decide +kernel
theorem dX8_write_65 : decode cX8_write 65 = .ok (.aload_n 0, 1) := by decide +kernel
theorem dX8_write_66 : decode cX8_write 66 = .ok (.getfield 12, 3) := by decide +kernel
theorem dX8_write_69 : decode cX8_write 69 = .ok (.iload_n 1, 1) := by decide +kernel
theorem dX8_write_70 : decode cX8_write 70 = .ok (.iload 5, 2) := by decide +kernel
theorem dX8_write_72 : decode cX8_write 72 = .ok (.iconst 0, 1) := by decide +kernel
theorem dX8_write_73 : decode cX8_write 73 = .ok (.invokevirtual 147, 3) := by decide +kernel
theorem dX8_write_76 : decode cX8_write 76 = .ok (.invokevirtual 268, 3) := by decide +kernel
theorem dX8_write_79 : decode cX8_write 79 = .ok (.iinc 5 1, 3) := by decide +kernel
theorem dX8_write_82 : decode cX8_write 82 = .ok (.goto (-27), 3) := by decide +kernel
theorem dX8_write_85 : decode cX8_write 85 = .ok (.iload 4, 2) := by decide +kernel
theorem dX8_write_87 : decode cX8_write 87 = .ok (.ireturn, 1) := by decide +kernel
theorem dX8_count_0 : decode cX8_count 0 = .ok (.iload_n 1, 1) := by decide +kernel
theorem dX8_count_1 : decode cX8_count 1 = .ok (.tableswitch 138 0 8 #[51, 62, 73, 84, 95, 106, 117, 125, 133], 51) := by decide +kernel
theorem dX8_count_52 : decode cX8_count 52 = .ok (.aload_n 0, 1) := by decide +kernel
theorem dX8_count_53 : decode cX8_count 53 = .ok (.getfield 12, 3) := by decide +kernel
theorem dX8_count_56 : decode cX8_count 56 = .ok (.getfield 89, 3) := by decide +kernel
theorem dX8_count_59 : decode cX8_count 59 = .ok (.getfield 211, 3) := by decide +kernel
theorem dX8_count_62 : decode cX8_count 62 = .ok (.ireturn, 1) := by decide +kernel
theorem dX8_count_63 : decode cX8_count 63 = .ok (.aload_n 0, 1) := by decide +kernel
theorem dX8_count_64 : decode cX8_count 64 = .ok (.getfield 12, 3) := by decide +kernel
theorem dX8_count_67 : decode cX8_count 67 = .ok (.getfield 97, 3) := by decide +kernel
theorem dX8_count_70 : decode cX8_count 70 = .ok (.getfield 211, 3) := by decide +kernel
theorem dX8_count_73 : decode cX8_count 73 = .ok (.ireturn, 1) := by decide +kernel
theorem dX8_count_74 : decode cX8_count 74 = .ok (.aload_n 0, 1) := by decide +kernel
theorem dX8_count_75 : decode cX8_count 75 = .ok (.getfield 12, 3) := by decide +kernel
theorem dX8_count_78 : decode cX8_count 78 = .ok (.getfield 89, 3) := by decide +kernel
theorem dX8_count_81 : decode cX8_count 81 = .ok (.getfield 79, 3) := by decide +kernel
theorem dX8_count_84 : decode cX8_count 84 = .ok (.ireturn, 1) := by decide +kernel
theorem dX8_count_85 : decode cX8_count 85 = .ok (.aload_n 0, 1) := by decide +kernel
theorem dX8_count_86 : decode cX8_count 86 = .ok (.getfield 12, 3) := by decide +kernel
theorem dX8_count_89 : decode cX8_count 89 = .ok (.getfield 97, 3) := by decide +kernel
theorem dX8_count_92 : decode cX8_count 92 = .ok (.getfield 79, 3) := by decide +kernel
theorem dX8_count_95 : decode cX8_count 95 = .ok (.ireturn, 1) := by decide +kernel
theorem dX8_count_96 : decode cX8_count 96 = .ok (.aload_n 0, 1) := by decide +kernel
theorem dX8_count_97 : decode cX8_count 97 = .ok (.getfield 12, 3) := by decide +kernel
theorem dX8_count_100 : decode cX8_count 100 = .ok (.getfield 109, 3) := by decide +kernel
theorem dX8_count_103 : decode cX8_count 103 = .ok (.getfield 117, 3) := by decide +kernel
theorem dX8_count_106 : decode cX8_count 106 = .ok (.ireturn, 1) := by decide +kernel
theorem dX8_count_107 : decode cX8_count 107 = .ok (.aload_n 0, 1) := by decide +kernel
theorem dX8_count_108 : decode cX8_count 108 = .ok (.getfield 12, 3) := by decide +kernel
theorem dX8_count_111 : decode cX8_count 111 = .ok (.getfield 120, 3) := by decide +kernel
theorem dX8_count_114 : decode cX8_count 114 = .ok (.getfield 117, 3) := by decide +kernel
theorem dX8_count_117 : decode cX8_count 117 = .ok (.ireturn, 1) := by decide +kernel
theorem dX8_count_118 : decode cX8_count 118 = .ok (.aload_n 0, 1) := by decide +kernel
theorem dX8_count_119 : decode cX8_count 119 = .ok (.getfield 21, 3) := by decide +kernel
theorem dX8_count_122 : decode cX8_count 122 = .ok (.getfield 117, 3) := by decide +kernel
theorem dX8_count_125 : decode cX8_count 125 = .ok (.ireturn, 1) := by decide +kernel
theorem dX8_count_126 : decode cX8_count 126 = .ok (.aload_n 0, 1) := by decide +kernel
theorem dX8_count_127 : decode cX8_count 127 = .ok (.getfield 12, 3) := by decide +kernel
theorem dX8_count_130 : decode cX8_count 130 = .ok (.invokevirtual 292, 3) := by decide +kernel
theorem dX8_count_133 : decode cX8_count 133 = .ok (.ireturn, 1) := by decide +kernel
theorem dX8_count_134 : decode cX8_count 134 = .ok (.aload_n 0, 1) := by decide +kernel
theorem dX8_count_135 : decode cX8_count 135 = .ok (.getfield 57, 3) := by decide +kernel
theorem dX8_count_138 : decode cX8_count 138 = .ok (.ireturn, 1) := by decide +kernel
theorem dX8_count_139 : decode cX8_count 139 = .ok (.bipush (-2), 2) := by decide +kernel
theorem dX8_count_141 : decode cX8_count 141 = .ok (.ireturn, 1) := by decide +kernel
theorem dX8_digest_0 : decode cX8_digest 0 = .ok (.ldc2_w 295, 3) := by decide +kernel
theorem dX8_digest_3 : decode cX8_digest 3 = .ok (.lstore_n 1, 1) := by decide +kernel
theorem dX8_digest_4 : decode cX8_digest 4 = .ok (.iconst 0, 1) := by decide +kernel
theorem dX8_digest_5 : decode cX8_digest 5 = .ok (.istore_n 3, 1) := by decide +kernel
theorem dX8_digest_6 : decode cX8_digest 6 = .ok (.iload_n 3, 1) := by decide +kernel
theorem dX8_digest_7 : decode cX8_digest 7 = .ok (.bipush 8, 2) := by decide +kernel
theorem dX8_digest_9 : decode cX8_digest 9 = .ok (.if_icmp .ge 22, 3) := by decide +kernel
theorem dX8_digest_12 : decode cX8_digest 12 = .ok (.ldc2_w 297, 3) := by decide +kernel
theorem dX8_digest_15 : decode cX8_digest 15 = .ok (.lload_n 1, 1) := by decide +kernel
theorem dX8_digest_16 : decode cX8_digest 16 = .ok (.lmul, 1) := by decide +kernel
theorem dX8_digest_17 : decode cX8_digest 17 = .ok (.aload_n 0, 1) := by decide +kernel
theorem dX8_digest_18 : decode cX8_digest 18 = .ok (.iload_n 3, 1) := by decide +kernel
theorem dX8_digest_19 : decode cX8_digest 19 = .ok (.invokevirtual 299, 3) := by decide +kernel
theorem dX8_digest_22 : decode cX8_digest 22 = .ok (.i2l, 1) := by decide +kernel
theorem dX8_digest_23 : decode cX8_digest 23 = .ok (.ladd, 1) := by decide +kernel
theorem dX8_digest_24 : decode cX8_digest 24 = .ok (.lstore_n 1, 1) := by decide +kernel
theorem dX8_digest_25 : decode cX8_digest 25 = .ok (.iinc 3 1, 3) := by decide +kernel
theorem dX8_digest_28 : decode cX8_digest 28 = .ok (.goto (-22), 3) := by decide +kernel
theorem dX8_digest_31 : decode cX8_digest 31 = .ok (.ldc2_w 297, 3) := by decide +kernel
theorem dX8_digest_34 : decode cX8_digest 34 = .ok (.lload_n 1, 1) := by decide +kernel
theorem dX8_digest_35 : decode cX8_digest 35 = .ok (.lmul, 1) := by decide +kernel
theorem dX8_digest_36 : decode cX8_digest 36 = .ok (.aload_n 0, 1) := by decide +kernel
theorem dX8_digest_37 : decode cX8_digest 37 = .ok (.iconst 0, 1) := by decide +kernel
theorem dX8_digest_38 : decode cX8_digest 38 = .ok (.invokevirtual 302, 3) := by decide +kernel
theorem dX8_digest_41 : decode cX8_digest 41 = .ok (.i2l, 1) := by decide +kernel
theorem dX8_digest_42 : decode cX8_digest 42 = .ok (.ladd, 1) := by decide +kernel
theorem dX8_digest_43 : decode cX8_digest 43 = .ok (.lstore_n 1, 1) := by decide +kernel
theorem dX8_digest_44 : decode cX8_digest 44 = .ok (.ldc2_w 297, 3) := by decide +kernel
theorem dX8_digest_47 : decode cX8_digest 47 = .ok (.lload_n 1, 1) := by decide +kernel
theorem dX8_digest_48 : decode cX8_digest 48 = .ok (.lmul, 1) := by decide +kernel
theorem dX8_digest_49 : decode cX8_digest 49 = .ok (.aload_n 0, 1) := by decide +kernel
theorem dX8_digest_50 : decode cX8_digest 50 = .ok (.iconst 1, 1) := by decide +kernel
theorem dX8_digest_51 : decode cX8_digest 51 = .ok (.invokevirtual 302, 3) := by decide +kernel
theorem dX8_digest_54 : decode cX8_digest 54 = .ok (.i2l, 1) := by decide +kernel
theorem dX8_digest_55 : decode cX8_digest 55 = .ok (.ladd, 1) := by decide +kernel
theorem dX8_digest_56 : decode cX8_digest 56 = .ok (.lstore_n 1, 1) := by decide +kernel
theorem dX8_digest_57 : decode cX8_digest 57 = .ok (.iconst 0, 1) := by decide +kernel
theorem dX8_digest_58 : decode cX8_digest 58 = .ok (.istore_n 3, 1) := by decide +kernel
theorem dX8_digest_59 : decode cX8_digest 59 = .ok (.iload_n 3, 1) := by decide +kernel
theorem dX8_digest_60 : decode cX8_digest 60 = .ok (.aload_n 0, 1) := by decide +kernel
theorem dX8_digest_61 : decode cX8_digest 61 = .ok (.getfield 12, 3) := by decide +kernel
theorem dX8_digest_64 : decode cX8_digest 64 = .ok (.getfield 89, 3) := by decide +kernel
theorem dX8_digest_67 : decode cX8_digest 67 = .ok (.getfield 211, 3) := by decide +kernel
theorem dX8_digest_70 : decode cX8_digest 70 = .ok (.if_icmp .ge 194, 3) := by decide +kernel
theorem dX8_digest_73 : decode cX8_digest 73 = .ok (.ldc2_w 297, 3) := by decide +kernel
theorem dX8_digest_76 : decode cX8_digest 76 = .ok (.lload_n 1, 1) := by decide +kernel
theorem dX8_digest_77 : decode cX8_digest 77 = .ok (.lmul, 1) := by decide +kernel
theorem dX8_digest_78 : decode cX8_digest 78 = .ok (.aload_n 0, 1) := by decide +kernel
theorem dX8_digest_79 : decode cX8_digest 79 = .ok (.iload_n 3, 1) := by decide +kernel
theorem dX8_digest_80 : decode cX8_digest 80 = .ok (.iconst 0, 1) := by decide +kernel
theorem dX8_digest_81 : decode cX8_digest 81 = .ok (.invokevirtual 305, 3) := by decide +kernel
theorem dX8_digest_84 : decode cX8_digest 84 = .ok (.i2l, 1) := by decide +kernel
theorem dX8_digest_85 : decode cX8_digest 85 = .ok (.ladd, 1) := by decide +kernel
theorem dX8_digest_86 : decode cX8_digest 86 = .ok (.lstore_n 1, 1) := by decide +kernel
theorem dX8_digest_87 : decode cX8_digest 87 = .ok (.ldc2_w 297, 3) := by decide +kernel
theorem dX8_digest_90 : decode cX8_digest 90 = .ok (.lload_n 1, 1) := by decide +kernel
theorem dX8_digest_91 : decode cX8_digest 91 = .ok (.lmul, 1) := by decide +kernel
theorem dX8_digest_92 : decode cX8_digest 92 = .ok (.aload_n 0, 1) := by decide +kernel
theorem dX8_digest_93 : decode cX8_digest 93 = .ok (.iload_n 3, 1) := by decide +kernel
theorem dX8_digest_94 : decode cX8_digest 94 = .ok (.iconst 1, 1) := by decide +kernel
theorem dX8_digest_95 : decode cX8_digest 95 = .ok (.invokevirtual 305, 3) := by decide +kernel
theorem dX8_digest_98 : decode cX8_digest 98 = .ok (.i2l, 1) := by decide +kernel
theorem dX8_digest_99 : decode cX8_digest 99 = .ok (.ladd, 1) := by decide +kernel
theorem dX8_digest_100 : decode cX8_digest 100 = .ok (.lstore_n 1, 1) := by decide +kernel
theorem dX8_digest_101 : decode cX8_digest 101 = .ok (.ldc2_w 297, 3) := by decide +kernel
theorem dX8_digest_104 : decode cX8_digest 104 = .ok (.lload_n 1, 1) := by decide +kernel
theorem dX8_digest_105 : decode cX8_digest 105 = .ok (.lmul, 1) := by decide +kernel
theorem dX8_digest_106 : decode cX8_digest 106 = .ok (.aload_n 0, 1) := by decide +kernel
theorem dX8_digest_107 : decode cX8_digest 107 = .ok (.iload_n 3, 1) := by decide +kernel
theorem dX8_digest_108 : decode cX8_digest 108 = .ok (.iconst 2, 1) := by decide +kernel
theorem dX8_digest_109 : decode cX8_digest 109 = .ok (.invokevirtual 305, 3) := by decide +kernel
theorem dX8_digest_112 : decode cX8_digest 112 = .ok (.i2l, 1) := by decide +kernel
theorem dX8_digest_113 : decode cX8_digest 113 = .ok (.ladd, 1) := by decide +kernel
theorem dX8_digest_114 : decode cX8_digest 114 = .ok (.lstore_n 1, 1) := by decide +kernel
theorem dX8_digest_115 : decode cX8_digest 115 = .ok (.ldc2_w 297, 3) := by decide +kernel
theorem dX8_digest_118 : decode cX8_digest 118 = .ok (.lload_n 1, 1) := by decide +kernel
theorem dX8_digest_119 : decode cX8_digest 119 = .ok (.lmul, 1) := by decide +kernel
theorem dX8_digest_120 : decode cX8_digest 120 = .ok (.aload_n 0, 1) := by decide +kernel
theorem dX8_digest_121 : decode cX8_digest 121 = .ok (.bipush 9, 2) := by decide +kernel
theorem dX8_digest_123 : decode cX8_digest 123 = .ok (.iload_n 3, 1) := by decide +kernel
theorem dX8_digest_124 : decode cX8_digest 124 = .ok (.iconst (-1), 1) := by decide +kernel
theorem dX8_digest_125 : decode cX8_digest 125 = .ok (.invokevirtual 308, 3) := by decide +kernel
theorem dX8_digest_128 : decode cX8_digest 128 = .ok (.i2l, 1) := by decide +kernel
theorem dX8_digest_129 : decode cX8_digest 129 = .ok (.ladd, 1) := by decide +kernel
theorem dX8_digest_130 : decode cX8_digest 130 = .ok (.lstore_n 1, 1) := by decide +kernel
theorem dX8_digest_131 : decode cX8_digest 131 = .ok (.ldc2_w 297, 3) := by decide +kernel
theorem dX8_digest_134 : decode cX8_digest 134 = .ok (.lload_n 1, 1) := by decide +kernel
theorem dX8_digest_135 : decode cX8_digest 135 = .ok (.lmul, 1) := by decide +kernel
theorem dX8_digest_136 : decode cX8_digest 136 = .ok (.aload_n 0, 1) := by decide +kernel
theorem dX8_digest_137 : decode cX8_digest 137 = .ok (.bipush 9, 2) := by decide +kernel
theorem dX8_digest_139 : decode cX8_digest 139 = .ok (.iload_n 3, 1) := by decide +kernel
theorem dX8_digest_140 : decode cX8_digest 140 = .ok (.iconst 0, 1) := by decide +kernel
theorem dX8_digest_141 : decode cX8_digest 141 = .ok (.invokevirtual 308, 3) := by decide +kernel
theorem dX8_digest_144 : decode cX8_digest 144 = .ok (.i2l, 1) := by decide +kernel
theorem dX8_digest_145 : decode cX8_digest 145 = .ok (.ladd, 1) := by decide +kernel
theorem dX8_digest_146 : decode cX8_digest 146 = .ok (.lstore_n 1, 1) := by decide +kernel
theorem dX8_digest_147 : decode cX8_digest 147 = .ok (.ldc2_w 297, 3) := by decide +kernel
theorem dX8_digest_150 : decode cX8_digest 150 = .ok (.lload_n 1, 1) := by decide +kernel
theorem dX8_digest_151 : decode cX8_digest 151 = .ok (.lmul, 1) := by decide +kernel
theorem dX8_digest_152 : decode cX8_digest 152 = .ok (.aload_n 0, 1) := by decide +kernel
theorem dX8_digest_153 : decode cX8_digest 153 = .ok (.bipush 9, 2) := by decide +kernel
theorem dX8_digest_155 : decode cX8_digest 155 = .ok (.iload_n 3, 1) := by decide +kernel
theorem dX8_digest_156 : decode cX8_digest 156 = .ok (.iconst 0, 1) := by decide +kernel
theorem dX8_digest_157 : decode cX8_digest 157 = .ok (.invokevirtual 310, 3) := by decide +kernel
theorem dX8_digest_160 : decode cX8_digest 160 = .ok (.i2l, 1) := by decide +kernel
theorem dX8_digest_161 : decode cX8_digest 161 = .ok (.ladd, 1) := by decide +kernel
theorem dX8_digest_162 : decode cX8_digest 162 = .ok (.lstore_n 1, 1) := by decide +kernel
theorem dX8_digest_163 : decode cX8_digest 163 = .ok (.ldc2_w 297, 3) := by decide +kernel
theorem dX8_digest_166 : decode cX8_digest 166 = .ok (.lload_n 1, 1) := by decide +kernel
theorem dX8_digest_167 : decode cX8_digest 167 = .ok (.lmul, 1) := by decide +kernel
theorem dX8_digest_168 : decode cX8_digest 168 = .ok (.aload_n 0, 1) := by decide +kernel
theorem dX8_digest_169 : decode cX8_digest 169 = .ok (.iload_n 3, 1) := by decide +kernel
theorem dX8_digest_170 : decode cX8_digest 170 = .ok (.iconst 0, 1) := by decide +kernel
theorem dX8_digest_171 : decode cX8_digest 171 = .ok (.invokevirtual 313, 3) := by decide +kernel
theorem dX8_digest_174 : decode cX8_digest 174 = .ok (.i2l, 1) := by decide +kernel
theorem dX8_digest_175 : decode cX8_digest 175 = .ok (.ladd, 1) := by decide +kernel
theorem dX8_digest_176 : decode cX8_digest 176 = .ok (.lstore_n 1, 1) := by decide +kernel
theorem dX8_digest_177 : decode cX8_digest 177 = .ok (.ldc2_w 297, 3) := by decide +kernel
theorem dX8_digest_180 : decode cX8_digest 180 = .ok (.lload_n 1, 1) := by decide +kernel
theorem dX8_digest_181 : decode cX8_digest 181 = .ok (.lmul, 1) := by decide +kernel
theorem dX8_digest_182 : decode cX8_digest 182 = .ok (.aload_n 0, 1) := by decide +kernel
theorem dX8_digest_183 : decode cX8_digest 183 = .ok (.iconst 5, 1) := by decide +kernel
theorem dX8_digest_184 : decode cX8_digest 184 = .ok (.iload_n 3, 1) := by decide +kernel
theorem dX8_digest_185 : decode cX8_digest 185 = .ok (.iconst 0, 1) := by decide +kernel
theorem dX8_digest_186 : decode cX8_digest 186 = .ok (.iconst 4, 1) := by decide +kernel
theorem dX8_digest_187 : decode cX8_digest 187 = .ok (.iconst 0, 1) := by decide +kernel
theorem dX8_digest_188 : decode cX8_digest 188 = .ok (.invokevirtual 316, 3) := by decide +kernel
theorem dX8_digest_191 : decode cX8_digest 191 = .ok (.ladd, 1) := by decide +kernel
theorem dX8_digest_192 : decode cX8_digest 192 = .ok (.lstore_n 1, 1) := by decide +kernel
theorem dX8_digest_193 : decode cX8_digest 193 = .ok (.ldc2_w 297, 3) := by decide +kernel
theorem dX8_digest_196 : decode cX8_digest 196 = .ok (.lload_n 1, 1) := by decide +kernel
theorem dX8_digest_197 : decode cX8_digest 197 = .ok (.lmul, 1) := by decide +kernel
theorem dX8_digest_198 : decode cX8_digest 198 = .ok (.aload_n 0, 1) := by decide +kernel
theorem dX8_digest_199 : decode cX8_digest 199 = .ok (.iconst 5, 1) := by decide +kernel
theorem dX8_digest_200 : decode cX8_digest 200 = .ok (.iload_n 3, 1) := by decide +kernel
theorem dX8_digest_201 : decode cX8_digest 201 = .ok (.iconst 0, 1) := by decide +kernel
theorem dX8_digest_202 : decode cX8_digest 202 = .ok (.iconst 4, 1) := by decide +kernel
theorem dX8_digest_203 : decode cX8_digest 203 = .ok (.iconst 1, 1) := by decide +kernel
theorem dX8_digest_204 : decode cX8_digest 204 = .ok (.invokevirtual 316, 3) := by decide +kernel
theorem dX8_digest_207 : decode cX8_digest 207 = .ok (.ladd, 1) := by decide +kernel
theorem dX8_digest_208 : decode cX8_digest 208 = .ok (.lstore_n 1, 1) := by decide +kernel
theorem dX8_digest_209 : decode cX8_digest 209 = .ok (.ldc2_w 297, 3) := by decide +kernel
theorem dX8_digest_212 : decode cX8_digest 212 = .ok (.lload_n 1, 1) := by decide +kernel
theorem dX8_digest_213 : decode cX8_digest 213 = .ok (.lmul, 1) := by decide +kernel
theorem dX8_digest_214 : decode cX8_digest 214 = .ok (.aload_n 0, 1) := by decide +kernel
theorem dX8_digest_215 : decode cX8_digest 215 = .ok (.bipush 21, 2) := by decide +kernel
theorem dX8_digest_217 : decode cX8_digest 217 = .ok (.iload_n 3, 1) := by decide +kernel
theorem dX8_digest_218 : decode cX8_digest 218 = .ok (.iconst 1, 1) := by decide +kernel
theorem dX8_digest_219 : decode cX8_digest 219 = .ok (.iconst 0, 1) := by decide +kernel
theorem dX8_digest_220 : decode cX8_digest 220 = .ok (.invokevirtual 320, 3) := by decide +kernel
theorem dX8_digest_223 : decode cX8_digest 223 = .ok (.ladd, 1) := by decide +kernel
theorem dX8_digest_224 : decode cX8_digest 224 = .ok (.lstore_n 1, 1) := by decide +kernel
theorem dX8_digest_225 : decode cX8_digest 225 = .ok (.ldc2_w 297, 3) := by decide +kernel
theorem dX8_digest_228 : decode cX8_digest 228 = .ok (.lload_n 1, 1) := by decide +kernel
theorem dX8_digest_229 : decode cX8_digest 229 = .ok (.lmul, 1) := by decide +kernel
theorem dX8_digest_230 : decode cX8_digest 230 = .ok (.aload_n 0, 1) := by decide +kernel
theorem dX8_digest_231 : decode cX8_digest 231 = .ok (.bipush 21, 2) := by decide +kernel
theorem dX8_digest_233 : decode cX8_digest 233 = .ok (.iload_n 3, 1) := by decide +kernel
theorem dX8_digest_234 : decode cX8_digest 234 = .ok (.iconst 1, 1) := by decide +kernel
theorem dX8_digest_235 : decode cX8_digest 235 = .ok (.iconst 1, 1) := by decide +kernel
theorem dX8_digest_236 : decode cX8_digest 236 = .ok (.invokevirtual 320, 3) := by decide +kernel
theorem dX8_digest_239 : decode cX8_digest 239 = .ok (.ladd, 1) := by decide +kernel
theorem dX8_digest_240 : decode cX8_digest 240 = .ok (.lstore_n 1, 1) := by decide +kernel
theorem dX8_digest_241 : decode cX8_digest 241 = .ok (.ldc2_w 297, 3) := by decide +kernel
theorem dX8_digest_244 : decode cX8_digest 244 = .ok (.lload_n 1, 1) := by decide +kernel
theorem dX8_digest_245 : decode cX8_digest 245 = .ok (.lmul, 1) := by decide +kernel
theorem dX8_digest_246 : decode cX8_digest 246 = .ok (.aload_n 0, 1) := by decide +kernel
theorem dX8_digest_247 : decode cX8_digest 247 = .ok (.bipush 7, 2) := by decide +kernel
theorem dX8_digest_249 : decode cX8_digest 249 = .ok (.bipush 12, 2) := by decide +kernel
theorem dX8_digest_251 : decode cX8_digest 251 = .ok (.iload_n 3, 1) := by decide +kernel
theorem dX8_digest_252 : decode cX8_digest 252 = .ok (.invokevirtual 324, 3) := by decide +kernel
theorem dX8_digest_255 : decode cX8_digest 255 = .ok (.i2l, 1) := by decide +kernel
theorem dX8_digest_256 : decode cX8_digest 256 = .ok (.ladd, 1) := by decide +kernel
theorem dX8_digest_257 : decode cX8_digest 257 = .ok (.lstore_n 1, 1) := by decide +kernel
theorem dX8_digest_258 : decode cX8_digest 258 = .ok (.iinc 3 1, 3) := by decide +kernel
theorem dX8_digest_261 : decode cX8_digest 261 = .ok (.goto (-202), 3) := by decide +kernel
theorem dX8_digest_264 : decode cX8_digest 264 = .ok (.iconst 0, 1) := by decide +kernel
theorem dX8_digest_265 : decode cX8_digest 265 = .ok (.istore_n 3, 1) := by decide +kernel
theorem dX8_digest_266 : decode cX8_digest 266 = .ok (.iload_n 3, 1) := by decide +kernel
theorem dX8_digest_267 : decode cX8_digest 267 = .ok (.aload_n 0, 1) := by decide +kernel
theorem dX8_digest_268 : decode cX8_digest 268 = .ok (.getfield 12, 3) := by decide +kernel
theorem dX8_digest_271 : decode cX8_digest 271 = .ok (.getfield 97, 3) := by decide +kernel
theorem dX8_digest_274 : decode cX8_digest 274 = .ok (.getfield 211, 3) := by decide +kernel
theorem dX8_digest_277 : decode cX8_digest 277 = .ok (.if_icmp .ge 97, 3) := by decide +kernel
theorem dX8_digest_280 : decode cX8_digest 280 = .ok (.ldc2_w 297, 3) := by decide +kernel
theorem dX8_digest_283 : decode cX8_digest 283 = .ok (.lload_n 1, 1) := by decide +kernel
theorem dX8_digest_284 : decode cX8_digest 284 = .ok (.lmul, 1) := by decide +kernel
theorem dX8_digest_285 : decode cX8_digest 285 = .ok (.aload_n 0, 1) := by decide +kernel
theorem dX8_digest_286 : decode cX8_digest 286 = .ok (.iload_n 3, 1) := by decide +kernel
theorem dX8_digest_287 : decode cX8_digest 287 = .ok (.iconst 0, 1) := by decide +kernel
theorem dX8_digest_288 : decode cX8_digest 288 = .ok (.invokevirtual 327, 3) := by decide +kernel
theorem dX8_digest_291 : decode cX8_digest 291 = .ok (.i2l, 1) := by decide +kernel
theorem dX8_digest_292 : decode cX8_digest 292 = .ok (.ladd, 1) := by decide +kernel
theorem dX8_digest_293 : decode cX8_digest 293 = .ok (.lstore_n 1, 1) := by decide +kernel
theorem dX8_digest_294 : decode cX8_digest 294 = .ok (.ldc2_w 297, 3) := by decide +kernel
theorem dX8_digest_297 : decode cX8_digest 297 = .ok (.lload_n 1, 1) := by decide +kernel
theorem dX8_digest_298 : decode cX8_digest 298 = .ok (.lmul, 1) := by decide +kernel
theorem dX8_digest_299 : decode cX8_digest 299 = .ok (.aload_n 0, 1) := by decide +kernel
theorem dX8_digest_300 : decode cX8_digest 300 = .ok (.iload_n 3, 1) := by decide +kernel
theorem dX8_digest_301 : decode cX8_digest 301 = .ok (.iconst 1, 1) := by decide +kernel
theorem dX8_digest_302 : decode cX8_digest 302 = .ok (.invokevirtual 327, 3) := by decide +kernel
theorem dX8_digest_305 : decode cX8_digest 305 = .ok (.i2l, 1) := by decide +kernel
theorem dX8_digest_306 : decode cX8_digest 306 = .ok (.ladd, 1) := by decide +kernel
theorem dX8_digest_307 : decode cX8_digest 307 = .ok (.lstore_n 1, 1) := by decide +kernel
theorem dX8_digest_308 : decode cX8_digest 308 = .ok (.ldc2_w 297, 3) := by decide +kernel
theorem dX8_digest_311 : decode cX8_digest 311 = .ok (.lload_n 1, 1) := by decide +kernel
theorem dX8_digest_312 : decode cX8_digest 312 = .ok (.lmul, 1) := by decide +kernel
theorem dX8_digest_313 : decode cX8_digest 313 = .ok (.aload_n 0, 1) := by decide +kernel
theorem dX8_digest_314 : decode cX8_digest 314 = .ok (.iload_n 3, 1) := by decide +kernel
theorem dX8_digest_315 : decode cX8_digest 315 = .ok (.iconst 2, 1) := by decide +kernel
theorem dX8_digest_316 : decode cX8_digest 316 = .ok (.invokevirtual 327, 3) := by decide +kernel
theorem dX8_digest_319 : decode cX8_digest 319 = .ok (.i2l, 1) := by decide +kernel
theorem dX8_digest_320 : decode cX8_digest 320 = .ok (.ladd, 1) := by decide +kernel
theorem dX8_digest_321 : decode cX8_digest 321 = .ok (.lstore_n 1, 1) := by decide +kernel
theorem dX8_digest_322 : decode cX8_digest 322 = .ok (.ldc2_w 297, 3) := by decide +kernel
theorem dX8_digest_325 : decode cX8_digest 325 = .ok (.lload_n 1, 1) := by decide +kernel
theorem dX8_digest_326 : decode cX8_digest 326 = .ok (.lmul, 1) := by decide +kernel
theorem dX8_digest_327 : decode cX8_digest 327 = .ok (.aload_n 0, 1) := by decide +kernel
theorem dX8_digest_328 : decode cX8_digest 328 = .ok (.iload_n 3, 1) := by decide +kernel
theorem dX8_digest_329 : decode cX8_digest 329 = .ok (.iconst 3, 1) := by decide +kernel
theorem dX8_digest_330 : decode cX8_digest 330 = .ok (.iconst 5, 1) := by decide +kernel
theorem dX8_digest_331 : decode cX8_digest 331 = .ok (.iconst (-1), 1) := by decide +kernel
theorem dX8_digest_332 : decode cX8_digest 332 = .ok (.invokevirtual 330, 3) := by decide +kernel
theorem dX8_digest_335 : decode cX8_digest 335 = .ok (.i2l, 1) := by decide +kernel
theorem dX8_digest_336 : decode cX8_digest 336 = .ok (.ladd, 1) := by decide +kernel
theorem dX8_digest_337 : decode cX8_digest 337 = .ok (.lstore_n 1, 1) := by decide +kernel
theorem dX8_digest_338 : decode cX8_digest 338 = .ok (.ldc2_w 297, 3) := by decide +kernel
theorem dX8_digest_341 : decode cX8_digest 341 = .ok (.lload_n 1, 1) := by decide +kernel
theorem dX8_digest_342 : decode cX8_digest 342 = .ok (.lmul, 1) := by decide +kernel
theorem dX8_digest_343 : decode cX8_digest 343 = .ok (.aload_n 0, 1) := by decide +kernel
theorem dX8_digest_344 : decode cX8_digest 344 = .ok (.iload_n 3, 1) := by decide +kernel
theorem dX8_digest_345 : decode cX8_digest 345 = .ok (.iconst 3, 1) := by decide +kernel
theorem dX8_digest_346 : decode cX8_digest 346 = .ok (.iconst 5, 1) := by decide +kernel
theorem dX8_digest_347 : decode cX8_digest 347 = .ok (.iconst 0, 1) := by decide +kernel
theorem dX8_digest_348 : decode cX8_digest 348 = .ok (.invokevirtual 330, 3) := by decide +kernel
theorem dX8_digest_351 : decode cX8_digest 351 = .ok (.i2l, 1) := by decide +kernel
theorem dX8_digest_352 : decode cX8_digest 352 = .ok (.ladd, 1) := by decide +kernel
theorem dX8_digest_353 : decode cX8_digest 353 = .ok (.lstore_n 1, 1) := by decide +kernel
theorem dX8_digest_354 : decode cX8_digest 354 = .ok (.ldc2_w 297, 3) := by decide +kernel
theorem dX8_digest_357 : decode cX8_digest 357 = .ok (.lload_n 1, 1) := by decide +kernel
theorem dX8_digest_358 : decode cX8_digest 358 = .ok (.lmul, 1) := by decide +kernel
theorem dX8_digest_359 : decode cX8_digest 359 = .ok (.aload_n 0, 1) := by decide +kernel
theorem dX8_digest_360 : decode cX8_digest 360 = .ok (.iload_n 3, 1) := by decide +kernel
theorem dX8_digest_361 : decode cX8_digest 361 = .ok (.iconst 0, 1) := by decide +kernel
theorem dX8_digest_362 : decode cX8_digest 362 = .ok (.invokevirtual 334, 3) := by decide +kernel
theorem dX8_digest_365 : decode cX8_digest 365 = .ok (.i2l, 1) := by decide +kernel
theorem dX8_digest_366 : decode cX8_digest 366 = .ok (.ladd, 1) := by decide +kernel
theorem dX8_digest_367 : decode cX8_digest 367 = .ok (.lstore_n 1, 1) := by decide +kernel
theorem dX8_digest_368 : decode cX8_digest 368 = .ok (.iinc 3 1, 3) := by decide +kernel
theorem dX8_digest_371 : decode cX8_digest 371 = .ok (.goto (-105), 3) := by decide +kernel
theorem dX8_digest_374 : decode cX8_digest 374 = .ok (.getstatic 337, 3) := by decide +kernel
theorem dX8_digest_377 : decode cX8_digest 377 = .ok (.astore_n 3, 1) := by decide +kernel
theorem dX8_digest_378 : decode cX8_digest 378 = .ok (.aload_n 3, 1) := by decide +kernel
theorem dX8_digest_379 : decode cX8_digest 379 = .ok (.arraylength, 1) := by decide +kernel
theorem dX8_digest_380 : decode cX8_digest 380 = .ok (.istore 4, 2) := by decide +kernel
theorem dX8_digest_382 : decode cX8_digest 382 = .ok (.iconst 0, 1) := by decide +kernel
theorem dX8_digest_383 : decode cX8_digest 383 = .ok (.istore 5, 2) := by decide +kernel
theorem dX8_digest_385 : decode cX8_digest 385 = .ok (.iload 5, 2) := by decide +kernel
theorem dX8_digest_387 : decode cX8_digest 387 = .ok (.iload 4, 2) := by decide +kernel
theorem dX8_digest_389 : decode cX8_digest 389 = .ok (.if_icmp .ge 58, 3) := by decide +kernel
theorem dX8_digest_392 : decode cX8_digest 392 = .ok (.aload_n 3, 1) := by decide +kernel
theorem dX8_digest_393 : decode cX8_digest 393 = .ok (.iload 5, 2) := by decide +kernel
theorem dX8_digest_395 : decode cX8_digest 395 = .ok (.iaload, 1) := by decide +kernel
theorem dX8_digest_396 : decode cX8_digest 396 = .ok (.istore 6, 2) := by decide +kernel
theorem dX8_digest_398 : decode cX8_digest 398 = .ok (.ldc2_w 297, 3) := by decide +kernel
theorem dX8_digest_401 : decode cX8_digest 401 = .ok (.lload_n 1, 1) := by decide +kernel
theorem dX8_digest_402 : decode cX8_digest 402 = .ok (.lmul, 1) := by decide +kernel
theorem dX8_digest_403 : decode cX8_digest 403 = .ok (.aload_n 0, 1) := by decide +kernel
theorem dX8_digest_404 : decode cX8_digest 404 = .ok (.iload 6, 2) := by decide +kernel
theorem dX8_digest_406 : decode cX8_digest 406 = .ok (.iconst (-1), 1) := by decide +kernel
theorem dX8_digest_407 : decode cX8_digest 407 = .ok (.invokevirtual 340, 3) := by decide +kernel
theorem dX8_digest_410 : decode cX8_digest 410 = .ok (.i2l, 1) := by decide +kernel
theorem dX8_digest_411 : decode cX8_digest 411 = .ok (.ladd, 1) := by decide +kernel
theorem dX8_digest_412 : decode cX8_digest 412 = .ok (.lstore_n 1, 1) := by decide +kernel
theorem dX8_digest_413 : decode cX8_digest 413 = .ok (.ldc2_w 297, 3) := by decide +kernel
theorem dX8_digest_416 : decode cX8_digest 416 = .ok (.lload_n 1, 1) := by decide +kernel
theorem dX8_digest_417 : decode cX8_digest 417 = .ok (.lmul, 1) := by decide +kernel
theorem dX8_digest_418 : decode cX8_digest 418 = .ok (.aload_n 0, 1) := by decide +kernel
theorem dX8_digest_419 : decode cX8_digest 419 = .ok (.iload 6, 2) := by decide +kernel
theorem dX8_digest_421 : decode cX8_digest 421 = .ok (.invokevirtual 343, 3) := by decide +kernel
theorem dX8_digest_424 : decode cX8_digest 424 = .ok (.i2l, 1) := by decide +kernel
theorem dX8_digest_425 : decode cX8_digest 425 = .ok (.ladd, 1) := by decide +kernel
theorem dX8_digest_426 : decode cX8_digest 426 = .ok (.lstore_n 1, 1) := by decide +kernel
theorem dX8_digest_427 : decode cX8_digest 427 = .ok (.ldc2_w 297, 3) := by decide +kernel
theorem dX8_digest_430 : decode cX8_digest 430 = .ok (.lload_n 1, 1) := by decide +kernel
theorem dX8_digest_431 : decode cX8_digest 431 = .ok (.lmul, 1) := by decide +kernel
theorem dX8_digest_432 : decode cX8_digest 432 = .ok (.aload_n 0, 1) := by decide +kernel
theorem dX8_digest_433 : decode cX8_digest 433 = .ok (.iload 6, 2) := by decide +kernel
theorem dX8_digest_435 : decode cX8_digest 435 = .ok (.invokevirtual 346, 3) := by decide +kernel
theorem dX8_digest_438 : decode cX8_digest 438 = .ok (.i2l, 1) := by decide +kernel
theorem dX8_digest_439 : decode cX8_digest 439 = .ok (.ladd, 1) := by decide +kernel
theorem dX8_digest_440 : decode cX8_digest 440 = .ok (.lstore_n 1, 1) := by decide +kernel
theorem dX8_digest_441 : decode cX8_digest 441 = .ok (.iinc 5 1, 3) := by decide +kernel
theorem dX8_digest_444 : decode cX8_digest 444 = .ok (.goto (-59), 3) := by decide +kernel
theorem dX8_digest_447 : decode cX8_digest 447 = .ok (.iconst 0, 1) := by decide +kernel
theorem dX8_digest_448 : decode cX8_digest 448 = .ok (.istore_n 3, 1) := by decide +kernel
theorem dX8_digest_449 : decode cX8_digest 449 = .ok (.iload_n 3, 1) := by decide +kernel
theorem dX8_digest_450 : decode cX8_digest 450 = .ok (.aload_n 0, 1) := by decide +kernel
theorem dX8_digest_451 : decode cX8_digest 451 = .ok (.getfield 12, 3) := by decide +kernel
theorem dX8_digest_454 : decode cX8_digest 454 = .ok (.getfield 109, 3) := by decide +kernel
theorem dX8_digest_457 : decode cX8_digest 457 = .ok (.getfield 117, 3) := by decide +kernel
theorem dX8_digest_460 : decode cX8_digest 460 = .ok (.if_icmp .ge 37, 3) := by decide +kernel
theorem dX8_digest_463 : decode cX8_digest 463 = .ok (.ldc2_w 297, 3) := by decide +kernel
theorem dX8_digest_466 : decode cX8_digest 466 = .ok (.lload_n 1, 1) := by decide +kernel
theorem dX8_digest_467 : decode cX8_digest 467 = .ok (.lmul, 1) := by decide +kernel
theorem dX8_digest_468 : decode cX8_digest 468 = .ok (.aload_n 0, 1) := by decide +kernel
theorem dX8_digest_469 : decode cX8_digest 469 = .ok (.iload_n 3, 1) := by decide +kernel
theorem dX8_digest_470 : decode cX8_digest 470 = .ok (.invokevirtual 349, 3) := by decide +kernel
theorem dX8_digest_473 : decode cX8_digest 473 = .ok (.i2l, 1) := by decide +kernel
theorem dX8_digest_474 : decode cX8_digest 474 = .ok (.ladd, 1) := by decide +kernel
theorem dX8_digest_475 : decode cX8_digest 475 = .ok (.lstore_n 1, 1) := by decide +kernel
theorem dX8_digest_476 : decode cX8_digest 476 = .ok (.ldc2_w 297, 3) := by decide +kernel
theorem dX8_digest_479 : decode cX8_digest 479 = .ok (.lload_n 1, 1) := by decide +kernel
theorem dX8_digest_480 : decode cX8_digest 480 = .ok (.lmul, 1) := by decide +kernel
theorem dX8_digest_481 : decode cX8_digest 481 = .ok (.aload_n 0, 1) := by decide +kernel
theorem dX8_digest_482 : decode cX8_digest 482 = .ok (.iload_n 3, 1) := by decide +kernel
theorem dX8_digest_483 : decode cX8_digest 483 = .ok (.bipush 9, 2) := by decide +kernel
theorem dX8_digest_485 : decode cX8_digest 485 = .ok (.invokevirtual 352, 3) := by decide +kernel
theorem dX8_digest_488 : decode cX8_digest 488 = .ok (.i2l, 1) := by decide +kernel
theorem dX8_digest_489 : decode cX8_digest 489 = .ok (.ladd, 1) := by decide +kernel
theorem dX8_digest_490 : decode cX8_digest 490 = .ok (.lstore_n 1, 1) := by decide +kernel
theorem dX8_digest_491 : decode cX8_digest 491 = .ok (.iinc 3 1, 3) := by decide +kernel
theorem dX8_digest_494 : decode cX8_digest 494 = .ok (.goto (-45), 3) := by decide +kernel
theorem dX8_digest_497 : decode cX8_digest 497 = .ok (.ldc2_w 297, 3) := by decide +kernel
theorem dX8_digest_500 : decode cX8_digest 500 = .ok (.lload_n 1, 1) := by decide +kernel
theorem dX8_digest_501 : decode cX8_digest 501 = .ok (.lmul, 1) := by decide +kernel
theorem dX8_digest_502 : decode cX8_digest 502 = .ok (.aload_n 0, 1) := by decide +kernel
theorem dX8_digest_503 : decode cX8_digest 503 = .ok (.iconst (-1), 1) := by decide +kernel
theorem dX8_digest_504 : decode cX8_digest 504 = .ok (.invokevirtual 355, 3) := by decide +kernel
theorem dX8_digest_507 : decode cX8_digest 507 = .ok (.i2l, 1) := by decide +kernel
theorem dX8_digest_508 : decode cX8_digest 508 = .ok (.ladd, 1) := by decide +kernel
theorem dX8_digest_509 : decode cX8_digest 509 = .ok (.lstore_n 1, 1) := by decide +kernel
theorem dX8_digest_510 : decode cX8_digest 510 = .ok (.ldc2_w 297, 3) := by decide +kernel
theorem dX8_digest_513 : decode cX8_digest 513 = .ok (.lload_n 1, 1) := by decide +kernel
theorem dX8_digest_514 : decode cX8_digest 514 = .ok (.lmul, 1) := by decide +kernel
theorem dX8_digest_515 : decode cX8_digest 515 = .ok (.aload_n 0, 1) := by decide +kernel
theorem dX8_digest_516 : decode cX8_digest 516 = .ok (.iconst 0, 1) := by decide +kernel
theorem dX8_digest_517 : decode cX8_digest 517 = .ok (.invokevirtual 355, 3) := by decide +kernel
theorem dX8_digest_520 : decode cX8_digest 520 = .ok (.i2l, 1) := by decide +kernel
theorem dX8_digest_521 : decode cX8_digest 521 = .ok (.ladd, 1) := by decide +kernel
theorem dX8_digest_522 : decode cX8_digest 522 = .ok (.lstore_n 1, 1) := by decide +kernel
theorem dX8_digest_523 : decode cX8_digest 523 = .ok (.ldc2_w 297, 3) := by decide +kernel
theorem dX8_digest_526 : decode cX8_digest 526 = .ok (.lload_n 1, 1) := by decide +kernel
theorem dX8_digest_527 : decode cX8_digest 527 = .ok (.lmul, 1) := by decide +kernel
theorem dX8_digest_528 : decode cX8_digest 528 = .ok (.aload_n 0, 1) := by decide +kernel
theorem dX8_digest_529 : decode cX8_digest 529 = .ok (.iconst 0, 1) := by decide +kernel
theorem dX8_digest_530 : decode cX8_digest 530 = .ok (.iconst 3, 1) := by decide +kernel
theorem dX8_digest_531 : decode cX8_digest 531 = .ok (.iconst 2, 1) := by decide +kernel
theorem dX8_digest_532 : decode cX8_digest 532 = .ok (.iconst 4, 1) := by decide +kernel
theorem dX8_digest_533 : decode cX8_digest 533 = .ok (.iconst (-1), 1) := by decide +kernel
theorem dX8_digest_534 : decode cX8_digest 534 = .ok (.invokevirtual 358, 3) := by decide +kernel
theorem dX8_digest_537 : decode cX8_digest 537 = .ok (.i2l, 1) := by decide +kernel
theorem dX8_digest_538 : decode cX8_digest 538 = .ok (.ladd, 1) := by decide +kernel
theorem dX8_digest_539 : decode cX8_digest 539 = .ok (.lstore_n 1, 1) := by decide +kernel
theorem dX8_digest_540 : decode cX8_digest 540 = .ok (.ldc2_w 297, 3) := by decide +kernel
theorem dX8_digest_543 : decode cX8_digest 543 = .ok (.lload_n 1, 1) := by decide +kernel
theorem dX8_digest_544 : decode cX8_digest 544 = .ok (.lmul, 1) := by decide +kernel
theorem dX8_digest_545 : decode cX8_digest 545 = .ok (.aload_n 0, 1) := by decide +kernel
theorem dX8_digest_546 : decode cX8_digest 546 = .ok (.iconst 0, 1) := by decide +kernel
theorem dX8_digest_547 : decode cX8_digest 547 = .ok (.iconst 3, 1) := by decide +kernel
theorem dX8_digest_548 : decode cX8_digest 548 = .ok (.iconst 2, 1) := by decide +kernel
theorem dX8_digest_549 : decode cX8_digest 549 = .ok (.iconst 4, 1) := by decide +kernel
theorem dX8_digest_550 : decode cX8_digest 550 = .ok (.iconst 0, 1) := by decide +kernel
theorem dX8_digest_551 : decode cX8_digest 551 = .ok (.invokevirtual 358, 3) := by decide +kernel
theorem dX8_digest_554 : decode cX8_digest 554 = .ok (.i2l, 1) := by decide +kernel
theorem dX8_digest_555 : decode cX8_digest 555 = .ok (.ladd, 1) := by decide +kernel
theorem dX8_digest_556 : decode cX8_digest 556 = .ok (.lstore_n 1, 1) := by decide +kernel
theorem dX8_digest_557 : decode cX8_digest 557 = .ok (.ldc2_w 297, 3) := by decide +kernel
theorem dX8_digest_560 : decode cX8_digest 560 = .ok (.lload_n 1, 1) := by decide +kernel
theorem dX8_digest_561 : decode cX8_digest 561 = .ok (.lmul, 1) := by decide +kernel
theorem dX8_digest_562 : decode cX8_digest 562 = .ok (.aload_n 0, 1) := by decide +kernel
theorem dX8_digest_563 : decode cX8_digest 563 = .ok (.iconst 1, 1) := by decide +kernel
theorem dX8_digest_564 : decode cX8_digest 564 = .ok (.iconst 4, 1) := by decide +kernel
theorem dX8_digest_565 : decode cX8_digest 565 = .ok (.bipush 6, 2) := by decide +kernel
theorem dX8_digest_567 : decode cX8_digest 567 = .ok (.iconst (-1), 1) := by decide +kernel
theorem dX8_digest_568 : decode cX8_digest 568 = .ok (.invokevirtual 362, 3) := by decide +kernel
theorem dX8_digest_571 : decode cX8_digest 571 = .ok (.i2l, 1) := by decide +kernel
theorem dX8_digest_572 : decode cX8_digest 572 = .ok (.ladd, 1) := by decide +kernel
theorem dX8_digest_573 : decode cX8_digest 573 = .ok (.lstore_n 1, 1) := by decide +kernel
theorem dX8_digest_574 : decode cX8_digest 574 = .ok (.ldc2_w 297, 3) := by decide +kernel
theorem dX8_digest_577 : decode cX8_digest 577 = .ok (.lload_n 1, 1) := by decide +kernel
theorem dX8_digest_578 : decode cX8_digest 578 = .ok (.lmul, 1) := by decide +kernel
theorem dX8_digest_579 : decode cX8_digest 579 = .ok (.aload_n 0, 1) := by decide +kernel
theorem dX8_digest_580 : decode cX8_digest 580 = .ok (.iconst 1, 1) := by decide +kernel
theorem dX8_digest_581 : decode cX8_digest 581 = .ok (.iconst 4, 1) := by decide +kernel
theorem dX8_digest_582 : decode cX8_digest 582 = .ok (.bipush 6, 2) := by decide +kernel
theorem dX8_digest_584 : decode cX8_digest 584 = .ok (.iconst 0, 1) := by decide +kernel
theorem dX8_digest_585 : decode cX8_digest 585 = .ok (.invokevirtual 362, 3) := by decide +kernel
theorem dX8_digest_588 : decode cX8_digest 588 = .ok (.i2l, 1) := by decide +kernel
theorem dX8_digest_589 : decode cX8_digest 589 = .ok (.ladd, 1) := by decide +kernel
theorem dX8_digest_590 : decode cX8_digest 590 = .ok (.lreturn, 1) := by decide +kernel
theorem dX8_textOf_0 : decode cX8_textOf 0 = .ok (.iload_n 1, 1) := by decide +kernel
theorem dX8_textOf_1 : decode cX8_textOf 1 = .ok (.ifCond .ne 13, 3) := by decide +kernel
theorem dX8_textOf_4 : decode cX8_textOf 4 = .ok (.aload_n 0, 1) := by decide +kernel
theorem dX8_textOf_5 : decode cX8_textOf 5 = .ok (.getfield 12, 3) := by decide +kernel
theorem dX8_textOf_8 : decode cX8_textOf 8 = .ok (.getfield 89, 3) := by decide +kernel
theorem dX8_textOf_11 : decode cX8_textOf 11 = .ok (.goto 10, 3) := by decide +kernel
theorem dX8_textOf_14 : decode cX8_textOf 14 = .ok (.aload_n 0, 1) := by decide +kernel
theorem dX8_textOf_15 : decode cX8_textOf 15 = .ok (.getfield 12, 3) := by decide +kernel
theorem dX8_textOf_18 : decode cX8_textOf 18 = .ok (.getfield 97, 3) := by decide +kernel
theorem dX8_textOf_21 : decode cX8_textOf 21 = .ok (.areturn, 1) := by decide +kernel
theorem dX8_finding_0 : decode cX8_finding 0 = .ok (.aload_n 0, 1) := by decide +kernel
theorem dX8_finding_1 : decode cX8_finding 1 = .ok (.iload_n 1, 1) := by decide +kernel
theorem dX8_finding_2 : decode cX8_finding 2 = .ok (.putfield 57, 3) := by decide +kernel
theorem dX8_finding_5 : decode cX8_finding 5 = .ok (.bipush (-10), 2) := by decide +kernel
theorem dX8_finding_7 : decode cX8_finding 7 = .ok (.iload_n 1, 1) := by decide +kernel
theorem dX8_finding_8 : decode cX8_finding 8 = .ok (.isub, 1) := by decide +kernel
theorem dX8_finding_9 : decode cX8_finding 9 = .ok (.ireturn, 1) := by decide +kernel
theorem dX8_noSitting_0 : decode cX8_noSitting 0 = .ok (.iload_n 1, 1) := by decide +kernel
theorem dX8_noSitting_1 : decode cX8_noSitting 1 = .ok (.ifCond .lt 17, 3) := by decide +kernel
theorem dX8_noSitting_4 : decode cX8_noSitting 4 = .ok (.iload_n 1, 1) := by decide +kernel
theorem dX8_noSitting_5 : decode cX8_noSitting 5 = .ok (.aload_n 0, 1) := by decide +kernel
theorem dX8_noSitting_6 : decode cX8_noSitting 6 = .ok (.getfield 12, 3) := by decide +kernel
theorem dX8_noSitting_9 : decode cX8_noSitting 9 = .ok (.getfield 109, 3) := by decide +kernel
theorem dX8_noSitting_12 : decode cX8_noSitting 12 = .ok (.getfield 117, 3) := by decide +kernel
theorem dX8_noSitting_15 : decode cX8_noSitting 15 = .ok (.if_icmp .lt 7, 3) := by decide +kernel
theorem dX8_noSitting_18 : decode cX8_noSitting 18 = .ok (.iconst 1, 1) := by decide +kernel
theorem dX8_noSitting_19 : decode cX8_noSitting 19 = .ok (.goto 4, 3) := by decide +kernel
theorem dX8_noSitting_22 : decode cX8_noSitting 22 = .ok (.iconst 0, 1) := by decide +kernel
theorem dX8_noSitting_23 : decode cX8_noSitting 23 = .ok (.ireturn, 1) := by decide +kernel
theorem dX8_noText_0 : decode cX8_noText 0 = .ok (.iload_n 0, 1) := by decide +kernel
theorem dX8_noText_1 : decode cX8_noText 1 = .ok (.ifCond .eq 12, 3) := by decide +kernel
theorem dX8_noText_4 : decode cX8_noText 4 = .ok (.iload_n 0, 1) := by decide +kernel
theorem dX8_noText_5 : decode cX8_noText 5 = .ok (.iconst 1, 1) := by decide +kernel
theorem dX8_noText_6 : decode cX8_noText 6 = .ok (.if_icmp .eq 7, 3) := by decide +kernel
theorem dX8_noText_9 : decode cX8_noText 9 = .ok (.iconst 1, 1) := by decide +kernel
theorem dX8_noText_10 : decode cX8_noText 10 = .ok (.goto 4, 3) := by decide +kernel
theorem dX8_noText_13 : decode cX8_noText 13 = .ok (.iconst 0, 1) := by decide +kernel
theorem dX8_noText_14 : decode cX8_noText 14 = .ok (.ireturn, 1) := by decide +kernel
theorem dX8_noHour_0 : decode cX8_noHour 0 = .ok (.iload_n 0, 1) := by decide +kernel
theorem dX8_noHour_1 : decode cX8_noHour 1 = .ok (.ifCond .lt 9, 3) := by decide +kernel
theorem dX8_noHour_4 : decode cX8_noHour 4 = .ok (.iload_n 0, 1) := by decide +kernel
theorem dX8_noHour_5 : decode cX8_noHour 5 = .ok (.bipush 24, 2) := by decide +kernel
theorem dX8_noHour_7 : decode cX8_noHour 7 = .ok (.if_icmp .lt 7, 3) := by decide +kernel
theorem dX8_noHour_10 : decode cX8_noHour 10 = .ok (.iconst 1, 1) := by decide +kernel
theorem dX8_noHour_11 : decode cX8_noHour 11 = .ok (.goto 4, 3) := by decide +kernel
theorem dX8_noHour_14 : decode cX8_noHour 14 = .ok (.iconst 0, 1) := by decide +kernel
theorem dX8_noHour_15 : decode cX8_noHour 15 = .ok (.ireturn, 1) := by decide +kernel
theorem dX8_noPersonNumber_0 : decode cX8_noPersonNumber 0 = .ok (.iload_n 0, 1) := by decide +kernel
theorem dX8_noPersonNumber_1 : decode cX8_noPersonNumber 1 = .ok (.ifCond .lt 9, 3) := by decide +kernel
theorem dX8_noPersonNumber_4 : decode cX8_noPersonNumber 4 = .ok (.iload_n 0, 1) := by decide +kernel
theorem dX8_noPersonNumber_5 : decode cX8_noPersonNumber 5 = .ok (.bipush 8, 2) := by decide +kernel
theorem dX8_noPersonNumber_7 : decode cX8_noPersonNumber 7 = .ok (.if_icmp .lt 7, 3) := by decide +kernel
theorem dX8_noPersonNumber_10 : decode cX8_noPersonNumber 10 = .ok (.iconst 1, 1) := by decide +kernel
theorem dX8_noPersonNumber_11 : decode cX8_noPersonNumber 11 = .ok (.goto 4, 3) := by decide +kernel
theorem dX8_noPersonNumber_14 : decode cX8_noPersonNumber 14 = .ok (.iconst 0, 1) := by decide +kernel
theorem dX8_noPersonNumber_15 : decode cX8_noPersonNumber 15 = .ok (.ireturn, 1) := by decide +kernel
theorem dX8_noThingNumber_0 : decode cX8_noThingNumber 0 = .ok (.iload_n 0, 1) := by decide +kernel
theorem dX8_noThingNumber_1 : decode cX8_noThingNumber 1 = .ok (.ifCond .lt 9, 3) := by decide +kernel
theorem dX8_noThingNumber_4 : decode cX8_noThingNumber 4 = .ok (.iload_n 0, 1) := by decide +kernel
theorem dX8_noThingNumber_5 : decode cX8_noThingNumber 5 = .ok (.bipush 6, 2) := by decide +kernel
theorem dX8_noThingNumber_7 : decode cX8_noThingNumber 7 = .ok (.if_icmp .lt 7, 3) := by decide +kernel
theorem dX8_noThingNumber_10 : decode cX8_noThingNumber 10 = .ok (.iconst 1, 1) := by decide +kernel
theorem dX8_noThingNumber_11 : decode cX8_noThingNumber 11 = .ok (.goto 4, 3) := by decide +kernel
theorem dX8_noThingNumber_14 : decode cX8_noThingNumber 14 = .ok (.iconst 0, 1) := by decide +kernel
theorem dX8_noThingNumber_15 : decode cX8_noThingNumber 15 = .ok (.ireturn, 1) := by decide +kernel
theorem dX8_noSmells_0 : decode cX8_noSmells 0 = .ok (.iload_n 0, 1) := by decide +kernel
theorem dX8_noSmells_1 : decode cX8_noSmells 1 = .ok (.ifCond .lt 10, 3) := by decide +kernel
theorem dX8_noSmells_4 : decode cX8_noSmells 4 = .ok (.iload_n 0, 1) := by decide +kernel
theorem dX8_noSmells_5 : decode cX8_noSmells 5 = .ok (.sipush 255, 3) := by decide +kernel
theorem dX8_noSmells_8 : decode cX8_noSmells 8 = .ok (.if_icmp .le 7, 3) := by decide +kernel
theorem dX8_noSmells_11 : decode cX8_noSmells 11 = .ok (.iconst 1, 1) := by decide +kernel
theorem dX8_noSmells_12 : decode cX8_noSmells 12 = .ok (.goto 4, 3) := by decide +kernel
theorem dX8_noSmells_15 : decode cX8_noSmells 15 = .ok (.iconst 0, 1) := by decide +kernel
theorem dX8_noSmells_16 : decode cX8_noSmells 16 = .ok (.ireturn, 1) := by decide +kernel
theorem dX8_noSheet_0 : decode cX8_noSheet 0 = .ok (.iload_n 0, 1) := by decide +kernel
theorem dX8_noSheet_1 : decode cX8_noSheet 1 = .ok (.ifCond .lt 8, 3) := by decide +kernel
theorem dX8_noSheet_4 : decode cX8_noSheet 4 = .ok (.iload_n 0, 1) := by decide +kernel
theorem dX8_noSheet_5 : decode cX8_noSheet 5 = .ok (.iconst 4, 1) := by decide +kernel
theorem dX8_noSheet_6 : decode cX8_noSheet 6 = .ok (.if_icmp .lt 7, 3) := by decide +kernel
theorem dX8_noSheet_9 : decode cX8_noSheet 9 = .ok (.iconst 1, 1) := by decide +kernel
theorem dX8_noSheet_10 : decode cX8_noSheet 10 = .ok (.goto 4, 3) := by decide +kernel
theorem dX8_noSheet_13 : decode cX8_noSheet 13 = .ok (.iconst 0, 1) := by decide +kernel
theorem dX8_noSheet_14 : decode cX8_noSheet 14 = .ok (.ireturn, 1) := by decide +kernel
theorem dX8_noForm_0 : decode cX8_noForm 0 = .ok (.iload_n 0, 1) := by decide +kernel
theorem dX8_noForm_1 : decode cX8_noForm 1 = .ok (.ifCond .lt 8, 3) := by decide +kernel
theorem dX8_noForm_4 : decode cX8_noForm 4 = .ok (.iload_n 0, 1) := by decide +kernel
theorem dX8_noForm_5 : decode cX8_noForm 5 = .ok (.iconst 3, 1) := by decide +kernel
theorem dX8_noForm_6 : decode cX8_noForm 6 = .ok (.if_icmp .lt 7, 3) := by decide +kernel
theorem dX8_noForm_9 : decode cX8_noForm 9 = .ok (.iconst 1, 1) := by decide +kernel
theorem dX8_noForm_10 : decode cX8_noForm 10 = .ok (.goto 4, 3) := by decide +kernel
theorem dX8_noForm_13 : decode cX8_noForm 13 = .ok (.iconst 0, 1) := by decide +kernel
theorem dX8_noForm_14 : decode cX8_noForm 14 = .ok (.ireturn, 1) := by decide +kernel
theorem dX8_holds_0 : decode cX8_holds 0 = .ok (.iload_n 0, 1) := by decide +kernel
theorem dX8_holds_1 : decode cX8_holds 1 = .ok (.iload_n 1, 1) := by decide +kernel
theorem dX8_holds_2 : decode cX8_holds 2 = .ok (.ishr, 1) := by decide +kernel
theorem dX8_holds_3 : decode cX8_holds 3 = .ok (.iconst 1, 1) := by decide +kernel
theorem dX8_holds_4 : decode cX8_holds 4 = .ok (.iand, 1) := by decide +kernel
theorem dX8_holds_5 : decode cX8_holds 5 = .ok (.iconst 1, 1) := by decide +kernel
theorem dX8_holds_6 : decode cX8_holds 6 = .ok (.if_icmp .ne 7, 3) := by decide +kernel
theorem dX8_holds_9 : decode cX8_holds 9 = .ok (.iconst 1, 1) := by decide +kernel
theorem dX8_holds_10 : decode cX8_holds 10 = .ok (.goto 4, 3) := by decide +kernel
theorem dX8_holds_13 : decode cX8_holds 13 = .ok (.iconst 0, 1) := by decide +kernel
theorem dX8_holds_14 : decode cX8_holds 14 = .ok (.ireturn, 1) := by decide +kernel
theorem dX8_longRefusal_0 : decode cX8_longRefusal 0 = .ok (.ldc2_w 365, 3) := by decide +kernel
theorem dX8_longRefusal_3 : decode cX8_longRefusal 3 = .ok (.iload_n 0, 1) := by decide +kernel
theorem dX8_longRefusal_4 : decode cX8_longRefusal 4 = .ok (.i2l, 1) := by decide +kernel
theorem dX8_longRefusal_5 : decode cX8_longRefusal 5 = .ok (.lsub, 1) := by decide +kernel
theorem dX8_longRefusal_6 : decode cX8_longRefusal 6 = .ok (.lreturn, 1) := by decide +kernel
theorem dX8_power_0 : decode cX8_power 0 = .ok (.lconst 1, 1) := by decide +kernel
theorem dX8_power_1 : decode cX8_power 1 = .ok (.lstore_n 2, 1) := by decide +kernel
theorem dX8_power_2 : decode cX8_power 2 = .ok (.iconst 0, 1) := by decide +kernel
theorem dX8_power_3 : decode cX8_power 3 = .ok (.istore 4, 2) := by decide +kernel
theorem dX8_power_5 : decode cX8_power 5 = .ok (.iload 4, 2) := by decide +kernel
theorem dX8_power_7 : decode cX8_power 7 = .ok (.iload_n 1, 1) := by decide +kernel
theorem dX8_power_8 : decode cX8_power 8 = .ok (.if_icmp .ge 14, 3) := by decide +kernel
theorem dX8_power_11 : decode cX8_power 11 = .ok (.lload_n 2, 1) := by decide +kernel
theorem dX8_power_12 : decode cX8_power 12 = .ok (.iload_n 0, 1) := by decide +kernel
theorem dX8_power_13 : decode cX8_power 13 = .ok (.i2l, 1) := by decide +kernel
theorem dX8_power_14 : decode cX8_power 14 = .ok (.lmul, 1) := by decide +kernel
theorem dX8_power_15 : decode cX8_power 15 = .ok (.lstore_n 2, 1) := by decide +kernel
theorem dX8_power_16 : decode cX8_power 16 = .ok (.iinc 4 1, 3) := by decide +kernel
theorem dX8_power_19 : decode cX8_power 19 = .ok (.goto (-14), 3) := by decide +kernel
theorem dX8_power_22 : decode cX8_power 22 = .ok (.lload_n 2, 1) := by decide +kernel
theorem dX8_power_23 : decode cX8_power 23 = .ok (.lreturn, 1) := by decide +kernel
