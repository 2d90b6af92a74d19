theorem dX9_hide_22 : decode cX9_hide 22 = .ok (.iload 4, 2) := by decide +kernel
theorem dX9_hide_24 : decode cX9_hide 24 = .ok (.iconst (-1), 1) := by decide +kernel
theorem dX9_hide_25 : decode cX9_hide 25 = .ok (.iconst 1, 1) := by decide +kernel
theorem dX9_hide_26 : decode cX9_hide 26 = .ok (.invokestatic 97, 3) := by decide +kernel
theorem dX9_hide_29 : decode cX9_hide 29 = .ok (.ifCond .eq 15, 3) := by decide +kernel
theorem dX9_hide_32 : decode cX9_hide 32 = .ok (.aload_n 0, 1) := by decide +kernel
theorem dX9_hide_33 : decode cX9_hide 33 = .ok (.iload_n 1, 1) := by decide +kernel
theorem dX9_hide_34 : decode cX9_hide 34 = .ok (.iload_n 2, 1) := by decide +kernel
theorem dX9_hide_35 : decode cX9_hide 35 = .ok (.iload_n 3, 1) := by decide +kernel
theorem dX9_hide_36 : decode cX9_hide 36 = .ok (.iload 4, 2) := by decide +kernel
theorem dX9_hide_38 : decode cX9_hide 38 = .ok (.invokevirtual 257, 3) := by decide +kernel
theorem dX9_hide_41 : decode cX9_hide 41 = .ok (.goto 5, 3) := by decide +kernel
theorem dX9_hide_44 : decode cX9_hide 44 = .ok (.bipush (-2), 2) := by decide +kernel
theorem dX9_hide_46 : decode cX9_hide 46 = .ok (.ireturn, 1) := by decide +kernel
theorem dX9_frameOf_0 : decode cX9_frameOf 0 = .ok (.aload_n 0, 1) := by decide +kernel
theorem dX9_frameOf_1 : decode cX9_frameOf 1 = .ok (.invokevirtual 127, 3) := by decide +kernel
theorem dX9_frameOf_4 : decode cX9_frameOf 4 = .ok (.aload_n 0, 1) := by decide +kernel
theorem dX9_frameOf_5 : decode cX9_frameOf 5 = .ok (.aload_n 0, 1) := by decide +kernel
theorem dX9_frameOf_6 : decode cX9_frameOf 6 = .ok (.iconst (-1), 1) := by decide +kernel
theorem dX9_frameOf_7 : decode cX9_frameOf 7 = .ok (.iload_n 3, 1) := by decide +kernel
theorem dX9_frameOf_8 : decode cX9_frameOf 8 = .ok (.iload 4, 2) := by decide +kernel
theorem dX9_frameOf_10 : decode cX9_frameOf 10 = .ok (.iload_n 1, 1) := by decide +kernel
theorem dX9_frameOf_11 : decode cX9_frameOf 11 = .ok (.iload_n 2, 1) := by decide +kernel
theorem dX9_frameOf_12 : decode cX9_frameOf 12 = .ok (.invokevirtual 250, 3) := by decide +kernel
theorem dX9_frameOf_15 : decode cX9_frameOf 15 = .ok (.iload 5, 2) := by decide +kernel
theorem dX9_frameOf_17 : decode cX9_frameOf 17 = .ok (.invokevirtual 254, 3) := by decide +kernel
theorem dX9_frameOf_20 : decode cX9_frameOf 20 = .ok (.ireturn, 1) := by decide +kernel
theorem dX9_frame_0 : decode cX9_frame 0 = .ok (.aload_n 0, 1) := by decide +kernel
theorem dX9_frame_1 : decode cX9_frame 1 = .ok (.iload_n 1, 1) := by decide +kernel
theorem dX9_frame_2 : decode cX9_frame 2 = .ok (.invokevirtual 130, 3) := by decide +kernel
theorem dX9_frame_5 : decode cX9_frame 5 = .ok (.ifCond .eq 53, 3) := by decide +kernel
theorem dX9_frame_8 : decode cX9_frame 8 = .ok (.iload_n 2, 1) := by decide +kernel
theorem dX9_frame_9 : decode cX9_frame 9 = .ok (.iconst 0, 1) := by decide +kernel
theorem dX9_frame_10 : decode cX9_frame 10 = .ok (.sipush 255, 3) := by decide +kernel
theorem dX9_frame_13 : decode cX9_frame 13 = .ok (.invokestatic 97, 3) := by decide +kernel
theorem dX9_frame_16 : decode cX9_frame 16 = .ok (.ifCond .eq 42, 3) := by decide +kernel
theorem dX9_frame_19 : decode cX9_frame 19 = .ok (.iload_n 3, 1) := by decide +kernel
theorem dX9_frame_20 : decode cX9_frame 20 = .ok (.invokestatic 142, 3) := by decide +kernel
theorem dX9_frame_23 : decode cX9_frame 23 = .ok (.ifCond .eq 35, 3) := by decide +kernel
theorem dX9_frame_26 : decode cX9_frame 26 = .ok (.iload 4, 2) := by decide +kernel
theorem dX9_frame_28 : decode cX9_frame 28 = .ok (.invokestatic 142, 3) := by decide +kernel
theorem dX9_frame_31 : decode cX9_frame 31 = .ok (.ifCond .eq 27, 3) := by decide +kernel
theorem dX9_frame_34 : decode cX9_frame 34 = .ok (.iload 5, 2) := by decide +kernel
theorem dX9_frame_36 : decode cX9_frame 36 = .ok (.iconst (-1), 1) := by decide +kernel
theorem dX9_frame_37 : decode cX9_frame 37 = .ok (.iconst 1, 1) := by decide +kernel
theorem dX9_frame_38 : decode cX9_frame 38 = .ok (.invokestatic 97, 3) := by decide +kernel
theorem dX9_frame_41 : decode cX9_frame 41 = .ok (.ifCond .eq 17, 3) := by decide +kernel
theorem dX9_frame_44 : decode cX9_frame 44 = .ok (.aload_n 0, 1) := by decide +kernel
theorem dX9_frame_45 : decode cX9_frame 45 = .ok (.iload_n 1, 1) := by decide +kernel
theorem dX9_frame_46 : decode cX9_frame 46 = .ok (.iload_n 2, 1) := by decide +kernel
theorem dX9_frame_47 : decode cX9_frame 47 = .ok (.iload_n 3, 1) := by decide +kernel
theorem dX9_frame_48 : decode cX9_frame 48 = .ok (.iload 4, 2) := by decide +kernel
theorem dX9_frame_50 : decode cX9_frame 50 = .ok (.iload 5, 2) := by decide +kernel
theorem dX9_frame_52 : decode cX9_frame 52 = .ok (.invokevirtual 261, 3) := by decide +kernel
theorem dX9_frame_55 : decode cX9_frame 55 = .ok (.goto 5, 3) := by decide +kernel
theorem dX9_frame_58 : decode cX9_frame 58 = .ok (.bipush (-2), 2) := by decide +kernel
theorem dX9_frame_60 : decode cX9_frame 60 = .ok (.ireturn, 1) := by decide +kernel
theorem dX9_addsWindow_0 : decode cX9_addsWindow 0 = .ok (.iload_n 2, 1) := by decide +kernel
theorem dX9_addsWindow_1 : decode cX9_addsWindow 1 = .ok (.iconst (-1), 1) := by decide +kernel
theorem dX9_addsWindow_2 : decode cX9_addsWindow 2 = .ok (.if_icmp .eq 33, 3) := by decide +kernel
theorem dX9_addsWindow_5 : decode cX9_addsWindow 5 = .ok (.aload_n 0, 1) := by decide +kernel
theorem dX9_addsWindow_6 : decode cX9_addsWindow 6 = .ok (.getfield 43, 3) := by decide +kernel
theorem dX9_addsWindow_9 : decode cX9_addsWindow 9 = .ok (.aload_n 0, 1) := by decide +kernel
theorem dX9_addsWindow_10 : decode cX9_addsWindow 10 = .ok (.getfield 173, 3) := by decide +kernel
theorem dX9_addsWindow_13 : decode cX9_addsWindow 13 = .ok (.iload_n 1, 1) := by decide +kernel
theorem dX9_addsWindow_14 : decode cX9_addsWindow 14 = .ok (.iastore, 1) := by decide +kernel
theorem dX9_addsWindow_15 : decode cX9_addsWindow 15 = .ok (.aload_n 0, 1) := by decide +kernel
theorem dX9_addsWindow_16 : decode cX9_addsWindow 16 = .ok (.getfield 46, 3) := by decide +kernel
theorem dX9_addsWindow_19 : decode cX9_addsWindow 19 = .ok (.aload_n 0, 1) := by decide +kernel
theorem dX9_addsWindow_20 : decode cX9_addsWindow 20 = .ok (.getfield 173, 3) := by decide +kernel
theorem dX9_addsWindow_23 : decode cX9_addsWindow 23 = .ok (.iload_n 2, 1) := by decide +kernel
theorem dX9_addsWindow_24 : decode cX9_addsWindow 24 = .ok (.iastore, 1) := by decide +kernel
theorem dX9_addsWindow_25 : decode cX9_addsWindow 25 = .ok (.aload_n 0, 1) := by decide +kernel
theorem dX9_addsWindow_26 : decode cX9_addsWindow 26 = .ok (.dup, 1) := by decide +kernel
theorem dX9_addsWindow_27 : decode cX9_addsWindow 27 = .ok (.getfield 173, 3) := by decide +kernel
theorem dX9_addsWindow_30 : decode cX9_addsWindow 30 = .ok (.iconst 1, 1) := by decide +kernel
theorem dX9_addsWindow_31 : decode cX9_addsWindow 31 = .ok (.iadd, 1) := by decide +kernel
theorem dX9_addsWindow_32 : decode cX9_addsWindow 32 = .ok (.putfield 173, 3) := by decide +kernel
theorem dX9_addsWindow_35 : decode cX9_addsWindow 35 = .ok (.return_, 1) := by decide +kernel
theorem dX9_doesAir_0 : decode cX9_doesAir 0 = .ok (.aload_n 0, 1) := by decide +kernel
theorem dX9_doesAir_1 : decode cX9_doesAir 1 = .ok (.invokevirtual 209, 3) := by decide +kernel
theorem dX9_doesAir_4 : decode cX9_doesAir 4 = .ok (.aload_n 0, 1) := by decide +kernel
theorem dX9_doesAir_5 : decode cX9_doesAir 5 = .ok (.iload 5, 2) := by decide +kernel
theorem dX9_doesAir_7 : decode cX9_doesAir 7 = .ok (.iload_n 1, 1) := by decide +kernel
theorem dX9_doesAir_8 : decode cX9_doesAir 8 = .ok (.invokevirtual 264, 3) := by decide +kernel
theorem dX9_doesAir_11 : decode cX9_doesAir 11 = .ok (.aload_n 0, 1) := by decide +kernel
theorem dX9_doesAir_12 : decode cX9_doesAir 12 = .ok (.iload 5, 2) := by decide +kernel
theorem dX9_doesAir_14 : decode cX9_doesAir 14 = .ok (.iload_n 2, 1) := by decide +kernel
theorem dX9_doesAir_15 : decode cX9_doesAir 15 = .ok (.invokevirtual 264, 3) := by decide +kernel
theorem dX9_doesAir_18 : decode cX9_doesAir 18 = .ok (.aload_n 0, 1) := by decide +kernel
theorem dX9_doesAir_19 : decode cX9_doesAir 19 = .ok (.iload 5, 2) := by decide +kernel
theorem dX9_doesAir_21 : decode cX9_doesAir 21 = .ok (.iload_n 3, 1) := by decide +kernel
theorem dX9_doesAir_22 : decode cX9_doesAir 22 = .ok (.invokevirtual 264, 3) := by decide +kernel
theorem dX9_doesAir_25 : decode cX9_doesAir 25 = .ok (.aload_n 0, 1) := by decide +kernel
theorem dX9_doesAir_26 : decode cX9_doesAir 26 = .ok (.iload 6, 2) := by decide +kernel
theorem dX9_doesAir_28 : decode cX9_doesAir 28 = .ok (.invokevirtual 212, 3) := by decide +kernel
theorem dX9_doesAir_31 : decode cX9_doesAir 31 = .ok (.aload_n 0, 1) := by decide +kernel
theorem dX9_doesAir_32 : decode cX9_doesAir 32 = .ok (.getfield 65, 3) := by decide +kernel
theorem dX9_doesAir_35 : decode cX9_doesAir 35 = .ok (.iconst 0, 1) := by decide +kernel
theorem dX9_doesAir_36 : decode cX9_doesAir 36 = .ok (.iload_n 1, 1) := by decide +kernel
theorem dX9_doesAir_37 : decode cX9_doesAir 37 = .ok (.iastore, 1) := by decide +kernel
theorem dX9_doesAir_38 : decode cX9_doesAir 38 = .ok (.aload_n 0, 1) := by decide +kernel
theorem dX9_doesAir_39 : decode cX9_doesAir 39 = .ok (.getfield 65, 3) := by decide +kernel
theorem dX9_doesAir_42 : decode cX9_doesAir 42 = .ok (.iconst 1, 1) := by decide +kernel
theorem dX9_doesAir_43 : decode cX9_doesAir 43 = .ok (.iload_n 2, 1) := by decide +kernel
theorem dX9_doesAir_44 : decode cX9_doesAir 44 = .ok (.iastore, 1) := by decide +kernel
theorem dX9_doesAir_45 : decode cX9_doesAir 45 = .ok (.aload_n 0, 1) := by decide +kernel
theorem dX9_doesAir_46 : decode cX9_doesAir 46 = .ok (.getfield 65, 3) := by decide +kernel
theorem dX9_doesAir_49 : decode cX9_doesAir 49 = .ok (.iconst 2, 1) := by decide +kernel
theorem dX9_doesAir_50 : decode cX9_doesAir 50 = .ok (.iload_n 3, 1) := by decide +kernel
theorem dX9_doesAir_51 : decode cX9_doesAir 51 = .ok (.iastore, 1) := by decide +kernel
theorem dX9_doesAir_52 : decode cX9_doesAir 52 = .ok (.iconst 0, 1) := by decide +kernel
theorem dX9_doesAir_53 : decode cX9_doesAir 53 = .ok (.istore 7, 2) := by decide +kernel
theorem dX9_doesAir_55 : decode cX9_doesAir 55 = .ok (.iconst 0, 1) := by decide +kernel
theorem dX9_doesAir_56 : decode cX9_doesAir 56 = .ok (.istore 8, 2) := by decide +kernel
theorem dX9_doesAir_58 : decode cX9_doesAir 58 = .ok (.iload 8, 2) := by decide +kernel
theorem dX9_doesAir_60 : decode cX9_doesAir 60 = .ok (.aload_n 0, 1) := by decide +kernel
theorem dX9_doesAir_61 : decode cX9_doesAir 61 = .ok (.getfield 109, 3) := by decide +kernel
theorem dX9_doesAir_64 : decode cX9_doesAir 64 = .ok (.if_icmp .ge 34, 3) := by decide +kernel
theorem dX9_doesAir_67 : decode cX9_doesAir 67 = .ok (.iload 7, 2) := by decide +kernel
theorem dX9_doesAir_69 : decode cX9_doesAir 69 = .ok (.iload 4, 2) := by decide +kernel
theorem dX9_doesAir_71 : decode cX9_doesAir 71 = .ok (.iload 8, 2) := by decide +kernel
theorem dX9_doesAir_73 : decode cX9_doesAir 73 = .ok (.invokestatic 199, 3) := by decide +kernel
theorem dX9_doesAir_76 : decode cX9_doesAir 76 = .ok (.ifCond .eq 12, 3) := by decide +kernel
theorem dX9_doesAir_79 : decode cX9_doesAir 79 = .ok (.aload_n 0, 1) := by decide +kernel
theorem dX9_doesAir_80 : decode cX9_doesAir 80 = .ok (.iload 8, 2) := by decide +kernel
theorem dX9_doesAir_82 : decode cX9_doesAir 82 = .ok (.invokevirtual 215, 3) := by decide +kernel
theorem dX9_doesAir_85 : decode cX9_doesAir 85 = .ok (.goto 4, 3) := by decide +kernel
theorem dX9_doesAir_88 : decode cX9_doesAir 88 = .ok (.iconst 0, 1) := by decide +kernel
theorem dX9_doesAir_89 : decode cX9_doesAir 89 = .ok (.ior, 1) := by decide +kernel
theorem dX9_doesAir_90 : decode cX9_doesAir 90 = .ok (.istore 7, 2) := by decide +kernel
theorem dX9_doesAir_92 : decode cX9_doesAir 92 = .ok (.iinc 8 1, 3) := by decide +kernel
theorem dX9_doesAir_95 : decode cX9_doesAir 95 = .ok (.goto (-37), 3) := by decide +kernel
theorem dX9_doesAir_98 : decode cX9_doesAir 98 = .ok (.iload 7, 2) := by decide +kernel
theorem dX9_doesAir_100 : decode cX9_doesAir 100 = .ok (.ifCond .ne 7, 3) := by decide +kernel
theorem dX9_doesAir_103 : decode cX9_doesAir 103 = .ok (.iconst 1, 1) := by decide +kernel
theorem dX9_doesAir_104 : decode cX9_doesAir 104 = .ok (.goto 4, 3) := by decide +kernel
theorem dX9_doesAir_107 : decode cX9_doesAir 107 = .ok (.iconst 0, 1) := by decide +kernel
theorem dX9_doesAir_108 : decode cX9_doesAir 108 = .ok (.ireturn, 1) := by decide +kernel
theorem dX9_airsMore_0 : decode cX9_airsMore 0 = .ok (.aload_n 0, 1) := by decide +kernel
theorem dX9_airsMore_1 : decode cX9_airsMore 1 = .ok (.iconst (-1), 1) := by decide +kernel
theorem dX9_airsMore_2 : decode cX9_airsMore 2 = .ok (.iconst (-1), 1) := by decide +kernel
theorem dX9_airsMore_3 : decode cX9_airsMore 3 = .ok (.iconst (-1), 1) := by decide +kernel
theorem dX9_airsMore_4 : decode cX9_airsMore 4 = .ok (.iload_n 1, 1) := by decide +kernel
theorem dX9_airsMore_5 : decode cX9_airsMore 5 = .ok (.iload_n 2, 1) := by decide +kernel
theorem dX9_airsMore_6 : decode cX9_airsMore 6 = .ok (.iload_n 3, 1) := by decide +kernel
theorem dX9_airsMore_7 : decode cX9_airsMore 7 = .ok (.invokevirtual 267, 3) := by decide +kernel
theorem dX9_airsMore_10 : decode cX9_airsMore 10 = .ok (.ifCond .eq 5, 3) := by decide +kernel
theorem dX9_airsMore_13 : decode cX9_airsMore 13 = .ok (.iconst 0, 1) := by decide +kernel
theorem dX9_airsMore_14 : decode cX9_airsMore 14 = .ok (.ireturn, 1) := by decide +kernel
theorem dX9_airsMore_15 : decode cX9_airsMore 15 = .ok (.iconst 0, 1) := by decide +kernel
theorem dX9_airsMore_16 : decode cX9_airsMore 16 = .ok (.istore 4, 2) := by decide +kernel
theorem dX9_airsMore_18 : decode cX9_airsMore 18 = .ok (.iload 4, 2) := by decide +kernel
theorem dX9_airsMore_20 : decode cX9_airsMore 20 = .ok (.aload_n 0, 1) := by decide +kernel
theorem dX9_airsMore_21 : decode cX9_airsMore 21 = .ok (.getfield 109, 3) := by decide +kernel
theorem dX9_airsMore_24 : decode cX9_airsMore 24 = .ok (.if_icmp .ge 25, 3) := by decide +kernel
theorem dX9_airsMore_27 : decode cX9_airsMore 27 = .ok (.aload_n 0, 1) := by decide +kernel
theorem dX9_airsMore_28 : decode cX9_airsMore 28 = .ok (.iload 4, 2) := by decide +kernel
theorem dX9_airsMore_30 : decode cX9_airsMore 30 = .ok (.iconst (-1), 1) := by decide +kernel
theorem dX9_airsMore_31 : decode cX9_airsMore 31 = .ok (.iconst (-1), 1) := by decide +kernel
theorem dX9_airsMore_32 : decode cX9_airsMore 32 = .ok (.iload_n 1, 1) := by decide +kernel
theorem dX9_airsMore_33 : decode cX9_airsMore 33 = .ok (.iload_n 2, 1) := by decide +kernel
theorem dX9_airsMore_34 : decode cX9_airsMore 34 = .ok (.iload_n 3, 1) := by decide +kernel
theorem dX9_airsMore_35 : decode cX9_airsMore 35 = .ok (.invokevirtual 267, 3) := by decide +kernel
theorem dX9_airsMore_38 : decode cX9_airsMore 38 = .ok (.ifCond .eq 5, 3) := by decide +kernel
theorem dX9_airsMore_41 : decode cX9_airsMore 41 = .ok (.iconst 1, 1) := by decide +kernel
theorem dX9_airsMore_42 : decode cX9_airsMore 42 = .ok (.ireturn, 1) := by decide +kernel
theorem dX9_airsMore_43 : decode cX9_airsMore 43 = .ok (.iinc 4 1, 3) := by decide +kernel
theorem dX9_airsMore_46 : decode cX9_airsMore 46 = .ok (.goto (-28), 3) := by decide +kernel
theorem dX9_airsMore_49 : decode cX9_airsMore 49 = .ok (.iconst 0, 1) := by decide +kernel
theorem dX9_airsMore_50 : decode cX9_airsMore 50 = .ok (.istore 4, 2) := by decide +kernel
theorem dX9_airsMore_52 : decode cX9_airsMore 52 = .ok (.iload 4, 2) := by decide +kernel
theorem dX9_airsMore_54 : decode cX9_airsMore 54 = .ok (.aload_n 0, 1) := by decide +kernel
theorem dX9_airsMore_55 : decode cX9_airsMore 55 = .ok (.getfield 109, 3) := by decide +kernel
theorem dX9_airsMore_58 : decode cX9_airsMore 58 = .ok (.if_icmp .ge 45, 3) := by decide +kernel
theorem dX9_airsMore_61 : decode cX9_airsMore 61 = .ok (.iload 4, 2) := by decide +kernel
theorem dX9_airsMore_63 : decode cX9_airsMore 63 = .ok (.istore 5, 2) := by decide +kernel
theorem dX9_airsMore_65 : decode cX9_airsMore 65 = .ok (.iload 5, 2) := by decide +kernel
theorem dX9_airsMore_67 : decode cX9_airsMore 67 = .ok (.aload_n 0, 1) := by decide +kernel
theorem dX9_airsMore_68 : decode cX9_airsMore 68 = .ok (.getfield 109, 3) := by decide +kernel
theorem dX9_airsMore_71 : decode cX9_airsMore 71 = .ok (.if_icmp .ge 26, 3) := by decide +kernel
theorem dX9_airsMore_74 : decode cX9_airsMore 74 = .ok (.aload_n 0, 1) := by decide +kernel
theorem dX9_airsMore_75 : decode cX9_airsMore 75 = .ok (.iload 4, 2) := by decide +kernel
theorem dX9_airsMore_77 : decode cX9_airsMore 77 = .ok (.iload 5, 2) := by decide +kernel
theorem dX9_airsMore_79 : decode cX9_airsMore 79 = .ok (.iconst (-1), 1) := by decide +kernel
theorem dX9_airsMore_80 : decode cX9_airsMore 80 = .ok (.iload_n 1, 1) := by decide +kernel
theorem dX9_airsMore_81 : decode cX9_airsMore 81 = .ok (.iload_n 2, 1) := by decide +kernel
theorem dX9_airsMore_82 : decode cX9_airsMore 82 = .ok (.iload_n 3, 1) := by decide +kernel
theorem dX9_airsMore_83 : decode cX9_airsMore 83 = .ok (.invokevirtual 267, 3) := by decide +kernel
theorem dX9_airsMore_86 : decode cX9_airsMore 86 = .ok (.ifCond .eq 5, 3) := by decide +kernel
theorem dX9_airsMore_89 : decode cX9_airsMore 89 = .ok (.iconst 2, 1) := by decide +kernel
theorem dX9_airsMore_90 : decode cX9_airsMore 90 = .ok (.ireturn, 1) := by decide +kernel
theorem dX9_airsMore_91 : decode cX9_airsMore 91 = .ok (.iinc 5 1, 3) := by decide +kernel
theorem dX9_airsMore_94 : decode cX9_airsMore 94 = .ok (.goto (-29), 3) := by decide +kernel
theorem dX9_airsMore_97 : decode cX9_airsMore 97 = .ok (.iinc 4 1, 3) := by decide +kernel
theorem dX9_airsMore_100 : decode cX9_airsMore 100 = .ok (.goto (-48), 3) := by decide +kernel
theorem dX9_airsMore_103 : decode cX9_airsMore 103 = .ok (.iconst 0, 1) := by decide +kernel
theorem dX9_airsMore_104 : decode cX9_airsMore 104 = .ok (.istore 4, 2) := by decide +kernel
theorem dX9_airsMore_106 : decode cX9_airsMore 106 = .ok (.iload 4, 2) := by decide +kernel
theorem dX9_airsMore_108 : decode cX9_airsMore 108 = .ok (.aload_n 0, 1) := by decide +kernel
theorem dX9_airsMore_109 : decode cX9_airsMore 109 = .ok (.getfield 109, 3) := by decide +kernel
theorem dX9_airsMore_112 : decode cX9_airsMore 112 = .ok (.if_icmp .ge 65, 3) := by decide +kernel
theorem dX9_airsMore_115 : decode cX9_airsMore 115 = .ok (.iload 4, 2) := by decide +kernel
theorem dX9_airsMore_117 : decode cX9_airsMore 117 = .ok (.istore 5, 2) := by decide +kernel
theorem dX9_airsMore_119 : decode cX9_airsMore 119 = .ok (.iload 5, 2) := by decide +kernel
theorem dX9_airsMore_121 : decode cX9_airsMore 121 = .ok (.aload_n 0, 1) := by decide +kernel
theorem dX9_airsMore_122 : decode cX9_airsMore 122 = .ok (.getfield 109, 3) := by decide +kernel
theorem dX9_airsMore_125 : decode cX9_airsMore 125 = .ok (.if_icmp .ge 46, 3) := by decide +kernel
theorem dX9_airsMore_128 : decode cX9_airsMore 128 = .ok (.iload 5, 2) := by decide +kernel
theorem dX9_airsMore_130 : decode cX9_airsMore 130 = .ok (.istore 6, 2) := by decide +kernel
theorem dX9_airsMore_132 : decode cX9_airsMore 132 = .ok (.iload 6, 2) := by decide +kernel
theorem dX9_airsMore_134 : decode cX9_airsMore 134 = .ok (.aload_n 0, 1) := by decide +kernel
theorem dX9_airsMore_135 : decode cX9_airsMore 135 = .ok (.getfield 109, 3) := by decide +kernel
theorem dX9_airsMore_138 : decode cX9_airsMore 138 = .ok (.if_icmp .ge 27, 3) := by decide +kernel
theorem dX9_airsMore_141 : decode cX9_airsMore 141 = .ok (.aload_n 0, 1) := by decide +kernel
theorem dX9_airsMore_142 : decode cX9_airsMore 142 = .ok (.iload 4, 2) := by decide +kernel
theorem dX9_airsMore_144 : decode cX9_airsMore 144 = .ok (.iload 5, 2) := by decide +kernel
theorem dX9_airsMore_146 : decode cX9_airsMore 146 = .ok (.iload 6, 2) := by decide +kernel
theorem dX9_airsMore_148 : decode cX9_airsMore 148 = .ok (.iload_n 1, 1) := by decide +kernel
theorem dX9_airsMore_149 : decode cX9_airsMore 149 = .ok (.iload_n 2, 1) := by decide +kernel
theorem dX9_airsMore_150 : decode cX9_airsMore 150 = .ok (.iload_n 3, 1) := by decide +kernel
theorem dX9_airsMore_151 : decode cX9_airsMore 151 = .ok (.invokevirtual 267, 3) := by decide +kernel
theorem dX9_airsMore_154 : decode cX9_airsMore 154 = .ok (.ifCond .eq 5, 3) := by decide +kernel
theorem dX9_airsMore_157 : decode cX9_airsMore 157 = .ok (.iconst 3, 1) := by decide +kernel
theorem dX9_airsMore_158 : decode cX9_airsMore 158 = .ok (.ireturn, 1) := by decide +kernel
theorem dX9_airsMore_159 : decode cX9_airsMore 159 = .ok (.iinc 6 1, 3) := by decide +kernel
theorem dX9_airsMore_162 : decode cX9_airsMore 162 = .ok (.goto (-30), 3) := by decide +kernel
theorem dX9_airsMore_165 : decode cX9_airsMore 165 = .ok (.iinc 5 1, 3) := by decide +kernel
theorem dX9_airsMore_168 : decode cX9_airsMore 168 = .ok (.goto (-49), 3) := by decide +kernel
theorem dX9_airsMore_171 : decode cX9_airsMore 171 = .ok (.iinc 4 1, 3) := by decide +kernel
theorem dX9_airsMore_174 : decode cX9_airsMore 174 = .ok (.goto (-68), 3) := by decide +kernel
theorem dX9_airsMore_177 : decode cX9_airsMore 177 = .ok (.iconst (-1), 1) := by decide +kernel
theorem dX9_airsMore_178 : decode cX9_airsMore 178 = .ok (.ireturn, 1) := by decide +kernel
theorem dX9_airOf_0 : decode cX9_airOf 0 = .ok (.aload_n 0, 1) := by decide +kernel
theorem dX9_airOf_1 : decode cX9_airOf 1 = .ok (.invokevirtual 127, 3) := by decide +kernel
theorem dX9_airOf_4 : decode cX9_airOf 4 = .ok (.aload_n 0, 1) := by decide +kernel
theorem dX9_airOf_5 : decode cX9_airOf 5 = .ok (.aload_n 0, 1) := by decide +kernel
theorem dX9_airOf_6 : decode cX9_airOf 6 = .ok (.iload_n 1, 1) := by decide +kernel
theorem dX9_airOf_7 : decode cX9_airOf 7 = .ok (.iload_n 2, 1) := by decide +kernel
theorem dX9_airOf_8 : decode cX9_airOf 8 = .ok (.iload_n 3, 1) := by decide +kernel
theorem dX9_airOf_9 : decode cX9_airOf 9 = .ok (.invokevirtual 270, 3) := by decide +kernel
theorem dX9_airOf_12 : decode cX9_airOf 12 = .ok (.iload 4, 2) := by decide +kernel
theorem dX9_airOf_14 : decode cX9_airOf 14 = .ok (.invokevirtual 254, 3) := by decide +kernel
theorem dX9_airOf_17 : decode cX9_airOf 17 = .ok (.ireturn, 1) := by decide +kernel
theorem dX9_air_0 : decode cX9_air 0 = .ok (.iload_n 1, 1) := by decide +kernel
theorem dX9_air_1 : decode cX9_air 1 = .ok (.iconst 0, 1) := by decide +kernel
theorem dX9_air_2 : decode cX9_air 2 = .ok (.bipush 63, 2) := by decide +kernel
theorem dX9_air_4 : decode cX9_air 4 = .ok (.invokestatic 97, 3) := by decide +kernel
theorem dX9_air_7 : decode cX9_air 7 = .ok (.ifCond .eq 39, 3) := by decide +kernel
theorem dX9_air_10 : decode cX9_air 10 = .ok (.iload_n 2, 1) := by decide +kernel
theorem dX9_air_11 : decode cX9_air 11 = .ok (.invokestatic 142, 3) := by decide +kernel
theorem dX9_air_14 : decode cX9_air 14 = .ok (.ifCond .eq 32, 3) := by decide +kernel
theorem dX9_air_17 : decode cX9_air 17 = .ok (.iload_n 3, 1) := by decide +kernel
theorem dX9_air_18 : decode cX9_air 18 = .ok (.invokestatic 142, 3) := by decide +kernel
theorem dX9_air_21 : decode cX9_air 21 = .ok (.ifCond .eq 25, 3) := by decide +kernel
theorem dX9_air_24 : decode cX9_air 24 = .ok (.iload 4, 2) := by decide +kernel
theorem dX9_air_26 : decode cX9_air 26 = .ok (.iconst (-1), 1) := by decide +kernel
theorem dX9_air_27 : decode cX9_air 27 = .ok (.iconst 2, 1) := by decide +kernel
theorem dX9_air_28 : decode cX9_air 28 = .ok (.invokestatic 97, 3) := by decide +kernel
theorem dX9_air_31 : decode cX9_air 31 = .ok (.ifCond .eq 15, 3) := by decide +kernel
theorem dX9_air_34 : decode cX9_air 34 = .ok (.aload_n 0, 1) := by decide +kernel
theorem dX9_air_35 : decode cX9_air 35 = .ok (.iload_n 1, 1) := by decide +kernel
theorem dX9_air_36 : decode cX9_air 36 = .ok (.iload_n 2, 1) := by decide +kernel
theorem dX9_air_37 : decode cX9_air 37 = .ok (.iload_n 3, 1) := by decide +kernel
theorem dX9_air_38 : decode cX9_air 38 = .ok (.iload 4, 2) := by decide +kernel
theorem dX9_air_40 : decode cX9_air 40 = .ok (.invokevirtual 273, 3) := by decide +kernel
theorem dX9_air_43 : decode cX9_air 43 = .ok (.goto 5, 3) := by decide +kernel
theorem dX9_air_46 : decode cX9_air 46 = .ok (.bipush (-2), 2) := by decide +kernel
theorem dX9_air_48 : decode cX9_air 48 = .ok (.ireturn, 1) := by decide +kernel
theorem dX9_knownOf_0 : decode cX9_knownOf 0 = .ok (.aload_n 0, 1) := by decide +kernel
theorem dX9_knownOf_1 : decode cX9_knownOf 1 = .ok (.iload_n 1, 1) := by decide +kernel
theorem dX9_knownOf_2 : decode cX9_knownOf 2 = .ok (.invokevirtual 218, 3) := by decide +kernel
theorem dX9_knownOf_5 : decode cX9_knownOf 5 = .ok (.aload_n 0, 1) := by decide +kernel
theorem dX9_knownOf_6 : decode cX9_knownOf 6 = .ok (.invokevirtual 227, 3) := by decide +kernel
theorem dX9_knownOf_9 : decode cX9_knownOf 9 = .ok (.istore_n 2, 1) := by decide +kernel
theorem dX9_knownOf_10 : decode cX9_knownOf 10 = .ok (.iconst (-1), 1) := by decide +kernel
theorem dX9_knownOf_11 : decode cX9_knownOf 11 = .ok (.istore_n 3, 1) := by decide +kernel
theorem dX9_knownOf_12 : decode cX9_knownOf 12 = .ok (.iconst 0, 1) := by decide +kernel
theorem dX9_knownOf_13 : decode cX9_knownOf 13 = .ok (.istore 4, 2) := by decide +kernel
theorem dX9_knownOf_15 : decode cX9_knownOf 15 = .ok (.iload 4, 2) := by decide +kernel
theorem dX9_knownOf_17 : decode cX9_knownOf 17 = .ok (.iconst 1, 1) := by decide +kernel
theorem dX9_knownOf_18 : decode cX9_knownOf 18 = .ok (.aload_n 0, 1) := by decide +kernel
theorem dX9_knownOf_19 : decode cX9_knownOf 19 = .ok (.getfield 109, 3) := by decide +kernel
theorem dX9_knownOf_22 : decode cX9_knownOf 22 = .ok (.ishl, 1) := by decide +kernel
theorem dX9_knownOf_23 : decode cX9_knownOf 23 = .ok (.if_icmp .ge 85, 3) := by decide +kernel
theorem dX9_knownOf_26 : decode cX9_knownOf 26 = .ok (.iconst 0, 1) := by decide +kernel
theorem dX9_knownOf_27 : decode cX9_knownOf 27 = .ok (.istore 5, 2) := by decide +kernel
theorem dX9_knownOf_29 : decode cX9_knownOf 29 = .ok (.iconst 0, 1) := by decide +kernel
theorem dX9_knownOf_30 : decode cX9_knownOf 30 = .ok (.istore 6, 2) := by decide +kernel
theorem dX9_knownOf_32 : decode cX9_knownOf 32 = .ok (.iload 6, 2) := by decide +kernel
theorem dX9_knownOf_34 : decode cX9_knownOf 34 = .ok (.aload_n 0, 1) := by decide +kernel
theorem dX9_knownOf_35 : decode cX9_knownOf 35 = .ok (.getfield 109, 3) := by decide +kernel
theorem dX9_knownOf_38 : decode cX9_knownOf 38 = .ok (.if_icmp .ge 34, 3) := by decide +kernel
theorem dX9_knownOf_41 : decode cX9_knownOf 41 = .ok (.iload 5, 2) := by decide +kernel
theorem dX9_knownOf_43 : decode cX9_knownOf 43 = .ok (.iload 4, 2) := by decide +kernel
theorem dX9_knownOf_45 : decode cX9_knownOf 45 = .ok (.iload 6, 2) := by decide +kernel
theorem dX9_knownOf_47 : decode cX9_knownOf 47 = .ok (.invokestatic 199, 3) := by decide +kernel
theorem dX9_knownOf_50 : decode cX9_knownOf 50 = .ok (.ifCond .eq 12, 3) := by decide +kernel
theorem dX9_knownOf_53 : decode cX9_knownOf 53 = .ok (.aload_n 0, 1) := by decide +kernel
theorem dX9_knownOf_54 : decode cX9_knownOf 54 = .ok (.iload 6, 2) := by decide +kernel
theorem dX9_knownOf_56 : decode cX9_knownOf 56 = .ok (.invokevirtual 215, 3) := by decide +kernel
theorem dX9_knownOf_59 : decode cX9_knownOf 59 = .ok (.goto 4, 3) := by decide +kernel
theorem dX9_knownOf_62 : decode cX9_knownOf 62 = .ok (.iconst 0, 1) := by decide +kernel
theorem dX9_knownOf_63 : decode cX9_knownOf 63 = .ok (.ior, 1) := by decide +kernel
theorem dX9_knownOf_64 : decode cX9_knownOf 64 = .ok (.istore 5, 2) := by decide +kernel
theorem dX9_knownOf_66 : decode cX9_knownOf 66 = .ok (.iinc 6 1, 3) := by decide +kernel
theorem dX9_knownOf_69 : decode cX9_knownOf 69 = .ok (.goto (-37), 3) := by decide +kernel
theorem dX9_knownOf_72 : decode cX9_knownOf 72 = .ok (.iload 5, 2) := by decide +kernel
theorem dX9_knownOf_74 : decode cX9_knownOf 74 = .ok (.iload_n 2, 1) := by decide +kernel
theorem dX9_knownOf_75 : decode cX9_knownOf 75 = .ok (.if_icmp .ne 25, 3) := by decide +kernel
theorem dX9_knownOf_78 : decode cX9_knownOf 78 = .ok (.iload_n 3, 1) := by decide +kernel
theorem dX9_knownOf_79 : decode cX9_knownOf 79 = .ok (.iconst (-1), 1) := by decide +kernel
theorem dX9_knownOf_80 : decode cX9_knownOf 80 = .ok (.if_icmp .eq 15, 3) := by decide +kernel
theorem dX9_knownOf_83 : decode cX9_knownOf 83 = .ok (.iload 4, 2) := by decide +kernel
theorem dX9_knownOf_85 : decode cX9_knownOf 85 = .ok (.invokestatic 276, 3) := by decide +kernel
theorem dX9_knownOf_88 : decode cX9_knownOf 88 = .ok (.iload_n 3, 1) := by decide +kernel
theorem dX9_knownOf_89 : decode cX9_knownOf 89 = .ok (.invokestatic 276, 3) := by decide +kernel
theorem dX9_knownOf_92 : decode cX9_knownOf 92 = .ok (.if_icmp .ge 8, 3) := by decide +kernel
theorem dX9_knownOf_95 : decode cX9_knownOf 95 = .ok (.iload 4, 2) := by decide +kernel
theorem dX9_knownOf_97 : decode cX9_knownOf 97 = .ok (.goto 4, 3) := by decide +kernel
theorem dX9_knownOf_100 : decode cX9_knownOf 100 = .ok (.iload_n 3, 1) := by decide +kernel
theorem dX9_knownOf_101 : decode cX9_knownOf 101 = .ok (.istore_n 3, 1) := by decide +kernel
theorem dX9_knownOf_102 : decode cX9_knownOf 102 = .ok (.iinc 4 1, 3) := by decide +kernel
theorem dX9_knownOf_105 : decode cX9_knownOf 105 = .ok (.goto (-90), 3) := by decide +kernel
theorem dX9_knownOf_108 : decode cX9_knownOf 108 = .ok (.iload_n 3, 1) := by decide +kernel
theorem dX9_knownOf_109 : decode cX9_knownOf 109 = .ok (.ireturn, 1) := by decide +kernel
theorem dX9_known_0 : decode cX9_known 0 = .ok (.iload_n 1, 1) := by decide +kernel
theorem dX9_known_1 : decode cX9_known 1 = .ok (.invokestatic 142, 3) := by decide +kernel
theorem dX9_known_4 : decode cX9_known 4 = .ok (.ifCond .eq 11, 3) := by decide +kernel
theorem dX9_known_7 : decode cX9_known 7 = .ok (.aload_n 0, 1) := by decide +kernel
theorem dX9_known_8 : decode cX9_known 8 = .ok (.iload_n 1, 1) := by decide +kernel
theorem dX9_known_9 : decode cX9_known 9 = .ok (.invokevirtual 279, 3) := by decide +kernel
theorem dX9_known_12 : decode cX9_known 12 = .ok (.goto 5, 3) := by decide +kernel
theorem dX9_known_15 : decode cX9_known 15 = .ok (.bipush (-2), 2) := by decide +kernel
theorem dX9_known_17 : decode cX9_known 17 = .ok (.ireturn, 1) := by decide +kernel
theorem dX9_smelt_0 : decode cX9_smelt 0 = .ok (.iload_n 1, 1) := by decide +kernel
theorem dX9_smelt_1 : decode cX9_smelt 1 = .ok (.invokestatic 142, 3) := by decide +kernel
theorem dX9_smelt_4 : decode cX9_smelt 4 = .ok (.ifCond .eq 21, 3) := by decide +kernel
theorem dX9_smelt_7 : decode cX9_smelt 7 = .ok (.iload_n 2, 1) := by decide +kernel
theorem dX9_smelt_8 : decode cX9_smelt 8 = .ok (.invokestatic 148, 3) := by decide +kernel
theorem dX9_smelt_11 : decode cX9_smelt 11 = .ok (.ifCond .eq 14, 3) := by decide +kernel
theorem dX9_smelt_14 : decode cX9_smelt 14 = .ok (.iload_n 3, 1) := by decide +kernel
theorem dX9_smelt_15 : decode cX9_smelt 15 = .ok (.iconst 0, 1) := by decide +kernel
theorem dX9_smelt_16 : decode cX9_smelt 16 = .ok (.sipush 255, 3) := by decide +kernel
theorem dX9_smelt_19 : decode cX9_smelt 19 = .ok (.invokestatic 97, 3) := by decide +kernel
theorem dX9_smelt_22 : decode cX9_smelt 22 = .ok (.ifCond .ne 6, 3) := by decide +kernel
theorem dX9_smelt_25 : decode cX9_smelt 25 = .ok (.bipush (-2), 2) := by decide +kernel
theorem dX9_smelt_27 : decode cX9_smelt 27 = .ok (.ireturn, 1) := by decide +kernel
theorem dX9_smelt_28 : decode cX9_smelt 28 = .ok (.aload_n 0, 1) := by decide +kernel
theorem dX9_smelt_29 : decode cX9_smelt 29 = .ok (.getfield 282, 3) := by decide +kernel
theorem dX9_smelt_32 : decode cX9_smelt 32 = .ok (.bipush 8, 2) := by decide +kernel
theorem dX9_smelt_34 : decode cX9_smelt 34 = .ok (.if_icmp .ne 6, 3) := by decide +kernel
theorem dX9_smelt_37 : decode cX9_smelt 37 = .ok (.bipush (-4), 2) := by decide +kernel
theorem dX9_smelt_39 : decode cX9_smelt 39 = .ok (.ireturn, 1) := by decide +kernel
theorem dX9_smelt_40 : decode cX9_smelt 40 = .ok (.aload_n 0, 1) := by decide +kernel
theorem dX9_smelt_41 : decode cX9_smelt 41 = .ok (.getfield 68, 3) := by decide +kernel
theorem dX9_smelt_44 : decode cX9_smelt 44 = .ok (.aload_n 0, 1) := by decide +kernel
theorem dX9_smelt_45 : decode cX9_smelt 45 = .ok (.getfield 282, 3) := by decide +kernel
theorem dX9_smelt_48 : decode cX9_smelt 48 = .ok (.iload_n 1, 1) := by decide +kernel
theorem dX9_smelt_49 : decode cX9_smelt 49 = .ok (.iastore, 1) := by decide +kernel
theorem dX9_smelt_50 : decode cX9_smelt 50 = .ok (.aload_n 0, 1) := by decide +kernel
theorem dX9_smelt_51 : decode cX9_smelt 51 = .ok (.getfield 71, 3) := by decide +kernel
theorem dX9_smelt_54 : decode cX9_smelt 54 = .ok (.aload_n 0, 1) := by decide +kernel
theorem dX9_smelt_55 : decode cX9_smelt 55 = .ok (.getfield 282, 3) := by decide +kernel
theorem dX9_smelt_58 : decode cX9_smelt 58 = .ok (.iload_n 2, 1) := by decide +kernel
theorem dX9_smelt_59 : decode cX9_smelt 59 = .ok (.iastore, 1) := by decide +kernel
theorem dX9_smelt_60 : decode cX9_smelt 60 = .ok (.aload_n 0, 1) := by decide +kernel
theorem dX9_smelt_61 : decode cX9_smelt 61 = .ok (.getfield 74, 3) := by decide +kernel
theorem dX9_smelt_64 : decode cX9_smelt 64 = .ok (.aload_n 0, 1) := by decide +kernel
theorem dX9_smelt_65 : decode cX9_smelt 65 = .ok (.getfield 282, 3) := by decide +kernel
theorem dX9_smelt_68 : decode cX9_smelt 68 = .ok (.iload_n 3, 1) := by decide +kernel
theorem dX9_smelt_69 : decode cX9_smelt 69 = .ok (.iastore, 1) := by decide +kernel
theorem dX9_smelt_70 : decode cX9_smelt 70 = .ok (.aload_n 0, 1) := by decide +kernel
theorem dX9_smelt_71 : decode cX9_smelt 71 = .ok (.dup, 1) := by decide +kernel
theorem dX9_smelt_72 : decode cX9_smelt 72 = .ok (.getfield 282, 3) := by decide +kernel
theorem dX9_smelt_75 : decode cX9_smelt 75 = .ok (.iconst 1, 1) := by decide +kernel
theorem dX9_smelt_76 : decode cX9_smelt 76 = .ok (.iadd, 1) := by decide +kernel
theorem dX9_smelt_77 : decode cX9_smelt 77 = .ok (.putfield 282, 3) := by decide +kernel
theorem dX9_smelt_80 : decode cX9_smelt 80 = .ok (.aload_n 0, 1) := by decide +kernel
theorem dX9_smelt_81 : decode cX9_smelt 81 = .ok (.getfield 282, 3) := by decide +kernel
theorem dX9_smelt_84 : decode cX9_smelt 84 = .ok (.ireturn, 1) := by decide +kernel
theorem dX9_forget_0 : decode cX9_forget 0 = .ok (.aload_n 0, 1) := by decide +kernel
theorem dX9_forget_1 : decode cX9_forget 1 = .ok (.getfield 282, 3) := by decide +kernel
theorem dX9_forget_4 : decode cX9_forget 4 = .ok (.istore_n 1, 1) := by decide +kernel
theorem dX9_forget_5 : decode cX9_forget 5 = .ok (.aload_n 0, 1) := by decide +kernel
theorem dX9_forget_6 : decode cX9_forget 6 = .ok (.iconst 0, 1) := by decide +kernel
theorem dX9_forget_7 : decode cX9_forget 7 = .ok (.putfield 282, 3) := by decide +kernel
theorem dX9_forget_10 : decode cX9_forget 10 = .ok (.iload_n 1, 1) := by decide +kernel
theorem dX9_forget_11 : decode cX9_forget 11 = .ok (.ireturn, 1) := by decide +kernel
theorem dX9_isSmelt_0 : decode cX9_isSmelt 0 = .ok (.iconst 1, 1) := by decide +kernel
theorem dX9_isSmelt_1 : decode cX9_isSmelt 1 = .ok (.istore_n 1, 1) := by decide +kernel
theorem dX9_isSmelt_2 : decode cX9_isSmelt 2 = .ok (.aload_n 0, 1) := by decide +kernel
theorem dX9_isSmelt_3 : decode cX9_isSmelt 3 = .ok (.invokevirtual 203, 3) := by decide +kernel
theorem dX9_isSmelt_6 : decode cX9_isSmelt 6 = .ok (.iconst 0, 1) := by decide +kernel
theorem dX9_isSmelt_7 : decode cX9_isSmelt 7 = .ok (.istore_n 2, 1) := by decide +kernel
theorem dX9_isSmelt_8 : decode cX9_isSmelt 8 = .ok (.iload_n 2, 1) := by decide +kernel
theorem dX9_isSmelt_9 : decode cX9_isSmelt 9 = .ok (.bipush 24, 2) := by decide +kernel
theorem dX9_isSmelt_11 : decode cX9_isSmelt 11 = .ok (.if_icmp .ge 94, 3) := by decide +kernel
theorem dX9_isSmelt_14 : decode cX9_isSmelt 14 = .ok (.iload_n 1, 1) := by decide +kernel
theorem dX9_isSmelt_15 : decode cX9_isSmelt 15 = .ok (.ifCond .eq 90, 3) := by decide +kernel
theorem dX9_isSmelt_18 : decode cX9_isSmelt 18 = .ok (.aload_n 0, 1) := by decide +kernel
theorem dX9_isSmelt_19 : decode cX9_isSmelt 19 = .ok (.iload_n 2, 1) := by decide +kernel
theorem dX9_isSmelt_20 : decode cX9_isSmelt 20 = .ok (.invokevirtual 206, 3) := by decide +kernel
theorem dX9_isSmelt_23 : decode cX9_isSmelt 23 = .ok (.iconst 0, 1) := by decide +kernel
theorem dX9_isSmelt_24 : decode cX9_isSmelt 24 = .ok (.istore_n 3, 1) := by decide +kernel
theorem dX9_isSmelt_25 : decode cX9_isSmelt 25 = .ok (.iload_n 3, 1) := by decide +kernel
theorem dX9_isSmelt_26 : decode cX9_isSmelt 26 = .ok (.aload_n 0, 1) := by decide +kernel
theorem dX9_isSmelt_27 : decode cX9_isSmelt 27 = .ok (.getfield 282, 3) := by decide +kernel
theorem dX9_isSmelt_30 : decode cX9_isSmelt 30 = .ok (.if_icmp .ge 69, 3) := by decide +kernel
theorem dX9_isSmelt_33 : decode cX9_isSmelt 33 = .ok (.aload_n 0, 1) := by decide +kernel
theorem dX9_isSmelt_34 : decode cX9_isSmelt 34 = .ok (.getfield 71, 3) := by decide +kernel
theorem dX9_isSmelt_37 : decode cX9_isSmelt 37 = .ok (.iload_n 3, 1) := by decide +kernel
theorem dX9_isSmelt_38 : decode cX9_isSmelt 38 = .ok (.iaload, 1) := by decide +kernel
theorem dX9_isSmelt_39 : decode cX9_isSmelt 39 = .ok (.aload_n 0, 1) := by decide +kernel
theorem dX9_isSmelt_40 : decode cX9_isSmelt 40 = .ok (.getfield 109, 3) := by decide +kernel
theorem dX9_isSmelt_43 : decode cX9_isSmelt 43 = .ok (.if_icmp .ge 16, 3) := by decide +kernel
theorem dX9_isSmelt_46 : decode cX9_isSmelt 46 = .ok (.aload_n 0, 1) := by decide +kernel
theorem dX9_isSmelt_47 : decode cX9_isSmelt 47 = .ok (.aload_n 0, 1) := by decide +kernel
theorem dX9_isSmelt_48 : decode cX9_isSmelt 48 = .ok (.getfield 71, 3) := by decide +kernel
theorem dX9_isSmelt_51 : decode cX9_isSmelt 51 = .ok (.iload_n 3, 1) := by decide +kernel
theorem dX9_isSmelt_52 : decode cX9_isSmelt 52 = .ok (.iaload, 1) := by decide +kernel
theorem dX9_isSmelt_53 : decode cX9_isSmelt 53 = .ok (.invokevirtual 215, 3) := by decide +kernel
theorem dX9_isSmelt_56 : decode cX9_isSmelt 56 = .ok (.goto 4, 3) := by decide +kernel
theorem dX9_isSmelt_59 : decode cX9_isSmelt 59 = .ok (.iconst 0, 1) := by decide +kernel
theorem dX9_isSmelt_60 : decode cX9_isSmelt 60 = .ok (.istore 4, 2) := by decide +kernel
theorem dX9_isSmelt_62 : decode cX9_isSmelt 62 = .ok (.iload_n 1, 1) := by decide +kernel
theorem dX9_isSmelt_63 : decode cX9_isSmelt 63 = .ok (.ifCond .eq 28, 3) := by decide +kernel
theorem dX9_isSmelt_66 : decode cX9_isSmelt 66 = .ok (.aload_n 0, 1) := by decide +kernel
theorem dX9_isSmelt_67 : decode cX9_isSmelt 67 = .ok (.getfield 68, 3) := by decide +kernel
theorem dX9_isSmelt_70 : decode cX9_isSmelt 70 = .ok (.iload_n 3, 1) := by decide +kernel
theorem dX9_isSmelt_71 : decode cX9_isSmelt 71 = .ok (.iaload, 1) := by decide +kernel
theorem dX9_isSmelt_72 : decode cX9_isSmelt 72 = .ok (.iload_n 2, 1) := by decide +kernel
theorem dX9_isSmelt_73 : decode cX9_isSmelt 73 = .ok (.if_icmp .ne 14, 3) := by decide +kernel
theorem dX9_isSmelt_76 : decode cX9_isSmelt 76 = .ok (.iload 4, 2) := by decide +kernel
theorem dX9_isSmelt_78 : decode cX9_isSmelt 78 = .ok (.aload_n 0, 1) := by decide +kernel
theorem dX9_isSmelt_79 : decode cX9_isSmelt 79 = .ok (.getfield 74, 3) := by decide +kernel
theorem dX9_isSmelt_82 : decode cX9_isSmelt 82 = .ok (.iload_n 3, 1) := by decide +kernel
theorem dX9_isSmelt_83 : decode cX9_isSmelt 83 = .ok (.iaload, 1) := by decide +kernel
theorem dX9_isSmelt_84 : decode cX9_isSmelt 84 = .ok (.if_icmp .ne 7, 3) := by decide +kernel
theorem dX9_isSmelt_87 : decode cX9_isSmelt 87 = .ok (.iconst 1, 1) := by decide +kernel
theorem dX9_isSmelt_88 : decode cX9_isSmelt 88 = .ok (.goto 4, 3) := by decide +kernel
theorem dX9_isSmelt_91 : decode cX9_isSmelt 91 = .ok (.iconst 0, 1) := by decide +kernel
theorem dX9_isSmelt_92 : decode cX9_isSmelt 92 = .ok (.istore_n 1, 1) := by decide +kernel
theorem dX9_isSmelt_93 : decode cX9_isSmelt 93 = .ok (.iinc 3 1, 3) := by decide +kernel
theorem dX9_isSmelt_96 : decode cX9_isSmelt 96 = .ok (.goto (-71), 3) := by decide +kernel
theorem dX9_isSmelt_99 : decode cX9_isSmelt 99 = .ok (.iinc 2 1, 3) := by decide +kernel
theorem dX9_isSmelt_102 : decode cX9_isSmelt 102 = .ok (.goto (-94), 3) := by decide +kernel
theorem dX9_isSmelt_105 : decode cX9_isSmelt 105 = .ok (.iload_n 1, 1) := by decide +kernel
theorem dX9_isSmelt_106 : decode cX9_isSmelt 106 = .ok (.ireturn, 1) := by decide +kernel
theorem dX9_whenOf_0 : decode cX9_whenOf 0 = .ok (.aload_n 0, 1) := by decide +kernel
theorem dX9_whenOf_1 : decode cX9_whenOf 1 = .ok (.invokevirtual 127, 3) := by decide +kernel
theorem dX9_whenOf_4 : decode cX9_whenOf 4 = .ok (.aload_n 0, 1) := by decide +kernel
theorem dX9_whenOf_5 : decode cX9_whenOf 5 = .ok (.invokevirtual 209, 3) := by decide +kernel
theorem dX9_whenOf_8 : decode cX9_whenOf 8 = .ok (.aload_n 0, 1) := by decide +kernel
theorem dX9_whenOf_9 : decode cX9_whenOf 9 = .ok (.dup, 1) := by decide +kernel
theorem dX9_whenOf_10 : decode cX9_whenOf 10 = .ok (.getfield 170, 3) := by decide +kernel
theorem dX9_whenOf_13 : decode cX9_whenOf 13 = .ok (.iconst 1, 1) := by decide +kernel
theorem dX9_whenOf_14 : decode cX9_whenOf 14 = .ok (.iadd, 1) := by decide +kernel
theorem dX9_whenOf_15 : decode cX9_whenOf 15 = .ok (.putfield 170, 3) := by decide +kernel
theorem dX9_whenOf_18 : decode cX9_whenOf 18 = .ok (.iconst 0, 1) := by decide +kernel
theorem dX9_whenOf_19 : decode cX9_whenOf 19 = .ok (.istore_n 3, 1) := by decide +kernel
theorem dX9_whenOf_20 : decode cX9_whenOf 20 = .ok (.iconst 0, 1) := by decide +kernel
theorem dX9_whenOf_21 : decode cX9_whenOf 21 = .ok (.istore 4, 2) := by decide +kernel
theorem dX9_whenOf_23 : decode cX9_whenOf 23 = .ok (.iload 4, 2) := by decide +kernel
theorem dX9_whenOf_25 : decode cX9_whenOf 25 = .ok (.bipush 24, 2) := by decide +kernel
theorem dX9_whenOf_27 : decode cX9_whenOf 27 = .ok (.if_icmp .ge 39, 3) := by decide +kernel
theorem dX9_whenOf_30 : decode cX9_whenOf 30 = .ok (.aload_n 0, 1) := by decide +kernel
theorem dX9_whenOf_31 : decode cX9_whenOf 31 = .ok (.aload_n 0, 1) := by decide +kernel
theorem dX9_whenOf_32 : decode cX9_whenOf 32 = .ok (.getfield 151, 3) := by decide +kernel
theorem dX9_whenOf_35 : decode cX9_whenOf 35 = .ok (.iload 4, 2) := by decide +kernel
theorem dX9_whenOf_37 : decode cX9_whenOf 37 = .ok (.iload_n 1, 1) := by decide +kernel
theorem dX9_whenOf_38 : decode cX9_whenOf 38 = .ok (.iload_n 2, 1) := by decide +kernel
theorem dX9_whenOf_39 : decode cX9_whenOf 39 = .ok (.invokevirtual 154, 3) := by decide +kernel
theorem dX9_whenOf_42 : decode cX9_whenOf 42 = .ok (.iload_n 3, 1) := by decide +kernel
theorem dX9_whenOf_43 : decode cX9_whenOf 43 = .ok (.aload_n 0, 1) := by decide +kernel
theorem dX9_whenOf_44 : decode cX9_whenOf 44 = .ok (.invokevirtual 285, 3) := by decide +kernel
theorem dX9_whenOf_47 : decode cX9_whenOf 47 = .ok (.ifCond .eq 10, 3) := by decide +kernel
theorem dX9_whenOf_50 : decode cX9_whenOf 50 = .ok (.iconst 1, 1) := by decide +kernel
theorem dX9_whenOf_51 : decode cX9_whenOf 51 = .ok (.iload 4, 2) := by decide +kernel
theorem dX9_whenOf_53 : decode cX9_whenOf 53 = .ok (.ishl, 1) := by decide +kernel
theorem dX9_whenOf_54 : decode cX9_whenOf 54 = .ok (.goto 4, 3) := by decide +kernel
theorem dX9_whenOf_57 : decode cX9_whenOf 57 = .ok (.iconst 0, 1) := by decide +kernel
theorem dX9_whenOf_58 : decode cX9_whenOf 58 = .ok (.ior, 1) := by decide +kernel
theorem dX9_whenOf_59 : decode cX9_whenOf 59 = .ok (.istore_n 3, 1) := by decide +kernel
theorem dX9_whenOf_60 : decode cX9_whenOf 60 = .ok (.iinc 4 1, 3) := by decide +kernel
theorem dX9_whenOf_63 : decode cX9_whenOf 63 = .ok (.goto (-40), 3) := by decide +kernel
theorem dX9_whenOf_66 : decode cX9_whenOf 66 = .ok (.iload_n 3, 1) := by decide +kernel
theorem dX9_whenOf_67 : decode cX9_whenOf 67 = .ok (.ireturn, 1) := by decide +kernel
theorem dX9_when_0 : decode cX9_when 0 = .ok (.aload_n 0, 1) := by decide +kernel
theorem dX9_when_1 : decode cX9_when 1 = .ok (.iload_n 1, 1) := by decide +kernel
theorem dX9_when_2 : decode cX9_when 2 = .ok (.invokevirtual 136, 3) := by decide +kernel
theorem dX9_when_5 : decode cX9_when 5 = .ok (.ifCond .eq 20, 3) := by decide +kernel
theorem dX9_when_8 : decode cX9_when 8 = .ok (.aload_n 0, 1) := by decide +kernel
theorem dX9_when_9 : decode cX9_when 9 = .ok (.iload_n 2, 1) := by decide +kernel
theorem dX9_when_10 : decode cX9_when 10 = .ok (.invokevirtual 130, 3) := by decide +kernel
theorem dX9_when_13 : decode cX9_when 13 = .ok (.ifCond .eq 12, 3) := by decide +kernel
theorem dX9_when_16 : decode cX9_when 16 = .ok (.aload_n 0, 1) := by decide +kernel
theorem dX9_when_17 : decode cX9_when 17 = .ok (.iload_n 1, 1) := by decide +kernel
theorem dX9_when_18 : decode cX9_when 18 = .ok (.iload_n 2, 1) := by decide +kernel
theorem dX9_when_19 : decode cX9_when 19 = .ok (.invokevirtual 289, 3) := by decide +kernel
theorem dX9_when_22 : decode cX9_when 22 = .ok (.goto 5, 3) := by decide +kernel
theorem dX9_when_25 : decode cX9_when 25 = .ok (.bipush (-2), 2) := by decide +kernel
theorem dX9_when_27 : decode cX9_when 27 = .ok (.ireturn, 1) := by decide +kernel
theorem dX9_whoOf_0 : decode cX9_whoOf 0 = .ok (.aload_n 0, 1) := by decide +kernel
theorem dX9_whoOf_1 : decode cX9_whoOf 1 = .ok (.invokevirtual 127, 3) := by decide +kernel
theorem dX9_whoOf_4 : decode cX9_whoOf 4 = .ok (.aload_n 0, 1) := by decide +kernel
theorem dX9_whoOf_5 : decode cX9_whoOf 5 = .ok (.invokevirtual 209, 3) := by decide +kernel
theorem dX9_whoOf_8 : decode cX9_whoOf 8 = .ok (.aload_n 0, 1) := by decide +kernel
theorem dX9_whoOf_9 : decode cX9_whoOf 9 = .ok (.getfield 37, 3) := by decide +kernel
theorem dX9_whoOf_12 : decode cX9_whoOf 12 = .ok (.iload_n 1, 1) := by decide +kernel
theorem dX9_whoOf_13 : decode cX9_whoOf 13 = .ok (.iaload, 1) := by decide +kernel
theorem dX9_whoOf_14 : decode cX9_whoOf 14 = .ok (.istore_n 2, 1) := by decide +kernel
theorem dX9_whoOf_15 : decode cX9_whoOf 15 = .ok (.iconst 0, 1) := by decide +kernel
theorem dX9_whoOf_16 : decode cX9_whoOf 16 = .ok (.istore_n 3, 1) := by decide +kernel
theorem dX9_whoOf_17 : decode cX9_whoOf 17 = .ok (.iconst 0, 1) := by decide +kernel
theorem dX9_whoOf_18 : decode cX9_whoOf 18 = .ok (.istore 4, 2) := by decide +kernel
theorem dX9_whoOf_20 : decode cX9_whoOf 20 = .ok (.iload 4, 2) := by decide +kernel
theorem dX9_whoOf_22 : decode cX9_whoOf 22 = .ok (.aload_n 0, 1) := by decide +kernel
theorem dX9_whoOf_23 : decode cX9_whoOf 23 = .ok (.getfield 113, 3) := by decide +kernel
theorem dX9_whoOf_26 : decode cX9_whoOf 26 = .ok (.if_icmp .ge 35, 3) := by decide +kernel
theorem dX9_whoOf_29 : decode cX9_whoOf 29 = .ok (.aload_n 0, 1) := by decide +kernel
theorem dX9_whoOf_30 : decode cX9_whoOf 30 = .ok (.getfield 37, 3) := by decide +kernel
theorem dX9_whoOf_33 : decode cX9_whoOf 33 = .ok (.iload_n 1, 1) := by decide +kernel
theorem dX9_whoOf_34 : decode cX9_whoOf 34 = .ok (.iload 4, 2) := by decide +kernel
theorem dX9_whoOf_36 : decode cX9_whoOf 36 = .ok (.iastore, 1) := by decide +kernel
theorem dX9_whoOf_37 : decode cX9_whoOf 37 = .ok (.iload_n 3, 1) := by decide +kernel
theorem dX9_whoOf_38 : decode cX9_whoOf 38 = .ok (.aload_n 0, 1) := by decide +kernel
theorem dX9_whoOf_39 : decode cX9_whoOf 39 = .ok (.invokevirtual 285, 3) := by decide +kernel
theorem dX9_whoOf_42 : decode cX9_whoOf 42 = .ok (.ifCond .eq 10, 3) := by decide +kernel
theorem dX9_whoOf_45 : decode cX9_whoOf 45 = .ok (.iconst 1, 1) := by decide +kernel
theorem dX9_whoOf_46 : decode cX9_whoOf 46 = .ok (.iload 4, 2) := by decide +kernel
theorem dX9_whoOf_48 : decode cX9_whoOf 48 = .ok (.ishl, 1) := by decide +kernel
theorem dX9_whoOf_49 : decode cX9_whoOf 49 = .ok (.goto 4, 3) := by decide +kernel
theorem dX9_whoOf_52 : decode cX9_whoOf 52 = .ok (.iconst 0, 1) := by decide +kernel
theorem dX9_whoOf_53 : decode cX9_whoOf 53 = .ok (.ior, 1) := by decide +kernel
theorem dX9_whoOf_54 : decode cX9_whoOf 54 = .ok (.istore_n 3, 1) := by decide +kernel
theorem dX9_whoOf_55 : decode cX9_whoOf 55 = .ok (.iinc 4 1, 3) := by decide +kernel
theorem dX9_whoOf_58 : decode cX9_whoOf 58 = .ok (.goto (-38), 3) := by decide +kernel
theorem dX9_whoOf_61 : decode cX9_whoOf 61 = .ok (.aload_n 0, 1) := by decide +kernel
theorem dX9_whoOf_62 : decode cX9_whoOf 62 = .ok (.getfield 37, 3) := by decide +kernel
theorem dX9_whoOf_65 : decode cX9_whoOf 65 = .ok (.iload_n 1, 1) := by decide +kernel
theorem dX9_whoOf_66 : decode cX9_whoOf 66 = .ok (.iload_n 2, 1) := by decide +kernel
theorem dX9_whoOf_67 : decode cX9_whoOf 67 = .ok (.iastore, 1) := by decide +kernel
theorem dX9_whoOf_68 : decode cX9_whoOf 68 = .ok (.iload_n 3, 1) := by decide +kernel
theorem dX9_whoOf_69 : decode cX9_whoOf 69 = .ok (.ireturn, 1) := by decide +kernel
theorem dX9_isSitting_0 : decode cX9_isSitting 0 = .ok (.iload_n 1, 1) := by decide +kernel
theorem dX9_isSitting_1 : decode cX9_isSitting 1 = .ok (.iconst 0, 1) := by decide +kernel
theorem dX9_isSitting_2 : decode cX9_isSitting 2 = .ok (.aload_n 0, 1) := by decide +kernel
theorem dX9_isSitting_3 : decode cX9_isSitting 3 = .ok (.getfield 151, 3) := by decide +kernel
theorem dX9_isSitting_6 : decode cX9_isSitting 6 = .ok (.iconst 1, 1) := by decide +kernel
theorem dX9_isSitting_7 : decode cX9_isSitting 7 = .ok (.isub, 1) := by decide +kernel
theorem dX9_isSitting_8 : decode cX9_isSitting 8 = .ok (.invokestatic 97, 3) := by decide +kernel
theorem dX9_isSitting_11 : decode cX9_isSitting 11 = .ok (.ireturn, 1) := by decide +kernel
theorem dX9_who_0 : decode cX9_who 0 = .ok (.aload_n 0, 1) := by decide +kernel
theorem dX9_who_1 : decode cX9_who 1 = .ok (.iload_n 1, 1) := by decide +kernel
theorem dX9_who_2 : decode cX9_who 2 = .ok (.invokevirtual 292, 3) := by decide +kernel
theorem dX9_who_5 : decode cX9_who 5 = .ok (.ifCond .eq 11, 3) := by decide +kernel
theorem dX9_who_8 : decode cX9_who 8 = .ok (.aload_n 0, 1) := by decide +kernel
theorem dX9_who_9 : decode cX9_who 9 = .ok (.iload_n 1, 1) := by decide +kernel
theorem dX9_who_10 : decode cX9_who 10 = .ok (.invokevirtual 295, 3) := by decide +kernel
theorem dX9_who_13 : decode cX9_who 13 = .ok (.goto 5, 3) := by decide +kernel
theorem dX9_who_16 : decode cX9_who 16 = .ok (.bipush (-2), 2) := by decide +kernel
theorem dX9_who_18 : decode cX9_who 18 = .ok (.ireturn, 1) := by decide +kernel
theorem dX9_standOf_0 : decode cX9_standOf 0 = .ok (.aload_n 0, 1) := by decide +kernel
theorem dX9_standOf_1 : decode cX9_standOf 1 = .ok (.iload_n 1, 1) := by decide +kernel
theorem dX9_standOf_2 : decode cX9_standOf 2 = .ok (.invokevirtual 295, 3) := by decide +kernel
theorem dX9_standOf_5 : decode cX9_standOf 5 = .ok (.istore_n 3, 1) := by decide +kernel
theorem dX9_standOf_6 : decode cX9_standOf 6 = .ok (.aload_n 0, 1) := by decide +kernel
theorem dX9_standOf_7 : decode cX9_standOf 7 = .ok (.getfield 37, 3) := by decide +kernel
theorem dX9_standOf_10 : decode cX9_standOf 10 = .ok (.iload_n 1, 1) := by decide +kernel
theorem dX9_standOf_11 : decode cX9_standOf 11 = .ok (.iaload, 1) := by decide +kernel
theorem dX9_standOf_12 : decode cX9_standOf 12 = .ok (.istore 4, 2) := by decide +kernel
theorem dX9_standOf_14 : decode cX9_standOf 14 = .ok (.iconst (-1), 1) := by decide +kernel
theorem dX9_standOf_15 : decode cX9_standOf 15 = .ok (.istore 5, 2) := by decide +kernel
theorem dX9_standOf_17 : decode cX9_standOf 17 = .ok (.iconst 0, 1) := by decide +kernel
theorem dX9_standOf_18 : decode cX9_standOf 18 = .ok (.istore 6, 2) := by decide +kernel
theorem dX9_standOf_20 : decode cX9_standOf 20 = .ok (.iconst 0, 1) := by decide +kernel
theorem dX9_standOf_21 : decode cX9_standOf 21 = .ok (.istore 7, 2) := by decide +kernel
theorem dX9_standOf_23 : decode cX9_standOf 23 = .ok (.iload 7, 2) := by decide +kernel
theorem dX9_standOf_25 : decode cX9_standOf 25 = .ok (.aload_n 0, 1) := by decide +kernel
theorem dX9_standOf_26 : decode cX9_standOf 26 = .ok (.getfield 109, 3) := by decide +kernel
theorem dX9_standOf_29 : decode cX9_standOf 29 = .ok (.if_icmp .ge 204, 3) := by decide +kernel
theorem dX9_standOf_32 : decode cX9_standOf 32 = .ok (.iconst 0, 1) := by decide +kernel
theorem dX9_standOf_33 : decode cX9_standOf 33 = .ok (.istore 8, 2) := by decide +kernel
theorem dX9_standOf_35 : decode cX9_standOf 35 = .ok (.iconst 0, 1) := by decide +kernel
theorem dX9_standOf_36 : decode cX9_standOf 36 = .ok (.istore 9, 2) := by decide +kernel
theorem dX9_standOf_38 : decode cX9_standOf 38 = .ok (.iload 9, 2) := by decide +kernel
theorem dX9_standOf_40 : decode cX9_standOf 40 = .ok (.aload_n 0, 1) := by decide +kernel
theorem dX9_standOf_41 : decode cX9_standOf 41 = .ok (.getfield 113, 3) := by decide +kernel
theorem dX9_standOf_44 : decode cX9_standOf 44 = .ok (.if_icmp .ge 35, 3) := by decide +kernel
theorem dX9_standOf_47 : decode cX9_standOf 47 = .ok (.aload_n 0, 1) := by decide +kernel
theorem dX9_standOf_48 : decode cX9_standOf 48 = .ok (.getfield 37, 3) := by decide +kernel
theorem dX9_standOf_51 : decode cX9_standOf 51 = .ok (.iload_n 1, 1) := by decide +kernel
theorem dX9_standOf_52 : decode cX9_standOf 52 = .ok (.iload 9, 2) := by decide +kernel
theorem dX9_standOf_54 : decode cX9_standOf 54 = .ok (.iastore, 1) := by decide +kernel
theorem dX9_standOf_55 : decode cX9_standOf 55 = .ok (.aload_n 0, 1) := by decide +kernel
theorem dX9_standOf_56 : decode cX9_standOf 56 = .ok (.iload_n 2, 1) := by decide +kernel
theorem dX9_standOf_57 : decode cX9_standOf 57 = .ok (.invokevirtual 212, 3) := by decide +kernel
theorem dX9_standOf_60 : decode cX9_standOf 60 = .ok (.aload_n 0, 1) := by decide +kernel
theorem dX9_standOf_61 : decode cX9_standOf 61 = .ok (.getfield 77, 3) := by decide +kernel
theorem dX9_standOf_64 : decode cX9_standOf 64 = .ok (.iload 9, 2) := by decide +kernel
theorem dX9_standOf_66 : decode cX9_standOf 66 = .ok (.aload_n 0, 1) := by decide +kernel
theorem dX9_standOf_67 : decode cX9_standOf 67 = .ok (.iload 7, 2) := by decide +kernel
theorem dX9_standOf_69 : decode cX9_standOf 69 = .ok (.invokevirtual 215, 3) := by decide +kernel
theorem dX9_standOf_72 : decode cX9_standOf 72 = .ok (.iastore, 1) := by decide +kernel
theorem dX9_standOf_73 : decode cX9_standOf 73 = .ok (.iinc 9 1, 3) := by decide +kernel
theorem dX9_standOf_76 : decode cX9_standOf 76 = .ok (.goto (-38), 3) := by decide +kernel
theorem dX9_standOf_79 : decode cX9_standOf 79 = .ok (.iconst 0, 1) := by decide +kernel
theorem dX9_standOf_80 : decode cX9_standOf 80 = .ok (.istore 9, 2) := by decide +kernel
theorem dX9_standOf_82 : decode cX9_standOf 82 = .ok (.iload 9, 2) := by decide +kernel
theorem dX9_standOf_84 : decode cX9_standOf 84 = .ok (.aload_n 0, 1) := by decide +kernel
theorem dX9_standOf_85 : decode cX9_standOf 85 = .ok (.getfield 113, 3) := by decide +kernel
theorem dX9_standOf_88 : decode cX9_standOf 88 = .ok (.if_icmp .ge 91, 3) := by decide +kernel
theorem dX9_standOf_91 : decode cX9_standOf 91 = .ok (.iconst 0, 1) := by decide +kernel
theorem dX9_standOf_92 : decode cX9_standOf 92 = .ok (.istore 10, 2) := by decide +kernel
theorem dX9_standOf_94 : decode cX9_standOf 94 = .ok (.iconst 0, 1) := by decide +kernel
theorem dX9_standOf_95 : decode cX9_standOf 95 = .ok (.istore 11, 2) := by decide +kernel
theorem dX9_standOf_97 : decode cX9_standOf 97 = .ok (.iload 11, 2) := by decide +kernel
theorem dX9_standOf_99 : decode cX9_standOf 99 = .ok (.aload_n 0, 1) := by decide +kernel
theorem dX9_standOf_100 : decode cX9_standOf 100 = .ok (.getfield 113, 3) := by decide +kernel
theorem dX9_standOf_103 : decode cX9_standOf 103 = .ok (.if_icmp .ge 54, 3) := by decide +kernel
theorem dX9_standOf_106 : decode cX9_standOf 106 = .ok (.iload 10, 2) := by decide +kernel
theorem dX9_standOf_108 : decode cX9_standOf 108 = .ok (.iload_n 3, 1) := by decide +kernel
theorem dX9_standOf_109 : decode cX9_standOf 109 = .ok (.iload 9, 2) := by decide +kernel
theorem dX9_standOf_111 : decode cX9_standOf 111 = .ok (.invokestatic 199, 3) := by decide +kernel
theorem dX9_standOf_114 : decode cX9_standOf 114 = .ok (.ifCond .eq 33, 3) := by decide +kernel
theorem dX9_standOf_117 : decode cX9_standOf 117 = .ok (.iload_n 3, 1) := by decide +kernel
theorem dX9_standOf_118 : decode cX9_standOf 118 = .ok (.iload 11, 2) := by decide +kernel
theorem dX9_standOf_120 : decode cX9_standOf 120 = .ok (.invokestatic 199, 3) := by decide +kernel
theorem dX9_standOf_123 : decode cX9_standOf 123 = .ok (.ifCond .eq 24, 3) := by decide +kernel
theorem dX9_standOf_126 : decode cX9_standOf 126 = .ok (.aload_n 0, 1) := by decide +kernel
theorem dX9_standOf_127 : decode cX9_standOf 127 = .ok (.getfield 77, 3) := by decide +kernel
theorem dX9_standOf_130 : decode cX9_standOf 130 = .ok (.iload 9, 2) := by decide +kernel
theorem dX9_standOf_132 : decode cX9_standOf 132 = .ok (.iaload, 1) := by decide +kernel
theorem dX9_standOf_133 : decode cX9_standOf 133 = .ok (.aload_n 0, 1) := by decide +kernel
theorem dX9_standOf_134 : decode cX9_standOf 134 = .ok (.getfield 77, 3) := by decide +kernel
theorem dX9_standOf_137 : decode cX9_standOf 137 = .ok (.iload 11, 2) := by decide +kernel
theorem dX9_standOf_139 : decode cX9_standOf 139 = .ok (.iaload, 1) := by decide +kernel
theorem dX9_standOf_140 : decode cX9_standOf 140 = .ok (.if_icmp .ne 7, 3) := by decide +kernel
theorem dX9_standOf_143 : decode cX9_standOf 143 = .ok (.iconst 1, 1) := by decide +kernel
theorem dX9_standOf_144 : decode cX9_standOf 144 = .ok (.goto 4, 3) := by decide +kernel
theorem dX9_standOf_147 : decode cX9_standOf 147 = .ok (.iconst 0, 1) := by decide +kernel
theorem dX9_standOf_148 : decode cX9_standOf 148 = .ok (.iadd, 1) := by decide +kernel
theorem dX9_standOf_149 : decode cX9_standOf 149 = .ok (.istore 10, 2) := by decide +kernel
theorem dX9_standOf_151 : decode cX9_standOf 151 = .ok (.iinc 11 1, 3) := by decide +kernel
theorem dX9_standOf_154 : decode cX9_standOf 154 = .ok (.goto (-57), 3) := by decide +kernel
theorem dX9_standOf_157 : decode cX9_standOf 157 = .ok (.iload 10, 2) := by decide +kernel
theorem dX9_standOf_159 : decode cX9_standOf 159 = .ok (.iload 8, 2) := by decide +kernel
theorem dX9_standOf_161 : decode cX9_standOf 161 = .ok (.if_icmp .le 8, 3) := by decide +kernel
theorem dX9_standOf_164 : decode cX9_standOf 164 = .ok (.iload 10, 2) := by decide +kernel
theorem dX9_standOf_166 : decode cX9_standOf 166 = .ok (.goto 5, 3) := by decide +kernel
theorem dX9_standOf_169 : decode cX9_standOf 169 = .ok (.iload 8, 2) := by decide +kernel
theorem dX9_standOf_171 : decode cX9_standOf 171 = .ok (.istore 8, 2) := by decide +kernel
theorem dX9_standOf_173 : decode cX9_standOf 173 = .ok (.iinc 9 1, 3) := by decide +kernel
theorem dX9_standOf_176 : decode cX9_standOf 176 = .ok (.goto (-94), 3) := by decide +kernel
theorem dX9_standOf_179 : decode cX9_standOf 179 = .ok (.iload 5, 2) := by decide +kernel
theorem dX9_standOf_181 : decode cX9_standOf 181 = .ok (.iconst (-1), 1) := by decide +kernel
theorem dX9_standOf_182 : decode cX9_standOf 182 = .ok (.if_icmp .eq 10, 3) := by decide +kernel
theorem dX9_standOf_185 : decode cX9_standOf 185 = .ok (.iload 8, 2) := by decide +kernel
theorem dX9_standOf_187 : decode cX9_standOf 187 = .ok (.iload 6, 2) := by decide +kernel
theorem dX9_standOf_189 : decode cX9_standOf 189 = .ok (.if_icmp .ge 7, 3) := by decide +kernel
theorem dX9_standOf_192 : decode cX9_standOf 192 = .ok (.iconst 1, 1) := by decide +kernel
theorem dX9_standOf_193 : decode cX9_standOf 193 = .ok (.goto 4, 3) := by decide +kernel
theorem dX9_standOf_196 : decode cX9_standOf 196 = .ok (.iconst 0, 1) := by decide +kernel
theorem dX9_standOf_197 : decode cX9_standOf 197 = .ok (.istore 9, 2) := by decide +kernel
theorem dX9_standOf_199 : decode cX9_standOf 199 = .ok (.iload 9, 2) := by decide +kernel
theorem dX9_standOf_201 : decode cX9_standOf 201 = .ok (.ifCond .eq 8, 3) := by decide +kernel
theorem dX9_standOf_204 : decode cX9_standOf 204 = .ok (.iload 7, 2) := by decide +kernel
theorem dX9_standOf_206 : decode cX9_standOf 206 = .ok (.goto 5, 3) := by decide +kernel
theorem dX9_standOf_209 : decode cX9_standOf 209 = .ok (.iload 5, 2) := by decide +kernel
theorem dX9_standOf_211 : decode cX9_standOf 211 = .ok (.istore 5, 2) := by decide +kernel
theorem dX9_standOf_213 : decode cX9_standOf 213 = .ok (.iload 9, 2) := by decide +kernel
theorem dX9_standOf_215 : decode cX9_standOf 215 = .ok (.ifCond .eq 8, 3) := by decide +kernel
theorem dX9_standOf_218 : decode cX9_standOf 218 = .ok (.iload 8, 2) := by decide +kernel
theorem dX9_standOf_220 : decode cX9_standOf 220 = .ok (.goto 5, 3) := by decide +kernel
theorem dX9_standOf_223 : decode cX9_standOf 223 = .ok (.iload 6, 2) := by decide +kernel
theorem dX9_standOf_225 : decode cX9_standOf 225 = .ok (.istore 6, 2) := by decide +kernel
theorem dX9_standOf_227 : decode cX9_standOf 227 = .ok (.iinc 7 1, 3) := by decide +kernel
theorem dX9_standOf_230 : decode cX9_standOf 230 = .ok (.goto (-207), 3) := by decide +kernel
theorem dX9_standOf_233 : decode cX9_standOf 233 = .ok (.aload_n 0, 1) := by decide +kernel
theorem dX9_standOf_234 : decode cX9_standOf 234 = .ok (.getfield 37, 3) := by decide +kernel
theorem dX9_standOf_237 : decode cX9_standOf 237 = .ok (.iload_n 1, 1) := by decide +kernel
theorem dX9_standOf_238 : decode cX9_standOf 238 = .ok (.iload 4, 2) := by decide +kernel
theorem dX9_standOf_240 : decode cX9_standOf 240 = .ok (.iastore, 1) := by decide +kernel
theorem dX9_standOf_241 : decode cX9_standOf 241 = .ok (.iload 5, 2) := by decide +kernel
theorem dX9_standOf_243 : decode cX9_standOf 243 = .ok (.ireturn, 1) := by decide +kernel
theorem dX9_stand_0 : decode cX9_stand 0 = .ok (.aload_n 0, 1) := by decide +kernel
theorem dX9_stand_1 : decode cX9_stand 1 = .ok (.iload_n 1, 1) := by decide +kernel
theorem dX9_stand_2 : decode cX9_stand 2 = .ok (.invokevirtual 292, 3) := by decide +kernel
theorem dX9_stand_5 : decode cX9_stand 5 = .ok (.ifCond .eq 19, 3) := by decide +kernel
theorem dX9_stand_8 : decode cX9_stand 8 = .ok (.iload_n 2, 1) := by decide +kernel
theorem dX9_stand_9 : decode cX9_stand 9 = .ok (.invokestatic 142, 3) := by decide +kernel
theorem dX9_stand_12 : decode cX9_stand 12 = .ok (.ifCond .eq 12, 3) := by decide +kernel
theorem dX9_stand_15 : decode cX9_stand 15 = .ok (.aload_n 0, 1) := by decide +kernel
theorem dX9_stand_16 : decode cX9_stand 16 = .ok (.iload_n 1, 1) := by decide +kernel
theorem dX9_stand_17 : decode cX9_stand 17 = .ok (.iload_n 2, 1) := by decide +kernel
theorem dX9_stand_18 : decode cX9_stand 18 = .ok (.invokevirtual 298, 3) := by decide +kernel
theorem dX9_stand_21 : decode cX9_stand 21 = .ok (.goto 5, 3) := by decide +kernel
theorem dX9_stand_24 : decode cX9_stand 24 = .ok (.bipush (-2), 2) := by decide +kernel
theorem dX9_stand_26 : decode cX9_stand 26 = .ok (.ireturn, 1) := by decide +kernel
theorem dX9_draughtsOf_0 : decode cX9_draughtsOf 0 = .ok (.aload_n 0, 1) := by decide +kernel
theorem dX9_draughtsOf_1 : decode cX9_draughtsOf 1 = .ok (.invokevirtual 127, 3) := by decide +kernel
theorem dX9_draughtsOf_4 : decode cX9_draughtsOf 4 = .ok (.aload_n 0, 1) := by decide +kernel
theorem dX9_draughtsOf_5 : decode cX9_draughtsOf 5 = .ok (.invokevirtual 209, 3) := by decide +kernel
theorem dX9_draughtsOf_8 : decode cX9_draughtsOf 8 = .ok (.aload_n 0, 1) := by decide +kernel
theorem dX9_draughtsOf_9 : decode cX9_draughtsOf 9 = .ok (.iload_n 2, 1) := by decide +kernel
theorem dX9_draughtsOf_10 : decode cX9_draughtsOf 10 = .ok (.putfield 179, 3) := by decide +kernel
theorem dX9_draughtsOf_13 : decode cX9_draughtsOf 13 = .ok (.lconst 0, 1) := by decide +kernel
theorem dX9_draughtsOf_14 : decode cX9_draughtsOf 14 = .ok (.lstore 6, 2) := by decide +kernel
theorem dX9_draughtsOf_16 : decode cX9_draughtsOf 16 = .ok (.iconst 0, 1) := by decide +kernel
theorem dX9_draughtsOf_17 : decode cX9_draughtsOf 17 = .ok (.istore 8, 2) := by decide +kernel
theorem dX9_draughtsOf_19 : decode cX9_draughtsOf 19 = .ok (.iload 8, 2) := by decide +kernel
theorem dX9_draughtsOf_21 : decode cX9_draughtsOf 21 = .ok (.iconst 2, 1) := by decide +kernel
theorem dX9_draughtsOf_22 : decode cX9_draughtsOf 22 = .ok (.iload 4, 2) := by decide +kernel
theorem dX9_draughtsOf_24 : decode cX9_draughtsOf 24 = .ok (.ishl, 1) := by decide +kernel
theorem dX9_draughtsOf_25 : decode cX9_draughtsOf 25 = .ok (.if_icmp .ge 95, 3) := by decide +kernel
theorem dX9_draughtsOf_28 : decode cX9_draughtsOf 28 = .ok (.lconst 1, 1) := by decide +kernel
theorem dX9_draughtsOf_29 : decode cX9_draughtsOf 29 = .ok (.lstore 9, 2) := by decide +kernel
theorem dX9_draughtsOf_31 : decode cX9_draughtsOf 31 = .ok (.iconst 0, 1) := by decide +kernel
theorem dX9_draughtsOf_32 : decode cX9_draughtsOf 32 = .ok (.istore 11, 2) := by decide +kernel
theorem dX9_draughtsOf_34 : decode cX9_draughtsOf 34 = .ok (.iload 11, 2) := by decide +kernel
theorem dX9_draughtsOf_36 : decode cX9_draughtsOf 36 = .ok (.iload 4, 2) := by decide +kernel
theorem dX9_draughtsOf_38 : decode cX9_draughtsOf 38 = .ok (.if_icmp .gt 34, 3) := by decide +kernel
theorem dX9_draughtsOf_41 : decode cX9_draughtsOf 41 = .ok (.lload 9, 2) := by decide +kernel
theorem dX9_draughtsOf_43 : decode cX9_draughtsOf 43 = .ok (.iload 8, 2) := by decide +kernel
theorem dX9_draughtsOf_45 : decode cX9_draughtsOf 45 = .ok (.iload 11, 2) := by decide +kernel
theorem dX9_draughtsOf_47 : decode cX9_draughtsOf 47 = .ok (.invokestatic 199, 3) := by decide +kernel
theorem dX9_draughtsOf_50 : decode cX9_draughtsOf 50 = .ok (.ifCond .eq 8, 3) := by decide +kernel
theorem dX9_draughtsOf_53 : decode cX9_draughtsOf 53 = .ok (.iload_n 1, 1) := by decide +kernel
theorem dX9_draughtsOf_54 : decode cX9_draughtsOf 54 = .ok (.i2l, 1) := by decide +kernel
theorem dX9_draughtsOf_55 : decode cX9_draughtsOf 55 = .ok (.goto 8, 3) := by decide +kernel
theorem dX9_draughtsOf_58 : decode cX9_draughtsOf 58 = .ok (.bipush 16, 2) := by decide +kernel
theorem dX9_draughtsOf_60 : decode cX9_draughtsOf 60 = .ok (.iload_n 1, 1) := by decide +kernel
theorem dX9_draughtsOf_61 : decode cX9_draughtsOf 61 = .ok (.isub, 1) := by decide +kernel
theorem dX9_draughtsOf_62 : decode cX9_draughtsOf 62 = .ok (.i2l, 1) := by decide +kernel
theorem dX9_draughtsOf_63 : decode cX9_draughtsOf 63 = .ok (.lmul, 1) := by decide +kernel
theorem dX9_draughtsOf_64 : decode cX9_draughtsOf 64 = .ok (.lstore 9, 2) := by decide +kernel
theorem dX9_draughtsOf_66 : decode cX9_draughtsOf 66 = .ok (.iinc 11 1, 3) := by decide +kernel
theorem dX9_draughtsOf_69 : decode cX9_draughtsOf 69 = .ok (.goto (-35), 3) := by decide +kernel
theorem dX9_draughtsOf_72 : decode cX9_draughtsOf 72 = .ok (.lload 9, 2) := by decide +kernel
theorem dX9_draughtsOf_74 : decode cX9_draughtsOf 74 = .ok (.lconst 0, 1) := by decide +kernel
theorem dX9_draughtsOf_75 : decode cX9_draughtsOf 75 = .ok (.lcmp, 1) := by decide +kernel
theorem dX9_draughtsOf_76 : decode cX9_draughtsOf 76 = .ok (.ifCond .le 38, 3) := by decide +kernel
theorem dX9_draughtsOf_79 : decode cX9_draughtsOf 79 = .ok (.aload_n 0, 1) := by decide +kernel
theorem dX9_draughtsOf_80 : decode cX9_draughtsOf 80 = .ok (.iload 8, 2) := by decide +kernel
theorem dX9_draughtsOf_82 : decode cX9_draughtsOf 82 = .ok (.putfield 176, 3) := by decide +kernel
theorem dX9_draughtsOf_85 : decode cX9_draughtsOf 85 = .ok (.aload_n 0, 1) := by decide +kernel
theorem dX9_draughtsOf_86 : decode cX9_draughtsOf 86 = .ok (.iload 4, 2) := by decide +kernel
theorem dX9_draughtsOf_88 : decode cX9_draughtsOf 88 = .ok (.invokevirtual 212, 3) := by decide +kernel
theorem dX9_draughtsOf_91 : decode cX9_draughtsOf 91 = .ok (.lload 6, 2) := by decide +kernel
theorem dX9_draughtsOf_93 : decode cX9_draughtsOf 93 = .ok (.aload_n 0, 1) := by decide +kernel
theorem dX9_draughtsOf_94 : decode cX9_draughtsOf 94 = .ok (.iload_n 2, 1) := by decide +kernel
theorem dX9_draughtsOf_95 : decode cX9_draughtsOf 95 = .ok (.invokevirtual 215, 3) := by decide +kernel
theorem dX9_draughtsOf_98 : decode cX9_draughtsOf 98 = .ok (.iload_n 3, 1) := by decide +kernel
theorem dX9_draughtsOf_99 : decode cX9_draughtsOf 99 = .ok (.invokestatic 199, 3) := by decide +kernel
theorem dX9_draughtsOf_102 : decode cX9_draughtsOf 102 = .ok (.ifCond .eq 8, 3) := by decide +kernel
theorem dX9_draughtsOf_105 : decode cX9_draughtsOf 105 = .ok (.lload 9, 2) := by decide +kernel
theorem dX9_draughtsOf_107 : decode cX9_draughtsOf 107 = .ok (.goto 4, 3) := by decide +kernel
theorem dX9_draughtsOf_110 : decode cX9_draughtsOf 110 = .ok (.lconst 0, 1) := by decide +kernel
theorem dX9_draughtsOf_111 : decode cX9_draughtsOf 111 = .ok (.ladd, 1) := by decide +kernel
theorem dX9_draughtsOf_112 : decode cX9_draughtsOf 112 = .ok (.lstore 6, 2) := by decide +kernel
theorem dX9_draughtsOf_114 : decode cX9_draughtsOf 114 = .ok (.iinc 8 1, 3) := by decide +kernel
theorem dX9_draughtsOf_117 : decode cX9_draughtsOf 117 = .ok (.goto (-98), 3) := by decide +kernel
theorem dX9_draughtsOf_120 : decode cX9_draughtsOf 120 = .ok (.lload 6, 2) := by decide +kernel
theorem dX9_draughtsOf_122 : decode cX9_draughtsOf 122 = .ok (.lconst 1, 1) := by decide +kernel
theorem dX9_draughtsOf_123 : decode cX9_draughtsOf 123 = .ok (.iconst 4, 1) := by decide +kernel
theorem dX9_draughtsOf_124 : decode cX9_draughtsOf 124 = .ok (.iload 4, 2) := by decide +kernel
theorem dX9_draughtsOf_126 : decode cX9_draughtsOf 126 = .ok (.iconst 1, 1) := by decide +kernel
theorem dX9_draughtsOf_127 : decode cX9_draughtsOf 127 = .ok (.iadd, 1) := by decide +kernel
theorem dX9_draughtsOf_128 : decode cX9_draughtsOf 128 = .ok (.imul, 1) := by decide +kernel
theorem dX9_draughtsOf_129 : decode cX9_draughtsOf 129 = .ok (.lshl, 1) := by decide +kernel
theorem dX9_draughtsOf_130 : decode cX9_draughtsOf 130 = .ok (.iload 5, 2) := by decide +kernel
theorem dX9_draughtsOf_132 : decode cX9_draughtsOf 132 = .ok (.invokestatic 301, 3) := by decide +kernel
theorem dX9_draughtsOf_135 : decode cX9_draughtsOf 135 = .ok (.lreturn, 1) := by decide +kernel
theorem dX9_draughts_0 : decode cX9_draughts 0 = .ok (.iload_n 1, 1) := by decide +kernel
theorem dX9_draughts_1 : decode cX9_draughts 1 = .ok (.iconst 0, 1) := by decide +kernel
theorem dX9_draughts_2 : decode cX9_draughts 2 = .ok (.bipush 16, 2) := by decide +kernel
theorem dX9_draughts_4 : decode cX9_draughts 4 = .ok (.invokestatic 97, 3) := by decide +kernel
theorem dX9_draughts_7 : decode cX9_draughts 7 = .ok (.ifCond .eq 34, 3) := by decide +kernel
theorem dX9_draughts_10 : decode cX9_draughts 10 = .ok (.aload_n 0, 1) := by decide +kernel
theorem dX9_draughts_11 : decode cX9_draughts 11 = .ok (.iload_n 2, 1) := by decide +kernel
theorem dX9_draughts_12 : decode cX9_draughts 12 = .ok (.invokevirtual 130, 3) := by decide +kernel
theorem dX9_draughts_15 : decode cX9_draughts 15 = .ok (.ifCond .eq 26, 3) := by decide +kernel
theorem dX9_draughts_18 : decode cX9_draughts 18 = .ok (.aload_n 0, 1) := by decide +kernel
theorem dX9_draughts_19 : decode cX9_draughts 19 = .ok (.iload_n 3, 1) := by decide +kernel
theorem dX9_draughts_20 : decode cX9_draughts 20 = .ok (.invokevirtual 136, 3) := by decide +kernel
theorem dX9_draughts_23 : decode cX9_draughts 23 = .ok (.ifCond .eq 18, 3) := by decide +kernel
theorem dX9_draughts_26 : decode cX9_draughts 26 = .ok (.iload 4, 2) := by decide +kernel
theorem dX9_draughts_28 : decode cX9_draughts 28 = .ok (.iconst 0, 1) := by decide +kernel
theorem dX9_draughts_29 : decode cX9_draughts 29 = .ok (.bipush 9, 2) := by decide +kernel
theorem dX9_draughts_31 : decode cX9_draughts 31 = .ok (.invokestatic 97, 3) := by decide +kernel
theorem dX9_draughts_34 : decode cX9_draughts 34 = .ok (.ifCond .eq 7, 3) := by decide +kernel
theorem dX9_draughts_37 : decode cX9_draughts 37 = .ok (.iconst 1, 1) := by decide +kernel
theorem dX9_draughts_38 : decode cX9_draughts 38 = .ok (.goto 4, 3) := by decide +kernel
theorem dX9_draughts_41 : decode cX9_draughts 41 = .ok (.iconst 0, 1) := by decide +kernel
theorem dX9_draughts_42 : decode cX9_draughts 42 = .ok (.istore 6, 2) := by decide +kernel
theorem dX9_draughts_44 : decode cX9_draughts 44 = .ok (.iload 6, 2) := by decide +kernel
theorem dX9_draughts_46 : decode cX9_draughts 46 = .ok (.ifCond .eq 27, 3) := by decide +kernel
theorem dX9_draughts_49 : decode cX9_draughts 49 = .ok (.iload 5, 2) := by decide +kernel
theorem dX9_draughts_51 : decode cX9_draughts 51 = .ok (.iconst 0, 1) := by decide +kernel
theorem dX9_draughts_52 : decode cX9_draughts 52 = .ok (.iconst 1, 1) := by decide +kernel
theorem dX9_draughts_53 : decode cX9_draughts 53 = .ok (.invokestatic 97, 3) := by decide +kernel
theorem dX9_draughts_56 : decode cX9_draughts 56 = .ok (.ifCond .eq 17, 3) := by decide +kernel
theorem dX9_draughts_59 : decode cX9_draughts 59 = .ok (.aload_n 0, 1) := by decide +kernel
theorem dX9_draughts_60 : decode cX9_draughts 60 = .ok (.iload_n 1, 1) := by decide +kernel
theorem dX9_draughts_61 : decode cX9_draughts 61 = .ok (.iload_n 2, 1) := by decide +kernel
theorem dX9_draughts_62 : decode cX9_draughts 62 = .ok (.iload_n 3, 1) := by decide +kernel
theorem dX9_draughts_63 : decode cX9_draughts 63 = .ok (.iload 4, 2) := by decide +kernel
theorem dX9_draughts_65 : decode cX9_draughts 65 = .ok (.iload 5, 2) := by decide +kernel
theorem dX9_draughts_67 : decode cX9_draughts 67 = .ok (.invokevirtual 305, 3) := by decide +kernel
theorem dX9_draughts_70 : decode cX9_draughts 70 = .ok (.goto 8, 3) := by decide +kernel
theorem dX9_draughts_73 : decode cX9_draughts 73 = .ok (.bipush (-2), 2) := by decide +kernel
theorem dX9_draughts_75 : decode cX9_draughts 75 = .ok (.invokestatic 309, 3) := by decide +kernel
theorem dX9_draughts_78 : decode cX9_draughts 78 = .ok (.lreturn, 1) := by decide +kernel
theorem dX9_foundOf_0 : decode cX9_foundOf 0 = .ok (.aload_n 0, 1) := by decide +kernel
theorem dX9_foundOf_1 : decode cX9_foundOf 1 = .ok (.invokevirtual 127, 3) := by decide +kernel
theorem dX9_foundOf_4 : decode cX9_foundOf 4 = .ok (.aload_n 0, 1) := by decide +kernel
theorem dX9_foundOf_5 : decode cX9_foundOf 5 = .ok (.invokevirtual 209, 3) := by decide +kernel
theorem dX9_foundOf_8 : decode cX9_foundOf 8 = .ok (.aload_n 0, 1) := by decide +kernel
theorem dX9_foundOf_9 : decode cX9_foundOf 9 = .ok (.invokevirtual 203, 3) := by decide +kernel
theorem dX9_foundOf_12 : decode cX9_foundOf 12 = .ok (.iconst 0, 1) := by decide +kernel
theorem dX9_foundOf_13 : decode cX9_foundOf 13 = .ok (.istore 5, 2) := by decide +kernel
theorem dX9_foundOf_15 : decode cX9_foundOf 15 = .ok (.iconst 0, 1) := by decide +kernel
theorem dX9_foundOf_16 : decode cX9_foundOf 16 = .ok (.istore 6, 2) := by decide +kernel
theorem dX9_foundOf_18 : decode cX9_foundOf 18 = .ok (.iload 6, 2) := by decide +kernel
theorem dX9_foundOf_20 : decode cX9_foundOf 20 = .ok (.bipush 24, 2) := by decide +kernel
theorem dX9_foundOf_22 : decode cX9_foundOf 22 = .ok (.if_icmp .ge 46, 3) := by decide +kernel
theorem dX9_foundOf_25 : decode cX9_foundOf 25 = .ok (.aload_n 0, 1) := by decide +kernel
theorem dX9_foundOf_26 : decode cX9_foundOf 26 = .ok (.iload 6, 2) := by decide +kernel
theorem dX9_foundOf_28 : decode cX9_foundOf 28 = .ok (.invokevirtual 206, 3) := by decide +kernel
theorem dX9_foundOf_31 : decode cX9_foundOf 31 = .ok (.iload 5, 2) := by decide +kernel
theorem dX9_foundOf_33 : decode cX9_foundOf 33 = .ok (.iload_n 1, 1) := by decide +kernel
theorem dX9_foundOf_34 : decode cX9_foundOf 34 = .ok (.iload 6, 2) := by decide +kernel
theorem dX9_foundOf_36 : decode cX9_foundOf 36 = .ok (.invokestatic 199, 3) := by decide +kernel
theorem dX9_foundOf_39 : decode cX9_foundOf 39 = .ok (.ifCond .eq 19, 3) := by decide +kernel
theorem dX9_foundOf_42 : decode cX9_foundOf 42 = .ok (.aload_n 0, 1) := by decide +kernel
theorem dX9_foundOf_43 : decode cX9_foundOf 43 = .ok (.iload_n 2, 1) := by decide +kernel
theorem dX9_foundOf_44 : decode cX9_foundOf 44 = .ok (.invokevirtual 215, 3) := by decide +kernel
theorem dX9_foundOf_47 : decode cX9_foundOf 47 = .ok (.iload_n 3, 1) := by decide +kernel
theorem dX9_foundOf_48 : decode cX9_foundOf 48 = .ok (.invokestatic 199, 3) := by decide +kernel
theorem dX9_foundOf_51 : decode cX9_foundOf 51 = .ok (.ifCond .eq 7, 3) := by decide +kernel
theorem dX9_foundOf_54 : decode cX9_foundOf 54 = .ok (.iconst 1, 1) := by decide +kernel
theorem dX9_foundOf_55 : decode cX9_foundOf 55 = .ok (.goto 4, 3) := by decide +kernel
theorem dX9_foundOf_58 : decode cX9_foundOf 58 = .ok (.iconst 0, 1) := by decide +kernel
theorem dX9_foundOf_59 : decode cX9_foundOf 59 = .ok (.iadd, 1) := by decide +kernel
theorem dX9_foundOf_60 : decode cX9_foundOf 60 = .ok (.istore 5, 2) := by decide +kernel
theorem dX9_foundOf_62 : decode cX9_foundOf 62 = .ok (.iinc 6 1, 3) := by decide +kernel
theorem dX9_foundOf_65 : decode cX9_foundOf 65 = .ok (.goto (-47), 3) := by decide +kernel
theorem dX9_foundOf_68 : decode cX9_foundOf 68 = .ok (.iload 5, 2) := by decide +kernel
theorem dX9_foundOf_70 : decode cX9_foundOf 70 = .ok (.i2l, 1) := by decide +kernel
theorem dX9_foundOf_71 : decode cX9_foundOf 71 = .ok (.iload_n 1, 1) := by decide +kernel
theorem dX9_foundOf_72 : decode cX9_foundOf 72 = .ok (.ifCond .ne 7, 3) := by decide +kernel
theorem dX9_foundOf_75 : decode cX9_foundOf 75 = .ok (.lconst 1, 1) := by decide +kernel
theorem dX9_foundOf_76 : decode cX9_foundOf 76 = .ok (.goto 8, 3) := by decide +kernel
theorem dX9_foundOf_79 : decode cX9_foundOf 79 = .ok (.iload_n 1, 1) := by decide +kernel
theorem dX9_foundOf_80 : decode cX9_foundOf 80 = .ok (.invokestatic 276, 3) := by decide +kernel
theorem dX9_foundOf_83 : decode cX9_foundOf 83 = .ok (.i2l, 1) := by decide +kernel
theorem dX9_foundOf_84 : decode cX9_foundOf 84 = .ok (.iload 4, 2) := by decide +kernel
theorem dX9_foundOf_86 : decode cX9_foundOf 86 = .ok (.invokestatic 301, 3) := by decide +kernel
theorem dX9_foundOf_89 : decode cX9_foundOf 89 = .ok (.lreturn, 1) := by decide +kernel
theorem dX9_found_0 : decode cX9_found 0 = .ok (.iload_n 1, 1) := by decide +kernel
theorem dX9_found_1 : decode cX9_found 1 = .ok (.iconst 0, 1) := by decide +kernel
theorem dX9_found_2 : decode cX9_found 2 = .ok (.ldc_w 313, 3) := by decide +kernel
theorem dX9_found_5 : decode cX9_found 5 = .ok (.invokestatic 97, 3) := by decide +kernel
theorem dX9_found_8 : decode cX9_found 8 = .ok (.ifCond .eq 23, 3) := by decide +kernel
theorem dX9_found_11 : decode cX9_found 11 = .ok (.aload_n 0, 1) := by decide +kernel
theorem dX9_found_12 : decode cX9_found 12 = .ok (.iload_n 2, 1) := by decide +kernel
theorem dX9_found_13 : decode cX9_found 13 = .ok (.invokevirtual 130, 3) := by decide +kernel
theorem dX9_found_16 : decode cX9_found 16 = .ok (.ifCond .eq 15, 3) := by decide +kernel
theorem dX9_found_19 : decode cX9_found 19 = .ok (.aload_n 0, 1) := by decide +kernel
theorem dX9_found_20 : decode cX9_found 20 = .ok (.iload_n 3, 1) := by decide +kernel
theorem dX9_found_21 : decode cX9_found 21 = .ok (.invokevirtual 136, 3) := by decide +kernel
theorem dX9_found_24 : decode cX9_found 24 = .ok (.ifCond .eq 7, 3) := by decide +kernel
theorem dX9_found_27 : decode cX9_found 27 = .ok (.iconst 1, 1) := by decide +kernel
theorem dX9_found_28 : decode cX9_found 28 = .ok (.goto 4, 3) := by decide +kernel
theorem dX9_found_31 : decode cX9_found 31 = .ok (.iconst 0, 1) := by decide +kernel
theorem dX9_found_32 : decode cX9_found 32 = .ok (.istore 5, 2) := by decide +kernel
theorem dX9_found_34 : decode cX9_found 34 = .ok (.iload 5, 2) := by decide +kernel
theorem dX9_found_36 : decode cX9_found 36 = .ok (.ifCond .eq 25, 3) := by decide +kernel
theorem dX9_found_39 : decode cX9_found 39 = .ok (.iload 4, 2) := by decide +kernel
theorem dX9_found_41 : decode cX9_found 41 = .ok (.iconst 0, 1) := by decide +kernel
theorem dX9_found_42 : decode cX9_found 42 = .ok (.iconst 1, 1) := by decide +kernel
theorem dX9_found_43 : decode cX9_found 43 = .ok (.invokestatic 97, 3) := by decide +kernel
theorem dX9_found_46 : decode cX9_found 46 = .ok (.ifCond .eq 15, 3) := by decide +kernel
theorem dX9_found_49 : decode cX9_found 49 = .ok (.aload_n 0, 1) := by decide +kernel
theorem dX9_found_50 : decode cX9_found 50 = .ok (.iload_n 1, 1) := by decide +kernel
theorem dX9_found_51 : decode cX9_found 51 = .ok (.iload_n 2, 1) := by decide +kernel
theorem dX9_found_52 : decode cX9_found 52 = .ok (.iload_n 3, 1) := by decide +kernel
theorem dX9_found_53 : decode cX9_found 53 = .ok (.iload 4, 2) := by decide +kernel
theorem dX9_found_55 : decode cX9_found 55 = .ok (.invokevirtual 314, 3) := by decide +kernel
theorem dX9_found_58 : decode cX9_found 58 = .ok (.goto 8, 3) := by decide +kernel
theorem dX9_found_61 : decode cX9_found 61 = .ok (.bipush (-2), 2) := by decide +kernel
theorem dX9_found_63 : decode cX9_found 63 = .ok (.invokestatic 309, 3) := by decide +kernel
theorem dX9_found_66 : decode cX9_found 66 = .ok (.lreturn, 1) := by decide +kernel
theorem dX9_dayOf_0 : decode cX9_dayOf 0 = .ok (.aload_n 0, 1) := by decide +kernel
theorem dX9_dayOf_1 : decode cX9_dayOf 1 = .ok (.invokevirtual 127, 3) := by decide +kernel
theorem dX9_dayOf_4 : decode cX9_dayOf 4 = .ok (.aload_n 0, 1) := by decide +kernel
theorem dX9_dayOf_5 : decode cX9_dayOf 5 = .ok (.invokevirtual 209, 3) := by decide +kernel
theorem dX9_dayOf_8 : decode cX9_dayOf 8 = .ok (.iload_n 1, 1) := by decide +kernel
theorem dX9_dayOf_9 : decode cX9_dayOf 9 = .ok (.istore 4, 2) := by decide +kernel
theorem dX9_dayOf_11 : decode cX9_dayOf 11 = .ok (.iconst 0, 1) := by decide +kernel
theorem dX9_dayOf_12 : decode cX9_dayOf 12 = .ok (.istore 5, 2) := by decide +kernel
theorem dX9_dayOf_14 : decode cX9_dayOf 14 = .ok (.iload 5, 2) := by decide +kernel
theorem dX9_dayOf_16 : decode cX9_dayOf 16 = .ok (.iload_n 2, 1) := by decide +kernel
theorem dX9_dayOf_17 : decode cX9_dayOf 17 = .ok (.if_icmp .gt 84, 3) := by decide +kernel
theorem dX9_dayOf_20 : decode cX9_dayOf 20 = .ok (.aload_n 0, 1) := by decide +kernel
theorem dX9_dayOf_21 : decode cX9_dayOf 21 = .ok (.getfield 113, 3) := by decide +kernel
theorem dX9_dayOf_24 : decode cX9_dayOf 24 = .ok (.ifCond .le 77, 3) := by decide +kernel
theorem dX9_dayOf_27 : decode cX9_dayOf 27 = .ok (.ldc_w 318, 3) := by decide +kernel
theorem dX9_dayOf_30 : decode cX9_dayOf 30 = .ok (.iload 4, 2) := by decide +kernel
theorem dX9_dayOf_32 : decode cX9_dayOf 32 = .ok (.imul, 1) := by decide +kernel
theorem dX9_dayOf_33 : decode cX9_dayOf 33 = .ok (.sipush 12345, 3) := by decide +kernel
theorem dX9_dayOf_36 : decode cX9_dayOf 36 = .ok (.iadd, 1) := by decide +kernel
theorem dX9_dayOf_37 : decode cX9_dayOf 37 = .ok (.istore 4, 2) := by decide +kernel
theorem dX9_dayOf_39 : decode cX9_dayOf 39 = .ok (.iload 4, 2) := by decide +kernel
theorem dX9_dayOf_41 : decode cX9_dayOf 41 = .ok (.bipush 16, 2) := by decide +kernel
theorem dX9_dayOf_43 : decode cX9_dayOf 43 = .ok (.iushr, 1) := by decide +kernel
theorem dX9_dayOf_44 : decode cX9_dayOf 44 = .ok (.aload_n 0, 1) := by decide +kernel
theorem dX9_dayOf_45 : decode cX9_dayOf 45 = .ok (.getfield 113, 3) := by decide +kernel
theorem dX9_dayOf_48 : decode cX9_dayOf 48 = .ok (.irem, 1) := by decide +kernel
theorem dX9_dayOf_49 : decode cX9_dayOf 49 = .ok (.istore 6, 2) := by decide +kernel
theorem dX9_dayOf_51 : decode cX9_dayOf 51 = .ok (.ldc_w 318, 3) := by decide +kernel
theorem dX9_dayOf_54 : decode cX9_dayOf 54 = .ok (.iload 4, 2) := by decide +kernel
theorem dX9_dayOf_56 : decode cX9_dayOf 56 = .ok (.imul, 1) := by decide +kernel
theorem dX9_dayOf_57 : decode cX9_dayOf 57 = .ok (.sipush 12345, 3) := by decide +kernel
theorem dX9_dayOf_60 : decode cX9_dayOf 60 = .ok (.iadd, 1) := by decide +kernel
theorem dX9_dayOf_61 : decode cX9_dayOf 61 = .ok (.istore 4, 2) := by decide +kernel
theorem dX9_dayOf_63 : decode cX9_dayOf 63 = .ok (.aload_n 0, 1) := by decide +kernel
theorem dX9_dayOf_64 : decode cX9_dayOf 64 = .ok (.aload_n 0, 1) := by decide +kernel
theorem dX9_dayOf_65 : decode cX9_dayOf 65 = .ok (.getfield 170, 3) := by decide +kernel
theorem dX9_dayOf_68 : decode cX9_dayOf 68 = .ok (.iload 5, 2) := by decide +kernel
theorem dX9_dayOf_70 : decode cX9_dayOf 70 = .ok (.iload 6, 2) := by decide +kernel
theorem dX9_dayOf_72 : decode cX9_dayOf 72 = .ok (.iload 4, 2) := by decide +kernel
theorem dX9_dayOf_74 : decode cX9_dayOf 74 = .ok (.bipush 16, 2) := by decide +kernel
theorem dX9_dayOf_76 : decode cX9_dayOf 76 = .ok (.iushr, 1) := by decide +kernel
theorem dX9_dayOf_77 : decode cX9_dayOf 77 = .ok (.aload_n 0, 1) := by decide +kernel
theorem dX9_dayOf_78 : decode cX9_dayOf 78 = .ok (.getfield 109, 3) := by decide +kernel
theorem dX9_dayOf_81 : decode cX9_dayOf 81 = .ok (.irem, 1) := by decide +kernel
theorem dX9_dayOf_82 : decode cX9_dayOf 82 = .ok (.invokevirtual 154, 3) := by decide +kernel
theorem dX9_dayOf_85 : decode cX9_dayOf 85 = .ok (.aload_n 0, 1) := by decide +kernel
theorem dX9_dayOf_86 : decode cX9_dayOf 86 = .ok (.dup, 1) := by decide +kernel
theorem dX9_dayOf_87 : decode cX9_dayOf 87 = .ok (.getfield 170, 3) := by decide +kernel
theorem dX9_dayOf_90 : decode cX9_dayOf 90 = .ok (.iconst 1, 1) := by decide +kernel
theorem dX9_dayOf_91 : decode cX9_dayOf 91 = .ok (.iadd, 1) := by decide +kernel
theorem dX9_dayOf_92 : decode cX9_dayOf 92 = .ok (.putfield 170, 3) := by decide +kernel
theorem dX9_dayOf_95 : decode cX9_dayOf 95 = .ok (.iinc 5 1, 3) := by decide +kernel
theorem dX9_dayOf_98 : decode cX9_dayOf 98 = .ok (.goto (-84), 3) := by decide +kernel
theorem dX9_dayOf_101 : decode cX9_dayOf 101 = .ok (.aload_n 0, 1) := by decide +kernel
theorem dX9_dayOf_102 : decode cX9_dayOf 102 = .ok (.iload_n 2, 1) := by decide +kernel
theorem dX9_dayOf_103 : decode cX9_dayOf 103 = .ok (.invokevirtual 212, 3) := by decide +kernel
theorem dX9_dayOf_106 : decode cX9_dayOf 106 = .ok (.aload_n 0, 1) := by decide +kernel
theorem dX9_dayOf_107 : decode cX9_dayOf 107 = .ok (.iload_n 3, 1) := by decide +kernel
theorem dX9_dayOf_108 : decode cX9_dayOf 108 = .ok (.invokevirtual 215, 3) := by decide +kernel
theorem dX9_dayOf_111 : decode cX9_dayOf 111 = .ok (.ireturn, 1) := by decide +kernel
theorem dX9_day_0 : decode cX9_day 0 = .ok (.iload_n 2, 1) := by decide +kernel
theorem dX9_day_1 : decode cX9_day 1 = .ok (.invokestatic 142, 3) := by decide +kernel
theorem dX9_day_4 : decode cX9_day 4 = .ok (.ifCond .eq 21, 3) := by decide +kernel
theorem dX9_day_7 : decode cX9_day 7 = .ok (.aload_n 0, 1) := by decide +kernel
theorem dX9_day_8 : decode cX9_day 8 = .ok (.iload_n 3, 1) := by decide +kernel
theorem dX9_day_9 : decode cX9_day 9 = .ok (.invokevirtual 130, 3) := by decide +kernel
theorem dX9_day_12 : decode cX9_day 12 = .ok (.ifCond .eq 13, 3) := by decide +kernel
theorem dX9_day_15 : decode cX9_day 15 = .ok (.aload_n 0, 1) := by decide +kernel
theorem dX9_day_16 : decode cX9_day 16 = .ok (.iload_n 1, 1) := by decide +kernel
theorem dX9_day_17 : decode cX9_day 17 = .ok (.iload_n 2, 1) := by decide +kernel
theorem dX9_day_18 : decode cX9_day 18 = .ok (.iload_n 3, 1) := by decide +kernel
theorem dX9_day_19 : decode cX9_day 19 = .ok (.invokevirtual 319, 3) := by decide +kernel
theorem dX9_day_22 : decode cX9_day 22 = .ok (.goto 5, 3) := by decide +kernel
theorem dX9_day_25 : decode cX9_day 25 = .ok (.bipush (-2), 2) := by decide +kernel
theorem dX9_day_27 : decode cX9_day 27 = .ok (.ireturn, 1) := by decide +kernel
theorem dX9_meets_0 : decode cX9_meets 0 = .ok (.aload_n 0, 1) := by decide +kernel
theorem dX9_meets_1 : decode cX9_meets 1 = .ok (.iload_n 1, 1) := by decide +kernel
theorem dX9_meets_2 : decode cX9_meets 2 = .ok (.putfield 322, 3) := by decide +kernel
theorem dX9_meets_5 : decode cX9_meets 5 = .ok (.bipush (-10), 2) := by decide +kernel
theorem dX9_meets_7 : decode cX9_meets 7 = .ok (.iload_n 1, 1) := by decide +kernel
theorem dX9_meets_8 : decode cX9_meets 8 = .ok (.isub, 1) := by decide +kernel
theorem dX9_meets_9 : decode cX9_meets 9 = .ok (.ireturn, 1) := by decide +kernel
theorem dX9_isSheet_0 : decode cX9_isSheet 0 = .ok (.iload_n 0, 1) := by decide +kernel
theorem dX9_isSheet_1 : decode cX9_isSheet 1 = .ok (.iconst 0, 1) := by decide +kernel
theorem dX9_isSheet_2 : decode cX9_isSheet 2 = .ok (.iconst 3, 1) := by decide +kernel
theorem dX9_isSheet_3 : decode cX9_isSheet 3 = .ok (.invokestatic 97, 3) := by decide +kernel
theorem dX9_isSheet_6 : decode cX9_isSheet 6 = .ok (.ireturn, 1) := by decide +kernel
theorem dX9_sheet_0 : decode cX9_sheet 0 = .ok (.iload_n 1, 1) := by decide +kernel
theorem dX9_sheet_1 : decode cX9_sheet 1 = .ok (.invokestatic 161, 3) := by decide +kernel
theorem dX9_sheet_4 : decode cX9_sheet 4 = .ok (.ifCond .eq 18, 3) := by decide +kernel
theorem dX9_sheet_7 : decode cX9_sheet 7 = .ok (.iload_n 2, 1) := by decide +kernel
theorem dX9_sheet_8 : decode cX9_sheet 8 = .ok (.iconst 0, 1) := by decide +kernel
theorem dX9_sheet_9 : decode cX9_sheet 9 = .ok (.iconst 2, 1) := by decide +kernel
theorem dX9_sheet_10 : decode cX9_sheet 10 = .ok (.invokestatic 97, 3) := by decide +kernel
theorem dX9_sheet_13 : decode cX9_sheet 13 = .ok (.ifCond .eq 9, 3) := by decide +kernel
theorem dX9_sheet_16 : decode cX9_sheet 16 = .ok (.iload_n 3, 1) := by decide +kernel
theorem dX9_sheet_17 : decode cX9_sheet 17 = .ok (.bipush 60, 2) := by decide +kernel
theorem dX9_sheet_19 : decode cX9_sheet 19 = .ok (.if_icmp .le 6, 3) := by decide +kernel
theorem dX9_sheet_22 : decode cX9_sheet 22 = .ok (.bipush (-2), 2) := by decide +kernel
theorem dX9_sheet_24 : decode cX9_sheet 24 = .ok (.ireturn, 1) := by decide +kernel
theorem dX9_sheet_25 : decode cX9_sheet 25 = .ok (.iload_n 3, 1) := by decide +kernel
theorem dX9_sheet_26 : decode cX9_sheet 26 = .ok (.ifCond .ge 9, 3) := by decide +kernel
theorem dX9_sheet_29 : decode cX9_sheet 29 = .ok (.aload_n 0, 1) := by decide +kernel
theorem dX9_sheet_30 : decode cX9_sheet 30 = .ok (.iconst 5, 1) := by decide +kernel
theorem dX9_sheet_31 : decode cX9_sheet 31 = .ok (.invokevirtual 164, 3) := by decide +kernel
theorem dX9_sheet_34 : decode cX9_sheet 34 = .ok (.ireturn, 1) := by decide +kernel
theorem dX9_sheet_35 : decode cX9_sheet 35 = .ok (.aload_n 0, 1) := by decide +kernel
theorem dX9_sheet_36 : decode cX9_sheet 36 = .ok (.getfield 80, 3) := by decide +kernel
theorem dX9_sheet_39 : decode cX9_sheet 39 = .ok (.iload_n 1, 1) := by decide +kernel
theorem dX9_sheet_40 : decode cX9_sheet 40 = .ok (.iconst 1, 1) := by decide +kernel
theorem dX9_sheet_41 : decode cX9_sheet 41 = .ok (.bastore, 1) := by decide +kernel
theorem dX9_sheet_42 : decode cX9_sheet 42 = .ok (.aload_n 0, 1) := by decide +kernel
theorem dX9_sheet_43 : decode cX9_sheet 43 = .ok (.getfield 83, 3) := by decide +kernel
theorem dX9_sheet_46 : decode cX9_sheet 46 = .ok (.iload_n 1, 1) := by decide +kernel
theorem dX9_sheet_47 : decode cX9_sheet 47 = .ok (.iload_n 2, 1) := by decide +kernel
theorem dX9_sheet_48 : decode cX9_sheet 48 = .ok (.iastore, 1) := by decide +kernel
theorem dX9_sheet_49 : decode cX9_sheet 49 = .ok (.aload_n 0, 1) := by decide +kernel
theorem dX9_sheet_50 : decode cX9_sheet 50 = .ok (.getfield 86, 3) := by decide +kernel
theorem dX9_sheet_53 : decode cX9_sheet 53 = .ok (.iload_n 1, 1) := by decide +kernel
theorem dX9_sheet_54 : decode cX9_sheet 54 = .ok (.iload_n 3, 1) := by decide +kernel
theorem dX9_sheet_55 : decode cX9_sheet 55 = .ok (.iastore, 1) := by decide +kernel
theorem dX9_sheet_56 : decode cX9_sheet 56 = .ok (.iconst 0, 1) := by decide +kernel
theorem dX9_sheet_57 : decode cX9_sheet 57 = .ok (.istore 4, 2) := by decide +kernel
theorem dX9_sheet_59 : decode cX9_sheet 59 = .ok (.iload 4, 2) := by decide +kernel
theorem dX9_sheet_61 : decode cX9_sheet 61 = .ok (.bipush 60, 2) := by decide +kernel
theorem dX9_sheet_63 : decode cX9_sheet 63 = .ok (.if_icmp .ge 22, 3) := by decide +kernel
theorem dX9_sheet_66 : decode cX9_sheet 66 = .ok (.aload_n 0, 1) := by decide +kernel
theorem dX9_sheet_67 : decode cX9_sheet 67 = .ok (.getfield 89, 3) := by decide +kernel
theorem dX9_sheet_70 : decode cX9_sheet 70 = .ok (.bipush 60, 2) := by decide +kernel
theorem dX9_sheet_72 : decode cX9_sheet 72 = .ok (.iload_n 1, 1) := by decide +kernel
theorem dX9_sheet_73 : decode cX9_sheet 73 = .ok (.imul, 1) := by decide +kernel
theorem dX9_sheet_74 : decode cX9_sheet 74 = .ok (.iload 4, 2) := by decide +kernel
theorem dX9_sheet_76 : decode cX9_sheet 76 = .ok (.iadd, 1) := by decide +kernel
theorem dX9_sheet_77 : decode cX9_sheet 77 = .ok (.iconst 0, 1) := by decide +kernel
theorem dX9_sheet_78 : decode cX9_sheet 78 = .ok (.iastore, 1) := by decide +kernel
theorem dX9_sheet_79 : decode cX9_sheet 79 = .ok (.iinc 4 1, 3) := by decide +kernel
theorem dX9_sheet_82 : decode cX9_sheet 82 = .ok (.goto (-23), 3) := by decide +kernel
theorem dX9_sheet_85 : decode cX9_sheet 85 = .ok (.iload_n 3, 1) := by decide +kernel
theorem dX9_sheet_86 : decode cX9_sheet 86 = .ok (.ireturn, 1) := by decide +kernel
theorem dX9_lose_0 : decode cX9_lose 0 = .ok (.iload_n 1, 1) := by decide +kernel
theorem dX9_lose_1 : decode cX9_lose 1 = .ok (.invokestatic 161, 3) := by decide +kernel
theorem dX9_lose_4 : decode cX9_lose 4 = .ok (.ifCond .ne 6, 3) := by decide +kernel
theorem dX9_lose_7 : decode cX9_lose 7 = .ok (.bipush (-2), 2) := by decide +kernel
theorem dX9_lose_9 : decode cX9_lose 9 = .ok (.ireturn, 1) := by decide +kernel
theorem dX9_lose_10 : decode cX9_lose 10 = .ok (.aload_n 0, 1) := by decide +kernel
theorem dX9_lose_11 : decode cX9_lose 11 = .ok (.getfield 80, 3) := by decide +kernel
theorem dX9_lose_14 : decode cX9_lose 14 = .ok (.iload_n 1, 1) := by decide +kernel
theorem dX9_lose_15 : decode cX9_lose 15 = .ok (.baload, 1) := by decide +kernel
theorem dX9_lose_16 : decode cX9_lose 16 = .ok (.ifCond .ne 9, 3) := by decide +kernel
theorem dX9_lose_19 : decode cX9_lose 19 = .ok (.aload_n 0, 1) := by decide +kernel
theorem dX9_lose_20 : decode cX9_lose 20 = .ok (.iconst 1, 1) := by decide +kernel
theorem dX9_lose_21 : decode cX9_lose 21 = .ok (.invokevirtual 164, 3) := by decide +kernel
theorem dX9_lose_24 : decode cX9_lose 24 = .ok (.ireturn, 1) := by decide +kernel
theorem dX9_lose_25 : decode cX9_lose 25 = .ok (.aload_n 0, 1) := by decide +kernel
theorem dX9_lose_26 : decode cX9_lose 26 = .ok (.getfield 80, 3) := by decide +kernel
theorem dX9_lose_29 : decode cX9_lose 29 = .ok (.iload_n 1, 1) := by decide +kernel
theorem dX9_lose_30 : decode cX9_lose 30 = .ok (.iconst 0, 1) := by decide +kernel
theorem dX9_lose_31 : decode cX9_lose 31 = .ok (.bastore, 1) := by decide +kernel
theorem dX9_lose_32 : decode cX9_lose 32 = .ok (.aload_n 0, 1) := by decide +kernel
theorem dX9_lose_33 : decode cX9_lose 33 = .ok (.getfield 86, 3) := by decide +kernel
theorem dX9_lose_36 : decode cX9_lose 36 = .ok (.iload_n 1, 1) := by decide +kernel
theorem dX9_lose_37 : decode cX9_lose 37 = .ok (.iaload, 1) := by decide +kernel
theorem dX9_lose_38 : decode cX9_lose 38 = .ok (.ireturn, 1) := by decide +kernel
theorem dX9_lacks_0 : decode cX9_lacks 0 = .ok (.aload_n 0, 1) := by decide +kernel
theorem dX9_lacks_1 : decode cX9_lacks 1 = .ok (.getfield 80, 3) := by decide +kernel
theorem dX9_lacks_4 : decode cX9_lacks 4 = .ok (.iload_n 1, 1) := by decide +kernel
theorem dX9_lacks_5 : decode cX9_lacks 5 = .ok (.baload, 1) := by decide +kernel
theorem dX9_lacks_6 : decode cX9_lacks 6 = .ok (.ifCond .ne 7, 3) := by decide +kernel
theorem dX9_lacks_9 : decode cX9_lacks 9 = .ok (.iconst 1, 1) := by decide +kernel
theorem dX9_lacks_10 : decode cX9_lacks 10 = .ok (.goto 38, 3) := by decide +kernel
theorem dX9_lacks_13 : decode cX9_lacks 13 = .ok (.aload_n 0, 1) := by decide +kernel
theorem dX9_lacks_14 : decode cX9_lacks 14 = .ok (.getfield 83, 3) := by decide +kernel
theorem dX9_lacks_17 : decode cX9_lacks 17 = .ok (.iload_n 1, 1) := by decide +kernel
theorem dX9_lacks_18 : decode cX9_lacks 18 = .ok (.iaload, 1) := by decide +kernel
theorem dX9_lacks_19 : decode cX9_lacks 19 = .ok (.iload_n 2, 1) := by decide +kernel
theorem dX9_lacks_20 : decode cX9_lacks 20 = .ok (.if_icmp .eq 7, 3) := by decide +kernel
theorem dX9_lacks_23 : decode cX9_lacks 23 = .ok (.iconst 3, 1) := by decide +kernel
theorem dX9_lacks_24 : decode cX9_lacks 24 = .ok (.goto 24, 3) := by decide +kernel
theorem dX9_lacks_27 : decode cX9_lacks 27 = .ok (.iload_n 3, 1) := by decide +kernel
theorem dX9_lacks_28 : decode cX9_lacks 28 = .ok (.iconst 0, 1) := by decide +kernel
theorem dX9_lacks_29 : decode cX9_lacks 29 = .ok (.aload_n 0, 1) := by decide +kernel
theorem dX9_lacks_30 : decode cX9_lacks 30 = .ok (.getfield 86, 3) := by decide +kernel
theorem dX9_lacks_33 : decode cX9_lacks 33 = .ok (.iload_n 1, 1) := by decide +kernel
theorem dX9_lacks_34 : decode cX9_lacks 34 = .ok (.iaload, 1) := by decide +kernel
theorem dX9_lacks_35 : decode cX9_lacks 35 = .ok (.iconst 1, 1) := by decide +kernel
theorem dX9_lacks_36 : decode cX9_lacks 36 = .ok (.isub, 1) := by decide +kernel
theorem dX9_lacks_37 : decode cX9_lacks 37 = .ok (.invokestatic 97, 3) := by decide +kernel
theorem dX9_lacks_40 : decode cX9_lacks 40 = .ok (.ifCond .eq 7, 3) := by decide +kernel
theorem dX9_lacks_43 : decode cX9_lacks 43 = .ok (.iconst 0, 1) := by decide +kernel
theorem dX9_lacks_44 : decode cX9_lacks 44 = .ok (.goto 4, 3) := by decide +kernel
theorem dX9_lacks_47 : decode cX9_lacks 47 = .ok (.iconst 2, 1) := by decide +kernel
theorem dX9_lacks_48 : decode cX9_lacks 48 = .ok (.ireturn, 1) := by decide +kernel
theorem dX9_keep_0 : decode cX9_keep 0 = .ok (.aload_n 0, 1) := by decide +kernel
theorem dX9_keep_1 : decode cX9_keep 1 = .ok (.getfield 89, 3) := by decide +kernel
theorem dX9_keep_4 : decode cX9_keep 4 = .ok (.bipush 60, 2) := by decide +kernel
theorem dX9_keep_6 : decode cX9_keep 6 = .ok (.iload_n 1, 1) := by decide +kernel
theorem dX9_keep_7 : decode cX9_keep 7 = .ok (.imul, 1) := by decide +kernel
theorem dX9_keep_8 : decode cX9_keep 8 = .ok (.iload_n 2, 1) := by decide +kernel
theorem dX9_keep_9 : decode cX9_keep 9 = .ok (.iadd, 1) := by decide +kernel
theorem dX9_keep_10 : decode cX9_keep 10 = .ok (.aload_n 0, 1) := by decide +kernel
theorem dX9_keep_11 : decode cX9_keep 11 = .ok (.getfield 83, 3) := by decide +kernel
theorem dX9_keep_14 : decode cX9_keep 14 = .ok (.iload_n 1, 1) := by decide +kernel
theorem dX9_keep_15 : decode cX9_keep 15 = .ok (.iaload, 1) := by decide +kernel
theorem dX9_keep_16 : decode cX9_keep 16 = .ok (.ifCond .ne 8, 3) := by decide +kernel
theorem dX9_keep_19 : decode cX9_keep 19 = .ok (.iload_n 3, 1) := by decide +kernel
theorem dX9_keep_20 : decode cX9_keep 20 = .ok (.i2b, 1) := by decide +kernel
theorem dX9_keep_21 : decode cX9_keep 21 = .ok (.goto 19, 3) := by decide +kernel
theorem dX9_keep_24 : decode cX9_keep 24 = .ok (.aload_n 0, 1) := by decide +kernel
theorem dX9_keep_25 : decode cX9_keep 25 = .ok (.getfield 83, 3) := by decide +kernel
theorem dX9_keep_28 : decode cX9_keep 28 = .ok (.iload_n 1, 1) := by decide +kernel
theorem dX9_keep_29 : decode cX9_keep 29 = .ok (.iaload, 1) := by decide +kernel
theorem dX9_keep_30 : decode cX9_keep 30 = .ok (.iconst 1, 1) := by decide +kernel
theorem dX9_keep_31 : decode cX9_keep 31 = .ok (.if_icmp .ne 8, 3) := by decide +kernel
theorem dX9_keep_34 : decode cX9_keep 34 = .ok (.iload_n 3, 1) := by decide +kernel
theorem dX9_keep_35 : decode cX9_keep 35 = .ok (.i2s, 1) := by decide +kernel
theorem dX9_keep_36 : decode cX9_keep 36 = .ok (.goto 4, 3) := by decide +kernel
theorem dX9_keep_39 : decode cX9_keep 39 = .ok (.iload_n 3, 1) := by decide +kernel
theorem dX9_keep_40 : decode cX9_keep 40 = .ok (.iastore, 1) := by decide +kernel
theorem dX9_keep_41 : decode cX9_keep 41 = .ok (.return_, 1) := by decide +kernel
theorem dX9_put_0 : decode cX9_put 0 = .ok (.iload_n 1, 1) := by decide +kernel
theorem dX9_put_1 : decode cX9_put 1 = .ok (.invokestatic 161, 3) := by decide +kernel
theorem dX9_put_4 : decode cX9_put 4 = .ok (.ifCond .eq 12, 3) := by decide +kernel
theorem dX9_put_7 : decode cX9_put 7 = .ok (.iload_n 2, 1) := by decide +kernel
theorem dX9_put_8 : decode cX9_put 8 = .ok (.iconst 0, 1) := by decide +kernel
theorem dX9_put_9 : decode cX9_put 9 = .ok (.iconst 2, 1) := by decide +kernel
theorem dX9_put_10 : decode cX9_put 10 = .ok (.invokestatic 97, 3) := by decide +kernel
theorem dX9_put_13 : decode cX9_put 13 = .ok (.ifCond .ne 6, 3) := by decide +kernel
theorem dX9_put_16 : decode cX9_put 16 = .ok (.bipush (-2), 2) := by decide +kernel
theorem dX9_put_18 : decode cX9_put 18 = .ok (.ireturn, 1) := by decide +kernel
theorem dX9_put_19 : decode cX9_put 19 = .ok (.aload_n 0, 1) := by decide +kernel
theorem dX9_put_20 : decode cX9_put 20 = .ok (.iload_n 1, 1) := by decide +kernel
theorem dX9_put_21 : decode cX9_put 21 = .ok (.iload_n 2, 1) := by decide +kernel
theorem dX9_put_22 : decode cX9_put 22 = .ok (.iload_n 3, 1) := by decide +kernel
theorem dX9_put_23 : decode cX9_put 23 = .ok (.invokevirtual 325, 3) := by decide +kernel
theorem dX9_put_26 : decode cX9_put 26 = .ok (.istore 5, 2) := by decide +kernel
theorem dX9_put_28 : decode cX9_put 28 = .ok (.iload 5, 2) := by decide +kernel
theorem dX9_put_30 : decode cX9_put 30 = .ok (.ifCond .le 10, 3) := by decide +kernel
theorem dX9_put_33 : decode cX9_put 33 = .ok (.aload_n 0, 1) := by decide +kernel
theorem dX9_put_34 : decode cX9_put 34 = .ok (.iload 5, 2) := by decide +kernel
theorem dX9_put_36 : decode cX9_put 36 = .ok (.invokevirtual 164, 3) := by decide +kernel
theorem dX9_put_39 : decode cX9_put 39 = .ok (.ireturn, 1) := by decide +kernel
theorem dX9_put_40 : decode cX9_put 40 = .ok (.aload_n 0, 1) := by decide +kernel
theorem dX9_put_41 : decode cX9_put 41 = .ok (.iload_n 1, 1) := by decide +kernel
theorem dX9_put_42 : decode cX9_put 42 = .ok (.iload_n 3, 1) := by decide +kernel
theorem dX9_put_43 : decode cX9_put 43 = .ok (.iload 4, 2) := by decide +kernel
theorem dX9_put_45 : decode cX9_put 45 = .ok (.invokevirtual 328, 3) := by decide +kernel
theorem dX9_put_48 : decode cX9_put 48 = .ok (.iconst 1, 1) := by decide +kernel
theorem dX9_put_49 : decode cX9_put 49 = .ok (.ireturn, 1) := by decide +kernel
theorem dX9_get_0 : decode cX9_get 0 = .ok (.iload_n 1, 1) := by decide +kernel
theorem dX9_get_1 : decode cX9_get 1 = .ok (.invokestatic 161, 3) := by decide +kernel
theorem dX9_get_4 : decode cX9_get 4 = .ok (.ifCond .eq 12, 3) := by decide +kernel
theorem dX9_get_7 : decode cX9_get 7 = .ok (.iload_n 2, 1) := by decide +kernel
theorem dX9_get_8 : decode cX9_get 8 = .ok (.iconst 0, 1) := by decide +kernel
theorem dX9_get_9 : decode cX9_get 9 = .ok (.iconst 2, 1) := by decide +kernel
theorem dX9_get_10 : decode cX9_get 10 = .ok (.invokestatic 97, 3) := by decide +kernel
theorem dX9_get_13 : decode cX9_get 13 = .ok (.ifCond .ne 7, 3) := by decide +kernel
theorem dX9_get_16 : decode cX9_get 16 = .ok (.ldc_w 332, 3) := by decide +kernel
theorem dX9_get_19 : decode cX9_get 19 = .ok (.ireturn, 1) := by decide +kernel
theorem dX9_get_20 : decode cX9_get 20 = .ok (.aload_n 0, 1) := by decide +kernel
theorem dX9_get_21 : decode cX9_get 21 = .ok (.iload_n 1, 1) := by decide +kernel
theorem dX9_get_22 : decode cX9_get 22 = .ok (.iload_n 2, 1) := by decide +kernel
theorem dX9_get_23 : decode cX9_get 23 = .ok (.iload_n 3, 1) := by decide +kernel
theorem dX9_get_24 : decode cX9_get 24 = .ok (.invokevirtual 325, 3) := by decide +kernel
theorem dX9_get_27 : decode cX9_get 27 = .ok (.istore 4, 2) := by decide +kernel
theorem dX9_get_29 : decode cX9_get 29 = .ok (.iload 4, 2) := by decide +kernel
theorem dX9_get_31 : decode cX9_get 31 = .ok (.ifCond .le 13, 3) := by decide +kernel
theorem dX9_get_34 : decode cX9_get 34 = .ok (.aload_n 0, 1) := by decide +kernel
theorem dX9_get_35 : decode cX9_get 35 = .ok (.iload 4, 2) := by decide +kernel
theorem dX9_get_37 : decode cX9_get 37 = .ok (.putfield 322, 3) := by decide +kernel
theorem dX9_get_40 : decode cX9_get 40 = .ok (.ldc_w 332, 3) := by decide +kernel
theorem dX9_get_43 : decode cX9_get 43 = .ok (.ireturn, 1) := by decide +kernel
theorem dX9_get_44 : decode cX9_get 44 = .ok (.aload_n 0, 1) := by decide +kernel
theorem dX9_get_45 : decode cX9_get 45 = .ok (.getfield 89, 3) := by decide +kernel
theorem dX9_get_48 : decode cX9_get 48 = .ok (.bipush 60, 2) := by decide +kernel
theorem dX9_get_50 : decode cX9_get 50 = .ok (.iload_n 1, 1) := by decide +kernel
theorem dX9_get_51 : decode cX9_get 51 = .ok (.imul, 1) := by decide +kernel
theorem dX9_get_52 : decode cX9_get 52 = .ok (.iload_n 3, 1) := by decide +kernel
theorem dX9_get_53 : decode cX9_get 53 = .ok (.iadd, 1) := by decide +kernel
theorem dX9_get_54 : decode cX9_get 54 = .ok (.iaload, 1) := by decide +kernel
theorem dX9_get_55 : decode cX9_get 55 = .ok (.ireturn, 1) := by decide +kernel
theorem dX9_copy_0 : decode cX9_copy 0 = .ok (.iload_n 1, 1) := by decide +kernel
theorem dX9_copy_1 : decode cX9_copy 1 = .ok (.invokestatic 161, 3) := by decide +kernel
theorem dX9_copy_4 : decode cX9_copy 4 = .ok (.ifCond .eq 10, 3) := by decide +kernel
theorem dX9_copy_7 : decode cX9_copy 7 = .ok (.iload_n 3, 1) := by decide +kernel
theorem dX9_copy_8 : decode cX9_copy 8 = .ok (.invokestatic 161, 3) := by decide +kernel
theorem dX9_copy_11 : decode cX9_copy 11 = .ok (.ifCond .ne 6, 3) := by decide +kernel
theorem dX9_copy_14 : decode cX9_copy 14 = .ok (.bipush (-2), 2) := by decide +kernel
theorem dX9_copy_16 : decode cX9_copy 16 = .ok (.ireturn, 1) := by decide +kernel
theorem dX9_copy_17 : decode cX9_copy 17 = .ok (.aload_n 0, 1) := by decide +kernel
theorem dX9_copy_18 : decode cX9_copy 18 = .ok (.getfield 80, 3) := by decide +kernel
theorem dX9_copy_21 : decode cX9_copy 21 = .ok (.iload_n 1, 1) := by decide +kernel
theorem dX9_copy_22 : decode cX9_copy 22 = .ok (.baload, 1) := by decide +kernel
theorem dX9_copy_23 : decode cX9_copy 23 = .ok (.ifCond .eq 12, 3) := by decide +kernel
theorem dX9_copy_26 : decode cX9_copy 26 = .ok (.aload_n 0, 1) := by decide +kernel
theorem dX9_copy_27 : decode cX9_copy 27 = .ok (.getfield 80, 3) := by decide +kernel
theorem dX9_copy_30 : decode cX9_copy 30 = .ok (.iload_n 3, 1) := by decide +kernel
theorem dX9_copy_31 : decode cX9_copy 31 = .ok (.baload, 1) := by decide +kernel
theorem dX9_copy_32 : decode cX9_copy 32 = .ok (.ifCond .ne 9, 3) := by decide +kernel
theorem dX9_copy_35 : decode cX9_copy 35 = .ok (.aload_n 0, 1) := by decide +kernel
theorem dX9_copy_36 : decode cX9_copy 36 = .ok (.iconst 1, 1) := by decide +kernel
theorem dX9_copy_37 : decode cX9_copy 37 = .ok (.invokevirtual 164, 3) := by decide +kernel
theorem dX9_copy_40 : decode cX9_copy 40 = .ok (.ireturn, 1) := by decide +kernel
theorem dX9_copy_41 : decode cX9_copy 41 = .ok (.aload_n 0, 1) := by decide +kernel
theorem dX9_copy_42 : decode cX9_copy 42 = .ok (.getfield 83, 3) := by decide +kernel
theorem dX9_copy_45 : decode cX9_copy 45 = .ok (.iload_n 1, 1) := by decide +kernel
theorem dX9_copy_46 : decode cX9_copy 46 = .ok (.iaload, 1) := by decide +kernel
theorem dX9_copy_47 : decode cX9_copy 47 = .ok (.aload_n 0, 1) := by decide +kernel
theorem dX9_copy_48 : decode cX9_copy 48 = .ok (.getfield 83, 3) := by decide +kernel
theorem dX9_copy_51 : decode cX9_copy 51 = .ok (.iload_n 3, 1) := by decide +kernel
theorem dX9_copy_52 : decode cX9_copy 52 = .ok (.iaload, 1) := by decide +kernel
theorem dX9_copy_53 : decode cX9_copy 53 = .ok (.if_icmp .eq 9, 3) := by decide +kernel
theorem dX9_copy_56 : decode cX9_copy 56 = .ok (.aload_n 0, 1) := by decide +kernel
theorem dX9_copy_57 : decode cX9_copy 57 = .ok (.iconst 4, 1) := by decide +kernel
theorem dX9_copy_58 : decode cX9_copy 58 = .ok (.invokevirtual 164, 3) := by decide +kernel
theorem dX9_copy_61 : decode cX9_copy 61 = .ok (.ireturn, 1) := by decide +kernel
theorem dX9_copy_62 : decode cX9_copy 62 = .ok (.iload_n 2, 1) := by decide +kernel
theorem dX9_copy_63 : decode cX9_copy 63 = .ok (.ifCond .lt 48, 3) := by decide +kernel
theorem dX9_copy_66 : decode cX9_copy 66 = .ok (.iload 4, 2) := by decide +kernel
theorem dX9_copy_68 : decode cX9_copy 68 = .ok (.ifCond .lt 43, 3) := by decide +kernel
theorem dX9_copy_71 : decode cX9_copy 71 = .ok (.iload 5, 2) := by decide +kernel
theorem dX9_copy_73 : decode cX9_copy 73 = .ok (.ifCond .lt 38, 3) := by decide +kernel
theorem dX9_copy_76 : decode cX9_copy 76 = .ok (.iload_n 2, 1) := by decide +kernel
theorem dX9_copy_77 : decode cX9_copy 77 = .ok (.i2l, 1) := by decide +kernel
theorem dX9_copy_78 : decode cX9_copy 78 = .ok (.iload 5, 2) := by decide +kernel
theorem dX9_copy_80 : decode cX9_copy 80 = .ok (.i2l, 1) := by decide +kernel
theorem dX9_copy_81 : decode cX9_copy 81 = .ok (.ladd, 1) := by decide +kernel
theorem dX9_copy_82 : decode cX9_copy 82 = .ok (.aload_n 0, 1) := by decide +kernel
theorem dX9_copy_83 : decode cX9_copy 83 = .ok (.getfield 86, 3) := by decide +kernel
theorem dX9_copy_86 : decode cX9_copy 86 = .ok (.iload_n 1, 1) := by decide +kernel
theorem dX9_copy_87 : decode cX9_copy 87 = .ok (.iaload, 1) := by decide +kernel
theorem dX9_copy_88 : decode cX9_copy 88 = .ok (.i2l, 1) := by decide +kernel
theorem dX9_copy_89 : decode cX9_copy 89 = .ok (.lcmp, 1) := by decide +kernel
theorem dX9_copy_90 : decode cX9_copy 90 = .ok (.ifCond .gt 21, 3) := by decide +kernel
theorem dX9_copy_93 : decode cX9_copy 93 = .ok (.iload 4, 2) := by decide +kernel
theorem dX9_copy_95 : decode cX9_copy 95 = .ok (.i2l, 1) := by decide +kernel
theorem dX9_copy_96 : decode cX9_copy 96 = .ok (.iload 5, 2) := by decide +kernel
theorem dX9_copy_98 : decode cX9_copy 98 = .ok (.i2l, 1) := by decide +kernel
theorem dX9_copy_99 : decode cX9_copy 99 = .ok (.ladd, 1) := by decide +kernel
theorem dX9_copy_100 : decode cX9_copy 100 = .ok (.aload_n 0, 1) := by decide +kernel
theorem dX9_copy_101 : decode cX9_copy 101 = .ok (.getfield 86, 3) := by decide +kernel
theorem dX9_copy_104 : decode cX9_copy 104 = .ok (.iload_n 3, 1) := by decide +kernel
theorem dX9_copy_105 : decode cX9_copy 105 = .ok (.iaload, 1) := by decide +kernel
theorem dX9_copy_106 : decode cX9_copy 106 = .ok (.i2l, 1) := by decide +kernel
theorem dX9_copy_107 : decode cX9_copy 107 = .ok (.lcmp, 1) := by decide +kernel
theorem dX9_copy_108 : decode cX9_copy 108 = .ok (.ifCond .le 9, 3) := by decide +kernel
theorem dX9_copy_111 : decode cX9_copy 111 = .ok (.aload_n 0, 1) := by decide +kernel
theorem dX9_copy_112 : decode cX9_copy 112 = .ok (.iconst 2, 1) := by decide +kernel
theorem dX9_copy_113 : decode cX9_copy 113 = .ok (.invokevirtual 164, 3) := by decide +kernel
theorem dX9_copy_116 : decode cX9_copy 116 = .ok (.ireturn, 1) := by decide +kernel
theorem dX9_copy_117 : decode cX9_copy 117 = .ok (.iconst 0, 1) := by decide +kernel
theorem dX9_copy_118 : decode cX9_copy 118 = .ok (.istore 6, 2) := by decide +kernel
theorem dX9_copy_120 : decode cX9_copy 120 = .ok (.iload 6, 2) := by decide +kernel
theorem dX9_copy_122 : decode cX9_copy 122 = .ok (.iload 5, 2) := by decide +kernel
theorem dX9_copy_124 : decode cX9_copy 124 = .ok (.if_icmp .ge 30, 3) := by decide +kernel
theorem dX9_copy_127 : decode cX9_copy 127 = .ok (.aload_n 0, 1) := by decide +kernel
theorem dX9_copy_128 : decode cX9_copy 128 = .ok (.getfield 92, 3) := by decide +kernel
theorem dX9_copy_131 : decode cX9_copy 131 = .ok (.iload 6, 2) := by decide +kernel
theorem dX9_copy_133 : decode cX9_copy 133 = .ok (.aload_n 0, 1) := by decide +kernel
theorem dX9_copy_134 : decode cX9_copy 134 = .ok (.getfield 89, 3) := by decide +kernel
theorem dX9_copy_137 : decode cX9_copy 137 = .ok (.bipush 60, 2) := by decide +kernel
theorem dX9_copy_139 : decode cX9_copy 139 = .ok (.iload_n 1, 1) := by decide +kernel
theorem dX9_copy_140 : decode cX9_copy 140 = .ok (.imul, 1) := by decide +kernel
theorem dX9_copy_141 : decode cX9_copy 141 = .ok (.iload_n 2, 1) := by decide +kernel
theorem dX9_copy_142 : decode cX9_copy 142 = .ok (.iadd, 1) := by decide +kernel
theorem dX9_copy_143 : decode cX9_copy 143 = .ok (.iload 6, 2) := by decide +kernel
theorem dX9_copy_145 : decode cX9_copy 145 = .ok (.iadd, 1) := by decide +kernel
theorem dX9_copy_146 : decode cX9_copy 146 = .ok (.iaload, 1) := by decide +kernel
theorem dX9_copy_147 : decode cX9_copy 147 = .ok (.iastore, 1) := by decide +kernel
theorem dX9_copy_148 : decode cX9_copy 148 = .ok (.iinc 6 1, 3) := by decide +kernel
theorem dX9_copy_151 : decode cX9_copy 151 = .ok (.goto (-31), 3) := by decide +kernel
theorem dX9_copy_154 : decode cX9_copy 154 = .ok (.iconst 0, 1) := by decide +kernel
theorem dX9_copy_155 : decode cX9_copy 155 = .ok (.istore 6, 2) := by decide +kernel
theorem dX9_copy_157 : decode cX9_copy 157 = .ok (.iload 6, 2) := by decide +kernel
theorem dX9_copy_159 : decode cX9_copy 159 = .ok (.iload 5, 2) := by decide +kernel
theorem dX9_copy_161 : decode cX9_copy 161 = .ok (.if_icmp .ge 31, 3) := by decide +kernel
theorem dX9_copy_164 : decode cX9_copy 164 = .ok (.aload_n 0, 1) := by decide +kernel
theorem dX9_copy_165 : decode cX9_copy 165 = .ok (.getfield 89, 3) := by decide +kernel
theorem dX9_copy_168 : decode cX9_copy 168 = .ok (.bipush 60, 2) := by decide +kernel
theorem dX9_copy_170 : decode cX9_copy 170 = .ok (.iload_n 3, 1) := by decide +kernel
theorem dX9_copy_171 : decode cX9_copy 171 = .ok (.imul, 1) := by decide +kernel
theorem dX9_copy_172 : decode cX9_copy 172 = .ok (.iload 4, 2) := by decide +kernel
theorem dX9_copy_174 : decode cX9_copy 174 = .ok (.iadd, 1) := by decide +kernel
theorem dX9_copy_175 : decode cX9_copy 175 = .ok (.iload 6, 2) := by decide +kernel
theorem dX9_copy_177 : decode cX9_copy 177 = .ok (.iadd, 1) := by decide +kernel
theorem dX9_copy_178 : decode cX9_copy 178 = .ok (.aload_n 0, 1) := by decide +kernel
theorem dX9_copy_179 : decode cX9_copy 179 = .ok (.getfield 92, 3) := by decide +kernel
theorem dX9_copy_182 : decode cX9_copy 182 = .ok (.iload 6, 2) := by decide +kernel
theorem dX9_copy_184 : decode cX9_copy 184 = .ok (.iaload, 1) := by decide +kernel
theorem dX9_copy_185 : decode cX9_copy 185 = .ok (.iastore, 1) := by decide +kernel
theorem dX9_copy_186 : decode cX9_copy 186 = .ok (.iinc 6 1, 3) := by decide +kernel
theorem dX9_copy_189 : decode cX9_copy 189 = .ok (.goto (-32), 3) := by decide +kernel
theorem dX9_copy_192 : decode cX9_copy 192 = .ok (.iconst 1, 1) := by decide +kernel
theorem dX9_copy_193 : decode cX9_copy 193 = .ok (.ireturn, 1) := by decide +kernel
theorem dX9_write_0 : decode cX9_write 0 = .ok (.aload_n 0, 1) := by decide +kernel
theorem dX9_write_1 : decode cX9_write 1 = .ok (.iload_n 1, 1) := by decide +kernel
theorem dX9_write_2 : decode cX9_write 2 = .ok (.invokevirtual 130, 3) := by decide +kernel
theorem dX9_write_5 : decode cX9_write 5 = .ok (.ifCond .eq 10, 3) := by decide +kernel
theorem dX9_write_8 : decode cX9_write 8 = .ok (.iload_n 2, 1) := by decide +kernel
theorem dX9_write_9 : decode cX9_write 9 = .ok (.invokestatic 161, 3) := by decide +kernel
theorem dX9_write_12 : decode cX9_write 12 = .ok (.ifCond .ne 6, 3) := by decide +kernel
theorem dX9_write_15 : decode cX9_write 15 = .ok (.bipush (-2), 2) := by decide +kernel
theorem dX9_write_17 : decode cX9_write 17 = .ok (.ireturn, 1) := by decide +kernel
theorem dX9_write_18 : decode cX9_write 18 = .ok (.aload_n 0, 1) := by decide +kernel
theorem dX9_write_19 : decode cX9_write 19 = .ok (.getfield 80, 3) := by decide +kernel
theorem dX9_write_22 : decode cX9_write 22 = .ok (.iload_n 2, 1) := by decide +kernel
theorem dX9_write_23 : decode cX9_write 23 = .ok (.baload, 1) := by decide +kernel
theorem dX9_write_24 : decode cX9_write 24 = .ok (.ifCond .ne 9, 3) := by decide +kernel
theorem dX9_write_27 : decode cX9_write 27 = .ok (.aload_n 0, 1) := by decide +kernel
theorem dX9_write_28 : decode cX9_write 28 = .ok (.iconst 1, 1) := by decide +kernel
theorem dX9_write_29 : decode cX9_write 29 = .ok (.invokevirtual 164, 3) := by decide +kernel
theorem dX9_write_32 : decode cX9_write 32 = .ok (.ireturn, 1) := by decide +kernel
theorem dX9_write_33 : decode cX9_write 33 = .ok (.iconst 0, 1) := by decide +kernel
theorem dX9_write_34 : decode cX9_write 34 = .ok (.istore_n 3, 1) := by decide +kernel
theorem dX9_write_35 : decode cX9_write 35 = .ok (.iload_n 3, 1) := by decide +kernel
theorem dX9_write_36 : decode cX9_write 36 = .ok (.aload_n 0, 1) := by decide +kernel
theorem dX9_write_37 : decode cX9_write 37 = .ok (.getfield 86, 3) := by decide +kernel
theorem dX9_write_40 : decode cX9_write 40 = .ok (.iload_n 2, 1) := by decide +kernel
theorem dX9_write_41 : decode cX9_write 41 = .ok (.iaload, 1) := by decide +kernel
theorem dX9_write_42 : decode cX9_write 42 = .ok (.if_icmp .ge 27, 3) := by decide +kernel
theorem dX9_write_45 : decode cX9_write 45 = .ok (.iload_n 3, 1) := by decide +kernel
theorem dX9_write_46 : decode cX9_write 46 = .ok (.bipush 24, 2) := by decide +kernel
theorem dX9_write_48 : decode cX9_write 48 = .ok (.if_icmp .ge 21, 3) := by decide +kernel
theorem dX9_write_51 : decode cX9_write 51 = .ok (.aload_n 0, 1) := by decide +kernel
theorem dX9_write_52 : decode cX9_write 52 = .ok (.iload_n 2, 1) := by decide +kernel
theorem dX9_write_53 : decode cX9_write 53 = .ok (.iload_n 3, 1) := by decide +kernel
theorem dX9_write_54 : decode cX9_write 54 = .ok (.aload_n 0, 1) := by decide +kernel
theorem dX9_write_55 : decode cX9_write 55 = .ok (.iload_n 3, 1) := by decide +kernel
theorem dX9_write_56 : decode cX9_write 56 = .ok (.iload_n 1, 1) := by decide +kernel
theorem dX9_write_57 : decode cX9_write 57 = .ok (.invokevirtual 231, 3) := by decide +kernel
theorem dX9_write_60 : decode cX9_write 60 = .ok (.invokevirtual 328, 3) := by decide +kernel
theorem dX9_write_63 : decode cX9_write 63 = .ok (.iinc 3 1, 3) := by decide +kernel
theorem dX9_write_66 : decode cX9_write 66 = .ok (.goto (-31), 3) := by decide +kernel
theorem dX9_write_69 : decode cX9_write 69 = .ok (.iload_n 3, 1) := by decide +kernel
theorem dX9_write_70 : decode cX9_write 70 = .ok (.ireturn, 1) := by decide +kernel
theorem dX9_sumOf_0 : decode cX9_sumOf 0 = .ok (.aload_n 0, 1) := by decide +kernel
theorem dX9_sumOf_1 : decode cX9_sumOf 1 = .ok (.bipush 23, 2) := by decide +kernel
theorem dX9_sumOf_3 : decode cX9_sumOf 3 = .ok (.invokevirtual 218, 3) := by decide +kernel
theorem dX9_sumOf_6 : decode cX9_sumOf 6 = .ok (.iconst 0, 1) := by decide +kernel
theorem dX9_sumOf_7 : decode cX9_sumOf 7 = .ok (.istore_n 2, 1) := by decide +kernel
theorem dX9_sumOf_8 : decode cX9_sumOf 8 = .ok (.iconst 0, 1) := by decide +kernel
theorem dX9_sumOf_9 : decode cX9_sumOf 9 = .ok (.istore_n 3, 1) := by decide +kernel
theorem dX9_sumOf_10 : decode cX9_sumOf 10 = .ok (.iload_n 3, 1) := by decide +kernel
theorem dX9_sumOf_11 : decode cX9_sumOf 11 = .ok (.aload_n 0, 1) := by decide +kernel
theorem dX9_sumOf_12 : decode cX9_sumOf 12 = .ok (.getfield 109, 3) := by decide +kernel
theorem dX9_sumOf_15 : decode cX9_sumOf 15 = .ok (.if_icmp .ge 18, 3) := by decide +kernel
theorem dX9_sumOf_18 : decode cX9_sumOf 18 = .ok (.iload_n 2, 1) := by decide +kernel
theorem dX9_sumOf_19 : decode cX9_sumOf 19 = .ok (.aload_n 0, 1) := by decide +kernel
theorem dX9_sumOf_20 : decode cX9_sumOf 20 = .ok (.getfield 49, 3) := by decide +kernel
theorem dX9_sumOf_23 : decode cX9_sumOf 23 = .ok (.iload_n 3, 1) := by decide +kernel
theorem dX9_sumOf_24 : decode cX9_sumOf 24 = .ok (.iaload, 1) := by decide +kernel
theorem dX9_sumOf_25 : decode cX9_sumOf 25 = .ok (.iadd, 1) := by decide +kernel
theorem dX9_sumOf_26 : decode cX9_sumOf 26 = .ok (.istore_n 2, 1) := by decide +kernel
theorem dX9_sumOf_27 : decode cX9_sumOf 27 = .ok (.iinc 3 1, 3) := by decide +kernel
theorem dX9_sumOf_30 : decode cX9_sumOf 30 = .ok (.goto (-20), 3) := by decide +kernel
theorem dX9_sumOf_33 : decode cX9_sumOf 33 = .ok (.iload_n 1, 1) := by decide +kernel
theorem dX9_sumOf_34 : decode cX9_sumOf 34 = .ok (.ifCond .ne 10, 3) := by decide +kernel
theorem dX9_sumOf_37 : decode cX9_sumOf 37 = .ok (.aload_n 0, 1) := by decide +kernel
theorem dX9_sumOf_38 : decode cX9_sumOf 38 = .ok (.getfield 109, 3) := by decide +kernel
theorem dX9_sumOf_41 : decode cX9_sumOf 41 = .ok (.goto 16, 3) := by decide +kernel
theorem dX9_sumOf_44 : decode cX9_sumOf 44 = .ok (.iload_n 1, 1) := by decide +kernel
theorem dX9_sumOf_45 : decode cX9_sumOf 45 = .ok (.iconst 1, 1) := by decide +kernel
theorem dX9_sumOf_46 : decode cX9_sumOf 46 = .ok (.if_icmp .ne 10, 3) := by decide +kernel
theorem dX9_sumOf_49 : decode cX9_sumOf 49 = .ok (.aload_n 0, 1) := by decide +kernel
theorem dX9_sumOf_50 : decode cX9_sumOf 50 = .ok (.getfield 113, 3) := by decide +kernel
theorem dX9_sumOf_53 : decode cX9_sumOf 53 = .ok (.goto 4, 3) := by decide +kernel
theorem dX9_sumOf_56 : decode cX9_sumOf 56 = .ok (.iload_n 2, 1) := by decide +kernel
theorem dX9_sumOf_57 : decode cX9_sumOf 57 = .ok (.ireturn, 1) := by decide +kernel
theorem dX9_count_0 : decode cX9_count 0 = .ok (.iload_n 1, 1) := by decide +kernel
theorem dX9_count_1 : decode cX9_count 1 = .ok (.tableswitch 86 0 8 #[51, 51, 57, 57, 66, 71, 76, 51, 81], 51) := by decide +kernel
theorem dX9_count_52 : decode cX9_count 52 = .ok (.aload_n 0, 1) := by decide +kernel
theorem dX9_count_53 : decode cX9_count 53 = .ok (.iload_n 1, 1) := by decide +kernel
theorem dX9_count_54 : decode cX9_count 54 = .ok (.invokevirtual 333, 3) := by decide +kernel
theorem dX9_count_57 : decode cX9_count 57 = .ok (.ireturn, 1) := by decide +kernel
theorem dX9_count_58 : decode cX9_count 58 = .ok (.aload_n 0, 1) := by decide +kernel
theorem dX9_count_59 : decode cX9_count 59 = .ok (.getfield 7, 3) := by decide +kernel
theorem dX9_count_62 : decode cX9_count 62 = .ok (.iload_n 1, 1) := by decide +kernel
theorem dX9_count_63 : decode cX9_count 63 = .ok (.iconst 2, 1) := by decide +kernel
theorem dX9_count_64 : decode cX9_count 64 = .ok (.isub, 1) := by decide +kernel
theorem dX9_count_65 : decode cX9_count 65 = .ok (.iaload, 1) := by decide +kernel
theorem dX9_count_66 : decode cX9_count 66 = .ok (.ireturn, 1) := by decide +kernel
theorem dX9_count_67 : decode cX9_count 67 = .ok (.aload_n 0, 1) := by decide +kernel
theorem dX9_count_68 : decode cX9_count 68 = .ok (.getfield 151, 3) := by decide +kernel
theorem dX9_count_71 : decode cX9_count 71 = .ok (.ireturn, 1) := by decide +kernel
theorem dX9_count_72 : decode cX9_count 72 = .ok (.aload_n 0, 1) := by decide +kernel
theorem dX9_count_73 : decode cX9_count 73 = .ok (.getfield 158, 3) := by decide +kernel
theorem dX9_count_76 : decode cX9_count 76 = .ok (.ireturn, 1) := by decide +kernel
theorem dX9_count_77 : decode cX9_count 77 = .ok (.aload_n 0, 1) := by decide +kernel
theorem dX9_count_78 : decode cX9_count 78 = .ok (.getfield 282, 3) := by decide +kernel
theorem dX9_count_81 : decode cX9_count 81 = .ok (.ireturn, 1) := by decide +kernel
theorem dX9_count_82 : decode cX9_count 82 = .ok (.aload_n 0, 1) := by decide +kernel
theorem dX9_count_83 : decode cX9_count 83 = .ok (.getfield 322, 3) := by decide +kernel
theorem dX9_count_86 : decode cX9_count 86 = .ok (.ireturn, 1) := by decide +kernel
theorem dX9_count_87 : decode cX9_count 87 = .ok (.bipush (-2), 2) := by decide +kernel
theorem dX9_count_89 : decode cX9_count 89 = .ok (.ireturn, 1) := by decide +kernel
theorem dX9_thingDigest_0 : decode cX9_thingDigest 0 = .ok (.lload_n 1, 1) := by decide +kernel
theorem dX9_thingDigest_1 : decode cX9_thingDigest 1 = .ok (.lstore 4, 2) := by decide +kernel
theorem dX9_thingDigest_3 : decode cX9_thingDigest 3 = .ok (.iconst 0, 1) := by decide +kernel
theorem dX9_thingDigest_4 : decode cX9_thingDigest 4 = .ok (.istore 6, 2) := by decide +kernel
theorem dX9_thingDigest_6 : decode cX9_thingDigest 6 = .ok (.iload 6, 2) := by decide +kernel
theorem dX9_thingDigest_8 : decode cX9_thingDigest 8 = .ok (.iconst 3, 1) := by decide +kernel
theorem dX9_thingDigest_9 : decode cX9_thingDigest 9 = .ok (.if_icmp .ge 26, 3) := by decide +kernel
theorem dX9_thingDigest_12 : decode cX9_thingDigest 12 = .ok (.ldc2_w 336, 3) := by decide +kernel
theorem dX9_thingDigest_15 : decode cX9_thingDigest 15 = .ok (.lload 4, 2) := by decide +kernel
theorem dX9_thingDigest_17 : decode cX9_thingDigest 17 = .ok (.lmul, 1) := by decide +kernel
theorem dX9_thingDigest_18 : decode cX9_thingDigest 18 = .ok (.aload_n 0, 1) := by decide +kernel
theorem dX9_thingDigest_19 : decode cX9_thingDigest 19 = .ok (.iload_n 3, 1) := by decide +kernel
theorem dX9_thingDigest_20 : decode cX9_thingDigest 20 = .ok (.iload 6, 2) := by decide +kernel
theorem dX9_thingDigest_22 : decode cX9_thingDigest 22 = .ok (.invokevirtual 338, 3) := by decide +kernel
theorem dX9_thingDigest_25 : decode cX9_thingDigest 25 = .ok (.i2l, 1) := by decide +kernel
theorem dX9_thingDigest_26 : decode cX9_thingDigest 26 = .ok (.ladd, 1) := by decide +kernel
theorem dX9_thingDigest_27 : decode cX9_thingDigest 27 = .ok (.lstore 4, 2) := by decide +kernel
theorem dX9_thingDigest_29 : decode cX9_thingDigest 29 = .ok (.iinc 6 1, 3) := by decide +kernel
theorem dX9_thingDigest_32 : decode cX9_thingDigest 32 = .ok (.goto (-26), 3) := by decide +kernel
theorem dX9_thingDigest_35 : decode cX9_thingDigest 35 = .ok (.ldc2_w 336, 3) := by decide +kernel
theorem dX9_thingDigest_38 : decode cX9_thingDigest 38 = .ok (.lload 4, 2) := by decide +kernel
theorem dX9_thingDigest_40 : decode cX9_thingDigest 40 = .ok (.lmul, 1) := by decide +kernel
theorem dX9_thingDigest_41 : decode cX9_thingDigest 41 = .ok (.aload_n 0, 1) := by decide +kernel
theorem dX9_thingDigest_42 : decode cX9_thingDigest 42 = .ok (.bipush 9, 2) := by decide +kernel
theorem dX9_thingDigest_44 : decode cX9_thingDigest 44 = .ok (.iload_n 3, 1) := by decide +kernel
theorem dX9_thingDigest_45 : decode cX9_thingDigest 45 = .ok (.iconst (-1), 1) := by decide +kernel
theorem dX9_thingDigest_46 : decode cX9_thingDigest 46 = .ok (.invokevirtual 221, 3) := by decide +kernel
theorem dX9_thingDigest_49 : decode cX9_thingDigest 49 = .ok (.i2l, 1) := by decide +kernel
theorem dX9_thingDigest_50 : decode cX9_thingDigest 50 = .ok (.ladd, 1) := by decide +kernel
theorem dX9_thingDigest_51 : decode cX9_thingDigest 51 = .ok (.lstore 4, 2) := by decide +kernel
theorem dX9_thingDigest_53 : decode cX9_thingDigest 53 = .ok (.ldc2_w 336, 3) := by decide +kernel
theorem dX9_thingDigest_56 : decode cX9_thingDigest 56 = .ok (.lload 4, 2) := by decide +kernel
theorem dX9_thingDigest_58 : decode cX9_thingDigest 58 = .ok (.lmul, 1) := by decide +kernel
theorem dX9_thingDigest_59 : decode cX9_thingDigest 59 = .ok (.aload_n 0, 1) := by decide +kernel
theorem dX9_thingDigest_60 : decode cX9_thingDigest 60 = .ok (.bipush 9, 2) := by decide +kernel
theorem dX9_thingDigest_62 : decode cX9_thingDigest 62 = .ok (.iload_n 3, 1) := by decide +kernel
theorem dX9_thingDigest_63 : decode cX9_thingDigest 63 = .ok (.iconst 0, 1) := by decide +kernel
theorem dX9_thingDigest_64 : decode cX9_thingDigest 64 = .ok (.invokevirtual 221, 3) := by decide +kernel
theorem dX9_thingDigest_67 : decode cX9_thingDigest 67 = .ok (.i2l, 1) := by decide +kernel
theorem dX9_thingDigest_68 : decode cX9_thingDigest 68 = .ok (.ladd, 1) := by decide +kernel
theorem dX9_thingDigest_69 : decode cX9_thingDigest 69 = .ok (.lstore 4, 2) := by decide +kernel
theorem dX9_thingDigest_71 : decode cX9_thingDigest 71 = .ok (.ldc2_w 336, 3) := by decide +kernel
theorem dX9_thingDigest_74 : decode cX9_thingDigest 74 = .ok (.lload 4, 2) := by decide +kernel
theorem dX9_thingDigest_76 : decode cX9_thingDigest 76 = .ok (.lmul, 1) := by decide +kernel
theorem dX9_thingDigest_77 : decode cX9_thingDigest 77 = .ok (.aload_n 0, 1) := by decide +kernel
theorem dX9_thingDigest_78 : decode cX9_thingDigest 78 = .ok (.bipush 9, 2) := by decide +kernel
theorem dX9_thingDigest_80 : decode cX9_thingDigest 80 = .ok (.iload_n 3, 1) := by decide +kernel
theorem dX9_thingDigest_81 : decode cX9_thingDigest 81 = .ok (.iconst 0, 1) := by decide +kernel
theorem dX9_thingDigest_82 : decode cX9_thingDigest 82 = .ok (.invokevirtual 224, 3) := by decide +kernel
theorem dX9_thingDigest_85 : decode cX9_thingDigest 85 = .ok (.i2l, 1) := by decide +kernel
theorem dX9_thingDigest_86 : decode cX9_thingDigest 86 = .ok (.ladd, 1) := by decide +kernel
theorem dX9_thingDigest_87 : decode cX9_thingDigest 87 = .ok (.lstore 4, 2) := by decide +kernel
theorem dX9_thingDigest_89 : decode cX9_thingDigest 89 = .ok (.ldc2_w 336, 3) := by decide +kernel
theorem dX9_thingDigest_92 : decode cX9_thingDigest 92 = .ok (.lload 4, 2) := by decide +kernel
theorem dX9_thingDigest_94 : decode cX9_thingDigest 94 = .ok (.lmul, 1) := by decide +kernel
theorem dX9_thingDigest_95 : decode cX9_thingDigest 95 = .ok (.aload_n 0, 1) := by decide +kernel
theorem dX9_thingDigest_96 : decode cX9_thingDigest 96 = .ok (.iload_n 3, 1) := by decide +kernel
theorem dX9_thingDigest_97 : decode cX9_thingDigest 97 = .ok (.iconst 0, 1) := by decide +kernel
theorem dX9_thingDigest_98 : decode cX9_thingDigest 98 = .ok (.invokevirtual 341, 3) := by decide +kernel
theorem dX9_thingDigest_101 : decode cX9_thingDigest 101 = .ok (.i2l, 1) := by decide +kernel
theorem dX9_thingDigest_102 : decode cX9_thingDigest 102 = .ok (.ladd, 1) := by decide +kernel
theorem dX9_thingDigest_103 : decode cX9_thingDigest 103 = .ok (.lstore 4, 2) := by decide +kernel
theorem dX9_thingDigest_105 : decode cX9_thingDigest 105 = .ok (.ldc2_w 336, 3) := by decide +kernel
theorem dX9_thingDigest_108 : decode cX9_thingDigest 108 = .ok (.lload 4, 2) := by decide +kernel
theorem dX9_thingDigest_110 : decode cX9_thingDigest 110 = .ok (.lmul, 1) := by decide +kernel
theorem dX9_thingDigest_111 : decode cX9_thingDigest 111 = .ok (.aload_n 0, 1) := by decide +kernel
theorem dX9_thingDigest_112 : decode cX9_thingDigest 112 = .ok (.iconst 5, 1) := by decide +kernel
theorem dX9_thingDigest_113 : decode cX9_thingDigest 113 = .ok (.iload_n 3, 1) := by decide +kernel
theorem dX9_thingDigest_114 : decode cX9_thingDigest 114 = .ok (.iconst 0, 1) := by decide +kernel
theorem dX9_thingDigest_115 : decode cX9_thingDigest 115 = .ok (.iconst 4, 1) := by decide +kernel
theorem dX9_thingDigest_116 : decode cX9_thingDigest 116 = .ok (.iconst 0, 1) := by decide +kernel
theorem dX9_thingDigest_117 : decode cX9_thingDigest 117 = .ok (.invokevirtual 344, 3) := by decide +kernel
theorem dX9_thingDigest_120 : decode cX9_thingDigest 120 = .ok (.ladd, 1) := by decide +kernel
theorem dX9_thingDigest_121 : decode cX9_thingDigest 121 = .ok (.lstore 4, 2) := by decide +kernel
theorem dX9_thingDigest_123 : decode cX9_thingDigest 123 = .ok (.ldc2_w 336, 3) := by decide +kernel
theorem dX9_thingDigest_126 : decode cX9_thingDigest 126 = .ok (.lload 4, 2) := by decide +kernel
theorem dX9_thingDigest_128 : decode cX9_thingDigest 128 = .ok (.lmul, 1) := by decide +kernel
theorem dX9_thingDigest_129 : decode cX9_thingDigest 129 = .ok (.aload_n 0, 1) := by decide +kernel
theorem dX9_thingDigest_130 : decode cX9_thingDigest 130 = .ok (.iconst 5, 1) := by decide +kernel
theorem dX9_thingDigest_131 : decode cX9_thingDigest 131 = .ok (.iload_n 3, 1) := by decide +kernel
theorem dX9_thingDigest_132 : decode cX9_thingDigest 132 = .ok (.iconst 0, 1) := by decide +kernel
theorem dX9_thingDigest_133 : decode cX9_thingDigest 133 = .ok (.iconst 4, 1) := by decide +kernel
theorem dX9_thingDigest_134 : decode cX9_thingDigest 134 = .ok (.iconst 1, 1) := by decide +kernel
theorem dX9_thingDigest_135 : decode cX9_thingDigest 135 = .ok (.invokevirtual 344, 3) := by decide +kernel
theorem dX9_thingDigest_138 : decode cX9_thingDigest 138 = .ok (.ladd, 1) := by decide +kernel
theorem dX9_thingDigest_139 : decode cX9_thingDigest 139 = .ok (.lstore 4, 2) := by decide +kernel
theorem dX9_thingDigest_141 : decode cX9_thingDigest 141 = .ok (.ldc2_w 336, 3) := by decide +kernel
theorem dX9_thingDigest_144 : decode cX9_thingDigest 144 = .ok (.lload 4, 2) := by decide +kernel
theorem dX9_thingDigest_146 : decode cX9_thingDigest 146 = .ok (.lmul, 1) := by decide +kernel
theorem dX9_thingDigest_147 : decode cX9_thingDigest 147 = .ok (.aload_n 0, 1) := by decide +kernel
theorem dX9_thingDigest_148 : decode cX9_thingDigest 148 = .ok (.bipush 21, 2) := by decide +kernel
theorem dX9_thingDigest_150 : decode cX9_thingDigest 150 = .ok (.iload_n 3, 1) := by decide +kernel
theorem dX9_thingDigest_151 : decode cX9_thingDigest 151 = .ok (.iconst 1, 1) := by decide +kernel
theorem dX9_thingDigest_152 : decode cX9_thingDigest 152 = .ok (.iconst 0, 1) := by decide +kernel
theorem dX9_thingDigest_153 : decode cX9_thingDigest 153 = .ok (.invokevirtual 347, 3) := by decide +kernel
theorem dX9_thingDigest_156 : decode cX9_thingDigest 156 = .ok (.ladd, 1) := by decide +kernel
theorem dX9_thingDigest_157 : decode cX9_thingDigest 157 = .ok (.lstore 4, 2) := by decide +kernel
theorem dX9_thingDigest_159 : decode cX9_thingDigest 159 = .ok (.ldc2_w 336, 3) := by decide +kernel
theorem dX9_thingDigest_162 : decode cX9_thingDigest 162 = .ok (.lload 4, 2) := by decide +kernel
theorem dX9_thingDigest_164 : decode cX9_thingDigest 164 = .ok (.lmul, 1) := by decide +kernel
theorem dX9_thingDigest_165 : decode cX9_thingDigest 165 = .ok (.aload_n 0, 1) := by decide +kernel
theorem dX9_thingDigest_166 : decode cX9_thingDigest 166 = .ok (.bipush 21, 2) := by decide +kernel
theorem dX9_thingDigest_168 : decode cX9_thingDigest 168 = .ok (.iload_n 3, 1) := by decide +kernel
theorem dX9_thingDigest_169 : decode cX9_thingDigest 169 = .ok (.iconst 1, 1) := by decide +kernel
theorem dX9_thingDigest_170 : decode cX9_thingDigest 170 = .ok (.iconst 1, 1) := by decide +kernel
theorem dX9_thingDigest_171 : decode cX9_thingDigest 171 = .ok (.invokevirtual 347, 3) := by decide +kernel
theorem dX9_thingDigest_174 : decode cX9_thingDigest 174 = .ok (.ladd, 1) := by decide +kernel
theorem dX9_thingDigest_175 : decode cX9_thingDigest 175 = .ok (.lstore 4, 2) := by decide +kernel
theorem dX9_thingDigest_177 : decode cX9_thingDigest 177 = .ok (.ldc2_w 336, 3) := by decide +kernel
theorem dX9_thingDigest_180 : decode cX9_thingDigest 180 = .ok (.lload 4, 2) := by decide +kernel
theorem dX9_thingDigest_182 : decode cX9_thingDigest 182 = .ok (.lmul, 1) := by decide +kernel
theorem dX9_thingDigest_183 : decode cX9_thingDigest 183 = .ok (.aload_n 0, 1) := by decide +kernel
theorem dX9_thingDigest_184 : decode cX9_thingDigest 184 = .ok (.bipush 7, 2) := by decide +kernel
theorem dX9_thingDigest_186 : decode cX9_thingDigest 186 = .ok (.bipush 12, 2) := by decide +kernel
theorem dX9_thingDigest_188 : decode cX9_thingDigest 188 = .ok (.iload_n 3, 1) := by decide +kernel
theorem dX9_thingDigest_189 : decode cX9_thingDigest 189 = .ok (.invokevirtual 319, 3) := by decide +kernel
theorem dX9_thingDigest_192 : decode cX9_thingDigest 192 = .ok (.i2l, 1) := by decide +kernel
theorem dX9_thingDigest_193 : decode cX9_thingDigest 193 = .ok (.ladd, 1) := by decide +kernel
theorem dX9_thingDigest_194 : decode cX9_thingDigest 194 = .ok (.lreturn, 1) := by decide +kernel
theorem dX9_hourDigest_0 : decode cX9_hourDigest 0 = .ok (.ldc2_w 336, 3) := by decide +kernel
theorem dX9_hourDigest_3 : decode cX9_hourDigest 3 = .ok (.lload_n 1, 1) := by decide +kernel
theorem dX9_hourDigest_4 : decode cX9_hourDigest 4 = .ok (.lmul, 1) := by decide +kernel
theorem dX9_hourDigest_5 : decode cX9_hourDigest 5 = .ok (.aload_n 0, 1) := by decide +kernel
theorem dX9_hourDigest_6 : decode cX9_hourDigest 6 = .ok (.iload_n 3, 1) := by decide +kernel
theorem dX9_hourDigest_7 : decode cX9_hourDigest 7 = .ok (.iconst (-1), 1) := by decide +kernel
theorem dX9_hourDigest_8 : decode cX9_hourDigest 8 = .ok (.invokevirtual 231, 3) := by decide +kernel
theorem dX9_hourDigest_11 : decode cX9_hourDigest 11 = .ok (.i2l, 1) := by decide +kernel
theorem dX9_hourDigest_12 : decode cX9_hourDigest 12 = .ok (.ladd, 1) := by decide +kernel
theorem dX9_hourDigest_13 : decode cX9_hourDigest 13 = .ok (.lstore 4, 2) := by decide +kernel
theorem dX9_hourDigest_15 : decode cX9_hourDigest 15 = .ok (.ldc2_w 336, 3) := by decide +kernel
theorem dX9_hourDigest_18 : decode cX9_hourDigest 18 = .ok (.lload 4, 2) := by decide +kernel
theorem dX9_hourDigest_20 : decode cX9_hourDigest 20 = .ok (.lmul, 1) := by decide +kernel
theorem dX9_hourDigest_21 : decode cX9_hourDigest 21 = .ok (.aload_n 0, 1) := by decide +kernel
theorem dX9_hourDigest_22 : decode cX9_hourDigest 22 = .ok (.iload_n 3, 1) := by decide +kernel
theorem dX9_hourDigest_23 : decode cX9_hourDigest 23 = .ok (.invokevirtual 234, 3) := by decide +kernel
theorem dX9_hourDigest_26 : decode cX9_hourDigest 26 = .ok (.i2l, 1) := by decide +kernel
theorem dX9_hourDigest_27 : decode cX9_hourDigest 27 = .ok (.ladd, 1) := by decide +kernel
theorem dX9_hourDigest_28 : decode cX9_hourDigest 28 = .ok (.lstore 4, 2) := by decide +kernel
theorem dX9_hourDigest_30 : decode cX9_hourDigest 30 = .ok (.ldc2_w 336, 3) := by decide +kernel
theorem dX9_hourDigest_33 : decode cX9_hourDigest 33 = .ok (.lload 4, 2) := by decide +kernel
theorem dX9_hourDigest_35 : decode cX9_hourDigest 35 = .ok (.lmul, 1) := by decide +kernel
theorem dX9_hourDigest_36 : decode cX9_hourDigest 36 = .ok (.aload_n 0, 1) := by decide +kernel
theorem dX9_hourDigest_37 : decode cX9_hourDigest 37 = .ok (.iload_n 3, 1) := by decide +kernel
theorem dX9_hourDigest_38 : decode cX9_hourDigest 38 = .ok (.invokevirtual 279, 3) := by decide +kernel
theorem dX9_hourDigest_41 : decode cX9_hourDigest 41 = .ok (.i2l, 1) := by decide +kernel
theorem dX9_hourDigest_42 : decode cX9_hourDigest 42 = .ok (.ladd, 1) := by decide +kernel
theorem dX9_hourDigest_43 : decode cX9_hourDigest 43 = .ok (.lreturn, 1) := by decide +kernel
theorem dX9_digest_0 : decode cX9_digest 0 = .ok (.ldc2_w 350, 3) := by decide +kernel
theorem dX9_digest_3 : decode cX9_digest 3 = .ok (.lstore_n 1, 1) := by decide +kernel
theorem dX9_digest_4 : decode cX9_digest 4 = .ok (.iconst 0, 1) := by decide +kernel
theorem dX9_digest_5 : decode cX9_digest 5 = .ok (.istore_n 3, 1) := by decide +kernel
theorem dX9_digest_6 : decode cX9_digest 6 = .ok (.iload_n 3, 1) := by decide +kernel
theorem dX9_digest_7 : decode cX9_digest 7 = .ok (.bipush 8, 2) := by decide +kernel
theorem dX9_digest_9 : decode cX9_digest 9 = .ok (.if_icmp .ge 22, 3) := by decide +kernel
theorem dX9_digest_12 : decode cX9_digest 12 = .ok (.ldc2_w 336, 3) := by decide +kernel
theorem dX9_digest_15 : decode cX9_digest 15 = .ok (.lload_n 1, 1) := by decide +kernel
theorem dX9_digest_16 : decode cX9_digest 16 = .ok (.lmul, 1) := by decide +kernel
theorem dX9_digest_17 : decode cX9_digest 17 = .ok (.aload_n 0, 1) := by decide +kernel
theorem dX9_digest_18 : decode cX9_digest 18 = .ok (.iload_n 3, 1) := by decide +kernel
theorem dX9_digest_19 : decode cX9_digest 19 = .ok (.invokevirtual 352, 3) := by decide +kernel
theorem dX9_digest_22 : decode cX9_digest 22 = .ok (.i2l, 1) := by decide +kernel
theorem dX9_digest_23 : decode cX9_digest 23 = .ok (.ladd, 1) := by decide +kernel
theorem dX9_digest_24 : decode cX9_digest 24 = .ok (.lstore_n 1, 1) := by decide +kernel
theorem dX9_digest_25 : decode cX9_digest 25 = .ok (.iinc 3 1, 3) := by decide +kernel
theorem dX9_digest_28 : decode cX9_digest 28 = .ok (.goto (-22), 3) := by decide +kernel
theorem dX9_digest_31 : decode cX9_digest 31 = .ok (.ldc2_w 336, 3) := by decide +kernel
theorem dX9_digest_34 : decode cX9_digest 34 = .ok (.lload_n 1, 1) := by decide +kernel
theorem dX9_digest_35 : decode cX9_digest 35 = .ok (.lmul, 1) := by decide +kernel
theorem dX9_digest_36 : decode cX9_digest 36 = .ok (.aload_n 0, 1) := by decide +kernel
theorem dX9_digest_37 : decode cX9_digest 37 = .ok (.iconst 0, 1) := by decide +kernel
theorem dX9_digest_38 : decode cX9_digest 38 = .ok (.invokevirtual 124, 3) := by decide +kernel
theorem dX9_digest_41 : decode cX9_digest 41 = .ok (.i2l, 1) := by decide +kernel
theorem dX9_digest_42 : decode cX9_digest 42 = .ok (.ladd, 1) := by decide +kernel
theorem dX9_digest_43 : decode cX9_digest 43 = .ok (.lstore_n 1, 1) := by decide +kernel
theorem dX9_digest_44 : decode cX9_digest 44 = .ok (.ldc2_w 336, 3) := by decide +kernel
theorem dX9_digest_47 : decode cX9_digest 47 = .ok (.lload_n 1, 1) := by decide +kernel
theorem dX9_digest_48 : decode cX9_digest 48 = .ok (.lmul, 1) := by decide +kernel
theorem dX9_digest_49 : decode cX9_digest 49 = .ok (.aload_n 0, 1) := by decide +kernel
theorem dX9_digest_50 : decode cX9_digest 50 = .ok (.iconst 1, 1) := by decide +kernel
theorem dX9_digest_51 : decode cX9_digest 51 = .ok (.invokevirtual 124, 3) := by decide +kernel
theorem dX9_digest_54 : decode cX9_digest 54 = .ok (.i2l, 1) := by decide +kernel
theorem dX9_digest_55 : decode cX9_digest 55 = .ok (.ladd, 1) := by decide +kernel
theorem dX9_digest_56 : decode cX9_digest 56 = .ok (.lstore_n 1, 1) := by decide +kernel
theorem dX9_digest_57 : decode cX9_digest 57 = .ok (.iconst 0, 1) := by decide +kernel
theorem dX9_digest_58 : decode cX9_digest 58 = .ok (.istore_n 3, 1) := by decide +kernel
theorem dX9_digest_59 : decode cX9_digest 59 = .ok (.iload_n 3, 1) := by decide +kernel
theorem dX9_digest_60 : decode cX9_digest 60 = .ok (.aload_n 0, 1) := by decide +kernel
theorem dX9_digest_61 : decode cX9_digest 61 = .ok (.getfield 109, 3) := by decide +kernel
theorem dX9_digest_64 : decode cX9_digest 64 = .ok (.if_icmp .ge 16, 3) := by decide +kernel
theorem dX9_digest_67 : decode cX9_digest 67 = .ok (.aload_n 0, 1) := by decide +kernel
theorem dX9_digest_68 : decode cX9_digest 68 = .ok (.lload_n 1, 1) := by decide +kernel
theorem dX9_digest_69 : decode cX9_digest 69 = .ok (.iload_n 3, 1) := by decide +kernel
theorem dX9_digest_70 : decode cX9_digest 70 = .ok (.invokevirtual 355, 3) := by decide +kernel
theorem dX9_digest_73 : decode cX9_digest 73 = .ok (.lstore_n 1, 1) := by decide +kernel
theorem dX9_digest_74 : decode cX9_digest 74 = .ok (.iinc 3 1, 3) := by decide +kernel
theorem dX9_digest_77 : decode cX9_digest 77 = .ok (.goto (-18), 3) := by decide +kernel
theorem dX9_digest_80 : decode cX9_digest 80 = .ok (.iconst 0, 1) := by decide +kernel
theorem dX9_digest_81 : decode cX9_digest 81 = .ok (.istore_n 3, 1) := by decide +kernel
theorem dX9_digest_82 : decode cX9_digest 82 = .ok (.iload_n 3, 1) := by decide +kernel
theorem dX9_digest_83 : decode cX9_digest 83 = .ok (.aload_n 0, 1) := by decide +kernel
theorem dX9_digest_84 : decode cX9_digest 84 = .ok (.getfield 113, 3) := by decide +kernel
theorem dX9_digest_87 : decode cX9_digest 87 = .ok (.if_icmp .ge 88, 3) := by decide +kernel
theorem dX9_digest_90 : decode cX9_digest 90 = .ok (.iconst 0, 1) := by decide +kernel
theorem dX9_digest_91 : decode cX9_digest 91 = .ok (.istore 4, 2) := by decide +kernel
theorem dX9_digest_93 : decode cX9_digest 93 = .ok (.iload 4, 2) := by decide +kernel
theorem dX9_digest_95 : decode cX9_digest 95 = .ok (.iconst 3, 1) := by decide +kernel
theorem dX9_digest_96 : decode cX9_digest 96 = .ok (.if_icmp .ge 24, 3) := by decide +kernel
theorem dX9_digest_99 : decode cX9_digest 99 = .ok (.ldc2_w 336, 3) := by decide +kernel
theorem dX9_digest_102 : decode cX9_digest 102 = .ok (.lload_n 1, 1) := by decide +kernel
theorem dX9_digest_103 : decode cX9_digest 103 = .ok (.lmul, 1) := by decide +kernel
theorem dX9_digest_104 : decode cX9_digest 104 = .ok (.aload_n 0, 1) := by decide +kernel
theorem dX9_digest_105 : decode cX9_digest 105 = .ok (.iload_n 3, 1) := by decide +kernel
theorem dX9_digest_106 : decode cX9_digest 106 = .ok (.iload 4, 2) := by decide +kernel
theorem dX9_digest_108 : decode cX9_digest 108 = .ok (.invokevirtual 139, 3) := by decide +kernel
theorem dX9_digest_111 : decode cX9_digest 111 = .ok (.i2l, 1) := by decide +kernel
theorem dX9_digest_112 : decode cX9_digest 112 = .ok (.ladd, 1) := by decide +kernel
theorem dX9_digest_113 : decode cX9_digest 113 = .ok (.lstore_n 1, 1) := by decide +kernel
theorem dX9_digest_114 : decode cX9_digest 114 = .ok (.iinc 4 1, 3) := by decide +kernel
theorem dX9_digest_117 : decode cX9_digest 117 = .ok (.goto (-24), 3) := by decide +kernel
theorem dX9_digest_120 : decode cX9_digest 120 = .ok (.aload_n 0, 1) := by decide +kernel
theorem dX9_digest_121 : decode cX9_digest 121 = .ok (.iload_n 3, 1) := by decide +kernel
theorem dX9_digest_122 : decode cX9_digest 122 = .ok (.iconst 3, 1) := by decide +kernel
theorem dX9_digest_123 : decode cX9_digest 123 = .ok (.iconst 5, 1) := by decide +kernel
theorem dX9_digest_124 : decode cX9_digest 124 = .ok (.iconst (-1), 1) := by decide +kernel
theorem dX9_digest_125 : decode cX9_digest 125 = .ok (.invokevirtual 257, 3) := by decide +kernel
theorem dX9_digest_128 : decode cX9_digest 128 = .ok (.istore 4, 2) := by decide +kernel
theorem dX9_digest_130 : decode cX9_digest 130 = .ok (.ldc2_w 336, 3) := by decide +kernel
theorem dX9_digest_133 : decode cX9_digest 133 = .ok (.lload_n 1, 1) := by decide +kernel
theorem dX9_digest_134 : decode cX9_digest 134 = .ok (.lmul, 1) := by decide +kernel
theorem dX9_digest_135 : decode cX9_digest 135 = .ok (.iload 4, 2) := by decide +kernel
theorem dX9_digest_137 : decode cX9_digest 137 = .ok (.i2l, 1) := by decide +kernel
theorem dX9_digest_138 : decode cX9_digest 138 = .ok (.ladd, 1) := by decide +kernel
theorem dX9_digest_139 : decode cX9_digest 139 = .ok (.lstore_n 1, 1) := by decide +kernel
theorem dX9_digest_140 : decode cX9_digest 140 = .ok (.ldc2_w 336, 3) := by decide +kernel
theorem dX9_digest_143 : decode cX9_digest 143 = .ok (.lload_n 1, 1) := by decide +kernel
theorem dX9_digest_144 : decode cX9_digest 144 = .ok (.lmul, 1) := by decide +kernel
theorem dX9_digest_145 : decode cX9_digest 145 = .ok (.aload_n 0, 1) := by decide +kernel
theorem dX9_digest_146 : decode cX9_digest 146 = .ok (.iload 4, 2) := by decide +kernel
theorem dX9_digest_148 : decode cX9_digest 148 = .ok (.iconst 0, 1) := by decide +kernel
theorem dX9_digest_149 : decode cX9_digest 149 = .ok (.invokevirtual 254, 3) := by decide +kernel
theorem dX9_digest_152 : decode cX9_digest 152 = .ok (.i2l, 1) := by decide +kernel
theorem dX9_digest_153 : decode cX9_digest 153 = .ok (.ladd, 1) := by decide +kernel
theorem dX9_digest_154 : decode cX9_digest 154 = .ok (.lstore_n 1, 1) := by decide +kernel
theorem dX9_digest_155 : decode cX9_digest 155 = .ok (.ldc2_w 336, 3) := by decide +kernel
theorem dX9_digest_158 : decode cX9_digest 158 = .ok (.lload_n 1, 1) := by decide +kernel
theorem dX9_digest_159 : decode cX9_digest 159 = .ok (.lmul, 1) := by decide +kernel
theorem dX9_digest_160 : decode cX9_digest 160 = .ok (.aload_n 0, 1) := by decide +kernel
theorem dX9_digest_161 : decode cX9_digest 161 = .ok (.iload_n 3, 1) := by decide +kernel
theorem dX9_digest_162 : decode cX9_digest 162 = .ok (.iconst 0, 1) := by decide +kernel
theorem dX9_digest_163 : decode cX9_digest 163 = .ok (.invokevirtual 359, 3) := by decide +kernel
theorem dX9_digest_166 : decode cX9_digest 166 = .ok (.i2l, 1) := by decide +kernel
theorem dX9_digest_167 : decode cX9_digest 167 = .ok (.ladd, 1) := by decide +kernel
theorem dX9_digest_168 : decode cX9_digest 168 = .ok (.lstore_n 1, 1) := by decide +kernel
theorem dX9_digest_169 : decode cX9_digest 169 = .ok (.iinc 3 1, 3) := by decide +kernel
theorem dX9_digest_172 : decode cX9_digest 172 = .ok (.goto (-90), 3) := by decide +kernel
theorem dX9_digest_175 : decode cX9_digest 175 = .ok (.aload_n 0, 1) := by decide +kernel
theorem dX9_digest_176 : decode cX9_digest 176 = .ok (.lload_n 1, 1) := by decide +kernel
theorem dX9_digest_177 : decode cX9_digest 177 = .ok (.iconst 0, 1) := by decide +kernel
theorem dX9_digest_178 : decode cX9_digest 178 = .ok (.invokevirtual 362, 3) := by decide +kernel
theorem dX9_digest_181 : decode cX9_digest 181 = .ok (.lstore_n 1, 1) := by decide +kernel
theorem dX9_digest_182 : decode cX9_digest 182 = .ok (.aload_n 0, 1) := by decide +kernel
theorem dX9_digest_183 : decode cX9_digest 183 = .ok (.lload_n 1, 1) := by decide +kernel
theorem dX9_digest_184 : decode cX9_digest 184 = .ok (.iconst 1, 1) := by decide +kernel
theorem dX9_digest_185 : decode cX9_digest 185 = .ok (.invokevirtual 362, 3) := by decide +kernel
theorem dX9_digest_188 : decode cX9_digest 188 = .ok (.lstore_n 1, 1) := by decide +kernel
theorem dX9_digest_189 : decode cX9_digest 189 = .ok (.aload_n 0, 1) := by decide +kernel
theorem dX9_digest_190 : decode cX9_digest 190 = .ok (.lload_n 1, 1) := by decide +kernel
theorem dX9_digest_191 : decode cX9_digest 191 = .ok (.iconst 5, 1) := by decide +kernel
theorem dX9_digest_192 : decode cX9_digest 192 = .ok (.invokevirtual 362, 3) := by decide +kernel
theorem dX9_digest_195 : decode cX9_digest 195 = .ok (.lstore_n 1, 1) := by decide +kernel
theorem dX9_digest_196 : decode cX9_digest 196 = .ok (.aload_n 0, 1) := by decide +kernel
theorem dX9_digest_197 : decode cX9_digest 197 = .ok (.lload_n 1, 1) := by decide +kernel
theorem dX9_digest_198 : decode cX9_digest 198 = .ok (.bipush 10, 2) := by decide +kernel
theorem dX9_digest_200 : decode cX9_digest 200 = .ok (.invokevirtual 362, 3) := by decide +kernel
theorem dX9_digest_203 : decode cX9_digest 203 = .ok (.lstore_n 1, 1) := by decide +kernel
theorem dX9_digest_204 : decode cX9_digest 204 = .ok (.aload_n 0, 1) := by decide +kernel
theorem dX9_digest_205 : decode cX9_digest 205 = .ok (.lload_n 1, 1) := by decide +kernel
theorem dX9_digest_206 : decode cX9_digest 206 = .ok (.bipush 23, 2) := by decide +kernel
theorem dX9_digest_208 : decode cX9_digest 208 = .ok (.invokevirtual 362, 3) := by decide +kernel
theorem dX9_digest_211 : decode cX9_digest 211 = .ok (.lstore_n 1, 1) := by decide +kernel
theorem dX9_digest_212 : decode cX9_digest 212 = .ok (.iconst 0, 1) := by decide +kernel
theorem dX9_digest_213 : decode cX9_digest 213 = .ok (.istore_n 3, 1) := by decide +kernel
theorem dX9_digest_214 : decode cX9_digest 214 = .ok (.iload_n 3, 1) := by decide +kernel
theorem dX9_digest_215 : decode cX9_digest 215 = .ok (.aload_n 0, 1) := by decide +kernel
theorem dX9_digest_216 : decode cX9_digest 216 = .ok (.getfield 151, 3) := by decide +kernel
theorem dX9_digest_219 : decode cX9_digest 219 = .ok (.if_icmp .ge 37, 3) := by decide +kernel
theorem dX9_digest_222 : decode cX9_digest 222 = .ok (.ldc2_w 336, 3) := by decide +kernel
theorem dX9_digest_225 : decode cX9_digest 225 = .ok (.lload_n 1, 1) := by decide +kernel
theorem dX9_digest_226 : decode cX9_digest 226 = .ok (.lmul, 1) := by decide +kernel
theorem dX9_digest_227 : decode cX9_digest 227 = .ok (.aload_n 0, 1) := by decide +kernel
theorem dX9_digest_228 : decode cX9_digest 228 = .ok (.iload_n 3, 1) := by decide +kernel
theorem dX9_digest_229 : decode cX9_digest 229 = .ok (.invokevirtual 295, 3) := by decide +kernel
theorem dX9_digest_232 : decode cX9_digest 232 = .ok (.i2l, 1) := by decide +kernel
theorem dX9_digest_233 : decode cX9_digest 233 = .ok (.ladd, 1) := by decide +kernel
theorem dX9_digest_234 : decode cX9_digest 234 = .ok (.lstore_n 1, 1) := by decide +kernel
theorem dX9_digest_235 : decode cX9_digest 235 = .ok (.ldc2_w 336, 3) := by decide +kernel
theorem dX9_digest_238 : decode cX9_digest 238 = .ok (.lload_n 1, 1) := by decide +kernel
theorem dX9_digest_239 : decode cX9_digest 239 = .ok (.lmul, 1) := by decide +kernel
theorem dX9_digest_240 : decode cX9_digest 240 = .ok (.aload_n 0, 1) := by decide +kernel
theorem dX9_digest_241 : decode cX9_digest 241 = .ok (.iload_n 3, 1) := by decide +kernel
theorem dX9_digest_242 : decode cX9_digest 242 = .ok (.bipush 9, 2) := by decide +kernel
theorem dX9_digest_244 : decode cX9_digest 244 = .ok (.invokevirtual 298, 3) := by decide +kernel
theorem dX9_digest_247 : decode cX9_digest 247 = .ok (.i2l, 1) := by decide +kernel
theorem dX9_digest_248 : decode cX9_digest 248 = .ok (.ladd, 1) := by decide +kernel
theorem dX9_digest_249 : decode cX9_digest 249 = .ok (.lstore_n 1, 1) := by decide +kernel
theorem dX9_digest_250 : decode cX9_digest 250 = .ok (.iinc 3 1, 3) := by decide +kernel
theorem dX9_digest_253 : decode cX9_digest 253 = .ok (.goto (-39), 3) := by decide +kernel
theorem dX9_digest_256 : decode cX9_digest 256 = .ok (.ldc2_w 336, 3) := by decide +kernel
theorem dX9_digest_259 : decode cX9_digest 259 = .ok (.lload_n 1, 1) := by decide +kernel
theorem dX9_digest_260 : decode cX9_digest 260 = .ok (.lmul, 1) := by decide +kernel
theorem dX9_digest_261 : decode cX9_digest 261 = .ok (.aload_n 0, 1) := by decide +kernel
theorem dX9_digest_262 : decode cX9_digest 262 = .ok (.iconst (-1), 1) := by decide +kernel
theorem dX9_digest_263 : decode cX9_digest 263 = .ok (.invokevirtual 240, 3) := by decide +kernel
theorem dX9_digest_266 : decode cX9_digest 266 = .ok (.i2l, 1) := by decide +kernel
theorem dX9_digest_267 : decode cX9_digest 267 = .ok (.ladd, 1) := by decide +kernel
theorem dX9_digest_268 : decode cX9_digest 268 = .ok (.lstore_n 1, 1) := by decide +kernel
theorem dX9_digest_269 : decode cX9_digest 269 = .ok (.ldc2_w 336, 3) := by decide +kernel
theorem dX9_digest_272 : decode cX9_digest 272 = .ok (.lload_n 1, 1) := by decide +kernel
theorem dX9_digest_273 : decode cX9_digest 273 = .ok (.lmul, 1) := by decide +kernel
theorem dX9_digest_274 : decode cX9_digest 274 = .ok (.aload_n 0, 1) := by decide +kernel
theorem dX9_digest_275 : decode cX9_digest 275 = .ok (.iconst 0, 1) := by decide +kernel
theorem dX9_digest_276 : decode cX9_digest 276 = .ok (.invokevirtual 240, 3) := by decide +kernel
theorem dX9_digest_279 : decode cX9_digest 279 = .ok (.i2l, 1) := by decide +kernel
theorem dX9_digest_280 : decode cX9_digest 280 = .ok (.ladd, 1) := by decide +kernel
theorem dX9_digest_281 : decode cX9_digest 281 = .ok (.lstore_n 1, 1) := by decide +kernel
theorem dX9_digest_282 : decode cX9_digest 282 = .ok (.aload_n 0, 1) := by decide +kernel
theorem dX9_digest_283 : decode cX9_digest 283 = .ok (.iconst 0, 1) := by decide +kernel
theorem dX9_digest_284 : decode cX9_digest 284 = .ok (.iconst 3, 1) := by decide +kernel
theorem dX9_digest_285 : decode cX9_digest 285 = .ok (.iconst 2, 1) := by decide +kernel
theorem dX9_digest_286 : decode cX9_digest 286 = .ok (.iconst 4, 1) := by decide +kernel
theorem dX9_digest_287 : decode cX9_digest 287 = .ok (.iconst (-1), 1) := by decide +kernel
theorem dX9_digest_288 : decode cX9_digest 288 = .ok (.invokevirtual 365, 3) := by decide +kernel
theorem dX9_digest_291 : decode cX9_digest 291 = .ok (.istore_n 3, 1) := by decide +kernel
theorem dX9_digest_292 : decode cX9_digest 292 = .ok (.ldc2_w 336, 3) := by decide +kernel
theorem dX9_digest_295 : decode cX9_digest 295 = .ok (.lload_n 1, 1) := by decide +kernel
theorem dX9_digest_296 : decode cX9_digest 296 = .ok (.lmul, 1) := by decide +kernel
theorem dX9_digest_297 : decode cX9_digest 297 = .ok (.iload_n 3, 1) := by decide +kernel
theorem dX9_digest_298 : decode cX9_digest 298 = .ok (.i2l, 1) := by decide +kernel
theorem dX9_digest_299 : decode cX9_digest 299 = .ok (.ladd, 1) := by decide +kernel
theorem dX9_digest_300 : decode cX9_digest 300 = .ok (.lstore_n 1, 1) := by decide +kernel
theorem dX9_digest_301 : decode cX9_digest 301 = .ok (.ldc2_w 336, 3) := by decide +kernel
theorem dX9_digest_304 : decode cX9_digest 304 = .ok (.lload_n 1, 1) := by decide +kernel
theorem dX9_digest_305 : decode cX9_digest 305 = .ok (.lmul, 1) := by decide +kernel
theorem dX9_digest_306 : decode cX9_digest 306 = .ok (.iload_n 3, 1) := by decide +kernel
theorem dX9_digest_307 : decode cX9_digest 307 = .ok (.bipush (-2), 2) := by decide +kernel
theorem dX9_digest_309 : decode cX9_digest 309 = .ok (.if_icmp .ne 8, 3) := by decide +kernel
theorem dX9_digest_312 : decode cX9_digest 312 = .ok (.bipush (-2), 2) := by decide +kernel
theorem dX9_digest_314 : decode cX9_digest 314 = .ok (.goto 9, 3) := by decide +kernel
theorem dX9_digest_317 : decode cX9_digest 317 = .ok (.aload_n 0, 1) := by decide +kernel
theorem dX9_digest_318 : decode cX9_digest 318 = .ok (.iload_n 3, 1) := by decide +kernel
theorem dX9_digest_319 : decode cX9_digest 319 = .ok (.iconst 0, 1) := by decide +kernel
theorem dX9_digest_320 : decode cX9_digest 320 = .ok (.invokevirtual 254, 3) := by decide +kernel
theorem dX9_digest_323 : decode cX9_digest 323 = .ok (.i2l, 1) := by decide +kernel
theorem dX9_digest_324 : decode cX9_digest 324 = .ok (.ladd, 1) := by decide +kernel
theorem dX9_digest_325 : decode cX9_digest 325 = .ok (.lstore_n 1, 1) := by decide +kernel
theorem dX9_digest_326 : decode cX9_digest 326 = .ok (.aload_n 0, 1) := by decide +kernel
theorem dX9_digest_327 : decode cX9_digest 327 = .ok (.iconst 1, 1) := by decide +kernel
theorem dX9_digest_328 : decode cX9_digest 328 = .ok (.iconst 4, 1) := by decide +kernel
theorem dX9_digest_329 : decode cX9_digest 329 = .ok (.bipush 6, 2) := by decide +kernel
theorem dX9_digest_331 : decode cX9_digest 331 = .ok (.iconst (-1), 1) := by decide +kernel
theorem dX9_digest_332 : decode cX9_digest 332 = .ok (.invokevirtual 273, 3) := by decide +kernel
theorem dX9_digest_335 : decode cX9_digest 335 = .ok (.istore_n 3, 1) := by decide +kernel
theorem dX9_digest_336 : decode cX9_digest 336 = .ok (.ldc2_w 336, 3) := by decide +kernel
theorem dX9_digest_339 : decode cX9_digest 339 = .ok (.lload_n 1, 1) := by decide +kernel
theorem dX9_digest_340 : decode cX9_digest 340 = .ok (.lmul, 1) := by decide +kernel
theorem dX9_digest_341 : decode cX9_digest 341 = .ok (.iload_n 3, 1) := by decide +kernel
theorem dX9_digest_342 : decode cX9_digest 342 = .ok (.i2l, 1) := by decide +kernel
theorem dX9_digest_343 : decode cX9_digest 343 = .ok (.ladd, 1) := by decide +kernel
theorem dX9_digest_344 : decode cX9_digest 344 = .ok (.lstore_n 1, 1) := by decide +kernel
theorem dX9_digest_345 : decode cX9_digest 345 = .ok (.ldc2_w 336, 3) := by decide +kernel
theorem dX9_digest_348 : decode cX9_digest 348 = .ok (.lload_n 1, 1) := by decide +kernel
theorem dX9_digest_349 : decode cX9_digest 349 = .ok (.lmul, 1) := by decide +kernel
theorem dX9_digest_350 : decode cX9_digest 350 = .ok (.aload_n 0, 1) := by decide +kernel
theorem dX9_digest_351 : decode cX9_digest 351 = .ok (.iload_n 3, 1) := by decide +kernel
theorem dX9_digest_352 : decode cX9_digest 352 = .ok (.iconst 0, 1) := by decide +kernel
theorem dX9_digest_353 : decode cX9_digest 353 = .ok (.invokevirtual 254, 3) := by decide +kernel
theorem dX9_digest_356 : decode cX9_digest 356 = .ok (.i2l, 1) := by decide +kernel
theorem dX9_digest_357 : decode cX9_digest 357 = .ok (.ladd, 1) := by decide +kernel
theorem dX9_digest_358 : decode cX9_digest 358 = .ok (.lreturn, 1) := by decide +kernel
