theorem dX0_init_0 : decode cX0_init 0 = .ok (.aload_n 0, 1) := by decide +kernel
theorem dX0_init_1 : decode cX0_init 1 = .ok (.invokespecial 1, 3) := by decide +kernel
theorem dX0_init_4 : decode cX0_init 4 = .ok (.aload_n 0, 1) := by decide +kernel
theorem dX0_init_5 : decode cX0_init 5 = .ok (.lconst 0, 1) := by decide +kernel
theorem dX0_init_6 : decode cX0_init 6 = .ok (.putfield 7, 3) := by decide +kernel
theorem dX0_init_9 : decode cX0_init 9 = .ok (.aload_n 0, 1) := by decide +kernel
theorem dX0_init_10 : decode cX0_init 10 = .ok (.lconst 1, 1) := by decide +kernel
theorem dX0_init_11 : decode cX0_init 11 = .ok (.putfield 13, 3) := by decide +kernel
theorem dX0_init_14 : decode cX0_init 14 = .ok (.return_, 1) := by decide +kernel
theorem dX0_become_0 : decode cX0_become 0 = .ok (.lload_n 1, 1) := by decide +kernel
theorem dX0_become_1 : decode cX0_become 1 = .ok (.lload_n 3, 1) := by decide +kernel
theorem dX0_become_2 : decode cX0_become 2 = .ok (.invokestatic 16, 3) := by decide +kernel
theorem dX0_become_5 : decode cX0_become 5 = .ok (.lstore 5, 2) := by decide +kernel
theorem dX0_become_7 : decode cX0_become 7 = .ok (.lload_n 1, 1) := by decide +kernel
theorem dX0_become_8 : decode cX0_become 8 = .ok (.lload_n 3, 1) := by decide +kernel
theorem dX0_become_9 : decode cX0_become 9 = .ok (.invokestatic 22, 3) := by decide +kernel
theorem dX0_become_12 : decode cX0_become 12 = .ok (.lstore 7, 2) := by decide +kernel
theorem dX0_become_14 : decode cX0_become 14 = .ok (.iconst 0, 1) := by decide +kernel
theorem dX0_become_15 : decode cX0_become 15 = .ok (.istore 9, 2) := by decide +kernel
theorem dX0_become_17 : decode cX0_become 17 = .ok (.iload 9, 2) := by decide +kernel
theorem dX0_become_19 : decode cX0_become 19 = .ok (.sipush 200, 3) := by decide +kernel
theorem dX0_become_22 : decode cX0_become 22 = .ok (.if_icmp .ge 31, 3) := by decide +kernel
theorem dX0_become_25 : decode cX0_become 25 = .ok (.lload 7, 2) := by decide +kernel
theorem dX0_become_27 : decode cX0_become 27 = .ok (.lconst 0, 1) := by decide +kernel
theorem dX0_become_28 : decode cX0_become 28 = .ok (.lcmp, 1) := by decide +kernel
theorem dX0_become_29 : decode cX0_become 29 = .ok (.ifCond .eq 24, 3) := by decide +kernel
theorem dX0_become_32 : decode cX0_become 32 = .ok (.lload 5, 2) := by decide +kernel
theorem dX0_become_34 : decode cX0_become 34 = .ok (.lload 7, 2) := by decide +kernel
theorem dX0_become_36 : decode cX0_become 36 = .ok (.lrem, 1) := by decide +kernel
theorem dX0_become_37 : decode cX0_become 37 = .ok (.lstore 10, 2) := by decide +kernel
theorem dX0_become_39 : decode cX0_become 39 = .ok (.lload 7, 2) := by decide +kernel
theorem dX0_become_41 : decode cX0_become 41 = .ok (.lstore 5, 2) := by decide +kernel
theorem dX0_become_43 : decode cX0_become 43 = .ok (.lload 10, 2) := by decide +kernel
theorem dX0_become_45 : decode cX0_become 45 = .ok (.lstore 7, 2) := by decide +kernel
theorem dX0_become_47 : decode cX0_become 47 = .ok (.iinc 9 1, 3) := by decide +kernel
theorem dX0_become_50 : decode cX0_become 50 = .ok (.goto (-33), 3) := by decide +kernel
theorem dX0_become_53 : decode cX0_become 53 = .ok (.lload_n 1, 1) := by decide +kernel
theorem dX0_become_54 : decode cX0_become 54 = .ok (.lconst 0, 1) := by decide +kernel
theorem dX0_become_55 : decode cX0_become 55 = .ok (.lcmp, 1) := by decide +kernel
theorem dX0_become_56 : decode cX0_become 56 = .ok (.ifCond .eq 16, 3) := by decide +kernel
theorem dX0_become_59 : decode cX0_become 59 = .ok (.lload_n 3, 1) := by decide +kernel
theorem dX0_become_60 : decode cX0_become 60 = .ok (.lconst 0, 1) := by decide +kernel
theorem dX0_become_61 : decode cX0_become 61 = .ok (.lcmp, 1) := by decide +kernel
theorem dX0_become_62 : decode cX0_become 62 = .ok (.ifCond .eq 10, 3) := by decide +kernel
theorem dX0_become_65 : decode cX0_become 65 = .ok (.lload 5, 2) := by decide +kernel
theorem dX0_become_67 : decode cX0_become 67 = .ok (.lconst 0, 1) := by decide +kernel
theorem dX0_become_68 : decode cX0_become 68 = .ok (.lcmp, 1) := by decide +kernel
theorem dX0_become_69 : decode cX0_become 69 = .ok (.ifCond .ne 7, 3) := by decide +kernel
theorem dX0_become_72 : decode cX0_become 72 = .ok (.iconst 1, 1) := by decide +kernel
theorem dX0_become_73 : decode cX0_become 73 = .ok (.goto 4, 3) := by decide +kernel
theorem dX0_become_76 : decode cX0_become 76 = .ok (.iconst 0, 1) := by decide +kernel
theorem dX0_become_77 : decode cX0_become 77 = .ok (.istore 9, 2) := by decide +kernel
theorem dX0_become_79 : decode cX0_become 79 = .ok (.aload_n 0, 1) := by decide +kernel
theorem dX0_become_80 : decode cX0_become 80 = .ok (.iload 9, 2) := by decide +kernel
theorem dX0_become_82 : decode cX0_become 82 = .ok (.ifCond .eq 7, 3) := by decide +kernel
theorem dX0_become_85 : decode cX0_become 85 = .ok (.lconst 0, 1) := by decide +kernel
theorem dX0_become_86 : decode cX0_become 86 = .ok (.goto 7, 3) := by decide +kernel
theorem dX0_become_89 : decode cX0_become 89 = .ok (.lload_n 1, 1) := by decide +kernel
theorem dX0_become_90 : decode cX0_become 90 = .ok (.lload 5, 2) := by decide +kernel
theorem dX0_become_92 : decode cX0_become 92 = .ok (.ldiv, 1) := by decide +kernel
theorem dX0_become_93 : decode cX0_become 93 = .ok (.putfield 7, 3) := by decide +kernel
theorem dX0_become_96 : decode cX0_become 96 = .ok (.aload_n 0, 1) := by decide +kernel
theorem dX0_become_97 : decode cX0_become 97 = .ok (.iload 9, 2) := by decide +kernel
theorem dX0_become_99 : decode cX0_become 99 = .ok (.ifCond .eq 7, 3) := by decide +kernel
theorem dX0_become_102 : decode cX0_become 102 = .ok (.lconst 1, 1) := by decide +kernel
theorem dX0_become_103 : decode cX0_become 103 = .ok (.goto 7, 3) := by decide +kernel
theorem dX0_become_106 : decode cX0_become 106 = .ok (.lload_n 3, 1) := by decide +kernel
theorem dX0_become_107 : decode cX0_become 107 = .ok (.lload 5, 2) := by decide +kernel
theorem dX0_become_109 : decode cX0_become 109 = .ok (.ldiv, 1) := by decide +kernel
theorem dX0_become_110 : decode cX0_become 110 = .ok (.putfield 13, 3) := by decide +kernel
theorem dX0_become_113 : decode cX0_become 113 = .ok (.return_, 1) := by decide +kernel
theorem dX1_init_0 : decode cX1_init 0 = .ok (.aload_n 0, 1) := by decide +kernel
theorem dX1_init_1 : decode cX1_init 1 = .ok (.invokespecial 3, 3) := by decide +kernel
theorem dX1_init_4 : decode cX1_init 4 = .ok (.aload_n 0, 1) := by decide +kernel
theorem dX1_init_5 : decode cX1_init 5 = .ok (.bipush 8, 2) := by decide +kernel
theorem dX1_init_7 : decode cX1_init 7 = .ok (.newarray .int, 2) := by decide +kernel
theorem dX1_init_9 : decode cX1_init 9 = .ok (.putfield 9, 3) := by decide +kernel
theorem dX1_init_12 : decode cX1_init 12 = .ok (.aload_n 0, 1) := by decide +kernel
theorem dX1_init_13 : decode cX1_init 13 = .ok (.aload_n 1, 1) := by decide +kernel
theorem dX1_init_14 : decode cX1_init 14 = .ok (.putfield 15, 3) := by decide +kernel
theorem dX1_init_17 : decode cX1_init 17 = .ok (.aload_n 0, 1) := by decide +kernel
theorem dX1_init_18 : decode cX1_init 18 = .ok (.aload_n 2, 1) := by decide +kernel
theorem dX1_init_19 : decode cX1_init 19 = .ok (.putfield 19, 3) := by decide +kernel
theorem dX1_init_22 : decode cX1_init 22 = .ok (.return_, 1) := by decide +kernel
theorem dX1_comesOut_0 : decode cX1_comesOut 0 = .ok (.iconst 0, 1) := by decide +kernel
theorem dX1_comesOut_1 : decode cX1_comesOut 1 = .ok (.istore_n 1, 1) := by decide +kernel
theorem dX1_comesOut_2 : decode cX1_comesOut 2 = .ok (.iload_n 1, 1) := by decide +kernel
theorem dX1_comesOut_3 : decode cX1_comesOut 3 = .ok (.aload_n 0, 1) := by decide +kernel
theorem dX1_comesOut_4 : decode cX1_comesOut 4 = .ok (.getfield 19, 3) := by decide +kernel
theorem dX1_comesOut_7 : decode cX1_comesOut 7 = .ok (.getfield 23, 3) := by decide +kernel
theorem dX1_comesOut_10 : decode cX1_comesOut 10 = .ok (.if_icmp .ge 49, 3) := by decide +kernel
theorem dX1_comesOut_13 : decode cX1_comesOut 13 = .ok (.aload_n 0, 1) := by decide +kernel
theorem dX1_comesOut_14 : decode cX1_comesOut 14 = .ok (.getfield 15, 3) := by decide +kernel
theorem dX1_comesOut_17 : decode cX1_comesOut 17 = .ok (.aload_n 0, 1) := by decide +kernel
theorem dX1_comesOut_18 : decode cX1_comesOut 18 = .ok (.getfield 19, 3) := by decide +kernel
theorem dX1_comesOut_21 : decode cX1_comesOut 21 = .ok (.getfield 29, 3) := by decide +kernel
theorem dX1_comesOut_24 : decode cX1_comesOut 24 = .ok (.iload_n 1, 1) := by decide +kernel
theorem dX1_comesOut_25 : decode cX1_comesOut 25 = .ok (.iaload, 1) := by decide +kernel
theorem dX1_comesOut_26 : decode cX1_comesOut 26 = .ok (.aload_n 0, 1) := by decide +kernel
theorem dX1_comesOut_27 : decode cX1_comesOut 27 = .ok (.getfield 19, 3) := by decide +kernel
theorem dX1_comesOut_30 : decode cX1_comesOut 30 = .ok (.getfield 32, 3) := by decide +kernel
theorem dX1_comesOut_33 : decode cX1_comesOut 33 = .ok (.iload_n 1, 1) := by decide +kernel
theorem dX1_comesOut_34 : decode cX1_comesOut 34 = .ok (.iaload, 1) := by decide +kernel
theorem dX1_comesOut_35 : decode cX1_comesOut 35 = .ok (.iconst 0, 1) := by decide +kernel
theorem dX1_comesOut_36 : decode cX1_comesOut 36 = .ok (.invokevirtual 35, 3) := by decide +kernel
theorem dX1_comesOut_39 : decode cX1_comesOut 39 = .ok (.aload_n 0, 1) := by decide +kernel
theorem dX1_comesOut_40 : decode cX1_comesOut 40 = .ok (.getfield 19, 3) := by decide +kernel
theorem dX1_comesOut_43 : decode cX1_comesOut 43 = .ok (.getfield 41, 3) := by decide +kernel
theorem dX1_comesOut_46 : decode cX1_comesOut 46 = .ok (.iload_n 1, 1) := by decide +kernel
theorem dX1_comesOut_47 : decode cX1_comesOut 47 = .ok (.iaload, 1) := by decide +kernel
theorem dX1_comesOut_48 : decode cX1_comesOut 48 = .ok (.if_icmp .eq 5, 3) := by decide +kernel
theorem dX1_comesOut_51 : decode cX1_comesOut 51 = .ok (.iconst 0, 1) := by decide +kernel
theorem dX1_comesOut_52 : decode cX1_comesOut 52 = .ok (.ireturn, 1) := by decide +kernel
theorem dX1_comesOut_53 : decode cX1_comesOut 53 = .ok (.iinc 1 1, 3) := by decide +kernel
theorem dX1_comesOut_56 : decode cX1_comesOut 56 = .ok (.goto (-54), 3) := by decide +kernel
theorem dX1_comesOut_59 : decode cX1_comesOut 59 = .ok (.iconst 1, 1) := by decide +kernel
theorem dX1_comesOut_60 : decode cX1_comesOut 60 = .ok (.ireturn, 1) := by decide +kernel
theorem dX1_hoursOf_0 : decode cX1_hoursOf 0 = .ok (.iconst 0, 1) := by decide +kernel
theorem dX1_hoursOf_1 : decode cX1_hoursOf 1 = .ok (.istore_n 3, 1) := by decide +kernel
theorem dX1_hoursOf_2 : decode cX1_hoursOf 2 = .ok (.iconst 0, 1) := by decide +kernel
theorem dX1_hoursOf_3 : decode cX1_hoursOf 3 = .ok (.istore 4, 2) := by decide +kernel
theorem dX1_hoursOf_5 : decode cX1_hoursOf 5 = .ok (.iload 4, 2) := by decide +kernel
theorem dX1_hoursOf_7 : decode cX1_hoursOf 7 = .ok (.bipush 24, 2) := by decide +kernel
theorem dX1_hoursOf_9 : decode cX1_hoursOf 9 = .ok (.if_icmp .ge 47, 3) := by decide +kernel
theorem dX1_hoursOf_12 : decode cX1_hoursOf 12 = .ok (.aload_n 0, 1) := by decide +kernel
theorem dX1_hoursOf_13 : decode cX1_hoursOf 13 = .ok (.getfield 15, 3) := by decide +kernel
theorem dX1_hoursOf_16 : decode cX1_hoursOf 16 = .ok (.getfield 44, 3) := by decide +kernel
theorem dX1_hoursOf_19 : decode cX1_hoursOf 19 = .ok (.iload 4, 2) := by decide +kernel
theorem dX1_hoursOf_21 : decode cX1_hoursOf 21 = .ok (.iload_n 2, 1) := by decide +kernel
theorem dX1_hoursOf_22 : decode cX1_hoursOf 22 = .ok (.iload_n 1, 1) := by decide +kernel
theorem dX1_hoursOf_23 : decode cX1_hoursOf 23 = .ok (.invokevirtual 47, 3) := by decide +kernel
theorem dX1_hoursOf_26 : decode cX1_hoursOf 26 = .ok (.aload_n 0, 1) := by decide +kernel
theorem dX1_hoursOf_27 : decode cX1_hoursOf 27 = .ok (.invokevirtual 51, 3) := by decide +kernel
theorem dX1_hoursOf_30 : decode cX1_hoursOf 30 = .ok (.ifCond .eq 10, 3) := by decide +kernel
theorem dX1_hoursOf_33 : decode cX1_hoursOf 33 = .ok (.iload_n 3, 1) := by decide +kernel
theorem dX1_hoursOf_34 : decode cX1_hoursOf 34 = .ok (.iconst 1, 1) := by decide +kernel
theorem dX1_hoursOf_35 : decode cX1_hoursOf 35 = .ok (.iload 4, 2) := by decide +kernel
theorem dX1_hoursOf_37 : decode cX1_hoursOf 37 = .ok (.ishl, 1) := by decide +kernel
theorem dX1_hoursOf_38 : decode cX1_hoursOf 38 = .ok (.ior, 1) := by decide +kernel
theorem dX1_hoursOf_39 : decode cX1_hoursOf 39 = .ok (.istore_n 3, 1) := by decide +kernel
theorem dX1_hoursOf_40 : decode cX1_hoursOf 40 = .ok (.aload_n 0, 1) := by decide +kernel
theorem dX1_hoursOf_41 : decode cX1_hoursOf 41 = .ok (.getfield 15, 3) := by decide +kernel
theorem dX1_hoursOf_44 : decode cX1_hoursOf 44 = .ok (.getfield 44, 3) := by decide +kernel
theorem dX1_hoursOf_47 : decode cX1_hoursOf 47 = .ok (.invokevirtual 55, 3) := by decide +kernel
theorem dX1_hoursOf_50 : decode cX1_hoursOf 50 = .ok (.iinc 4 1, 3) := by decide +kernel
theorem dX1_hoursOf_53 : decode cX1_hoursOf 53 = .ok (.goto (-48), 3) := by decide +kernel
theorem dX1_hoursOf_56 : decode cX1_hoursOf 56 = .ok (.iload_n 3, 1) := by decide +kernel
theorem dX1_hoursOf_57 : decode cX1_hoursOf 57 = .ok (.ireturn, 1) := by decide +kernel
theorem dX1_sittersOf_0 : decode cX1_sittersOf 0 = .ok (.iload_n 1, 1) := by decide +kernel
theorem dX1_sittersOf_1 : decode cX1_sittersOf 1 = .ok (.ifCond .lt 17, 3) := by decide +kernel
theorem dX1_sittersOf_4 : decode cX1_sittersOf 4 = .ok (.iload_n 1, 1) := by decide +kernel
theorem dX1_sittersOf_5 : decode cX1_sittersOf 5 = .ok (.aload_n 0, 1) := by decide +kernel
theorem dX1_sittersOf_6 : decode cX1_sittersOf 6 = .ok (.getfield 15, 3) := by decide +kernel
theorem dX1_sittersOf_9 : decode cX1_sittersOf 9 = .ok (.getfield 44, 3) := by decide +kernel
theorem dX1_sittersOf_12 : decode cX1_sittersOf 12 = .ok (.getfield 23, 3) := by decide +kernel
theorem dX1_sittersOf_15 : decode cX1_sittersOf 15 = .ok (.if_icmp .lt 5, 3) := by decide +kernel
theorem dX1_sittersOf_18 : decode cX1_sittersOf 18 = .ok (.iconst 0, 1) := by decide +kernel
theorem dX1_sittersOf_19 : decode cX1_sittersOf 19 = .ok (.ireturn, 1) := by decide +kernel
theorem dX1_sittersOf_20 : decode cX1_sittersOf 20 = .ok (.aload_n 0, 1) := by decide +kernel
theorem dX1_sittersOf_21 : decode cX1_sittersOf 21 = .ok (.getfield 15, 3) := by decide +kernel
theorem dX1_sittersOf_24 : decode cX1_sittersOf 24 = .ok (.getfield 44, 3) := by decide +kernel
theorem dX1_sittersOf_27 : decode cX1_sittersOf 27 = .ok (.getfield 41, 3) := by decide +kernel
theorem dX1_sittersOf_30 : decode cX1_sittersOf 30 = .ok (.iload_n 1, 1) := by decide +kernel
theorem dX1_sittersOf_31 : decode cX1_sittersOf 31 = .ok (.iaload, 1) := by decide +kernel
theorem dX1_sittersOf_32 : decode cX1_sittersOf 32 = .ok (.istore_n 2, 1) := by decide +kernel
theorem dX1_sittersOf_33 : decode cX1_sittersOf 33 = .ok (.iconst 0, 1) := by decide +kernel
theorem dX1_sittersOf_34 : decode cX1_sittersOf 34 = .ok (.istore_n 3, 1) := by decide +kernel
theorem dX1_sittersOf_35 : decode cX1_sittersOf 35 = .ok (.iconst 0, 1) := by decide +kernel
theorem dX1_sittersOf_36 : decode cX1_sittersOf 36 = .ok (.istore 4, 2) := by decide +kernel
theorem dX1_sittersOf_38 : decode cX1_sittersOf 38 = .ok (.iload 4, 2) := by decide +kernel
theorem dX1_sittersOf_40 : decode cX1_sittersOf 40 = .ok (.aload_n 0, 1) := by decide +kernel
theorem dX1_sittersOf_41 : decode cX1_sittersOf 41 = .ok (.getfield 15, 3) := by decide +kernel
theorem dX1_sittersOf_44 : decode cX1_sittersOf 44 = .ok (.getfield 58, 3) := by decide +kernel
theorem dX1_sittersOf_47 : decode cX1_sittersOf 47 = .ok (.getfield 62, 3) := by decide +kernel
theorem dX1_sittersOf_50 : decode cX1_sittersOf 50 = .ok (.if_icmp .ge 37, 3) := by decide +kernel
theorem dX1_sittersOf_53 : decode cX1_sittersOf 53 = .ok (.aload_n 0, 1) := by decide +kernel
theorem dX1_sittersOf_54 : decode cX1_sittersOf 54 = .ok (.getfield 15, 3) := by decide +kernel
theorem dX1_sittersOf_57 : decode cX1_sittersOf 57 = .ok (.getfield 44, 3) := by decide +kernel
theorem dX1_sittersOf_60 : decode cX1_sittersOf 60 = .ok (.getfield 41, 3) := by decide +kernel
theorem dX1_sittersOf_63 : decode cX1_sittersOf 63 = .ok (.iload_n 1, 1) := by decide +kernel
theorem dX1_sittersOf_64 : decode cX1_sittersOf 64 = .ok (.iload 4, 2) := by decide +kernel
theorem dX1_sittersOf_66 : decode cX1_sittersOf 66 = .ok (.iastore, 1) := by decide +kernel
theorem dX1_sittersOf_67 : decode cX1_sittersOf 67 = .ok (.aload_n 0, 1) := by decide +kernel
theorem dX1_sittersOf_68 : decode cX1_sittersOf 68 = .ok (.invokevirtual 51, 3) := by decide +kernel
theorem dX1_sittersOf_71 : decode cX1_sittersOf 71 = .ok (.ifCond .eq 10, 3) := by decide +kernel
theorem dX1_sittersOf_74 : decode cX1_sittersOf 74 = .ok (.iload_n 3, 1) := by decide +kernel
theorem dX1_sittersOf_75 : decode cX1_sittersOf 75 = .ok (.iconst 1, 1) := by decide +kernel
theorem dX1_sittersOf_76 : decode cX1_sittersOf 76 = .ok (.iload 4, 2) := by decide +kernel
theorem dX1_sittersOf_78 : decode cX1_sittersOf 78 = .ok (.ishl, 1) := by decide +kernel
theorem dX1_sittersOf_79 : decode cX1_sittersOf 79 = .ok (.ior, 1) := by decide +kernel
theorem dX1_sittersOf_80 : decode cX1_sittersOf 80 = .ok (.istore_n 3, 1) := by decide +kernel
theorem dX1_sittersOf_81 : decode cX1_sittersOf 81 = .ok (.iinc 4 1, 3) := by decide +kernel
theorem dX1_sittersOf_84 : decode cX1_sittersOf 84 = .ok (.goto (-46), 3) := by decide +kernel
theorem dX1_sittersOf_87 : decode cX1_sittersOf 87 = .ok (.aload_n 0, 1) := by decide +kernel
theorem dX1_sittersOf_88 : decode cX1_sittersOf 88 = .ok (.getfield 15, 3) := by decide +kernel
theorem dX1_sittersOf_91 : decode cX1_sittersOf 91 = .ok (.getfield 44, 3) := by decide +kernel
theorem dX1_sittersOf_94 : decode cX1_sittersOf 94 = .ok (.getfield 41, 3) := by decide +kernel
theorem dX1_sittersOf_97 : decode cX1_sittersOf 97 = .ok (.iload_n 1, 1) := by decide +kernel
theorem dX1_sittersOf_98 : decode cX1_sittersOf 98 = .ok (.iload_n 2, 1) := by decide +kernel
theorem dX1_sittersOf_99 : decode cX1_sittersOf 99 = .ok (.iastore, 1) := by decide +kernel
theorem dX1_sittersOf_100 : decode cX1_sittersOf 100 = .ok (.iload_n 3, 1) := by decide +kernel
theorem dX1_sittersOf_101 : decode cX1_sittersOf 101 = .ok (.ireturn, 1) := by decide +kernel
theorem dX1_tellingThing_0 : decode cX1_tellingThing 0 = .ok (.aload_n 0, 1) := by decide +kernel
theorem dX1_tellingThing_1 : decode cX1_tellingThing 1 = .ok (.iload_n 1, 1) := by decide +kernel
theorem dX1_tellingThing_2 : decode cX1_tellingThing 2 = .ok (.invokevirtual 67, 3) := by decide +kernel
theorem dX1_tellingThing_5 : decode cX1_tellingThing 5 = .ok (.istore_n 3, 1) := by decide +kernel
theorem dX1_tellingThing_6 : decode cX1_tellingThing 6 = .ok (.iconst (-1), 1) := by decide +kernel
theorem dX1_tellingThing_7 : decode cX1_tellingThing 7 = .ok (.istore 4, 2) := by decide +kernel
theorem dX1_tellingThing_9 : decode cX1_tellingThing 9 = .ok (.bipush 9, 2) := by decide +kernel
theorem dX1_tellingThing_11 : decode cX1_tellingThing 11 = .ok (.istore 5, 2) := by decide +kernel
theorem dX1_tellingThing_13 : decode cX1_tellingThing 13 = .ok (.iconst 0, 1) := by decide +kernel
theorem dX1_tellingThing_14 : decode cX1_tellingThing 14 = .ok (.istore 6, 2) := by decide +kernel
theorem dX1_tellingThing_16 : decode cX1_tellingThing 16 = .ok (.iload 6, 2) := by decide +kernel
theorem dX1_tellingThing_18 : decode cX1_tellingThing 18 = .ok (.aload_n 0, 1) := by decide +kernel
theorem dX1_tellingThing_19 : decode cX1_tellingThing 19 = .ok (.getfield 15, 3) := by decide +kernel
theorem dX1_tellingThing_22 : decode cX1_tellingThing 22 = .ok (.getfield 71, 3) := by decide +kernel
theorem dX1_tellingThing_25 : decode cX1_tellingThing 25 = .ok (.getfield 62, 3) := by decide +kernel
theorem dX1_tellingThing_28 : decode cX1_tellingThing 28 = .ok (.if_icmp .ge 35, 3) := by decide +kernel
theorem dX1_tellingThing_31 : decode cX1_tellingThing 31 = .ok (.aload_n 0, 1) := by decide +kernel
theorem dX1_tellingThing_32 : decode cX1_tellingThing 32 = .ok (.iload 6, 2) := by decide +kernel
theorem dX1_tellingThing_34 : decode cX1_tellingThing 34 = .ok (.iload_n 1, 1) := by decide +kernel
theorem dX1_tellingThing_35 : decode cX1_tellingThing 35 = .ok (.iload_n 2, 1) := by decide +kernel
theorem dX1_tellingThing_36 : decode cX1_tellingThing 36 = .ok (.iload_n 3, 1) := by decide +kernel
theorem dX1_tellingThing_37 : decode cX1_tellingThing 37 = .ok (.invokevirtual 73, 3) := by decide +kernel
theorem dX1_tellingThing_40 : decode cX1_tellingThing 40 = .ok (.istore 7, 2) := by decide +kernel
theorem dX1_tellingThing_42 : decode cX1_tellingThing 42 = .ok (.iload 7, 2) := by decide +kernel
theorem dX1_tellingThing_44 : decode cX1_tellingThing 44 = .ok (.iload 5, 2) := by decide +kernel
theorem dX1_tellingThing_46 : decode cX1_tellingThing 46 = .ok (.if_icmp .ge 11, 3) := by decide +kernel
theorem dX1_tellingThing_49 : decode cX1_tellingThing 49 = .ok (.iload 7, 2) := by decide +kernel
theorem dX1_tellingThing_51 : decode cX1_tellingThing 51 = .ok (.istore 5, 2) := by decide +kernel
theorem dX1_tellingThing_53 : decode cX1_tellingThing 53 = .ok (.iload 6, 2) := by decide +kernel
theorem dX1_tellingThing_55 : decode cX1_tellingThing 55 = .ok (.istore 4, 2) := by decide +kernel
theorem dX1_tellingThing_57 : decode cX1_tellingThing 57 = .ok (.iinc 6 1, 3) := by decide +kernel
theorem dX1_tellingThing_60 : decode cX1_tellingThing 60 = .ok (.goto (-44), 3) := by decide +kernel
theorem dX1_tellingThing_63 : decode cX1_tellingThing 63 = .ok (.iload 4, 2) := by decide +kernel
theorem dX1_tellingThing_65 : decode cX1_tellingThing 65 = .ok (.ireturn, 1) := by decide +kernel
theorem dX1_mostAlike_0 : decode cX1_mostAlike 0 = .ok (.iload_n 2, 1) := by decide +kernel
theorem dX1_mostAlike_1 : decode cX1_mostAlike 1 = .ok (.ifCond .lt 17, 3) := by decide +kernel
theorem dX1_mostAlike_4 : decode cX1_mostAlike 4 = .ok (.iload_n 2, 1) := by decide +kernel
theorem dX1_mostAlike_5 : decode cX1_mostAlike 5 = .ok (.aload_n 0, 1) := by decide +kernel
theorem dX1_mostAlike_6 : decode cX1_mostAlike 6 = .ok (.getfield 15, 3) := by decide +kernel
theorem dX1_mostAlike_9 : decode cX1_mostAlike 9 = .ok (.getfield 44, 3) := by decide +kernel
theorem dX1_mostAlike_12 : decode cX1_mostAlike 12 = .ok (.getfield 23, 3) := by decide +kernel
theorem dX1_mostAlike_15 : decode cX1_mostAlike 15 = .ok (.if_icmp .lt 5, 3) := by decide +kernel
theorem dX1_mostAlike_18 : decode cX1_mostAlike 18 = .ok (.iconst 0, 1) := by decide +kernel
theorem dX1_mostAlike_19 : decode cX1_mostAlike 19 = .ok (.ireturn, 1) := by decide +kernel
theorem dX1_mostAlike_20 : decode cX1_mostAlike 20 = .ok (.aload_n 0, 1) := by decide +kernel
theorem dX1_mostAlike_21 : decode cX1_mostAlike 21 = .ok (.getfield 15, 3) := by decide +kernel
theorem dX1_mostAlike_24 : decode cX1_mostAlike 24 = .ok (.getfield 44, 3) := by decide +kernel
theorem dX1_mostAlike_27 : decode cX1_mostAlike 27 = .ok (.getfield 41, 3) := by decide +kernel
theorem dX1_mostAlike_30 : decode cX1_mostAlike 30 = .ok (.iload_n 2, 1) := by decide +kernel
theorem dX1_mostAlike_31 : decode cX1_mostAlike 31 = .ok (.iaload, 1) := by decide +kernel
theorem dX1_mostAlike_32 : decode cX1_mostAlike 32 = .ok (.istore 5, 2) := by decide +kernel
theorem dX1_mostAlike_34 : decode cX1_mostAlike 34 = .ok (.iconst 0, 1) := by decide +kernel
theorem dX1_mostAlike_35 : decode cX1_mostAlike 35 = .ok (.istore 6, 2) := by decide +kernel
theorem dX1_mostAlike_37 : decode cX1_mostAlike 37 = .ok (.iconst 0, 1) := by decide +kernel
theorem dX1_mostAlike_38 : decode cX1_mostAlike 38 = .ok (.istore 7, 2) := by decide +kernel
theorem dX1_mostAlike_40 : decode cX1_mostAlike 40 = .ok (.iload 7, 2) := by decide +kernel
theorem dX1_mostAlike_42 : decode cX1_mostAlike 42 = .ok (.aload_n 0, 1) := by decide +kernel
theorem dX1_mostAlike_43 : decode cX1_mostAlike 43 = .ok (.getfield 9, 3) := by decide +kernel
theorem dX1_mostAlike_46 : decode cX1_mostAlike 46 = .ok (.arraylength, 1) := by decide +kernel
theorem dX1_mostAlike_47 : decode cX1_mostAlike 47 = .ok (.if_icmp .ge 111, 3) := by decide +kernel
theorem dX1_mostAlike_50 : decode cX1_mostAlike 50 = .ok (.iload 4, 2) := by decide +kernel
theorem dX1_mostAlike_52 : decode cX1_mostAlike 52 = .ok (.iload 7, 2) := by decide +kernel
theorem dX1_mostAlike_54 : decode cX1_mostAlike 54 = .ok (.invokestatic 77, 3) := by decide +kernel
theorem dX1_mostAlike_57 : decode cX1_mostAlike 57 = .ok (.ifCond .ne 6, 3) := by decide +kernel
theorem dX1_mostAlike_60 : decode cX1_mostAlike 60 = .ok (.goto 92, 3) := by decide +kernel
theorem dX1_mostAlike_63 : decode cX1_mostAlike 63 = .ok (.aload_n 0, 1) := by decide +kernel
theorem dX1_mostAlike_64 : decode cX1_mostAlike 64 = .ok (.getfield 15, 3) := by decide +kernel
theorem dX1_mostAlike_67 : decode cX1_mostAlike 67 = .ok (.getfield 44, 3) := by decide +kernel
theorem dX1_mostAlike_70 : decode cX1_mostAlike 70 = .ok (.getfield 41, 3) := by decide +kernel
theorem dX1_mostAlike_73 : decode cX1_mostAlike 73 = .ok (.iload_n 2, 1) := by decide +kernel
theorem dX1_mostAlike_74 : decode cX1_mostAlike 74 = .ok (.iload 7, 2) := by decide +kernel
theorem dX1_mostAlike_76 : decode cX1_mostAlike 76 = .ok (.iastore, 1) := by decide +kernel
theorem dX1_mostAlike_77 : decode cX1_mostAlike 77 = .ok (.aload_n 0, 1) := by decide +kernel
theorem dX1_mostAlike_78 : decode cX1_mostAlike 78 = .ok (.getfield 9, 3) := by decide +kernel
theorem dX1_mostAlike_81 : decode cX1_mostAlike 81 = .ok (.iload 7, 2) := by decide +kernel
theorem dX1_mostAlike_83 : decode cX1_mostAlike 83 = .ok (.aload_n 0, 1) := by decide +kernel
theorem dX1_mostAlike_84 : decode cX1_mostAlike 84 = .ok (.getfield 15, 3) := by decide +kernel
theorem dX1_mostAlike_87 : decode cX1_mostAlike 87 = .ok (.iload_n 1, 1) := by decide +kernel
theorem dX1_mostAlike_88 : decode cX1_mostAlike 88 = .ok (.iload_n 3, 1) := by decide +kernel
theorem dX1_mostAlike_89 : decode cX1_mostAlike 89 = .ok (.iconst 0, 1) := by decide +kernel
theorem dX1_mostAlike_90 : decode cX1_mostAlike 90 = .ok (.invokevirtual 35, 3) := by decide +kernel
theorem dX1_mostAlike_93 : decode cX1_mostAlike 93 = .ok (.iastore, 1) := by decide +kernel
theorem dX1_mostAlike_94 : decode cX1_mostAlike 94 = .ok (.iconst 0, 1) := by decide +kernel
theorem dX1_mostAlike_95 : decode cX1_mostAlike 95 = .ok (.istore 8, 2) := by decide +kernel
theorem dX1_mostAlike_97 : decode cX1_mostAlike 97 = .ok (.iconst 0, 1) := by decide +kernel
theorem dX1_mostAlike_98 : decode cX1_mostAlike 98 = .ok (.istore 9, 2) := by decide +kernel
theorem dX1_mostAlike_100 : decode cX1_mostAlike 100 = .ok (.iload 9, 2) := by decide +kernel
theorem dX1_mostAlike_102 : decode cX1_mostAlike 102 = .ok (.iload 7, 2) := by decide +kernel
theorem dX1_mostAlike_104 : decode cX1_mostAlike 104 = .ok (.if_icmp .gt 39, 3) := by decide +kernel
theorem dX1_mostAlike_107 : decode cX1_mostAlike 107 = .ok (.iload 4, 2) := by decide +kernel
theorem dX1_mostAlike_109 : decode cX1_mostAlike 109 = .ok (.iload 9, 2) := by decide +kernel
theorem dX1_mostAlike_111 : decode cX1_mostAlike 111 = .ok (.invokestatic 77, 3) := by decide +kernel
theorem dX1_mostAlike_114 : decode cX1_mostAlike 114 = .ok (.ifCond .eq 23, 3) := by decide +kernel
theorem dX1_mostAlike_117 : decode cX1_mostAlike 117 = .ok (.aload_n 0, 1) := by decide +kernel
theorem dX1_mostAlike_118 : decode cX1_mostAlike 118 = .ok (.getfield 9, 3) := by decide +kernel
theorem dX1_mostAlike_121 : decode cX1_mostAlike 121 = .ok (.iload 9, 2) := by decide +kernel
theorem dX1_mostAlike_123 : decode cX1_mostAlike 123 = .ok (.iaload, 1) := by decide +kernel
theorem dX1_mostAlike_124 : decode cX1_mostAlike 124 = .ok (.aload_n 0, 1) := by decide +kernel
theorem dX1_mostAlike_125 : decode cX1_mostAlike 125 = .ok (.getfield 9, 3) := by decide +kernel
theorem dX1_mostAlike_128 : decode cX1_mostAlike 128 = .ok (.iload 7, 2) := by decide +kernel
theorem dX1_mostAlike_130 : decode cX1_mostAlike 130 = .ok (.iaload, 1) := by decide +kernel
theorem dX1_mostAlike_131 : decode cX1_mostAlike 131 = .ok (.if_icmp .ne 6, 3) := by decide +kernel
theorem dX1_mostAlike_134 : decode cX1_mostAlike 134 = .ok (.iinc 8 1, 3) := by decide +kernel
theorem dX1_mostAlike_137 : decode cX1_mostAlike 137 = .ok (.iinc 9 1, 3) := by decide +kernel
theorem dX1_mostAlike_140 : decode cX1_mostAlike 140 = .ok (.goto (-40), 3) := by decide +kernel
theorem dX1_mostAlike_143 : decode cX1_mostAlike 143 = .ok (.iload 6, 2) := by decide +kernel
theorem dX1_mostAlike_145 : decode cX1_mostAlike 145 = .ok (.iload 8, 2) := by decide +kernel
theorem dX1_mostAlike_147 : decode cX1_mostAlike 147 = .ok (.invokestatic 81, 3) := by decide +kernel
theorem dX1_mostAlike_150 : decode cX1_mostAlike 150 = .ok (.istore 6, 2) := by decide +kernel
theorem dX1_mostAlike_152 : decode cX1_mostAlike 152 = .ok (.iinc 7 1, 3) := by decide +kernel
theorem dX1_mostAlike_155 : decode cX1_mostAlike 155 = .ok (.goto (-115), 3) := by decide +kernel
theorem dX1_mostAlike_158 : decode cX1_mostAlike 158 = .ok (.aload_n 0, 1) := by decide +kernel
theorem dX1_mostAlike_159 : decode cX1_mostAlike 159 = .ok (.getfield 15, 3) := by decide +kernel
theorem dX1_mostAlike_162 : decode cX1_mostAlike 162 = .ok (.getfield 44, 3) := by decide +kernel
theorem dX1_mostAlike_165 : decode cX1_mostAlike 165 = .ok (.getfield 41, 3) := by decide +kernel
theorem dX1_mostAlike_168 : decode cX1_mostAlike 168 = .ok (.iload_n 2, 1) := by decide +kernel
theorem dX1_mostAlike_169 : decode cX1_mostAlike 169 = .ok (.iload 5, 2) := by decide +kernel
theorem dX1_mostAlike_171 : decode cX1_mostAlike 171 = .ok (.iastore, 1) := by decide +kernel
theorem dX1_mostAlike_172 : decode cX1_mostAlike 172 = .ok (.iload 6, 2) := by decide +kernel
theorem dX1_mostAlike_174 : decode cX1_mostAlike 174 = .ok (.ireturn, 1) := by decide +kernel
theorem dX2_init_0 : decode cX2_init 0 = .ok (.aload_n 0, 1) := by decide +kernel
theorem dX2_init_1 : decode cX2_init 1 = .ok (.invokespecial 3, 3) := by decide +kernel
theorem dX2_init_4 : decode cX2_init 4 = .ok (.aload_n 0, 1) := by decide +kernel
theorem dX2_init_5 : decode cX2_init 5 = .ok (.new 9, 3) := by decide +kernel
theorem dX2_init_8 : decode cX2_init 8 = .ok (.dup, 1) := by decide +kernel
theorem dX2_init_9 : decode cX2_init 9 = .ok (.iconst 0, 1) := by decide +kernel
theorem dX2_init_10 : decode cX2_init 10 = .ok (.invokespecial 11, 3) := by decide +kernel
theorem dX2_init_13 : decode cX2_init 13 = .ok (.putfield 14, 3) := by decide +kernel
theorem dX2_init_16 : decode cX2_init 16 = .ok (.aload_n 0, 1) := by decide +kernel
theorem dX2_init_17 : decode cX2_init 17 = .ok (.new 9, 3) := by decide +kernel
theorem dX2_init_20 : decode cX2_init 20 = .ok (.dup, 1) := by decide +kernel
theorem dX2_init_21 : decode cX2_init 21 = .ok (.iconst 1, 1) := by decide +kernel
theorem dX2_init_22 : decode cX2_init 22 = .ok (.invokespecial 11, 3) := by decide +kernel
theorem dX2_init_25 : decode cX2_init 25 = .ok (.putfield 20, 3) := by decide +kernel
theorem dX2_init_28 : decode cX2_init 28 = .ok (.aload_n 0, 1) := by decide +kernel
theorem dX2_init_29 : decode cX2_init 29 = .ok (.new 23, 3) := by decide +kernel
theorem dX2_init_32 : decode cX2_init 32 = .ok (.dup, 1) := by decide +kernel
theorem dX2_init_33 : decode cX2_init 33 = .ok (.bipush 20, 2) := by decide +kernel
theorem dX2_init_35 : decode cX2_init 35 = .ok (.bipush 24, 2) := by decide +kernel
theorem dX2_init_37 : decode cX2_init 37 = .ok (.invokespecial 25, 3) := by decide +kernel
theorem dX2_init_40 : decode cX2_init 40 = .ok (.putfield 28, 3) := by decide +kernel
theorem dX2_init_43 : decode cX2_init 43 = .ok (.aload_n 0, 1) := by decide +kernel
theorem dX2_init_44 : decode cX2_init 44 = .ok (.new 23, 3) := by decide +kernel
theorem dX2_init_47 : decode cX2_init 47 = .ok (.dup, 1) := by decide +kernel
theorem dX2_init_48 : decode cX2_init 48 = .ok (.bipush 8, 2) := by decide +kernel
theorem dX2_init_50 : decode cX2_init 50 = .ok (.iconst 3, 1) := by decide +kernel
theorem dX2_init_51 : decode cX2_init 51 = .ok (.invokespecial 25, 3) := by decide +kernel
theorem dX2_init_54 : decode cX2_init 54 = .ok (.putfield 32, 3) := by decide +kernel
theorem dX2_init_57 : decode cX2_init 57 = .ok (.aload_n 0, 1) := by decide +kernel
theorem dX2_init_58 : decode cX2_init 58 = .ok (.new 35, 3) := by decide +kernel
theorem dX2_init_61 : decode cX2_init 61 = .ok (.dup, 1) := by decide +kernel
theorem dX2_init_62 : decode cX2_init 62 = .ok (.invokespecial 37, 3) := by decide +kernel
theorem dX2_init_65 : decode cX2_init 65 = .ok (.putfield 38, 3) := by decide +kernel
theorem dX2_init_68 : decode cX2_init 68 = .ok (.return_, 1) := by decide +kernel
theorem dX2_lacksThing_0 : decode cX2_lacksThing 0 = .ok (.iload_n 1, 1) := by decide +kernel
theorem dX2_lacksThing_1 : decode cX2_lacksThing 1 = .ok (.ifCond .lt 14, 3) := by decide +kernel
theorem dX2_lacksThing_4 : decode cX2_lacksThing 4 = .ok (.iload_n 1, 1) := by decide +kernel
theorem dX2_lacksThing_5 : decode cX2_lacksThing 5 = .ok (.aload_n 0, 1) := by decide +kernel
theorem dX2_lacksThing_6 : decode cX2_lacksThing 6 = .ok (.getfield 14, 3) := by decide +kernel
theorem dX2_lacksThing_9 : decode cX2_lacksThing 9 = .ok (.getfield 42, 3) := by decide +kernel
theorem dX2_lacksThing_12 : decode cX2_lacksThing 12 = .ok (.if_icmp .lt 7, 3) := by decide +kernel
theorem dX2_lacksThing_15 : decode cX2_lacksThing 15 = .ok (.iconst 1, 1) := by decide +kernel
theorem dX2_lacksThing_16 : decode cX2_lacksThing 16 = .ok (.goto 4, 3) := by decide +kernel
theorem dX2_lacksThing_19 : decode cX2_lacksThing 19 = .ok (.iconst 0, 1) := by decide +kernel
theorem dX2_lacksThing_20 : decode cX2_lacksThing 20 = .ok (.ireturn, 1) := by decide +kernel
theorem dX2_lacksPerson_0 : decode cX2_lacksPerson 0 = .ok (.iload_n 1, 1) := by decide +kernel
theorem dX2_lacksPerson_1 : decode cX2_lacksPerson 1 = .ok (.ifCond .lt 14, 3) := by decide +kernel
theorem dX2_lacksPerson_4 : decode cX2_lacksPerson 4 = .ok (.iload_n 1, 1) := by decide +kernel
theorem dX2_lacksPerson_5 : decode cX2_lacksPerson 5 = .ok (.aload_n 0, 1) := by decide +kernel
theorem dX2_lacksPerson_6 : decode cX2_lacksPerson 6 = .ok (.getfield 20, 3) := by decide +kernel
theorem dX2_lacksPerson_9 : decode cX2_lacksPerson 9 = .ok (.getfield 42, 3) := by decide +kernel
theorem dX2_lacksPerson_12 : decode cX2_lacksPerson 12 = .ok (.if_icmp .lt 7, 3) := by decide +kernel
theorem dX2_lacksPerson_15 : decode cX2_lacksPerson 15 = .ok (.iconst 1, 1) := by decide +kernel
theorem dX2_lacksPerson_16 : decode cX2_lacksPerson 16 = .ok (.goto 4, 3) := by decide +kernel
theorem dX2_lacksPerson_19 : decode cX2_lacksPerson 19 = .ok (.iconst 0, 1) := by decide +kernel
theorem dX2_lacksPerson_20 : decode cX2_lacksPerson 20 = .ok (.ireturn, 1) := by decide +kernel
theorem dX2_tellsBehind_0 : decode cX2_tellsBehind 0 = .ok (.aload_n 0, 1) := by decide +kernel
theorem dX2_tellsBehind_1 : decode cX2_tellsBehind 1 = .ok (.iload_n 1, 1) := by decide +kernel
theorem dX2_tellsBehind_2 : decode cX2_tellsBehind 2 = .ok (.invokevirtual 46, 3) := by decide +kernel
theorem dX2_tellsBehind_5 : decode cX2_tellsBehind 5 = .ok (.ifCond .eq 5, 3) := by decide +kernel
theorem dX2_tellsBehind_8 : decode cX2_tellsBehind 8 = .ok (.iconst 0, 1) := by decide +kernel
theorem dX2_tellsBehind_9 : decode cX2_tellsBehind 9 = .ok (.ireturn, 1) := by decide +kernel
theorem dX2_tellsBehind_10 : decode cX2_tellsBehind 10 = .ok (.aload_n 0, 1) := by decide +kernel
theorem dX2_tellsBehind_11 : decode cX2_tellsBehind 11 = .ok (.getfield 38, 3) := by decide +kernel
theorem dX2_tellsBehind_14 : decode cX2_tellsBehind 14 = .ok (.aload_n 0, 1) := by decide +kernel
theorem dX2_tellsBehind_15 : decode cX2_tellsBehind 15 = .ok (.getfield 14, 3) := by decide +kernel
theorem dX2_tellsBehind_18 : decode cX2_tellsBehind 18 = .ok (.getfield 50, 3) := by decide +kernel
theorem dX2_tellsBehind_21 : decode cX2_tellsBehind 21 = .ok (.iload_n 1, 1) := by decide +kernel
theorem dX2_tellsBehind_22 : decode cX2_tellsBehind 22 = .ok (.iaload, 1) := by decide +kernel
theorem dX2_tellsBehind_23 : decode cX2_tellsBehind 23 = .ok (.iconst 1, 1) := by decide +kernel
theorem dX2_tellsBehind_24 : decode cX2_tellsBehind 24 = .ok (.if_icmp .ne 7, 3) := by decide +kernel
theorem dX2_tellsBehind_27 : decode cX2_tellsBehind 27 = .ok (.iconst 1, 1) := by decide +kernel
theorem dX2_tellsBehind_28 : decode cX2_tellsBehind 28 = .ok (.goto 4, 3) := by decide +kernel
theorem dX2_tellsBehind_31 : decode cX2_tellsBehind 31 = .ok (.iconst 0, 1) := by decide +kernel
theorem dX2_tellsBehind_32 : decode cX2_tellsBehind 32 = .ok (.invokevirtual 54, 3) := by decide +kernel
theorem dX2_tellsBehind_35 : decode cX2_tellsBehind 35 = .ok (.iconst 0, 1) := by decide +kernel
theorem dX2_tellsBehind_36 : decode cX2_tellsBehind 36 = .ok (.istore 4, 2) := by decide +kernel
theorem dX2_tellsBehind_38 : decode cX2_tellsBehind 38 = .ok (.iconst 0, 1) := by decide +kernel
theorem dX2_tellsBehind_39 : decode cX2_tellsBehind 39 = .ok (.istore 5, 2) := by decide +kernel
theorem dX2_tellsBehind_41 : decode cX2_tellsBehind 41 = .ok (.iconst 0, 1) := by decide +kernel
theorem dX2_tellsBehind_42 : decode cX2_tellsBehind 42 = .ok (.istore 6, 2) := by decide +kernel
theorem dX2_tellsBehind_44 : decode cX2_tellsBehind 44 = .ok (.iload 6, 2) := by decide +kernel
theorem dX2_tellsBehind_46 : decode cX2_tellsBehind 46 = .ok (.iload_n 2, 1) := by decide +kernel
theorem dX2_tellsBehind_47 : decode cX2_tellsBehind 47 = .ok (.if_icmp .gt 240, 3) := by decide +kernel
theorem dX2_tellsBehind_50 : decode cX2_tellsBehind 50 = .ok (.aload_n 0, 1) := by decide +kernel
theorem dX2_tellsBehind_51 : decode cX2_tellsBehind 51 = .ok (.getfield 38, 3) := by decide +kernel
theorem dX2_tellsBehind_54 : decode cX2_tellsBehind 54 = .ok (.invokevirtual 57, 3) := by decide +kernel
theorem dX2_tellsBehind_57 : decode cX2_tellsBehind 57 = .ok (.iload 4, 2) := by decide +kernel
theorem dX2_tellsBehind_59 : decode cX2_tellsBehind 59 = .ok (.aload_n 0, 1) := by decide +kernel
theorem dX2_tellsBehind_60 : decode cX2_tellsBehind 60 = .ok (.getfield 28, 3) := by decide +kernel
theorem dX2_tellsBehind_63 : decode cX2_tellsBehind 63 = .ok (.getfield 60, 3) := by decide +kernel
theorem dX2_tellsBehind_66 : decode cX2_tellsBehind 66 = .ok (.if_icmp .ge 129, 3) := by decide +kernel
theorem dX2_tellsBehind_69 : decode cX2_tellsBehind 69 = .ok (.aload_n 0, 1) := by decide +kernel
theorem dX2_tellsBehind_70 : decode cX2_tellsBehind 70 = .ok (.getfield 28, 3) := by decide +kernel
theorem dX2_tellsBehind_73 : decode cX2_tellsBehind 73 = .ok (.getfield 63, 3) := by decide +kernel
theorem dX2_tellsBehind_76 : decode cX2_tellsBehind 76 = .ok (.aload_n 0, 1) := by decide +kernel
theorem dX2_tellsBehind_77 : decode cX2_tellsBehind 77 = .ok (.getfield 28, 3) := by decide +kernel
theorem dX2_tellsBehind_80 : decode cX2_tellsBehind 80 = .ok (.getfield 66, 3) := by decide +kernel
theorem dX2_tellsBehind_83 : decode cX2_tellsBehind 83 = .ok (.iload 4, 2) := by decide +kernel
theorem dX2_tellsBehind_85 : decode cX2_tellsBehind 85 = .ok (.iaload, 1) := by decide +kernel
theorem dX2_tellsBehind_86 : decode cX2_tellsBehind 86 = .ok (.iaload, 1) := by decide +kernel
theorem dX2_tellsBehind_87 : decode cX2_tellsBehind 87 = .ok (.iload 6, 2) := by decide +kernel
theorem dX2_tellsBehind_89 : decode cX2_tellsBehind 89 = .ok (.if_icmp .ne 106, 3) := by decide +kernel
theorem dX2_tellsBehind_92 : decode cX2_tellsBehind 92 = .ok (.aload_n 0, 1) := by decide +kernel
theorem dX2_tellsBehind_93 : decode cX2_tellsBehind 93 = .ok (.getfield 28, 3) := by decide +kernel
theorem dX2_tellsBehind_96 : decode cX2_tellsBehind 96 = .ok (.getfield 66, 3) := by decide +kernel
theorem dX2_tellsBehind_99 : decode cX2_tellsBehind 99 = .ok (.iload 4, 2) := by decide +kernel
theorem dX2_tellsBehind_101 : decode cX2_tellsBehind 101 = .ok (.iaload, 1) := by decide +kernel
theorem dX2_tellsBehind_102 : decode cX2_tellsBehind 102 = .ok (.istore 7, 2) := by decide +kernel
theorem dX2_tellsBehind_104 : decode cX2_tellsBehind 104 = .ok (.aload_n 0, 1) := by decide +kernel
theorem dX2_tellsBehind_105 : decode cX2_tellsBehind 105 = .ok (.getfield 28, 3) := by decide +kernel
theorem dX2_tellsBehind_108 : decode cX2_tellsBehind 108 = .ok (.getfield 69, 3) := by decide +kernel
theorem dX2_tellsBehind_111 : decode cX2_tellsBehind 111 = .ok (.iload 7, 2) := by decide +kernel
theorem dX2_tellsBehind_113 : decode cX2_tellsBehind 113 = .ok (.iaload, 1) := by decide +kernel
theorem dX2_tellsBehind_114 : decode cX2_tellsBehind 114 = .ok (.istore 8, 2) := by decide +kernel
theorem dX2_tellsBehind_116 : decode cX2_tellsBehind 116 = .ok (.aload_n 0, 1) := by decide +kernel
theorem dX2_tellsBehind_117 : decode cX2_tellsBehind 117 = .ok (.getfield 28, 3) := by decide +kernel
theorem dX2_tellsBehind_120 : decode cX2_tellsBehind 120 = .ok (.getfield 72, 3) := by decide +kernel
theorem dX2_tellsBehind_123 : decode cX2_tellsBehind 123 = .ok (.iload 7, 2) := by decide +kernel
theorem dX2_tellsBehind_125 : decode cX2_tellsBehind 125 = .ok (.iaload, 1) := by decide +kernel
theorem dX2_tellsBehind_126 : decode cX2_tellsBehind 126 = .ok (.iload_n 1, 1) := by decide +kernel
theorem dX2_tellsBehind_127 : decode cX2_tellsBehind 127 = .ok (.if_icmp .ne 62, 3) := by decide +kernel
theorem dX2_tellsBehind_130 : decode cX2_tellsBehind 130 = .ok (.aload_n 0, 1) := by decide +kernel
theorem dX2_tellsBehind_131 : decode cX2_tellsBehind 131 = .ok (.iload 8, 2) := by decide +kernel
theorem dX2_tellsBehind_133 : decode cX2_tellsBehind 133 = .ok (.invokevirtual 74, 3) := by decide +kernel
theorem dX2_tellsBehind_136 : decode cX2_tellsBehind 136 = .ok (.ifCond .ne 53, 3) := by decide +kernel
theorem dX2_tellsBehind_139 : decode cX2_tellsBehind 139 = .ok (.aload_n 0, 1) := by decide +kernel
theorem dX2_tellsBehind_140 : decode cX2_tellsBehind 140 = .ok (.getfield 20, 3) := by decide +kernel
theorem dX2_tellsBehind_143 : decode cX2_tellsBehind 143 = .ok (.getfield 50, 3) := by decide +kernel
theorem dX2_tellsBehind_146 : decode cX2_tellsBehind 146 = .ok (.iload 8, 2) := by decide +kernel
theorem dX2_tellsBehind_148 : decode cX2_tellsBehind 148 = .ok (.iaload, 1) := by decide +kernel
theorem dX2_tellsBehind_149 : decode cX2_tellsBehind 149 = .ok (.istore 9, 2) := by decide +kernel
theorem dX2_tellsBehind_151 : decode cX2_tellsBehind 151 = .ok (.aload_n 0, 1) := by decide +kernel
theorem dX2_tellsBehind_152 : decode cX2_tellsBehind 152 = .ok (.getfield 38, 3) := by decide +kernel
theorem dX2_tellsBehind_155 : decode cX2_tellsBehind 155 = .ok (.iload 9, 2) := by decide +kernel
theorem dX2_tellsBehind_157 : decode cX2_tellsBehind 157 = .ok (.aload_n 0, 1) := by decide +kernel
theorem dX2_tellsBehind_158 : decode cX2_tellsBehind 158 = .ok (.getfield 20, 3) := by decide +kernel
theorem dX2_tellsBehind_161 : decode cX2_tellsBehind 161 = .ok (.getfield 77, 3) := by decide +kernel
theorem dX2_tellsBehind_164 : decode cX2_tellsBehind 164 = .ok (.iload 8, 2) := by decide +kernel
theorem dX2_tellsBehind_166 : decode cX2_tellsBehind 166 = .ok (.iaload, 1) := by decide +kernel
theorem dX2_tellsBehind_167 : decode cX2_tellsBehind 167 = .ok (.aload_n 0, 1) := by decide +kernel
theorem dX2_tellsBehind_168 : decode cX2_tellsBehind 168 = .ok (.getfield 20, 3) := by decide +kernel
theorem dX2_tellsBehind_171 : decode cX2_tellsBehind 171 = .ok (.getfield 80, 3) := by decide +kernel
theorem dX2_tellsBehind_174 : decode cX2_tellsBehind 174 = .ok (.iload 9, 2) := by decide +kernel
theorem dX2_tellsBehind_176 : decode cX2_tellsBehind 176 = .ok (.iaload, 1) := by decide +kernel
theorem dX2_tellsBehind_177 : decode cX2_tellsBehind 177 = .ok (.aload_n 0, 1) := by decide +kernel
theorem dX2_tellsBehind_178 : decode cX2_tellsBehind 178 = .ok (.getfield 14, 3) := by decide +kernel
theorem dX2_tellsBehind_181 : decode cX2_tellsBehind 181 = .ok (.getfield 77, 3) := by decide +kernel
theorem dX2_tellsBehind_184 : decode cX2_tellsBehind 184 = .ok (.iload_n 1, 1) := by decide +kernel
theorem dX2_tellsBehind_185 : decode cX2_tellsBehind 185 = .ok (.iaload, 1) := by decide +kernel
theorem dX2_tellsBehind_186 : decode cX2_tellsBehind 186 = .ok (.invokevirtual 83, 3) := by decide +kernel
theorem dX2_tellsBehind_189 : decode cX2_tellsBehind 189 = .ok (.iinc 4 1, 3) := by decide +kernel
theorem dX2_tellsBehind_192 : decode cX2_tellsBehind 192 = .ok (.goto (-135), 3) := by decide +kernel
theorem dX2_tellsBehind_195 : decode cX2_tellsBehind 195 = .ok (.iload 5, 2) := by decide +kernel
theorem dX2_tellsBehind_197 : decode cX2_tellsBehind 197 = .ok (.aload_n 0, 1) := by decide +kernel
theorem dX2_tellsBehind_198 : decode cX2_tellsBehind 198 = .ok (.getfield 32, 3) := by decide +kernel
theorem dX2_tellsBehind_201 : decode cX2_tellsBehind 201 = .ok (.getfield 60, 3) := by decide +kernel
theorem dX2_tellsBehind_204 : decode cX2_tellsBehind 204 = .ok (.if_icmp .ge 61, 3) := by decide +kernel
theorem dX2_tellsBehind_207 : decode cX2_tellsBehind 207 = .ok (.aload_n 0, 1) := by decide +kernel
theorem dX2_tellsBehind_208 : decode cX2_tellsBehind 208 = .ok (.getfield 32, 3) := by decide +kernel
theorem dX2_tellsBehind_211 : decode cX2_tellsBehind 211 = .ok (.getfield 63, 3) := by decide +kernel
theorem dX2_tellsBehind_214 : decode cX2_tellsBehind 214 = .ok (.aload_n 0, 1) := by decide +kernel
theorem dX2_tellsBehind_215 : decode cX2_tellsBehind 215 = .ok (.getfield 32, 3) := by decide +kernel
theorem dX2_tellsBehind_218 : decode cX2_tellsBehind 218 = .ok (.getfield 66, 3) := by decide +kernel
theorem dX2_tellsBehind_221 : decode cX2_tellsBehind 221 = .ok (.iload 5, 2) := by decide +kernel
theorem dX2_tellsBehind_223 : decode cX2_tellsBehind 223 = .ok (.iaload, 1) := by decide +kernel
theorem dX2_tellsBehind_224 : decode cX2_tellsBehind 224 = .ok (.iaload, 1) := by decide +kernel
theorem dX2_tellsBehind_225 : decode cX2_tellsBehind 225 = .ok (.iload 6, 2) := by decide +kernel
theorem dX2_tellsBehind_227 : decode cX2_tellsBehind 227 = .ok (.if_icmp .ne 38, 3) := by decide +kernel
theorem dX2_tellsBehind_230 : decode cX2_tellsBehind 230 = .ok (.aload_n 0, 1) := by decide +kernel
theorem dX2_tellsBehind_231 : decode cX2_tellsBehind 231 = .ok (.getfield 32, 3) := by decide +kernel
theorem dX2_tellsBehind_234 : decode cX2_tellsBehind 234 = .ok (.getfield 72, 3) := by decide +kernel
theorem dX2_tellsBehind_237 : decode cX2_tellsBehind 237 = .ok (.aload_n 0, 1) := by decide +kernel
theorem dX2_tellsBehind_238 : decode cX2_tellsBehind 238 = .ok (.getfield 32, 3) := by decide +kernel
theorem dX2_tellsBehind_241 : decode cX2_tellsBehind 241 = .ok (.getfield 66, 3) := by decide +kernel
theorem dX2_tellsBehind_244 : decode cX2_tellsBehind 244 = .ok (.iload 5, 2) := by decide +kernel
theorem dX2_tellsBehind_246 : decode cX2_tellsBehind 246 = .ok (.iaload, 1) := by decide +kernel
theorem dX2_tellsBehind_247 : decode cX2_tellsBehind 247 = .ok (.iaload, 1) := by decide +kernel
theorem dX2_tellsBehind_248 : decode cX2_tellsBehind 248 = .ok (.iload_n 1, 1) := by decide +kernel
theorem dX2_tellsBehind_249 : decode cX2_tellsBehind 249 = .ok (.if_icmp .ne 10, 3) := by decide +kernel
theorem dX2_tellsBehind_252 : decode cX2_tellsBehind 252 = .ok (.aload_n 0, 1) := by decide +kernel
theorem dX2_tellsBehind_253 : decode cX2_tellsBehind 253 = .ok (.getfield 38, 3) := by decide +kernel
theorem dX2_tellsBehind_256 : decode cX2_tellsBehind 256 = .ok (.invokevirtual 87, 3) := by decide +kernel
theorem dX2_tellsBehind_259 : decode cX2_tellsBehind 259 = .ok (.iinc 5 1, 3) := by decide +kernel
theorem dX2_tellsBehind_262 : decode cX2_tellsBehind 262 = .ok (.goto (-67), 3) := by decide +kernel
theorem dX2_tellsBehind_265 : decode cX2_tellsBehind 265 = .ok (.iload_n 3, 1) := by decide +kernel
theorem dX2_tellsBehind_266 : decode cX2_tellsBehind 266 = .ok (.iload 6, 2) := by decide +kernel
theorem dX2_tellsBehind_268 : decode cX2_tellsBehind 268 = .ok (.invokestatic 90, 3) := by decide +kernel
theorem dX2_tellsBehind_271 : decode cX2_tellsBehind 271 = .ok (.ifCond .eq 10, 3) := by decide +kernel
theorem dX2_tellsBehind_274 : decode cX2_tellsBehind 274 = .ok (.aload_n 0, 1) := by decide +kernel
theorem dX2_tellsBehind_275 : decode cX2_tellsBehind 275 = .ok (.getfield 38, 3) := by decide +kernel
theorem dX2_tellsBehind_278 : decode cX2_tellsBehind 278 = .ok (.invokevirtual 87, 3) := by decide +kernel
theorem dX2_tellsBehind_281 : decode cX2_tellsBehind 281 = .ok (.iinc 6 1, 3) := by decide +kernel
theorem dX2_tellsBehind_284 : decode cX2_tellsBehind 284 = .ok (.goto (-240), 3) := by decide +kernel
theorem dX2_tellsBehind_287 : decode cX2_tellsBehind 287 = .ok (.aload_n 0, 1) := by decide +kernel
theorem dX2_tellsBehind_288 : decode cX2_tellsBehind 288 = .ok (.getfield 38, 3) := by decide +kernel
theorem dX2_tellsBehind_291 : decode cX2_tellsBehind 291 = .ok (.aload_n 0, 1) := by decide +kernel
theorem dX2_tellsBehind_292 : decode cX2_tellsBehind 292 = .ok (.getfield 14, 3) := by decide +kernel
theorem dX2_tellsBehind_295 : decode cX2_tellsBehind 295 = .ok (.getfield 80, 3) := by decide +kernel
theorem dX2_tellsBehind_298 : decode cX2_tellsBehind 298 = .ok (.iload_n 1, 1) := by decide +kernel
theorem dX2_tellsBehind_299 : decode cX2_tellsBehind 299 = .ok (.iaload, 1) := by decide +kernel
theorem dX2_tellsBehind_300 : decode cX2_tellsBehind 300 = .ok (.invokevirtual 94, 3) := by decide +kernel
theorem dX2_tellsBehind_303 : decode cX2_tellsBehind 303 = .ok (.ireturn, 1) := by decide +kernel
theorem dX2_allTell_0 : decode cX2_allTell 0 = .ok (.iconst 0, 1) := by decide +kernel
theorem dX2_allTell_1 : decode cX2_allTell 1 = .ok (.istore_n 3, 1) := by decide +kernel
theorem dX2_allTell_2 : decode cX2_allTell 2 = .ok (.iconst 0, 1) := by decide +kernel
theorem dX2_allTell_3 : decode cX2_allTell 3 = .ok (.istore 4, 2) := by decide +kernel
theorem dX2_allTell_5 : decode cX2_allTell 5 = .ok (.iload 4, 2) := by decide +kernel
theorem dX2_allTell_7 : decode cX2_allTell 7 = .ok (.aload_n 0, 1) := by decide +kernel
theorem dX2_allTell_8 : decode cX2_allTell 8 = .ok (.getfield 14, 3) := by decide +kernel
theorem dX2_allTell_11 : decode cX2_allTell 11 = .ok (.getfield 42, 3) := by decide +kernel
theorem dX2_allTell_14 : decode cX2_allTell 14 = .ok (.if_icmp .ge 29, 3) := by decide +kernel
theorem dX2_allTell_17 : decode cX2_allTell 17 = .ok (.iload_n 2, 1) := by decide +kernel
theorem dX2_allTell_18 : decode cX2_allTell 18 = .ok (.iload 4, 2) := by decide +kernel
theorem dX2_allTell_20 : decode cX2_allTell 20 = .ok (.invokestatic 90, 3) := by decide +kernel
theorem dX2_allTell_23 : decode cX2_allTell 23 = .ok (.ifCond .eq 14, 3) := by decide +kernel
theorem dX2_allTell_26 : decode cX2_allTell 26 = .ok (.iload_n 3, 1) := by decide +kernel
theorem dX2_allTell_27 : decode cX2_allTell 27 = .ok (.aload_n 0, 1) := by decide +kernel
theorem dX2_allTell_28 : decode cX2_allTell 28 = .ok (.iload 4, 2) := by decide +kernel
theorem dX2_allTell_30 : decode cX2_allTell 30 = .ok (.iload_n 1, 1) := by decide +kernel
theorem dX2_allTell_31 : decode cX2_allTell 31 = .ok (.iconst 0, 1) := by decide +kernel
theorem dX2_allTell_32 : decode cX2_allTell 32 = .ok (.invokevirtual 98, 3) := by decide +kernel
theorem dX2_allTell_35 : decode cX2_allTell 35 = .ok (.ior, 1) := by decide +kernel
theorem dX2_allTell_36 : decode cX2_allTell 36 = .ok (.istore_n 3, 1) := by decide +kernel
theorem dX2_allTell_37 : decode cX2_allTell 37 = .ok (.iinc 4 1, 3) := by decide +kernel
theorem dX2_allTell_40 : decode cX2_allTell 40 = .ok (.goto (-35), 3) := by decide +kernel
theorem dX2_allTell_43 : decode cX2_allTell 43 = .ok (.iload_n 3, 1) := by decide +kernel
theorem dX2_allTell_44 : decode cX2_allTell 44 = .ok (.ireturn, 1) := by decide +kernel
theorem dX2_layersAtTheEnd_0 : decode cX2_layersAtTheEnd 0 = .ok (.iconst 0, 1) := by decide +kernel
theorem dX2_layersAtTheEnd_1 : decode cX2_layersAtTheEnd 1 = .ok (.istore_n 1, 1) := by decide +kernel
theorem dX2_layersAtTheEnd_2 : decode cX2_layersAtTheEnd 2 = .ok (.iconst 0, 1) := by decide +kernel
theorem dX2_layersAtTheEnd_3 : decode cX2_layersAtTheEnd 3 = .ok (.istore_n 2, 1) := by decide +kernel
theorem dX2_layersAtTheEnd_4 : decode cX2_layersAtTheEnd 4 = .ok (.iload_n 2, 1) := by decide +kernel
theorem dX2_layersAtTheEnd_5 : decode cX2_layersAtTheEnd 5 = .ok (.aload_n 0, 1) := by decide +kernel
theorem dX2_layersAtTheEnd_6 : decode cX2_layersAtTheEnd 6 = .ok (.getfield 14, 3) := by decide +kernel
theorem dX2_layersAtTheEnd_9 : decode cX2_layersAtTheEnd 9 = .ok (.getfield 42, 3) := by decide +kernel
theorem dX2_layersAtTheEnd_12 : decode cX2_layersAtTheEnd 12 = .ok (.if_icmp .ge 28, 3) := by decide +kernel
theorem dX2_layersAtTheEnd_15 : decode cX2_layersAtTheEnd 15 = .ok (.aload_n 0, 1) := by decide +kernel
theorem dX2_layersAtTheEnd_16 : decode cX2_layersAtTheEnd 16 = .ok (.iload_n 2, 1) := by decide +kernel
theorem dX2_layersAtTheEnd_17 : decode cX2_layersAtTheEnd 17 = .ok (.bipush 23, 2) := by decide +kernel
theorem dX2_layersAtTheEnd_19 : decode cX2_layersAtTheEnd 19 = .ok (.iconst 0, 1) := by decide +kernel
theorem dX2_layersAtTheEnd_20 : decode cX2_layersAtTheEnd 20 = .ok (.invokevirtual 98, 3) := by decide +kernel
theorem dX2_layersAtTheEnd_23 : decode cX2_layersAtTheEnd 23 = .ok (.pop, 1) := by decide +kernel
theorem dX2_layersAtTheEnd_24 : decode cX2_layersAtTheEnd 24 = .ok (.iload_n 1, 1) := by decide +kernel
theorem dX2_layersAtTheEnd_25 : decode cX2_layersAtTheEnd 25 = .ok (.aload_n 0, 1) := by decide +kernel
theorem dX2_layersAtTheEnd_26 : decode cX2_layersAtTheEnd 26 = .ok (.getfield 38, 3) := by decide +kernel
theorem dX2_layersAtTheEnd_29 : decode cX2_layersAtTheEnd 29 = .ok (.getfield 102, 3) := by decide +kernel
theorem dX2_layersAtTheEnd_32 : decode cX2_layersAtTheEnd 32 = .ok (.iadd, 1) := by decide +kernel
theorem dX2_layersAtTheEnd_33 : decode cX2_layersAtTheEnd 33 = .ok (.istore_n 1, 1) := by decide +kernel
theorem dX2_layersAtTheEnd_34 : decode cX2_layersAtTheEnd 34 = .ok (.iinc 2 1, 3) := by decide +kernel
theorem dX2_layersAtTheEnd_37 : decode cX2_layersAtTheEnd 37 = .ok (.goto (-33), 3) := by decide +kernel
theorem dX2_layersAtTheEnd_40 : decode cX2_layersAtTheEnd 40 = .ok (.iload_n 1, 1) := by decide +kernel
theorem dX2_layersAtTheEnd_41 : decode cX2_layersAtTheEnd 41 = .ok (.ireturn, 1) := by decide +kernel
theorem dX2_inseparable_0 : decode cX2_inseparable 0 = .ok (.lconst 0, 1) := by decide +kernel
theorem dX2_inseparable_1 : decode cX2_inseparable 1 = .ok (.lstore_n 1, 1) := by decide +kernel
theorem dX2_inseparable_2 : decode cX2_inseparable 2 = .ok (.lconst 0, 1) := by decide +kernel
theorem dX2_inseparable_3 : decode cX2_inseparable 3 = .ok (.lstore_n 3, 1) := by decide +kernel
theorem dX2_inseparable_4 : decode cX2_inseparable 4 = .ok (.iconst 0, 1) := by decide +kernel
theorem dX2_inseparable_5 : decode cX2_inseparable 5 = .ok (.istore 5, 2) := by decide +kernel
theorem dX2_inseparable_7 : decode cX2_inseparable 7 = .ok (.iload 5, 2) := by decide +kernel
theorem dX2_inseparable_9 : decode cX2_inseparable 9 = .ok (.aload_n 0, 1) := by decide +kernel
theorem dX2_inseparable_10 : decode cX2_inseparable 10 = .ok (.getfield 14, 3) := by decide +kernel
theorem dX2_inseparable_13 : decode cX2_inseparable 13 = .ok (.getfield 42, 3) := by decide +kernel
theorem dX2_inseparable_16 : decode cX2_inseparable 16 = .ok (.if_icmp .ge 123, 3) := by decide +kernel
theorem dX2_inseparable_19 : decode cX2_inseparable 19 = .ok (.iconst 0, 1) := by decide +kernel
theorem dX2_inseparable_20 : decode cX2_inseparable 20 = .ok (.istore 6, 2) := by decide +kernel
theorem dX2_inseparable_22 : decode cX2_inseparable 22 = .ok (.iload 6, 2) := by decide +kernel
theorem dX2_inseparable_24 : decode cX2_inseparable 24 = .ok (.bipush 24, 2) := by decide +kernel
theorem dX2_inseparable_26 : decode cX2_inseparable 26 = .ok (.if_icmp .ge 107, 3) := by decide +kernel
theorem dX2_inseparable_29 : decode cX2_inseparable 29 = .ok (.aload_n 0, 1) := by decide +kernel
theorem dX2_inseparable_30 : decode cX2_inseparable 30 = .ok (.iload 5, 2) := by decide +kernel
theorem dX2_inseparable_32 : decode cX2_inseparable 32 = .ok (.iload 6, 2) := by decide +kernel
theorem dX2_inseparable_34 : decode cX2_inseparable 34 = .ok (.iconst 0, 1) := by decide +kernel
theorem dX2_inseparable_35 : decode cX2_inseparable 35 = .ok (.invokevirtual 98, 3) := by decide +kernel
theorem dX2_inseparable_38 : decode cX2_inseparable 38 = .ok (.istore 7, 2) := by decide +kernel
theorem dX2_inseparable_40 : decode cX2_inseparable 40 = .ok (.iconst 0, 1) := by decide +kernel
theorem dX2_inseparable_41 : decode cX2_inseparable 41 = .ok (.istore 8, 2) := by decide +kernel
theorem dX2_inseparable_43 : decode cX2_inseparable 43 = .ok (.iload 8, 2) := by decide +kernel
theorem dX2_inseparable_45 : decode cX2_inseparable 45 = .ok (.bipush 8, 2) := by decide +kernel
theorem dX2_inseparable_47 : decode cX2_inseparable 47 = .ok (.if_icmp .ge 80, 3) := by decide +kernel
theorem dX2_inseparable_50 : decode cX2_inseparable 50 = .ok (.iload 8, 2) := by decide +kernel
theorem dX2_inseparable_52 : decode cX2_inseparable 52 = .ok (.iconst 1, 1) := by decide +kernel
theorem dX2_inseparable_53 : decode cX2_inseparable 53 = .ok (.iadd, 1) := by decide +kernel
theorem dX2_inseparable_54 : decode cX2_inseparable 54 = .ok (.istore 9, 2) := by decide +kernel
theorem dX2_inseparable_56 : decode cX2_inseparable 56 = .ok (.iload 9, 2) := by decide +kernel
theorem dX2_inseparable_58 : decode cX2_inseparable 58 = .ok (.bipush 8, 2) := by decide +kernel
theorem dX2_inseparable_60 : decode cX2_inseparable 60 = .ok (.if_icmp .ge 61, 3) := by decide +kernel
theorem dX2_inseparable_63 : decode cX2_inseparable 63 = .ok (.lconst 1, 1) := by decide +kernel
theorem dX2_inseparable_64 : decode cX2_inseparable 64 = .ok (.bipush 8, 2) := by decide +kernel
theorem dX2_inseparable_66 : decode cX2_inseparable 66 = .ok (.iload 8, 2) := by decide +kernel
theorem dX2_inseparable_68 : decode cX2_inseparable 68 = .ok (.imul, 1) := by decide +kernel
theorem dX2_inseparable_69 : decode cX2_inseparable 69 = .ok (.iload 9, 2) := by decide +kernel
theorem dX2_inseparable_71 : decode cX2_inseparable 71 = .ok (.iadd, 1) := by decide +kernel
theorem dX2_inseparable_72 : decode cX2_inseparable 72 = .ok (.lshl, 1) := by decide +kernel
theorem dX2_inseparable_73 : decode cX2_inseparable 73 = .ok (.lstore 10, 2) := by decide +kernel
theorem dX2_inseparable_75 : decode cX2_inseparable 75 = .ok (.iload 7, 2) := by decide +kernel
theorem dX2_inseparable_77 : decode cX2_inseparable 77 = .ok (.iload 8, 2) := by decide +kernel
theorem dX2_inseparable_79 : decode cX2_inseparable 79 = .ok (.invokestatic 90, 3) := by decide +kernel
theorem dX2_inseparable_82 : decode cX2_inseparable 82 = .ok (.iload 7, 2) := by decide +kernel
theorem dX2_inseparable_84 : decode cX2_inseparable 84 = .ok (.iload 9, 2) := by decide +kernel
theorem dX2_inseparable_86 : decode cX2_inseparable 86 = .ok (.invokestatic 90, 3) := by decide +kernel
theorem dX2_inseparable_89 : decode cX2_inseparable 89 = .ok (.if_icmp .eq 11, 3) := by decide +kernel
theorem dX2_inseparable_92 : decode cX2_inseparable 92 = .ok (.lload_n 3, 1) := by decide +kernel
theorem dX2_inseparable_93 : decode cX2_inseparable 93 = .ok (.lload 10, 2) := by decide +kernel
theorem dX2_inseparable_95 : decode cX2_inseparable 95 = .ok (.lor, 1) := by decide +kernel
theorem dX2_inseparable_96 : decode cX2_inseparable 96 = .ok (.lstore_n 3, 1) := by decide +kernel
theorem dX2_inseparable_97 : decode cX2_inseparable 97 = .ok (.goto 18, 3) := by decide +kernel
theorem dX2_inseparable_100 : decode cX2_inseparable 100 = .ok (.iload 7, 2) := by decide +kernel
theorem dX2_inseparable_102 : decode cX2_inseparable 102 = .ok (.iload 8, 2) := by decide +kernel
theorem dX2_inseparable_104 : decode cX2_inseparable 104 = .ok (.invokestatic 90, 3) := by decide +kernel
theorem dX2_inseparable_107 : decode cX2_inseparable 107 = .ok (.ifCond .eq 8, 3) := by decide +kernel
theorem dX2_inseparable_110 : decode cX2_inseparable 110 = .ok (.lload_n 1, 1) := by decide +kernel
theorem dX2_inseparable_111 : decode cX2_inseparable 111 = .ok (.lload 10, 2) := by decide +kernel
theorem dX2_inseparable_113 : decode cX2_inseparable 113 = .ok (.lor, 1) := by decide +kernel
theorem dX2_inseparable_114 : decode cX2_inseparable 114 = .ok (.lstore_n 1, 1) := by decide +kernel
theorem dX2_inseparable_115 : decode cX2_inseparable 115 = .ok (.iinc 9 1, 3) := by decide +kernel
theorem dX2_inseparable_118 : decode cX2_inseparable 118 = .ok (.goto (-62), 3) := by decide +kernel
theorem dX2_inseparable_121 : decode cX2_inseparable 121 = .ok (.iinc 8 1, 3) := by decide +kernel
theorem dX2_inseparable_124 : decode cX2_inseparable 124 = .ok (.goto (-81), 3) := by decide +kernel
theorem dX2_inseparable_127 : decode cX2_inseparable 127 = .ok (.iinc 6 1, 3) := by decide +kernel
theorem dX2_inseparable_130 : decode cX2_inseparable 130 = .ok (.goto (-108), 3) := by decide +kernel
theorem dX2_inseparable_133 : decode cX2_inseparable 133 = .ok (.iinc 5 1, 3) := by decide +kernel
theorem dX2_inseparable_136 : decode cX2_inseparable 136 = .ok (.goto (-129), 3) := by decide +kernel
theorem dX2_inseparable_139 : decode cX2_inseparable 139 = .ok (.lload_n 1, 1) := by decide +kernel
theorem dX2_inseparable_140 : decode cX2_inseparable 140 = .ok (.lload_n 3, 1) := by decide +kernel
theorem dX2_inseparable_141 : decode cX2_inseparable 141 = .ok (.ldc2_w 103, 3) := by decide +kernel
theorem dX2_inseparable_144 : decode cX2_inseparable 144 = .ok (.lxor, 1) := by decide +kernel
theorem dX2_inseparable_145 : decode cX2_inseparable 145 = .ok (.land, 1) := by decide +kernel
theorem dX2_inseparable_146 : decode cX2_inseparable 146 = .ok (.lreturn, 1) := by decide +kernel
theorem dX2_tellsByLot_0 : decode cX2_tellsByLot 0 = .ok (.aload_n 0, 1) := by decide +kernel
theorem dX2_tellsByLot_1 : decode cX2_tellsByLot 1 = .ok (.getfield 28, 3) := by decide +kernel
theorem dX2_tellsByLot_4 : decode cX2_tellsByLot 4 = .ok (.getfield 60, 3) := by decide +kernel
theorem dX2_tellsByLot_7 : decode cX2_tellsByLot 7 = .ok (.istore 4, 2) := by decide +kernel
theorem dX2_tellsByLot_9 : decode cX2_tellsByLot 9 = .ok (.iload_n 1, 1) := by decide +kernel
theorem dX2_tellsByLot_10 : decode cX2_tellsByLot 10 = .ok (.istore 5, 2) := by decide +kernel
theorem dX2_tellsByLot_12 : decode cX2_tellsByLot 12 = .ok (.iconst 0, 1) := by decide +kernel
theorem dX2_tellsByLot_13 : decode cX2_tellsByLot 13 = .ok (.istore 6, 2) := by decide +kernel
theorem dX2_tellsByLot_15 : decode cX2_tellsByLot 15 = .ok (.iload 6, 2) := by decide +kernel
theorem dX2_tellsByLot_17 : decode cX2_tellsByLot 17 = .ok (.iload_n 2, 1) := by decide +kernel
theorem dX2_tellsByLot_18 : decode cX2_tellsByLot 18 = .ok (.if_icmp .gt 82, 3) := by decide +kernel
theorem dX2_tellsByLot_21 : decode cX2_tellsByLot 21 = .ok (.aload_n 0, 1) := by decide +kernel
theorem dX2_tellsByLot_22 : decode cX2_tellsByLot 22 = .ok (.getfield 20, 3) := by decide +kernel
theorem dX2_tellsByLot_25 : decode cX2_tellsByLot 25 = .ok (.getfield 42, 3) := by decide +kernel
theorem dX2_tellsByLot_28 : decode cX2_tellsByLot 28 = .ok (.ifCond .le 72, 3) := by decide +kernel
theorem dX2_tellsByLot_31 : decode cX2_tellsByLot 31 = .ok (.aload_n 0, 1) := by decide +kernel
theorem dX2_tellsByLot_32 : decode cX2_tellsByLot 32 = .ok (.getfield 14, 3) := by decide +kernel
theorem dX2_tellsByLot_35 : decode cX2_tellsByLot 35 = .ok (.getfield 42, 3) := by decide +kernel
theorem dX2_tellsByLot_38 : decode cX2_tellsByLot 38 = .ok (.ifCond .le 62, 3) := by decide +kernel
theorem dX2_tellsByLot_41 : decode cX2_tellsByLot 41 = .ok (.iload 5, 2) := by decide +kernel
theorem dX2_tellsByLot_43 : decode cX2_tellsByLot 43 = .ok (.invokestatic 105, 3) := by decide +kernel
theorem dX2_tellsByLot_46 : decode cX2_tellsByLot 46 = .ok (.istore 5, 2) := by decide +kernel
theorem dX2_tellsByLot_48 : decode cX2_tellsByLot 48 = .ok (.iload 5, 2) := by decide +kernel
theorem dX2_tellsByLot_50 : decode cX2_tellsByLot 50 = .ok (.bipush 16, 2) := by decide +kernel
theorem dX2_tellsByLot_52 : decode cX2_tellsByLot 52 = .ok (.iushr, 1) := by decide +kernel
theorem dX2_tellsByLot_53 : decode cX2_tellsByLot 53 = .ok (.aload_n 0, 1) := by decide +kernel
theorem dX2_tellsByLot_54 : decode cX2_tellsByLot 54 = .ok (.getfield 20, 3) := by decide +kernel
theorem dX2_tellsByLot_57 : decode cX2_tellsByLot 57 = .ok (.getfield 42, 3) := by decide +kernel
theorem dX2_tellsByLot_60 : decode cX2_tellsByLot 60 = .ok (.irem, 1) := by decide +kernel
theorem dX2_tellsByLot_61 : decode cX2_tellsByLot 61 = .ok (.istore 7, 2) := by decide +kernel
theorem dX2_tellsByLot_63 : decode cX2_tellsByLot 63 = .ok (.iload 5, 2) := by decide +kernel
theorem dX2_tellsByLot_65 : decode cX2_tellsByLot 65 = .ok (.invokestatic 105, 3) := by decide +kernel
theorem dX2_tellsByLot_68 : decode cX2_tellsByLot 68 = .ok (.istore 5, 2) := by decide +kernel
theorem dX2_tellsByLot_70 : decode cX2_tellsByLot 70 = .ok (.aload_n 0, 1) := by decide +kernel
theorem dX2_tellsByLot_71 : decode cX2_tellsByLot 71 = .ok (.getfield 28, 3) := by decide +kernel
theorem dX2_tellsByLot_74 : decode cX2_tellsByLot 74 = .ok (.iload 6, 2) := by decide +kernel
theorem dX2_tellsByLot_76 : decode cX2_tellsByLot 76 = .ok (.iload 5, 2) := by decide +kernel
theorem dX2_tellsByLot_78 : decode cX2_tellsByLot 78 = .ok (.bipush 16, 2) := by decide +kernel
theorem dX2_tellsByLot_80 : decode cX2_tellsByLot 80 = .ok (.iushr, 1) := by decide +kernel
theorem dX2_tellsByLot_81 : decode cX2_tellsByLot 81 = .ok (.aload_n 0, 1) := by decide +kernel
theorem dX2_tellsByLot_82 : decode cX2_tellsByLot 82 = .ok (.getfield 14, 3) := by decide +kernel
theorem dX2_tellsByLot_85 : decode cX2_tellsByLot 85 = .ok (.getfield 42, 3) := by decide +kernel
theorem dX2_tellsByLot_88 : decode cX2_tellsByLot 88 = .ok (.irem, 1) := by decide +kernel
theorem dX2_tellsByLot_89 : decode cX2_tellsByLot 89 = .ok (.iload 7, 2) := by decide +kernel
theorem dX2_tellsByLot_91 : decode cX2_tellsByLot 91 = .ok (.invokevirtual 108, 3) := by decide +kernel
theorem dX2_tellsByLot_94 : decode cX2_tellsByLot 94 = .ok (.iinc 6 1, 3) := by decide +kernel
theorem dX2_tellsByLot_97 : decode cX2_tellsByLot 97 = .ok (.goto (-82), 3) := by decide +kernel
theorem dX2_tellsByLot_100 : decode cX2_tellsByLot 100 = .ok (.aload_n 0, 1) := by decide +kernel
theorem dX2_tellsByLot_101 : decode cX2_tellsByLot 101 = .ok (.iload_n 3, 1) := by decide +kernel
theorem dX2_tellsByLot_102 : decode cX2_tellsByLot 102 = .ok (.iload_n 2, 1) := by decide +kernel
theorem dX2_tellsByLot_103 : decode cX2_tellsByLot 103 = .ok (.iconst 0, 1) := by decide +kernel
theorem dX2_tellsByLot_104 : decode cX2_tellsByLot 104 = .ok (.invokevirtual 98, 3) := by decide +kernel
theorem dX2_tellsByLot_107 : decode cX2_tellsByLot 107 = .ok (.istore 6, 2) := by decide +kernel
theorem dX2_tellsByLot_109 : decode cX2_tellsByLot 109 = .ok (.aload_n 0, 1) := by decide +kernel
theorem dX2_tellsByLot_110 : decode cX2_tellsByLot 110 = .ok (.getfield 28, 3) := by decide +kernel
theorem dX2_tellsByLot_113 : decode cX2_tellsByLot 113 = .ok (.getfield 60, 3) := by decide +kernel
theorem dX2_tellsByLot_116 : decode cX2_tellsByLot 116 = .ok (.istore 7, 2) := by decide +kernel
theorem dX2_tellsByLot_118 : decode cX2_tellsByLot 118 = .ok (.iload 7, 2) := by decide +kernel
theorem dX2_tellsByLot_120 : decode cX2_tellsByLot 120 = .ok (.iload 4, 2) := by decide +kernel
theorem dX2_tellsByLot_122 : decode cX2_tellsByLot 122 = .ok (.if_icmp .le 16, 3) := by decide +kernel
theorem dX2_tellsByLot_125 : decode cX2_tellsByLot 125 = .ok (.aload_n 0, 1) := by decide +kernel
theorem dX2_tellsByLot_126 : decode cX2_tellsByLot 126 = .ok (.getfield 28, 3) := by decide +kernel
theorem dX2_tellsByLot_129 : decode cX2_tellsByLot 129 = .ok (.invokevirtual 112, 3) := by decide +kernel
theorem dX2_tellsByLot_132 : decode cX2_tellsByLot 132 = .ok (.iinc 7 (-1), 3) := by decide +kernel
theorem dX2_tellsByLot_135 : decode cX2_tellsByLot 135 = .ok (.goto (-17), 3) := by decide +kernel
theorem dX2_tellsByLot_138 : decode cX2_tellsByLot 138 = .ok (.iload 6, 2) := by decide +kernel
theorem dX2_tellsByLot_140 : decode cX2_tellsByLot 140 = .ok (.ireturn, 1) := by decide +kernel
theorem dX2_nextLot_0 : decode cX2_nextLot 0 = .ok (.ldc 115, 2) := by decide +kernel
theorem dX2_nextLot_2 : decode cX2_nextLot 2 = .ok (.iload_n 0, 1) := by decide +kernel
theorem dX2_nextLot_3 : decode cX2_nextLot 3 = .ok (.imul, 1) := by decide +kernel
theorem dX2_nextLot_4 : decode cX2_nextLot 4 = .ok (.sipush 12345, 3) := by decide +kernel
theorem dX2_nextLot_7 : decode cX2_nextLot 7 = .ok (.iadd, 1) := by decide +kernel
theorem dX2_nextLot_8 : decode cX2_nextLot 8 = .ok (.ireturn, 1) := by decide +kernel
theorem dX3_init_0 : decode cX3_init 0 = .ok (.aload_n 0, 1) := by decide +kernel
theorem dX3_init_1 : decode cX3_init 1 = .ok (.invokespecial 3, 3) := by decide +kernel
theorem dX3_init_4 : decode cX3_init 4 = .ok (.aload_n 0, 1) := by decide +kernel
theorem dX3_init_5 : decode cX3_init 5 = .ok (.iconst 5, 1) := by decide +kernel
theorem dX3_init_6 : decode cX3_init 6 = .ok (.newarray .int, 2) := by decide +kernel
theorem dX3_init_8 : decode cX3_init 8 = .ok (.putfield 9, 3) := by decide +kernel
theorem dX3_init_11 : decode cX3_init 11 = .ok (.aload_n 0, 1) := by decide +kernel
theorem dX3_init_12 : decode cX3_init 12 = .ok (.iconst 5, 1) := by decide +kernel
theorem dX3_init_13 : decode cX3_init 13 = .ok (.newarray .int, 2) := by decide +kernel
theorem dX3_init_15 : decode cX3_init 15 = .ok (.putfield 15, 3) := by decide +kernel
theorem dX3_init_18 : decode cX3_init 18 = .ok (.aload_n 0, 1) := by decide +kernel
theorem dX3_init_19 : decode cX3_init 19 = .ok (.iconst 5, 1) := by decide +kernel
theorem dX3_init_20 : decode cX3_init 20 = .ok (.newarray .int, 2) := by decide +kernel
theorem dX3_init_22 : decode cX3_init 22 = .ok (.putfield 18, 3) := by decide +kernel
theorem dX3_init_25 : decode cX3_init 25 = .ok (.aload_n 0, 1) := by decide +kernel
theorem dX3_init_26 : decode cX3_init 26 = .ok (.iconst 0, 1) := by decide +kernel
theorem dX3_init_27 : decode cX3_init 27 = .ok (.putfield 21, 3) := by decide +kernel
theorem dX3_init_30 : decode cX3_init 30 = .ok (.aload_n 0, 1) := by decide +kernel
theorem dX3_init_31 : decode cX3_init 31 = .ok (.iconst 0, 1) := by decide +kernel
theorem dX3_init_32 : decode cX3_init 32 = .ok (.putfield 25, 3) := by decide +kernel
theorem dX3_init_35 : decode cX3_init 35 = .ok (.return_, 1) := by decide +kernel
theorem dX3_begin_0 : decode cX3_begin 0 = .ok (.aload_n 0, 1) := by decide +kernel
theorem dX3_begin_1 : decode cX3_begin 1 = .ok (.iload_n 1, 1) := by decide +kernel
theorem dX3_begin_2 : decode cX3_begin 2 = .ok (.putfield 25, 3) := by decide +kernel
theorem dX3_begin_5 : decode cX3_begin 5 = .ok (.aload_n 0, 1) := by decide +kernel
theorem dX3_begin_6 : decode cX3_begin 6 = .ok (.iconst 0, 1) := by decide +kernel
theorem dX3_begin_7 : decode cX3_begin 7 = .ok (.putfield 21, 3) := by decide +kernel
theorem dX3_begin_10 : decode cX3_begin 10 = .ok (.return_, 1) := by decide +kernel
theorem dX3_placeOf_0 : decode cX3_placeOf 0 = .ok (.iload_n 1, 1) := by decide +kernel
theorem dX3_placeOf_1 : decode cX3_placeOf 1 = .ok (.ifCond .lt 11, 3) := by decide +kernel
theorem dX3_placeOf_4 : decode cX3_placeOf 4 = .ok (.iload_n 1, 1) := by decide +kernel
theorem dX3_placeOf_5 : decode cX3_placeOf 5 = .ok (.aload_n 0, 1) := by decide +kernel
theorem dX3_placeOf_6 : decode cX3_placeOf 6 = .ok (.getfield 21, 3) := by decide +kernel
theorem dX3_placeOf_9 : decode cX3_placeOf 9 = .ok (.if_icmp .lt 5, 3) := by decide +kernel
theorem dX3_placeOf_12 : decode cX3_placeOf 12 = .ok (.iconst (-1), 1) := by decide +kernel
theorem dX3_placeOf_13 : decode cX3_placeOf 13 = .ok (.ireturn, 1) := by decide +kernel
theorem dX3_placeOf_14 : decode cX3_placeOf 14 = .ok (.aload_n 0, 1) := by decide +kernel
theorem dX3_placeOf_15 : decode cX3_placeOf 15 = .ok (.getfield 25, 3) := by decide +kernel
theorem dX3_placeOf_18 : decode cX3_placeOf 18 = .ok (.ifCond .eq 14, 3) := by decide +kernel
theorem dX3_placeOf_21 : decode cX3_placeOf 21 = .ok (.aload_n 0, 1) := by decide +kernel
theorem dX3_placeOf_22 : decode cX3_placeOf 22 = .ok (.getfield 21, 3) := by decide +kernel
theorem dX3_placeOf_25 : decode cX3_placeOf 25 = .ok (.iconst 1, 1) := by decide +kernel
theorem dX3_placeOf_26 : decode cX3_placeOf 26 = .ok (.isub, 1) := by decide +kernel
theorem dX3_placeOf_27 : decode cX3_placeOf 27 = .ok (.iload_n 1, 1) := by decide +kernel
theorem dX3_placeOf_28 : decode cX3_placeOf 28 = .ok (.isub, 1) := by decide +kernel
theorem dX3_placeOf_29 : decode cX3_placeOf 29 = .ok (.goto 4, 3) := by decide +kernel
theorem dX3_placeOf_32 : decode cX3_placeOf 32 = .ok (.iload_n 1, 1) := by decide +kernel
theorem dX3_placeOf_33 : decode cX3_placeOf 33 = .ok (.ireturn, 1) := by decide +kernel
theorem dX3_smellAt_0 : decode cX3_smellAt 0 = .ok (.aload_n 0, 1) := by decide +kernel
theorem dX3_smellAt_1 : decode cX3_smellAt 1 = .ok (.iload_n 1, 1) := by decide +kernel
theorem dX3_smellAt_2 : decode cX3_smellAt 2 = .ok (.invokevirtual 29, 3) := by decide +kernel
theorem dX3_smellAt_5 : decode cX3_smellAt 5 = .ok (.istore_n 2, 1) := by decide +kernel
theorem dX3_smellAt_6 : decode cX3_smellAt 6 = .ok (.iload_n 2, 1) := by decide +kernel
theorem dX3_smellAt_7 : decode cX3_smellAt 7 = .ok (.iconst (-1), 1) := by decide +kernel
theorem dX3_smellAt_8 : decode cX3_smellAt 8 = .ok (.if_icmp .ne 7, 3) := by decide +kernel
theorem dX3_smellAt_11 : decode cX3_smellAt 11 = .ok (.iconst (-1), 1) := by decide +kernel
theorem dX3_smellAt_12 : decode cX3_smellAt 12 = .ok (.goto 9, 3) := by decide +kernel
theorem dX3_smellAt_15 : decode cX3_smellAt 15 = .ok (.aload_n 0, 1) := by decide +kernel
theorem dX3_smellAt_16 : decode cX3_smellAt 16 = .ok (.getfield 9, 3) := by decide +kernel
theorem dX3_smellAt_19 : decode cX3_smellAt 19 = .ok (.iload_n 2, 1) := by decide +kernel
theorem dX3_smellAt_20 : decode cX3_smellAt 20 = .ok (.iaload, 1) := by decide +kernel
theorem dX3_smellAt_21 : decode cX3_smellAt 21 = .ok (.ireturn, 1) := by decide +kernel
theorem dX3_strengthAt_0 : decode cX3_strengthAt 0 = .ok (.aload_n 0, 1) := by decide +kernel
theorem dX3_strengthAt_1 : decode cX3_strengthAt 1 = .ok (.iload_n 1, 1) := by decide +kernel
theorem dX3_strengthAt_2 : decode cX3_strengthAt 2 = .ok (.invokevirtual 29, 3) := by decide +kernel
theorem dX3_strengthAt_5 : decode cX3_strengthAt 5 = .ok (.istore_n 2, 1) := by decide +kernel
theorem dX3_strengthAt_6 : decode cX3_strengthAt 6 = .ok (.iload_n 2, 1) := by decide +kernel
theorem dX3_strengthAt_7 : decode cX3_strengthAt 7 = .ok (.iconst (-1), 1) := by decide +kernel
theorem dX3_strengthAt_8 : decode cX3_strengthAt 8 = .ok (.if_icmp .ne 7, 3) := by decide +kernel
theorem dX3_strengthAt_11 : decode cX3_strengthAt 11 = .ok (.iconst (-1), 1) := by decide +kernel
theorem dX3_strengthAt_12 : decode cX3_strengthAt 12 = .ok (.goto 9, 3) := by decide +kernel
theorem dX3_strengthAt_15 : decode cX3_strengthAt 15 = .ok (.aload_n 0, 1) := by decide +kernel
theorem dX3_strengthAt_16 : decode cX3_strengthAt 16 = .ok (.getfield 15, 3) := by decide +kernel
theorem dX3_strengthAt_19 : decode cX3_strengthAt 19 = .ok (.iload_n 2, 1) := by decide +kernel
theorem dX3_strengthAt_20 : decode cX3_strengthAt 20 = .ok (.iaload, 1) := by decide +kernel
theorem dX3_strengthAt_21 : decode cX3_strengthAt 21 = .ok (.ireturn, 1) := by decide +kernel
theorem dX3_toldBy_0 : decode cX3_toldBy 0 = .ok (.iconst 0, 1) := by decide +kernel
theorem dX3_toldBy_1 : decode cX3_toldBy 1 = .ok (.istore_n 2, 1) := by decide +kernel
theorem dX3_toldBy_2 : decode cX3_toldBy 2 = .ok (.iconst 0, 1) := by decide +kernel
theorem dX3_toldBy_3 : decode cX3_toldBy 3 = .ok (.istore_n 3, 1) := by decide +kernel
theorem dX3_toldBy_4 : decode cX3_toldBy 4 = .ok (.iload_n 3, 1) := by decide +kernel
theorem dX3_toldBy_5 : decode cX3_toldBy 5 = .ok (.aload_n 0, 1) := by decide +kernel
theorem dX3_toldBy_6 : decode cX3_toldBy 6 = .ok (.getfield 21, 3) := by decide +kernel
theorem dX3_toldBy_9 : decode cX3_toldBy 9 = .ok (.if_icmp .ge 43, 3) := by decide +kernel
theorem dX3_toldBy_12 : decode cX3_toldBy 12 = .ok (.iload_n 3, 1) := by decide +kernel
theorem dX3_toldBy_13 : decode cX3_toldBy 13 = .ok (.iload_n 1, 1) := by decide +kernel
theorem dX3_toldBy_14 : decode cX3_toldBy 14 = .ok (.if_icmp .ge 38, 3) := by decide +kernel
theorem dX3_toldBy_17 : decode cX3_toldBy 17 = .ok (.iload_n 2, 1) := by decide +kernel
theorem dX3_toldBy_18 : decode cX3_toldBy 18 = .ok (.iconst 1, 1) := by decide +kernel
theorem dX3_toldBy_19 : decode cX3_toldBy 19 = .ok (.aload_n 0, 1) := by decide +kernel
theorem dX3_toldBy_20 : decode cX3_toldBy 20 = .ok (.getfield 9, 3) := by decide +kernel
theorem dX3_toldBy_23 : decode cX3_toldBy 23 = .ok (.aload_n 0, 1) := by decide +kernel
theorem dX3_toldBy_24 : decode cX3_toldBy 24 = .ok (.getfield 25, 3) := by decide +kernel
theorem dX3_toldBy_27 : decode cX3_toldBy 27 = .ok (.ifCond .eq 14, 3) := by decide +kernel
theorem dX3_toldBy_30 : decode cX3_toldBy 30 = .ok (.aload_n 0, 1) := by decide +kernel
theorem dX3_toldBy_31 : decode cX3_toldBy 31 = .ok (.getfield 21, 3) := by decide +kernel
theorem dX3_toldBy_34 : decode cX3_toldBy 34 = .ok (.iconst 1, 1) := by decide +kernel
theorem dX3_toldBy_35 : decode cX3_toldBy 35 = .ok (.isub, 1) := by decide +kernel
theorem dX3_toldBy_36 : decode cX3_toldBy 36 = .ok (.iload_n 3, 1) := by decide +kernel
theorem dX3_toldBy_37 : decode cX3_toldBy 37 = .ok (.isub, 1) := by decide +kernel
theorem dX3_toldBy_38 : decode cX3_toldBy 38 = .ok (.goto 4, 3) := by decide +kernel
theorem dX3_toldBy_41 : decode cX3_toldBy 41 = .ok (.iload_n 3, 1) := by decide +kernel
theorem dX3_toldBy_42 : decode cX3_toldBy 42 = .ok (.iaload, 1) := by decide +kernel
theorem dX3_toldBy_43 : decode cX3_toldBy 43 = .ok (.ishl, 1) := by decide +kernel
theorem dX3_toldBy_44 : decode cX3_toldBy 44 = .ok (.ior, 1) := by decide +kernel
theorem dX3_toldBy_45 : decode cX3_toldBy 45 = .ok (.istore_n 2, 1) := by decide +kernel
theorem dX3_toldBy_46 : decode cX3_toldBy 46 = .ok (.iinc 3 1, 3) := by decide +kernel
theorem dX3_toldBy_49 : decode cX3_toldBy 49 = .ok (.goto (-45), 3) := by decide +kernel
theorem dX3_toldBy_52 : decode cX3_toldBy 52 = .ok (.iload_n 2, 1) := by decide +kernel
theorem dX3_toldBy_53 : decode cX3_toldBy 53 = .ok (.ireturn, 1) := by decide +kernel
theorem dX3_fade_0 : decode cX3_fade 0 = .ok (.iconst 0, 1) := by decide +kernel
theorem dX3_fade_1 : decode cX3_fade 1 = .ok (.istore_n 1, 1) := by decide +kernel
theorem dX3_fade_2 : decode cX3_fade 2 = .ok (.iconst 0, 1) := by decide +kernel
theorem dX3_fade_3 : decode cX3_fade 3 = .ok (.istore_n 2, 1) := by decide +kernel
theorem dX3_fade_4 : decode cX3_fade 4 = .ok (.iload_n 2, 1) := by decide +kernel
theorem dX3_fade_5 : decode cX3_fade 5 = .ok (.aload_n 0, 1) := by decide +kernel
theorem dX3_fade_6 : decode cX3_fade 6 = .ok (.getfield 21, 3) := by decide +kernel
theorem dX3_fade_9 : decode cX3_fade 9 = .ok (.if_icmp .ge 61, 3) := by decide +kernel
theorem dX3_fade_12 : decode cX3_fade 12 = .ok (.aload_n 0, 1) := by decide +kernel
theorem dX3_fade_13 : decode cX3_fade 13 = .ok (.getfield 15, 3) := by decide +kernel
theorem dX3_fade_16 : decode cX3_fade 16 = .ok (.iload_n 2, 1) := by decide +kernel
theorem dX3_fade_17 : decode cX3_fade 17 = .ok (.iaload, 1) := by decide +kernel
theorem dX3_fade_18 : decode cX3_fade 18 = .ok (.aload_n 0, 1) := by decide +kernel
theorem dX3_fade_19 : decode cX3_fade 19 = .ok (.getfield 18, 3) := by decide +kernel
theorem dX3_fade_22 : decode cX3_fade 22 = .ok (.iload_n 2, 1) := by decide +kernel
theorem dX3_fade_23 : decode cX3_fade 23 = .ok (.iaload, 1) := by decide +kernel
theorem dX3_fade_24 : decode cX3_fade 24 = .ok (.isub, 1) := by decide +kernel
theorem dX3_fade_25 : decode cX3_fade 25 = .ok (.istore_n 3, 1) := by decide +kernel
theorem dX3_fade_26 : decode cX3_fade 26 = .ok (.iload_n 3, 1) := by decide +kernel
theorem dX3_fade_27 : decode cX3_fade 27 = .ok (.ifCond .le 37, 3) := by decide +kernel
theorem dX3_fade_30 : decode cX3_fade 30 = .ok (.aload_n 0, 1) := by decide +kernel
theorem dX3_fade_31 : decode cX3_fade 31 = .ok (.getfield 9, 3) := by decide +kernel
theorem dX3_fade_34 : decode cX3_fade 34 = .ok (.iload_n 1, 1) := by decide +kernel
theorem dX3_fade_35 : decode cX3_fade 35 = .ok (.aload_n 0, 1) := by decide +kernel
theorem dX3_fade_36 : decode cX3_fade 36 = .ok (.getfield 9, 3) := by decide +kernel
theorem dX3_fade_39 : decode cX3_fade 39 = .ok (.iload_n 2, 1) := by decide +kernel
theorem dX3_fade_40 : decode cX3_fade 40 = .ok (.iaload, 1) := by decide +kernel
theorem dX3_fade_41 : decode cX3_fade 41 = .ok (.iastore, 1) := by decide +kernel
theorem dX3_fade_42 : decode cX3_fade 42 = .ok (.aload_n 0, 1) := by decide +kernel
theorem dX3_fade_43 : decode cX3_fade 43 = .ok (.getfield 15, 3) := by decide +kernel
theorem dX3_fade_46 : decode cX3_fade 46 = .ok (.iload_n 1, 1) := by decide +kernel
theorem dX3_fade_47 : decode cX3_fade 47 = .ok (.iload_n 3, 1) := by decide +kernel
theorem dX3_fade_48 : decode cX3_fade 48 = .ok (.iastore, 1) := by decide +kernel
theorem dX3_fade_49 : decode cX3_fade 49 = .ok (.aload_n 0, 1) := by decide +kernel
theorem dX3_fade_50 : decode cX3_fade 50 = .ok (.getfield 18, 3) := by decide +kernel
theorem dX3_fade_53 : decode cX3_fade 53 = .ok (.iload_n 1, 1) := by decide +kernel
theorem dX3_fade_54 : decode cX3_fade 54 = .ok (.aload_n 0, 1) := by decide +kernel
theorem dX3_fade_55 : decode cX3_fade 55 = .ok (.getfield 18, 3) := by decide +kernel
theorem dX3_fade_58 : decode cX3_fade 58 = .ok (.iload_n 2, 1) := by decide +kernel
theorem dX3_fade_59 : decode cX3_fade 59 = .ok (.iaload, 1) := by decide +kernel
theorem dX3_fade_60 : decode cX3_fade 60 = .ok (.iastore, 1) := by decide +kernel
theorem dX3_fade_61 : decode cX3_fade 61 = .ok (.iinc 1 1, 3) := by decide +kernel
theorem dX3_fade_64 : decode cX3_fade 64 = .ok (.iinc 2 1, 3) := by decide +kernel
theorem dX3_fade_67 : decode cX3_fade 67 = .ok (.goto (-63), 3) := by decide +kernel
theorem dX3_fade_70 : decode cX3_fade 70 = .ok (.aload_n 0, 1) := by decide +kernel
theorem dX3_fade_71 : decode cX3_fade 71 = .ok (.iload_n 1, 1) := by decide +kernel
theorem dX3_fade_72 : decode cX3_fade 72 = .ok (.putfield 21, 3) := by decide +kernel
theorem dX3_fade_75 : decode cX3_fade 75 = .ok (.return_, 1) := by decide +kernel
theorem dX3_come_0 : decode cX3_come 0 = .ok (.iconst 0, 1) := by decide +kernel
theorem dX3_come_1 : decode cX3_come 1 = .ok (.istore 5, 2) := by decide +kernel
theorem dX3_come_3 : decode cX3_come 3 = .ok (.iload 5, 2) := by decide +kernel
theorem dX3_come_5 : decode cX3_come 5 = .ok (.aload_n 0, 1) := by decide +kernel
theorem dX3_come_6 : decode cX3_come 6 = .ok (.getfield 21, 3) := by decide +kernel
theorem dX3_come_9 : decode cX3_come 9 = .ok (.if_icmp .ge 20, 3) := by decide +kernel
theorem dX3_come_12 : decode cX3_come 12 = .ok (.aload_n 0, 1) := by decide +kernel
theorem dX3_come_13 : decode cX3_come 13 = .ok (.getfield 9, 3) := by decide +kernel
theorem dX3_come_16 : decode cX3_come 16 = .ok (.iload 5, 2) := by decide +kernel
theorem dX3_come_18 : decode cX3_come 18 = .ok (.iaload, 1) := by decide +kernel
theorem dX3_come_19 : decode cX3_come 19 = .ok (.iload_n 1, 1) := by decide +kernel
theorem dX3_come_20 : decode cX3_come 20 = .ok (.if_icmp .eq 9, 3) := by decide +kernel
theorem dX3_come_23 : decode cX3_come 23 = .ok (.iinc 5 1, 3) := by decide +kernel
theorem dX3_come_26 : decode cX3_come 26 = .ok (.goto (-23), 3) := by decide +kernel
theorem dX3_come_29 : decode cX3_come 29 = .ok (.iload 5, 2) := by decide +kernel
theorem dX3_come_31 : decode cX3_come 31 = .ok (.aload_n 0, 1) := by decide +kernel
theorem dX3_come_32 : decode cX3_come 32 = .ok (.getfield 21, 3) := by decide +kernel
theorem dX3_come_35 : decode cX3_come 35 = .ok (.if_icmp .ne 30, 3) := by decide +kernel
theorem dX3_come_38 : decode cX3_come 38 = .ok (.aload_n 0, 1) := by decide +kernel
theorem dX3_come_39 : decode cX3_come 39 = .ok (.getfield 21, 3) := by decide +kernel
theorem dX3_come_42 : decode cX3_come 42 = .ok (.iload 4, 2) := by decide +kernel
theorem dX3_come_44 : decode cX3_come 44 = .ok (.if_icmp .ge 21, 3) := by decide +kernel
theorem dX3_come_47 : decode cX3_come 47 = .ok (.aload_n 0, 1) := by decide +kernel
theorem dX3_come_48 : decode cX3_come 48 = .ok (.getfield 21, 3) := by decide +kernel
theorem dX3_come_51 : decode cX3_come 51 = .ok (.iconst 5, 1) := by decide +kernel
theorem dX3_come_52 : decode cX3_come 52 = .ok (.if_icmp .ge 13, 3) := by decide +kernel
theorem dX3_come_55 : decode cX3_come 55 = .ok (.aload_n 0, 1) := by decide +kernel
theorem dX3_come_56 : decode cX3_come 56 = .ok (.dup, 1) := by decide +kernel
theorem dX3_come_57 : decode cX3_come 57 = .ok (.getfield 21, 3) := by decide +kernel
theorem dX3_come_60 : decode cX3_come 60 = .ok (.iconst 1, 1) := by decide +kernel
theorem dX3_come_61 : decode cX3_come 61 = .ok (.iadd, 1) := by decide +kernel
theorem dX3_come_62 : decode cX3_come 62 = .ok (.putfield 21, 3) := by decide +kernel
theorem dX3_come_65 : decode cX3_come 65 = .ok (.iload 5, 2) := by decide +kernel
theorem dX3_come_67 : decode cX3_come 67 = .ok (.aload_n 0, 1) := by decide +kernel
theorem dX3_come_68 : decode cX3_come 68 = .ok (.getfield 21, 3) := by decide +kernel
theorem dX3_come_71 : decode cX3_come 71 = .ok (.if_icmp .ge 8, 3) := by decide +kernel
theorem dX3_come_74 : decode cX3_come 74 = .ok (.iload 5, 2) := by decide +kernel
theorem dX3_come_76 : decode cX3_come 76 = .ok (.goto 9, 3) := by decide +kernel
theorem dX3_come_79 : decode cX3_come 79 = .ok (.aload_n 0, 1) := by decide +kernel
theorem dX3_come_80 : decode cX3_come 80 = .ok (.getfield 21, 3) := by decide +kernel
theorem dX3_come_83 : decode cX3_come 83 = .ok (.iconst 1, 1) := by decide +kernel
theorem dX3_come_84 : decode cX3_come 84 = .ok (.isub, 1) := by decide +kernel
theorem dX3_come_85 : decode cX3_come 85 = .ok (.istore 6, 2) := by decide +kernel
theorem dX3_come_87 : decode cX3_come 87 = .ok (.iload 6, 2) := by decide +kernel
theorem dX3_come_89 : decode cX3_come 89 = .ok (.ifCond .le 57, 3) := by decide +kernel
theorem dX3_come_92 : decode cX3_come 92 = .ok (.aload_n 0, 1) := by decide +kernel
theorem dX3_come_93 : decode cX3_come 93 = .ok (.getfield 9, 3) := by decide +kernel
theorem dX3_come_96 : decode cX3_come 96 = .ok (.iload 6, 2) := by decide +kernel
theorem dX3_come_98 : decode cX3_come 98 = .ok (.aload_n 0, 1) := by decide +kernel
theorem dX3_come_99 : decode cX3_come 99 = .ok (.getfield 9, 3) := by decide +kernel
theorem dX3_come_102 : decode cX3_come 102 = .ok (.iload 6, 2) := by decide +kernel
theorem dX3_come_104 : decode cX3_come 104 = .ok (.iconst 1, 1) := by decide +kernel
theorem dX3_come_105 : decode cX3_come 105 = .ok (.isub, 1) := by decide +kernel
theorem dX3_come_106 : decode cX3_come 106 = .ok (.iaload, 1) := by decide +kernel
theorem dX3_come_107 : decode cX3_come 107 = .ok (.iastore, 1) := by decide +kernel
theorem dX3_come_108 : decode cX3_come 108 = .ok (.aload_n 0, 1) := by decide +kernel
theorem dX3_come_109 : decode cX3_come 109 = .ok (.getfield 15, 3) := by decide +kernel
theorem dX3_come_112 : decode cX3_come 112 = .ok (.iload 6, 2) := by decide +kernel
theorem dX3_come_114 : decode cX3_come 114 = .ok (.aload_n 0, 1) := by decide +kernel
theorem dX3_come_115 : decode cX3_come 115 = .ok (.getfield 15, 3) := by decide +kernel
theorem dX3_come_118 : decode cX3_come 118 = .ok (.iload 6, 2) := by decide +kernel
theorem dX3_come_120 : decode cX3_come 120 = .ok (.iconst 1, 1) := by decide +kernel
theorem dX3_come_121 : decode cX3_come 121 = .ok (.isub, 1) := by decide +kernel
theorem dX3_come_122 : decode cX3_come 122 = .ok (.iaload, 1) := by decide +kernel
theorem dX3_come_123 : decode cX3_come 123 = .ok (.iastore, 1) := by decide +kernel
theorem dX3_come_124 : decode cX3_come 124 = .ok (.aload_n 0, 1) := by decide +kernel
theorem dX3_come_125 : decode cX3_come 125 = .ok (.getfield 18, 3) := by decide +kernel
theorem dX3_come_128 : decode cX3_come 128 = .ok (.iload 6, 2) := by decide +kernel
theorem dX3_come_130 : decode cX3_come 130 = .ok (.aload_n 0, 1) := by decide +kernel
theorem dX3_come_131 : decode cX3_come 131 = .ok (.getfield 18, 3) := by decide +kernel
theorem dX3_come_134 : decode cX3_come 134 = .ok (.iload 6, 2) := by decide +kernel
theorem dX3_come_136 : decode cX3_come 136 = .ok (.iconst 1, 1) := by decide +kernel
theorem dX3_come_137 : decode cX3_come 137 = .ok (.isub, 1) := by decide +kernel
theorem dX3_come_138 : decode cX3_come 138 = .ok (.iaload, 1) := by decide +kernel
theorem dX3_come_139 : decode cX3_come 139 = .ok (.iastore, 1) := by decide +kernel
theorem dX3_come_140 : decode cX3_come 140 = .ok (.iinc 6 (-1), 3) := by decide +kernel
theorem dX3_come_143 : decode cX3_come 143 = .ok (.goto (-56), 3) := by decide +kernel
theorem dX3_come_146 : decode cX3_come 146 = .ok (.aload_n 0, 1) := by decide +kernel
theorem dX3_come_147 : decode cX3_come 147 = .ok (.getfield 9, 3) := by decide +kernel
theorem dX3_come_150 : decode cX3_come 150 = .ok (.iconst 0, 1) := by decide +kernel
theorem dX3_come_151 : decode cX3_come 151 = .ok (.iload_n 1, 1) := by decide +kernel
theorem dX3_come_152 : decode cX3_come 152 = .ok (.iastore, 1) := by decide +kernel
theorem dX3_come_153 : decode cX3_come 153 = .ok (.aload_n 0, 1) := by decide +kernel
theorem dX3_come_154 : decode cX3_come 154 = .ok (.getfield 15, 3) := by decide +kernel
theorem dX3_come_157 : decode cX3_come 157 = .ok (.iconst 0, 1) := by decide +kernel
theorem dX3_come_158 : decode cX3_come 158 = .ok (.iload_n 2, 1) := by decide +kernel
theorem dX3_come_159 : decode cX3_come 159 = .ok (.iastore, 1) := by decide +kernel
theorem dX3_come_160 : decode cX3_come 160 = .ok (.aload_n 0, 1) := by decide +kernel
theorem dX3_come_161 : decode cX3_come 161 = .ok (.getfield 18, 3) := by decide +kernel
theorem dX3_come_164 : decode cX3_come 164 = .ok (.iconst 0, 1) := by decide +kernel
theorem dX3_come_165 : decode cX3_come 165 = .ok (.iload_n 3, 1) := by decide +kernel
theorem dX3_come_166 : decode cX3_come 166 = .ok (.iastore, 1) := by decide +kernel
theorem dX3_come_167 : decode cX3_come 167 = .ok (.return_, 1) := by decide +kernel
theorem dX3_loseOver_0 : decode cX3_loseOver 0 = .ok (.iconst 0, 1) := by decide +kernel
theorem dX3_loseOver_1 : decode cX3_loseOver 1 = .ok (.istore_n 1, 1) := by decide +kernel
theorem dX3_loseOver_2 : decode cX3_loseOver 2 = .ok (.iload_n 1, 1) := by decide +kernel
theorem dX3_loseOver_3 : decode cX3_loseOver 3 = .ok (.iconst 1, 1) := by decide +kernel
theorem dX3_loseOver_4 : decode cX3_loseOver 4 = .ok (.iadd, 1) := by decide +kernel
theorem dX3_loseOver_5 : decode cX3_loseOver 5 = .ok (.aload_n 0, 1) := by decide +kernel
theorem dX3_loseOver_6 : decode cX3_loseOver 6 = .ok (.getfield 21, 3) := by decide +kernel
theorem dX3_loseOver_9 : decode cX3_loseOver 9 = .ok (.if_icmp .ge 58, 3) := by decide +kernel
theorem dX3_loseOver_12 : decode cX3_loseOver 12 = .ok (.aload_n 0, 1) := by decide +kernel
theorem dX3_loseOver_13 : decode cX3_loseOver 13 = .ok (.getfield 25, 3) := by decide +kernel
theorem dX3_loseOver_16 : decode cX3_loseOver 16 = .ok (.ifCond .ne 51, 3) := by decide +kernel
theorem dX3_loseOver_19 : decode cX3_loseOver 19 = .ok (.aload_n 0, 1) := by decide +kernel
theorem dX3_loseOver_20 : decode cX3_loseOver 20 = .ok (.getfield 9, 3) := by decide +kernel
theorem dX3_loseOver_23 : decode cX3_loseOver 23 = .ok (.iload_n 1, 1) := by decide +kernel
theorem dX3_loseOver_24 : decode cX3_loseOver 24 = .ok (.aload_n 0, 1) := by decide +kernel
theorem dX3_loseOver_25 : decode cX3_loseOver 25 = .ok (.getfield 9, 3) := by decide +kernel
theorem dX3_loseOver_28 : decode cX3_loseOver 28 = .ok (.iload_n 1, 1) := by decide +kernel
theorem dX3_loseOver_29 : decode cX3_loseOver 29 = .ok (.iconst 1, 1) := by decide +kernel
theorem dX3_loseOver_30 : decode cX3_loseOver 30 = .ok (.iadd, 1) := by decide +kernel
theorem dX3_loseOver_31 : decode cX3_loseOver 31 = .ok (.iaload, 1) := by decide +kernel
theorem dX3_loseOver_32 : decode cX3_loseOver 32 = .ok (.iastore, 1) := by decide +kernel
theorem dX3_loseOver_33 : decode cX3_loseOver 33 = .ok (.aload_n 0, 1) := by decide +kernel
theorem dX3_loseOver_34 : decode cX3_loseOver 34 = .ok (.getfield 15, 3) := by decide +kernel
theorem dX3_loseOver_37 : decode cX3_loseOver 37 = .ok (.iload_n 1, 1) := by decide +kernel
theorem dX3_loseOver_38 : decode cX3_loseOver 38 = .ok (.aload_n 0, 1) := by decide +kernel
theorem dX3_loseOver_39 : decode cX3_loseOver 39 = .ok (.getfield 15, 3) := by decide +kernel
theorem dX3_loseOver_42 : decode cX3_loseOver 42 = .ok (.iload_n 1, 1) := by decide +kernel
theorem dX3_loseOver_43 : decode cX3_loseOver 43 = .ok (.iconst 1, 1) := by decide +kernel
theorem dX3_loseOver_44 : decode cX3_loseOver 44 = .ok (.iadd, 1) := by decide +kernel
theorem dX3_loseOver_45 : decode cX3_loseOver 45 = .ok (.iaload, 1) := by decide +kernel
theorem dX3_loseOver_46 : decode cX3_loseOver 46 = .ok (.iastore, 1) := by decide +kernel
theorem dX3_loseOver_47 : decode cX3_loseOver 47 = .ok (.aload_n 0, 1) := by decide +kernel
theorem dX3_loseOver_48 : decode cX3_loseOver 48 = .ok (.getfield 18, 3) := by decide +kernel
theorem dX3_loseOver_51 : decode cX3_loseOver 51 = .ok (.iload_n 1, 1) := by decide +kernel
theorem dX3_loseOver_52 : decode cX3_loseOver 52 = .ok (.aload_n 0, 1) := by decide +kernel
theorem dX3_loseOver_53 : decode cX3_loseOver 53 = .ok (.getfield 18, 3) := by decide +kernel
theorem dX3_loseOver_56 : decode cX3_loseOver 56 = .ok (.iload_n 1, 1) := by decide +kernel
theorem dX3_loseOver_57 : decode cX3_loseOver 57 = .ok (.iconst 1, 1) := by decide +kernel
theorem dX3_loseOver_58 : decode cX3_loseOver 58 = .ok (.iadd, 1) := by decide +kernel
theorem dX3_loseOver_59 : decode cX3_loseOver 59 = .ok (.iaload, 1) := by decide +kernel
theorem dX3_loseOver_60 : decode cX3_loseOver 60 = .ok (.iastore, 1) := by decide +kernel
theorem dX3_loseOver_61 : decode cX3_loseOver 61 = .ok (.iinc 1 1, 3) := by decide +kernel
theorem dX3_loseOver_64 : decode cX3_loseOver 64 = .ok (.goto (-62), 3) := by decide +kernel
theorem dX3_loseOver_67 : decode cX3_loseOver 67 = .ok (.aload_n 0, 1) := by decide +kernel
theorem dX3_loseOver_68 : decode cX3_loseOver 68 = .ok (.getfield 21, 3) := by decide +kernel
theorem dX3_loseOver_71 : decode cX3_loseOver 71 = .ok (.ifCond .le 13, 3) := by decide +kernel
theorem dX3_loseOver_74 : decode cX3_loseOver 74 = .ok (.aload_n 0, 1) := by decide +kernel
theorem dX3_loseOver_75 : decode cX3_loseOver 75 = .ok (.dup, 1) := by decide +kernel
theorem dX3_loseOver_76 : decode cX3_loseOver 76 = .ok (.getfield 21, 3) := by decide +kernel
theorem dX3_loseOver_79 : decode cX3_loseOver 79 = .ok (.iconst 1, 1) := by decide +kernel
theorem dX3_loseOver_80 : decode cX3_loseOver 80 = .ok (.isub, 1) := by decide +kernel
theorem dX3_loseOver_81 : decode cX3_loseOver 81 = .ok (.putfield 21, 3) := by decide +kernel
theorem dX3_loseOver_84 : decode cX3_loseOver 84 = .ok (.return_, 1) := by decide +kernel
theorem dX4_init_0 : decode cX4_init 0 = .ok (.aload_n 0, 1) := by decide +kernel
theorem dX4_init_1 : decode cX4_init 1 = .ok (.invokespecial 3, 3) := by decide +kernel
theorem dX4_init_4 : decode cX4_init 4 = .ok (.aload_n 0, 1) := by decide +kernel
theorem dX4_init_5 : decode cX4_init 5 = .ok (.iconst 2, 1) := by decide +kernel
theorem dX4_init_6 : decode cX4_init 6 = .ok (.iconst 3, 1) := by decide +kernel
theorem dX4_init_7 : decode cX4_init 7 = .ok (.invokestatic 9, 3) := by decide +kernel
theorem dX4_init_10 : decode cX4_init 10 = .ok (.newarray .int, 2) := by decide +kernel
theorem dX4_init_12 : decode cX4_init 12 = .ok (.putfield 15, 3) := by decide +kernel
theorem dX4_init_15 : decode cX4_init 15 = .ok (.aload_n 0, 1) := by decide +kernel
theorem dX4_init_16 : decode cX4_init 16 = .ok (.iconst 0, 1) := by decide +kernel
theorem dX4_init_17 : decode cX4_init 17 = .ok (.putfield 21, 3) := by decide +kernel
theorem dX4_init_20 : decode cX4_init 20 = .ok (.aload_n 0, 1) := by decide +kernel
theorem dX4_init_21 : decode cX4_init 21 = .ok (.iconst 0, 1) := by decide +kernel
theorem dX4_init_22 : decode cX4_init 22 = .ok (.putfield 25, 3) := by decide +kernel
theorem dX4_init_25 : decode cX4_init 25 = .ok (.aload_n 0, 1) := by decide +kernel
theorem dX4_init_26 : decode cX4_init 26 = .ok (.iconst 0, 1) := by decide +kernel
theorem dX4_init_27 : decode cX4_init 27 = .ok (.putfield 28, 3) := by decide +kernel
theorem dX4_init_30 : decode cX4_init 30 = .ok (.aload_n 0, 1) := by decide +kernel
theorem dX4_init_31 : decode cX4_init 31 = .ok (.iconst 0, 1) := by decide +kernel
theorem dX4_init_32 : decode cX4_init 32 = .ok (.putfield 31, 3) := by decide +kernel
theorem dX4_init_35 : decode cX4_init 35 = .ok (.aload_n 0, 1) := by decide +kernel
theorem dX4_init_36 : decode cX4_init 36 = .ok (.iconst 0, 1) := by decide +kernel
theorem dX4_init_37 : decode cX4_init 37 = .ok (.putfield 34, 3) := by decide +kernel
theorem dX4_init_40 : decode cX4_init 40 = .ok (.aload_n 0, 1) := by decide +kernel
theorem dX4_init_41 : decode cX4_init 41 = .ok (.aload_n 1, 1) := by decide +kernel
theorem dX4_init_42 : decode cX4_init 42 = .ok (.putfield 37, 3) := by decide +kernel
theorem dX4_init_45 : decode cX4_init 45 = .ok (.return_, 1) := by decide +kernel
theorem dX4_aim_0 : decode cX4_aim 0 = .ok (.aload_n 0, 1) := by decide +kernel
theorem dX4_aim_1 : decode cX4_aim 1 = .ok (.iload_n 1, 1) := by decide +kernel
theorem dX4_aim_2 : decode cX4_aim 2 = .ok (.putfield 25, 3) := by decide +kernel
theorem dX4_aim_5 : decode cX4_aim 5 = .ok (.aload_n 0, 1) := by decide +kernel
theorem dX4_aim_6 : decode cX4_aim 6 = .ok (.iload_n 2, 1) := by decide +kernel
theorem dX4_aim_7 : decode cX4_aim 7 = .ok (.putfield 28, 3) := by decide +kernel
theorem dX4_aim_10 : decode cX4_aim 10 = .ok (.aload_n 0, 1) := by decide +kernel
theorem dX4_aim_11 : decode cX4_aim 11 = .ok (.iload_n 3, 1) := by decide +kernel
theorem dX4_aim_12 : decode cX4_aim 12 = .ok (.putfield 31, 3) := by decide +kernel
theorem dX4_aim_15 : decode cX4_aim 15 = .ok (.aload_n 0, 1) := by decide +kernel
theorem dX4_aim_16 : decode cX4_aim 16 = .ok (.iload 4, 2) := by decide +kernel
theorem dX4_aim_18 : decode cX4_aim 18 = .ok (.putfield 34, 3) := by decide +kernel
theorem dX4_aim_21 : decode cX4_aim 21 = .ok (.aload_n 0, 1) := by decide +kernel
theorem dX4_aim_22 : decode cX4_aim 22 = .ok (.iconst 0, 1) := by decide +kernel
theorem dX4_aim_23 : decode cX4_aim 23 = .ok (.putfield 21, 3) := by decide +kernel
theorem dX4_aim_26 : decode cX4_aim 26 = .ok (.return_, 1) := by decide +kernel
theorem dX4_answer_0 : decode cX4_answer 0 = .ok (.aload_n 0, 1) := by decide +kernel
theorem dX4_answer_1 : decode cX4_answer 1 = .ok (.getfield 21, 3) := by decide +kernel
theorem dX4_answer_4 : decode cX4_answer 4 = .ok (.iconst (-1), 1) := by decide +kernel
theorem dX4_answer_5 : decode cX4_answer 5 = .ok (.if_icmp .eq 8, 3) := by decide +kernel
theorem dX4_answer_8 : decode cX4_answer 8 = .ok (.iload_n 1, 1) := by decide +kernel
theorem dX4_answer_9 : decode cX4_answer 9 = .ok (.iconst (-1), 1) := by decide +kernel
theorem dX4_answer_10 : decode cX4_answer 10 = .ok (.if_icmp .ne 8, 3) := by decide +kernel
theorem dX4_answer_13 : decode cX4_answer 13 = .ok (.aload_n 0, 1) := by decide +kernel
theorem dX4_answer_14 : decode cX4_answer 14 = .ok (.getfield 21, 3) := by decide +kernel
theorem dX4_answer_17 : decode cX4_answer 17 = .ok (.ireturn, 1) := by decide +kernel
theorem dX4_answer_18 : decode cX4_answer 18 = .ok (.iload_n 1, 1) := by decide +kernel
theorem dX4_answer_19 : decode cX4_answer 19 = .ok (.ifCond .lt 29, 3) := by decide +kernel
theorem dX4_answer_22 : decode cX4_answer 22 = .ok (.iload_n 1, 1) := by decide +kernel
theorem dX4_answer_23 : decode cX4_answer 23 = .ok (.aload_n 0, 1) := by decide +kernel
theorem dX4_answer_24 : decode cX4_answer 24 = .ok (.getfield 21, 3) := by decide +kernel
theorem dX4_answer_27 : decode cX4_answer 27 = .ok (.if_icmp .ge 21, 3) := by decide +kernel
theorem dX4_answer_30 : decode cX4_answer 30 = .ok (.iload_n 1, 1) := by decide +kernel
theorem dX4_answer_31 : decode cX4_answer 31 = .ok (.aload_n 0, 1) := by decide +kernel
theorem dX4_answer_32 : decode cX4_answer 32 = .ok (.getfield 15, 3) := by decide +kernel
theorem dX4_answer_35 : decode cX4_answer 35 = .ok (.arraylength, 1) := by decide +kernel
theorem dX4_answer_36 : decode cX4_answer 36 = .ok (.if_icmp .ge 12, 3) := by decide +kernel
theorem dX4_answer_39 : decode cX4_answer 39 = .ok (.aload_n 0, 1) := by decide +kernel
theorem dX4_answer_40 : decode cX4_answer 40 = .ok (.getfield 15, 3) := by decide +kernel
theorem dX4_answer_43 : decode cX4_answer 43 = .ok (.iload_n 1, 1) := by decide +kernel
theorem dX4_answer_44 : decode cX4_answer 44 = .ok (.iaload, 1) := by decide +kernel
theorem dX4_answer_45 : decode cX4_answer 45 = .ok (.goto 4, 3) := by decide +kernel
theorem dX4_answer_48 : decode cX4_answer 48 = .ok (.iconst (-1), 1) := by decide +kernel
theorem dX4_answer_49 : decode cX4_answer 49 = .ok (.ireturn, 1) := by decide +kernel
theorem dX4_seat_0 : decode cX4_seat 0 = .ok (.iconst 0, 1) := by decide +kernel
theorem dX4_seat_1 : decode cX4_seat 1 = .ok (.istore_n 3, 1) := by decide +kernel
theorem dX4_seat_2 : decode cX4_seat 2 = .ok (.iload_n 3, 1) := by decide +kernel
theorem dX4_seat_3 : decode cX4_seat 3 = .ok (.aload_n 0, 1) := by decide +kernel
theorem dX4_seat_4 : decode cX4_seat 4 = .ok (.getfield 37, 3) := by decide +kernel
theorem dX4_seat_7 : decode cX4_seat 7 = .ok (.getfield 41, 3) := by decide +kernel
theorem dX4_seat_10 : decode cX4_seat 10 = .ok (.getfield 47, 3) := by decide +kernel
theorem dX4_seat_13 : decode cX4_seat 13 = .ok (.if_icmp .ge 56, 3) := by decide +kernel
theorem dX4_seat_16 : decode cX4_seat 16 = .ok (.aload_n 0, 1) := by decide +kernel
theorem dX4_seat_17 : decode cX4_seat 17 = .ok (.getfield 21, 3) := by decide +kernel
theorem dX4_seat_20 : decode cX4_seat 20 = .ok (.iconst (-1), 1) := by decide +kernel
theorem dX4_seat_21 : decode cX4_seat 21 = .ok (.if_icmp .eq 48, 3) := by decide +kernel
theorem dX4_seat_24 : decode cX4_seat 24 = .ok (.iload_n 1, 1) := by decide +kernel
theorem dX4_seat_25 : decode cX4_seat 25 = .ok (.iload_n 3, 1) := by decide +kernel
theorem dX4_seat_26 : decode cX4_seat 26 = .ok (.invokestatic 52, 3) := by decide +kernel
theorem dX4_seat_29 : decode cX4_seat 29 = .ok (.ifCond .eq 34, 3) := by decide +kernel
theorem dX4_seat_32 : decode cX4_seat 32 = .ok (.aload_n 0, 1) := by decide +kernel
theorem dX4_seat_33 : decode cX4_seat 33 = .ok (.iload_n 3, 1) := by decide +kernel
theorem dX4_seat_34 : decode cX4_seat 34 = .ok (.invokevirtual 56, 3) := by decide +kernel
theorem dX4_seat_37 : decode cX4_seat 37 = .ok (.ifCond .ne 26, 3) := by decide +kernel
theorem dX4_seat_40 : decode cX4_seat 40 = .ok (.aload_n 0, 1) := by decide +kernel
theorem dX4_seat_41 : decode cX4_seat 41 = .ok (.iload_n 3, 1) := by decide +kernel
theorem dX4_seat_42 : decode cX4_seat 42 = .ok (.iload_n 2, 1) := by decide +kernel
theorem dX4_seat_43 : decode cX4_seat 43 = .ok (.invokevirtual 60, 3) := by decide +kernel
theorem dX4_seat_46 : decode cX4_seat 46 = .ok (.ifCond .ne 17, 3) := by decide +kernel
theorem dX4_seat_49 : decode cX4_seat 49 = .ok (.aload_n 0, 1) := by decide +kernel
theorem dX4_seat_50 : decode cX4_seat 50 = .ok (.iload_n 3, 1) := by decide +kernel
theorem dX4_seat_51 : decode cX4_seat 51 = .ok (.iload_n 2, 1) := by decide +kernel
theorem dX4_seat_52 : decode cX4_seat 52 = .ok (.invokevirtual 63, 3) := by decide +kernel
theorem dX4_seat_55 : decode cX4_seat 55 = .ok (.ifCond .ne 8, 3) := by decide +kernel
theorem dX4_seat_58 : decode cX4_seat 58 = .ok (.aload_n 0, 1) := by decide +kernel
theorem dX4_seat_59 : decode cX4_seat 59 = .ok (.iconst (-1), 1) := by decide +kernel
theorem dX4_seat_60 : decode cX4_seat 60 = .ok (.putfield 21, 3) := by decide +kernel
theorem dX4_seat_63 : decode cX4_seat 63 = .ok (.iinc 3 1, 3) := by decide +kernel
theorem dX4_seat_66 : decode cX4_seat 66 = .ok (.goto (-64), 3) := by decide +kernel
theorem dX4_seat_69 : decode cX4_seat 69 = .ok (.return_, 1) := by decide +kernel
theorem dX4_seatOne_0 : decode cX4_seatOne 0 = .ok (.iconst 0, 1) := by decide +kernel
theorem dX4_seatOne_1 : decode cX4_seatOne 1 = .ok (.istore_n 3, 1) := by decide +kernel
theorem dX4_seatOne_2 : decode cX4_seatOne 2 = .ok (.iload_n 3, 1) := by decide +kernel
theorem dX4_seatOne_3 : decode cX4_seatOne 3 = .ok (.aload_n 0, 1) := by decide +kernel
theorem dX4_seatOne_4 : decode cX4_seatOne 4 = .ok (.getfield 37, 3) := by decide +kernel
theorem dX4_seatOne_7 : decode cX4_seatOne 7 = .ok (.getfield 66, 3) := by decide +kernel
theorem dX4_seatOne_10 : decode cX4_seatOne 10 = .ok (.getfield 47, 3) := by decide +kernel
theorem dX4_seatOne_13 : decode cX4_seatOne 13 = .ok (.if_icmp .ge 36, 3) := by decide +kernel
theorem dX4_seatOne_16 : decode cX4_seatOne 16 = .ok (.iload_n 3, 1) := by decide +kernel
theorem dX4_seatOne_17 : decode cX4_seatOne 17 = .ok (.iload_n 2, 1) := by decide +kernel
theorem dX4_seatOne_18 : decode cX4_seatOne 18 = .ok (.if_icmp .eq 25, 3) := by decide +kernel
theorem dX4_seatOne_21 : decode cX4_seatOne 21 = .ok (.aload_n 0, 1) := by decide +kernel
theorem dX4_seatOne_22 : decode cX4_seatOne 22 = .ok (.iload_n 1, 1) := by decide +kernel
theorem dX4_seatOne_23 : decode cX4_seatOne 23 = .ok (.iload_n 3, 1) := by decide +kernel
theorem dX4_seatOne_24 : decode cX4_seatOne 24 = .ok (.invokevirtual 69, 3) := by decide +kernel
theorem dX4_seatOne_27 : decode cX4_seatOne 27 = .ok (.ifCond .eq 16, 3) := by decide +kernel
theorem dX4_seatOne_30 : decode cX4_seatOne 30 = .ok (.aload_n 0, 1) := by decide +kernel
theorem dX4_seatOne_31 : decode cX4_seatOne 31 = .ok (.bipush 8, 2) := by decide +kernel
theorem dX4_seatOne_33 : decode cX4_seatOne 33 = .ok (.iload_n 1, 1) := by decide +kernel
theorem dX4_seatOne_34 : decode cX4_seatOne 34 = .ok (.imul, 1) := by decide +kernel
theorem dX4_seatOne_35 : decode cX4_seatOne 35 = .ok (.iload_n 3, 1) := by decide +kernel
theorem dX4_seatOne_36 : decode cX4_seatOne 36 = .ok (.iadd, 1) := by decide +kernel
theorem dX4_seatOne_37 : decode cX4_seatOne 37 = .ok (.iconst 2, 1) := by decide +kernel
theorem dX4_seatOne_38 : decode cX4_seatOne 38 = .ok (.invokevirtual 72, 3) := by decide +kernel
theorem dX4_seatOne_41 : decode cX4_seatOne 41 = .ok (.iconst 1, 1) := by decide +kernel
theorem dX4_seatOne_42 : decode cX4_seatOne 42 = .ok (.ireturn, 1) := by decide +kernel
theorem dX4_seatOne_43 : decode cX4_seatOne 43 = .ok (.iinc 3 1, 3) := by decide +kernel
theorem dX4_seatOne_46 : decode cX4_seatOne 46 = .ok (.goto (-44), 3) := by decide +kernel
theorem dX4_seatOne_49 : decode cX4_seatOne 49 = .ok (.iconst 0, 1) := by decide +kernel
theorem dX4_seatOne_50 : decode cX4_seatOne 50 = .ok (.ireturn, 1) := by decide +kernel
theorem dX4_seatTwo_0 : decode cX4_seatTwo 0 = .ok (.iconst 0, 1) := by decide +kernel
theorem dX4_seatTwo_1 : decode cX4_seatTwo 1 = .ok (.istore_n 3, 1) := by decide +kernel
theorem dX4_seatTwo_2 : decode cX4_seatTwo 2 = .ok (.iload_n 3, 1) := by decide +kernel
theorem dX4_seatTwo_3 : decode cX4_seatTwo 3 = .ok (.aload_n 0, 1) := by decide +kernel
theorem dX4_seatTwo_4 : decode cX4_seatTwo 4 = .ok (.getfield 37, 3) := by decide +kernel
theorem dX4_seatTwo_7 : decode cX4_seatTwo 7 = .ok (.getfield 66, 3) := by decide +kernel
theorem dX4_seatTwo_10 : decode cX4_seatTwo 10 = .ok (.getfield 47, 3) := by decide +kernel
theorem dX4_seatTwo_13 : decode cX4_seatTwo 13 = .ok (.if_icmp .ge 129, 3) := by decide +kernel
theorem dX4_seatTwo_16 : decode cX4_seatTwo 16 = .ok (.iload_n 3, 1) := by decide +kernel
theorem dX4_seatTwo_17 : decode cX4_seatTwo 17 = .ok (.iload_n 2, 1) := by decide +kernel
theorem dX4_seatTwo_18 : decode cX4_seatTwo 18 = .ok (.if_icmp .ne 6, 3) := by decide +kernel
theorem dX4_seatTwo_21 : decode cX4_seatTwo 21 = .ok (.goto 115, 3) := by decide +kernel
theorem dX4_seatTwo_24 : decode cX4_seatTwo 24 = .ok (.aload_n 0, 1) := by decide +kernel
theorem dX4_seatTwo_25 : decode cX4_seatTwo 25 = .ok (.getfield 37, 3) := by decide +kernel
theorem dX4_seatTwo_28 : decode cX4_seatTwo 28 = .ok (.getfield 76, 3) := by decide +kernel
theorem dX4_seatTwo_31 : decode cX4_seatTwo 31 = .ok (.aload_n 0, 1) := by decide +kernel
theorem dX4_seatTwo_32 : decode cX4_seatTwo 32 = .ok (.getfield 25, 3) := by decide +kernel
theorem dX4_seatTwo_35 : decode cX4_seatTwo 35 = .ok (.iload_n 1, 1) := by decide +kernel
theorem dX4_seatTwo_36 : decode cX4_seatTwo 36 = .ok (.iload_n 3, 1) := by decide +kernel
theorem dX4_seatTwo_37 : decode cX4_seatTwo 37 = .ok (.invokevirtual 80, 3) := by decide +kernel
theorem dX4_seatTwo_40 : decode cX4_seatTwo 40 = .ok (.iconst (-1), 1) := by decide +kernel
theorem dX4_seatTwo_41 : decode cX4_seatTwo 41 = .ok (.istore 4, 2) := by decide +kernel
theorem dX4_seatTwo_43 : decode cX4_seatTwo 43 = .ok (.iload_n 3, 1) := by decide +kernel
theorem dX4_seatTwo_44 : decode cX4_seatTwo 44 = .ok (.iconst 1, 1) := by decide +kernel
theorem dX4_seatTwo_45 : decode cX4_seatTwo 45 = .ok (.iadd, 1) := by decide +kernel
theorem dX4_seatTwo_46 : decode cX4_seatTwo 46 = .ok (.istore 5, 2) := by decide +kernel
theorem dX4_seatTwo_48 : decode cX4_seatTwo 48 = .ok (.iload 5, 2) := by decide +kernel
theorem dX4_seatTwo_50 : decode cX4_seatTwo 50 = .ok (.aload_n 0, 1) := by decide +kernel
theorem dX4_seatTwo_51 : decode cX4_seatTwo 51 = .ok (.getfield 37, 3) := by decide +kernel
theorem dX4_seatTwo_54 : decode cX4_seatTwo 54 = .ok (.getfield 66, 3) := by decide +kernel
theorem dX4_seatTwo_57 : decode cX4_seatTwo 57 = .ok (.getfield 47, 3) := by decide +kernel
theorem dX4_seatTwo_60 : decode cX4_seatTwo 60 = .ok (.if_icmp .ge 35, 3) := by decide +kernel
theorem dX4_seatTwo_63 : decode cX4_seatTwo 63 = .ok (.iload 4, 2) := by decide +kernel
theorem dX4_seatTwo_65 : decode cX4_seatTwo 65 = .ok (.iconst (-1), 1) := by decide +kernel
theorem dX4_seatTwo_66 : decode cX4_seatTwo 66 = .ok (.if_icmp .ne 29, 3) := by decide +kernel
theorem dX4_seatTwo_69 : decode cX4_seatTwo 69 = .ok (.iload 5, 2) := by decide +kernel
theorem dX4_seatTwo_71 : decode cX4_seatTwo 71 = .ok (.iload_n 2, 1) := by decide +kernel
theorem dX4_seatTwo_72 : decode cX4_seatTwo 72 = .ok (.if_icmp .eq 17, 3) := by decide +kernel
theorem dX4_seatTwo_75 : decode cX4_seatTwo 75 = .ok (.aload_n 0, 1) := by decide +kernel
theorem dX4_seatTwo_76 : decode cX4_seatTwo 76 = .ok (.iload_n 1, 1) := by decide +kernel
theorem dX4_seatTwo_77 : decode cX4_seatTwo 77 = .ok (.iload 5, 2) := by decide +kernel
theorem dX4_seatTwo_79 : decode cX4_seatTwo 79 = .ok (.invokevirtual 69, 3) := by decide +kernel
theorem dX4_seatTwo_82 : decode cX4_seatTwo 82 = .ok (.ifCond .eq 7, 3) := by decide +kernel
theorem dX4_seatTwo_85 : decode cX4_seatTwo 85 = .ok (.iload 5, 2) := by decide +kernel
theorem dX4_seatTwo_87 : decode cX4_seatTwo 87 = .ok (.istore 4, 2) := by decide +kernel
theorem dX4_seatTwo_89 : decode cX4_seatTwo 89 = .ok (.iinc 5 1, 3) := by decide +kernel
theorem dX4_seatTwo_92 : decode cX4_seatTwo 92 = .ok (.goto (-44), 3) := by decide +kernel
theorem dX4_seatTwo_95 : decode cX4_seatTwo 95 = .ok (.aload_n 0, 1) := by decide +kernel
theorem dX4_seatTwo_96 : decode cX4_seatTwo 96 = .ok (.getfield 37, 3) := by decide +kernel
theorem dX4_seatTwo_99 : decode cX4_seatTwo 99 = .ok (.getfield 76, 3) := by decide +kernel
theorem dX4_seatTwo_102 : decode cX4_seatTwo 102 = .ok (.invokevirtual 86, 3) := by decide +kernel
theorem dX4_seatTwo_105 : decode cX4_seatTwo 105 = .ok (.iload 4, 2) := by decide +kernel
theorem dX4_seatTwo_107 : decode cX4_seatTwo 107 = .ok (.iconst (-1), 1) := by decide +kernel
theorem dX4_seatTwo_108 : decode cX4_seatTwo 108 = .ok (.if_icmp .eq 28, 3) := by decide +kernel
theorem dX4_seatTwo_111 : decode cX4_seatTwo 111 = .ok (.aload_n 0, 1) := by decide +kernel
theorem dX4_seatTwo_112 : decode cX4_seatTwo 112 = .ok (.bipush 8, 2) := by decide +kernel
theorem dX4_seatTwo_114 : decode cX4_seatTwo 114 = .ok (.iload_n 1, 1) := by decide +kernel
theorem dX4_seatTwo_115 : decode cX4_seatTwo 115 = .ok (.imul, 1) := by decide +kernel
theorem dX4_seatTwo_116 : decode cX4_seatTwo 116 = .ok (.iload_n 3, 1) := by decide +kernel
theorem dX4_seatTwo_117 : decode cX4_seatTwo 117 = .ok (.iadd, 1) := by decide +kernel
theorem dX4_seatTwo_118 : decode cX4_seatTwo 118 = .ok (.iconst 2, 1) := by decide +kernel
theorem dX4_seatTwo_119 : decode cX4_seatTwo 119 = .ok (.invokevirtual 72, 3) := by decide +kernel
theorem dX4_seatTwo_122 : decode cX4_seatTwo 122 = .ok (.aload_n 0, 1) := by decide +kernel
theorem dX4_seatTwo_123 : decode cX4_seatTwo 123 = .ok (.bipush 8, 2) := by decide +kernel
theorem dX4_seatTwo_125 : decode cX4_seatTwo 125 = .ok (.iload_n 1, 1) := by decide +kernel
theorem dX4_seatTwo_126 : decode cX4_seatTwo 126 = .ok (.imul, 1) := by decide +kernel
theorem dX4_seatTwo_127 : decode cX4_seatTwo 127 = .ok (.iload 4, 2) := by decide +kernel
theorem dX4_seatTwo_129 : decode cX4_seatTwo 129 = .ok (.iadd, 1) := by decide +kernel
theorem dX4_seatTwo_130 : decode cX4_seatTwo 130 = .ok (.iconst 2, 1) := by decide +kernel
theorem dX4_seatTwo_131 : decode cX4_seatTwo 131 = .ok (.invokevirtual 72, 3) := by decide +kernel
theorem dX4_seatTwo_134 : decode cX4_seatTwo 134 = .ok (.iconst 1, 1) := by decide +kernel
theorem dX4_seatTwo_135 : decode cX4_seatTwo 135 = .ok (.ireturn, 1) := by decide +kernel
theorem dX4_seatTwo_136 : decode cX4_seatTwo 136 = .ok (.iinc 3 1, 3) := by decide +kernel
theorem dX4_seatTwo_139 : decode cX4_seatTwo 139 = .ok (.goto (-137), 3) := by decide +kernel
theorem dX4_seatTwo_142 : decode cX4_seatTwo 142 = .ok (.iconst 0, 1) := by decide +kernel
theorem dX4_seatTwo_143 : decode cX4_seatTwo 143 = .ok (.ireturn, 1) := by decide +kernel
theorem dX4_comesOutWith_0 : decode cX4_comesOutWith 0 = .ok (.aload_n 0, 1) := by decide +kernel
theorem dX4_comesOutWith_1 : decode cX4_comesOutWith 1 = .ok (.getfield 37, 3) := by decide +kernel
theorem dX4_comesOutWith_4 : decode cX4_comesOutWith 4 = .ok (.getfield 76, 3) := by decide +kernel
theorem dX4_comesOutWith_7 : decode cX4_comesOutWith 7 = .ok (.aload_n 0, 1) := by decide +kernel
theorem dX4_comesOutWith_8 : decode cX4_comesOutWith 8 = .ok (.getfield 25, 3) := by decide +kernel
theorem dX4_comesOutWith_11 : decode cX4_comesOutWith 11 = .ok (.iload_n 1, 1) := by decide +kernel
theorem dX4_comesOutWith_12 : decode cX4_comesOutWith 12 = .ok (.iload_n 2, 1) := by decide +kernel
theorem dX4_comesOutWith_13 : decode cX4_comesOutWith 13 = .ok (.invokevirtual 80, 3) := by decide +kernel
theorem dX4_comesOutWith_16 : decode cX4_comesOutWith 16 = .ok (.aload_n 0, 1) := by decide +kernel
theorem dX4_comesOutWith_17 : decode cX4_comesOutWith 17 = .ok (.getfield 37, 3) := by decide +kernel
theorem dX4_comesOutWith_20 : decode cX4_comesOutWith 20 = .ok (.iload_n 1, 1) := by decide +kernel
theorem dX4_comesOutWith_21 : decode cX4_comesOutWith 21 = .ok (.aload_n 0, 1) := by decide +kernel
theorem dX4_comesOutWith_22 : decode cX4_comesOutWith 22 = .ok (.getfield 28, 3) := by decide +kernel
theorem dX4_comesOutWith_25 : decode cX4_comesOutWith 25 = .ok (.iconst 0, 1) := by decide +kernel
theorem dX4_comesOutWith_26 : decode cX4_comesOutWith 26 = .ok (.invokevirtual 89, 3) := by decide +kernel
theorem dX4_comesOutWith_29 : decode cX4_comesOutWith 29 = .ok (.istore_n 3, 1) := by decide +kernel
theorem dX4_comesOutWith_30 : decode cX4_comesOutWith 30 = .ok (.aload_n 0, 1) := by decide +kernel
theorem dX4_comesOutWith_31 : decode cX4_comesOutWith 31 = .ok (.getfield 37, 3) := by decide +kernel
theorem dX4_comesOutWith_34 : decode cX4_comesOutWith 34 = .ok (.getfield 76, 3) := by decide +kernel
theorem dX4_comesOutWith_37 : decode cX4_comesOutWith 37 = .ok (.invokevirtual 86, 3) := by decide +kernel
theorem dX4_comesOutWith_40 : decode cX4_comesOutWith 40 = .ok (.iload_n 3, 1) := by decide +kernel
theorem dX4_comesOutWith_41 : decode cX4_comesOutWith 41 = .ok (.aload_n 0, 1) := by decide +kernel
theorem dX4_comesOutWith_42 : decode cX4_comesOutWith 42 = .ok (.getfield 31, 3) := by decide +kernel
theorem dX4_comesOutWith_45 : decode cX4_comesOutWith 45 = .ok (.iand, 1) := by decide +kernel
theorem dX4_comesOutWith_46 : decode cX4_comesOutWith 46 = .ok (.aload_n 0, 1) := by decide +kernel
theorem dX4_comesOutWith_47 : decode cX4_comesOutWith 47 = .ok (.getfield 34, 3) := by decide +kernel
theorem dX4_comesOutWith_50 : decode cX4_comesOutWith 50 = .ok (.if_icmp .ne 7, 3) := by decide +kernel
theorem dX4_comesOutWith_53 : decode cX4_comesOutWith 53 = .ok (.iconst 1, 1) := by decide +kernel
theorem dX4_comesOutWith_54 : decode cX4_comesOutWith 54 = .ok (.goto 4, 3) := by decide +kernel
theorem dX4_comesOutWith_57 : decode cX4_comesOutWith 57 = .ok (.iconst 0, 1) := by decide +kernel
theorem dX4_comesOutWith_58 : decode cX4_comesOutWith 58 = .ok (.ireturn, 1) := by decide +kernel
theorem dX4_open_0 : decode cX4_open 0 = .ok (.iconst 0, 1) := by decide +kernel
theorem dX4_open_1 : decode cX4_open 1 = .ok (.istore_n 2, 1) := by decide +kernel
theorem dX4_open_2 : decode cX4_open 2 = .ok (.iload_n 2, 1) := by decide +kernel
theorem dX4_open_3 : decode cX4_open 3 = .ok (.aload_n 0, 1) := by decide +kernel
theorem dX4_open_4 : decode cX4_open 4 = .ok (.getfield 37, 3) := by decide +kernel
theorem dX4_open_7 : decode cX4_open 7 = .ok (.getfield 41, 3) := by decide +kernel
theorem dX4_open_10 : decode cX4_open 10 = .ok (.getfield 47, 3) := by decide +kernel
theorem dX4_open_13 : decode cX4_open 13 = .ok (.if_icmp .ge 30, 3) := by decide +kernel
theorem dX4_open_16 : decode cX4_open 16 = .ok (.aload_n 0, 1) := by decide +kernel
theorem dX4_open_17 : decode cX4_open 17 = .ok (.getfield 21, 3) := by decide +kernel
theorem dX4_open_20 : decode cX4_open 20 = .ok (.iconst (-1), 1) := by decide +kernel
theorem dX4_open_21 : decode cX4_open 21 = .ok (.if_icmp .eq 22, 3) := by decide +kernel
theorem dX4_open_24 : decode cX4_open 24 = .ok (.iload_n 1, 1) := by decide +kernel
theorem dX4_open_25 : decode cX4_open 25 = .ok (.iload_n 2, 1) := by decide +kernel
theorem dX4_open_26 : decode cX4_open 26 = .ok (.invokestatic 52, 3) := by decide +kernel
theorem dX4_open_29 : decode cX4_open 29 = .ok (.ifCond .eq 8, 3) := by decide +kernel
theorem dX4_open_32 : decode cX4_open 32 = .ok (.aload_n 0, 1) := by decide +kernel
theorem dX4_open_33 : decode cX4_open 33 = .ok (.iload_n 2, 1) := by decide +kernel
theorem dX4_open_34 : decode cX4_open 34 = .ok (.invokevirtual 93, 3) := by decide +kernel
theorem dX4_open_37 : decode cX4_open 37 = .ok (.iinc 2 1, 3) := by decide +kernel
theorem dX4_open_40 : decode cX4_open 40 = .ok (.goto (-38), 3) := by decide +kernel
theorem dX4_open_43 : decode cX4_open 43 = .ok (.return_, 1) := by decide +kernel
theorem dX4_openAt_0 : decode cX4_openAt 0 = .ok (.iconst 0, 1) := by decide +kernel
theorem dX4_openAt_1 : decode cX4_openAt 1 = .ok (.istore_n 2, 1) := by decide +kernel
theorem dX4_openAt_2 : decode cX4_openAt 2 = .ok (.iload_n 2, 1) := by decide +kernel
theorem dX4_openAt_3 : decode cX4_openAt 3 = .ok (.iconst 3, 1) := by decide +kernel
theorem dX4_openAt_4 : decode cX4_openAt 4 = .ok (.if_icmp .ge 33, 3) := by decide +kernel
theorem dX4_openAt_7 : decode cX4_openAt 7 = .ok (.aload_n 0, 1) := by decide +kernel
theorem dX4_openAt_8 : decode cX4_openAt 8 = .ok (.iload_n 1, 1) := by decide +kernel
theorem dX4_openAt_9 : decode cX4_openAt 9 = .ok (.invokevirtual 56, 3) := by decide +kernel
theorem dX4_openAt_12 : decode cX4_openAt 12 = .ok (.ifCond .ne 25, 3) := by decide +kernel
theorem dX4_openAt_15 : decode cX4_openAt 15 = .ok (.aload_n 0, 1) := by decide +kernel
theorem dX4_openAt_16 : decode cX4_openAt 16 = .ok (.getfield 37, 3) := by decide +kernel
theorem dX4_openAt_19 : decode cX4_openAt 19 = .ok (.getfield 97, 3) := by decide +kernel
theorem dX4_openAt_22 : decode cX4_openAt 22 = .ok (.aload_n 0, 1) := by decide +kernel
theorem dX4_openAt_23 : decode cX4_openAt 23 = .ok (.getfield 25, 3) := by decide +kernel
theorem dX4_openAt_26 : decode cX4_openAt 26 = .ok (.iload_n 1, 1) := by decide +kernel
theorem dX4_openAt_27 : decode cX4_openAt 27 = .ok (.iconst 0, 1) := by decide +kernel
theorem dX4_openAt_28 : decode cX4_openAt 28 = .ok (.invokevirtual 80, 3) := by decide +kernel
theorem dX4_openAt_31 : decode cX4_openAt 31 = .ok (.iinc 2 1, 3) := by decide +kernel
theorem dX4_openAt_34 : decode cX4_openAt 34 = .ok (.goto (-32), 3) := by decide +kernel
theorem dX4_openAt_37 : decode cX4_openAt 37 = .ok (.aload_n 0, 1) := by decide +kernel
theorem dX4_openAt_38 : decode cX4_openAt 38 = .ok (.iload_n 1, 1) := by decide +kernel
theorem dX4_openAt_39 : decode cX4_openAt 39 = .ok (.invokevirtual 56, 3) := by decide +kernel
theorem dX4_openAt_42 : decode cX4_openAt 42 = .ok (.istore_n 3, 1) := by decide +kernel
theorem dX4_openAt_43 : decode cX4_openAt 43 = .ok (.iconst 0, 1) := by decide +kernel
theorem dX4_openAt_44 : decode cX4_openAt 44 = .ok (.istore 4, 2) := by decide +kernel
theorem dX4_openAt_46 : decode cX4_openAt 46 = .ok (.iload 4, 2) := by decide +kernel
theorem dX4_openAt_48 : decode cX4_openAt 48 = .ok (.iload_n 2, 1) := by decide +kernel
theorem dX4_openAt_49 : decode cX4_openAt 49 = .ok (.if_icmp .ge 25, 3) := by decide +kernel
theorem dX4_openAt_52 : decode cX4_openAt 52 = .ok (.aload_n 0, 1) := by decide +kernel
theorem dX4_openAt_53 : decode cX4_openAt 53 = .ok (.getfield 37, 3) := by decide +kernel
theorem dX4_openAt_56 : decode cX4_openAt 56 = .ok (.getfield 97, 3) := by decide +kernel
theorem dX4_openAt_59 : decode cX4_openAt 59 = .ok (.invokevirtual 86, 3) := by decide +kernel
theorem dX4_openAt_62 : decode cX4_openAt 62 = .ok (.aload_n 0, 1) := by decide +kernel
theorem dX4_openAt_63 : decode cX4_openAt 63 = .ok (.iload_n 1, 1) := by decide +kernel
theorem dX4_openAt_64 : decode cX4_openAt 64 = .ok (.iconst 3, 1) := by decide +kernel
theorem dX4_openAt_65 : decode cX4_openAt 65 = .ok (.invokevirtual 72, 3) := by decide +kernel
theorem dX4_openAt_68 : decode cX4_openAt 68 = .ok (.iinc 4 1, 3) := by decide +kernel
theorem dX4_openAt_71 : decode cX4_openAt 71 = .ok (.goto (-25), 3) := by decide +kernel
theorem dX4_openAt_74 : decode cX4_openAt 74 = .ok (.iload_n 3, 1) := by decide +kernel
theorem dX4_openAt_75 : decode cX4_openAt 75 = .ok (.ifCond .ne 8, 3) := by decide +kernel
theorem dX4_openAt_78 : decode cX4_openAt 78 = .ok (.aload_n 0, 1) := by decide +kernel
theorem dX4_openAt_79 : decode cX4_openAt 79 = .ok (.iconst (-1), 1) := by decide +kernel
theorem dX4_openAt_80 : decode cX4_openAt 80 = .ok (.putfield 21, 3) := by decide +kernel
theorem dX4_openAt_83 : decode cX4_openAt 83 = .ok (.return_, 1) := by decide +kernel
theorem dX4_comesOut_0 : decode cX4_comesOut 0 = .ok (.aload_n 0, 1) := by decide +kernel
theorem dX4_comesOut_1 : decode cX4_comesOut 1 = .ok (.getfield 37, 3) := by decide +kernel
theorem dX4_comesOut_4 : decode cX4_comesOut 4 = .ok (.iload_n 1, 1) := by decide +kernel
theorem dX4_comesOut_5 : decode cX4_comesOut 5 = .ok (.aload_n 0, 1) := by decide +kernel
theorem dX4_comesOut_6 : decode cX4_comesOut 6 = .ok (.getfield 28, 3) := by decide +kernel
theorem dX4_comesOut_9 : decode cX4_comesOut 9 = .ok (.iconst 0, 1) := by decide +kernel
theorem dX4_comesOut_10 : decode cX4_comesOut 10 = .ok (.invokevirtual 89, 3) := by decide +kernel
theorem dX4_comesOut_13 : decode cX4_comesOut 13 = .ok (.aload_n 0, 1) := by decide +kernel
theorem dX4_comesOut_14 : decode cX4_comesOut 14 = .ok (.getfield 31, 3) := by decide +kernel
theorem dX4_comesOut_17 : decode cX4_comesOut 17 = .ok (.iand, 1) := by decide +kernel
theorem dX4_comesOut_18 : decode cX4_comesOut 18 = .ok (.aload_n 0, 1) := by decide +kernel
theorem dX4_comesOut_19 : decode cX4_comesOut 19 = .ok (.getfield 34, 3) := by decide +kernel
theorem dX4_comesOut_22 : decode cX4_comesOut 22 = .ok (.if_icmp .ne 7, 3) := by decide +kernel
theorem dX4_comesOut_25 : decode cX4_comesOut 25 = .ok (.iconst 1, 1) := by decide +kernel
theorem dX4_comesOut_26 : decode cX4_comesOut 26 = .ok (.goto 4, 3) := by decide +kernel
theorem dX4_comesOut_29 : decode cX4_comesOut 29 = .ok (.iconst 0, 1) := by decide +kernel
theorem dX4_comesOut_30 : decode cX4_comesOut 30 = .ok (.ireturn, 1) := by decide +kernel
theorem dX4_take_0 : decode cX4_take 0 = .ok (.aload_n 0, 1) := by decide +kernel
theorem dX4_take_1 : decode cX4_take 1 = .ok (.getfield 21, 3) := by decide +kernel
theorem dX4_take_4 : decode cX4_take 4 = .ok (.iconst (-1), 1) := by decide +kernel
theorem dX4_take_5 : decode cX4_take 5 = .ok (.if_icmp .eq 23, 3) := by decide +kernel
theorem dX4_take_8 : decode cX4_take 8 = .ok (.aload_n 0, 1) := by decide +kernel
theorem dX4_take_9 : decode cX4_take 9 = .ok (.getfield 21, 3) := by decide +kernel
theorem dX4_take_12 : decode cX4_take 12 = .ok (.iload_n 2, 1) := by decide +kernel
theorem dX4_take_13 : decode cX4_take 13 = .ok (.if_icmp .ge 15, 3) := by decide +kernel
theorem dX4_take_16 : decode cX4_take 16 = .ok (.aload_n 0, 1) := by decide +kernel
theorem dX4_take_17 : decode cX4_take 17 = .ok (.getfield 21, 3) := by decide +kernel
theorem dX4_take_20 : decode cX4_take 20 = .ok (.aload_n 0, 1) := by decide +kernel
theorem dX4_take_21 : decode cX4_take 21 = .ok (.getfield 15, 3) := by decide +kernel
theorem dX4_take_24 : decode cX4_take 24 = .ok (.arraylength, 1) := by decide +kernel
theorem dX4_take_25 : decode cX4_take 25 = .ok (.if_icmp .lt 11, 3) := by decide +kernel
theorem dX4_take_28 : decode cX4_take 28 = .ok (.aload_n 0, 1) := by decide +kernel
theorem dX4_take_29 : decode cX4_take 29 = .ok (.iconst (-1), 1) := by decide +kernel
theorem dX4_take_30 : decode cX4_take 30 = .ok (.putfield 21, 3) := by decide +kernel
theorem dX4_take_33 : decode cX4_take 33 = .ok (.goto 23, 3) := by decide +kernel
theorem dX4_take_36 : decode cX4_take 36 = .ok (.aload_n 0, 1) := by decide +kernel
theorem dX4_take_37 : decode cX4_take 37 = .ok (.getfield 15, 3) := by decide +kernel
theorem dX4_take_40 : decode cX4_take 40 = .ok (.aload_n 0, 1) := by decide +kernel
theorem dX4_take_41 : decode cX4_take 41 = .ok (.getfield 21, 3) := by decide +kernel
theorem dX4_take_44 : decode cX4_take 44 = .ok (.iload_n 1, 1) := by decide +kernel
theorem dX4_take_45 : decode cX4_take 45 = .ok (.iastore, 1) := by decide +kernel
theorem dX4_take_46 : decode cX4_take 46 = .ok (.aload_n 0, 1) := by decide +kernel
theorem dX4_take_47 : decode cX4_take 47 = .ok (.dup, 1) := by decide +kernel
theorem dX4_take_48 : decode cX4_take 48 = .ok (.getfield 21, 3) := by decide +kernel
theorem dX4_take_51 : decode cX4_take 51 = .ok (.iconst 1, 1) := by decide +kernel
theorem dX4_take_52 : decode cX4_take 52 = .ok (.iadd, 1) := by decide +kernel
theorem dX4_take_53 : decode cX4_take 53 = .ok (.putfield 21, 3) := by decide +kernel
theorem dX4_take_56 : decode cX4_take 56 = .ok (.return_, 1) := by decide +kernel
theorem dX5_init_0 : decode cX5_init 0 = .ok (.aload_n 0, 1) := by decide +kernel
theorem dX5_init_1 : decode cX5_init 1 = .ok (.invokespecial 3, 3) := by decide +kernel
theorem dX5_init_4 : decode cX5_init 4 = .ok (.aload_n 0, 1) := by decide +kernel
theorem dX5_init_5 : decode cX5_init 5 = .ok (.bipush 60, 2) := by decide +kernel
theorem dX5_init_7 : decode cX5_init 7 = .ok (.newarray .int, 2) := by decide +kernel
theorem dX5_init_9 : decode cX5_init 9 = .ok (.putfield 9, 3) := by decide +kernel
theorem dX5_init_12 : decode cX5_init 12 = .ok (.aload_n 0, 1) := by decide +kernel
theorem dX5_init_13 : decode cX5_init 13 = .ok (.iconst 0, 1) := by decide +kernel
theorem dX5_init_14 : decode cX5_init 14 = .ok (.putfield 15, 3) := by decide +kernel
theorem dX5_init_17 : decode cX5_init 17 = .ok (.aload_n 0, 1) := by decide +kernel
theorem dX5_init_18 : decode cX5_init 18 = .ok (.iconst (-1), 1) := by decide +kernel
theorem dX5_init_19 : decode cX5_init 19 = .ok (.putfield 19, 3) := by decide +kernel
theorem dX5_init_22 : decode cX5_init 22 = .ok (.return_, 1) := by decide +kernel
theorem dX5_isLost_0 : decode cX5_isLost 0 = .ok (.aload_n 0, 1) := by decide +kernel
theorem dX5_isLost_1 : decode cX5_isLost 1 = .ok (.getfield 19, 3) := by decide +kernel
theorem dX5_isLost_4 : decode cX5_isLost 4 = .ok (.iconst (-1), 1) := by decide +kernel
theorem dX5_isLost_5 : decode cX5_isLost 5 = .ok (.if_icmp .ne 7, 3) := by decide +kernel
theorem dX5_isLost_8 : decode cX5_isLost 8 = .ok (.iconst 1, 1) := by decide +kernel
theorem dX5_isLost_9 : decode cX5_isLost 9 = .ok (.goto 4, 3) := by decide +kernel
theorem dX5_isLost_12 : decode cX5_isLost 12 = .ok (.iconst 0, 1) := by decide +kernel
theorem dX5_isLost_13 : decode cX5_isLost 13 = .ok (.ireturn, 1) := by decide +kernel
theorem dX5_beLost_0 : decode cX5_beLost 0 = .ok (.aload_n 0, 1) := by decide +kernel
theorem dX5_beLost_1 : decode cX5_beLost 1 = .ok (.iconst (-1), 1) := by decide +kernel
theorem dX5_beLost_2 : decode cX5_beLost 2 = .ok (.putfield 19, 3) := by decide +kernel
theorem dX5_beLost_5 : decode cX5_beLost 5 = .ok (.return_, 1) := by decide +kernel
theorem dX5_renew_0 : decode cX5_renew 0 = .ok (.aload_n 0, 1) := by decide +kernel
theorem dX5_renew_1 : decode cX5_renew 1 = .ok (.iload_n 1, 1) := by decide +kernel
theorem dX5_renew_2 : decode cX5_renew 2 = .ok (.putfield 15, 3) := by decide +kernel
theorem dX5_renew_5 : decode cX5_renew 5 = .ok (.aload_n 0, 1) := by decide +kernel
theorem dX5_renew_6 : decode cX5_renew 6 = .ok (.iload_n 2, 1) := by decide +kernel
theorem dX5_renew_7 : decode cX5_renew 7 = .ok (.putfield 19, 3) := by decide +kernel
theorem dX5_renew_10 : decode cX5_renew 10 = .ok (.aload_n 0, 1) := by decide +kernel
theorem dX5_renew_11 : decode cX5_renew 11 = .ok (.getfield 9, 3) := by decide +kernel
theorem dX5_renew_14 : decode cX5_renew 14 = .ok (.iconst 0, 1) := by decide +kernel
theorem dX5_renew_15 : decode cX5_renew 15 = .ok (.invokestatic 22, 3) := by decide +kernel
theorem dX5_renew_18 : decode cX5_renew 18 = .ok (.return_, 1) := by decide +kernel
theorem dX5_lacksItem_0 : decode cX5_lacksItem 0 = .ok (.iload_n 1, 1) := by decide +kernel
theorem dX5_lacksItem_1 : decode cX5_lacksItem 1 = .ok (.ifCond .lt 20, 3) := by decide +kernel
theorem dX5_lacksItem_4 : decode cX5_lacksItem 4 = .ok (.iload_n 1, 1) := by decide +kernel
theorem dX5_lacksItem_5 : decode cX5_lacksItem 5 = .ok (.aload_n 0, 1) := by decide +kernel
theorem dX5_lacksItem_6 : decode cX5_lacksItem 6 = .ok (.getfield 19, 3) := by decide +kernel
theorem dX5_lacksItem_9 : decode cX5_lacksItem 9 = .ok (.if_icmp .ge 12, 3) := by decide +kernel
theorem dX5_lacksItem_12 : decode cX5_lacksItem 12 = .ok (.iload_n 1, 1) := by decide +kernel
theorem dX5_lacksItem_13 : decode cX5_lacksItem 13 = .ok (.aload_n 0, 1) := by decide +kernel
theorem dX5_lacksItem_14 : decode cX5_lacksItem 14 = .ok (.getfield 9, 3) := by decide +kernel
theorem dX5_lacksItem_17 : decode cX5_lacksItem 17 = .ok (.arraylength, 1) := by decide +kernel
theorem dX5_lacksItem_18 : decode cX5_lacksItem 18 = .ok (.if_icmp .lt 7, 3) := by decide +kernel
theorem dX5_lacksItem_21 : decode cX5_lacksItem 21 = .ok (.iconst 1, 1) := by decide +kernel
theorem dX5_lacksItem_22 : decode cX5_lacksItem 22 = .ok (.goto 4, 3) := by decide +kernel
theorem dX5_lacksItem_25 : decode cX5_lacksItem 25 = .ok (.iconst 0, 1) := by decide +kernel
theorem dX5_lacksItem_26 : decode cX5_lacksItem 26 = .ok (.ireturn, 1) := by decide +kernel
theorem dX5_lacksRun_0 : decode cX5_lacksRun 0 = .ok (.iload_n 1, 1) := by decide +kernel
theorem dX5_lacksRun_1 : decode cX5_lacksRun 1 = .ok (.ifCond .lt 21, 3) := by decide +kernel
theorem dX5_lacksRun_4 : decode cX5_lacksRun 4 = .ok (.iload_n 1, 1) := by decide +kernel
theorem dX5_lacksRun_5 : decode cX5_lacksRun 5 = .ok (.aload_n 0, 1) := by decide +kernel
theorem dX5_lacksRun_6 : decode cX5_lacksRun 6 = .ok (.getfield 19, 3) := by decide +kernel
theorem dX5_lacksRun_9 : decode cX5_lacksRun 9 = .ok (.if_icmp .gt 13, 3) := by decide +kernel
theorem dX5_lacksRun_12 : decode cX5_lacksRun 12 = .ok (.iload_n 2, 1) := by decide +kernel
theorem dX5_lacksRun_13 : decode cX5_lacksRun 13 = .ok (.aload_n 0, 1) := by decide +kernel
theorem dX5_lacksRun_14 : decode cX5_lacksRun 14 = .ok (.getfield 19, 3) := by decide +kernel
theorem dX5_lacksRun_17 : decode cX5_lacksRun 17 = .ok (.iload_n 1, 1) := by decide +kernel
theorem dX5_lacksRun_18 : decode cX5_lacksRun 18 = .ok (.isub, 1) := by decide +kernel
theorem dX5_lacksRun_19 : decode cX5_lacksRun 19 = .ok (.if_icmp .le 7, 3) := by decide +kernel
theorem dX5_lacksRun_22 : decode cX5_lacksRun 22 = .ok (.iconst 1, 1) := by decide +kernel
theorem dX5_lacksRun_23 : decode cX5_lacksRun 23 = .ok (.goto 4, 3) := by decide +kernel
theorem dX5_lacksRun_26 : decode cX5_lacksRun 26 = .ok (.iconst 0, 1) := by decide +kernel
theorem dX5_lacksRun_27 : decode cX5_lacksRun 27 = .ok (.ireturn, 1) := by decide +kernel
theorem dX5_item_0 : decode cX5_item 0 = .ok (.aload_n 0, 1) := by decide +kernel
theorem dX5_item_1 : decode cX5_item 1 = .ok (.iload_n 1, 1) := by decide +kernel
theorem dX5_item_2 : decode cX5_item 2 = .ok (.invokevirtual 28, 3) := by decide +kernel
theorem dX5_item_5 : decode cX5_item 5 = .ok (.ifCond .eq 7, 3) := by decide +kernel
theorem dX5_item_8 : decode cX5_item 8 = .ok (.iconst 0, 1) := by decide +kernel
theorem dX5_item_9 : decode cX5_item 9 = .ok (.goto 9, 3) := by decide +kernel
theorem dX5_item_12 : decode cX5_item 12 = .ok (.aload_n 0, 1) := by decide +kernel
theorem dX5_item_13 : decode cX5_item 13 = .ok (.getfield 9, 3) := by decide +kernel
theorem dX5_item_16 : decode cX5_item 16 = .ok (.iload_n 1, 1) := by decide +kernel
theorem dX5_item_17 : decode cX5_item 17 = .ok (.iaload, 1) := by decide +kernel
theorem dX5_item_18 : decode cX5_item 18 = .ok (.ireturn, 1) := by decide +kernel
theorem dX5_wrongWith_0 : decode cX5_wrongWith 0 = .ok (.aload_n 0, 1) := by decide +kernel
theorem dX5_wrongWith_1 : decode cX5_wrongWith 1 = .ok (.invokevirtual 32, 3) := by decide +kernel
theorem dX5_wrongWith_4 : decode cX5_wrongWith 4 = .ok (.ifCond .eq 5, 3) := by decide +kernel
theorem dX5_wrongWith_7 : decode cX5_wrongWith 7 = .ok (.iconst 1, 1) := by decide +kernel
theorem dX5_wrongWith_8 : decode cX5_wrongWith 8 = .ok (.ireturn, 1) := by decide +kernel
theorem dX5_wrongWith_9 : decode cX5_wrongWith 9 = .ok (.aload_n 0, 1) := by decide +kernel
theorem dX5_wrongWith_10 : decode cX5_wrongWith 10 = .ok (.getfield 15, 3) := by decide +kernel
theorem dX5_wrongWith_13 : decode cX5_wrongWith 13 = .ok (.iload_n 1, 1) := by decide +kernel
theorem dX5_wrongWith_14 : decode cX5_wrongWith 14 = .ok (.if_icmp .eq 5, 3) := by decide +kernel
theorem dX5_wrongWith_17 : decode cX5_wrongWith 17 = .ok (.iconst 3, 1) := by decide +kernel
theorem dX5_wrongWith_18 : decode cX5_wrongWith 18 = .ok (.ireturn, 1) := by decide +kernel
theorem dX5_wrongWith_19 : decode cX5_wrongWith 19 = .ok (.aload_n 0, 1) := by decide +kernel
theorem dX5_wrongWith_20 : decode cX5_wrongWith 20 = .ok (.iload_n 2, 1) := by decide +kernel
theorem dX5_wrongWith_21 : decode cX5_wrongWith 21 = .ok (.invokevirtual 28, 3) := by decide +kernel
theorem dX5_wrongWith_24 : decode cX5_wrongWith 24 = .ok (.ifCond .eq 7, 3) := by decide +kernel
theorem dX5_wrongWith_27 : decode cX5_wrongWith 27 = .ok (.iconst 2, 1) := by decide +kernel
theorem dX5_wrongWith_28 : decode cX5_wrongWith 28 = .ok (.goto 4, 3) := by decide +kernel
theorem dX5_wrongWith_31 : decode cX5_wrongWith 31 = .ok (.iconst 0, 1) := by decide +kernel
theorem dX5_wrongWith_32 : decode cX5_wrongWith 32 = .ok (.ireturn, 1) := by decide +kernel
theorem dX5_store_0 : decode cX5_store 0 = .ok (.aload_n 0, 1) := by decide +kernel
theorem dX5_store_1 : decode cX5_store 1 = .ok (.iload_n 1, 1) := by decide +kernel
theorem dX5_store_2 : decode cX5_store 2 = .ok (.invokevirtual 28, 3) := by decide +kernel
theorem dX5_store_5 : decode cX5_store 5 = .ok (.ifCond .ne 35, 3) := by decide +kernel
theorem dX5_store_8 : decode cX5_store 8 = .ok (.aload_n 0, 1) := by decide +kernel
theorem dX5_store_9 : decode cX5_store 9 = .ok (.getfield 9, 3) := by decide +kernel
theorem dX5_store_12 : decode cX5_store 12 = .ok (.iload_n 1, 1) := by decide +kernel
theorem dX5_store_13 : decode cX5_store 13 = .ok (.aload_n 0, 1) := by decide +kernel
theorem dX5_store_14 : decode cX5_store 14 = .ok (.getfield 15, 3) := by decide +kernel
theorem dX5_store_17 : decode cX5_store 17 = .ok (.ifCond .ne 8, 3) := by decide +kernel
theorem dX5_store_20 : decode cX5_store 20 = .ok (.iload_n 2, 1) := by decide +kernel
theorem dX5_store_21 : decode cX5_store 21 = .ok (.i2b, 1) := by decide +kernel
theorem dX5_store_22 : decode cX5_store 22 = .ok (.goto 17, 3) := by decide +kernel
theorem dX5_store_25 : decode cX5_store 25 = .ok (.aload_n 0, 1) := by decide +kernel
theorem dX5_store_26 : decode cX5_store 26 = .ok (.getfield 15, 3) := by decide +kernel
theorem dX5_store_29 : decode cX5_store 29 = .ok (.iconst 1, 1) := by decide +kernel
theorem dX5_store_30 : decode cX5_store 30 = .ok (.if_icmp .ne 8, 3) := by decide +kernel
theorem dX5_store_33 : decode cX5_store 33 = .ok (.iload_n 2, 1) := by decide +kernel
theorem dX5_store_34 : decode cX5_store 34 = .ok (.i2s, 1) := by decide +kernel
theorem dX5_store_35 : decode cX5_store 35 = .ok (.goto 4, 3) := by decide +kernel
theorem dX5_store_38 : decode cX5_store 38 = .ok (.iload_n 2, 1) := by decide +kernel
theorem dX5_store_39 : decode cX5_store 39 = .ok (.iastore, 1) := by decide +kernel
theorem dX5_store_40 : decode cX5_store 40 = .ok (.return_, 1) := by decide +kernel
theorem dX6_init_0 : decode cX6_init 0 = .ok (.aload_n 0, 1) := by decide +kernel
theorem dX6_init_1 : decode cX6_init 1 = .ok (.invokespecial 3, 3) := by decide +kernel
theorem dX6_init_4 : decode cX6_init 4 = .ok (.aload_n 0, 1) := by decide +kernel
theorem dX6_init_5 : decode cX6_init 5 = .ok (.iconst 0, 1) := by decide +kernel
theorem dX6_init_6 : decode cX6_init 6 = .ok (.putfield 9, 3) := by decide +kernel
theorem dX6_init_9 : decode cX6_init 9 = .ok (.aload_n 0, 1) := by decide +kernel
theorem dX6_init_10 : decode cX6_init 10 = .ok (.iconst 0, 1) := by decide +kernel
theorem dX6_init_11 : decode cX6_init 11 = .ok (.putfield 15, 3) := by decide +kernel
theorem dX6_init_14 : decode cX6_init 14 = .ok (.aload_n 0, 1) := by decide +kernel
theorem dX6_init_15 : decode cX6_init 15 = .ok (.iload_n 1, 1) := by decide +kernel
theorem dX6_init_16 : decode cX6_init 16 = .ok (.putfield 18, 3) := by decide +kernel
theorem dX6_init_19 : decode cX6_init 19 = .ok (.iload_n 1, 1) := by decide +kernel
theorem dX6_init_20 : decode cX6_init 20 = .ok (.ifCond .eq 8, 3) := by decide +kernel
theorem dX6_init_23 : decode cX6_init 23 = .ok (.bipush 8, 2) := by decide +kernel
theorem dX6_init_25 : decode cX6_init 25 = .ok (.goto 5, 3) := by decide +kernel
theorem dX6_init_28 : decode cX6_init 28 = .ok (.bipush 6, 2) := by decide +kernel
theorem dX6_init_30 : decode cX6_init 30 = .ok (.istore_n 2, 1) := by decide +kernel
theorem dX6_init_31 : decode cX6_init 31 = .ok (.aload_n 0, 1) := by decide +kernel
theorem dX6_init_32 : decode cX6_init 32 = .ok (.iconst 4, 1) := by decide +kernel
theorem dX6_init_33 : decode cX6_init 33 = .ok (.iload_n 2, 1) := by decide +kernel
theorem dX6_init_34 : decode cX6_init 34 = .ok (.imul, 1) := by decide +kernel
theorem dX6_init_35 : decode cX6_init 35 = .ok (.iconst 1, 1) := by decide +kernel
theorem dX6_init_36 : decode cX6_init 36 = .ok (.isub, 1) := by decide +kernel
theorem dX6_init_37 : decode cX6_init 37 = .ok (.newarray .int, 2) := by decide +kernel
theorem dX6_init_39 : decode cX6_init 39 = .ok (.putfield 22, 3) := by decide +kernel
theorem dX6_init_42 : decode cX6_init 42 = .ok (.aload_n 0, 1) := by decide +kernel
theorem dX6_init_43 : decode cX6_init 43 = .ok (.iload_n 2, 1) := by decide +kernel
theorem dX6_init_44 : decode cX6_init 44 = .ok (.newarray .int, 2) := by decide +kernel
theorem dX6_init_46 : decode cX6_init 46 = .ok (.putfield 26, 3) := by decide +kernel
theorem dX6_init_49 : decode cX6_init 49 = .ok (.aload_n 0, 1) := by decide +kernel
theorem dX6_init_50 : decode cX6_init 50 = .ok (.iload_n 2, 1) := by decide +kernel
theorem dX6_init_51 : decode cX6_init 51 = .ok (.newarray .int, 2) := by decide +kernel
theorem dX6_init_53 : decode cX6_init 53 = .ok (.putfield 29, 3) := by decide +kernel
theorem dX6_init_56 : decode cX6_init 56 = .ok (.aload_n 0, 1) := by decide +kernel
theorem dX6_init_57 : decode cX6_init 57 = .ok (.iload_n 2, 1) := by decide +kernel
theorem dX6_init_58 : decode cX6_init 58 = .ok (.newarray .int, 2) := by decide +kernel
theorem dX6_init_60 : decode cX6_init 60 = .ok (.putfield 32, 3) := by decide +kernel
theorem dX6_init_63 : decode cX6_init 63 = .ok (.return_, 1) := by decide +kernel
theorem dX6_isFull_0 : decode cX6_isFull 0 = .ok (.aload_n 0, 1) := by decide +kernel
theorem dX6_isFull_1 : decode cX6_isFull 1 = .ok (.getfield 9, 3) := by decide +kernel
theorem dX6_isFull_4 : decode cX6_isFull 4 = .ok (.aload_n 0, 1) := by decide +kernel
theorem dX6_isFull_5 : decode cX6_isFull 5 = .ok (.getfield 22, 3) := by decide +kernel
theorem dX6_isFull_8 : decode cX6_isFull 8 = .ok (.arraylength, 1) := by decide +kernel
theorem dX6_isFull_9 : decode cX6_isFull 9 = .ok (.if_icmp .lt 7, 3) := by decide +kernel
theorem dX6_isFull_12 : decode cX6_isFull 12 = .ok (.iconst 1, 1) := by decide +kernel
theorem dX6_isFull_13 : decode cX6_isFull 13 = .ok (.goto 4, 3) := by decide +kernel
theorem dX6_isFull_16 : decode cX6_isFull 16 = .ok (.iconst 0, 1) := by decide +kernel
theorem dX6_isFull_17 : decode cX6_isFull 17 = .ok (.ireturn, 1) := by decide +kernel
theorem dX6_append_0 : decode cX6_append 0 = .ok (.aload_n 0, 1) := by decide +kernel
theorem dX6_append_1 : decode cX6_append 1 = .ok (.getfield 9, 3) := by decide +kernel
theorem dX6_append_4 : decode cX6_append 4 = .ok (.aload_n 0, 1) := by decide +kernel
theorem dX6_append_5 : decode cX6_append 5 = .ok (.getfield 22, 3) := by decide +kernel
theorem dX6_append_8 : decode cX6_append 8 = .ok (.arraylength, 1) := by decide +kernel
theorem dX6_append_9 : decode cX6_append 9 = .ok (.if_icmp .ge 27, 3) := by decide +kernel
theorem dX6_append_12 : decode cX6_append 12 = .ok (.aload_n 0, 1) := by decide +kernel
theorem dX6_append_13 : decode cX6_append 13 = .ok (.getfield 22, 3) := by decide +kernel
theorem dX6_append_16 : decode cX6_append 16 = .ok (.aload_n 0, 1) := by decide +kernel
theorem dX6_append_17 : decode cX6_append 17 = .ok (.getfield 9, 3) := by decide +kernel
theorem dX6_append_20 : decode cX6_append 20 = .ok (.iload_n 1, 1) := by decide +kernel
theorem dX6_append_21 : decode cX6_append 21 = .ok (.iastore, 1) := by decide +kernel
theorem dX6_append_22 : decode cX6_append 22 = .ok (.aload_n 0, 1) := by decide +kernel
theorem dX6_append_23 : decode cX6_append 23 = .ok (.dup, 1) := by decide +kernel
theorem dX6_append_24 : decode cX6_append 24 = .ok (.getfield 9, 3) := by decide +kernel
theorem dX6_append_27 : decode cX6_append 27 = .ok (.iconst 1, 1) := by decide +kernel
theorem dX6_append_28 : decode cX6_append 28 = .ok (.iadd, 1) := by decide +kernel
theorem dX6_append_29 : decode cX6_append 29 = .ok (.putfield 9, 3) := by decide +kernel
theorem dX6_append_32 : decode cX6_append 32 = .ok (.aload_n 0, 1) := by decide +kernel
theorem dX6_append_33 : decode cX6_append 33 = .ok (.invokevirtual 35, 3) := by decide +kernel
theorem dX6_append_36 : decode cX6_append 36 = .ok (.return_, 1) := by decide +kernel
theorem dX6_shorten_0 : decode cX6_shorten 0 = .ok (.aload_n 0, 1) := by decide +kernel
theorem dX6_shorten_1 : decode cX6_shorten 1 = .ok (.iload_n 1, 1) := by decide +kernel
theorem dX6_shorten_2 : decode cX6_shorten 2 = .ok (.putfield 9, 3) := by decide +kernel
theorem dX6_shorten_5 : decode cX6_shorten 5 = .ok (.aload_n 0, 1) := by decide +kernel
theorem dX6_shorten_6 : decode cX6_shorten 6 = .ok (.invokevirtual 35, 3) := by decide +kernel
theorem dX6_shorten_9 : decode cX6_shorten 9 = .ok (.return_, 1) := by decide +kernel
theorem dX6_faultPlace_0 : decode cX6_faultPlace 0 = .ok (.iconst 0, 1) := by decide +kernel
theorem dX6_faultPlace_1 : decode cX6_faultPlace 1 = .ok (.istore_n 1, 1) := by decide +kernel
theorem dX6_faultPlace_2 : decode cX6_faultPlace 2 = .ok (.iload_n 1, 1) := by decide +kernel
theorem dX6_faultPlace_3 : decode cX6_faultPlace 3 = .ok (.aload_n 0, 1) := by decide +kernel
theorem dX6_faultPlace_4 : decode cX6_faultPlace 4 = .ok (.getfield 9, 3) := by decide +kernel
theorem dX6_faultPlace_7 : decode cX6_faultPlace 7 = .ok (.if_icmp .ge 27, 3) := by decide +kernel
theorem dX6_faultPlace_10 : decode cX6_faultPlace 10 = .ok (.aload_n 0, 1) := by decide +kernel
theorem dX6_faultPlace_11 : decode cX6_faultPlace 11 = .ok (.aload_n 0, 1) := by decide +kernel
theorem dX6_faultPlace_12 : decode cX6_faultPlace 12 = .ok (.getfield 22, 3) := by decide +kernel
theorem dX6_faultPlace_15 : decode cX6_faultPlace 15 = .ok (.iload_n 1, 1) := by decide +kernel
theorem dX6_faultPlace_16 : decode cX6_faultPlace 16 = .ok (.iaload, 1) := by decide +kernel
theorem dX6_faultPlace_17 : decode cX6_faultPlace 17 = .ok (.iload_n 1, 1) := by decide +kernel
theorem dX6_faultPlace_18 : decode cX6_faultPlace 18 = .ok (.iconst 4, 1) := by decide +kernel
theorem dX6_faultPlace_19 : decode cX6_faultPlace 19 = .ok (.irem, 1) := by decide +kernel
theorem dX6_faultPlace_20 : decode cX6_faultPlace 20 = .ok (.invokevirtual 38, 3) := by decide +kernel
theorem dX6_faultPlace_23 : decode cX6_faultPlace 23 = .ok (.ifCond .ne 5, 3) := by decide +kernel
theorem dX6_faultPlace_26 : decode cX6_faultPlace 26 = .ok (.iload_n 1, 1) := by decide +kernel
theorem dX6_faultPlace_27 : decode cX6_faultPlace 27 = .ok (.ireturn, 1) := by decide +kernel
theorem dX6_faultPlace_28 : decode cX6_faultPlace 28 = .ok (.iinc 1 1, 3) := by decide +kernel
theorem dX6_faultPlace_31 : decode cX6_faultPlace 31 = .ok (.goto (-29), 3) := by decide +kernel
theorem dX6_faultPlace_34 : decode cX6_faultPlace 34 = .ok (.aload_n 0, 1) := by decide +kernel
theorem dX6_faultPlace_35 : decode cX6_faultPlace 35 = .ok (.getfield 9, 3) := by decide +kernel
theorem dX6_faultPlace_38 : decode cX6_faultPlace 38 = .ok (.ifCond .eq 13, 3) := by decide +kernel
theorem dX6_faultPlace_41 : decode cX6_faultPlace 41 = .ok (.aload_n 0, 1) := by decide +kernel
theorem dX6_faultPlace_42 : decode cX6_faultPlace 42 = .ok (.getfield 9, 3) := by decide +kernel
theorem dX6_faultPlace_45 : decode cX6_faultPlace 45 = .ok (.iconst 4, 1) := by decide +kernel
theorem dX6_faultPlace_46 : decode cX6_faultPlace 46 = .ok (.irem, 1) := by decide +kernel
theorem dX6_faultPlace_47 : decode cX6_faultPlace 47 = .ok (.iconst 3, 1) := by decide +kernel
theorem dX6_faultPlace_48 : decode cX6_faultPlace 48 = .ok (.if_icmp .ne 7, 3) := by decide +kernel
theorem dX6_faultPlace_51 : decode cX6_faultPlace 51 = .ok (.iconst (-1), 1) := by decide +kernel
theorem dX6_faultPlace_52 : decode cX6_faultPlace 52 = .ok (.goto 7, 3) := by decide +kernel
theorem dX6_faultPlace_55 : decode cX6_faultPlace 55 = .ok (.aload_n 0, 1) := by decide +kernel
theorem dX6_faultPlace_56 : decode cX6_faultPlace 56 = .ok (.getfield 9, 3) := by decide +kernel
theorem dX6_faultPlace_59 : decode cX6_faultPlace 59 = .ok (.ireturn, 1) := by decide +kernel
theorem dX6_part_0 : decode cX6_part 0 = .ok (.iload_n 1, 1) := by decide +kernel
theorem dX6_part_1 : decode cX6_part 1 = .ok (.ifCond .lt 11, 3) := by decide +kernel
theorem dX6_part_4 : decode cX6_part 4 = .ok (.iload_n 1, 1) := by decide +kernel
theorem dX6_part_5 : decode cX6_part 5 = .ok (.aload_n 0, 1) := by decide +kernel
theorem dX6_part_6 : decode cX6_part 6 = .ok (.getfield 15, 3) := by decide +kernel
theorem dX6_part_9 : decode cX6_part 9 = .ok (.if_icmp .lt 6, 3) := by decide +kernel
theorem dX6_part_12 : decode cX6_part 12 = .ok (.bipush (-2), 2) := by decide +kernel
theorem dX6_part_14 : decode cX6_part 14 = .ok (.ireturn, 1) := by decide +kernel
theorem dX6_part_15 : decode cX6_part 15 = .ok (.iload_n 2, 1) := by decide +kernel
theorem dX6_part_16 : decode cX6_part 16 = .ok (.tableswitch 49 0 2 #[28, 35, 42], 28) := by decide +kernel
theorem dX6_part_44 : decode cX6_part 44 = .ok (.aload_n 0, 1) := by decide +kernel
theorem dX6_part_45 : decode cX6_part 45 = .ok (.getfield 26, 3) := by decide +kernel
theorem dX6_part_48 : decode cX6_part 48 = .ok (.iload_n 1, 1) := by decide +kernel
theorem dX6_part_49 : decode cX6_part 49 = .ok (.iaload, 1) := by decide +kernel
theorem dX6_part_50 : decode cX6_part 50 = .ok (.ireturn, 1) := by decide +kernel
theorem dX6_part_51 : decode cX6_part 51 = .ok (.aload_n 0, 1) := by decide +kernel
theorem dX6_part_52 : decode cX6_part 52 = .ok (.getfield 29, 3) := by decide +kernel
theorem dX6_part_55 : decode cX6_part 55 = .ok (.iload_n 1, 1) := by decide +kernel
theorem dX6_part_56 : decode cX6_part 56 = .ok (.iaload, 1) := by decide +kernel
theorem dX6_part_57 : decode cX6_part 57 = .ok (.ireturn, 1) := by decide +kernel
theorem dX6_part_58 : decode cX6_part 58 = .ok (.aload_n 0, 1) := by decide +kernel
theorem dX6_part_59 : decode cX6_part 59 = .ok (.getfield 32, 3) := by decide +kernel
theorem dX6_part_62 : decode cX6_part 62 = .ok (.iload_n 1, 1) := by decide +kernel
theorem dX6_part_63 : decode cX6_part 63 = .ok (.iaload, 1) := by decide +kernel
theorem dX6_part_64 : decode cX6_part 64 = .ok (.ireturn, 1) := by decide +kernel
theorem dX6_part_65 : decode cX6_part 65 = .ok (.bipush (-2), 2) := by decide +kernel
theorem dX6_part_67 : decode cX6_part 67 = .ok (.ireturn, 1) := by decide +kernel
theorem dX6_mayStand_0 : decode cX6_mayStand 0 = .ok (.iload_n 2, 1) := by decide +kernel
theorem dX6_mayStand_1 : decode cX6_mayStand 1 = .ok (.tableswitch 153 0 2 #[27, 57, 102], 27) := by decide +kernel
theorem dX6_mayStand_28 : decode cX6_mayStand 28 = .ok (.iload_n 1, 1) := by decide +kernel
theorem dX6_mayStand_29 : decode cX6_mayStand 29 = .ok (.bipush 49, 2) := by decide +kernel
theorem dX6_mayStand_31 : decode cX6_mayStand 31 = .ok (.if_icmp .lt 25, 3) := by decide +kernel
theorem dX6_mayStand_34 : decode cX6_mayStand 34 = .ok (.iload_n 1, 1) := by decide +kernel
theorem dX6_mayStand_35 : decode cX6_mayStand 35 = .ok (.aload_n 0, 1) := by decide +kernel
theorem dX6_mayStand_36 : decode cX6_mayStand 36 = .ok (.getfield 18, 3) := by decide +kernel
theorem dX6_mayStand_39 : decode cX6_mayStand 39 = .ok (.ifCond .eq 8, 3) := by decide +kernel
theorem dX6_mayStand_42 : decode cX6_mayStand 42 = .ok (.bipush 57, 2) := by decide +kernel
theorem dX6_mayStand_44 : decode cX6_mayStand 44 = .ok (.goto 5, 3) := by decide +kernel
theorem dX6_mayStand_47 : decode cX6_mayStand 47 = .ok (.bipush 53, 2) := by decide +kernel
theorem dX6_mayStand_49 : decode cX6_mayStand 49 = .ok (.if_icmp .gt 7, 3) := by decide +kernel
theorem dX6_mayStand_52 : decode cX6_mayStand 52 = .ok (.iconst 1, 1) := by decide +kernel
theorem dX6_mayStand_53 : decode cX6_mayStand 53 = .ok (.goto 4, 3) := by decide +kernel
theorem dX6_mayStand_56 : decode cX6_mayStand 56 = .ok (.iconst 0, 1) := by decide +kernel
theorem dX6_mayStand_57 : decode cX6_mayStand 57 = .ok (.ireturn, 1) := by decide +kernel
theorem dX6_mayStand_58 : decode cX6_mayStand 58 = .ok (.aload_n 0, 1) := by decide +kernel
theorem dX6_mayStand_59 : decode cX6_mayStand 59 = .ok (.getfield 18, 3) := by decide +kernel
theorem dX6_mayStand_62 : decode cX6_mayStand 62 = .ok (.ifCond .eq 23, 3) := by decide +kernel
theorem dX6_mayStand_65 : decode cX6_mayStand 65 = .ok (.iload_n 1, 1) := by decide +kernel
theorem dX6_mayStand_66 : decode cX6_mayStand 66 = .ok (.bipush 48, 2) := by decide +kernel
theorem dX6_mayStand_68 : decode cX6_mayStand 68 = .ok (.if_icmp .lt 13, 3) := by decide +kernel
theorem dX6_mayStand_71 : decode cX6_mayStand 71 = .ok (.iload_n 1, 1) := by decide +kernel
theorem dX6_mayStand_72 : decode cX6_mayStand 72 = .ok (.bipush 57, 2) := by decide +kernel
theorem dX6_mayStand_74 : decode cX6_mayStand 74 = .ok (.if_icmp .gt 7, 3) := by decide +kernel
theorem dX6_mayStand_77 : decode cX6_mayStand 77 = .ok (.iconst 1, 1) := by decide +kernel
theorem dX6_mayStand_78 : decode cX6_mayStand 78 = .ok (.goto 24, 3) := by decide +kernel
theorem dX6_mayStand_81 : decode cX6_mayStand 81 = .ok (.iconst 0, 1) := by decide +kernel
theorem dX6_mayStand_82 : decode cX6_mayStand 82 = .ok (.goto 20, 3) := by decide +kernel
theorem dX6_mayStand_85 : decode cX6_mayStand 85 = .ok (.iload_n 1, 1) := by decide +kernel
theorem dX6_mayStand_86 : decode cX6_mayStand 86 = .ok (.bipush 49, 2) := by decide +kernel
theorem dX6_mayStand_88 : decode cX6_mayStand 88 = .ok (.if_icmp .lt 13, 3) := by decide +kernel
theorem dX6_mayStand_91 : decode cX6_mayStand 91 = .ok (.iload_n 1, 1) := by decide +kernel
theorem dX6_mayStand_92 : decode cX6_mayStand 92 = .ok (.bipush 53, 2) := by decide +kernel
theorem dX6_mayStand_94 : decode cX6_mayStand 94 = .ok (.if_icmp .gt 7, 3) := by decide +kernel
theorem dX6_mayStand_97 : decode cX6_mayStand 97 = .ok (.iconst 1, 1) := by decide +kernel
theorem dX6_mayStand_98 : decode cX6_mayStand 98 = .ok (.goto 4, 3) := by decide +kernel
theorem dX6_mayStand_101 : decode cX6_mayStand 101 = .ok (.iconst 0, 1) := by decide +kernel
theorem dX6_mayStand_102 : decode cX6_mayStand 102 = .ok (.ireturn, 1) := by decide +kernel
theorem dX6_mayStand_103 : decode cX6_mayStand 103 = .ok (.aload_n 0, 1) := by decide +kernel
theorem dX6_mayStand_104 : decode cX6_mayStand 104 = .ok (.getfield 18, 3) := by decide +kernel
theorem dX6_mayStand_107 : decode cX6_mayStand 107 = .ok (.ifCond .eq 29, 3) := by decide +kernel
theorem dX6_mayStand_110 : decode cX6_mayStand 110 = .ok (.iload_n 1, 1) := by decide +kernel
theorem dX6_mayStand_111 : decode cX6_mayStand 111 = .ok (.bipush 46, 2) := by decide +kernel
theorem dX6_mayStand_113 : decode cX6_mayStand 113 = .ok (.if_icmp .eq 15, 3) := by decide +kernel
theorem dX6_mayStand_116 : decode cX6_mayStand 116 = .ok (.iload_n 1, 1) := by decide +kernel
theorem dX6_mayStand_117 : decode cX6_mayStand 117 = .ok (.bipush 97, 2) := by decide +kernel
theorem dX6_mayStand_119 : decode cX6_mayStand 119 = .ok (.if_icmp .lt 13, 3) := by decide +kernel
theorem dX6_mayStand_122 : decode cX6_mayStand 122 = .ok (.iload_n 1, 1) := by decide +kernel
theorem dX6_mayStand_123 : decode cX6_mayStand 123 = .ok (.bipush 104, 2) := by decide +kernel
theorem dX6_mayStand_125 : decode cX6_mayStand 125 = .ok (.if_icmp .gt 7, 3) := by decide +kernel
theorem dX6_mayStand_128 : decode cX6_mayStand 128 = .ok (.iconst 1, 1) := by decide +kernel
theorem dX6_mayStand_129 : decode cX6_mayStand 129 = .ok (.goto 24, 3) := by decide +kernel
theorem dX6_mayStand_132 : decode cX6_mayStand 132 = .ok (.iconst 0, 1) := by decide +kernel
theorem dX6_mayStand_133 : decode cX6_mayStand 133 = .ok (.goto 20, 3) := by decide +kernel
theorem dX6_mayStand_136 : decode cX6_mayStand 136 = .ok (.iload_n 1, 1) := by decide +kernel
theorem dX6_mayStand_137 : decode cX6_mayStand 137 = .ok (.bipush 111, 2) := by decide +kernel
theorem dX6_mayStand_139 : decode cX6_mayStand 139 = .ok (.if_icmp .eq 9, 3) := by decide +kernel
theorem dX6_mayStand_142 : decode cX6_mayStand 142 = .ok (.iload_n 1, 1) := by decide +kernel
theorem dX6_mayStand_143 : decode cX6_mayStand 143 = .ok (.bipush 117, 2) := by decide +kernel
theorem dX6_mayStand_145 : decode cX6_mayStand 145 = .ok (.if_icmp .ne 7, 3) := by decide +kernel
theorem dX6_mayStand_148 : decode cX6_mayStand 148 = .ok (.iconst 1, 1) := by decide +kernel
theorem dX6_mayStand_149 : decode cX6_mayStand 149 = .ok (.goto 4, 3) := by decide +kernel
theorem dX6_mayStand_152 : decode cX6_mayStand 152 = .ok (.iconst 0, 1) := by decide +kernel
theorem dX6_mayStand_153 : decode cX6_mayStand 153 = .ok (.ireturn, 1) := by decide +kernel
theorem dX6_mayStand_154 : decode cX6_mayStand 154 = .ok (.iload_n 1, 1) := by decide +kernel
theorem dX6_mayStand_155 : decode cX6_mayStand 155 = .ok (.bipush 59, 2) := by decide +kernel
theorem dX6_mayStand_157 : decode cX6_mayStand 157 = .ok (.if_icmp .ne 7, 3) := by decide +kernel
theorem dX6_mayStand_160 : decode cX6_mayStand 160 = .ok (.iconst 1, 1) := by decide +kernel
theorem dX6_mayStand_161 : decode cX6_mayStand 161 = .ok (.goto 4, 3) := by decide +kernel
theorem dX6_mayStand_164 : decode cX6_mayStand 164 = .ok (.iconst 0, 1) := by decide +kernel
theorem dX6_mayStand_165 : decode cX6_mayStand 165 = .ok (.ireturn, 1) := by decide +kernel
theorem dX6_parse_0 : decode cX6_parse 0 = .ok (.aload_n 0, 1) := by decide +kernel
theorem dX6_parse_1 : decode cX6_parse 1 = .ok (.aload_n 0, 1) := by decide +kernel
theorem dX6_parse_2 : decode cX6_parse 2 = .ok (.invokevirtual 42, 3) := by decide +kernel
theorem dX6_parse_5 : decode cX6_parse 5 = .ok (.iconst (-1), 1) := by decide +kernel
theorem dX6_parse_6 : decode cX6_parse 6 = .ok (.if_icmp .ne 14, 3) := by decide +kernel
theorem dX6_parse_9 : decode cX6_parse 9 = .ok (.aload_n 0, 1) := by decide +kernel
theorem dX6_parse_10 : decode cX6_parse 10 = .ok (.getfield 9, 3) := by decide +kernel
theorem dX6_parse_13 : decode cX6_parse 13 = .ok (.iconst 1, 1) := by decide +kernel
theorem dX6_parse_14 : decode cX6_parse 14 = .ok (.iadd, 1) := by decide +kernel
theorem dX6_parse_15 : decode cX6_parse 15 = .ok (.iconst 4, 1) := by decide +kernel
theorem dX6_parse_16 : decode cX6_parse 16 = .ok (.idiv, 1) := by decide +kernel
theorem dX6_parse_17 : decode cX6_parse 17 = .ok (.goto 4, 3) := by decide +kernel
theorem dX6_parse_20 : decode cX6_parse 20 = .ok (.iconst 0, 1) := by decide +kernel
theorem dX6_parse_21 : decode cX6_parse 21 = .ok (.putfield 15, 3) := by decide +kernel
theorem dX6_parse_24 : decode cX6_parse 24 = .ok (.iconst 0, 1) := by decide +kernel
theorem dX6_parse_25 : decode cX6_parse 25 = .ok (.istore_n 1, 1) := by decide +kernel
theorem dX6_parse_26 : decode cX6_parse 26 = .ok (.iload_n 1, 1) := by decide +kernel
theorem dX6_parse_27 : decode cX6_parse 27 = .ok (.aload_n 0, 1) := by decide +kernel
theorem dX6_parse_28 : decode cX6_parse 28 = .ok (.getfield 15, 3) := by decide +kernel
theorem dX6_parse_31 : decode cX6_parse 31 = .ok (.if_icmp .ge 86, 3) := by decide +kernel
theorem dX6_parse_34 : decode cX6_parse 34 = .ok (.aload_n 0, 1) := by decide +kernel
theorem dX6_parse_35 : decode cX6_parse 35 = .ok (.getfield 26, 3) := by decide +kernel
theorem dX6_parse_38 : decode cX6_parse 38 = .ok (.iload_n 1, 1) := by decide +kernel
theorem dX6_parse_39 : decode cX6_parse 39 = .ok (.aload_n 0, 1) := by decide +kernel
theorem dX6_parse_40 : decode cX6_parse 40 = .ok (.getfield 22, 3) := by decide +kernel
theorem dX6_parse_43 : decode cX6_parse 43 = .ok (.iconst 4, 1) := by decide +kernel
theorem dX6_parse_44 : decode cX6_parse 44 = .ok (.iload_n 1, 1) := by decide +kernel
theorem dX6_parse_45 : decode cX6_parse 45 = .ok (.imul, 1) := by decide +kernel
theorem dX6_parse_46 : decode cX6_parse 46 = .ok (.iaload, 1) := by decide +kernel
theorem dX6_parse_47 : decode cX6_parse 47 = .ok (.bipush 48, 2) := by decide +kernel
theorem dX6_parse_49 : decode cX6_parse 49 = .ok (.isub, 1) := by decide +kernel
theorem dX6_parse_50 : decode cX6_parse 50 = .ok (.iastore, 1) := by decide +kernel
theorem dX6_parse_51 : decode cX6_parse 51 = .ok (.aload_n 0, 1) := by decide +kernel
theorem dX6_parse_52 : decode cX6_parse 52 = .ok (.getfield 29, 3) := by decide +kernel
theorem dX6_parse_55 : decode cX6_parse 55 = .ok (.iload_n 1, 1) := by decide +kernel
theorem dX6_parse_56 : decode cX6_parse 56 = .ok (.aload_n 0, 1) := by decide +kernel
theorem dX6_parse_57 : decode cX6_parse 57 = .ok (.getfield 22, 3) := by decide +kernel
theorem dX6_parse_60 : decode cX6_parse 60 = .ok (.iconst 4, 1) := by decide +kernel
theorem dX6_parse_61 : decode cX6_parse 61 = .ok (.iload_n 1, 1) := by decide +kernel
theorem dX6_parse_62 : decode cX6_parse 62 = .ok (.imul, 1) := by decide +kernel
theorem dX6_parse_63 : decode cX6_parse 63 = .ok (.iconst 1, 1) := by decide +kernel
theorem dX6_parse_64 : decode cX6_parse 64 = .ok (.iadd, 1) := by decide +kernel
theorem dX6_parse_65 : decode cX6_parse 65 = .ok (.iaload, 1) := by decide +kernel
theorem dX6_parse_66 : decode cX6_parse 66 = .ok (.bipush 48, 2) := by decide +kernel
theorem dX6_parse_68 : decode cX6_parse 68 = .ok (.isub, 1) := by decide +kernel
theorem dX6_parse_69 : decode cX6_parse 69 = .ok (.iastore, 1) := by decide +kernel
theorem dX6_parse_70 : decode cX6_parse 70 = .ok (.aload_n 0, 1) := by decide +kernel
theorem dX6_parse_71 : decode cX6_parse 71 = .ok (.getfield 32, 3) := by decide +kernel
theorem dX6_parse_74 : decode cX6_parse 74 = .ok (.iload_n 1, 1) := by decide +kernel
theorem dX6_parse_75 : decode cX6_parse 75 = .ok (.aload_n 0, 1) := by decide +kernel
theorem dX6_parse_76 : decode cX6_parse 76 = .ok (.getfield 18, 3) := by decide +kernel
theorem dX6_parse_79 : decode cX6_parse 79 = .ok (.ifCond .eq 11, 3) := by decide +kernel
theorem dX6_parse_82 : decode cX6_parse 82 = .ok (.aload_n 0, 1) := by decide +kernel
theorem dX6_parse_83 : decode cX6_parse 83 = .ok (.iload_n 1, 1) := by decide +kernel
theorem dX6_parse_84 : decode cX6_parse 84 = .ok (.invokevirtual 46, 3) := by decide +kernel
theorem dX6_parse_87 : decode cX6_parse 87 = .ok (.goto 23, 3) := by decide +kernel
theorem dX6_parse_90 : decode cX6_parse 90 = .ok (.aload_n 0, 1) := by decide +kernel
theorem dX6_parse_91 : decode cX6_parse 91 = .ok (.getfield 22, 3) := by decide +kernel
theorem dX6_parse_94 : decode cX6_parse 94 = .ok (.iconst 4, 1) := by decide +kernel
theorem dX6_parse_95 : decode cX6_parse 95 = .ok (.iload_n 1, 1) := by decide +kernel
theorem dX6_parse_96 : decode cX6_parse 96 = .ok (.imul, 1) := by decide +kernel
theorem dX6_parse_97 : decode cX6_parse 97 = .ok (.iconst 2, 1) := by decide +kernel
theorem dX6_parse_98 : decode cX6_parse 98 = .ok (.iadd, 1) := by decide +kernel
theorem dX6_parse_99 : decode cX6_parse 99 = .ok (.iaload, 1) := by decide +kernel
theorem dX6_parse_100 : decode cX6_parse 100 = .ok (.bipush 117, 2) := by decide +kernel
theorem dX6_parse_102 : decode cX6_parse 102 = .ok (.if_icmp .ne 7, 3) := by decide +kernel
theorem dX6_parse_105 : decode cX6_parse 105 = .ok (.iconst 1, 1) := by decide +kernel
theorem dX6_parse_106 : decode cX6_parse 106 = .ok (.goto 4, 3) := by decide +kernel
theorem dX6_parse_109 : decode cX6_parse 109 = .ok (.iconst 0, 1) := by decide +kernel
theorem dX6_parse_110 : decode cX6_parse 110 = .ok (.iastore, 1) := by decide +kernel
theorem dX6_parse_111 : decode cX6_parse 111 = .ok (.iinc 1 1, 3) := by decide +kernel
theorem dX6_parse_114 : decode cX6_parse 114 = .ok (.goto (-88), 3) := by decide +kernel
theorem dX6_parse_117 : decode cX6_parse 117 = .ok (.return_, 1) := by decide +kernel
theorem dX6_smellOf_0 : decode cX6_smellOf 0 = .ok (.aload_n 0, 1) := by decide +kernel
theorem dX6_smellOf_1 : decode cX6_smellOf 1 = .ok (.getfield 22, 3) := by decide +kernel
theorem dX6_smellOf_4 : decode cX6_smellOf 4 = .ok (.iconst 4, 1) := by decide +kernel
theorem dX6_smellOf_5 : decode cX6_smellOf 5 = .ok (.iload_n 1, 1) := by decide +kernel
theorem dX6_smellOf_6 : decode cX6_smellOf 6 = .ok (.imul, 1) := by decide +kernel
theorem dX6_smellOf_7 : decode cX6_smellOf 7 = .ok (.iconst 2, 1) := by decide +kernel
theorem dX6_smellOf_8 : decode cX6_smellOf 8 = .ok (.iadd, 1) := by decide +kernel
theorem dX6_smellOf_9 : decode cX6_smellOf 9 = .ok (.iaload, 1) := by decide +kernel
theorem dX6_smellOf_10 : decode cX6_smellOf 10 = .ok (.bipush 97, 2) := by decide +kernel
theorem dX6_smellOf_12 : decode cX6_smellOf 12 = .ok (.isub, 1) := by decide +kernel
theorem dX6_smellOf_13 : decode cX6_smellOf 13 = .ok (.istore_n 2, 1) := by decide +kernel
theorem dX6_smellOf_14 : decode cX6_smellOf 14 = .ok (.iload_n 2, 1) := by decide +kernel
theorem dX6_smellOf_15 : decode cX6_smellOf 15 = .ok (.ifCond .lt 15, 3) := by decide +kernel
theorem dX6_smellOf_18 : decode cX6_smellOf 18 = .ok (.iload_n 2, 1) := by decide +kernel
theorem dX6_smellOf_19 : decode cX6_smellOf 19 = .ok (.aload_n 0, 1) := by decide +kernel
theorem dX6_smellOf_20 : decode cX6_smellOf 20 = .ok (.getfield 15, 3) := by decide +kernel
theorem dX6_smellOf_23 : decode cX6_smellOf 23 = .ok (.if_icmp .ge 7, 3) := by decide +kernel
theorem dX6_smellOf_26 : decode cX6_smellOf 26 = .ok (.iload_n 2, 1) := by decide +kernel
theorem dX6_smellOf_27 : decode cX6_smellOf 27 = .ok (.goto 4, 3) := by decide +kernel
theorem dX6_smellOf_30 : decode cX6_smellOf 30 = .ok (.iload_n 1, 1) := by decide +kernel
theorem dX6_smellOf_31 : decode cX6_smellOf 31 = .ok (.ireturn, 1) := by decide +kernel
theorem dX7_init_0 : decode cX7_init 0 = .ok (.aload_n 0, 1) := by decide +kernel
theorem dX7_init_1 : decode cX7_init 1 = .ok (.invokespecial 1, 3) := by decide +kernel
theorem dX7_init_4 : decode cX7_init 4 = .ok (.aload_n 0, 1) := by decide +kernel
theorem dX7_init_5 : decode cX7_init 5 = .ok (.iconst 0, 1) := by decide +kernel
theorem dX7_init_6 : decode cX7_init 6 = .ok (.putfield 7, 3) := by decide +kernel
theorem dX7_init_9 : decode cX7_init 9 = .ok (.aload_n 0, 1) := by decide +kernel
theorem dX7_init_10 : decode cX7_init 10 = .ok (.iload_n 1, 1) := by decide +kernel
theorem dX7_init_11 : decode cX7_init 11 = .ok (.putfield 13, 3) := by decide +kernel
theorem dX7_init_14 : decode cX7_init 14 = .ok (.aload_n 0, 1) := by decide +kernel
theorem dX7_init_15 : decode cX7_init 15 = .ok (.iload_n 1, 1) := by decide +kernel
theorem dX7_init_16 : decode cX7_init 16 = .ok (.iload_n 2, 1) := by decide +kernel
theorem dX7_init_17 : decode cX7_init 17 = .ok (.iadd, 1) := by decide +kernel
theorem dX7_init_18 : decode cX7_init 18 = .ok (.newarray .int, 2) := by decide +kernel
theorem dX7_init_20 : decode cX7_init 20 = .ok (.putfield 16, 3) := by decide +kernel
theorem dX7_init_23 : decode cX7_init 23 = .ok (.aload_n 0, 1) := by decide +kernel
theorem dX7_init_24 : decode cX7_init 24 = .ok (.iload_n 1, 1) := by decide +kernel
theorem dX7_init_25 : decode cX7_init 25 = .ok (.iload_n 2, 1) := by decide +kernel
theorem dX7_init_26 : decode cX7_init 26 = .ok (.iadd, 1) := by decide +kernel
theorem dX7_init_27 : decode cX7_init 27 = .ok (.newarray .int, 2) := by decide +kernel
theorem dX7_init_29 : decode cX7_init 29 = .ok (.putfield 20, 3) := by decide +kernel
theorem dX7_init_32 : decode cX7_init 32 = .ok (.aload_n 0, 1) := by decide +kernel
theorem dX7_init_33 : decode cX7_init 33 = .ok (.iload_n 1, 1) := by decide +kernel
theorem dX7_init_34 : decode cX7_init 34 = .ok (.iload_n 2, 1) := by decide +kernel
theorem dX7_init_35 : decode cX7_init 35 = .ok (.iadd, 1) := by decide +kernel
theorem dX7_init_36 : decode cX7_init 36 = .ok (.newarray .int, 2) := by decide +kernel
theorem dX7_init_38 : decode cX7_init 38 = .ok (.putfield 23, 3) := by decide +kernel
theorem dX7_init_41 : decode cX7_init 41 = .ok (.aload_n 0, 1) := by decide +kernel
theorem dX7_init_42 : decode cX7_init 42 = .ok (.iload_n 1, 1) := by decide +kernel
theorem dX7_init_43 : decode cX7_init 43 = .ok (.iload_n 2, 1) := by decide +kernel
theorem dX7_init_44 : decode cX7_init 44 = .ok (.iadd, 1) := by decide +kernel
theorem dX7_init_45 : decode cX7_init 45 = .ok (.newarray .int, 2) := by decide +kernel
theorem dX7_init_47 : decode cX7_init 47 = .ok (.putfield 26, 3) := by decide +kernel
theorem dX7_init_50 : decode cX7_init 50 = .ok (.return_, 1) := by decide +kernel
theorem dX7_isFull_0 : decode cX7_isFull 0 = .ok (.aload_n 0, 1) := by decide +kernel
theorem dX7_isFull_1 : decode cX7_isFull 1 = .ok (.getfield 7, 3) := by decide +kernel
theorem dX7_isFull_4 : decode cX7_isFull 4 = .ok (.aload_n 0, 1) := by decide +kernel
theorem dX7_isFull_5 : decode cX7_isFull 5 = .ok (.getfield 13, 3) := by decide +kernel
theorem dX7_isFull_8 : decode cX7_isFull 8 = .ok (.if_icmp .lt 7, 3) := by decide +kernel
theorem dX7_isFull_11 : decode cX7_isFull 11 = .ok (.iconst 1, 1) := by decide +kernel
theorem dX7_isFull_12 : decode cX7_isFull 12 = .ok (.goto 4, 3) := by decide +kernel
theorem dX7_isFull_15 : decode cX7_isFull 15 = .ok (.iconst 0, 1) := by decide +kernel
theorem dX7_isFull_16 : decode cX7_isFull 16 = .ok (.ireturn, 1) := by decide +kernel
theorem dX7_add_0 : decode cX7_add 0 = .ok (.aload_n 0, 1) := by decide +kernel
theorem dX7_add_1 : decode cX7_add 1 = .ok (.getfield 7, 3) := by decide +kernel
theorem dX7_add_4 : decode cX7_add 4 = .ok (.aload_n 0, 1) := by decide +kernel
theorem dX7_add_5 : decode cX7_add 5 = .ok (.getfield 26, 3) := by decide +kernel
theorem dX7_add_8 : decode cX7_add 8 = .ok (.arraylength, 1) := by decide +kernel
theorem dX7_add_9 : decode cX7_add 9 = .ok (.if_icmp .lt 4, 3) := by decide +kernel
theorem dX7_add_12 : decode cX7_add 12 = .ok (.return_, 1) := by decide +kernel
theorem dX7_add_13 : decode cX7_add 13 = .ok (.aload_n 0, 1) := by decide +kernel
theorem dX7_add_14 : decode cX7_add 14 = .ok (.getfield 7, 3) := by decide +kernel
theorem dX7_add_17 : decode cX7_add 17 = .ok (.istore 4, 2) := by decide +kernel
theorem dX7_add_19 : decode cX7_add 19 = .ok (.iload 4, 2) := by decide +kernel
theorem dX7_add_21 : decode cX7_add 21 = .ok (.ifCond .le 43, 3) := by decide +kernel
theorem dX7_add_24 : decode cX7_add 24 = .ok (.aload_n 0, 1) := by decide +kernel
theorem dX7_add_25 : decode cX7_add 25 = .ok (.getfield 16, 3) := by decide +kernel
theorem dX7_add_28 : decode cX7_add 28 = .ok (.aload_n 0, 1) := by decide +kernel
theorem dX7_add_29 : decode cX7_add 29 = .ok (.getfield 26, 3) := by decide +kernel
theorem dX7_add_32 : decode cX7_add 32 = .ok (.iload 4, 2) := by decide +kernel
theorem dX7_add_34 : decode cX7_add 34 = .ok (.iconst 1, 1) := by decide +kernel
theorem dX7_add_35 : decode cX7_add 35 = .ok (.isub, 1) := by decide +kernel
theorem dX7_add_36 : decode cX7_add 36 = .ok (.iaload, 1) := by decide +kernel
theorem dX7_add_37 : decode cX7_add 37 = .ok (.iaload, 1) := by decide +kernel
theorem dX7_add_38 : decode cX7_add 38 = .ok (.iload_n 1, 1) := by decide +kernel
theorem dX7_add_39 : decode cX7_add 39 = .ok (.if_icmp .le 25, 3) := by decide +kernel
theorem dX7_add_42 : decode cX7_add 42 = .ok (.aload_n 0, 1) := by decide +kernel
theorem dX7_add_43 : decode cX7_add 43 = .ok (.getfield 26, 3) := by decide +kernel
theorem dX7_add_46 : decode cX7_add 46 = .ok (.iload 4, 2) := by decide +kernel
theorem dX7_add_48 : decode cX7_add 48 = .ok (.aload_n 0, 1) := by decide +kernel
theorem dX7_add_49 : decode cX7_add 49 = .ok (.getfield 26, 3) := by decide +kernel
theorem dX7_add_52 : decode cX7_add 52 = .ok (.iload 4, 2) := by decide +kernel
theorem dX7_add_54 : decode cX7_add 54 = .ok (.iconst 1, 1) := by decide +kernel
theorem dX7_add_55 : decode cX7_add 55 = .ok (.isub, 1) := by decide +kernel
theorem dX7_add_56 : decode cX7_add 56 = .ok (.iaload, 1) := by decide +kernel
theorem dX7_add_57 : decode cX7_add 57 = .ok (.iastore, 1) := by decide +kernel
theorem dX7_add_58 : decode cX7_add 58 = .ok (.iinc 4 (-1), 3) := by decide +kernel
theorem dX7_add_61 : decode cX7_add 61 = .ok (.goto (-42), 3) := by decide +kernel
theorem dX7_add_64 : decode cX7_add 64 = .ok (.aload_n 0, 1) := by decide +kernel
theorem dX7_add_65 : decode cX7_add 65 = .ok (.getfield 26, 3) := by decide +kernel
theorem dX7_add_68 : decode cX7_add 68 = .ok (.iload 4, 2) := by decide +kernel
theorem dX7_add_70 : decode cX7_add 70 = .ok (.aload_n 0, 1) := by decide +kernel
theorem dX7_add_71 : decode cX7_add 71 = .ok (.getfield 7, 3) := by decide +kernel
theorem dX7_add_74 : decode cX7_add 74 = .ok (.iastore, 1) := by decide +kernel
theorem dX7_add_75 : decode cX7_add 75 = .ok (.aload_n 0, 1) := by decide +kernel
theorem dX7_add_76 : decode cX7_add 76 = .ok (.getfield 16, 3) := by decide +kernel
theorem dX7_add_79 : decode cX7_add 79 = .ok (.aload_n 0, 1) := by decide +kernel
theorem dX7_add_80 : decode cX7_add 80 = .ok (.getfield 7, 3) := by decide +kernel
theorem dX7_add_83 : decode cX7_add 83 = .ok (.iload_n 1, 1) := by decide +kernel
theorem dX7_add_84 : decode cX7_add 84 = .ok (.iastore, 1) := by decide +kernel
theorem dX7_add_85 : decode cX7_add 85 = .ok (.aload_n 0, 1) := by decide +kernel
theorem dX7_add_86 : decode cX7_add 86 = .ok (.getfield 20, 3) := by decide +kernel
theorem dX7_add_89 : decode cX7_add 89 = .ok (.aload_n 0, 1) := by decide +kernel
theorem dX7_add_90 : decode cX7_add 90 = .ok (.getfield 7, 3) := by decide +kernel
theorem dX7_add_93 : decode cX7_add 93 = .ok (.iload_n 2, 1) := by decide +kernel
theorem dX7_add_94 : decode cX7_add 94 = .ok (.iastore, 1) := by decide +kernel
theorem dX7_add_95 : decode cX7_add 95 = .ok (.aload_n 0, 1) := by decide +kernel
theorem dX7_add_96 : decode cX7_add 96 = .ok (.getfield 23, 3) := by decide +kernel
theorem dX7_add_99 : decode cX7_add 99 = .ok (.aload_n 0, 1) := by decide +kernel
theorem dX7_add_100 : decode cX7_add 100 = .ok (.getfield 7, 3) := by decide +kernel
theorem dX7_add_103 : decode cX7_add 103 = .ok (.iload_n 3, 1) := by decide +kernel
theorem dX7_add_104 : decode cX7_add 104 = .ok (.iastore, 1) := by decide +kernel
theorem dX7_add_105 : decode cX7_add 105 = .ok (.aload_n 0, 1) := by decide +kernel
theorem dX7_add_106 : decode cX7_add 106 = .ok (.dup, 1) := by decide +kernel
theorem dX7_add_107 : decode cX7_add 107 = .ok (.getfield 7, 3) := by decide +kernel
theorem dX7_add_110 : decode cX7_add 110 = .ok (.iconst 1, 1) := by decide +kernel
theorem dX7_add_111 : decode cX7_add 111 = .ok (.iadd, 1) := by decide +kernel
theorem dX7_add_112 : decode cX7_add 112 = .ok (.putfield 7, 3) := by decide +kernel
theorem dX7_add_115 : decode cX7_add 115 = .ok (.return_, 1) := by decide +kernel
theorem dX7_drop_0 : decode cX7_drop 0 = .ok (.aload_n 0, 1) := by decide +kernel
theorem dX7_drop_1 : decode cX7_drop 1 = .ok (.getfield 7, 3) := by decide +kernel
theorem dX7_drop_4 : decode cX7_drop 4 = .ok (.ifCond .ne 4, 3) := by decide +kernel
theorem dX7_drop_7 : decode cX7_drop 7 = .ok (.return_, 1) := by decide +kernel
theorem dX7_drop_8 : decode cX7_drop 8 = .ok (.aload_n 0, 1) := by decide +kernel
theorem dX7_drop_9 : decode cX7_drop 9 = .ok (.dup, 1) := by decide +kernel
theorem dX7_drop_10 : decode cX7_drop 10 = .ok (.getfield 7, 3) := by decide +kernel
theorem dX7_drop_13 : decode cX7_drop 13 = .ok (.iconst 1, 1) := by decide +kernel
theorem dX7_drop_14 : decode cX7_drop 14 = .ok (.isub, 1) := by decide +kernel
theorem dX7_drop_15 : decode cX7_drop 15 = .ok (.putfield 7, 3) := by decide +kernel
theorem dX7_drop_18 : decode cX7_drop 18 = .ok (.iconst 0, 1) := by decide +kernel
theorem dX7_drop_19 : decode cX7_drop 19 = .ok (.istore_n 1, 1) := by decide +kernel
theorem dX7_drop_20 : decode cX7_drop 20 = .ok (.iconst 0, 1) := by decide +kernel
theorem dX7_drop_21 : decode cX7_drop 21 = .ok (.istore_n 2, 1) := by decide +kernel
theorem dX7_drop_22 : decode cX7_drop 22 = .ok (.iload_n 2, 1) := by decide +kernel
theorem dX7_drop_23 : decode cX7_drop 23 = .ok (.aload_n 0, 1) := by decide +kernel
theorem dX7_drop_24 : decode cX7_drop 24 = .ok (.getfield 7, 3) := by decide +kernel
theorem dX7_drop_27 : decode cX7_drop 27 = .ok (.if_icmp .ge 50, 3) := by decide +kernel
theorem dX7_drop_30 : decode cX7_drop 30 = .ok (.iload_n 1, 1) := by decide +kernel
theorem dX7_drop_31 : decode cX7_drop 31 = .ok (.ifCond .ne 16, 3) := by decide +kernel
theorem dX7_drop_34 : decode cX7_drop 34 = .ok (.aload_n 0, 1) := by decide +kernel
theorem dX7_drop_35 : decode cX7_drop 35 = .ok (.getfield 26, 3) := by decide +kernel
theorem dX7_drop_38 : decode cX7_drop 38 = .ok (.iload_n 2, 1) := by decide +kernel
theorem dX7_drop_39 : decode cX7_drop 39 = .ok (.iaload, 1) := by decide +kernel
theorem dX7_drop_40 : decode cX7_drop 40 = .ok (.aload_n 0, 1) := by decide +kernel
theorem dX7_drop_41 : decode cX7_drop 41 = .ok (.getfield 7, 3) := by decide +kernel
theorem dX7_drop_44 : decode cX7_drop 44 = .ok (.if_icmp .ne 7, 3) := by decide +kernel
theorem dX7_drop_47 : decode cX7_drop 47 = .ok (.iconst 1, 1) := by decide +kernel
theorem dX7_drop_48 : decode cX7_drop 48 = .ok (.goto 4, 3) := by decide +kernel
theorem dX7_drop_51 : decode cX7_drop 51 = .ok (.iconst 0, 1) := by decide +kernel
theorem dX7_drop_52 : decode cX7_drop 52 = .ok (.istore_n 1, 1) := by decide +kernel
theorem dX7_drop_53 : decode cX7_drop 53 = .ok (.iload_n 1, 1) := by decide +kernel
theorem dX7_drop_54 : decode cX7_drop 54 = .ok (.ifCond .eq 17, 3) := by decide +kernel
theorem dX7_drop_57 : decode cX7_drop 57 = .ok (.aload_n 0, 1) := by decide +kernel
theorem dX7_drop_58 : decode cX7_drop 58 = .ok (.getfield 26, 3) := by decide +kernel
theorem dX7_drop_61 : decode cX7_drop 61 = .ok (.iload_n 2, 1) := by decide +kernel
theorem dX7_drop_62 : decode cX7_drop 62 = .ok (.aload_n 0, 1) := by decide +kernel
theorem dX7_drop_63 : decode cX7_drop 63 = .ok (.getfield 26, 3) := by decide +kernel
theorem dX7_drop_66 : decode cX7_drop 66 = .ok (.iload_n 2, 1) := by decide +kernel
theorem dX7_drop_67 : decode cX7_drop 67 = .ok (.iconst 1, 1) := by decide +kernel
theorem dX7_drop_68 : decode cX7_drop 68 = .ok (.iadd, 1) := by decide +kernel
theorem dX7_drop_69 : decode cX7_drop 69 = .ok (.iaload, 1) := by decide +kernel
theorem dX7_drop_70 : decode cX7_drop 70 = .ok (.iastore, 1) := by decide +kernel
theorem dX7_drop_71 : decode cX7_drop 71 = .ok (.iinc 2 1, 3) := by decide +kernel
theorem dX7_drop_74 : decode cX7_drop 74 = .ok (.goto (-52), 3) := by decide +kernel
theorem dX7_drop_77 : decode cX7_drop 77 = .ok (.return_, 1) := by decide +kernel
theorem dX7_clear_0 : decode cX7_clear 0 = .ok (.aload_n 0, 1) := by decide +kernel
theorem dX7_clear_1 : decode cX7_clear 1 = .ok (.iconst 0, 1) := by decide +kernel
theorem dX7_clear_2 : decode cX7_clear 2 = .ok (.putfield 7, 3) := by decide +kernel
theorem dX7_clear_5 : decode cX7_clear 5 = .ok (.return_, 1) := by decide +kernel
theorem dJ6_bitCount_0f7a4_0 : decode cJ6_bitCount_0f7a4 0 = .ok (.iload_n 0, 1) := by decide +kernel
theorem dJ6_bitCount_0f7a4_1 : decode cJ6_bitCount_0f7a4 1 = .ok (.iload_n 0, 1) := by decide +kernel
theorem dJ6_bitCount_0f7a4_2 : decode cJ6_bitCount_0f7a4 2 = .ok (.iconst 1, 1) := by decide +kernel
theorem dJ6_bitCount_0f7a4_3 : decode cJ6_bitCount_0f7a4 3 = .ok (.iushr, 1) := by decide +kernel
theorem dJ6_bitCount_0f7a4_4 : decode cJ6_bitCount_0f7a4 4 = .ok (.ldc_w 265, 3) := by decide +kernel
theorem dJ6_bitCount_0f7a4_7 : decode cJ6_bitCount_0f7a4 7 = .ok (.iand, 1) := by decide +kernel
theorem dJ6_bitCount_0f7a4_8 : decode cJ6_bitCount_0f7a4 8 = .ok (.isub, 1) := by decide +kernel
theorem dJ6_bitCount_0f7a4_9 : decode cJ6_bitCount_0f7a4 9 = .ok (.istore_n 0, 1) := by decide +kernel
theorem dJ6_bitCount_0f7a4_10 : decode cJ6_bitCount_0f7a4 10 = .ok (.iload_n 0, 1) := by decide +kernel
theorem dJ6_bitCount_0f7a4_11 : decode cJ6_bitCount_0f7a4 11 = .ok (.ldc_w 266, 3) := by decide +kernel
theorem dJ6_bitCount_0f7a4_14 : decode cJ6_bitCount_0f7a4 14 = .ok (.iand, 1) := by decide +kernel
theorem dJ6_bitCount_0f7a4_15 : decode cJ6_bitCount_0f7a4 15 = .ok (.iload_n 0, 1) := by decide +kernel
theorem dJ6_bitCount_0f7a4_16 : decode cJ6_bitCount_0f7a4 16 = .ok (.iconst 2, 1) := by decide +kernel
theorem dJ6_bitCount_0f7a4_17 : decode cJ6_bitCount_0f7a4 17 = .ok (.iushr, 1) := by decide +kernel
theorem dJ6_bitCount_0f7a4_18 : decode cJ6_bitCount_0f7a4 18 = .ok (.ldc_w 266, 3) := by decide +kernel
theorem dJ6_bitCount_0f7a4_21 : decode cJ6_bitCount_0f7a4 21 = .ok (.iand, 1) := by decide +kernel
theorem dJ6_bitCount_0f7a4_22 : decode cJ6_bitCount_0f7a4 22 = .ok (.iadd, 1) := by decide +kernel
theorem dJ6_bitCount_0f7a4_23 : decode cJ6_bitCount_0f7a4 23 = .ok (.istore_n 0, 1) := by decide +kernel
theorem dJ6_bitCount_0f7a4_24 : decode cJ6_bitCount_0f7a4 24 = .ok (.iload_n 0, 1) := by decide +kernel
theorem dJ6_bitCount_0f7a4_25 : decode cJ6_bitCount_0f7a4 25 = .ok (.iload_n 0, 1) := by decide +kernel
theorem dJ6_bitCount_0f7a4_26 : decode cJ6_bitCount_0f7a4 26 = .ok (.iconst 4, 1) := by decide +kernel
theorem dJ6_bitCount_0f7a4_27 : decode cJ6_bitCount_0f7a4 27 = .ok (.iushr, 1) := by decide +kernel
theorem dJ6_bitCount_0f7a4_28 : decode cJ6_bitCount_0f7a4 28 = .ok (.iadd, 1) := by decide +kernel
theorem dJ6_bitCount_0f7a4_29 : decode cJ6_bitCount_0f7a4 29 = .ok (.ldc_w 267, 3) := by decide +kernel
theorem dJ6_bitCount_0f7a4_32 : decode cJ6_bitCount_0f7a4 32 = .ok (.iand, 1) := by decide +kernel
theorem dJ6_bitCount_0f7a4_33 : decode cJ6_bitCount_0f7a4 33 = .ok (.istore_n 0, 1) := by decide +kernel
theorem dJ6_bitCount_0f7a4_34 : decode cJ6_bitCount_0f7a4 34 = .ok (.iload_n 0, 1) := by decide +kernel
theorem dJ6_bitCount_0f7a4_35 : decode cJ6_bitCount_0f7a4 35 = .ok (.iload_n 0, 1) := by decide +kernel
theorem dJ6_bitCount_0f7a4_36 : decode cJ6_bitCount_0f7a4 36 = .ok (.bipush 8, 2) := by decide +kernel
theorem dJ6_bitCount_0f7a4_38 : decode cJ6_bitCount_0f7a4 38 = .ok (.iushr, 1) := by decide +kernel
theorem dJ6_bitCount_0f7a4_39 : decode cJ6_bitCount_0f7a4 39 = .ok (.iadd, 1) := by decide +kernel
theorem dJ6_bitCount_0f7a4_40 : decode cJ6_bitCount_0f7a4 40 = .ok (.istore_n 0, 1) := by decide +kernel
theorem dJ6_bitCount_0f7a4_41 : decode cJ6_bitCount_0f7a4 41 = .ok (.iload_n 0, 1) := by decide +kernel
theorem dJ6_bitCount_0f7a4_42 : decode cJ6_bitCount_0f7a4 42 = .ok (.iload_n 0, 1) := by decide +kernel
theorem dJ6_bitCount_0f7a4_43 : decode cJ6_bitCount_0f7a4 43 = .ok (.bipush 16, 2) := by decide +kernel
theorem dJ6_bitCount_0f7a4_45 : decode cJ6_bitCount_0f7a4 45 = .ok (.iushr, 1) := by decide +kernel
theorem dJ6_bitCount_0f7a4_46 : decode cJ6_bitCount_0f7a4 46 = .ok (.iadd, 1) := by decide +kernel
theorem dJ6_bitCount_0f7a4_47 : decode cJ6_bitCount_0f7a4 47 = .ok (.istore_n 0, 1) := by decide +kernel
theorem dJ6_bitCount_0f7a4_48 : decode cJ6_bitCount_0f7a4 48 = .ok (.iload_n 0, 1) := by decide +kernel
theorem dJ6_bitCount_0f7a4_49 : decode cJ6_bitCount_0f7a4 49 = .ok (.bipush 63, 2) := by decide +kernel
theorem dJ6_bitCount_0f7a4_51 : decode cJ6_bitCount_0f7a4 51 = .ok (.iand, 1) := by decide +kernel
theorem dJ6_bitCount_0f7a4_52 : decode cJ6_bitCount_0f7a4 52 = .ok (.ireturn, 1) := by decide +kernel
theorem dJ13_bitCount_95d88_0 : decode cJ13_bitCount_95d88 0 = .ok (.lload_n 0, 1) := by decide +kernel
theorem dJ13_bitCount_95d88_1 : decode cJ13_bitCount_95d88 1 = .ok (.lload_n 0, 1) := by decide +kernel
theorem dJ13_bitCount_95d88_2 : decode cJ13_bitCount_95d88 2 = .ok (.iconst 1, 1) := by decide +kernel
theorem dJ13_bitCount_95d88_3 : decode cJ13_bitCount_95d88 3 = .ok (.lushr, 1) := by decide +kernel
theorem dJ13_bitCount_95d88_4 : decode cJ13_bitCount_95d88 4 = .ok (.ldc2_w 314, 3) := by decide +kernel
theorem dJ13_bitCount_95d88_7 : decode cJ13_bitCount_95d88 7 = .ok (.land, 1) := by decide +kernel
theorem dJ13_bitCount_95d88_8 : decode cJ13_bitCount_95d88 8 = .ok (.lsub, 1) := by decide +kernel
theorem dJ13_bitCount_95d88_9 : decode cJ13_bitCount_95d88 9 = .ok (.lstore_n 0, 1) := by decide +kernel
theorem dJ13_bitCount_95d88_10 : decode cJ13_bitCount_95d88 10 = .ok (.lload_n 0, 1) := by decide +kernel
theorem dJ13_bitCount_95d88_11 : decode cJ13_bitCount_95d88 11 = .ok (.ldc2_w 316, 3) := by decide +kernel
theorem dJ13_bitCount_95d88_14 : decode cJ13_bitCount_95d88 14 = .ok (.land, 1) := by decide +kernel
theorem dJ13_bitCount_95d88_15 : decode cJ13_bitCount_95d88 15 = .ok (.lload_n 0, 1) := by decide +kernel
theorem dJ13_bitCount_95d88_16 : decode cJ13_bitCount_95d88 16 = .ok (.iconst 2, 1) := by decide +kernel
theorem dJ13_bitCount_95d88_17 : decode cJ13_bitCount_95d88 17 = .ok (.lushr, 1) := by decide +kernel
theorem dJ13_bitCount_95d88_18 : decode cJ13_bitCount_95d88 18 = .ok (.ldc2_w 316, 3) := by decide +kernel
theorem dJ13_bitCount_95d88_21 : decode cJ13_bitCount_95d88 21 = .ok (.land, 1) := by decide +kernel
theorem dJ13_bitCount_95d88_22 : decode cJ13_bitCount_95d88 22 = .ok (.ladd, 1) := by decide +kernel
theorem dJ13_bitCount_95d88_23 : decode cJ13_bitCount_95d88 23 = .ok (.lstore_n 0, 1) := by decide +kernel
theorem dJ13_bitCount_95d88_24 : decode cJ13_bitCount_95d88 24 = .ok (.lload_n 0, 1) := by decide +kernel
theorem dJ13_bitCount_95d88_25 : decode cJ13_bitCount_95d88 25 = .ok (.lload_n 0, 1) := by decide +kernel
theorem dJ13_bitCount_95d88_26 : decode cJ13_bitCount_95d88 26 = .ok (.iconst 4, 1) := by decide +kernel
theorem dJ13_bitCount_95d88_27 : decode cJ13_bitCount_95d88 27 = .ok (.lushr, 1) := by decide +kernel
theorem dJ13_bitCount_95d88_28 : decode cJ13_bitCount_95d88 28 = .ok (.ladd, 1) := by decide +kernel
theorem dJ13_bitCount_95d88_29 : decode cJ13_bitCount_95d88 29 = .ok (.ldc2_w 318, 3) := by decide +kernel
theorem dJ13_bitCount_95d88_32 : decode cJ13_bitCount_95d88 32 = .ok (.land, 1) := by decide +kernel
theorem dJ13_bitCount_95d88_33 : decode cJ13_bitCount_95d88 33 = .ok (.lstore_n 0, 1) := by decide +kernel
theorem dJ13_bitCount_95d88_34 : decode cJ13_bitCount_95d88 34 = .ok (.lload_n 0, 1) := by decide +kernel
theorem dJ13_bitCount_95d88_35 : decode cJ13_bitCount_95d88 35 = .ok (.lload_n 0, 1) := by decide +kernel
theorem dJ13_bitCount_95d88_36 : decode cJ13_bitCount_95d88 36 = .ok (.bipush 8, 2) := by decide +kernel
theorem dJ13_bitCount_95d88_38 : decode cJ13_bitCount_95d88 38 = .ok (.lushr, 1) := by decide +kernel
theorem dJ13_bitCount_95d88_39 : decode cJ13_bitCount_95d88 39 = .ok (.ladd, 1) := by decide +kernel
theorem dJ13_bitCount_95d88_40 : decode cJ13_bitCount_95d88 40 = .ok (.lstore_n 0, 1) := by decide +kernel
theorem dJ13_bitCount_95d88_41 : decode cJ13_bitCount_95d88 41 = .ok (.lload_n 0, 1) := by decide +kernel
theorem dJ13_bitCount_95d88_42 : decode cJ13_bitCount_95d88 42 = .ok (.lload_n 0, 1) := by decide +kernel
theorem dJ13_bitCount_95d88_43 : decode cJ13_bitCount_95d88 43 = .ok (.bipush 16, 2) := by decide +kernel
theorem dJ13_bitCount_95d88_45 : decode cJ13_bitCount_95d88 45 = .ok (.lushr, 1) := by decide +kernel
theorem dJ13_bitCount_95d88_46 : decode cJ13_bitCount_95d88 46 = .ok (.ladd, 1) := by decide +kernel
theorem dJ13_bitCount_95d88_47 : decode cJ13_bitCount_95d88 47 = .ok (.lstore_n 0, 1) := by decide +kernel
theorem dJ13_bitCount_95d88_48 : decode cJ13_bitCount_95d88 48 = .ok (.lload_n 0, 1) := by decide +kernel
theorem dJ13_bitCount_95d88_49 : decode cJ13_bitCount_95d88 49 = .ok (.lload_n 0, 1) := by decide +kernel
theorem dJ13_bitCount_95d88_50 : decode cJ13_bitCount_95d88 50 = .ok (.bipush 32, 2) := by decide +kernel
theorem dJ13_bitCount_95d88_52 : decode cJ13_bitCount_95d88 52 = .ok (.lushr, 1) := by decide +kernel
theorem dJ13_bitCount_95d88_53 : decode cJ13_bitCount_95d88 53 = .ok (.ladd, 1) := by decide +kernel
theorem dJ13_bitCount_95d88_54 : decode cJ13_bitCount_95d88 54 = .ok (.lstore_n 0, 1) := by decide +kernel
theorem dJ13_bitCount_95d88_55 : decode cJ13_bitCount_95d88 55 = .ok (.lload_n 0, 1) := by decide +kernel
theorem dJ13_bitCount_95d88_56 : decode cJ13_bitCount_95d88 56 = .ok (.l2i, 1) := by decide +kernel
theorem dJ13_bitCount_95d88_57 : decode cJ13_bitCount_95d88 57 = .ok (.bipush 127, 2) := by decide +kernel
theorem dJ13_bitCount_95d88_59 : decode cJ13_bitCount_95d88 59 = .ok (.iand, 1) := by decide +kernel
theorem dJ13_bitCount_95d88_60 : decode cJ13_bitCount_95d88 60 = .ok (.ireturn, 1) := by decide +kernel
theorem dJ9_max_7cf53_0 : decode cJ9_max_7cf53 0 = .ok (.iload_n 0, 1) := by decide +kernel
theorem dJ9_max_7cf53_1 : decode cJ9_max_7cf53 1 = .ok (.iload_n 1, 1) := by decide +kernel
theorem dJ9_max_7cf53_2 : decode cJ9_max_7cf53 2 = .ok (.if_icmp .lt 7, 3) := by decide +kernel
theorem dJ9_max_7cf53_5 : decode cJ9_max_7cf53 5 = .ok (.iload_n 0, 1) := by decide +kernel
theorem dJ9_max_7cf53_6 : decode cJ9_max_7cf53 6 = .ok (.goto 4, 3) := by decide +kernel
theorem dJ9_max_7cf53_9 : decode cJ9_max_7cf53 9 = .ok (.iload_n 1, 1) := by decide +kernel
theorem dJ9_max_7cf53_10 : decode cJ9_max_7cf53 10 = .ok (.ireturn, 1) := by decide +kernel
theorem dJ9_max_f86c9_0 : decode cJ9_max_f86c9 0 = .ok (.lload_n 0, 1) := by decide +kernel
theorem dJ9_max_f86c9_1 : decode cJ9_max_f86c9 1 = .ok (.lload_n 2, 1) := by decide +kernel
theorem dJ9_max_f86c9_2 : decode cJ9_max_f86c9 2 = .ok (.lcmp, 1) := by decide +kernel
theorem dJ9_max_f86c9_3 : decode cJ9_max_f86c9 3 = .ok (.ifCond .lt 7, 3) := by decide +kernel
theorem dJ9_max_f86c9_6 : decode cJ9_max_f86c9 6 = .ok (.lload_n 0, 1) := by decide +kernel
theorem dJ9_max_f86c9_7 : decode cJ9_max_f86c9 7 = .ok (.goto 4, 3) := by decide +kernel
theorem dJ9_max_f86c9_10 : decode cJ9_max_f86c9 10 = .ok (.lload_n 2, 1) := by decide +kernel
theorem dJ9_max_f86c9_11 : decode cJ9_max_f86c9 11 = .ok (.lreturn, 1) := by decide +kernel
theorem dJ9_min_7cf53_0 : decode cJ9_min_7cf53 0 = .ok (.iload_n 0, 1) := by decide +kernel
theorem dJ9_min_7cf53_1 : decode cJ9_min_7cf53 1 = .ok (.iload_n 1, 1) := by decide +kernel
theorem dJ9_min_7cf53_2 : decode cJ9_min_7cf53 2 = .ok (.if_icmp .gt 7, 3) := by decide +kernel
theorem dJ9_min_7cf53_5 : decode cJ9_min_7cf53 5 = .ok (.iload_n 0, 1) := by decide +kernel
theorem dJ9_min_7cf53_6 : decode cJ9_min_7cf53 6 = .ok (.goto 4, 3) := by decide +kernel
theorem dJ9_min_7cf53_9 : decode cJ9_min_7cf53 9 = .ok (.iload_n 1, 1) := by decide +kernel
theorem dJ9_min_7cf53_10 : decode cJ9_min_7cf53 10 = .ok (.ireturn, 1) := by decide +kernel
theorem dJ9_min_f86c9_0 : decode cJ9_min_f86c9 0 = .ok (.lload_n 0, 1) := by decide +kernel
theorem dJ9_min_f86c9_1 : decode cJ9_min_f86c9 1 = .ok (.lload_n 2, 1) := by decide +kernel
theorem dJ9_min_f86c9_2 : decode cJ9_min_f86c9 2 = .ok (.lcmp, 1) := by decide +kernel
theorem dJ9_min_f86c9_3 : decode cJ9_min_f86c9 3 = .ok (.ifCond .gt 7, 3) := by decide +kernel
theorem dJ9_min_f86c9_6 : decode cJ9_min_f86c9 6 = .ok (.lload_n 0, 1) := by decide +kernel
theorem dJ9_min_f86c9_7 : decode cJ9_min_f86c9 7 = .ok (.goto 4, 3) := by decide +kernel
theorem dJ9_min_f86c9_10 : decode cJ9_min_f86c9 10 = .ok (.lload_n 2, 1) := by decide +kernel
theorem dJ9_min_f86c9_11 : decode cJ9_min_f86c9 11 = .ok (.lreturn, 1) := by decide +kernel
theorem dJ7_fill_53178_0 : decode cJ7_fill_53178 0 = .ok (.iconst 0, 1) := by decide +kernel
theorem dJ7_fill_53178_1 : decode cJ7_fill_53178 1 = .ok (.istore_n 2, 1) := by decide +kernel
theorem dJ7_fill_53178_2 : decode cJ7_fill_53178 2 = .ok (.aload_n 0, 1) := by decide +kernel
theorem dJ7_fill_53178_3 : decode cJ7_fill_53178 3 = .ok (.arraylength, 1) := by decide +kernel
theorem dJ7_fill_53178_4 : decode cJ7_fill_53178 4 = .ok (.istore_n 3, 1) := by decide +kernel
theorem dJ7_fill_53178_5 : decode cJ7_fill_53178 5 = .ok (.iload_n 2, 1) := by decide +kernel
theorem dJ7_fill_53178_6 : decode cJ7_fill_53178 6 = .ok (.iload_n 3, 1) := by decide +kernel
theorem dJ7_fill_53178_7 : decode cJ7_fill_53178 7 = .ok (.if_icmp .ge 13, 3) := by decide +kernel
theorem dJ7_fill_53178_10 : decode cJ7_fill_53178 10 = .ok (.aload_n 0, 1) := by decide +kernel
theorem dJ7_fill_53178_11 : decode cJ7_fill_53178 11 = .ok (.iload_n 2, 1) := by decide +kernel
theorem dJ7_fill_53178_12 : decode cJ7_fill_53178 12 = .ok (.iload_n 1, 1) := by decide +kernel
theorem dJ7_fill_53178_13 : decode cJ7_fill_53178 13 = .ok (.iastore, 1) := by decide +kernel
theorem dJ7_fill_53178_14 : decode cJ7_fill_53178 14 = .ok (.iinc 2 1, 3) := by decide +kernel
theorem dJ7_fill_53178_17 : decode cJ7_fill_53178 17 = .ok (.goto (-12), 3) := by decide +kernel
theorem dJ7_fill_53178_20 : decode cJ7_fill_53178 20 = .ok (.return_, 1) := by decide +kernel
