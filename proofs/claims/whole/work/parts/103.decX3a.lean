theorem dX3_init_0 : decode cX3_init 0 = .ok (.aload_n 0, 1) := by decide +kernel
theorem dX3_init_1 : decode cX3_init 1 = .ok (.invokespecial 3, 3) := by decide +kernel
theorem dX3_init_4 : decode cX3_init 4 = .ok (.aload_n 0, 1) := by decide +kernel
theorem dX3_init_5 : decode cX3_init 5 = .ok (.lconst 0, 1) := by decide +kernel
theorem dX3_init_6 : decode cX3_init 6 = .ok (.putfield 9, 3) := by decide +kernel
theorem dX3_init_9 : decode cX3_init 9 = .ok (.aload_n 0, 1) := by decide +kernel
theorem dX3_init_10 : decode cX3_init 10 = .ok (.lconst 1, 1) := by decide +kernel
theorem dX3_init_11 : decode cX3_init 11 = .ok (.putfield 15, 3) := by decide +kernel
theorem dX3_init_14 : decode cX3_init 14 = .ok (.aload_n 0, 1) := by decide +kernel
theorem dX3_init_15 : decode cX3_init 15 = .ok (.iconst 0, 1) := by decide +kernel
theorem dX3_init_16 : decode cX3_init 16 = .ok (.putfield 18, 3) := by decide +kernel
theorem dX3_init_19 : decode cX3_init 19 = .ok (.return_, 1) := by decide +kernel
theorem dX3_hold_0 : decode cX3_hold 0 = .ok (.aload_n 0, 1) := by decide +kernel
theorem dX3_hold_1 : decode cX3_hold 1 = .ok (.lload_n 1, 1) := by decide +kernel
theorem dX3_hold_2 : decode cX3_hold 2 = .ok (.putfield 9, 3) := by decide +kernel
theorem dX3_hold_5 : decode cX3_hold 5 = .ok (.aload_n 0, 1) := by decide +kernel
theorem dX3_hold_6 : decode cX3_hold 6 = .ok (.lload_n 3, 1) := by decide +kernel
theorem dX3_hold_7 : decode cX3_hold 7 = .ok (.putfield 15, 3) := by decide +kernel
theorem dX3_hold_10 : decode cX3_hold 10 = .ok (.aload_n 0, 1) := by decide +kernel
theorem dX3_hold_11 : decode cX3_hold 11 = .ok (.iload 5, 2) := by decide +kernel
theorem dX3_hold_13 : decode cX3_hold 13 = .ok (.putfield 18, 3) := by decide +kernel
theorem dX3_hold_16 : decode cX3_hold 16 = .ok (.return_, 1) := by decide +kernel
theorem dX3_join_0 : decode cX3_join 0 = .ok (.iload_n 1, 1) := by decide +kernel
theorem dX3_join_1 : decode cX3_join 1 = .ok (.bipush 43, 2) := by decide +kernel
theorem dX3_join_3 : decode cX3_join 3 = .ok (.if_icmp .eq 9, 3) := by decide +kernel
theorem dX3_join_6 : decode cX3_join 6 = .ok (.iload_n 1, 1) := by decide +kernel
theorem dX3_join_7 : decode cX3_join 7 = .ok (.bipush 45, 2) := by decide +kernel
theorem dX3_join_9 : decode cX3_join 9 = .ok (.if_icmp .ne 28, 3) := by decide +kernel
theorem dX3_join_12 : decode cX3_join 12 = .ok (.aload_n 0, 1) := by decide +kernel
theorem dX3_join_13 : decode cX3_join 13 = .ok (.iload_n 1, 1) := by decide +kernel
theorem dX3_join_14 : decode cX3_join 14 = .ok (.bipush 43, 2) := by decide +kernel
theorem dX3_join_16 : decode cX3_join 16 = .ok (.if_icmp .ne 10, 3) := by decide +kernel
theorem dX3_join_19 : decode cX3_join 19 = .ok (.lload_n 2, 1) := by decide +kernel
theorem dX3_join_20 : decode cX3_join 20 = .ok (.lload 4, 2) := by decide +kernel
theorem dX3_join_22 : decode cX3_join 22 = .ok (.ladd, 1) := by decide +kernel
theorem dX3_join_23 : decode cX3_join 23 = .ok (.goto 7, 3) := by decide +kernel
theorem dX3_join_26 : decode cX3_join 26 = .ok (.lload_n 2, 1) := by decide +kernel
theorem dX3_join_27 : decode cX3_join 27 = .ok (.lload 4, 2) := by decide +kernel
theorem dX3_join_29 : decode cX3_join 29 = .ok (.lsub, 1) := by decide +kernel
theorem dX3_join_30 : decode cX3_join 30 = .ok (.lconst 1, 1) := by decide +kernel
theorem dX3_join_31 : decode cX3_join 31 = .ok (.iconst 0, 1) := by decide +kernel
theorem dX3_join_32 : decode cX3_join 32 = .ok (.invokevirtual 22, 3) := by decide +kernel
theorem dX3_join_35 : decode cX3_join 35 = .ok (.iconst 1, 1) := by decide +kernel
theorem dX3_join_36 : decode cX3_join 36 = .ok (.ireturn, 1) := by decide +kernel
theorem dX3_join_37 : decode cX3_join 37 = .ok (.lload_n 2, 1) := by decide +kernel
theorem dX3_join_38 : decode cX3_join 38 = .ok (.invokestatic 26, 3) := by decide +kernel
theorem dX3_join_41 : decode cX3_join 41 = .ok (.istore 6, 2) := by decide +kernel
theorem dX3_join_43 : decode cX3_join 43 = .ok (.lload 4, 2) := by decide +kernel
theorem dX3_join_45 : decode cX3_join 45 = .ok (.invokestatic 26, 3) := by decide +kernel
theorem dX3_join_48 : decode cX3_join 48 = .ok (.istore 7, 2) := by decide +kernel
theorem dX3_join_50 : decode cX3_join 50 = .ok (.lload_n 2, 1) := by decide +kernel
theorem dX3_join_51 : decode cX3_join 51 = .ok (.getstatic 30, 3) := by decide +kernel
theorem dX3_join_54 : decode cX3_join 54 = .ok (.iload 6, 2) := by decide +kernel
theorem dX3_join_56 : decode cX3_join 56 = .ok (.laload, 1) := by decide +kernel
theorem dX3_join_57 : decode cX3_join 57 = .ok (.ldiv, 1) := by decide +kernel
theorem dX3_join_58 : decode cX3_join 58 = .ok (.lstore 8, 2) := by decide +kernel
theorem dX3_join_60 : decode cX3_join 60 = .ok (.lload 4, 2) := by decide +kernel
theorem dX3_join_62 : decode cX3_join 62 = .ok (.getstatic 30, 3) := by decide +kernel
theorem dX3_join_65 : decode cX3_join 65 = .ok (.iload 7, 2) := by decide +kernel
theorem dX3_join_67 : decode cX3_join 67 = .ok (.laload, 1) := by decide +kernel
theorem dX3_join_68 : decode cX3_join 68 = .ok (.ldiv, 1) := by decide +kernel
theorem dX3_join_69 : decode cX3_join 69 = .ok (.lstore 10, 2) := by decide +kernel
theorem dX3_join_71 : decode cX3_join 71 = .ok (.iload_n 1, 1) := by decide +kernel
theorem dX3_join_72 : decode cX3_join 72 = .ok (.bipush 42, 2) := by decide +kernel
theorem dX3_join_74 : decode cX3_join 74 = .ok (.if_icmp .ne 23, 3) := by decide +kernel
theorem dX3_join_77 : decode cX3_join 77 = .ok (.aload_n 0, 1) := by decide +kernel
theorem dX3_join_78 : decode cX3_join 78 = .ok (.lload 8, 2) := by decide +kernel
theorem dX3_join_80 : decode cX3_join 80 = .ok (.lload 10, 2) := by decide +kernel
theorem dX3_join_82 : decode cX3_join 82 = .ok (.lmul, 1) := by decide +kernel
theorem dX3_join_83 : decode cX3_join 83 = .ok (.lconst 1, 1) := by decide +kernel
theorem dX3_join_84 : decode cX3_join 84 = .ok (.iload 6, 2) := by decide +kernel
theorem dX3_join_86 : decode cX3_join 86 = .ok (.iload 7, 2) := by decide +kernel
theorem dX3_join_88 : decode cX3_join 88 = .ok (.iadd, 1) := by decide +kernel
theorem dX3_join_89 : decode cX3_join 89 = .ok (.bipush 9, 2) := by decide +kernel
theorem dX3_join_91 : decode cX3_join 91 = .ok (.isub, 1) := by decide +kernel
theorem dX3_join_92 : decode cX3_join 92 = .ok (.invokevirtual 22, 3) := by decide +kernel
theorem dX3_join_95 : decode cX3_join 95 = .ok (.iconst 1, 1) := by decide +kernel
theorem dX3_join_96 : decode cX3_join 96 = .ok (.ireturn, 1) := by decide +kernel
theorem dX3_join_97 : decode cX3_join 97 = .ok (.aload_n 0, 1) := by decide +kernel
theorem dX3_join_98 : decode cX3_join 98 = .ok (.lload 4, 2) := by decide +kernel
theorem dX3_join_100 : decode cX3_join 100 = .ok (.lconst 0, 1) := by decide +kernel
theorem dX3_join_101 : decode cX3_join 101 = .ok (.lcmp, 1) := by decide +kernel
theorem dX3_join_102 : decode cX3_join 102 = .ok (.ifCond .ge 9, 3) := by decide +kernel
theorem dX3_join_105 : decode cX3_join 105 = .ok (.lload 8, 2) := by decide +kernel
theorem dX3_join_107 : decode cX3_join 107 = .ok (.lneg, 1) := by decide +kernel
theorem dX3_join_108 : decode cX3_join 108 = .ok (.goto 5, 3) := by decide +kernel
theorem dX3_join_111 : decode cX3_join 111 = .ok (.lload 8, 2) := by decide +kernel
theorem dX3_join_113 : decode cX3_join 113 = .ok (.lload 10, 2) := by decide +kernel
theorem dX3_join_115 : decode cX3_join 115 = .ok (.invokestatic 34, 3) := by decide +kernel
theorem dX3_join_118 : decode cX3_join 118 = .ok (.iload 6, 2) := by decide +kernel
theorem dX3_join_120 : decode cX3_join 120 = .ok (.iload 7, 2) := by decide +kernel
theorem dX3_join_122 : decode cX3_join 122 = .ok (.isub, 1) := by decide +kernel
theorem dX3_join_123 : decode cX3_join 123 = .ok (.bipush 9, 2) := by decide +kernel
theorem dX3_join_125 : decode cX3_join 125 = .ok (.iadd, 1) := by decide +kernel
theorem dX3_join_126 : decode cX3_join 126 = .ok (.invokevirtual 22, 3) := by decide +kernel
theorem dX3_join_129 : decode cX3_join 129 = .ok (.lload 4, 2) := by decide +kernel
theorem dX3_join_131 : decode cX3_join 131 = .ok (.lconst 0, 1) := by decide +kernel
theorem dX3_join_132 : decode cX3_join 132 = .ok (.lcmp, 1) := by decide +kernel
theorem dX3_join_133 : decode cX3_join 133 = .ok (.ifCond .eq 7, 3) := by decide +kernel
theorem dX3_join_136 : decode cX3_join 136 = .ok (.iconst 1, 1) := by decide +kernel
theorem dX3_join_137 : decode cX3_join 137 = .ok (.goto 4, 3) := by decide +kernel
theorem dX3_join_140 : decode cX3_join 140 = .ok (.iconst 0, 1) := by decide +kernel
theorem dX3_join_141 : decode cX3_join 141 = .ok (.ireturn, 1) := by decide +kernel
theorem dX3_lastZeros_0 : decode cX3_lastZeros 0 = .ok (.iconst 0, 1) := by decide +kernel
theorem dX3_lastZeros_1 : decode cX3_lastZeros 1 = .ok (.istore_n 2, 1) := by decide +kernel
theorem dX3_lastZeros_2 : decode cX3_lastZeros 2 = .ok (.lload_n 0, 1) := by decide +kernel
theorem dX3_lastZeros_3 : decode cX3_lastZeros 3 = .ok (.lstore_n 3, 1) := by decide +kernel
theorem dX3_lastZeros_4 : decode cX3_lastZeros 4 = .ok (.iload_n 2, 1) := by decide +kernel
theorem dX3_lastZeros_5 : decode cX3_lastZeros 5 = .ok (.bipush 16, 2) := by decide +kernel
theorem dX3_lastZeros_7 : decode cX3_lastZeros 7 = .ok (.if_icmp .ge 31, 3) := by decide +kernel
theorem dX3_lastZeros_10 : decode cX3_lastZeros 10 = .ok (.lload_n 3, 1) := by decide +kernel
theorem dX3_lastZeros_11 : decode cX3_lastZeros 11 = .ok (.lconst 0, 1) := by decide +kernel
theorem dX3_lastZeros_12 : decode cX3_lastZeros 12 = .ok (.lcmp, 1) := by decide +kernel
theorem dX3_lastZeros_13 : decode cX3_lastZeros 13 = .ok (.ifCond .eq 25, 3) := by decide +kernel
theorem dX3_lastZeros_16 : decode cX3_lastZeros 16 = .ok (.lload_n 3, 1) := by decide +kernel
theorem dX3_lastZeros_17 : decode cX3_lastZeros 17 = .ok (.ldc2_w 40, 3) := by decide +kernel
theorem dX3_lastZeros_20 : decode cX3_lastZeros 20 = .ok (.lrem, 1) := by decide +kernel
theorem dX3_lastZeros_21 : decode cX3_lastZeros 21 = .ok (.lconst 0, 1) := by decide +kernel
theorem dX3_lastZeros_22 : decode cX3_lastZeros 22 = .ok (.lcmp, 1) := by decide +kernel
theorem dX3_lastZeros_23 : decode cX3_lastZeros 23 = .ok (.ifCond .ne 15, 3) := by decide +kernel
theorem dX3_lastZeros_26 : decode cX3_lastZeros 26 = .ok (.lload_n 3, 1) := by decide +kernel
theorem dX3_lastZeros_27 : decode cX3_lastZeros 27 = .ok (.ldc2_w 40, 3) := by decide +kernel
theorem dX3_lastZeros_30 : decode cX3_lastZeros 30 = .ok (.ldiv, 1) := by decide +kernel
theorem dX3_lastZeros_31 : decode cX3_lastZeros 31 = .ok (.lstore_n 3, 1) := by decide +kernel
theorem dX3_lastZeros_32 : decode cX3_lastZeros 32 = .ok (.iinc 2 1, 3) := by decide +kernel
theorem dX3_lastZeros_35 : decode cX3_lastZeros 35 = .ok (.goto (-31), 3) := by decide +kernel
theorem dX3_lastZeros_38 : decode cX3_lastZeros 38 = .ok (.iload_n 2, 1) := by decide +kernel
theorem dX3_lastZeros_39 : decode cX3_lastZeros 39 = .ok (.ireturn, 1) := by decide +kernel
theorem dX3_cut_0 : decode cX3_cut 0 = .ok (.aload_n 0, 1) := by decide +kernel
theorem dX3_cut_1 : decode cX3_cut 1 = .ok (.getfield 15, 3) := by decide +kernel
theorem dX3_cut_4 : decode cX3_cut 4 = .ok (.lconst 0, 1) := by decide +kernel
theorem dX3_cut_5 : decode cX3_cut 5 = .ok (.lcmp, 1) := by decide +kernel
theorem dX3_cut_6 : decode cX3_cut 6 = .ok (.ifCond .gt 5, 3) := by decide +kernel
theorem dX3_cut_9 : decode cX3_cut 9 = .ok (.lconst 0, 1) := by decide +kernel
theorem dX3_cut_10 : decode cX3_cut 10 = .ok (.lreturn, 1) := by decide +kernel
theorem dX3_cut_11 : decode cX3_cut 11 = .ok (.aload_n 0, 1) := by decide +kernel
theorem dX3_cut_12 : decode cX3_cut 12 = .ok (.getfield 9, 3) := by decide +kernel
theorem dX3_cut_15 : decode cX3_cut 15 = .ok (.invokestatic 34, 3) := by decide +kernel
theorem dX3_cut_18 : decode cX3_cut 18 = .ok (.lstore_n 1, 1) := by decide +kernel
theorem dX3_cut_19 : decode cX3_cut 19 = .ok (.lload_n 1, 1) := by decide +kernel
theorem dX3_cut_20 : decode cX3_cut 20 = .ok (.aload_n 0, 1) := by decide +kernel
theorem dX3_cut_21 : decode cX3_cut 21 = .ok (.getfield 15, 3) := by decide +kernel
theorem dX3_cut_24 : decode cX3_cut 24 = .ok (.ldiv, 1) := by decide +kernel
theorem dX3_cut_25 : decode cX3_cut 25 = .ok (.lstore_n 3, 1) := by decide +kernel
theorem dX3_cut_26 : decode cX3_cut 26 = .ok (.lload_n 1, 1) := by decide +kernel
theorem dX3_cut_27 : decode cX3_cut 27 = .ok (.aload_n 0, 1) := by decide +kernel
theorem dX3_cut_28 : decode cX3_cut 28 = .ok (.getfield 15, 3) := by decide +kernel
theorem dX3_cut_31 : decode cX3_cut 31 = .ok (.lrem, 1) := by decide +kernel
theorem dX3_cut_32 : decode cX3_cut 32 = .ok (.lstore 5, 2) := by decide +kernel
theorem dX3_cut_34 : decode cX3_cut 34 = .ok (.iconst 0, 1) := by decide +kernel
theorem dX3_cut_35 : decode cX3_cut 35 = .ok (.istore 7, 2) := by decide +kernel
theorem dX3_cut_37 : decode cX3_cut 37 = .ok (.iload 7, 2) := by decide +kernel
theorem dX3_cut_39 : decode cX3_cut 39 = .ok (.aload_n 0, 1) := by decide +kernel
theorem dX3_cut_40 : decode cX3_cut 40 = .ok (.getfield 18, 3) := by decide +kernel
theorem dX3_cut_43 : decode cX3_cut 43 = .ok (.if_icmp .ge 40, 3) := by decide +kernel
theorem dX3_cut_46 : decode cX3_cut 46 = .ok (.lload 5, 2) := by decide +kernel
theorem dX3_cut_48 : decode cX3_cut 48 = .ok (.ldc2_w 40, 3) := by decide +kernel
theorem dX3_cut_51 : decode cX3_cut 51 = .ok (.lmul, 1) := by decide +kernel
theorem dX3_cut_52 : decode cX3_cut 52 = .ok (.lstore 5, 2) := by decide +kernel
theorem dX3_cut_54 : decode cX3_cut 54 = .ok (.lload_n 3, 1) := by decide +kernel
theorem dX3_cut_55 : decode cX3_cut 55 = .ok (.ldc2_w 40, 3) := by decide +kernel
theorem dX3_cut_58 : decode cX3_cut 58 = .ok (.lmul, 1) := by decide +kernel
theorem dX3_cut_59 : decode cX3_cut 59 = .ok (.lload 5, 2) := by decide +kernel
theorem dX3_cut_61 : decode cX3_cut 61 = .ok (.aload_n 0, 1) := by decide +kernel
theorem dX3_cut_62 : decode cX3_cut 62 = .ok (.getfield 15, 3) := by decide +kernel
theorem dX3_cut_65 : decode cX3_cut 65 = .ok (.ldiv, 1) := by decide +kernel
theorem dX3_cut_66 : decode cX3_cut 66 = .ok (.ladd, 1) := by decide +kernel
theorem dX3_cut_67 : decode cX3_cut 67 = .ok (.lstore_n 3, 1) := by decide +kernel
theorem dX3_cut_68 : decode cX3_cut 68 = .ok (.lload 5, 2) := by decide +kernel
theorem dX3_cut_70 : decode cX3_cut 70 = .ok (.aload_n 0, 1) := by decide +kernel
theorem dX3_cut_71 : decode cX3_cut 71 = .ok (.getfield 15, 3) := by decide +kernel
theorem dX3_cut_74 : decode cX3_cut 74 = .ok (.lrem, 1) := by decide +kernel
theorem dX3_cut_75 : decode cX3_cut 75 = .ok (.lstore 5, 2) := by decide +kernel
theorem dX3_cut_77 : decode cX3_cut 77 = .ok (.iinc 7 1, 3) := by decide +kernel
theorem dX3_cut_80 : decode cX3_cut 80 = .ok (.goto (-43), 3) := by decide +kernel
theorem dX3_cut_83 : decode cX3_cut 83 = .ok (.iconst 0, 1) := by decide +kernel
theorem dX3_cut_84 : decode cX3_cut 84 = .ok (.istore 7, 2) := by decide +kernel
theorem dX3_cut_86 : decode cX3_cut 86 = .ok (.iload 7, 2) := by decide +kernel
theorem dX3_cut_88 : decode cX3_cut 88 = .ok (.aload_n 0, 1) := by decide +kernel
theorem dX3_cut_89 : decode cX3_cut 89 = .ok (.getfield 18, 3) := by decide +kernel
theorem dX3_cut_92 : decode cX3_cut 92 = .ok (.if_icmp .le 15, 3) := by decide +kernel
theorem dX3_cut_95 : decode cX3_cut 95 = .ok (.lload_n 3, 1) := by decide +kernel
theorem dX3_cut_96 : decode cX3_cut 96 = .ok (.ldc2_w 40, 3) := by decide +kernel
theorem dX3_cut_99 : decode cX3_cut 99 = .ok (.ldiv, 1) := by decide +kernel
theorem dX3_cut_100 : decode cX3_cut 100 = .ok (.lstore_n 3, 1) := by decide +kernel
theorem dX3_cut_101 : decode cX3_cut 101 = .ok (.iinc 7 (-1), 3) := by decide +kernel
theorem dX3_cut_104 : decode cX3_cut 104 = .ok (.goto (-18), 3) := by decide +kernel
theorem dX3_cut_107 : decode cX3_cut 107 = .ok (.aload_n 0, 1) := by decide +kernel
theorem dX3_cut_108 : decode cX3_cut 108 = .ok (.getfield 9, 3) := by decide +kernel
theorem dX3_cut_111 : decode cX3_cut 111 = .ok (.lconst 0, 1) := by decide +kernel
theorem dX3_cut_112 : decode cX3_cut 112 = .ok (.lcmp, 1) := by decide +kernel
theorem dX3_cut_113 : decode cX3_cut 113 = .ok (.ifCond .ge 8, 3) := by decide +kernel
theorem dX3_cut_116 : decode cX3_cut 116 = .ok (.lload_n 3, 1) := by decide +kernel
theorem dX3_cut_117 : decode cX3_cut 117 = .ok (.lneg, 1) := by decide +kernel
theorem dX3_cut_118 : decode cX3_cut 118 = .ok (.goto 4, 3) := by decide +kernel
theorem dX3_cut_121 : decode cX3_cut 121 = .ok (.lload_n 3, 1) := by decide +kernel
theorem dX3_cut_122 : decode cX3_cut 122 = .ok (.lreturn, 1) := by decide +kernel
