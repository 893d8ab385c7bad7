theorem dX10_init_0 : decode cX10_init 0 = .ok (.aload_n 0, 1) := by decide +kernel
theorem dX10_init_1 : decode cX10_init 1 = .ok (.invokespecial 3, 3) := by decide +kernel
theorem dX10_init_4 : decode cX10_init 4 = .ok (.aload_n 0, 1) := by decide +kernel
theorem dX10_init_5 : decode cX10_init 5 = .ok (.bipush 13, 2) := by decide +kernel
theorem dX10_init_7 : decode cX10_init 7 = .ok (.newarray .int, 2) := by decide +kernel
theorem dX10_init_9 : decode cX10_init 9 = .ok (.putfield 9, 3) := by decide +kernel
theorem dX10_init_12 : decode cX10_init 12 = .ok (.aload_n 0, 1) := by decide +kernel
theorem dX10_init_13 : decode cX10_init 13 = .ok (.bipush 13, 2) := by decide +kernel
theorem dX10_init_15 : decode cX10_init 15 = .ok (.newarray .int, 2) := by decide +kernel
theorem dX10_init_17 : decode cX10_init 17 = .ok (.putfield 15, 3) := by decide +kernel
theorem dX10_init_20 : decode cX10_init 20 = .ok (.aload_n 0, 1) := by decide +kernel
theorem dX10_init_21 : decode cX10_init 21 = .ok (.bipush 13, 2) := by decide +kernel
theorem dX10_init_23 : decode cX10_init 23 = .ok (.newarray .int, 2) := by decide +kernel
theorem dX10_init_25 : decode cX10_init 25 = .ok (.putfield 18, 3) := by decide +kernel
theorem dX10_init_28 : decode cX10_init 28 = .ok (.aload_n 0, 1) := by decide +kernel
theorem dX10_init_29 : decode cX10_init 29 = .ok (.getfield 9, 3) := by decide +kernel
theorem dX10_init_32 : decode cX10_init 32 = .ok (.iconst 0, 1) := by decide +kernel
theorem dX10_init_33 : decode cX10_init 33 = .ok (.bipush 97, 2) := by decide +kernel
theorem dX10_init_35 : decode cX10_init 35 = .ok (.iastore, 1) := by decide +kernel
theorem dX10_init_36 : decode cX10_init 36 = .ok (.aload_n 0, 1) := by decide +kernel
theorem dX10_init_37 : decode cX10_init 37 = .ok (.iconst 1, 1) := by decide +kernel
theorem dX10_init_38 : decode cX10_init 38 = .ok (.putfield 21, 3) := by decide +kernel
theorem dX10_init_41 : decode cX10_init 41 = .ok (.aload_n 0, 1) := by decide +kernel
theorem dX10_init_42 : decode cX10_init 42 = .ok (.invokevirtual 25, 3) := by decide +kernel
theorem dX10_init_45 : decode cX10_init 45 = .ok (.return_, 1) := by decide +kernel
theorem dX10_copyFrom_0 : decode cX10_copyFrom 0 = .ok (.aload_n 1, 1) := by decide +kernel
theorem dX10_copyFrom_1 : decode cX10_copyFrom 1 = .ok (.getfield 9, 3) := by decide +kernel
theorem dX10_copyFrom_4 : decode cX10_copyFrom 4 = .ok (.iconst 0, 1) := by decide +kernel
theorem dX10_copyFrom_5 : decode cX10_copyFrom 5 = .ok (.aload_n 0, 1) := by decide +kernel
theorem dX10_copyFrom_6 : decode cX10_copyFrom 6 = .ok (.getfield 9, 3) := by decide +kernel
theorem dX10_copyFrom_9 : decode cX10_copyFrom 9 = .ok (.iconst 0, 1) := by decide +kernel
theorem dX10_copyFrom_10 : decode cX10_copyFrom 10 = .ok (.bipush 13, 2) := by decide +kernel
theorem dX10_copyFrom_12 : decode cX10_copyFrom 12 = .ok (.invokestatic 28, 3) := by decide +kernel
theorem dX10_copyFrom_15 : decode cX10_copyFrom 15 = .ok (.aload_n 1, 1) := by decide +kernel
theorem dX10_copyFrom_16 : decode cX10_copyFrom 16 = .ok (.getfield 15, 3) := by decide +kernel
theorem dX10_copyFrom_19 : decode cX10_copyFrom 19 = .ok (.iconst 0, 1) := by decide +kernel
theorem dX10_copyFrom_20 : decode cX10_copyFrom 20 = .ok (.aload_n 0, 1) := by decide +kernel
theorem dX10_copyFrom_21 : decode cX10_copyFrom 21 = .ok (.getfield 15, 3) := by decide +kernel
theorem dX10_copyFrom_24 : decode cX10_copyFrom 24 = .ok (.iconst 0, 1) := by decide +kernel
theorem dX10_copyFrom_25 : decode cX10_copyFrom 25 = .ok (.bipush 13, 2) := by decide +kernel
theorem dX10_copyFrom_27 : decode cX10_copyFrom 27 = .ok (.invokestatic 28, 3) := by decide +kernel
theorem dX10_copyFrom_30 : decode cX10_copyFrom 30 = .ok (.aload_n 1, 1) := by decide +kernel
theorem dX10_copyFrom_31 : decode cX10_copyFrom 31 = .ok (.getfield 18, 3) := by decide +kernel
theorem dX10_copyFrom_34 : decode cX10_copyFrom 34 = .ok (.iconst 0, 1) := by decide +kernel
theorem dX10_copyFrom_35 : decode cX10_copyFrom 35 = .ok (.aload_n 0, 1) := by decide +kernel
theorem dX10_copyFrom_36 : decode cX10_copyFrom 36 = .ok (.getfield 18, 3) := by decide +kernel
theorem dX10_copyFrom_39 : decode cX10_copyFrom 39 = .ok (.iconst 0, 1) := by decide +kernel
theorem dX10_copyFrom_40 : decode cX10_copyFrom 40 = .ok (.bipush 13, 2) := by decide +kernel
theorem dX10_copyFrom_42 : decode cX10_copyFrom 42 = .ok (.invokestatic 28, 3) := by decide +kernel
theorem dX10_copyFrom_45 : decode cX10_copyFrom 45 = .ok (.aload_n 0, 1) := by decide +kernel
theorem dX10_copyFrom_46 : decode cX10_copyFrom 46 = .ok (.aload_n 1, 1) := by decide +kernel
theorem dX10_copyFrom_47 : decode cX10_copyFrom 47 = .ok (.getfield 21, 3) := by decide +kernel
theorem dX10_copyFrom_50 : decode cX10_copyFrom 50 = .ok (.putfield 21, 3) := by decide +kernel
theorem dX10_copyFrom_53 : decode cX10_copyFrom 53 = .ok (.return_, 1) := by decide +kernel
theorem dX10_read_0 : decode cX10_read 0 = .ok (.aload_n 0, 1) := by decide +kernel
theorem dX10_read_1 : decode cX10_read 1 = .ok (.iconst 0, 1) := by decide +kernel
theorem dX10_read_2 : decode cX10_read 2 = .ok (.putfield 21, 3) := by decide +kernel
theorem dX10_read_5 : decode cX10_read 5 = .ok (.iconst 0, 1) := by decide +kernel
theorem dX10_read_6 : decode cX10_read 6 = .ok (.istore_n 3, 1) := by decide +kernel
theorem dX10_read_7 : decode cX10_read 7 = .ok (.iload_n 3, 1) := by decide +kernel
theorem dX10_read_8 : decode cX10_read 8 = .ok (.iload_n 2, 1) := by decide +kernel
theorem dX10_read_9 : decode cX10_read 9 = .ok (.if_icmp .ge 22, 3) := by decide +kernel
theorem dX10_read_12 : decode cX10_read 12 = .ok (.iload_n 3, 1) := by decide +kernel
theorem dX10_read_13 : decode cX10_read 13 = .ok (.aload_n 1, 1) := by decide +kernel
theorem dX10_read_14 : decode cX10_read 14 = .ok (.arraylength, 1) := by decide +kernel
theorem dX10_read_15 : decode cX10_read 15 = .ok (.if_icmp .ge 16, 3) := by decide +kernel
theorem dX10_read_18 : decode cX10_read 18 = .ok (.aload_n 0, 1) := by decide +kernel
theorem dX10_read_19 : decode cX10_read 19 = .ok (.aload_n 1, 1) := by decide +kernel
theorem dX10_read_20 : decode cX10_read 20 = .ok (.iload_n 3, 1) := by decide +kernel
theorem dX10_read_21 : decode cX10_read 21 = .ok (.iaload, 1) := by decide +kernel
theorem dX10_read_22 : decode cX10_read 22 = .ok (.invokevirtual 34, 3) := by decide +kernel
theorem dX10_read_25 : decode cX10_read 25 = .ok (.iinc 3 1, 3) := by decide +kernel
theorem dX10_read_28 : decode cX10_read 28 = .ok (.goto (-21), 3) := by decide +kernel
theorem dX10_read_31 : decode cX10_read 31 = .ok (.aload_n 0, 1) := by decide +kernel
theorem dX10_read_32 : decode cX10_read 32 = .ok (.invokevirtual 25, 3) := by decide +kernel
theorem dX10_read_35 : decode cX10_read 35 = .ok (.return_, 1) := by decide +kernel
theorem dX10_add_0 : decode cX10_add 0 = .ok (.aload_n 0, 1) := by decide +kernel
theorem dX10_add_1 : decode cX10_add 1 = .ok (.getfield 21, 3) := by decide +kernel
theorem dX10_add_4 : decode cX10_add 4 = .ok (.ifCond .lt 32, 3) := by decide +kernel
theorem dX10_add_7 : decode cX10_add 7 = .ok (.aload_n 0, 1) := by decide +kernel
theorem dX10_add_8 : decode cX10_add 8 = .ok (.getfield 21, 3) := by decide +kernel
theorem dX10_add_11 : decode cX10_add 11 = .ok (.bipush 13, 2) := by decide +kernel
theorem dX10_add_13 : decode cX10_add 13 = .ok (.if_icmp .ge 23, 3) := by decide +kernel
theorem dX10_add_16 : decode cX10_add 16 = .ok (.aload_n 0, 1) := by decide +kernel
theorem dX10_add_17 : decode cX10_add 17 = .ok (.getfield 9, 3) := by decide +kernel
theorem dX10_add_20 : decode cX10_add 20 = .ok (.aload_n 0, 1) := by decide +kernel
theorem dX10_add_21 : decode cX10_add 21 = .ok (.getfield 21, 3) := by decide +kernel
theorem dX10_add_24 : decode cX10_add 24 = .ok (.iload_n 1, 1) := by decide +kernel
theorem dX10_add_25 : decode cX10_add 25 = .ok (.iastore, 1) := by decide +kernel
theorem dX10_add_26 : decode cX10_add 26 = .ok (.aload_n 0, 1) := by decide +kernel
theorem dX10_add_27 : decode cX10_add 27 = .ok (.dup, 1) := by decide +kernel
theorem dX10_add_28 : decode cX10_add 28 = .ok (.getfield 21, 3) := by decide +kernel
theorem dX10_add_31 : decode cX10_add 31 = .ok (.iconst 1, 1) := by decide +kernel
theorem dX10_add_32 : decode cX10_add 32 = .ok (.iadd, 1) := by decide +kernel
theorem dX10_add_33 : decode cX10_add 33 = .ok (.putfield 21, 3) := by decide +kernel
theorem dX10_add_36 : decode cX10_add 36 = .ok (.return_, 1) := by decide +kernel
theorem dX10_addPlaces_0 : decode cX10_addPlaces 0 = .ok (.iload_n 2, 1) := by decide +kernel
theorem dX10_addPlaces_1 : decode cX10_addPlaces 1 = .ok (.istore 4, 2) := by decide +kernel
theorem dX10_addPlaces_3 : decode cX10_addPlaces 3 = .ok (.iload 4, 2) := by decide +kernel
theorem dX10_addPlaces_5 : decode cX10_addPlaces 5 = .ok (.iload_n 3, 1) := by decide +kernel
theorem dX10_addPlaces_6 : decode cX10_addPlaces 6 = .ok (.if_icmp .ge 19, 3) := by decide +kernel
theorem dX10_addPlaces_9 : decode cX10_addPlaces 9 = .ok (.aload_n 0, 1) := by decide +kernel
theorem dX10_addPlaces_10 : decode cX10_addPlaces 10 = .ok (.aload_n 1, 1) := by decide +kernel
theorem dX10_addPlaces_11 : decode cX10_addPlaces 11 = .ok (.iload 4, 2) := by decide +kernel
theorem dX10_addPlaces_13 : decode cX10_addPlaces 13 = .ok (.invokevirtual 38, 3) := by decide +kernel
theorem dX10_addPlaces_16 : decode cX10_addPlaces 16 = .ok (.invokevirtual 34, 3) := by decide +kernel
theorem dX10_addPlaces_19 : decode cX10_addPlaces 19 = .ok (.iinc 4 1, 3) := by decide +kernel
theorem dX10_addPlaces_22 : decode cX10_addPlaces 22 = .ok (.goto (-19), 3) := by decide +kernel
theorem dX10_addPlaces_25 : decode cX10_addPlaces 25 = .ok (.return_, 1) := by decide +kernel
theorem dX10_addPart_0 : decode cX10_addPart 0 = .ok (.aload_n 0, 1) := by decide +kernel
theorem dX10_addPart_1 : decode cX10_addPart 1 = .ok (.aload_n 1, 1) := by decide +kernel
theorem dX10_addPart_2 : decode cX10_addPart 2 = .ok (.iload_n 2, 1) := by decide +kernel
theorem dX10_addPart_3 : decode cX10_addPart 3 = .ok (.aload_n 1, 1) := by decide +kernel
theorem dX10_addPart_4 : decode cX10_addPart 4 = .ok (.iload_n 2, 1) := by decide +kernel
theorem dX10_addPart_5 : decode cX10_addPart 5 = .ok (.invokevirtual 42, 3) := by decide +kernel
theorem dX10_addPart_8 : decode cX10_addPart 8 = .ok (.invokevirtual 45, 3) := by decide +kernel
theorem dX10_addPart_11 : decode cX10_addPart 11 = .ok (.return_, 1) := by decide +kernel
theorem dX10_findParts_0 : decode cX10_findParts 0 = .ok (.aload_n 0, 1) := by decide +kernel
theorem dX10_findParts_1 : decode cX10_findParts 1 = .ok (.getfield 21, 3) := by decide +kernel
theorem dX10_findParts_4 : decode cX10_findParts 4 = .ok (.iconst 1, 1) := by decide +kernel
theorem dX10_findParts_5 : decode cX10_findParts 5 = .ok (.isub, 1) := by decide +kernel
theorem dX10_findParts_6 : decode cX10_findParts 6 = .ok (.istore_n 1, 1) := by decide +kernel
theorem dX10_findParts_7 : decode cX10_findParts 7 = .ok (.iload_n 1, 1) := by decide +kernel
theorem dX10_findParts_8 : decode cX10_findParts 8 = .ok (.ifCond .lt 108, 3) := by decide +kernel
theorem dX10_findParts_11 : decode cX10_findParts 11 = .ok (.aload_n 0, 1) := by decide +kernel
theorem dX10_findParts_12 : decode cX10_findParts 12 = .ok (.getfield 9, 3) := by decide +kernel
theorem dX10_findParts_15 : decode cX10_findParts 15 = .ok (.iload_n 1, 1) := by decide +kernel
theorem dX10_findParts_16 : decode cX10_findParts 16 = .ok (.iaload, 1) := by decide +kernel
theorem dX10_findParts_17 : decode cX10_findParts 17 = .ok (.invokestatic 49, 3) := by decide +kernel
theorem dX10_findParts_20 : decode cX10_findParts 20 = .ok (.ifCond .eq 44, 3) := by decide +kernel
theorem dX10_findParts_23 : decode cX10_findParts 23 = .ok (.aload_n 0, 1) := by decide +kernel
theorem dX10_findParts_24 : decode cX10_findParts 24 = .ok (.iload_n 1, 1) := by decide +kernel
theorem dX10_findParts_25 : decode cX10_findParts 25 = .ok (.iconst 1, 1) := by decide +kernel
theorem dX10_findParts_26 : decode cX10_findParts 26 = .ok (.iadd, 1) := by decide +kernel
theorem dX10_findParts_27 : decode cX10_findParts 27 = .ok (.invokevirtual 42, 3) := by decide +kernel
theorem dX10_findParts_30 : decode cX10_findParts 30 = .ok (.istore_n 2, 1) := by decide +kernel
theorem dX10_findParts_31 : decode cX10_findParts 31 = .ok (.aload_n 0, 1) := by decide +kernel
theorem dX10_findParts_32 : decode cX10_findParts 32 = .ok (.getfield 15, 3) := by decide +kernel
theorem dX10_findParts_35 : decode cX10_findParts 35 = .ok (.iload_n 1, 1) := by decide +kernel
theorem dX10_findParts_36 : decode cX10_findParts 36 = .ok (.aload_n 0, 1) := by decide +kernel
theorem dX10_findParts_37 : decode cX10_findParts 37 = .ok (.iload_n 2, 1) := by decide +kernel
theorem dX10_findParts_38 : decode cX10_findParts 38 = .ok (.invokevirtual 42, 3) := by decide +kernel
theorem dX10_findParts_41 : decode cX10_findParts 41 = .ok (.iastore, 1) := by decide +kernel
theorem dX10_findParts_42 : decode cX10_findParts 42 = .ok (.aload_n 0, 1) := by decide +kernel
theorem dX10_findParts_43 : decode cX10_findParts 43 = .ok (.getfield 18, 3) := by decide +kernel
theorem dX10_findParts_46 : decode cX10_findParts 46 = .ok (.iload_n 1, 1) := by decide +kernel
theorem dX10_findParts_47 : decode cX10_findParts 47 = .ok (.aload_n 0, 1) := by decide +kernel
theorem dX10_findParts_48 : decode cX10_findParts 48 = .ok (.iload_n 1, 1) := by decide +kernel
theorem dX10_findParts_49 : decode cX10_findParts 49 = .ok (.iconst 1, 1) := by decide +kernel
theorem dX10_findParts_50 : decode cX10_findParts 50 = .ok (.iadd, 1) := by decide +kernel
theorem dX10_findParts_51 : decode cX10_findParts 51 = .ok (.invokevirtual 53, 3) := by decide +kernel
theorem dX10_findParts_54 : decode cX10_findParts 54 = .ok (.aload_n 0, 1) := by decide +kernel
theorem dX10_findParts_55 : decode cX10_findParts 55 = .ok (.iload_n 2, 1) := by decide +kernel
theorem dX10_findParts_56 : decode cX10_findParts 56 = .ok (.invokevirtual 53, 3) := by decide +kernel
theorem dX10_findParts_59 : decode cX10_findParts 59 = .ok (.ior, 1) := by decide +kernel
theorem dX10_findParts_60 : decode cX10_findParts 60 = .ok (.iastore, 1) := by decide +kernel
theorem dX10_findParts_61 : decode cX10_findParts 61 = .ok (.goto 49, 3) := by decide +kernel
theorem dX10_findParts_64 : decode cX10_findParts 64 = .ok (.aload_n 0, 1) := by decide +kernel
theorem dX10_findParts_65 : decode cX10_findParts 65 = .ok (.getfield 15, 3) := by decide +kernel
theorem dX10_findParts_68 : decode cX10_findParts 68 = .ok (.iload_n 1, 1) := by decide +kernel
theorem dX10_findParts_69 : decode cX10_findParts 69 = .ok (.iload_n 1, 1) := by decide +kernel
theorem dX10_findParts_70 : decode cX10_findParts 70 = .ok (.iconst 1, 1) := by decide +kernel
theorem dX10_findParts_71 : decode cX10_findParts 71 = .ok (.iadd, 1) := by decide +kernel
theorem dX10_findParts_72 : decode cX10_findParts 72 = .ok (.iastore, 1) := by decide +kernel
theorem dX10_findParts_73 : decode cX10_findParts 73 = .ok (.aload_n 0, 1) := by decide +kernel
theorem dX10_findParts_74 : decode cX10_findParts 74 = .ok (.getfield 18, 3) := by decide +kernel
theorem dX10_findParts_77 : decode cX10_findParts 77 = .ok (.iload_n 1, 1) := by decide +kernel
theorem dX10_findParts_78 : decode cX10_findParts 78 = .ok (.aload_n 0, 1) := by decide +kernel
theorem dX10_findParts_79 : decode cX10_findParts 79 = .ok (.getfield 9, 3) := by decide +kernel
theorem dX10_findParts_82 : decode cX10_findParts 82 = .ok (.iload_n 1, 1) := by decide +kernel
theorem dX10_findParts_83 : decode cX10_findParts 83 = .ok (.iaload, 1) := by decide +kernel
theorem dX10_findParts_84 : decode cX10_findParts 84 = .ok (.invokestatic 56, 3) := by decide +kernel
theorem dX10_findParts_87 : decode cX10_findParts 87 = .ok (.ifCond .eq 20, 3) := by decide +kernel
theorem dX10_findParts_90 : decode cX10_findParts 90 = .ok (.bipush 32, 2) := by decide +kernel
theorem dX10_findParts_92 : decode cX10_findParts 92 = .ok (.iconst 1, 1) := by decide +kernel
theorem dX10_findParts_93 : decode cX10_findParts 93 = .ok (.aload_n 0, 1) := by decide +kernel
theorem dX10_findParts_94 : decode cX10_findParts 94 = .ok (.getfield 9, 3) := by decide +kernel
theorem dX10_findParts_97 : decode cX10_findParts 97 = .ok (.iload_n 1, 1) := by decide +kernel
theorem dX10_findParts_98 : decode cX10_findParts 98 = .ok (.iaload, 1) := by decide +kernel
theorem dX10_findParts_99 : decode cX10_findParts 99 = .ok (.bipush 97, 2) := by decide +kernel
theorem dX10_findParts_101 : decode cX10_findParts 101 = .ok (.isub, 1) := by decide +kernel
theorem dX10_findParts_102 : decode cX10_findParts 102 = .ok (.ishl, 1) := by decide +kernel
theorem dX10_findParts_103 : decode cX10_findParts 103 = .ok (.ior, 1) := by decide +kernel
theorem dX10_findParts_104 : decode cX10_findParts 104 = .ok (.goto 5, 3) := by decide +kernel
theorem dX10_findParts_107 : decode cX10_findParts 107 = .ok (.bipush 32, 2) := by decide +kernel
theorem dX10_findParts_109 : decode cX10_findParts 109 = .ok (.iastore, 1) := by decide +kernel
theorem dX10_findParts_110 : decode cX10_findParts 110 = .ok (.iinc 1 (-1), 3) := by decide +kernel
theorem dX10_findParts_113 : decode cX10_findParts 113 = .ok (.goto (-106), 3) := by decide +kernel
theorem dX10_findParts_116 : decode cX10_findParts 116 = .ok (.return_, 1) := by decide +kernel
theorem dX10_has_0 : decode cX10_has 0 = .ok (.iload_n 1, 1) := by decide +kernel
theorem dX10_has_1 : decode cX10_has 1 = .ok (.ifCond .lt 15, 3) := by decide +kernel
theorem dX10_has_4 : decode cX10_has 4 = .ok (.iload_n 1, 1) := by decide +kernel
theorem dX10_has_5 : decode cX10_has 5 = .ok (.aload_n 0, 1) := by decide +kernel
theorem dX10_has_6 : decode cX10_has 6 = .ok (.getfield 21, 3) := by decide +kernel
theorem dX10_has_9 : decode cX10_has 9 = .ok (.if_icmp .ge 7, 3) := by decide +kernel
theorem dX10_has_12 : decode cX10_has 12 = .ok (.iconst 1, 1) := by decide +kernel
theorem dX10_has_13 : decode cX10_has 13 = .ok (.goto 4, 3) := by decide +kernel
theorem dX10_has_16 : decode cX10_has 16 = .ok (.iconst 0, 1) := by decide +kernel
theorem dX10_has_17 : decode cX10_has 17 = .ok (.ireturn, 1) := by decide +kernel
theorem dX10_signAt_0 : decode cX10_signAt 0 = .ok (.iload_n 1, 1) := by decide +kernel
theorem dX10_signAt_1 : decode cX10_signAt 1 = .ok (.ifCond .lt 20, 3) := by decide +kernel
theorem dX10_signAt_4 : decode cX10_signAt 4 = .ok (.iload_n 1, 1) := by decide +kernel
theorem dX10_signAt_5 : decode cX10_signAt 5 = .ok (.aload_n 0, 1) := by decide +kernel
theorem dX10_signAt_6 : decode cX10_signAt 6 = .ok (.getfield 21, 3) := by decide +kernel
theorem dX10_signAt_9 : decode cX10_signAt 9 = .ok (.if_icmp .ge 12, 3) := by decide +kernel
theorem dX10_signAt_12 : decode cX10_signAt 12 = .ok (.aload_n 0, 1) := by decide +kernel
theorem dX10_signAt_13 : decode cX10_signAt 13 = .ok (.getfield 9, 3) := by decide +kernel
theorem dX10_signAt_16 : decode cX10_signAt 16 = .ok (.iload_n 1, 1) := by decide +kernel
theorem dX10_signAt_17 : decode cX10_signAt 17 = .ok (.iaload, 1) := by decide +kernel
theorem dX10_signAt_18 : decode cX10_signAt 18 = .ok (.goto 4, 3) := by decide +kernel
theorem dX10_signAt_21 : decode cX10_signAt 21 = .ok (.iconst 0, 1) := by decide +kernel
theorem dX10_signAt_22 : decode cX10_signAt 22 = .ok (.ireturn, 1) := by decide +kernel
theorem dX10_endOf_0 : decode cX10_endOf 0 = .ok (.iload_n 1, 1) := by decide +kernel
theorem dX10_endOf_1 : decode cX10_endOf 1 = .ok (.ifCond .lt 20, 3) := by decide +kernel
theorem dX10_endOf_4 : decode cX10_endOf 4 = .ok (.iload_n 1, 1) := by decide +kernel
theorem dX10_endOf_5 : decode cX10_endOf 5 = .ok (.aload_n 0, 1) := by decide +kernel
theorem dX10_endOf_6 : decode cX10_endOf 6 = .ok (.getfield 21, 3) := by decide +kernel
theorem dX10_endOf_9 : decode cX10_endOf 9 = .ok (.if_icmp .ge 12, 3) := by decide +kernel
theorem dX10_endOf_12 : decode cX10_endOf 12 = .ok (.aload_n 0, 1) := by decide +kernel
theorem dX10_endOf_13 : decode cX10_endOf 13 = .ok (.getfield 15, 3) := by decide +kernel
theorem dX10_endOf_16 : decode cX10_endOf 16 = .ok (.iload_n 1, 1) := by decide +kernel
theorem dX10_endOf_17 : decode cX10_endOf 17 = .ok (.iaload, 1) := by decide +kernel
theorem dX10_endOf_18 : decode cX10_endOf 18 = .ok (.goto 7, 3) := by decide +kernel
theorem dX10_endOf_21 : decode cX10_endOf 21 = .ok (.aload_n 0, 1) := by decide +kernel
theorem dX10_endOf_22 : decode cX10_endOf 22 = .ok (.getfield 21, 3) := by decide +kernel
theorem dX10_endOf_25 : decode cX10_endOf 25 = .ok (.ireturn, 1) := by decide +kernel
theorem dX10_lettersOf_0 : decode cX10_lettersOf 0 = .ok (.iload_n 1, 1) := by decide +kernel
theorem dX10_lettersOf_1 : decode cX10_lettersOf 1 = .ok (.ifCond .lt 20, 3) := by decide +kernel
theorem dX10_lettersOf_4 : decode cX10_lettersOf 4 = .ok (.iload_n 1, 1) := by decide +kernel
theorem dX10_lettersOf_5 : decode cX10_lettersOf 5 = .ok (.aload_n 0, 1) := by decide +kernel
theorem dX10_lettersOf_6 : decode cX10_lettersOf 6 = .ok (.getfield 21, 3) := by decide +kernel
theorem dX10_lettersOf_9 : decode cX10_lettersOf 9 = .ok (.if_icmp .ge 12, 3) := by decide +kernel
theorem dX10_lettersOf_12 : decode cX10_lettersOf 12 = .ok (.aload_n 0, 1) := by decide +kernel
theorem dX10_lettersOf_13 : decode cX10_lettersOf 13 = .ok (.getfield 18, 3) := by decide +kernel
theorem dX10_lettersOf_16 : decode cX10_lettersOf 16 = .ok (.iload_n 1, 1) := by decide +kernel
theorem dX10_lettersOf_17 : decode cX10_lettersOf 17 = .ok (.iaload, 1) := by decide +kernel
theorem dX10_lettersOf_18 : decode cX10_lettersOf 18 = .ok (.goto 5, 3) := by decide +kernel
theorem dX10_lettersOf_21 : decode cX10_lettersOf 21 = .ok (.bipush 32, 2) := by decide +kernel
theorem dX10_lettersOf_23 : decode cX10_lettersOf 23 = .ok (.ireturn, 1) := by decide +kernel
theorem dX10_secondOf_0 : decode cX10_secondOf 0 = .ok (.aload_n 0, 1) := by decide +kernel
theorem dX10_secondOf_1 : decode cX10_secondOf 1 = .ok (.iload_n 1, 1) := by decide +kernel
theorem dX10_secondOf_2 : decode cX10_secondOf 2 = .ok (.iconst 1, 1) := by decide +kernel
theorem dX10_secondOf_3 : decode cX10_secondOf 3 = .ok (.iadd, 1) := by decide +kernel
theorem dX10_secondOf_4 : decode cX10_secondOf 4 = .ok (.invokevirtual 42, 3) := by decide +kernel
theorem dX10_secondOf_7 : decode cX10_secondOf 7 = .ok (.ireturn, 1) := by decide +kernel
theorem dX10_areAlike_0 : decode cX10_areAlike 0 = .ok (.aload_n 0, 1) := by decide +kernel
theorem dX10_areAlike_1 : decode cX10_areAlike 1 = .ok (.iload_n 1, 1) := by decide +kernel
theorem dX10_areAlike_2 : decode cX10_areAlike 2 = .ok (.invokevirtual 42, 3) := by decide +kernel
theorem dX10_areAlike_5 : decode cX10_areAlike 5 = .ok (.iload_n 1, 1) := by decide +kernel
theorem dX10_areAlike_6 : decode cX10_areAlike 6 = .ok (.isub, 1) := by decide +kernel
theorem dX10_areAlike_7 : decode cX10_areAlike 7 = .ok (.istore_n 3, 1) := by decide +kernel
theorem dX10_areAlike_8 : decode cX10_areAlike 8 = .ok (.aload_n 0, 1) := by decide +kernel
theorem dX10_areAlike_9 : decode cX10_areAlike 9 = .ok (.iload_n 2, 1) := by decide +kernel
theorem dX10_areAlike_10 : decode cX10_areAlike 10 = .ok (.invokevirtual 42, 3) := by decide +kernel
theorem dX10_areAlike_13 : decode cX10_areAlike 13 = .ok (.iload_n 2, 1) := by decide +kernel
theorem dX10_areAlike_14 : decode cX10_areAlike 14 = .ok (.isub, 1) := by decide +kernel
theorem dX10_areAlike_15 : decode cX10_areAlike 15 = .ok (.iload_n 3, 1) := by decide +kernel
theorem dX10_areAlike_16 : decode cX10_areAlike 16 = .ok (.if_icmp .eq 5, 3) := by decide +kernel
theorem dX10_areAlike_19 : decode cX10_areAlike 19 = .ok (.iconst 0, 1) := by decide +kernel
theorem dX10_areAlike_20 : decode cX10_areAlike 20 = .ok (.ireturn, 1) := by decide +kernel
theorem dX10_areAlike_21 : decode cX10_areAlike 21 = .ok (.iconst 0, 1) := by decide +kernel
theorem dX10_areAlike_22 : decode cX10_areAlike 22 = .ok (.istore 4, 2) := by decide +kernel
theorem dX10_areAlike_24 : decode cX10_areAlike 24 = .ok (.iload 4, 2) := by decide +kernel
theorem dX10_areAlike_26 : decode cX10_areAlike 26 = .ok (.iload_n 3, 1) := by decide +kernel
theorem dX10_areAlike_27 : decode cX10_areAlike 27 = .ok (.if_icmp .ge 30, 3) := by decide +kernel
theorem dX10_areAlike_30 : decode cX10_areAlike 30 = .ok (.aload_n 0, 1) := by decide +kernel
theorem dX10_areAlike_31 : decode cX10_areAlike 31 = .ok (.iload_n 1, 1) := by decide +kernel
theorem dX10_areAlike_32 : decode cX10_areAlike 32 = .ok (.iload 4, 2) := by decide +kernel
theorem dX10_areAlike_34 : decode cX10_areAlike 34 = .ok (.iadd, 1) := by decide +kernel
theorem dX10_areAlike_35 : decode cX10_areAlike 35 = .ok (.invokevirtual 38, 3) := by decide +kernel
theorem dX10_areAlike_38 : decode cX10_areAlike 38 = .ok (.aload_n 0, 1) := by decide +kernel
theorem dX10_areAlike_39 : decode cX10_areAlike 39 = .ok (.iload_n 2, 1) := by decide +kernel
theorem dX10_areAlike_40 : decode cX10_areAlike 40 = .ok (.iload 4, 2) := by decide +kernel
theorem dX10_areAlike_42 : decode cX10_areAlike 42 = .ok (.iadd, 1) := by decide +kernel
theorem dX10_areAlike_43 : decode cX10_areAlike 43 = .ok (.invokevirtual 38, 3) := by decide +kernel
theorem dX10_areAlike_46 : decode cX10_areAlike 46 = .ok (.if_icmp .eq 5, 3) := by decide +kernel
theorem dX10_areAlike_49 : decode cX10_areAlike 49 = .ok (.iconst 0, 1) := by decide +kernel
theorem dX10_areAlike_50 : decode cX10_areAlike 50 = .ok (.ireturn, 1) := by decide +kernel
theorem dX10_areAlike_51 : decode cX10_areAlike 51 = .ok (.iinc 4 1, 3) := by decide +kernel
theorem dX10_areAlike_54 : decode cX10_areAlike 54 = .ok (.goto (-30), 3) := by decide +kernel
theorem dX10_areAlike_57 : decode cX10_areAlike 57 = .ok (.iconst 1, 1) := by decide +kernel
theorem dX10_areAlike_58 : decode cX10_areAlike 58 = .ok (.ireturn, 1) := by decide +kernel
