theorem dX5_init_0 : decode cX5_init 0 = .ok (.aload_n 0, 1) := by decide +kernel
theorem dX5_init_1 : decode cX5_init 1 = .ok (.invokespecial 3, 3) := by decide +kernel
theorem dX5_init_4 : decode cX5_init 4 = .ok (.aload_n 0, 1) := by decide +kernel
theorem dX5_init_5 : decode cX5_init 5 = .ok (.sipush 1601, 3) := by decide +kernel
theorem dX5_init_8 : decode cX5_init 8 = .ok (.newarray .int, 2) := by decide +kernel
theorem dX5_init_10 : decode cX5_init 10 = .ok (.putfield 9, 3) := by decide +kernel
theorem dX5_init_13 : decode cX5_init 13 = .ok (.aload_n 0, 1) := by decide +kernel
theorem dX5_init_14 : decode cX5_init 14 = .ok (.sipush 1601, 3) := by decide +kernel
theorem dX5_init_17 : decode cX5_init 17 = .ok (.newarray .int, 2) := by decide +kernel
theorem dX5_init_19 : decode cX5_init 19 = .ok (.putfield 15, 3) := by decide +kernel
theorem dX5_init_22 : decode cX5_init 22 = .ok (.aload_n 0, 1) := by decide +kernel
theorem dX5_init_23 : decode cX5_init 23 = .ok (.sipush 1601, 3) := by decide +kernel
theorem dX5_init_26 : decode cX5_init 26 = .ok (.newarray .int, 2) := by decide +kernel
theorem dX5_init_28 : decode cX5_init 28 = .ok (.putfield 18, 3) := by decide +kernel
theorem dX5_init_31 : decode cX5_init 31 = .ok (.aload_n 0, 1) := by decide +kernel
theorem dX5_init_32 : decode cX5_init 32 = .ok (.sipush 1601, 3) := by decide +kernel
theorem dX5_init_35 : decode cX5_init 35 = .ok (.anewarray 21, 3) := by decide +kernel
theorem dX5_init_38 : decode cX5_init 38 = .ok (.putfield 23, 3) := by decide +kernel
theorem dX5_init_41 : decode cX5_init 41 = .ok (.aload_n 0, 1) := by decide +kernel
theorem dX5_init_42 : decode cX5_init 42 = .ok (.aload_n 1, 1) := by decide +kernel
theorem dX5_init_43 : decode cX5_init 43 = .ok (.putfield 27, 3) := by decide +kernel
theorem dX5_init_46 : decode cX5_init 46 = .ok (.aload_n 0, 1) := by decide +kernel
theorem dX5_init_47 : decode cX5_init 47 = .ok (.aload_n 2, 1) := by decide +kernel
theorem dX5_init_48 : decode cX5_init 48 = .ok (.putfield 31, 3) := by decide +kernel
theorem dX5_init_51 : decode cX5_init 51 = .ok (.return_, 1) := by decide +kernel
theorem dX5_readText_0 : decode cX5_readText 0 = .ok (.aload_n 0, 1) := by decide +kernel
theorem dX5_readText_1 : decode cX5_readText 1 = .ok (.aload_n 1, 1) := by decide +kernel
theorem dX5_readText_2 : decode cX5_readText 2 = .ok (.putfield 31, 3) := by decide +kernel
theorem dX5_readText_5 : decode cX5_readText 5 = .ok (.aload_n 0, 1) := by decide +kernel
theorem dX5_readText_6 : decode cX5_readText 6 = .ok (.iconst 0, 1) := by decide +kernel
theorem dX5_readText_7 : decode cX5_readText 7 = .ok (.putfield 35, 3) := by decide +kernel
theorem dX5_readText_10 : decode cX5_readText 10 = .ok (.aload_n 0, 1) := by decide +kernel
theorem dX5_readText_11 : decode cX5_readText 11 = .ok (.iconst 0, 1) := by decide +kernel
theorem dX5_readText_12 : decode cX5_readText 12 = .ok (.putfield 39, 3) := by decide +kernel
theorem dX5_readText_15 : decode cX5_readText 15 = .ok (.aload_n 0, 1) := by decide +kernel
theorem dX5_readText_16 : decode cX5_readText 16 = .ok (.iconst 0, 1) := by decide +kernel
theorem dX5_readText_17 : decode cX5_readText 17 = .ok (.putfield 42, 3) := by decide +kernel
theorem dX5_readText_20 : decode cX5_readText 20 = .ok (.aload_n 0, 1) := by decide +kernel
theorem dX5_readText_21 : decode cX5_readText 21 = .ok (.iconst (-1), 1) := by decide +kernel
theorem dX5_readText_22 : decode cX5_readText 22 = .ok (.putfield 45, 3) := by decide +kernel
theorem dX5_readText_25 : decode cX5_readText 25 = .ok (.aload_n 0, 1) := by decide +kernel
theorem dX5_readText_26 : decode cX5_readText 26 = .ok (.invokevirtual 48, 3) := by decide +kernel
theorem dX5_readText_29 : decode cX5_readText 29 = .ok (.aload_n 0, 1) := by decide +kernel
theorem dX5_readText_30 : decode cX5_readText 30 = .ok (.invokevirtual 51, 3) := by decide +kernel
theorem dX5_readText_33 : decode cX5_readText 33 = .ok (.iconst 1, 1) := by decide +kernel
theorem dX5_readText_34 : decode cX5_readText 34 = .ok (.istore_n 2, 1) := by decide +kernel
theorem dX5_readText_35 : decode cX5_readText 35 = .ok (.aload_n 0, 1) := by decide +kernel
theorem dX5_readText_36 : decode cX5_readText 36 = .ok (.getfield 42, 3) := by decide +kernel
theorem dX5_readText_39 : decode cX5_readText 39 = .ok (.ifCond .ne 32, 3) := by decide +kernel
theorem dX5_readText_42 : decode cX5_readText 42 = .ok (.aload_n 0, 1) := by decide +kernel
theorem dX5_readText_43 : decode cX5_readText 43 = .ok (.getfield 9, 3) := by decide +kernel
theorem dX5_readText_46 : decode cX5_readText 46 = .ok (.aload_n 0, 1) := by decide +kernel
theorem dX5_readText_47 : decode cX5_readText 47 = .ok (.getfield 35, 3) := by decide +kernel
theorem dX5_readText_50 : decode cX5_readText 50 = .ok (.iaload, 1) := by decide +kernel
theorem dX5_readText_51 : decode cX5_readText 51 = .ok (.ifCond .eq 20, 3) := by decide +kernel
theorem dX5_readText_54 : decode cX5_readText 54 = .ok (.iload_n 2, 1) := by decide +kernel
theorem dX5_readText_55 : decode cX5_readText 55 = .ok (.sipush 1600, 3) := by decide +kernel
theorem dX5_readText_58 : decode cX5_readText 58 = .ok (.if_icmp .ge 13, 3) := by decide +kernel
theorem dX5_readText_61 : decode cX5_readText 61 = .ok (.aload_n 0, 1) := by decide +kernel
theorem dX5_readText_62 : decode cX5_readText 62 = .ok (.invokevirtual 54, 3) := by decide +kernel
theorem dX5_readText_65 : decode cX5_readText 65 = .ok (.iinc 2 1, 3) := by decide +kernel
theorem dX5_readText_68 : decode cX5_readText 68 = .ok (.goto (-33), 3) := by decide +kernel
theorem dX5_readText_71 : decode cX5_readText 71 = .ok (.iload_n 2, 1) := by decide +kernel
theorem dX5_readText_72 : decode cX5_readText 72 = .ok (.ireturn, 1) := by decide +kernel
theorem dX5_splitText_0 : decode cX5_splitText 0 = .ok (.iconst 0, 1) := by decide +kernel
theorem dX5_splitText_1 : decode cX5_splitText 1 = .ok (.istore_n 1, 1) := by decide +kernel
theorem dX5_splitText_2 : decode cX5_splitText 2 = .ok (.iconst 0, 1) := by decide +kernel
theorem dX5_splitText_3 : decode cX5_splitText 3 = .ok (.istore_n 2, 1) := by decide +kernel
theorem dX5_splitText_4 : decode cX5_splitText 4 = .ok (.iload_n 2, 1) := by decide +kernel
theorem dX5_splitText_5 : decode cX5_splitText 5 = .ok (.aload_n 0, 1) := by decide +kernel
theorem dX5_splitText_6 : decode cX5_splitText 6 = .ok (.getfield 27, 3) := by decide +kernel
theorem dX5_splitText_9 : decode cX5_splitText 9 = .ok (.getfield 57, 3) := by decide +kernel
theorem dX5_splitText_12 : decode cX5_splitText 12 = .ok (.if_icmp .ge 42, 3) := by decide +kernel
theorem dX5_splitText_15 : decode cX5_splitText 15 = .ok (.iload_n 1, 1) := by decide +kernel
theorem dX5_splitText_16 : decode cX5_splitText 16 = .ok (.sipush 1600, 3) := by decide +kernel
theorem dX5_splitText_19 : decode cX5_splitText 19 = .ok (.if_icmp .ge 35, 3) := by decide +kernel
theorem dX5_splitText_22 : decode cX5_splitText 22 = .ok (.aload_n 0, 1) := by decide +kernel
theorem dX5_splitText_23 : decode cX5_splitText 23 = .ok (.getfield 27, 3) := by decide +kernel
theorem dX5_splitText_26 : decode cX5_splitText 26 = .ok (.iload_n 2, 1) := by decide +kernel
theorem dX5_splitText_27 : decode cX5_splitText 27 = .ok (.invokevirtual 62, 3) := by decide +kernel
theorem dX5_splitText_30 : decode cX5_splitText 30 = .ok (.ifCond .eq 9, 3) := by decide +kernel
theorem dX5_splitText_33 : decode cX5_splitText 33 = .ok (.iinc 2 1, 3) := by decide +kernel
theorem dX5_splitText_36 : decode cX5_splitText 36 = .ok (.goto (-32), 3) := by decide +kernel
theorem dX5_splitText_39 : decode cX5_splitText 39 = .ok (.iload_n 2, 1) := by decide +kernel
theorem dX5_splitText_40 : decode cX5_splitText 40 = .ok (.aload_n 0, 1) := by decide +kernel
theorem dX5_splitText_41 : decode cX5_splitText 41 = .ok (.iload_n 1, 1) := by decide +kernel
theorem dX5_splitText_42 : decode cX5_splitText 42 = .ok (.iload_n 2, 1) := by decide +kernel
theorem dX5_splitText_43 : decode cX5_splitText 43 = .ok (.invokevirtual 66, 3) := by decide +kernel
theorem dX5_splitText_46 : decode cX5_splitText 46 = .ok (.iadd, 1) := by decide +kernel
theorem dX5_splitText_47 : decode cX5_splitText 47 = .ok (.istore_n 2, 1) := by decide +kernel
theorem dX5_splitText_48 : decode cX5_splitText 48 = .ok (.iinc 1 1, 3) := by decide +kernel
theorem dX5_splitText_51 : decode cX5_splitText 51 = .ok (.goto (-47), 3) := by decide +kernel
theorem dX5_splitText_54 : decode cX5_splitText 54 = .ok (.aload_n 0, 1) := by decide +kernel
theorem dX5_splitText_55 : decode cX5_splitText 55 = .ok (.getfield 9, 3) := by decide +kernel
theorem dX5_splitText_58 : decode cX5_splitText 58 = .ok (.iload_n 1, 1) := by decide +kernel
theorem dX5_splitText_59 : decode cX5_splitText 59 = .ok (.iconst 0, 1) := by decide +kernel
theorem dX5_splitText_60 : decode cX5_splitText 60 = .ok (.iastore, 1) := by decide +kernel
theorem dX5_splitText_61 : decode cX5_splitText 61 = .ok (.aload_n 0, 1) := by decide +kernel
theorem dX5_splitText_62 : decode cX5_splitText 62 = .ok (.getfield 15, 3) := by decide +kernel
theorem dX5_splitText_65 : decode cX5_splitText 65 = .ok (.iload_n 1, 1) := by decide +kernel
theorem dX5_splitText_66 : decode cX5_splitText 66 = .ok (.aload_n 0, 1) := by decide +kernel
theorem dX5_splitText_67 : decode cX5_splitText 67 = .ok (.getfield 27, 3) := by decide +kernel
theorem dX5_splitText_70 : decode cX5_splitText 70 = .ok (.getfield 57, 3) := by decide +kernel
theorem dX5_splitText_73 : decode cX5_splitText 73 = .ok (.iastore, 1) := by decide +kernel
theorem dX5_splitText_74 : decode cX5_splitText 74 = .ok (.aload_n 0, 1) := by decide +kernel
theorem dX5_splitText_75 : decode cX5_splitText 75 = .ok (.getfield 23, 3) := by decide +kernel
theorem dX5_splitText_78 : decode cX5_splitText 78 = .ok (.iload_n 1, 1) := by decide +kernel
theorem dX5_splitText_79 : decode cX5_splitText 79 = .ok (.aconst_null, 1) := by decide +kernel
theorem dX5_splitText_80 : decode cX5_splitText 80 = .ok (.aastore, 1) := by decide +kernel
theorem dX5_splitText_81 : decode cX5_splitText 81 = .ok (.return_, 1) := by decide +kernel
theorem dX5_splitToken_0 : decode cX5_splitToken 0 = .ok (.iconst 1, 1) := by decide +kernel
theorem dX5_splitToken_1 : decode cX5_splitToken 1 = .ok (.istore_n 3, 1) := by decide +kernel
theorem dX5_splitToken_2 : decode cX5_splitToken 2 = .ok (.aload_n 0, 1) := by decide +kernel
theorem dX5_splitToken_3 : decode cX5_splitToken 3 = .ok (.getfield 15, 3) := by decide +kernel
theorem dX5_splitToken_6 : decode cX5_splitToken 6 = .ok (.iload_n 1, 1) := by decide +kernel
theorem dX5_splitToken_7 : decode cX5_splitToken 7 = .ok (.iload_n 2, 1) := by decide +kernel
theorem dX5_splitToken_8 : decode cX5_splitToken 8 = .ok (.iastore, 1) := by decide +kernel
theorem dX5_splitToken_9 : decode cX5_splitToken 9 = .ok (.aload_n 0, 1) := by decide +kernel
theorem dX5_splitToken_10 : decode cX5_splitToken 10 = .ok (.getfield 23, 3) := by decide +kernel
theorem dX5_splitToken_13 : decode cX5_splitToken 13 = .ok (.iload_n 1, 1) := by decide +kernel
theorem dX5_splitToken_14 : decode cX5_splitToken 14 = .ok (.aconst_null, 1) := by decide +kernel
theorem dX5_splitToken_15 : decode cX5_splitToken 15 = .ok (.aastore, 1) := by decide +kernel
theorem dX5_splitToken_16 : decode cX5_splitToken 16 = .ok (.aload_n 0, 1) := by decide +kernel
theorem dX5_splitToken_17 : decode cX5_splitToken 17 = .ok (.getfield 9, 3) := by decide +kernel
theorem dX5_splitToken_20 : decode cX5_splitToken 20 = .ok (.iload_n 1, 1) := by decide +kernel
theorem dX5_splitToken_21 : decode cX5_splitToken 21 = .ok (.iconst 3, 1) := by decide +kernel
theorem dX5_splitToken_22 : decode cX5_splitToken 22 = .ok (.iastore, 1) := by decide +kernel
theorem dX5_splitToken_23 : decode cX5_splitToken 23 = .ok (.aload_n 0, 1) := by decide +kernel
theorem dX5_splitToken_24 : decode cX5_splitToken 24 = .ok (.getfield 27, 3) := by decide +kernel
theorem dX5_splitToken_27 : decode cX5_splitToken 27 = .ok (.iload_n 2, 1) := by decide +kernel
theorem dX5_splitToken_28 : decode cX5_splitToken 28 = .ok (.invokevirtual 70, 3) := by decide +kernel
theorem dX5_splitToken_31 : decode cX5_splitToken 31 = .ok (.ifCond .eq 50, 3) := by decide +kernel
theorem dX5_splitToken_34 : decode cX5_splitToken 34 = .ok (.aload_n 0, 1) := by decide +kernel
theorem dX5_splitToken_35 : decode cX5_splitToken 35 = .ok (.getfield 27, 3) := by decide +kernel
theorem dX5_splitToken_38 : decode cX5_splitToken 38 = .ok (.iload_n 2, 1) := by decide +kernel
theorem dX5_splitToken_39 : decode cX5_splitToken 39 = .ok (.invokevirtual 73, 3) := by decide +kernel
theorem dX5_splitToken_42 : decode cX5_splitToken 42 = .ok (.istore_n 3, 1) := by decide +kernel
theorem dX5_splitToken_43 : decode cX5_splitToken 43 = .ok (.aload_n 0, 1) := by decide +kernel
theorem dX5_splitToken_44 : decode cX5_splitToken 44 = .ok (.getfield 27, 3) := by decide +kernel
theorem dX5_splitToken_47 : decode cX5_splitToken 47 = .ok (.iload_n 2, 1) := by decide +kernel
theorem dX5_splitToken_48 : decode cX5_splitToken 48 = .ok (.iconst 1, 1) := by decide +kernel
theorem dX5_splitToken_49 : decode cX5_splitToken 49 = .ok (.isub, 1) := by decide +kernel
theorem dX5_splitToken_50 : decode cX5_splitToken 50 = .ok (.invokevirtual 77, 3) := by decide +kernel
theorem dX5_splitToken_53 : decode cX5_splitToken 53 = .ok (.ifCond .ne 68, 3) := by decide +kernel
theorem dX5_splitToken_56 : decode cX5_splitToken 56 = .ok (.aload_n 0, 1) := by decide +kernel
theorem dX5_splitToken_57 : decode cX5_splitToken 57 = .ok (.getfield 9, 3) := by decide +kernel
theorem dX5_splitToken_60 : decode cX5_splitToken 60 = .ok (.iload_n 1, 1) := by decide +kernel
theorem dX5_splitToken_61 : decode cX5_splitToken 61 = .ok (.iconst 1, 1) := by decide +kernel
theorem dX5_splitToken_62 : decode cX5_splitToken 62 = .ok (.iastore, 1) := by decide +kernel
theorem dX5_splitToken_63 : decode cX5_splitToken 63 = .ok (.aload_n 0, 1) := by decide +kernel
theorem dX5_splitToken_64 : decode cX5_splitToken 64 = .ok (.getfield 23, 3) := by decide +kernel
theorem dX5_splitToken_67 : decode cX5_splitToken 67 = .ok (.iload_n 1, 1) := by decide +kernel
theorem dX5_splitToken_68 : decode cX5_splitToken 68 = .ok (.aload_n 0, 1) := by decide +kernel
theorem dX5_splitToken_69 : decode cX5_splitToken 69 = .ok (.getfield 27, 3) := by decide +kernel
theorem dX5_splitToken_72 : decode cX5_splitToken 72 = .ok (.iload_n 2, 1) := by decide +kernel
theorem dX5_splitToken_73 : decode cX5_splitToken 73 = .ok (.iload_n 3, 1) := by decide +kernel
theorem dX5_splitToken_74 : decode cX5_splitToken 74 = .ok (.invokestatic 80, 3) := by decide +kernel
theorem dX5_splitToken_77 : decode cX5_splitToken 77 = .ok (.aastore, 1) := by decide +kernel
theorem dX5_splitToken_78 : decode cX5_splitToken 78 = .ok (.goto 43, 3) := by decide +kernel
theorem dX5_splitToken_81 : decode cX5_splitToken 81 = .ok (.aload_n 0, 1) := by decide +kernel
theorem dX5_splitToken_82 : decode cX5_splitToken 82 = .ok (.getfield 27, 3) := by decide +kernel
theorem dX5_splitToken_85 : decode cX5_splitToken 85 = .ok (.iload_n 2, 1) := by decide +kernel
theorem dX5_splitToken_86 : decode cX5_splitToken 86 = .ok (.invokevirtual 77, 3) := by decide +kernel
theorem dX5_splitToken_89 : decode cX5_splitToken 89 = .ok (.ifCond .eq 32, 3) := by decide +kernel
theorem dX5_splitToken_92 : decode cX5_splitToken 92 = .ok (.aload_n 0, 1) := by decide +kernel
theorem dX5_splitToken_93 : decode cX5_splitToken 93 = .ok (.getfield 27, 3) := by decide +kernel
theorem dX5_splitToken_96 : decode cX5_splitToken 96 = .ok (.iload_n 2, 1) := by decide +kernel
theorem dX5_splitToken_97 : decode cX5_splitToken 97 = .ok (.invokevirtual 84, 3) := by decide +kernel
theorem dX5_splitToken_100 : decode cX5_splitToken 100 = .ok (.istore_n 3, 1) := by decide +kernel
theorem dX5_splitToken_101 : decode cX5_splitToken 101 = .ok (.aload_n 0, 1) := by decide +kernel
theorem dX5_splitToken_102 : decode cX5_splitToken 102 = .ok (.getfield 27, 3) := by decide +kernel
theorem dX5_splitToken_105 : decode cX5_splitToken 105 = .ok (.iload_n 2, 1) := by decide +kernel
theorem dX5_splitToken_106 : decode cX5_splitToken 106 = .ok (.iconst 1, 1) := by decide +kernel
theorem dX5_splitToken_107 : decode cX5_splitToken 107 = .ok (.isub, 1) := by decide +kernel
theorem dX5_splitToken_108 : decode cX5_splitToken 108 = .ok (.invokevirtual 70, 3) := by decide +kernel
theorem dX5_splitToken_111 : decode cX5_splitToken 111 = .ok (.ifCond .ne 10, 3) := by decide +kernel
theorem dX5_splitToken_114 : decode cX5_splitToken 114 = .ok (.aload_n 0, 1) := by decide +kernel
theorem dX5_splitToken_115 : decode cX5_splitToken 115 = .ok (.getfield 9, 3) := by decide +kernel
theorem dX5_splitToken_118 : decode cX5_splitToken 118 = .ok (.iload_n 1, 1) := by decide +kernel
theorem dX5_splitToken_119 : decode cX5_splitToken 119 = .ok (.iconst 2, 1) := by decide +kernel
theorem dX5_splitToken_120 : decode cX5_splitToken 120 = .ok (.iastore, 1) := by decide +kernel
theorem dX5_splitToken_121 : decode cX5_splitToken 121 = .ok (.aload_n 0, 1) := by decide +kernel
theorem dX5_splitToken_122 : decode cX5_splitToken 122 = .ok (.getfield 18, 3) := by decide +kernel
theorem dX5_splitToken_125 : decode cX5_splitToken 125 = .ok (.iload_n 1, 1) := by decide +kernel
theorem dX5_splitToken_126 : decode cX5_splitToken 126 = .ok (.iload_n 3, 1) := by decide +kernel
theorem dX5_splitToken_127 : decode cX5_splitToken 127 = .ok (.iastore, 1) := by decide +kernel
theorem dX5_splitToken_128 : decode cX5_splitToken 128 = .ok (.iload_n 3, 1) := by decide +kernel
theorem dX5_splitToken_129 : decode cX5_splitToken 129 = .ok (.ireturn, 1) := by decide +kernel
theorem dX5_readDisk_0 : decode cX5_readDisk 0 = .ok (.aload_n 0, 1) := by decide +kernel
theorem dX5_readDisk_1 : decode cX5_readDisk 1 = .ok (.getstatic 87, 3) := by decide +kernel
theorem dX5_readDisk_4 : decode cX5_readDisk 4 = .ok (.invokevirtual 91, 3) := by decide +kernel
theorem dX5_readDisk_7 : decode cX5_readDisk 7 = .ok (.aload_n 0, 1) := by decide +kernel
theorem dX5_readDisk_8 : decode cX5_readDisk 8 = .ok (.getfield 31, 3) := by decide +kernel
theorem dX5_readDisk_11 : decode cX5_readDisk 11 = .ok (.aload_n 0, 1) := by decide +kernel
theorem dX5_readDisk_12 : decode cX5_readDisk 12 = .ok (.bipush 64, 2) := by decide +kernel
theorem dX5_readDisk_14 : decode cX5_readDisk 14 = .ok (.sipush 9999, 3) := by decide +kernel
theorem dX5_readDisk_17 : decode cX5_readDisk 17 = .ok (.invokevirtual 95, 3) := by decide +kernel
theorem dX5_readDisk_20 : decode cX5_readDisk 20 = .ok (.putfield 98, 3) := by decide +kernel
theorem dX5_readDisk_23 : decode cX5_readDisk 23 = .ok (.aload_n 0, 1) := by decide +kernel
theorem dX5_readDisk_24 : decode cX5_readDisk 24 = .ok (.getstatic 103, 3) := by decide +kernel
theorem dX5_readDisk_27 : decode cX5_readDisk 27 = .ok (.invokevirtual 91, 3) := by decide +kernel
theorem dX5_readDisk_30 : decode cX5_readDisk 30 = .ok (.aload_n 0, 1) := by decide +kernel
theorem dX5_readDisk_31 : decode cX5_readDisk 31 = .ok (.getfield 31, 3) := by decide +kernel
theorem dX5_readDisk_34 : decode cX5_readDisk 34 = .ok (.aload_n 0, 1) := by decide +kernel
theorem dX5_readDisk_35 : decode cX5_readDisk 35 = .ok (.iconst 1, 1) := by decide +kernel
theorem dX5_readDisk_36 : decode cX5_readDisk 36 = .ok (.sipush 500, 3) := by decide +kernel
theorem dX5_readDisk_39 : decode cX5_readDisk 39 = .ok (.invokevirtual 95, 3) := by decide +kernel
theorem dX5_readDisk_42 : decode cX5_readDisk 42 = .ok (.putfield 106, 3) := by decide +kernel
theorem dX5_readDisk_45 : decode cX5_readDisk 45 = .ok (.aload_n 0, 1) := by decide +kernel
theorem dX5_readDisk_46 : decode cX5_readDisk 46 = .ok (.getstatic 109, 3) := by decide +kernel
theorem dX5_readDisk_49 : decode cX5_readDisk 49 = .ok (.invokevirtual 91, 3) := by decide +kernel
theorem dX5_readDisk_52 : decode cX5_readDisk 52 = .ok (.aload_n 0, 1) := by decide +kernel
theorem dX5_readDisk_53 : decode cX5_readDisk 53 = .ok (.getfield 31, 3) := by decide +kernel
theorem dX5_readDisk_56 : decode cX5_readDisk 56 = .ok (.aload_n 0, 1) := by decide +kernel
theorem dX5_readDisk_57 : decode cX5_readDisk 57 = .ok (.iconst 1, 1) := by decide +kernel
theorem dX5_readDisk_58 : decode cX5_readDisk 58 = .ok (.bipush 64, 2) := by decide +kernel
theorem dX5_readDisk_60 : decode cX5_readDisk 60 = .ok (.invokevirtual 95, 3) := by decide +kernel
theorem dX5_readDisk_63 : decode cX5_readDisk 63 = .ok (.putfield 112, 3) := by decide +kernel
theorem dX5_readDisk_66 : decode cX5_readDisk 66 = .ok (.aload_n 0, 1) := by decide +kernel
theorem dX5_readDisk_67 : decode cX5_readDisk 67 = .ok (.bipush 59, 2) := by decide +kernel
theorem dX5_readDisk_69 : decode cX5_readDisk 69 = .ok (.invokevirtual 115, 3) := by decide +kernel
theorem dX5_readDisk_72 : decode cX5_readDisk 72 = .ok (.return_, 1) := by decide +kernel
theorem dX5_readStatement_0 : decode cX5_readStatement 0 = .ok (.aload_n 0, 1) := by decide +kernel
theorem dX5_readStatement_1 : decode cX5_readStatement 1 = .ok (.getfield 23, 3) := by decide +kernel
theorem dX5_readStatement_4 : decode cX5_readStatement 4 = .ok (.aload_n 0, 1) := by decide +kernel
theorem dX5_readStatement_5 : decode cX5_readStatement 5 = .ok (.getfield 35, 3) := by decide +kernel
theorem dX5_readStatement_8 : decode cX5_readStatement 8 = .ok (.aaload, 1) := by decide +kernel
theorem dX5_readStatement_9 : decode cX5_readStatement 9 = .ok (.astore_n 1, 1) := by decide +kernel
theorem dX5_readStatement_10 : decode cX5_readStatement 10 = .ok (.aload_n 1, 1) := by decide +kernel
theorem dX5_readStatement_11 : decode cX5_readStatement 11 = .ok (.ifnonnull 20, 3) := by decide +kernel
theorem dX5_readStatement_14 : decode cX5_readStatement 14 = .ok (.aload_n 0, 1) := by decide +kernel
theorem dX5_readStatement_15 : decode cX5_readStatement 15 = .ok (.iconst 1, 1) := by decide +kernel
theorem dX5_readStatement_16 : decode cX5_readStatement 16 = .ok (.aload_n 0, 1) := by decide +kernel
theorem dX5_readStatement_17 : decode cX5_readStatement 17 = .ok (.getfield 15, 3) := by decide +kernel
theorem dX5_readStatement_20 : decode cX5_readStatement 20 = .ok (.aload_n 0, 1) := by decide +kernel
theorem dX5_readStatement_21 : decode cX5_readStatement 21 = .ok (.getfield 35, 3) := by decide +kernel
theorem dX5_readStatement_24 : decode cX5_readStatement 24 = .ok (.iaload, 1) := by decide +kernel
theorem dX5_readStatement_25 : decode cX5_readStatement 25 = .ok (.invokevirtual 119, 3) := by decide +kernel
theorem dX5_readStatement_28 : decode cX5_readStatement 28 = .ok (.goto 54, 3) := by decide +kernel
theorem dX5_readStatement_31 : decode cX5_readStatement 31 = .ok (.aload_n 1, 1) := by decide +kernel
theorem dX5_readStatement_32 : decode cX5_readStatement 32 = .ok (.getfield 123, 3) := by decide +kernel
theorem dX5_readStatement_35 : decode cX5_readStatement 35 = .ok (.ifCond .eq 11, 3) := by decide +kernel
theorem dX5_readStatement_38 : decode cX5_readStatement 38 = .ok (.aload_n 0, 1) := by decide +kernel
theorem dX5_readStatement_39 : decode cX5_readStatement 39 = .ok (.aload_n 1, 1) := by decide +kernel
theorem dX5_readStatement_40 : decode cX5_readStatement 40 = .ok (.invokevirtual 126, 3) := by decide +kernel
theorem dX5_readStatement_43 : decode cX5_readStatement 43 = .ok (.goto 39, 3) := by decide +kernel
theorem dX5_readStatement_46 : decode cX5_readStatement 46 = .ok (.aload_n 1, 1) := by decide +kernel
theorem dX5_readStatement_47 : decode cX5_readStatement 47 = .ok (.getstatic 129, 3) := by decide +kernel
theorem dX5_readStatement_50 : decode cX5_readStatement 50 = .ok (.if_acmp .eq 10, 3) := by decide +kernel
theorem dX5_readStatement_53 : decode cX5_readStatement 53 = .ok (.aload_n 1, 1) := by decide +kernel
theorem dX5_readStatement_54 : decode cX5_readStatement 54 = .ok (.getstatic 132, 3) := by decide +kernel
theorem dX5_readStatement_57 : decode cX5_readStatement 57 = .ok (.if_acmp .ne 11, 3) := by decide +kernel
theorem dX5_readStatement_60 : decode cX5_readStatement 60 = .ok (.aload_n 0, 1) := by decide +kernel
theorem dX5_readStatement_61 : decode cX5_readStatement 61 = .ok (.aload_n 1, 1) := by decide +kernel
theorem dX5_readStatement_62 : decode cX5_readStatement 62 = .ok (.invokevirtual 135, 3) := by decide +kernel
theorem dX5_readStatement_65 : decode cX5_readStatement 65 = .ok (.goto 17, 3) := by decide +kernel
theorem dX5_readStatement_68 : decode cX5_readStatement 68 = .ok (.aload_n 0, 1) := by decide +kernel
theorem dX5_readStatement_69 : decode cX5_readStatement 69 = .ok (.iconst 1, 1) := by decide +kernel
theorem dX5_readStatement_70 : decode cX5_readStatement 70 = .ok (.aload_n 0, 1) := by decide +kernel
theorem dX5_readStatement_71 : decode cX5_readStatement 71 = .ok (.getfield 15, 3) := by decide +kernel
theorem dX5_readStatement_74 : decode cX5_readStatement 74 = .ok (.aload_n 0, 1) := by decide +kernel
theorem dX5_readStatement_75 : decode cX5_readStatement 75 = .ok (.getfield 35, 3) := by decide +kernel
theorem dX5_readStatement_78 : decode cX5_readStatement 78 = .ok (.iaload, 1) := by decide +kernel
theorem dX5_readStatement_79 : decode cX5_readStatement 79 = .ok (.invokevirtual 119, 3) := by decide +kernel
theorem dX5_readStatement_82 : decode cX5_readStatement 82 = .ok (.aload_n 0, 1) := by decide +kernel
theorem dX5_readStatement_83 : decode cX5_readStatement 83 = .ok (.bipush 59, 2) := by decide +kernel
theorem dX5_readStatement_85 : decode cX5_readStatement 85 = .ok (.invokevirtual 115, 3) := by decide +kernel
theorem dX5_readStatement_88 : decode cX5_readStatement 88 = .ok (.return_, 1) := by decide +kernel
theorem dX5_readSetting_0 : decode cX5_readSetting 0 = .ok (.aload_n 0, 1) := by decide +kernel
theorem dX5_readSetting_1 : decode cX5_readSetting 1 = .ok (.getfield 39, 3) := by decide +kernel
theorem dX5_readSetting_4 : decode cX5_readSetting 4 = .ok (.aload_n 1, 1) := by decide +kernel
theorem dX5_readSetting_5 : decode cX5_readSetting 5 = .ok (.getfield 123, 3) := by decide +kernel
theorem dX5_readSetting_8 : decode cX5_readSetting 8 = .ok (.iand, 1) := by decide +kernel
theorem dX5_readSetting_9 : decode cX5_readSetting 9 = .ok (.ifCond .eq 18, 3) := by decide +kernel
theorem dX5_readSetting_12 : decode cX5_readSetting 12 = .ok (.aload_n 0, 1) := by decide +kernel
theorem dX5_readSetting_13 : decode cX5_readSetting 13 = .ok (.iconst 5, 1) := by decide +kernel
theorem dX5_readSetting_14 : decode cX5_readSetting 14 = .ok (.aload_n 0, 1) := by decide +kernel
theorem dX5_readSetting_15 : decode cX5_readSetting 15 = .ok (.getfield 15, 3) := by decide +kernel
theorem dX5_readSetting_18 : decode cX5_readSetting 18 = .ok (.aload_n 0, 1) := by decide +kernel
theorem dX5_readSetting_19 : decode cX5_readSetting 19 = .ok (.getfield 35, 3) := by decide +kernel
theorem dX5_readSetting_22 : decode cX5_readSetting 22 = .ok (.iaload, 1) := by decide +kernel
theorem dX5_readSetting_23 : decode cX5_readSetting 23 = .ok (.invokevirtual 119, 3) := by decide +kernel
theorem dX5_readSetting_26 : decode cX5_readSetting 26 = .ok (.return_, 1) := by decide +kernel
theorem dX5_readSetting_27 : decode cX5_readSetting 27 = .ok (.aload_n 0, 1) := by decide +kernel
theorem dX5_readSetting_28 : decode cX5_readSetting 28 = .ok (.dup, 1) := by decide +kernel
theorem dX5_readSetting_29 : decode cX5_readSetting 29 = .ok (.getfield 39, 3) := by decide +kernel
theorem dX5_readSetting_32 : decode cX5_readSetting 32 = .ok (.aload_n 1, 1) := by decide +kernel
theorem dX5_readSetting_33 : decode cX5_readSetting 33 = .ok (.getfield 123, 3) := by decide +kernel
theorem dX5_readSetting_36 : decode cX5_readSetting 36 = .ok (.ior, 1) := by decide +kernel
theorem dX5_readSetting_37 : decode cX5_readSetting 37 = .ok (.putfield 39, 3) := by decide +kernel
theorem dX5_readSetting_40 : decode cX5_readSetting 40 = .ok (.aload_n 0, 1) := by decide +kernel
theorem dX5_readSetting_41 : decode cX5_readSetting 41 = .ok (.aload_n 1, 1) := by decide +kernel
theorem dX5_readSetting_42 : decode cX5_readSetting 42 = .ok (.invokevirtual 91, 3) := by decide +kernel
theorem dX5_readSetting_45 : decode cX5_readSetting 45 = .ok (.aload_n 1, 1) := by decide +kernel
theorem dX5_readSetting_46 : decode cX5_readSetting 46 = .ok (.getstatic 138, 3) := by decide +kernel
theorem dX5_readSetting_49 : decode cX5_readSetting 49 = .ok (.if_acmp .ne 49, 3) := by decide +kernel
theorem dX5_readSetting_52 : decode cX5_readSetting 52 = .ok (.aload_n 0, 1) := by decide +kernel
theorem dX5_readSetting_53 : decode cX5_readSetting 53 = .ok (.getfield 31, 3) := by decide +kernel
theorem dX5_readSetting_56 : decode cX5_readSetting 56 = .ok (.aload_n 0, 1) := by decide +kernel
theorem dX5_readSetting_57 : decode cX5_readSetting 57 = .ok (.iconst 1, 1) := by decide +kernel
theorem dX5_readSetting_58 : decode cX5_readSetting 58 = .ok (.sipush 999, 3) := by decide +kernel
theorem dX5_readSetting_61 : decode cX5_readSetting 61 = .ok (.invokevirtual 95, 3) := by decide +kernel
theorem dX5_readSetting_64 : decode cX5_readSetting 64 = .ok (.putfield 141, 3) := by decide +kernel
theorem dX5_readSetting_67 : decode cX5_readSetting 67 = .ok (.aload_n 0, 1) := by decide +kernel
theorem dX5_readSetting_68 : decode cX5_readSetting 68 = .ok (.getstatic 144, 3) := by decide +kernel
theorem dX5_readSetting_71 : decode cX5_readSetting 71 = .ok (.invokevirtual 91, 3) := by decide +kernel
theorem dX5_readSetting_74 : decode cX5_readSetting 74 = .ok (.aload_n 0, 1) := by decide +kernel
theorem dX5_readSetting_75 : decode cX5_readSetting 75 = .ok (.getfield 31, 3) := by decide +kernel
theorem dX5_readSetting_78 : decode cX5_readSetting 78 = .ok (.aload_n 0, 1) := by decide +kernel
theorem dX5_readSetting_79 : decode cX5_readSetting 79 = .ok (.aload_n 0, 1) := by decide +kernel
theorem dX5_readSetting_80 : decode cX5_readSetting 80 = .ok (.getfield 31, 3) := by decide +kernel
theorem dX5_readSetting_83 : decode cX5_readSetting 83 = .ok (.getfield 141, 3) := by decide +kernel
theorem dX5_readSetting_86 : decode cX5_readSetting 86 = .ok (.sipush 999, 3) := by decide +kernel
theorem dX5_readSetting_89 : decode cX5_readSetting 89 = .ok (.invokevirtual 95, 3) := by decide +kernel
theorem dX5_readSetting_92 : decode cX5_readSetting 92 = .ok (.putfield 147, 3) := by decide +kernel
theorem dX5_readSetting_95 : decode cX5_readSetting 95 = .ok (.goto 135, 3) := by decide +kernel
theorem dX5_readSetting_98 : decode cX5_readSetting 98 = .ok (.aload_n 1, 1) := by decide +kernel
theorem dX5_readSetting_99 : decode cX5_readSetting 99 = .ok (.getstatic 150, 3) := by decide +kernel
theorem dX5_readSetting_102 : decode cX5_readSetting 102 = .ok (.if_acmp .ne 20, 3) := by decide +kernel
theorem dX5_readSetting_105 : decode cX5_readSetting 105 = .ok (.aload_n 0, 1) := by decide +kernel
theorem dX5_readSetting_106 : decode cX5_readSetting 106 = .ok (.getfield 31, 3) := by decide +kernel
theorem dX5_readSetting_109 : decode cX5_readSetting 109 = .ok (.aload_n 0, 1) := by decide +kernel
theorem dX5_readSetting_110 : decode cX5_readSetting 110 = .ok (.iconst 0, 1) := by decide +kernel
theorem dX5_readSetting_111 : decode cX5_readSetting 111 = .ok (.bipush 20, 2) := by decide +kernel
theorem dX5_readSetting_113 : decode cX5_readSetting 113 = .ok (.invokevirtual 95, 3) := by decide +kernel
theorem dX5_readSetting_116 : decode cX5_readSetting 116 = .ok (.putfield 153, 3) := by decide +kernel
theorem dX5_readSetting_119 : decode cX5_readSetting 119 = .ok (.goto 111, 3) := by decide +kernel
theorem dX5_readSetting_122 : decode cX5_readSetting 122 = .ok (.aload_n 1, 1) := by decide +kernel
theorem dX5_readSetting_123 : decode cX5_readSetting 123 = .ok (.getstatic 156, 3) := by decide +kernel
theorem dX5_readSetting_126 : decode cX5_readSetting 126 = .ok (.if_acmp .ne 21, 3) := by decide +kernel
theorem dX5_readSetting_129 : decode cX5_readSetting 129 = .ok (.aload_n 0, 1) := by decide +kernel
theorem dX5_readSetting_130 : decode cX5_readSetting 130 = .ok (.getfield 31, 3) := by decide +kernel
theorem dX5_readSetting_133 : decode cX5_readSetting 133 = .ok (.aload_n 0, 1) := by decide +kernel
theorem dX5_readSetting_134 : decode cX5_readSetting 134 = .ok (.iconst 1, 1) := by decide +kernel
theorem dX5_readSetting_135 : decode cX5_readSetting 135 = .ok (.sipush 200, 3) := by decide +kernel
theorem dX5_readSetting_138 : decode cX5_readSetting 138 = .ok (.invokevirtual 95, 3) := by decide +kernel
theorem dX5_readSetting_141 : decode cX5_readSetting 141 = .ok (.putfield 159, 3) := by decide +kernel
theorem dX5_readSetting_144 : decode cX5_readSetting 144 = .ok (.goto 86, 3) := by decide +kernel
theorem dX5_readSetting_147 : decode cX5_readSetting 147 = .ok (.aload_n 1, 1) := by decide +kernel
theorem dX5_readSetting_148 : decode cX5_readSetting 148 = .ok (.getstatic 162, 3) := by decide +kernel
theorem dX5_readSetting_151 : decode cX5_readSetting 151 = .ok (.if_acmp .ne 21, 3) := by decide +kernel
theorem dX5_readSetting_154 : decode cX5_readSetting 154 = .ok (.aload_n 0, 1) := by decide +kernel
theorem dX5_readSetting_155 : decode cX5_readSetting 155 = .ok (.getfield 31, 3) := by decide +kernel
theorem dX5_readSetting_158 : decode cX5_readSetting 158 = .ok (.aload_n 0, 1) := by decide +kernel
theorem dX5_readSetting_159 : decode cX5_readSetting 159 = .ok (.iconst 0, 1) := by decide +kernel
theorem dX5_readSetting_160 : decode cX5_readSetting 160 = .ok (.sipush 999, 3) := by decide +kernel
theorem dX5_readSetting_163 : decode cX5_readSetting 163 = .ok (.invokevirtual 95, 3) := by decide +kernel
theorem dX5_readSetting_166 : decode cX5_readSetting 166 = .ok (.putfield 165, 3) := by decide +kernel
theorem dX5_readSetting_169 : decode cX5_readSetting 169 = .ok (.goto 61, 3) := by decide +kernel
theorem dX5_readSetting_172 : decode cX5_readSetting 172 = .ok (.aload_n 0, 1) := by decide +kernel
theorem dX5_readSetting_173 : decode cX5_readSetting 173 = .ok (.getfield 31, 3) := by decide +kernel
theorem dX5_readSetting_176 : decode cX5_readSetting 176 = .ok (.aload_n 0, 1) := by decide +kernel
theorem dX5_readSetting_177 : decode cX5_readSetting 177 = .ok (.iconst 1, 1) := by decide +kernel
theorem dX5_readSetting_178 : decode cX5_readSetting 178 = .ok (.bipush 20, 2) := by decide +kernel
theorem dX5_readSetting_180 : decode cX5_readSetting 180 = .ok (.invokevirtual 95, 3) := by decide +kernel
theorem dX5_readSetting_183 : decode cX5_readSetting 183 = .ok (.putfield 168, 3) := by decide +kernel
theorem dX5_readSetting_186 : decode cX5_readSetting 186 = .ok (.aload_n 0, 1) := by decide +kernel
theorem dX5_readSetting_187 : decode cX5_readSetting 187 = .ok (.getstatic 171, 3) := by decide +kernel
theorem dX5_readSetting_190 : decode cX5_readSetting 190 = .ok (.invokevirtual 91, 3) := by decide +kernel
theorem dX5_readSetting_193 : decode cX5_readSetting 193 = .ok (.aload_n 0, 1) := by decide +kernel
theorem dX5_readSetting_194 : decode cX5_readSetting 194 = .ok (.getfield 31, 3) := by decide +kernel
theorem dX5_readSetting_197 : decode cX5_readSetting 197 = .ok (.aload_n 0, 1) := by decide +kernel
theorem dX5_readSetting_198 : decode cX5_readSetting 198 = .ok (.iconst 0, 1) := by decide +kernel
theorem dX5_readSetting_199 : decode cX5_readSetting 199 = .ok (.sipush 500, 3) := by decide +kernel
theorem dX5_readSetting_202 : decode cX5_readSetting 202 = .ok (.invokevirtual 95, 3) := by decide +kernel
theorem dX5_readSetting_205 : decode cX5_readSetting 205 = .ok (.putfield 174, 3) := by decide +kernel
theorem dX5_readSetting_208 : decode cX5_readSetting 208 = .ok (.aload_n 0, 1) := by decide +kernel
theorem dX5_readSetting_209 : decode cX5_readSetting 209 = .ok (.getstatic 177, 3) := by decide +kernel
theorem dX5_readSetting_212 : decode cX5_readSetting 212 = .ok (.invokevirtual 91, 3) := by decide +kernel
theorem dX5_readSetting_215 : decode cX5_readSetting 215 = .ok (.aload_n 0, 1) := by decide +kernel
theorem dX5_readSetting_216 : decode cX5_readSetting 216 = .ok (.getfield 31, 3) := by decide +kernel
theorem dX5_readSetting_219 : decode cX5_readSetting 219 = .ok (.aload_n 0, 1) := by decide +kernel
theorem dX5_readSetting_220 : decode cX5_readSetting 220 = .ok (.iconst 1, 1) := by decide +kernel
theorem dX5_readSetting_221 : decode cX5_readSetting 221 = .ok (.sipush 999, 3) := by decide +kernel
theorem dX5_readSetting_224 : decode cX5_readSetting 224 = .ok (.invokevirtual 95, 3) := by decide +kernel
theorem dX5_readSetting_227 : decode cX5_readSetting 227 = .ok (.putfield 180, 3) := by decide +kernel
theorem dX5_readSetting_230 : decode cX5_readSetting 230 = .ok (.return_, 1) := by decide +kernel
theorem dX5_readProcess_0 : decode cX5_readProcess 0 = .ok (.aload_n 0, 1) := by decide +kernel
theorem dX5_readProcess_1 : decode cX5_readProcess 1 = .ok (.getfield 31, 3) := by decide +kernel
theorem dX5_readProcess_4 : decode cX5_readProcess 4 = .ok (.getfield 183, 3) := by decide +kernel
theorem dX5_readProcess_7 : decode cX5_readProcess 7 = .ok (.istore_n 2, 1) := by decide +kernel
theorem dX5_readProcess_8 : decode cX5_readProcess 8 = .ok (.iload_n 2, 1) := by decide +kernel
theorem dX5_readProcess_9 : decode cX5_readProcess 9 = .ok (.bipush 6, 2) := by decide +kernel
theorem dX5_readProcess_11 : decode cX5_readProcess 11 = .ok (.if_icmp .lt 18, 3) := by decide +kernel
theorem dX5_readProcess_14 : decode cX5_readProcess 14 = .ok (.aload_n 0, 1) := by decide +kernel
theorem dX5_readProcess_15 : decode cX5_readProcess 15 = .ok (.iconst 5, 1) := by decide +kernel
theorem dX5_readProcess_16 : decode cX5_readProcess 16 = .ok (.aload_n 0, 1) := by decide +kernel
theorem dX5_readProcess_17 : decode cX5_readProcess 17 = .ok (.getfield 15, 3) := by decide +kernel
theorem dX5_readProcess_20 : decode cX5_readProcess 20 = .ok (.aload_n 0, 1) := by decide +kernel
theorem dX5_readProcess_21 : decode cX5_readProcess 21 = .ok (.getfield 35, 3) := by decide +kernel
theorem dX5_readProcess_24 : decode cX5_readProcess 24 = .ok (.iaload, 1) := by decide +kernel
theorem dX5_readProcess_25 : decode cX5_readProcess 25 = .ok (.invokevirtual 119, 3) := by decide +kernel
theorem dX5_readProcess_28 : decode cX5_readProcess 28 = .ok (.return_, 1) := by decide +kernel
theorem dX5_readProcess_29 : decode cX5_readProcess 29 = .ok (.aload_n 0, 1) := by decide +kernel
theorem dX5_readProcess_30 : decode cX5_readProcess 30 = .ok (.aload_n 1, 1) := by decide +kernel
theorem dX5_readProcess_31 : decode cX5_readProcess 31 = .ok (.invokevirtual 91, 3) := by decide +kernel
theorem dX5_readProcess_34 : decode cX5_readProcess 34 = .ok (.aload_n 0, 1) := by decide +kernel
theorem dX5_readProcess_35 : decode cX5_readProcess 35 = .ok (.iload_n 2, 1) := by decide +kernel
theorem dX5_readProcess_36 : decode cX5_readProcess 36 = .ok (.invokevirtual 186, 3) := by decide +kernel
theorem dX5_readProcess_39 : decode cX5_readProcess 39 = .ok (.aload_n 0, 1) := by decide +kernel
theorem dX5_readProcess_40 : decode cX5_readProcess 40 = .ok (.getfield 31, 3) := by decide +kernel
theorem dX5_readProcess_43 : decode cX5_readProcess 43 = .ok (.iload_n 2, 1) := by decide +kernel
theorem dX5_readProcess_44 : decode cX5_readProcess 44 = .ok (.iconst 1, 1) := by decide +kernel
theorem dX5_readProcess_45 : decode cX5_readProcess 45 = .ok (.iadd, 1) := by decide +kernel
theorem dX5_readProcess_46 : decode cX5_readProcess 46 = .ok (.putfield 183, 3) := by decide +kernel
theorem dX5_readProcess_49 : decode cX5_readProcess 49 = .ok (.aload_n 0, 1) := by decide +kernel
theorem dX5_readProcess_50 : decode cX5_readProcess 50 = .ok (.getfield 31, 3) := by decide +kernel
theorem dX5_readProcess_53 : decode cX5_readProcess 53 = .ok (.getfield 189, 3) := by decide +kernel
theorem dX5_readProcess_56 : decode cX5_readProcess 56 = .ok (.iload_n 2, 1) := by decide +kernel
theorem dX5_readProcess_57 : decode cX5_readProcess 57 = .ok (.aload_n 1, 1) := by decide +kernel
theorem dX5_readProcess_58 : decode cX5_readProcess 58 = .ok (.getstatic 132, 3) := by decide +kernel
theorem dX5_readProcess_61 : decode cX5_readProcess 61 = .ok (.if_acmp .ne 7, 3) := by decide +kernel
theorem dX5_readProcess_64 : decode cX5_readProcess 64 = .ok (.iconst 1, 1) := by decide +kernel
theorem dX5_readProcess_65 : decode cX5_readProcess 65 = .ok (.goto 4, 3) := by decide +kernel
theorem dX5_readProcess_68 : decode cX5_readProcess 68 = .ok (.iconst 0, 1) := by decide +kernel
theorem dX5_readProcess_69 : decode cX5_readProcess 69 = .ok (.bastore, 1) := by decide +kernel
theorem dX5_readProcess_70 : decode cX5_readProcess 70 = .ok (.aload_n 0, 1) := by decide +kernel
theorem dX5_readProcess_71 : decode cX5_readProcess 71 = .ok (.getstatic 193, 3) := by decide +kernel
theorem dX5_readProcess_74 : decode cX5_readProcess 74 = .ok (.invokevirtual 91, 3) := by decide +kernel
theorem dX5_readProcess_77 : decode cX5_readProcess 77 = .ok (.aload_n 0, 1) := by decide +kernel
theorem dX5_readProcess_78 : decode cX5_readProcess 78 = .ok (.getfield 31, 3) := by decide +kernel
theorem dX5_readProcess_81 : decode cX5_readProcess 81 = .ok (.getfield 196, 3) := by decide +kernel
theorem dX5_readProcess_84 : decode cX5_readProcess 84 = .ok (.iload_n 2, 1) := by decide +kernel
theorem dX5_readProcess_85 : decode cX5_readProcess 85 = .ok (.aload_n 0, 1) := by decide +kernel
theorem dX5_readProcess_86 : decode cX5_readProcess 86 = .ok (.iconst 1, 1) := by decide +kernel
theorem dX5_readProcess_87 : decode cX5_readProcess 87 = .ok (.bipush 100, 2) := by decide +kernel
theorem dX5_readProcess_89 : decode cX5_readProcess 89 = .ok (.invokevirtual 95, 3) := by decide +kernel
theorem dX5_readProcess_92 : decode cX5_readProcess 92 = .ok (.iastore, 1) := by decide +kernel
theorem dX5_readProcess_93 : decode cX5_readProcess 93 = .ok (.aload_n 0, 1) := by decide +kernel
theorem dX5_readProcess_94 : decode cX5_readProcess 94 = .ok (.getstatic 199, 3) := by decide +kernel
theorem dX5_readProcess_97 : decode cX5_readProcess 97 = .ok (.invokevirtual 91, 3) := by decide +kernel
theorem dX5_readProcess_100 : decode cX5_readProcess 100 = .ok (.aload_n 0, 1) := by decide +kernel
theorem dX5_readProcess_101 : decode cX5_readProcess 101 = .ok (.getfield 31, 3) := by decide +kernel
theorem dX5_readProcess_104 : decode cX5_readProcess 104 = .ok (.getfield 202, 3) := by decide +kernel
theorem dX5_readProcess_107 : decode cX5_readProcess 107 = .ok (.iload_n 2, 1) := by decide +kernel
theorem dX5_readProcess_108 : decode cX5_readProcess 108 = .ok (.aload_n 0, 1) := by decide +kernel
theorem dX5_readProcess_109 : decode cX5_readProcess 109 = .ok (.iconst 0, 1) := by decide +kernel
theorem dX5_readProcess_110 : decode cX5_readProcess 110 = .ok (.sipush 999, 3) := by decide +kernel
theorem dX5_readProcess_113 : decode cX5_readProcess 113 = .ok (.invokevirtual 95, 3) := by decide +kernel
theorem dX5_readProcess_116 : decode cX5_readProcess 116 = .ok (.iastore, 1) := by decide +kernel
theorem dX5_readProcess_117 : decode cX5_readProcess 117 = .ok (.aload_n 0, 1) := by decide +kernel
theorem dX5_readProcess_118 : decode cX5_readProcess 118 = .ok (.getstatic 205, 3) := by decide +kernel
theorem dX5_readProcess_121 : decode cX5_readProcess 121 = .ok (.invokevirtual 91, 3) := by decide +kernel
theorem dX5_readProcess_124 : decode cX5_readProcess 124 = .ok (.iconst 0, 1) := by decide +kernel
theorem dX5_readProcess_125 : decode cX5_readProcess 125 = .ok (.istore_n 3, 1) := by decide +kernel
theorem dX5_readProcess_126 : decode cX5_readProcess 126 = .ok (.iconst 1, 1) := by decide +kernel
theorem dX5_readProcess_127 : decode cX5_readProcess 127 = .ok (.istore 4, 2) := by decide +kernel
theorem dX5_readProcess_129 : decode cX5_readProcess 129 = .ok (.aload_n 0, 1) := by decide +kernel
theorem dX5_readProcess_130 : decode cX5_readProcess 130 = .ok (.getfield 42, 3) := by decide +kernel
theorem dX5_readProcess_133 : decode cX5_readProcess 133 = .ok (.ifCond .ne 53, 3) := by decide +kernel
theorem dX5_readProcess_136 : decode cX5_readProcess 136 = .ok (.iload 4, 2) := by decide +kernel
theorem dX5_readProcess_138 : decode cX5_readProcess 138 = .ok (.ifCond .eq 48, 3) := by decide +kernel
theorem dX5_readProcess_141 : decode cX5_readProcess 141 = .ok (.iload_n 3, 1) := by decide +kernel
theorem dX5_readProcess_142 : decode cX5_readProcess 142 = .ok (.bipush 6, 2) := by decide +kernel
theorem dX5_readProcess_144 : decode cX5_readProcess 144 = .ok (.if_icmp .gt 42, 3) := by decide +kernel
theorem dX5_readProcess_147 : decode cX5_readProcess 147 = .ok (.aload_n 0, 1) := by decide +kernel
theorem dX5_readProcess_148 : decode cX5_readProcess 148 = .ok (.iload_n 2, 1) := by decide +kernel
theorem dX5_readProcess_149 : decode cX5_readProcess 149 = .ok (.iload_n 3, 1) := by decide +kernel
theorem dX5_readProcess_150 : decode cX5_readProcess 150 = .ok (.invokevirtual 208, 3) := by decide +kernel
theorem dX5_readProcess_153 : decode cX5_readProcess 153 = .ok (.iinc 3 1, 3) := by decide +kernel
theorem dX5_readProcess_156 : decode cX5_readProcess 156 = .ok (.aload_n 0, 1) := by decide +kernel
theorem dX5_readProcess_157 : decode cX5_readProcess 157 = .ok (.bipush 44, 2) := by decide +kernel
theorem dX5_readProcess_159 : decode cX5_readProcess 159 = .ok (.invokevirtual 211, 3) := by decide +kernel
theorem dX5_readProcess_162 : decode cX5_readProcess 162 = .ok (.istore 4, 2) := by decide +kernel
theorem dX5_readProcess_164 : decode cX5_readProcess 164 = .ok (.aload_n 0, 1) := by decide +kernel
theorem dX5_readProcess_165 : decode cX5_readProcess 165 = .ok (.dup, 1) := by decide +kernel
theorem dX5_readProcess_166 : decode cX5_readProcess 166 = .ok (.getfield 35, 3) := by decide +kernel
theorem dX5_readProcess_169 : decode cX5_readProcess 169 = .ok (.iload 4, 2) := by decide +kernel
theorem dX5_readProcess_171 : decode cX5_readProcess 171 = .ok (.ifCond .eq 7, 3) := by decide +kernel
theorem dX5_readProcess_174 : decode cX5_readProcess 174 = .ok (.iconst 1, 1) := by decide +kernel
theorem dX5_readProcess_175 : decode cX5_readProcess 175 = .ok (.goto 4, 3) := by decide +kernel
theorem dX5_readProcess_178 : decode cX5_readProcess 178 = .ok (.iconst 0, 1) := by decide +kernel
theorem dX5_readProcess_179 : decode cX5_readProcess 179 = .ok (.iadd, 1) := by decide +kernel
theorem dX5_readProcess_180 : decode cX5_readProcess 180 = .ok (.putfield 35, 3) := by decide +kernel
theorem dX5_readProcess_183 : decode cX5_readProcess 183 = .ok (.goto (-54), 3) := by decide +kernel
theorem dX5_readProcess_186 : decode cX5_readProcess 186 = .ok (.aload_n 0, 1) := by decide +kernel
theorem dX5_readProcess_187 : decode cX5_readProcess 187 = .ok (.getfield 31, 3) := by decide +kernel
theorem dX5_readProcess_190 : decode cX5_readProcess 190 = .ok (.getfield 214, 3) := by decide +kernel
theorem dX5_readProcess_193 : decode cX5_readProcess 193 = .ok (.iload_n 2, 1) := by decide +kernel
theorem dX5_readProcess_194 : decode cX5_readProcess 194 = .ok (.iload_n 3, 1) := by decide +kernel
theorem dX5_readProcess_195 : decode cX5_readProcess 195 = .ok (.iastore, 1) := by decide +kernel
theorem dX5_readProcess_196 : decode cX5_readProcess 196 = .ok (.return_, 1) := by decide +kernel
theorem dX5_readStep_0 : decode cX5_readStep 0 = .ok (.aload_n 0, 1) := by decide +kernel
theorem dX5_readStep_1 : decode cX5_readStep 1 = .ok (.getfield 23, 3) := by decide +kernel
theorem dX5_readStep_4 : decode cX5_readStep 4 = .ok (.aload_n 0, 1) := by decide +kernel
theorem dX5_readStep_5 : decode cX5_readStep 5 = .ok (.getfield 35, 3) := by decide +kernel
theorem dX5_readStep_8 : decode cX5_readStep 8 = .ok (.aaload, 1) := by decide +kernel
theorem dX5_readStep_9 : decode cX5_readStep 9 = .ok (.astore_n 3, 1) := by decide +kernel
theorem dX5_readStep_10 : decode cX5_readStep 10 = .ok (.aload_n 3, 1) := by decide +kernel
theorem dX5_readStep_11 : decode cX5_readStep 11 = .ok (.getstatic 217, 3) := by decide +kernel
theorem dX5_readStep_14 : decode cX5_readStep 14 = .ok (.if_acmp .eq 25, 3) := by decide +kernel
theorem dX5_readStep_17 : decode cX5_readStep 17 = .ok (.aload_n 3, 1) := by decide +kernel
theorem dX5_readStep_18 : decode cX5_readStep 18 = .ok (.getstatic 220, 3) := by decide +kernel
theorem dX5_readStep_21 : decode cX5_readStep 21 = .ok (.if_acmp .eq 18, 3) := by decide +kernel
theorem dX5_readStep_24 : decode cX5_readStep 24 = .ok (.aload_n 0, 1) := by decide +kernel
theorem dX5_readStep_25 : decode cX5_readStep 25 = .ok (.iconst 1, 1) := by decide +kernel
theorem dX5_readStep_26 : decode cX5_readStep 26 = .ok (.aload_n 0, 1) := by decide +kernel
theorem dX5_readStep_27 : decode cX5_readStep 27 = .ok (.getfield 15, 3) := by decide +kernel
theorem dX5_readStep_30 : decode cX5_readStep 30 = .ok (.aload_n 0, 1) := by decide +kernel
theorem dX5_readStep_31 : decode cX5_readStep 31 = .ok (.getfield 35, 3) := by decide +kernel
theorem dX5_readStep_34 : decode cX5_readStep 34 = .ok (.iaload, 1) := by decide +kernel
theorem dX5_readStep_35 : decode cX5_readStep 35 = .ok (.invokevirtual 119, 3) := by decide +kernel
theorem dX5_readStep_38 : decode cX5_readStep 38 = .ok (.return_, 1) := by decide +kernel
theorem dX5_readStep_39 : decode cX5_readStep 39 = .ok (.iload_n 2, 1) := by decide +kernel
theorem dX5_readStep_40 : decode cX5_readStep 40 = .ok (.bipush 6, 2) := by decide +kernel
theorem dX5_readStep_42 : decode cX5_readStep 42 = .ok (.if_icmp .lt 18, 3) := by decide +kernel
theorem dX5_readStep_45 : decode cX5_readStep 45 = .ok (.aload_n 0, 1) := by decide +kernel
theorem dX5_readStep_46 : decode cX5_readStep 46 = .ok (.iconst 5, 1) := by decide +kernel
theorem dX5_readStep_47 : decode cX5_readStep 47 = .ok (.aload_n 0, 1) := by decide +kernel
theorem dX5_readStep_48 : decode cX5_readStep 48 = .ok (.getfield 15, 3) := by decide +kernel
theorem dX5_readStep_51 : decode cX5_readStep 51 = .ok (.aload_n 0, 1) := by decide +kernel
theorem dX5_readStep_52 : decode cX5_readStep 52 = .ok (.getfield 35, 3) := by decide +kernel
theorem dX5_readStep_55 : decode cX5_readStep 55 = .ok (.iaload, 1) := by decide +kernel
theorem dX5_readStep_56 : decode cX5_readStep 56 = .ok (.invokevirtual 119, 3) := by decide +kernel
theorem dX5_readStep_59 : decode cX5_readStep 59 = .ok (.return_, 1) := by decide +kernel
theorem dX5_readStep_60 : decode cX5_readStep 60 = .ok (.aload_n 3, 1) := by decide +kernel
theorem dX5_readStep_61 : decode cX5_readStep 61 = .ok (.getstatic 217, 3) := by decide +kernel
theorem dX5_readStep_64 : decode cX5_readStep 64 = .ok (.if_acmp .ne 31, 3) := by decide +kernel
theorem dX5_readStep_67 : decode cX5_readStep 67 = .ok (.aload_n 0, 1) := by decide +kernel
theorem dX5_readStep_68 : decode cX5_readStep 68 = .ok (.getfield 31, 3) := by decide +kernel
theorem dX5_readStep_71 : decode cX5_readStep 71 = .ok (.getfield 189, 3) := by decide +kernel
theorem dX5_readStep_74 : decode cX5_readStep 74 = .ok (.iload_n 1, 1) := by decide +kernel
theorem dX5_readStep_75 : decode cX5_readStep 75 = .ok (.baload, 1) := by decide +kernel
theorem dX5_readStep_76 : decode cX5_readStep 76 = .ok (.ifCond .eq 19, 3) := by decide +kernel
theorem dX5_readStep_79 : decode cX5_readStep 79 = .ok (.aload_n 0, 1) := by decide +kernel
theorem dX5_readStep_80 : decode cX5_readStep 80 = .ok (.bipush 6, 2) := by decide +kernel
theorem dX5_readStep_82 : decode cX5_readStep 82 = .ok (.aload_n 0, 1) := by decide +kernel
theorem dX5_readStep_83 : decode cX5_readStep 83 = .ok (.getfield 15, 3) := by decide +kernel
theorem dX5_readStep_86 : decode cX5_readStep 86 = .ok (.aload_n 0, 1) := by decide +kernel
theorem dX5_readStep_87 : decode cX5_readStep 87 = .ok (.getfield 35, 3) := by decide +kernel
theorem dX5_readStep_90 : decode cX5_readStep 90 = .ok (.iaload, 1) := by decide +kernel
theorem dX5_readStep_91 : decode cX5_readStep 91 = .ok (.invokevirtual 119, 3) := by decide +kernel
theorem dX5_readStep_94 : decode cX5_readStep 94 = .ok (.return_, 1) := by decide +kernel
theorem dX5_readStep_95 : decode cX5_readStep 95 = .ok (.iload_n 1, 1) := by decide +kernel
theorem dX5_readStep_96 : decode cX5_readStep 96 = .ok (.bipush 6, 2) := by decide +kernel
theorem dX5_readStep_98 : decode cX5_readStep 98 = .ok (.imul, 1) := by decide +kernel
theorem dX5_readStep_99 : decode cX5_readStep 99 = .ok (.iload_n 2, 1) := by decide +kernel
theorem dX5_readStep_100 : decode cX5_readStep 100 = .ok (.iadd, 1) := by decide +kernel
theorem dX5_readStep_101 : decode cX5_readStep 101 = .ok (.istore 4, 2) := by decide +kernel
theorem dX5_readStep_103 : decode cX5_readStep 103 = .ok (.iconst (-1), 1) := by decide +kernel
theorem dX5_readStep_104 : decode cX5_readStep 104 = .ok (.istore 5, 2) := by decide +kernel
theorem dX5_readStep_106 : decode cX5_readStep 106 = .ok (.bipush 64, 2) := by decide +kernel
theorem dX5_readStep_108 : decode cX5_readStep 108 = .ok (.istore 6, 2) := by decide +kernel
theorem dX5_readStep_110 : decode cX5_readStep 110 = .ok (.aload_n 0, 1) := by decide +kernel
theorem dX5_readStep_111 : decode cX5_readStep 111 = .ok (.aload_n 3, 1) := by decide +kernel
theorem dX5_readStep_112 : decode cX5_readStep 112 = .ok (.invokevirtual 91, 3) := by decide +kernel
theorem dX5_readStep_115 : decode cX5_readStep 115 = .ok (.aload_n 3, 1) := by decide +kernel
theorem dX5_readStep_116 : decode cX5_readStep 116 = .ok (.getstatic 217, 3) := by decide +kernel
theorem dX5_readStep_119 : decode cX5_readStep 119 = .ok (.if_acmp .ne 36, 3) := by decide +kernel
theorem dX5_readStep_122 : decode cX5_readStep 122 = .ok (.aload_n 0, 1) := by decide +kernel
theorem dX5_readStep_123 : decode cX5_readStep 123 = .ok (.iconst 0, 1) := by decide +kernel
theorem dX5_readStep_124 : decode cX5_readStep 124 = .ok (.aload_n 0, 1) := by decide +kernel
theorem dX5_readStep_125 : decode cX5_readStep 125 = .ok (.getfield 31, 3) := by decide +kernel
theorem dX5_readStep_128 : decode cX5_readStep 128 = .ok (.getfield 98, 3) := by decide +kernel
theorem dX5_readStep_131 : decode cX5_readStep 131 = .ok (.iconst 1, 1) := by decide +kernel
theorem dX5_readStep_132 : decode cX5_readStep 132 = .ok (.isub, 1) := by decide +kernel
theorem dX5_readStep_133 : decode cX5_readStep 133 = .ok (.invokevirtual 95, 3) := by decide +kernel
theorem dX5_readStep_136 : decode cX5_readStep 136 = .ok (.istore 5, 2) := by decide +kernel
theorem dX5_readStep_138 : decode cX5_readStep 138 = .ok (.bipush 64, 2) := by decide +kernel
theorem dX5_readStep_140 : decode cX5_readStep 140 = .ok (.aload_n 0, 1) := by decide +kernel
theorem dX5_readStep_141 : decode cX5_readStep 141 = .ok (.getfield 31, 3) := by decide +kernel
theorem dX5_readStep_144 : decode cX5_readStep 144 = .ok (.getfield 98, 3) := by decide +kernel
theorem dX5_readStep_147 : decode cX5_readStep 147 = .ok (.iload 5, 2) := by decide +kernel
theorem dX5_readStep_149 : decode cX5_readStep 149 = .ok (.isub, 1) := by decide +kernel
theorem dX5_readStep_150 : decode cX5_readStep 150 = .ok (.invokestatic 223, 3) := by decide +kernel
theorem dX5_readStep_153 : decode cX5_readStep 153 = .ok (.istore 6, 2) := by decide +kernel
theorem dX5_readStep_155 : decode cX5_readStep 155 = .ok (.aload_n 0, 1) := by decide +kernel
theorem dX5_readStep_156 : decode cX5_readStep 156 = .ok (.getfield 31, 3) := by decide +kernel
theorem dX5_readStep_159 : decode cX5_readStep 159 = .ok (.getfield 228, 3) := by decide +kernel
theorem dX5_readStep_162 : decode cX5_readStep 162 = .ok (.iload 4, 2) := by decide +kernel
theorem dX5_readStep_164 : decode cX5_readStep 164 = .ok (.iload 5, 2) := by decide +kernel
theorem dX5_readStep_166 : decode cX5_readStep 166 = .ok (.iastore, 1) := by decide +kernel
theorem dX5_readStep_167 : decode cX5_readStep 167 = .ok (.aload_n 0, 1) := by decide +kernel
theorem dX5_readStep_168 : decode cX5_readStep 168 = .ok (.getstatic 231, 3) := by decide +kernel
theorem dX5_readStep_171 : decode cX5_readStep 171 = .ok (.invokevirtual 91, 3) := by decide +kernel
theorem dX5_readStep_174 : decode cX5_readStep 174 = .ok (.aload_n 0, 1) := by decide +kernel
theorem dX5_readStep_175 : decode cX5_readStep 175 = .ok (.getfield 31, 3) := by decide +kernel
theorem dX5_readStep_178 : decode cX5_readStep 178 = .ok (.getfield 234, 3) := by decide +kernel
theorem dX5_readStep_181 : decode cX5_readStep 181 = .ok (.iload 4, 2) := by decide +kernel
theorem dX5_readStep_183 : decode cX5_readStep 183 = .ok (.aload_n 0, 1) := by decide +kernel
theorem dX5_readStep_184 : decode cX5_readStep 184 = .ok (.iconst 1, 1) := by decide +kernel
theorem dX5_readStep_185 : decode cX5_readStep 185 = .ok (.iload 6, 2) := by decide +kernel
theorem dX5_readStep_187 : decode cX5_readStep 187 = .ok (.invokevirtual 95, 3) := by decide +kernel
theorem dX5_readStep_190 : decode cX5_readStep 190 = .ok (.iastore, 1) := by decide +kernel
theorem dX5_readStep_191 : decode cX5_readStep 191 = .ok (.aload_n 0, 1) := by decide +kernel
theorem dX5_readStep_192 : decode cX5_readStep 192 = .ok (.getstatic 237, 3) := by decide +kernel
theorem dX5_readStep_195 : decode cX5_readStep 195 = .ok (.invokevirtual 91, 3) := by decide +kernel
theorem dX5_readStep_198 : decode cX5_readStep 198 = .ok (.aload_n 0, 1) := by decide +kernel
theorem dX5_readStep_199 : decode cX5_readStep 199 = .ok (.getfield 31, 3) := by decide +kernel
theorem dX5_readStep_202 : decode cX5_readStep 202 = .ok (.getfield 240, 3) := by decide +kernel
theorem dX5_readStep_205 : decode cX5_readStep 205 = .ok (.iload 4, 2) := by decide +kernel
theorem dX5_readStep_207 : decode cX5_readStep 207 = .ok (.aload_n 0, 1) := by decide +kernel
theorem dX5_readStep_208 : decode cX5_readStep 208 = .ok (.iconst 0, 1) := by decide +kernel
theorem dX5_readStep_209 : decode cX5_readStep 209 = .ok (.sipush 200, 3) := by decide +kernel
theorem dX5_readStep_212 : decode cX5_readStep 212 = .ok (.invokevirtual 95, 3) := by decide +kernel
theorem dX5_readStep_215 : decode cX5_readStep 215 = .ok (.iastore, 1) := by decide +kernel
theorem dX5_readStep_216 : decode cX5_readStep 216 = .ok (.return_, 1) := by decide +kernel
theorem dX5_fail_0 : decode cX5_fail 0 = .ok (.aload_n 0, 1) := by decide +kernel
theorem dX5_fail_1 : decode cX5_fail 1 = .ok (.getfield 42, 3) := by decide +kernel
theorem dX5_fail_4 : decode cX5_fail 4 = .ok (.ifCond .ne 13, 3) := by decide +kernel
theorem dX5_fail_7 : decode cX5_fail 7 = .ok (.aload_n 0, 1) := by decide +kernel
theorem dX5_fail_8 : decode cX5_fail 8 = .ok (.iload_n 1, 1) := by decide +kernel
theorem dX5_fail_9 : decode cX5_fail 9 = .ok (.putfield 42, 3) := by decide +kernel
theorem dX5_fail_12 : decode cX5_fail 12 = .ok (.aload_n 0, 1) := by decide +kernel
theorem dX5_fail_13 : decode cX5_fail 13 = .ok (.iload_n 2, 1) := by decide +kernel
theorem dX5_fail_14 : decode cX5_fail 14 = .ok (.putfield 45, 3) := by decide +kernel
theorem dX5_fail_17 : decode cX5_fail 17 = .ok (.return_, 1) := by decide +kernel
theorem dX5_isSign_0 : decode cX5_isSign 0 = .ok (.aload_n 0, 1) := by decide +kernel
theorem dX5_isSign_1 : decode cX5_isSign 1 = .ok (.getfield 9, 3) := by decide +kernel
theorem dX5_isSign_4 : decode cX5_isSign 4 = .ok (.aload_n 0, 1) := by decide +kernel
theorem dX5_isSign_5 : decode cX5_isSign 5 = .ok (.getfield 35, 3) := by decide +kernel
theorem dX5_isSign_8 : decode cX5_isSign 8 = .ok (.iaload, 1) := by decide +kernel
theorem dX5_isSign_9 : decode cX5_isSign 9 = .ok (.iconst 3, 1) := by decide +kernel
theorem dX5_isSign_10 : decode cX5_isSign 10 = .ok (.if_icmp .ne 27, 3) := by decide +kernel
theorem dX5_isSign_13 : decode cX5_isSign 13 = .ok (.aload_n 0, 1) := by decide +kernel
theorem dX5_isSign_14 : decode cX5_isSign 14 = .ok (.getfield 27, 3) := by decide +kernel
theorem dX5_isSign_17 : decode cX5_isSign 17 = .ok (.aload_n 0, 1) := by decide +kernel
theorem dX5_isSign_18 : decode cX5_isSign 18 = .ok (.getfield 15, 3) := by decide +kernel
theorem dX5_isSign_21 : decode cX5_isSign 21 = .ok (.aload_n 0, 1) := by decide +kernel
theorem dX5_isSign_22 : decode cX5_isSign 22 = .ok (.getfield 35, 3) := by decide +kernel
theorem dX5_isSign_25 : decode cX5_isSign 25 = .ok (.iaload, 1) := by decide +kernel
theorem dX5_isSign_26 : decode cX5_isSign 26 = .ok (.invokevirtual 243, 3) := by decide +kernel
theorem dX5_isSign_29 : decode cX5_isSign 29 = .ok (.iload_n 1, 1) := by decide +kernel
theorem dX5_isSign_30 : decode cX5_isSign 30 = .ok (.if_icmp .ne 7, 3) := by decide +kernel
theorem dX5_isSign_33 : decode cX5_isSign 33 = .ok (.iconst 1, 1) := by decide +kernel
theorem dX5_isSign_34 : decode cX5_isSign 34 = .ok (.goto 4, 3) := by decide +kernel
theorem dX5_isSign_37 : decode cX5_isSign 37 = .ok (.iconst 0, 1) := by decide +kernel
theorem dX5_isSign_38 : decode cX5_isSign 38 = .ok (.ireturn, 1) := by decide +kernel
theorem dX5_expectSign_0 : decode cX5_expectSign 0 = .ok (.aload_n 0, 1) := by decide +kernel
theorem dX5_expectSign_1 : decode cX5_expectSign 1 = .ok (.getfield 42, 3) := by decide +kernel
theorem dX5_expectSign_4 : decode cX5_expectSign 4 = .ok (.ifCond .eq 4, 3) := by decide +kernel
theorem dX5_expectSign_7 : decode cX5_expectSign 7 = .ok (.return_, 1) := by decide +kernel
theorem dX5_expectSign_8 : decode cX5_expectSign 8 = .ok (.aload_n 0, 1) := by decide +kernel
theorem dX5_expectSign_9 : decode cX5_expectSign 9 = .ok (.iload_n 1, 1) := by decide +kernel
theorem dX5_expectSign_10 : decode cX5_expectSign 10 = .ok (.invokevirtual 211, 3) := by decide +kernel
theorem dX5_expectSign_13 : decode cX5_expectSign 13 = .ok (.ifCond .eq 16, 3) := by decide +kernel
theorem dX5_expectSign_16 : decode cX5_expectSign 16 = .ok (.aload_n 0, 1) := by decide +kernel
theorem dX5_expectSign_17 : decode cX5_expectSign 17 = .ok (.dup, 1) := by decide +kernel
theorem dX5_expectSign_18 : decode cX5_expectSign 18 = .ok (.getfield 35, 3) := by decide +kernel
theorem dX5_expectSign_21 : decode cX5_expectSign 21 = .ok (.iconst 1, 1) := by decide +kernel
theorem dX5_expectSign_22 : decode cX5_expectSign 22 = .ok (.iadd, 1) := by decide +kernel
theorem dX5_expectSign_23 : decode cX5_expectSign 23 = .ok (.putfield 35, 3) := by decide +kernel
theorem dX5_expectSign_26 : decode cX5_expectSign 26 = .ok (.goto 17, 3) := by decide +kernel
theorem dX5_expectSign_29 : decode cX5_expectSign 29 = .ok (.aload_n 0, 1) := by decide +kernel
theorem dX5_expectSign_30 : decode cX5_expectSign 30 = .ok (.iconst 1, 1) := by decide +kernel
theorem dX5_expectSign_31 : decode cX5_expectSign 31 = .ok (.aload_n 0, 1) := by decide +kernel
theorem dX5_expectSign_32 : decode cX5_expectSign 32 = .ok (.getfield 15, 3) := by decide +kernel
theorem dX5_expectSign_35 : decode cX5_expectSign 35 = .ok (.aload_n 0, 1) := by decide +kernel
theorem dX5_expectSign_36 : decode cX5_expectSign 36 = .ok (.getfield 35, 3) := by decide +kernel
theorem dX5_expectSign_39 : decode cX5_expectSign 39 = .ok (.iaload, 1) := by decide +kernel
theorem dX5_expectSign_40 : decode cX5_expectSign 40 = .ok (.invokevirtual 119, 3) := by decide +kernel
theorem dX5_expectSign_43 : decode cX5_expectSign 43 = .ok (.return_, 1) := by decide +kernel
theorem dX5_expectWord_0 : decode cX5_expectWord 0 = .ok (.aload_n 0, 1) := by decide +kernel
theorem dX5_expectWord_1 : decode cX5_expectWord 1 = .ok (.getfield 42, 3) := by decide +kernel
theorem dX5_expectWord_4 : decode cX5_expectWord 4 = .ok (.ifCond .eq 4, 3) := by decide +kernel
theorem dX5_expectWord_7 : decode cX5_expectWord 7 = .ok (.return_, 1) := by decide +kernel
theorem dX5_expectWord_8 : decode cX5_expectWord 8 = .ok (.aload_n 0, 1) := by decide +kernel
theorem dX5_expectWord_9 : decode cX5_expectWord 9 = .ok (.getfield 23, 3) := by decide +kernel
theorem dX5_expectWord_12 : decode cX5_expectWord 12 = .ok (.aload_n 0, 1) := by decide +kernel
theorem dX5_expectWord_13 : decode cX5_expectWord 13 = .ok (.getfield 35, 3) := by decide +kernel
theorem dX5_expectWord_16 : decode cX5_expectWord 16 = .ok (.aaload, 1) := by decide +kernel
theorem dX5_expectWord_17 : decode cX5_expectWord 17 = .ok (.aload_n 1, 1) := by decide +kernel
theorem dX5_expectWord_18 : decode cX5_expectWord 18 = .ok (.if_acmp .ne 16, 3) := by decide +kernel
theorem dX5_expectWord_21 : decode cX5_expectWord 21 = .ok (.aload_n 0, 1) := by decide +kernel
theorem dX5_expectWord_22 : decode cX5_expectWord 22 = .ok (.dup, 1) := by decide +kernel
theorem dX5_expectWord_23 : decode cX5_expectWord 23 = .ok (.getfield 35, 3) := by decide +kernel
theorem dX5_expectWord_26 : decode cX5_expectWord 26 = .ok (.iconst 1, 1) := by decide +kernel
theorem dX5_expectWord_27 : decode cX5_expectWord 27 = .ok (.iadd, 1) := by decide +kernel
theorem dX5_expectWord_28 : decode cX5_expectWord 28 = .ok (.putfield 35, 3) := by decide +kernel
theorem dX5_expectWord_31 : decode cX5_expectWord 31 = .ok (.goto 17, 3) := by decide +kernel
theorem dX5_expectWord_34 : decode cX5_expectWord 34 = .ok (.aload_n 0, 1) := by decide +kernel
theorem dX5_expectWord_35 : decode cX5_expectWord 35 = .ok (.iconst 1, 1) := by decide +kernel
theorem dX5_expectWord_36 : decode cX5_expectWord 36 = .ok (.aload_n 0, 1) := by decide +kernel
theorem dX5_expectWord_37 : decode cX5_expectWord 37 = .ok (.getfield 15, 3) := by decide +kernel
theorem dX5_expectWord_40 : decode cX5_expectWord 40 = .ok (.aload_n 0, 1) := by decide +kernel
theorem dX5_expectWord_41 : decode cX5_expectWord 41 = .ok (.getfield 35, 3) := by decide +kernel
theorem dX5_expectWord_44 : decode cX5_expectWord 44 = .ok (.iaload, 1) := by decide +kernel
theorem dX5_expectWord_45 : decode cX5_expectWord 45 = .ok (.invokevirtual 119, 3) := by decide +kernel
theorem dX5_expectWord_48 : decode cX5_expectWord 48 = .ok (.return_, 1) := by decide +kernel
theorem dX5_expectNumber_0 : decode cX5_expectNumber 0 = .ok (.aload_n 0, 1) := by decide +kernel
theorem dX5_expectNumber_1 : decode cX5_expectNumber 1 = .ok (.getfield 42, 3) := by decide +kernel
theorem dX5_expectNumber_4 : decode cX5_expectNumber 4 = .ok (.ifCond .eq 5, 3) := by decide +kernel
theorem dX5_expectNumber_7 : decode cX5_expectNumber 7 = .ok (.iload_n 1, 1) := by decide +kernel
theorem dX5_expectNumber_8 : decode cX5_expectNumber 8 = .ok (.ireturn, 1) := by decide +kernel
theorem dX5_expectNumber_9 : decode cX5_expectNumber 9 = .ok (.aload_n 0, 1) := by decide +kernel
theorem dX5_expectNumber_10 : decode cX5_expectNumber 10 = .ok (.getfield 15, 3) := by decide +kernel
theorem dX5_expectNumber_13 : decode cX5_expectNumber 13 = .ok (.aload_n 0, 1) := by decide +kernel
theorem dX5_expectNumber_14 : decode cX5_expectNumber 14 = .ok (.getfield 35, 3) := by decide +kernel
theorem dX5_expectNumber_17 : decode cX5_expectNumber 17 = .ok (.iaload, 1) := by decide +kernel
theorem dX5_expectNumber_18 : decode cX5_expectNumber 18 = .ok (.istore_n 3, 1) := by decide +kernel
theorem dX5_expectNumber_19 : decode cX5_expectNumber 19 = .ok (.aload_n 0, 1) := by decide +kernel
theorem dX5_expectNumber_20 : decode cX5_expectNumber 20 = .ok (.getfield 9, 3) := by decide +kernel
theorem dX5_expectNumber_23 : decode cX5_expectNumber 23 = .ok (.aload_n 0, 1) := by decide +kernel
theorem dX5_expectNumber_24 : decode cX5_expectNumber 24 = .ok (.getfield 35, 3) := by decide +kernel
theorem dX5_expectNumber_27 : decode cX5_expectNumber 27 = .ok (.iaload, 1) := by decide +kernel
theorem dX5_expectNumber_28 : decode cX5_expectNumber 28 = .ok (.iconst 2, 1) := by decide +kernel
theorem dX5_expectNumber_29 : decode cX5_expectNumber 29 = .ok (.if_icmp .eq 11, 3) := by decide +kernel
theorem dX5_expectNumber_32 : decode cX5_expectNumber 32 = .ok (.aload_n 0, 1) := by decide +kernel
theorem dX5_expectNumber_33 : decode cX5_expectNumber 33 = .ok (.iconst 1, 1) := by decide +kernel
theorem dX5_expectNumber_34 : decode cX5_expectNumber 34 = .ok (.iload_n 3, 1) := by decide +kernel
theorem dX5_expectNumber_35 : decode cX5_expectNumber 35 = .ok (.invokevirtual 119, 3) := by decide +kernel
theorem dX5_expectNumber_38 : decode cX5_expectNumber 38 = .ok (.iload_n 1, 1) := by decide +kernel
theorem dX5_expectNumber_39 : decode cX5_expectNumber 39 = .ok (.ireturn, 1) := by decide +kernel
theorem dX5_expectNumber_40 : decode cX5_expectNumber 40 = .ok (.aload_n 0, 1) := by decide +kernel
theorem dX5_expectNumber_41 : decode cX5_expectNumber 41 = .ok (.getfield 18, 3) := by decide +kernel
theorem dX5_expectNumber_44 : decode cX5_expectNumber 44 = .ok (.aload_n 0, 1) := by decide +kernel
theorem dX5_expectNumber_45 : decode cX5_expectNumber 45 = .ok (.getfield 35, 3) := by decide +kernel
theorem dX5_expectNumber_48 : decode cX5_expectNumber 48 = .ok (.iaload, 1) := by decide +kernel
theorem dX5_expectNumber_49 : decode cX5_expectNumber 49 = .ok (.iconst 4, 1) := by decide +kernel
theorem dX5_expectNumber_50 : decode cX5_expectNumber 50 = .ok (.if_icmp .le 13, 3) := by decide +kernel
theorem dX5_expectNumber_53 : decode cX5_expectNumber 53 = .ok (.aload_n 0, 1) := by decide +kernel
theorem dX5_expectNumber_54 : decode cX5_expectNumber 54 = .ok (.iconst 1, 1) := by decide +kernel
theorem dX5_expectNumber_55 : decode cX5_expectNumber 55 = .ok (.iload_n 3, 1) := by decide +kernel
theorem dX5_expectNumber_56 : decode cX5_expectNumber 56 = .ok (.iconst 4, 1) := by decide +kernel
theorem dX5_expectNumber_57 : decode cX5_expectNumber 57 = .ok (.iadd, 1) := by decide +kernel
theorem dX5_expectNumber_58 : decode cX5_expectNumber 58 = .ok (.invokevirtual 119, 3) := by decide +kernel
theorem dX5_expectNumber_61 : decode cX5_expectNumber 61 = .ok (.iload_n 1, 1) := by decide +kernel
theorem dX5_expectNumber_62 : decode cX5_expectNumber 62 = .ok (.ireturn, 1) := by decide +kernel
theorem dX5_expectNumber_63 : decode cX5_expectNumber 63 = .ok (.iconst 0, 1) := by decide +kernel
theorem dX5_expectNumber_64 : decode cX5_expectNumber 64 = .ok (.istore 4, 2) := by decide +kernel
theorem dX5_expectNumber_66 : decode cX5_expectNumber 66 = .ok (.iconst 0, 1) := by decide +kernel
theorem dX5_expectNumber_67 : decode cX5_expectNumber 67 = .ok (.istore 5, 2) := by decide +kernel
theorem dX5_expectNumber_69 : decode cX5_expectNumber 69 = .ok (.iload 5, 2) := by decide +kernel
theorem dX5_expectNumber_71 : decode cX5_expectNumber 71 = .ok (.aload_n 0, 1) := by decide +kernel
theorem dX5_expectNumber_72 : decode cX5_expectNumber 72 = .ok (.getfield 18, 3) := by decide +kernel
theorem dX5_expectNumber_75 : decode cX5_expectNumber 75 = .ok (.aload_n 0, 1) := by decide +kernel
theorem dX5_expectNumber_76 : decode cX5_expectNumber 76 = .ok (.getfield 35, 3) := by decide +kernel
theorem dX5_expectNumber_79 : decode cX5_expectNumber 79 = .ok (.iaload, 1) := by decide +kernel
theorem dX5_expectNumber_80 : decode cX5_expectNumber 80 = .ok (.if_icmp .ge 31, 3) := by decide +kernel
theorem dX5_expectNumber_83 : decode cX5_expectNumber 83 = .ok (.iload 4, 2) := by decide +kernel
theorem dX5_expectNumber_85 : decode cX5_expectNumber 85 = .ok (.bipush 10, 2) := by decide +kernel
theorem dX5_expectNumber_87 : decode cX5_expectNumber 87 = .ok (.imul, 1) := by decide +kernel
theorem dX5_expectNumber_88 : decode cX5_expectNumber 88 = .ok (.aload_n 0, 1) := by decide +kernel
theorem dX5_expectNumber_89 : decode cX5_expectNumber 89 = .ok (.getfield 27, 3) := by decide +kernel
theorem dX5_expectNumber_92 : decode cX5_expectNumber 92 = .ok (.iload_n 3, 1) := by decide +kernel
theorem dX5_expectNumber_93 : decode cX5_expectNumber 93 = .ok (.iload 5, 2) := by decide +kernel
theorem dX5_expectNumber_95 : decode cX5_expectNumber 95 = .ok (.iadd, 1) := by decide +kernel
theorem dX5_expectNumber_96 : decode cX5_expectNumber 96 = .ok (.invokevirtual 243, 3) := by decide +kernel
theorem dX5_expectNumber_99 : decode cX5_expectNumber 99 = .ok (.iadd, 1) := by decide +kernel
theorem dX5_expectNumber_100 : decode cX5_expectNumber 100 = .ok (.bipush 48, 2) := by decide +kernel
theorem dX5_expectNumber_102 : decode cX5_expectNumber 102 = .ok (.isub, 1) := by decide +kernel
theorem dX5_expectNumber_103 : decode cX5_expectNumber 103 = .ok (.istore 4, 2) := by decide +kernel
theorem dX5_expectNumber_105 : decode cX5_expectNumber 105 = .ok (.iinc 5 1, 3) := by decide +kernel
theorem dX5_expectNumber_108 : decode cX5_expectNumber 108 = .ok (.goto (-39), 3) := by decide +kernel
theorem dX5_expectNumber_111 : decode cX5_expectNumber 111 = .ok (.iload 4, 2) := by decide +kernel
theorem dX5_expectNumber_113 : decode cX5_expectNumber 113 = .ok (.iload_n 1, 1) := by decide +kernel
theorem dX5_expectNumber_114 : decode cX5_expectNumber 114 = .ok (.if_icmp .lt 9, 3) := by decide +kernel
theorem dX5_expectNumber_117 : decode cX5_expectNumber 117 = .ok (.iload 4, 2) := by decide +kernel
theorem dX5_expectNumber_119 : decode cX5_expectNumber 119 = .ok (.iload_n 2, 1) := by decide +kernel
theorem dX5_expectNumber_120 : decode cX5_expectNumber 120 = .ok (.if_icmp .le 9, 3) := by decide +kernel
theorem dX5_expectNumber_123 : decode cX5_expectNumber 123 = .ok (.aload_n 0, 1) := by decide +kernel
theorem dX5_expectNumber_124 : decode cX5_expectNumber 124 = .ok (.iconst 2, 1) := by decide +kernel
theorem dX5_expectNumber_125 : decode cX5_expectNumber 125 = .ok (.iload_n 3, 1) := by decide +kernel
theorem dX5_expectNumber_126 : decode cX5_expectNumber 126 = .ok (.invokevirtual 119, 3) := by decide +kernel
theorem dX5_expectNumber_129 : decode cX5_expectNumber 129 = .ok (.aload_n 0, 1) := by decide +kernel
theorem dX5_expectNumber_130 : decode cX5_expectNumber 130 = .ok (.dup, 1) := by decide +kernel
theorem dX5_expectNumber_131 : decode cX5_expectNumber 131 = .ok (.getfield 35, 3) := by decide +kernel
theorem dX5_expectNumber_134 : decode cX5_expectNumber 134 = .ok (.iconst 1, 1) := by decide +kernel
theorem dX5_expectNumber_135 : decode cX5_expectNumber 135 = .ok (.iadd, 1) := by decide +kernel
theorem dX5_expectNumber_136 : decode cX5_expectNumber 136 = .ok (.putfield 35, 3) := by decide +kernel
theorem dX5_expectNumber_139 : decode cX5_expectNumber 139 = .ok (.iload 4, 2) := by decide +kernel
theorem dX5_expectNumber_141 : decode cX5_expectNumber 141 = .ok (.ireturn, 1) := by decide +kernel
theorem dX5_expectName_0 : decode cX5_expectName 0 = .ok (.aload_n 0, 1) := by decide +kernel
theorem dX5_expectName_1 : decode cX5_expectName 1 = .ok (.getfield 42, 3) := by decide +kernel
theorem dX5_expectName_4 : decode cX5_expectName 4 = .ok (.ifCond .eq 4, 3) := by decide +kernel
theorem dX5_expectName_7 : decode cX5_expectName 7 = .ok (.return_, 1) := by decide +kernel
theorem dX5_expectName_8 : decode cX5_expectName 8 = .ok (.aload_n 0, 1) := by decide +kernel
theorem dX5_expectName_9 : decode cX5_expectName 9 = .ok (.getfield 15, 3) := by decide +kernel
theorem dX5_expectName_12 : decode cX5_expectName 12 = .ok (.aload_n 0, 1) := by decide +kernel
theorem dX5_expectName_13 : decode cX5_expectName 13 = .ok (.getfield 35, 3) := by decide +kernel
theorem dX5_expectName_16 : decode cX5_expectName 16 = .ok (.iaload, 1) := by decide +kernel
theorem dX5_expectName_17 : decode cX5_expectName 17 = .ok (.istore_n 2, 1) := by decide +kernel
theorem dX5_expectName_18 : decode cX5_expectName 18 = .ok (.aload_n 0, 1) := by decide +kernel
theorem dX5_expectName_19 : decode cX5_expectName 19 = .ok (.getfield 9, 3) := by decide +kernel
theorem dX5_expectName_22 : decode cX5_expectName 22 = .ok (.aload_n 0, 1) := by decide +kernel
theorem dX5_expectName_23 : decode cX5_expectName 23 = .ok (.getfield 35, 3) := by decide +kernel
theorem dX5_expectName_26 : decode cX5_expectName 26 = .ok (.iaload, 1) := by decide +kernel
theorem dX5_expectName_27 : decode cX5_expectName 27 = .ok (.iconst 1, 1) := by decide +kernel
theorem dX5_expectName_28 : decode cX5_expectName 28 = .ok (.if_icmp .ne 15, 3) := by decide +kernel
theorem dX5_expectName_31 : decode cX5_expectName 31 = .ok (.aload_n 0, 1) := by decide +kernel
theorem dX5_expectName_32 : decode cX5_expectName 32 = .ok (.getfield 23, 3) := by decide +kernel
theorem dX5_expectName_35 : decode cX5_expectName 35 = .ok (.aload_n 0, 1) := by decide +kernel
theorem dX5_expectName_36 : decode cX5_expectName 36 = .ok (.getfield 35, 3) := by decide +kernel
theorem dX5_expectName_39 : decode cX5_expectName 39 = .ok (.aaload, 1) := by decide +kernel
theorem dX5_expectName_40 : decode cX5_expectName 40 = .ok (.ifnull 10, 3) := by decide +kernel
theorem dX5_expectName_43 : decode cX5_expectName 43 = .ok (.aload_n 0, 1) := by decide +kernel
theorem dX5_expectName_44 : decode cX5_expectName 44 = .ok (.iconst 1, 1) := by decide +kernel
theorem dX5_expectName_45 : decode cX5_expectName 45 = .ok (.iload_n 2, 1) := by decide +kernel
theorem dX5_expectName_46 : decode cX5_expectName 46 = .ok (.invokevirtual 119, 3) := by decide +kernel
theorem dX5_expectName_49 : decode cX5_expectName 49 = .ok (.return_, 1) := by decide +kernel
theorem dX5_expectName_50 : decode cX5_expectName 50 = .ok (.aload_n 0, 1) := by decide +kernel
theorem dX5_expectName_51 : decode cX5_expectName 51 = .ok (.getfield 18, 3) := by decide +kernel
theorem dX5_expectName_54 : decode cX5_expectName 54 = .ok (.aload_n 0, 1) := by decide +kernel
theorem dX5_expectName_55 : decode cX5_expectName 55 = .ok (.getfield 35, 3) := by decide +kernel
theorem dX5_expectName_58 : decode cX5_expectName 58 = .ok (.iaload, 1) := by decide +kernel
theorem dX5_expectName_59 : decode cX5_expectName 59 = .ok (.bipush 6, 2) := by decide +kernel
theorem dX5_expectName_61 : decode cX5_expectName 61 = .ok (.if_icmp .le 13, 3) := by decide +kernel
theorem dX5_expectName_64 : decode cX5_expectName 64 = .ok (.aload_n 0, 1) := by decide +kernel
theorem dX5_expectName_65 : decode cX5_expectName 65 = .ok (.iconst 1, 1) := by decide +kernel
theorem dX5_expectName_66 : decode cX5_expectName 66 = .ok (.iload_n 2, 1) := by decide +kernel
theorem dX5_expectName_67 : decode cX5_expectName 67 = .ok (.bipush 6, 2) := by decide +kernel
theorem dX5_expectName_69 : decode cX5_expectName 69 = .ok (.iadd, 1) := by decide +kernel
theorem dX5_expectName_70 : decode cX5_expectName 70 = .ok (.invokevirtual 119, 3) := by decide +kernel
theorem dX5_expectName_73 : decode cX5_expectName 73 = .ok (.return_, 1) := by decide +kernel
theorem dX5_expectName_74 : decode cX5_expectName 74 = .ok (.iconst 0, 1) := by decide +kernel
theorem dX5_expectName_75 : decode cX5_expectName 75 = .ok (.istore_n 3, 1) := by decide +kernel
theorem dX5_expectName_76 : decode cX5_expectName 76 = .ok (.iload_n 3, 1) := by decide +kernel
theorem dX5_expectName_77 : decode cX5_expectName 77 = .ok (.aload_n 0, 1) := by decide +kernel
theorem dX5_expectName_78 : decode cX5_expectName 78 = .ok (.getfield 18, 3) := by decide +kernel
theorem dX5_expectName_81 : decode cX5_expectName 81 = .ok (.aload_n 0, 1) := by decide +kernel
theorem dX5_expectName_82 : decode cX5_expectName 82 = .ok (.getfield 35, 3) := by decide +kernel
theorem dX5_expectName_85 : decode cX5_expectName 85 = .ok (.iaload, 1) := by decide +kernel
theorem dX5_expectName_86 : decode cX5_expectName 86 = .ok (.if_icmp .ge 38, 3) := by decide +kernel
theorem dX5_expectName_89 : decode cX5_expectName 89 = .ok (.aload_n 0, 1) := by decide +kernel
theorem dX5_expectName_90 : decode cX5_expectName 90 = .ok (.getfield 31, 3) := by decide +kernel
theorem dX5_expectName_93 : decode cX5_expectName 93 = .ok (.getfield 246, 3) := by decide +kernel
theorem dX5_expectName_96 : decode cX5_expectName 96 = .ok (.iload_n 1, 1) := by decide +kernel
theorem dX5_expectName_97 : decode cX5_expectName 97 = .ok (.bipush 6, 2) := by decide +kernel
theorem dX5_expectName_99 : decode cX5_expectName 99 = .ok (.imul, 1) := by decide +kernel
theorem dX5_expectName_100 : decode cX5_expectName 100 = .ok (.iload_n 3, 1) := by decide +kernel
theorem dX5_expectName_101 : decode cX5_expectName 101 = .ok (.iadd, 1) := by decide +kernel
theorem dX5_expectName_102 : decode cX5_expectName 102 = .ok (.aload_n 0, 1) := by decide +kernel
theorem dX5_expectName_103 : decode cX5_expectName 103 = .ok (.getfield 27, 3) := by decide +kernel
theorem dX5_expectName_106 : decode cX5_expectName 106 = .ok (.iload_n 2, 1) := by decide +kernel
theorem dX5_expectName_107 : decode cX5_expectName 107 = .ok (.iload_n 3, 1) := by decide +kernel
theorem dX5_expectName_108 : decode cX5_expectName 108 = .ok (.iadd, 1) := by decide +kernel
theorem dX5_expectName_109 : decode cX5_expectName 109 = .ok (.invokevirtual 243, 3) := by decide +kernel
theorem dX5_expectName_112 : decode cX5_expectName 112 = .ok (.bipush 97, 2) := by decide +kernel
theorem dX5_expectName_114 : decode cX5_expectName 114 = .ok (.isub, 1) := by decide +kernel
theorem dX5_expectName_115 : decode cX5_expectName 115 = .ok (.iconst 1, 1) := by decide +kernel
theorem dX5_expectName_116 : decode cX5_expectName 116 = .ok (.iadd, 1) := by decide +kernel
theorem dX5_expectName_117 : decode cX5_expectName 117 = .ok (.iastore, 1) := by decide +kernel
theorem dX5_expectName_118 : decode cX5_expectName 118 = .ok (.iinc 3 1, 3) := by decide +kernel
theorem dX5_expectName_121 : decode cX5_expectName 121 = .ok (.goto (-45), 3) := by decide +kernel
theorem dX5_expectName_124 : decode cX5_expectName 124 = .ok (.aload_n 0, 1) := by decide +kernel
theorem dX5_expectName_125 : decode cX5_expectName 125 = .ok (.getfield 31, 3) := by decide +kernel
theorem dX5_expectName_128 : decode cX5_expectName 128 = .ok (.iload_n 1, 1) := by decide +kernel
theorem dX5_expectName_129 : decode cX5_expectName 129 = .ok (.invokevirtual 249, 3) := by decide +kernel
theorem dX5_expectName_132 : decode cX5_expectName 132 = .ok (.ifCond .eq 9, 3) := by decide +kernel
theorem dX5_expectName_135 : decode cX5_expectName 135 = .ok (.aload_n 0, 1) := by decide +kernel
theorem dX5_expectName_136 : decode cX5_expectName 136 = .ok (.iconst 3, 1) := by decide +kernel
theorem dX5_expectName_137 : decode cX5_expectName 137 = .ok (.iload_n 2, 1) := by decide +kernel
theorem dX5_expectName_138 : decode cX5_expectName 138 = .ok (.invokevirtual 119, 3) := by decide +kernel
theorem dX5_expectName_141 : decode cX5_expectName 141 = .ok (.aload_n 0, 1) := by decide +kernel
theorem dX5_expectName_142 : decode cX5_expectName 142 = .ok (.dup, 1) := by decide +kernel
theorem dX5_expectName_143 : decode cX5_expectName 143 = .ok (.getfield 35, 3) := by decide +kernel
theorem dX5_expectName_146 : decode cX5_expectName 146 = .ok (.iconst 1, 1) := by decide +kernel
theorem dX5_expectName_147 : decode cX5_expectName 147 = .ok (.iadd, 1) := by decide +kernel
theorem dX5_expectName_148 : decode cX5_expectName 148 = .ok (.putfield 35, 3) := by decide +kernel
theorem dX5_expectName_151 : decode cX5_expectName 151 = .ok (.return_, 1) := by decide +kernel
theorem dX6_init_0 : decode cX6_init 0 = .ok (.aload_n 0, 1) := by decide +kernel
theorem dX6_init_1 : decode cX6_init 1 = .ok (.invokespecial 3, 3) := by decide +kernel
theorem dX6_init_4 : decode cX6_init 4 = .ok (.aload_n 0, 1) := by decide +kernel
theorem dX6_init_5 : decode cX6_init 5 = .ok (.sipush 324, 3) := by decide +kernel
theorem dX6_init_8 : decode cX6_init 8 = .ok (.newarray .int, 2) := by decide +kernel
theorem dX6_init_10 : decode cX6_init 10 = .ok (.putfield 11, 3) := by decide +kernel
theorem dX6_init_13 : decode cX6_init 13 = .ok (.aload_n 0, 1) := by decide +kernel
theorem dX6_init_14 : decode cX6_init 14 = .ok (.iconst 0, 1) := by decide +kernel
theorem dX6_init_15 : decode cX6_init 15 = .ok (.putfield 15, 3) := by decide +kernel
theorem dX6_init_18 : decode cX6_init 18 = .ok (.return_, 1) := by decide +kernel
theorem dX6_copy_0 : decode cX6_copy 0 = .ok (.aload_n 0, 1) := by decide +kernel
theorem dX6_copy_1 : decode cX6_copy 1 = .ok (.aload_n 1, 1) := by decide +kernel
theorem dX6_copy_2 : decode cX6_copy 2 = .ok (.getfield 15, 3) := by decide +kernel
theorem dX6_copy_5 : decode cX6_copy 5 = .ok (.putfield 15, 3) := by decide +kernel
theorem dX6_copy_8 : decode cX6_copy 8 = .ok (.aload_n 1, 1) := by decide +kernel
theorem dX6_copy_9 : decode cX6_copy 9 = .ok (.getfield 11, 3) := by decide +kernel
theorem dX6_copy_12 : decode cX6_copy 12 = .ok (.iconst 0, 1) := by decide +kernel
theorem dX6_copy_13 : decode cX6_copy 13 = .ok (.aload_n 0, 1) := by decide +kernel
theorem dX6_copy_14 : decode cX6_copy 14 = .ok (.getfield 11, 3) := by decide +kernel
theorem dX6_copy_17 : decode cX6_copy 17 = .ok (.iconst 0, 1) := by decide +kernel
theorem dX6_copy_18 : decode cX6_copy 18 = .ok (.aload_n 0, 1) := by decide +kernel
theorem dX6_copy_19 : decode cX6_copy 19 = .ok (.getfield 15, 3) := by decide +kernel
theorem dX6_copy_22 : decode cX6_copy 22 = .ok (.bipush 6, 2) := by decide +kernel
theorem dX6_copy_24 : decode cX6_copy 24 = .ok (.imul, 1) := by decide +kernel
theorem dX6_copy_25 : decode cX6_copy 25 = .ok (.invokestatic 19, 3) := by decide +kernel
theorem dX6_copy_28 : decode cX6_copy 28 = .ok (.return_, 1) := by decide +kernel
theorem dX6_isFull_0 : decode cX6_isFull 0 = .ok (.aload_n 0, 1) := by decide +kernel
theorem dX6_isFull_1 : decode cX6_isFull 1 = .ok (.getfield 15, 3) := by decide +kernel
theorem dX6_isFull_4 : decode cX6_isFull 4 = .ok (.bipush 54, 2) := by decide +kernel
theorem dX6_isFull_6 : decode cX6_isFull 6 = .ok (.if_icmp .lt 7, 3) := by decide +kernel
theorem dX6_isFull_9 : decode cX6_isFull 9 = .ok (.iconst 1, 1) := by decide +kernel
theorem dX6_isFull_10 : decode cX6_isFull 10 = .ok (.goto 4, 3) := by decide +kernel
theorem dX6_isFull_13 : decode cX6_isFull 13 = .ok (.iconst 0, 1) := by decide +kernel
theorem dX6_isFull_14 : decode cX6_isFull 14 = .ok (.ireturn, 1) := by decide +kernel
theorem dX6_addRow_0 : decode cX6_addRow 0 = .ok (.aload_n 0, 1) := by decide +kernel
theorem dX6_addRow_1 : decode cX6_addRow 1 = .ok (.getfield 15, 3) := by decide +kernel
theorem dX6_addRow_4 : decode cX6_addRow 4 = .ok (.bipush 6, 2) := by decide +kernel
theorem dX6_addRow_6 : decode cX6_addRow 6 = .ok (.imul, 1) := by decide +kernel
theorem dX6_addRow_7 : decode cX6_addRow 7 = .ok (.istore_n 1, 1) := by decide +kernel
theorem dX6_addRow_8 : decode cX6_addRow 8 = .ok (.aload_n 0, 1) := by decide +kernel
theorem dX6_addRow_9 : decode cX6_addRow 9 = .ok (.dup, 1) := by decide +kernel
theorem dX6_addRow_10 : decode cX6_addRow 10 = .ok (.getfield 15, 3) := by decide +kernel
theorem dX6_addRow_13 : decode cX6_addRow 13 = .ok (.iconst 1, 1) := by decide +kernel
theorem dX6_addRow_14 : decode cX6_addRow 14 = .ok (.iadd, 1) := by decide +kernel
theorem dX6_addRow_15 : decode cX6_addRow 15 = .ok (.putfield 15, 3) := by decide +kernel
theorem dX6_addRow_18 : decode cX6_addRow 18 = .ok (.iload_n 1, 1) := by decide +kernel
theorem dX6_addRow_19 : decode cX6_addRow 19 = .ok (.ireturn, 1) := by decide +kernel
theorem dX6_moveOut_0 : decode cX6_moveOut 0 = .ok (.aload_n 0, 1) := by decide +kernel
theorem dX6_moveOut_1 : decode cX6_moveOut 1 = .ok (.getfield 11, 3) := by decide +kernel
theorem dX6_moveOut_4 : decode cX6_moveOut 4 = .ok (.iload_n 1, 1) := by decide +kernel
theorem dX6_moveOut_5 : decode cX6_moveOut 5 = .ok (.aload_n 2, 1) := by decide +kernel
theorem dX6_moveOut_6 : decode cX6_moveOut 6 = .ok (.iconst 0, 1) := by decide +kernel
theorem dX6_moveOut_7 : decode cX6_moveOut 7 = .ok (.bipush 6, 2) := by decide +kernel
theorem dX6_moveOut_9 : decode cX6_moveOut 9 = .ok (.invokestatic 19, 3) := by decide +kernel
theorem dX6_moveOut_12 : decode cX6_moveOut 12 = .ok (.iload_n 1, 1) := by decide +kernel
theorem dX6_moveOut_13 : decode cX6_moveOut 13 = .ok (.bipush 6, 2) := by decide +kernel
theorem dX6_moveOut_15 : decode cX6_moveOut 15 = .ok (.iadd, 1) := by decide +kernel
theorem dX6_moveOut_16 : decode cX6_moveOut 16 = .ok (.istore_n 3, 1) := by decide +kernel
theorem dX6_moveOut_17 : decode cX6_moveOut 17 = .ok (.aload_n 0, 1) := by decide +kernel
theorem dX6_moveOut_18 : decode cX6_moveOut 18 = .ok (.getfield 11, 3) := by decide +kernel
theorem dX6_moveOut_21 : decode cX6_moveOut 21 = .ok (.iload_n 3, 1) := by decide +kernel
theorem dX6_moveOut_22 : decode cX6_moveOut 22 = .ok (.aload_n 0, 1) := by decide +kernel
theorem dX6_moveOut_23 : decode cX6_moveOut 23 = .ok (.getfield 11, 3) := by decide +kernel
theorem dX6_moveOut_26 : decode cX6_moveOut 26 = .ok (.iload_n 1, 1) := by decide +kernel
theorem dX6_moveOut_27 : decode cX6_moveOut 27 = .ok (.aload_n 0, 1) := by decide +kernel
theorem dX6_moveOut_28 : decode cX6_moveOut 28 = .ok (.getfield 15, 3) := by decide +kernel
theorem dX6_moveOut_31 : decode cX6_moveOut 31 = .ok (.bipush 6, 2) := by decide +kernel
theorem dX6_moveOut_33 : decode cX6_moveOut 33 = .ok (.imul, 1) := by decide +kernel
theorem dX6_moveOut_34 : decode cX6_moveOut 34 = .ok (.iload_n 3, 1) := by decide +kernel
theorem dX6_moveOut_35 : decode cX6_moveOut 35 = .ok (.isub, 1) := by decide +kernel
theorem dX6_moveOut_36 : decode cX6_moveOut 36 = .ok (.invokestatic 19, 3) := by decide +kernel
theorem dX6_moveOut_39 : decode cX6_moveOut 39 = .ok (.aload_n 0, 1) := by decide +kernel
theorem dX6_moveOut_40 : decode cX6_moveOut 40 = .ok (.dup, 1) := by decide +kernel
theorem dX6_moveOut_41 : decode cX6_moveOut 41 = .ok (.getfield 15, 3) := by decide +kernel
theorem dX6_moveOut_44 : decode cX6_moveOut 44 = .ok (.iconst 1, 1) := by decide +kernel
theorem dX6_moveOut_45 : decode cX6_moveOut 45 = .ok (.isub, 1) := by decide +kernel
theorem dX6_moveOut_46 : decode cX6_moveOut 46 = .ok (.putfield 15, 3) := by decide +kernel
theorem dX6_moveOut_49 : decode cX6_moveOut 49 = .ok (.return_, 1) := by decide +kernel
theorem dX6_placeOf_0 : decode cX6_placeOf 0 = .ok (.iconst 0, 1) := by decide +kernel
theorem dX6_placeOf_1 : decode cX6_placeOf 1 = .ok (.istore_n 3, 1) := by decide +kernel
theorem dX6_placeOf_2 : decode cX6_placeOf 2 = .ok (.iconst 0, 1) := by decide +kernel
theorem dX6_placeOf_3 : decode cX6_placeOf 3 = .ok (.istore 4, 2) := by decide +kernel
theorem dX6_placeOf_5 : decode cX6_placeOf 5 = .ok (.iload 4, 2) := by decide +kernel
theorem dX6_placeOf_7 : decode cX6_placeOf 7 = .ok (.aload_n 0, 1) := by decide +kernel
theorem dX6_placeOf_8 : decode cX6_placeOf 8 = .ok (.getfield 15, 3) := by decide +kernel
theorem dX6_placeOf_11 : decode cX6_placeOf 11 = .ok (.bipush 6, 2) := by decide +kernel
theorem dX6_placeOf_13 : decode cX6_placeOf 13 = .ok (.imul, 1) := by decide +kernel
theorem dX6_placeOf_14 : decode cX6_placeOf 14 = .ok (.if_icmp .ge 33, 3) := by decide +kernel
theorem dX6_placeOf_17 : decode cX6_placeOf 17 = .ok (.aload_n 0, 1) := by decide +kernel
theorem dX6_placeOf_18 : decode cX6_placeOf 18 = .ok (.getfield 11, 3) := by decide +kernel
theorem dX6_placeOf_21 : decode cX6_placeOf 21 = .ok (.iload 4, 2) := by decide +kernel
theorem dX6_placeOf_23 : decode cX6_placeOf 23 = .ok (.iconst 5, 1) := by decide +kernel
theorem dX6_placeOf_24 : decode cX6_placeOf 24 = .ok (.iadd, 1) := by decide +kernel
theorem dX6_placeOf_25 : decode cX6_placeOf 25 = .ok (.iaload, 1) := by decide +kernel
theorem dX6_placeOf_26 : decode cX6_placeOf 26 = .ok (.iload_n 1, 1) := by decide +kernel
theorem dX6_placeOf_27 : decode cX6_placeOf 27 = .ok (.if_icmp .ne 14, 3) := by decide +kernel
theorem dX6_placeOf_30 : decode cX6_placeOf 30 = .ok (.iload_n 3, 1) := by decide +kernel
theorem dX6_placeOf_31 : decode cX6_placeOf 31 = .ok (.iload_n 2, 1) := by decide +kernel
theorem dX6_placeOf_32 : decode cX6_placeOf 32 = .ok (.if_icmp .ne 6, 3) := by decide +kernel
theorem dX6_placeOf_35 : decode cX6_placeOf 35 = .ok (.iload 4, 2) := by decide +kernel
theorem dX6_placeOf_37 : decode cX6_placeOf 37 = .ok (.ireturn, 1) := by decide +kernel
theorem dX6_placeOf_38 : decode cX6_placeOf 38 = .ok (.iinc 3 1, 3) := by decide +kernel
theorem dX6_placeOf_41 : decode cX6_placeOf 41 = .ok (.iinc 4 6, 3) := by decide +kernel
theorem dX6_placeOf_44 : decode cX6_placeOf 44 = .ok (.goto (-39), 3) := by decide +kernel
theorem dX6_placeOf_47 : decode cX6_placeOf 47 = .ok (.iconst (-1), 1) := by decide +kernel
theorem dX6_placeOf_48 : decode cX6_placeOf 48 = .ok (.ireturn, 1) := by decide +kernel
theorem dX6_rankOf_0 : decode cX6_rankOf 0 = .ok (.iconst 0, 1) := by decide +kernel
theorem dX6_rankOf_1 : decode cX6_rankOf 1 = .ok (.istore_n 2, 1) := by decide +kernel
theorem dX6_rankOf_2 : decode cX6_rankOf 2 = .ok (.iconst 0, 1) := by decide +kernel
theorem dX6_rankOf_3 : decode cX6_rankOf 3 = .ok (.istore_n 3, 1) := by decide +kernel
theorem dX6_rankOf_4 : decode cX6_rankOf 4 = .ok (.iload_n 3, 1) := by decide +kernel
theorem dX6_rankOf_5 : decode cX6_rankOf 5 = .ok (.iload_n 1, 1) := by decide +kernel
theorem dX6_rankOf_6 : decode cX6_rankOf 6 = .ok (.if_icmp .ge 31, 3) := by decide +kernel
theorem dX6_rankOf_9 : decode cX6_rankOf 9 = .ok (.aload_n 0, 1) := by decide +kernel
theorem dX6_rankOf_10 : decode cX6_rankOf 10 = .ok (.getfield 11, 3) := by decide +kernel
theorem dX6_rankOf_13 : decode cX6_rankOf 13 = .ok (.iload_n 3, 1) := by decide +kernel
theorem dX6_rankOf_14 : decode cX6_rankOf 14 = .ok (.iconst 5, 1) := by decide +kernel
theorem dX6_rankOf_15 : decode cX6_rankOf 15 = .ok (.iadd, 1) := by decide +kernel
theorem dX6_rankOf_16 : decode cX6_rankOf 16 = .ok (.iaload, 1) := by decide +kernel
theorem dX6_rankOf_17 : decode cX6_rankOf 17 = .ok (.aload_n 0, 1) := by decide +kernel
theorem dX6_rankOf_18 : decode cX6_rankOf 18 = .ok (.getfield 11, 3) := by decide +kernel
theorem dX6_rankOf_21 : decode cX6_rankOf 21 = .ok (.iload_n 1, 1) := by decide +kernel
theorem dX6_rankOf_22 : decode cX6_rankOf 22 = .ok (.iconst 5, 1) := by decide +kernel
theorem dX6_rankOf_23 : decode cX6_rankOf 23 = .ok (.iadd, 1) := by decide +kernel
theorem dX6_rankOf_24 : decode cX6_rankOf 24 = .ok (.iaload, 1) := by decide +kernel
theorem dX6_rankOf_25 : decode cX6_rankOf 25 = .ok (.if_icmp .ne 6, 3) := by decide +kernel
theorem dX6_rankOf_28 : decode cX6_rankOf 28 = .ok (.iinc 2 1, 3) := by decide +kernel
theorem dX6_rankOf_31 : decode cX6_rankOf 31 = .ok (.iinc 3 6, 3) := by decide +kernel
theorem dX6_rankOf_34 : decode cX6_rankOf 34 = .ok (.goto (-30), 3) := by decide +kernel
theorem dX6_rankOf_37 : decode cX6_rankOf 37 = .ok (.iload_n 2, 1) := by decide +kernel
theorem dX6_rankOf_38 : decode cX6_rankOf 38 = .ok (.ireturn, 1) := by decide +kernel
theorem dX6_nextOf_0 : decode cX6_nextOf 0 = .ok (.iconst (-1), 1) := by decide +kernel
theorem dX6_nextOf_1 : decode cX6_nextOf 1 = .ok (.istore_n 3, 1) := by decide +kernel
theorem dX6_nextOf_2 : decode cX6_nextOf 2 = .ok (.iconst (-1), 1) := by decide +kernel
theorem dX6_nextOf_3 : decode cX6_nextOf 3 = .ok (.istore 4, 2) := by decide +kernel
theorem dX6_nextOf_5 : decode cX6_nextOf 5 = .ok (.iconst 0, 1) := by decide +kernel
theorem dX6_nextOf_6 : decode cX6_nextOf 6 = .ok (.istore 5, 2) := by decide +kernel
theorem dX6_nextOf_8 : decode cX6_nextOf 8 = .ok (.iload 5, 2) := by decide +kernel
theorem dX6_nextOf_10 : decode cX6_nextOf 10 = .ok (.aload_n 0, 1) := by decide +kernel
theorem dX6_nextOf_11 : decode cX6_nextOf 11 = .ok (.getfield 15, 3) := by decide +kernel
theorem dX6_nextOf_14 : decode cX6_nextOf 14 = .ok (.bipush 6, 2) := by decide +kernel
theorem dX6_nextOf_16 : decode cX6_nextOf 16 = .ok (.imul, 1) := by decide +kernel
theorem dX6_nextOf_17 : decode cX6_nextOf 17 = .ok (.if_icmp .ge 82, 3) := by decide +kernel
theorem dX6_nextOf_20 : decode cX6_nextOf 20 = .ok (.aload_n 0, 1) := by decide +kernel
theorem dX6_nextOf_21 : decode cX6_nextOf 21 = .ok (.getfield 11, 3) := by decide +kernel
theorem dX6_nextOf_24 : decode cX6_nextOf 24 = .ok (.iload 5, 2) := by decide +kernel
theorem dX6_nextOf_26 : decode cX6_nextOf 26 = .ok (.iconst 5, 1) := by decide +kernel
theorem dX6_nextOf_27 : decode cX6_nextOf 27 = .ok (.iadd, 1) := by decide +kernel
theorem dX6_nextOf_28 : decode cX6_nextOf 28 = .ok (.iaload, 1) := by decide +kernel
theorem dX6_nextOf_29 : decode cX6_nextOf 29 = .ok (.iload_n 1, 1) := by decide +kernel
theorem dX6_nextOf_30 : decode cX6_nextOf 30 = .ok (.if_icmp .ne 63, 3) := by decide +kernel
theorem dX6_nextOf_33 : decode cX6_nextOf 33 = .ok (.aload_n 0, 1) := by decide +kernel
theorem dX6_nextOf_34 : decode cX6_nextOf 34 = .ok (.getfield 11, 3) := by decide +kernel
theorem dX6_nextOf_37 : decode cX6_nextOf 37 = .ok (.iload 5, 2) := by decide +kernel
theorem dX6_nextOf_39 : decode cX6_nextOf 39 = .ok (.iconst 0, 1) := by decide +kernel
theorem dX6_nextOf_40 : decode cX6_nextOf 40 = .ok (.iadd, 1) := by decide +kernel
theorem dX6_nextOf_41 : decode cX6_nextOf 41 = .ok (.iaload, 1) := by decide +kernel
theorem dX6_nextOf_42 : decode cX6_nextOf 42 = .ok (.istore 6, 2) := by decide +kernel
theorem dX6_nextOf_44 : decode cX6_nextOf 44 = .ok (.iload 4, 2) := by decide +kernel
theorem dX6_nextOf_46 : decode cX6_nextOf 46 = .ok (.ifCond .lt 17, 3) := by decide +kernel
theorem dX6_nextOf_49 : decode cX6_nextOf 49 = .ok (.iload 6, 2) := by decide +kernel
theorem dX6_nextOf_51 : decode cX6_nextOf 51 = .ok (.aload_n 0, 1) := by decide +kernel
theorem dX6_nextOf_52 : decode cX6_nextOf 52 = .ok (.getfield 11, 3) := by decide +kernel
theorem dX6_nextOf_55 : decode cX6_nextOf 55 = .ok (.iload 4, 2) := by decide +kernel
theorem dX6_nextOf_57 : decode cX6_nextOf 57 = .ok (.iconst 0, 1) := by decide +kernel
theorem dX6_nextOf_58 : decode cX6_nextOf 58 = .ok (.iadd, 1) := by decide +kernel
theorem dX6_nextOf_59 : decode cX6_nextOf 59 = .ok (.iaload, 1) := by decide +kernel
theorem dX6_nextOf_60 : decode cX6_nextOf 60 = .ok (.if_icmp .ge 7, 3) := by decide +kernel
theorem dX6_nextOf_63 : decode cX6_nextOf 63 = .ok (.iload 5, 2) := by decide +kernel
theorem dX6_nextOf_65 : decode cX6_nextOf 65 = .ok (.istore 4, 2) := by decide +kernel
theorem dX6_nextOf_67 : decode cX6_nextOf 67 = .ok (.iload 6, 2) := by decide +kernel
theorem dX6_nextOf_69 : decode cX6_nextOf 69 = .ok (.iload_n 2, 1) := by decide +kernel
theorem dX6_nextOf_70 : decode cX6_nextOf 70 = .ok (.if_icmp .lt 23, 3) := by decide +kernel
theorem dX6_nextOf_73 : decode cX6_nextOf 73 = .ok (.iload_n 3, 1) := by decide +kernel
theorem dX6_nextOf_74 : decode cX6_nextOf 74 = .ok (.ifCond .lt 16, 3) := by decide +kernel
theorem dX6_nextOf_77 : decode cX6_nextOf 77 = .ok (.iload 6, 2) := by decide +kernel
theorem dX6_nextOf_79 : decode cX6_nextOf 79 = .ok (.aload_n 0, 1) := by decide +kernel
theorem dX6_nextOf_80 : decode cX6_nextOf 80 = .ok (.getfield 11, 3) := by decide +kernel
theorem dX6_nextOf_83 : decode cX6_nextOf 83 = .ok (.iload_n 3, 1) := by decide +kernel
theorem dX6_nextOf_84 : decode cX6_nextOf 84 = .ok (.iconst 0, 1) := by decide +kernel
theorem dX6_nextOf_85 : decode cX6_nextOf 85 = .ok (.iadd, 1) := by decide +kernel
theorem dX6_nextOf_86 : decode cX6_nextOf 86 = .ok (.iaload, 1) := by decide +kernel
theorem dX6_nextOf_87 : decode cX6_nextOf 87 = .ok (.if_icmp .ge 6, 3) := by decide +kernel
theorem dX6_nextOf_90 : decode cX6_nextOf 90 = .ok (.iload 5, 2) := by decide +kernel
theorem dX6_nextOf_92 : decode cX6_nextOf 92 = .ok (.istore_n 3, 1) := by decide +kernel
theorem dX6_nextOf_93 : decode cX6_nextOf 93 = .ok (.iinc 5 6, 3) := by decide +kernel
theorem dX6_nextOf_96 : decode cX6_nextOf 96 = .ok (.goto (-88), 3) := by decide +kernel
theorem dX6_nextOf_99 : decode cX6_nextOf 99 = .ok (.iload_n 3, 1) := by decide +kernel
theorem dX6_nextOf_100 : decode cX6_nextOf 100 = .ok (.ifCond .ge 8, 3) := by decide +kernel
theorem dX6_nextOf_103 : decode cX6_nextOf 103 = .ok (.iload 4, 2) := by decide +kernel
theorem dX6_nextOf_105 : decode cX6_nextOf 105 = .ok (.goto 4, 3) := by decide +kernel
theorem dX6_nextOf_108 : decode cX6_nextOf 108 = .ok (.iload_n 3, 1) := by decide +kernel
theorem dX6_nextOf_109 : decode cX6_nextOf 109 = .ok (.ireturn, 1) := by decide +kernel
theorem dX6_tell_0 : decode cX6_tell 0 = .ok (.iload_n 2, 1) := by decide +kernel
theorem dX6_tell_1 : decode cX6_tell 1 = .ok (.tableswitch 74 0 4 #[35, 41, 47, 53, 59], 35) := by decide +kernel
theorem dX6_tell_36 : decode cX6_tell 36 = .ok (.aload_n 0, 1) := by decide +kernel
theorem dX6_tell_37 : decode cX6_tell 37 = .ok (.iload_n 1, 1) := by decide +kernel
theorem dX6_tell_38 : decode cX6_tell 38 = .ok (.iconst 0, 1) := by decide +kernel
theorem dX6_tell_39 : decode cX6_tell 39 = .ok (.iadd, 1) := by decide +kernel
theorem dX6_tell_40 : decode cX6_tell 40 = .ok (.iaload, 1) := by decide +kernel
theorem dX6_tell_41 : decode cX6_tell 41 = .ok (.ireturn, 1) := by decide +kernel
theorem dX6_tell_42 : decode cX6_tell 42 = .ok (.aload_n 0, 1) := by decide +kernel
theorem dX6_tell_43 : decode cX6_tell 43 = .ok (.iload_n 1, 1) := by decide +kernel
theorem dX6_tell_44 : decode cX6_tell 44 = .ok (.iconst 1, 1) := by decide +kernel
theorem dX6_tell_45 : decode cX6_tell 45 = .ok (.iadd, 1) := by decide +kernel
theorem dX6_tell_46 : decode cX6_tell 46 = .ok (.iaload, 1) := by decide +kernel
theorem dX6_tell_47 : decode cX6_tell 47 = .ok (.ireturn, 1) := by decide +kernel
theorem dX6_tell_48 : decode cX6_tell 48 = .ok (.aload_n 0, 1) := by decide +kernel
theorem dX6_tell_49 : decode cX6_tell 49 = .ok (.iload_n 1, 1) := by decide +kernel
theorem dX6_tell_50 : decode cX6_tell 50 = .ok (.iconst 2, 1) := by decide +kernel
theorem dX6_tell_51 : decode cX6_tell 51 = .ok (.iadd, 1) := by decide +kernel
theorem dX6_tell_52 : decode cX6_tell 52 = .ok (.iaload, 1) := by decide +kernel
theorem dX6_tell_53 : decode cX6_tell 53 = .ok (.ireturn, 1) := by decide +kernel
theorem dX6_tell_54 : decode cX6_tell 54 = .ok (.aload_n 0, 1) := by decide +kernel
theorem dX6_tell_55 : decode cX6_tell 55 = .ok (.iload_n 1, 1) := by decide +kernel
theorem dX6_tell_56 : decode cX6_tell 56 = .ok (.iconst 3, 1) := by decide +kernel
theorem dX6_tell_57 : decode cX6_tell 57 = .ok (.iadd, 1) := by decide +kernel
theorem dX6_tell_58 : decode cX6_tell 58 = .ok (.iaload, 1) := by decide +kernel
theorem dX6_tell_59 : decode cX6_tell 59 = .ok (.ireturn, 1) := by decide +kernel
theorem dX6_tell_60 : decode cX6_tell 60 = .ok (.aload_n 0, 1) := by decide +kernel
theorem dX6_tell_61 : decode cX6_tell 61 = .ok (.iload_n 1, 1) := by decide +kernel
theorem dX6_tell_62 : decode cX6_tell 62 = .ok (.iconst 4, 1) := by decide +kernel
theorem dX6_tell_63 : decode cX6_tell 63 = .ok (.iadd, 1) := by decide +kernel
theorem dX6_tell_64 : decode cX6_tell 64 = .ok (.iaload, 1) := by decide +kernel
theorem dX6_tell_65 : decode cX6_tell 65 = .ok (.iconst (-1), 1) := by decide +kernel
theorem dX6_tell_66 : decode cX6_tell 66 = .ok (.if_icmp .ne 7, 3) := by decide +kernel
theorem dX6_tell_69 : decode cX6_tell 69 = .ok (.iconst 1, 1) := by decide +kernel
theorem dX6_tell_70 : decode cX6_tell 70 = .ok (.goto 4, 3) := by decide +kernel
theorem dX6_tell_73 : decode cX6_tell 73 = .ok (.iconst 0, 1) := by decide +kernel
theorem dX6_tell_74 : decode cX6_tell 74 = .ok (.ireturn, 1) := by decide +kernel
theorem dX6_tell_75 : decode cX6_tell 75 = .ok (.iconst (-1), 1) := by decide +kernel
theorem dX6_tell_76 : decode cX6_tell 76 = .ok (.ireturn, 1) := by decide +kernel
theorem dX7_init_0 : decode cX7_init 0 = .ok (.aload_n 0, 1) := by decide +kernel
theorem dX7_init_1 : decode cX7_init 1 = .ok (.invokespecial 3, 3) := by decide +kernel
theorem dX7_init_4 : decode cX7_init 4 = .ok (.aload_n 0, 1) := by decide +kernel
theorem dX7_init_5 : decode cX7_init 5 = .ok (.bipush 16, 2) := by decide +kernel
theorem dX7_init_7 : decode cX7_init 7 = .ok (.newarray .int, 2) := by decide +kernel
theorem dX7_init_9 : decode cX7_init 9 = .ok (.putfield 11, 3) := by decide +kernel
theorem dX7_init_12 : decode cX7_init 12 = .ok (.aload_n 0, 1) := by decide +kernel
theorem dX7_init_13 : decode cX7_init 13 = .ok (.bipush 16, 2) := by decide +kernel
theorem dX7_init_15 : decode cX7_init 15 = .ok (.newarray .int, 2) := by decide +kernel
theorem dX7_init_17 : decode cX7_init 17 = .ok (.putfield 15, 3) := by decide +kernel
theorem dX7_init_20 : decode cX7_init 20 = .ok (.aload_n 0, 1) := by decide +kernel
theorem dX7_init_21 : decode cX7_init 21 = .ok (.iconst 0, 1) := by decide +kernel
theorem dX7_init_22 : decode cX7_init 22 = .ok (.putfield 18, 3) := by decide +kernel
theorem dX7_init_25 : decode cX7_init 25 = .ok (.return_, 1) := by decide +kernel
theorem dX7_readRows_0 : decode cX7_readRows 0 = .ok (.aload_n 1, 1) := by decide +kernel
theorem dX7_readRows_1 : decode cX7_readRows 1 = .ok (.iload_n 2, 1) := by decide +kernel
theorem dX7_readRows_2 : decode cX7_readRows 2 = .ok (.invokestatic 22, 3) := by decide +kernel
theorem dX7_readRows_5 : decode cX7_readRows 5 = .ok (.ifCond .ne 5, 3) := by decide +kernel
theorem dX7_readRows_8 : decode cX7_readRows 8 = .ok (.iconst 0, 1) := by decide +kernel
theorem dX7_readRows_9 : decode cX7_readRows 9 = .ok (.ireturn, 1) := by decide +kernel
theorem dX7_readRows_10 : decode cX7_readRows 10 = .ok (.aload_n 0, 1) := by decide +kernel
theorem dX7_readRows_11 : decode cX7_readRows 11 = .ok (.aload_n 1, 1) := by decide +kernel
theorem dX7_readRows_12 : decode cX7_readRows 12 = .ok (.getfield 26, 3) := by decide +kernel
theorem dX7_readRows_15 : decode cX7_readRows 15 = .ok (.iconst 2, 1) := by decide +kernel
theorem dX7_readRows_16 : decode cX7_readRows 16 = .ok (.idiv, 1) := by decide +kernel
theorem dX7_readRows_17 : decode cX7_readRows 17 = .ok (.putfield 18, 3) := by decide +kernel
theorem dX7_readRows_20 : decode cX7_readRows 20 = .ok (.iconst 0, 1) := by decide +kernel
theorem dX7_readRows_21 : decode cX7_readRows 21 = .ok (.istore_n 3, 1) := by decide +kernel
theorem dX7_readRows_22 : decode cX7_readRows 22 = .ok (.iload_n 3, 1) := by decide +kernel
theorem dX7_readRows_23 : decode cX7_readRows 23 = .ok (.aload_n 0, 1) := by decide +kernel
theorem dX7_readRows_24 : decode cX7_readRows 24 = .ok (.getfield 18, 3) := by decide +kernel
theorem dX7_readRows_27 : decode cX7_readRows 27 = .ok (.if_icmp .ge 37, 3) := by decide +kernel
theorem dX7_readRows_30 : decode cX7_readRows 30 = .ok (.aload_n 0, 1) := by decide +kernel
theorem dX7_readRows_31 : decode cX7_readRows 31 = .ok (.getfield 11, 3) := by decide +kernel
theorem dX7_readRows_34 : decode cX7_readRows 34 = .ok (.iload_n 3, 1) := by decide +kernel
theorem dX7_readRows_35 : decode cX7_readRows 35 = .ok (.aload_n 1, 1) := by decide +kernel
theorem dX7_readRows_36 : decode cX7_readRows 36 = .ok (.iconst 2, 1) := by decide +kernel
theorem dX7_readRows_37 : decode cX7_readRows 37 = .ok (.iload_n 3, 1) := by decide +kernel
theorem dX7_readRows_38 : decode cX7_readRows 38 = .ok (.imul, 1) := by decide +kernel
theorem dX7_readRows_39 : decode cX7_readRows 39 = .ok (.invokevirtual 31, 3) := by decide +kernel
theorem dX7_readRows_42 : decode cX7_readRows 42 = .ok (.iastore, 1) := by decide +kernel
theorem dX7_readRows_43 : decode cX7_readRows 43 = .ok (.aload_n 0, 1) := by decide +kernel
theorem dX7_readRows_44 : decode cX7_readRows 44 = .ok (.getfield 15, 3) := by decide +kernel
theorem dX7_readRows_47 : decode cX7_readRows 47 = .ok (.iload_n 3, 1) := by decide +kernel
theorem dX7_readRows_48 : decode cX7_readRows 48 = .ok (.aload_n 1, 1) := by decide +kernel
theorem dX7_readRows_49 : decode cX7_readRows 49 = .ok (.iconst 2, 1) := by decide +kernel
theorem dX7_readRows_50 : decode cX7_readRows 50 = .ok (.iload_n 3, 1) := by decide +kernel
theorem dX7_readRows_51 : decode cX7_readRows 51 = .ok (.imul, 1) := by decide +kernel
theorem dX7_readRows_52 : decode cX7_readRows 52 = .ok (.iconst 1, 1) := by decide +kernel
theorem dX7_readRows_53 : decode cX7_readRows 53 = .ok (.iadd, 1) := by decide +kernel
theorem dX7_readRows_54 : decode cX7_readRows 54 = .ok (.invokevirtual 31, 3) := by decide +kernel
theorem dX7_readRows_57 : decode cX7_readRows 57 = .ok (.iastore, 1) := by decide +kernel
theorem dX7_readRows_58 : decode cX7_readRows 58 = .ok (.iinc 3 1, 3) := by decide +kernel
theorem dX7_readRows_61 : decode cX7_readRows 61 = .ok (.goto (-39), 3) := by decide +kernel
theorem dX7_readRows_64 : decode cX7_readRows 64 = .ok (.iconst 1, 1) := by decide +kernel
theorem dX7_readRows_65 : decode cX7_readRows 65 = .ok (.ireturn, 1) := by decide +kernel
theorem dX7_areRows_0 : decode cX7_areRows 0 = .ok (.aload_n 0, 1) := by decide +kernel
theorem dX7_areRows_1 : decode cX7_areRows 1 = .ok (.getfield 26, 3) := by decide +kernel
theorem dX7_areRows_4 : decode cX7_areRows 4 = .ok (.iconst 2, 1) := by decide +kernel
theorem dX7_areRows_5 : decode cX7_areRows 5 = .ok (.if_icmp .lt 21, 3) := by decide +kernel
theorem dX7_areRows_8 : decode cX7_areRows 8 = .ok (.aload_n 0, 1) := by decide +kernel
theorem dX7_areRows_9 : decode cX7_areRows 9 = .ok (.getfield 26, 3) := by decide +kernel
theorem dX7_areRows_12 : decode cX7_areRows 12 = .ok (.bipush 32, 2) := by decide +kernel
theorem dX7_areRows_14 : decode cX7_areRows 14 = .ok (.if_icmp .gt 12, 3) := by decide +kernel
theorem dX7_areRows_17 : decode cX7_areRows 17 = .ok (.aload_n 0, 1) := by decide +kernel
theorem dX7_areRows_18 : decode cX7_areRows 18 = .ok (.getfield 26, 3) := by decide +kernel
theorem dX7_areRows_21 : decode cX7_areRows 21 = .ok (.iconst 2, 1) := by decide +kernel
theorem dX7_areRows_22 : decode cX7_areRows 22 = .ok (.irem, 1) := by decide +kernel
theorem dX7_areRows_23 : decode cX7_areRows 23 = .ok (.ifCond .eq 5, 3) := by decide +kernel
theorem dX7_areRows_26 : decode cX7_areRows 26 = .ok (.iconst 0, 1) := by decide +kernel
theorem dX7_areRows_27 : decode cX7_areRows 27 = .ok (.ireturn, 1) := by decide +kernel
theorem dX7_areRows_28 : decode cX7_areRows 28 = .ok (.iconst 0, 1) := by decide +kernel
theorem dX7_areRows_29 : decode cX7_areRows 29 = .ok (.istore_n 2, 1) := by decide +kernel
theorem dX7_areRows_30 : decode cX7_areRows 30 = .ok (.iload_n 2, 1) := by decide +kernel
theorem dX7_areRows_31 : decode cX7_areRows 31 = .ok (.aload_n 0, 1) := by decide +kernel
theorem dX7_areRows_32 : decode cX7_areRows 32 = .ok (.getfield 26, 3) := by decide +kernel
theorem dX7_areRows_35 : decode cX7_areRows 35 = .ok (.if_icmp .ge 50, 3) := by decide +kernel
theorem dX7_areRows_38 : decode cX7_areRows 38 = .ok (.aload_n 0, 1) := by decide +kernel
theorem dX7_areRows_39 : decode cX7_areRows 39 = .ok (.iload_n 2, 1) := by decide +kernel
theorem dX7_areRows_40 : decode cX7_areRows 40 = .ok (.invokevirtual 31, 3) := by decide +kernel
theorem dX7_areRows_43 : decode cX7_areRows 43 = .ok (.istore_n 3, 1) := by decide +kernel
theorem dX7_areRows_44 : decode cX7_areRows 44 = .ok (.aload_n 0, 1) := by decide +kernel
theorem dX7_areRows_45 : decode cX7_areRows 45 = .ok (.iload_n 2, 1) := by decide +kernel
theorem dX7_areRows_46 : decode cX7_areRows 46 = .ok (.iconst 1, 1) := by decide +kernel
theorem dX7_areRows_47 : decode cX7_areRows 47 = .ok (.iadd, 1) := by decide +kernel
theorem dX7_areRows_48 : decode cX7_areRows 48 = .ok (.invokevirtual 31, 3) := by decide +kernel
theorem dX7_areRows_51 : decode cX7_areRows 51 = .ok (.istore 4, 2) := by decide +kernel
theorem dX7_areRows_53 : decode cX7_areRows 53 = .ok (.iload_n 3, 1) := by decide +kernel
theorem dX7_areRows_54 : decode cX7_areRows 54 = .ok (.iconst 1, 1) := by decide +kernel
theorem dX7_areRows_55 : decode cX7_areRows 55 = .ok (.if_icmp .lt 22, 3) := by decide +kernel
theorem dX7_areRows_58 : decode cX7_areRows 58 = .ok (.iload_n 3, 1) := by decide +kernel
theorem dX7_areRows_59 : decode cX7_areRows 59 = .ok (.bipush 60, 2) := by decide +kernel
theorem dX7_areRows_61 : decode cX7_areRows 61 = .ok (.if_icmp .gt 16, 3) := by decide +kernel
theorem dX7_areRows_64 : decode cX7_areRows 64 = .ok (.iload 4, 2) := by decide +kernel
theorem dX7_areRows_66 : decode cX7_areRows 66 = .ok (.iload_n 1, 1) := by decide +kernel
theorem dX7_areRows_67 : decode cX7_areRows 67 = .ok (.if_icmp .lt 12, 3) := by decide +kernel
theorem dX7_areRows_70 : decode cX7_areRows 70 = .ok (.iload 4, 2) := by decide +kernel
theorem dX7_areRows_72 : decode cX7_areRows 72 = .ok (.bipush 6, 2) := by decide +kernel
theorem dX7_areRows_74 : decode cX7_areRows 74 = .ok (.if_icmp .eq 5, 3) := by decide +kernel
theorem dX7_areRows_77 : decode cX7_areRows 77 = .ok (.iconst 0, 1) := by decide +kernel
theorem dX7_areRows_78 : decode cX7_areRows 78 = .ok (.ireturn, 1) := by decide +kernel
theorem dX7_areRows_79 : decode cX7_areRows 79 = .ok (.iinc 2 2, 3) := by decide +kernel
theorem dX7_areRows_82 : decode cX7_areRows 82 = .ok (.goto (-52), 3) := by decide +kernel
theorem dX7_areRows_85 : decode cX7_areRows 85 = .ok (.iconst 1, 1) := by decide +kernel
theorem dX7_areRows_86 : decode cX7_areRows 86 = .ok (.ireturn, 1) := by decide +kernel
theorem dX7_lastTick_0 : decode cX7_lastTick 0 = .ok (.iconst 0, 1) := by decide +kernel
theorem dX7_lastTick_1 : decode cX7_lastTick 1 = .ok (.istore_n 1, 1) := by decide +kernel
theorem dX7_lastTick_2 : decode cX7_lastTick 2 = .ok (.iconst 0, 1) := by decide +kernel
theorem dX7_lastTick_3 : decode cX7_lastTick 3 = .ok (.istore_n 2, 1) := by decide +kernel
theorem dX7_lastTick_4 : decode cX7_lastTick 4 = .ok (.iload_n 2, 1) := by decide +kernel
theorem dX7_lastTick_5 : decode cX7_lastTick 5 = .ok (.aload_n 0, 1) := by decide +kernel
theorem dX7_lastTick_6 : decode cX7_lastTick 6 = .ok (.getfield 18, 3) := by decide +kernel
theorem dX7_lastTick_9 : decode cX7_lastTick 9 = .ok (.if_icmp .ge 20, 3) := by decide +kernel
theorem dX7_lastTick_12 : decode cX7_lastTick 12 = .ok (.iload_n 1, 1) := by decide +kernel
theorem dX7_lastTick_13 : decode cX7_lastTick 13 = .ok (.aload_n 0, 1) := by decide +kernel
theorem dX7_lastTick_14 : decode cX7_lastTick 14 = .ok (.getfield 11, 3) := by decide +kernel
theorem dX7_lastTick_17 : decode cX7_lastTick 17 = .ok (.iload_n 2, 1) := by decide +kernel
theorem dX7_lastTick_18 : decode cX7_lastTick 18 = .ok (.iaload, 1) := by decide +kernel
theorem dX7_lastTick_19 : decode cX7_lastTick 19 = .ok (.invokestatic 35, 3) := by decide +kernel
theorem dX7_lastTick_22 : decode cX7_lastTick 22 = .ok (.istore_n 1, 1) := by decide +kernel
theorem dX7_lastTick_23 : decode cX7_lastTick 23 = .ok (.iinc 2 1, 3) := by decide +kernel
theorem dX7_lastTick_26 : decode cX7_lastTick 26 = .ok (.goto (-22), 3) := by decide +kernel
theorem dX7_lastTick_29 : decode cX7_lastTick 29 = .ok (.iload_n 1, 1) := by decide +kernel
theorem dX7_lastTick_30 : decode cX7_lastTick 30 = .ok (.ireturn, 1) := by decide +kernel
theorem dX7_allows_0 : decode cX7_allows 0 = .ok (.iconst 0, 1) := by decide +kernel
theorem dX7_allows_1 : decode cX7_allows 1 = .ok (.istore_n 3, 1) := by decide +kernel
theorem dX7_allows_2 : decode cX7_allows 2 = .ok (.iload_n 3, 1) := by decide +kernel
theorem dX7_allows_3 : decode cX7_allows 3 = .ok (.aload_n 0, 1) := by decide +kernel
theorem dX7_allows_4 : decode cX7_allows 4 = .ok (.getfield 18, 3) := by decide +kernel
theorem dX7_allows_7 : decode cX7_allows 7 = .ok (.if_icmp .ge 31, 3) := by decide +kernel
theorem dX7_allows_10 : decode cX7_allows 10 = .ok (.aload_n 0, 1) := by decide +kernel
theorem dX7_allows_11 : decode cX7_allows 11 = .ok (.getfield 11, 3) := by decide +kernel
theorem dX7_allows_14 : decode cX7_allows 14 = .ok (.iload_n 3, 1) := by decide +kernel
theorem dX7_allows_15 : decode cX7_allows 15 = .ok (.iaload, 1) := by decide +kernel
theorem dX7_allows_16 : decode cX7_allows 16 = .ok (.iload_n 1, 1) := by decide +kernel
theorem dX7_allows_17 : decode cX7_allows 17 = .ok (.if_icmp .ne 15, 3) := by decide +kernel
theorem dX7_allows_20 : decode cX7_allows 20 = .ok (.aload_n 0, 1) := by decide +kernel
theorem dX7_allows_21 : decode cX7_allows 21 = .ok (.getfield 15, 3) := by decide +kernel
theorem dX7_allows_24 : decode cX7_allows 24 = .ok (.iload_n 3, 1) := by decide +kernel
theorem dX7_allows_25 : decode cX7_allows 25 = .ok (.iaload, 1) := by decide +kernel
theorem dX7_allows_26 : decode cX7_allows 26 = .ok (.iload_n 2, 1) := by decide +kernel
theorem dX7_allows_27 : decode cX7_allows 27 = .ok (.if_icmp .eq 5, 3) := by decide +kernel
theorem dX7_allows_30 : decode cX7_allows 30 = .ok (.iconst 0, 1) := by decide +kernel
theorem dX7_allows_31 : decode cX7_allows 31 = .ok (.ireturn, 1) := by decide +kernel
theorem dX7_allows_32 : decode cX7_allows 32 = .ok (.iinc 3 1, 3) := by decide +kernel
theorem dX7_allows_35 : decode cX7_allows 35 = .ok (.goto (-33), 3) := by decide +kernel
theorem dX7_allows_38 : decode cX7_allows 38 = .ok (.iconst 1, 1) := by decide +kernel
theorem dX7_allows_39 : decode cX7_allows 39 = .ok (.ireturn, 1) := by decide +kernel
