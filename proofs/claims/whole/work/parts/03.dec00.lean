theorem dX0_init_0 : decode cX0_init 0 = .ok (.aload_n 0, 1) := by decide +kernel
theorem dX0_init_1 : decode cX0_init 1 = .ok (.invokespecial 3, 3) := by decide +kernel
theorem dX0_init_4 : decode cX0_init 4 = .ok (.aload_n 0, 1) := by decide +kernel
theorem dX0_init_5 : decode cX0_init 5 = .ok (.bipush 15, 2) := by decide +kernel
theorem dX0_init_7 : decode cX0_init 7 = .ok (.newarray .int, 2) := by decide +kernel
theorem dX0_init_9 : decode cX0_init 9 = .ok (.putfield 11, 3) := by decide +kernel
theorem dX0_init_12 : decode cX0_init 12 = .ok (.aload_n 0, 1) := by decide +kernel
theorem dX0_init_13 : decode cX0_init 13 = .ok (.iconst 0, 1) := by decide +kernel
theorem dX0_init_14 : decode cX0_init 14 = .ok (.putfield 15, 3) := by decide +kernel
theorem dX0_init_17 : decode cX0_init 17 = .ok (.return_, 1) := by decide +kernel
theorem dX0_write_0 : decode cX0_write 0 = .ok (.aload_n 0, 1) := by decide +kernel
theorem dX0_write_1 : decode cX0_write 1 = .ok (.getfield 11, 3) := by decide +kernel
theorem dX0_write_4 : decode cX0_write 4 = .ok (.iconst 0, 1) := by decide +kernel
theorem dX0_write_5 : decode cX0_write 5 = .ok (.aload_n 1, 1) := by decide +kernel
theorem dX0_write_6 : decode cX0_write 6 = .ok (.getfield 19, 3) := by decide +kernel
theorem dX0_write_9 : decode cX0_write 9 = .ok (.iastore, 1) := by decide +kernel
theorem dX0_write_10 : decode cX0_write 10 = .ok (.aload_n 0, 1) := by decide +kernel
theorem dX0_write_11 : decode cX0_write 11 = .ok (.getfield 11, 3) := by decide +kernel
theorem dX0_write_14 : decode cX0_write 14 = .ok (.iconst 1, 1) := by decide +kernel
theorem dX0_write_15 : decode cX0_write 15 = .ok (.aload_n 1, 1) := by decide +kernel
theorem dX0_write_16 : decode cX0_write 16 = .ok (.getfield 24, 3) := by decide +kernel
theorem dX0_write_19 : decode cX0_write 19 = .ok (.iastore, 1) := by decide +kernel
theorem dX0_write_20 : decode cX0_write 20 = .ok (.iconst 0, 1) := by decide +kernel
theorem dX0_write_21 : decode cX0_write 21 = .ok (.istore_n 3, 1) := by decide +kernel
theorem dX0_write_22 : decode cX0_write 22 = .ok (.iload_n 3, 1) := by decide +kernel
theorem dX0_write_23 : decode cX0_write 23 = .ok (.iload_n 2, 1) := by decide +kernel
theorem dX0_write_24 : decode cX0_write 24 = .ok (.if_icmp .ge 55, 3) := by decide +kernel
theorem dX0_write_27 : decode cX0_write 27 = .ok (.aload_n 0, 1) := by decide +kernel
theorem dX0_write_28 : decode cX0_write 28 = .ok (.getfield 11, 3) := by decide +kernel
theorem dX0_write_31 : decode cX0_write 31 = .ok (.iconst 2, 1) := by decide +kernel
theorem dX0_write_32 : decode cX0_write 32 = .ok (.iconst 2, 1) := by decide +kernel
theorem dX0_write_33 : decode cX0_write 33 = .ok (.iload_n 3, 1) := by decide +kernel
theorem dX0_write_34 : decode cX0_write 34 = .ok (.imul, 1) := by decide +kernel
theorem dX0_write_35 : decode cX0_write 35 = .ok (.iadd, 1) := by decide +kernel
theorem dX0_write_36 : decode cX0_write 36 = .ok (.aload_n 1, 1) := by decide +kernel
theorem dX0_write_37 : decode cX0_write 37 = .ok (.getfield 27, 3) := by decide +kernel
theorem dX0_write_40 : decode cX0_write 40 = .ok (.iload_n 3, 1) := by decide +kernel
theorem dX0_write_41 : decode cX0_write 41 = .ok (.aaload, 1) := by decide +kernel
theorem dX0_write_42 : decode cX0_write 42 = .ok (.getfield 31, 3) := by decide +kernel
theorem dX0_write_45 : decode cX0_write 45 = .ok (.iastore, 1) := by decide +kernel
theorem dX0_write_46 : decode cX0_write 46 = .ok (.aload_n 0, 1) := by decide +kernel
theorem dX0_write_47 : decode cX0_write 47 = .ok (.getfield 11, 3) := by decide +kernel
theorem dX0_write_50 : decode cX0_write 50 = .ok (.iconst 3, 1) := by decide +kernel
theorem dX0_write_51 : decode cX0_write 51 = .ok (.iconst 2, 1) := by decide +kernel
theorem dX0_write_52 : decode cX0_write 52 = .ok (.iload_n 3, 1) := by decide +kernel
theorem dX0_write_53 : decode cX0_write 53 = .ok (.imul, 1) := by decide +kernel
theorem dX0_write_54 : decode cX0_write 54 = .ok (.iadd, 1) := by decide +kernel
theorem dX0_write_55 : decode cX0_write 55 = .ok (.aload_n 1, 1) := by decide +kernel
theorem dX0_write_56 : decode cX0_write 56 = .ok (.getfield 27, 3) := by decide +kernel
theorem dX0_write_59 : decode cX0_write 59 = .ok (.iload_n 3, 1) := by decide +kernel
theorem dX0_write_60 : decode cX0_write 60 = .ok (.aaload, 1) := by decide +kernel
theorem dX0_write_61 : decode cX0_write 61 = .ok (.getfield 36, 3) := by decide +kernel
theorem dX0_write_64 : decode cX0_write 64 = .ok (.ifCond .eq 7, 3) := by decide +kernel
theorem dX0_write_67 : decode cX0_write 67 = .ok (.iconst 1, 1) := by decide +kernel
theorem dX0_write_68 : decode cX0_write 68 = .ok (.goto 4, 3) := by decide +kernel
theorem dX0_write_71 : decode cX0_write 71 = .ok (.iconst 0, 1) := by decide +kernel
theorem dX0_write_72 : decode cX0_write 72 = .ok (.iastore, 1) := by decide +kernel
theorem dX0_write_73 : decode cX0_write 73 = .ok (.iinc 3 1, 3) := by decide +kernel
theorem dX0_write_76 : decode cX0_write 76 = .ok (.goto (-54), 3) := by decide +kernel
theorem dX0_write_79 : decode cX0_write 79 = .ok (.aload_n 0, 1) := by decide +kernel
theorem dX0_write_80 : decode cX0_write 80 = .ok (.iconst 3, 1) := by decide +kernel
theorem dX0_write_81 : decode cX0_write 81 = .ok (.iconst 2, 1) := by decide +kernel
theorem dX0_write_82 : decode cX0_write 82 = .ok (.iload_n 2, 1) := by decide +kernel
theorem dX0_write_83 : decode cX0_write 83 = .ok (.imul, 1) := by decide +kernel
theorem dX0_write_84 : decode cX0_write 84 = .ok (.iadd, 1) := by decide +kernel
theorem dX0_write_85 : decode cX0_write 85 = .ok (.putfield 15, 3) := by decide +kernel
theorem dX0_write_88 : decode cX0_write 88 = .ok (.sipush 163, 3) := by decide +kernel
theorem dX0_write_91 : decode cX0_write 91 = .ok (.istore_n 3, 1) := by decide +kernel
theorem dX0_write_92 : decode cX0_write 92 = .ok (.iconst 0, 1) := by decide +kernel
theorem dX0_write_93 : decode cX0_write 93 = .ok (.istore 4, 2) := by decide +kernel
theorem dX0_write_95 : decode cX0_write 95 = .ok (.iload 4, 2) := by decide +kernel
theorem dX0_write_97 : decode cX0_write 97 = .ok (.aload_n 0, 1) := by decide +kernel
theorem dX0_write_98 : decode cX0_write 98 = .ok (.getfield 15, 3) := by decide +kernel
theorem dX0_write_101 : decode cX0_write 101 = .ok (.iconst 1, 1) := by decide +kernel
theorem dX0_write_102 : decode cX0_write 102 = .ok (.isub, 1) := by decide +kernel
theorem dX0_write_103 : decode cX0_write 103 = .ok (.if_icmp .ge 25, 3) := by decide +kernel
theorem dX0_write_106 : decode cX0_write 106 = .ok (.iconst 3, 1) := by decide +kernel
theorem dX0_write_107 : decode cX0_write 107 = .ok (.iload_n 3, 1) := by decide +kernel
theorem dX0_write_108 : decode cX0_write 108 = .ok (.imul, 1) := by decide +kernel
theorem dX0_write_109 : decode cX0_write 109 = .ok (.aload_n 0, 1) := by decide +kernel
theorem dX0_write_110 : decode cX0_write 110 = .ok (.getfield 11, 3) := by decide +kernel
theorem dX0_write_113 : decode cX0_write 113 = .ok (.iload 4, 2) := by decide +kernel
theorem dX0_write_115 : decode cX0_write 115 = .ok (.iaload, 1) := by decide +kernel
theorem dX0_write_116 : decode cX0_write 116 = .ok (.iadd, 1) := by decide +kernel
theorem dX0_write_117 : decode cX0_write 117 = .ok (.sipush 251, 3) := by decide +kernel
theorem dX0_write_120 : decode cX0_write 120 = .ok (.irem, 1) := by decide +kernel
theorem dX0_write_121 : decode cX0_write 121 = .ok (.istore_n 3, 1) := by decide +kernel
theorem dX0_write_122 : decode cX0_write 122 = .ok (.iinc 4 1, 3) := by decide +kernel
theorem dX0_write_125 : decode cX0_write 125 = .ok (.goto (-30), 3) := by decide +kernel
theorem dX0_write_128 : decode cX0_write 128 = .ok (.aload_n 0, 1) := by decide +kernel
theorem dX0_write_129 : decode cX0_write 129 = .ok (.getfield 11, 3) := by decide +kernel
theorem dX0_write_132 : decode cX0_write 132 = .ok (.aload_n 0, 1) := by decide +kernel
theorem dX0_write_133 : decode cX0_write 133 = .ok (.getfield 15, 3) := by decide +kernel
theorem dX0_write_136 : decode cX0_write 136 = .ok (.iconst 1, 1) := by decide +kernel
theorem dX0_write_137 : decode cX0_write 137 = .ok (.isub, 1) := by decide +kernel
theorem dX0_write_138 : decode cX0_write 138 = .ok (.iload_n 3, 1) := by decide +kernel
theorem dX0_write_139 : decode cX0_write 139 = .ok (.iastore, 1) := by decide +kernel
theorem dX0_write_140 : decode cX0_write 140 = .ok (.return_, 1) := by decide +kernel
theorem dX0_isOne_0 : decode cX0_isOne 0 = .ok (.aload_n 0, 1) := by decide +kernel
theorem dX0_isOne_1 : decode cX0_isOne 1 = .ok (.getfield 40, 3) := by decide +kernel
theorem dX0_isOne_4 : decode cX0_isOne 4 = .ok (.iconst 3, 1) := by decide +kernel
theorem dX0_isOne_5 : decode cX0_isOne 5 = .ok (.iconst 2, 1) := by decide +kernel
theorem dX0_isOne_6 : decode cX0_isOne 6 = .ok (.iload_n 1, 1) := by decide +kernel
theorem dX0_isOne_7 : decode cX0_isOne 7 = .ok (.imul, 1) := by decide +kernel
theorem dX0_isOne_8 : decode cX0_isOne 8 = .ok (.iadd, 1) := by decide +kernel
theorem dX0_isOne_9 : decode cX0_isOne 9 = .ok (.if_icmp .eq 5, 3) := by decide +kernel
theorem dX0_isOne_12 : decode cX0_isOne 12 = .ok (.iconst 0, 1) := by decide +kernel
theorem dX0_isOne_13 : decode cX0_isOne 13 = .ok (.ireturn, 1) := by decide +kernel
theorem dX0_isOne_14 : decode cX0_isOne 14 = .ok (.sipush 163, 3) := by decide +kernel
theorem dX0_isOne_17 : decode cX0_isOne 17 = .ok (.istore_n 2, 1) := by decide +kernel
theorem dX0_isOne_18 : decode cX0_isOne 18 = .ok (.iconst 0, 1) := by decide +kernel
theorem dX0_isOne_19 : decode cX0_isOne 19 = .ok (.istore_n 3, 1) := by decide +kernel
theorem dX0_isOne_20 : decode cX0_isOne 20 = .ok (.iload_n 3, 1) := by decide +kernel
theorem dX0_isOne_21 : decode cX0_isOne 21 = .ok (.aload_n 0, 1) := by decide +kernel
theorem dX0_isOne_22 : decode cX0_isOne 22 = .ok (.getfield 40, 3) := by decide +kernel
theorem dX0_isOne_25 : decode cX0_isOne 25 = .ok (.iconst 1, 1) := by decide +kernel
theorem dX0_isOne_26 : decode cX0_isOne 26 = .ok (.isub, 1) := by decide +kernel
theorem dX0_isOne_27 : decode cX0_isOne 27 = .ok (.if_icmp .ge 23, 3) := by decide +kernel
theorem dX0_isOne_30 : decode cX0_isOne 30 = .ok (.iconst 3, 1) := by decide +kernel
theorem dX0_isOne_31 : decode cX0_isOne 31 = .ok (.iload_n 2, 1) := by decide +kernel
theorem dX0_isOne_32 : decode cX0_isOne 32 = .ok (.imul, 1) := by decide +kernel
theorem dX0_isOne_33 : decode cX0_isOne 33 = .ok (.aload_n 0, 1) := by decide +kernel
theorem dX0_isOne_34 : decode cX0_isOne 34 = .ok (.iload_n 3, 1) := by decide +kernel
theorem dX0_isOne_35 : decode cX0_isOne 35 = .ok (.invokevirtual 43, 3) := by decide +kernel
theorem dX0_isOne_38 : decode cX0_isOne 38 = .ok (.iadd, 1) := by decide +kernel
theorem dX0_isOne_39 : decode cX0_isOne 39 = .ok (.sipush 251, 3) := by decide +kernel
theorem dX0_isOne_42 : decode cX0_isOne 42 = .ok (.irem, 1) := by decide +kernel
theorem dX0_isOne_43 : decode cX0_isOne 43 = .ok (.istore_n 2, 1) := by decide +kernel
theorem dX0_isOne_44 : decode cX0_isOne 44 = .ok (.iinc 3 1, 3) := by decide +kernel
theorem dX0_isOne_47 : decode cX0_isOne 47 = .ok (.goto (-27), 3) := by decide +kernel
theorem dX0_isOne_50 : decode cX0_isOne 50 = .ok (.iload_n 2, 1) := by decide +kernel
theorem dX0_isOne_51 : decode cX0_isOne 51 = .ok (.aload_n 0, 1) := by decide +kernel
theorem dX0_isOne_52 : decode cX0_isOne 52 = .ok (.aload_n 0, 1) := by decide +kernel
theorem dX0_isOne_53 : decode cX0_isOne 53 = .ok (.getfield 40, 3) := by decide +kernel
theorem dX0_isOne_56 : decode cX0_isOne 56 = .ok (.iconst 1, 1) := by decide +kernel
theorem dX0_isOne_57 : decode cX0_isOne 57 = .ok (.isub, 1) := by decide +kernel
theorem dX0_isOne_58 : decode cX0_isOne 58 = .ok (.invokevirtual 43, 3) := by decide +kernel
theorem dX0_isOne_61 : decode cX0_isOne 61 = .ok (.if_icmp .ne 15, 3) := by decide +kernel
theorem dX0_isOne_64 : decode cX0_isOne 64 = .ok (.aload_n 0, 1) := by decide +kernel
theorem dX0_isOne_65 : decode cX0_isOne 65 = .ok (.iload_n 1, 1) := by decide +kernel
theorem dX0_isOne_66 : decode cX0_isOne 66 = .ok (.invokestatic 47, 3) := by decide +kernel
theorem dX0_isOne_69 : decode cX0_isOne 69 = .ok (.ifCond .eq 7, 3) := by decide +kernel
theorem dX0_isOne_72 : decode cX0_isOne 72 = .ok (.iconst 1, 1) := by decide +kernel
theorem dX0_isOne_73 : decode cX0_isOne 73 = .ok (.goto 4, 3) := by decide +kernel
theorem dX0_isOne_76 : decode cX0_isOne 76 = .ok (.iconst 0, 1) := by decide +kernel
theorem dX0_isOne_77 : decode cX0_isOne 77 = .ok (.ireturn, 1) := by decide +kernel
theorem dX0_areSettings_0 : decode cX0_areSettings 0 = .ok (.aload_n 0, 1) := by decide +kernel
theorem dX0_areSettings_1 : decode cX0_areSettings 1 = .ok (.iconst 0, 1) := by decide +kernel
theorem dX0_areSettings_2 : decode cX0_areSettings 2 = .ok (.invokevirtual 43, 3) := by decide +kernel
theorem dX0_areSettings_5 : decode cX0_areSettings 5 = .ok (.iconst 0, 1) := by decide +kernel
theorem dX0_areSettings_6 : decode cX0_areSettings 6 = .ok (.bipush 20, 2) := by decide +kernel
theorem dX0_areSettings_8 : decode cX0_areSettings 8 = .ok (.invokestatic 51, 3) := by decide +kernel
theorem dX0_areSettings_11 : decode cX0_areSettings 11 = .ok (.ifCond .eq 18, 3) := by decide +kernel
theorem dX0_areSettings_14 : decode cX0_areSettings 14 = .ok (.aload_n 0, 1) := by decide +kernel
theorem dX0_areSettings_15 : decode cX0_areSettings 15 = .ok (.iconst 1, 1) := by decide +kernel
theorem dX0_areSettings_16 : decode cX0_areSettings 16 = .ok (.invokevirtual 43, 3) := by decide +kernel
theorem dX0_areSettings_19 : decode cX0_areSettings 19 = .ok (.iconst 1, 1) := by decide +kernel
theorem dX0_areSettings_20 : decode cX0_areSettings 20 = .ok (.sipush 200, 3) := by decide +kernel
theorem dX0_areSettings_23 : decode cX0_areSettings 23 = .ok (.invokestatic 51, 3) := by decide +kernel
theorem dX0_areSettings_26 : decode cX0_areSettings 26 = .ok (.ifCond .ne 5, 3) := by decide +kernel
theorem dX0_areSettings_29 : decode cX0_areSettings 29 = .ok (.iconst 0, 1) := by decide +kernel
theorem dX0_areSettings_30 : decode cX0_areSettings 30 = .ok (.ireturn, 1) := by decide +kernel
theorem dX0_areSettings_31 : decode cX0_areSettings 31 = .ok (.iconst 0, 1) := by decide +kernel
theorem dX0_areSettings_32 : decode cX0_areSettings 32 = .ok (.istore_n 2, 1) := by decide +kernel
theorem dX0_areSettings_33 : decode cX0_areSettings 33 = .ok (.iload_n 2, 1) := by decide +kernel
theorem dX0_areSettings_34 : decode cX0_areSettings 34 = .ok (.iload_n 1, 1) := by decide +kernel
theorem dX0_areSettings_35 : decode cX0_areSettings 35 = .ok (.if_icmp .ge 46, 3) := by decide +kernel
theorem dX0_areSettings_38 : decode cX0_areSettings 38 = .ok (.aload_n 0, 1) := by decide +kernel
theorem dX0_areSettings_39 : decode cX0_areSettings 39 = .ok (.iconst 2, 1) := by decide +kernel
theorem dX0_areSettings_40 : decode cX0_areSettings 40 = .ok (.iconst 2, 1) := by decide +kernel
theorem dX0_areSettings_41 : decode cX0_areSettings 41 = .ok (.iload_n 2, 1) := by decide +kernel
theorem dX0_areSettings_42 : decode cX0_areSettings 42 = .ok (.imul, 1) := by decide +kernel
theorem dX0_areSettings_43 : decode cX0_areSettings 43 = .ok (.iadd, 1) := by decide +kernel
theorem dX0_areSettings_44 : decode cX0_areSettings 44 = .ok (.invokevirtual 43, 3) := by decide +kernel
theorem dX0_areSettings_47 : decode cX0_areSettings 47 = .ok (.iconst 1, 1) := by decide +kernel
theorem dX0_areSettings_48 : decode cX0_areSettings 48 = .ok (.bipush 100, 2) := by decide +kernel
theorem dX0_areSettings_50 : decode cX0_areSettings 50 = .ok (.invokestatic 51, 3) := by decide +kernel
theorem dX0_areSettings_53 : decode cX0_areSettings 53 = .ok (.ifCond .eq 20, 3) := by decide +kernel
theorem dX0_areSettings_56 : decode cX0_areSettings 56 = .ok (.aload_n 0, 1) := by decide +kernel
theorem dX0_areSettings_57 : decode cX0_areSettings 57 = .ok (.iconst 3, 1) := by decide +kernel
theorem dX0_areSettings_58 : decode cX0_areSettings 58 = .ok (.iconst 2, 1) := by decide +kernel
theorem dX0_areSettings_59 : decode cX0_areSettings 59 = .ok (.iload_n 2, 1) := by decide +kernel
theorem dX0_areSettings_60 : decode cX0_areSettings 60 = .ok (.imul, 1) := by decide +kernel
theorem dX0_areSettings_61 : decode cX0_areSettings 61 = .ok (.iadd, 1) := by decide +kernel
theorem dX0_areSettings_62 : decode cX0_areSettings 62 = .ok (.invokevirtual 43, 3) := by decide +kernel
theorem dX0_areSettings_65 : decode cX0_areSettings 65 = .ok (.iconst 0, 1) := by decide +kernel
theorem dX0_areSettings_66 : decode cX0_areSettings 66 = .ok (.iconst 1, 1) := by decide +kernel
theorem dX0_areSettings_67 : decode cX0_areSettings 67 = .ok (.invokestatic 51, 3) := by decide +kernel
theorem dX0_areSettings_70 : decode cX0_areSettings 70 = .ok (.ifCond .ne 5, 3) := by decide +kernel
theorem dX0_areSettings_73 : decode cX0_areSettings 73 = .ok (.iconst 0, 1) := by decide +kernel
theorem dX0_areSettings_74 : decode cX0_areSettings 74 = .ok (.ireturn, 1) := by decide +kernel
theorem dX0_areSettings_75 : decode cX0_areSettings 75 = .ok (.iinc 2 1, 3) := by decide +kernel
theorem dX0_areSettings_78 : decode cX0_areSettings 78 = .ok (.goto (-45), 3) := by decide +kernel
theorem dX0_areSettings_81 : decode cX0_areSettings 81 = .ok (.iconst 1, 1) := by decide +kernel
theorem dX0_areSettings_82 : decode cX0_areSettings 82 = .ok (.ireturn, 1) := by decide +kernel
theorem dX0_apply_0 : decode cX0_apply 0 = .ok (.aload_n 1, 1) := by decide +kernel
theorem dX0_apply_1 : decode cX0_apply 1 = .ok (.aload_n 0, 1) := by decide +kernel
theorem dX0_apply_2 : decode cX0_apply 2 = .ok (.iconst 0, 1) := by decide +kernel
theorem dX0_apply_3 : decode cX0_apply 3 = .ok (.invokevirtual 43, 3) := by decide +kernel
theorem dX0_apply_6 : decode cX0_apply 6 = .ok (.putfield 19, 3) := by decide +kernel
theorem dX0_apply_9 : decode cX0_apply 9 = .ok (.aload_n 1, 1) := by decide +kernel
theorem dX0_apply_10 : decode cX0_apply 10 = .ok (.aload_n 0, 1) := by decide +kernel
theorem dX0_apply_11 : decode cX0_apply 11 = .ok (.iconst 1, 1) := by decide +kernel
theorem dX0_apply_12 : decode cX0_apply 12 = .ok (.invokevirtual 43, 3) := by decide +kernel
theorem dX0_apply_15 : decode cX0_apply 15 = .ok (.putfield 24, 3) := by decide +kernel
theorem dX0_apply_18 : decode cX0_apply 18 = .ok (.iconst 0, 1) := by decide +kernel
theorem dX0_apply_19 : decode cX0_apply 19 = .ok (.istore_n 3, 1) := by decide +kernel
theorem dX0_apply_20 : decode cX0_apply 20 = .ok (.iload_n 3, 1) := by decide +kernel
theorem dX0_apply_21 : decode cX0_apply 21 = .ok (.iload_n 2, 1) := by decide +kernel
theorem dX0_apply_22 : decode cX0_apply 22 = .ok (.if_icmp .ge 54, 3) := by decide +kernel
theorem dX0_apply_25 : decode cX0_apply 25 = .ok (.aload_n 1, 1) := by decide +kernel
theorem dX0_apply_26 : decode cX0_apply 26 = .ok (.getfield 27, 3) := by decide +kernel
theorem dX0_apply_29 : decode cX0_apply 29 = .ok (.iload_n 3, 1) := by decide +kernel
theorem dX0_apply_30 : decode cX0_apply 30 = .ok (.aaload, 1) := by decide +kernel
theorem dX0_apply_31 : decode cX0_apply 31 = .ok (.aload_n 0, 1) := by decide +kernel
theorem dX0_apply_32 : decode cX0_apply 32 = .ok (.iconst 2, 1) := by decide +kernel
theorem dX0_apply_33 : decode cX0_apply 33 = .ok (.iconst 2, 1) := by decide +kernel
theorem dX0_apply_34 : decode cX0_apply 34 = .ok (.iload_n 3, 1) := by decide +kernel
theorem dX0_apply_35 : decode cX0_apply 35 = .ok (.imul, 1) := by decide +kernel
theorem dX0_apply_36 : decode cX0_apply 36 = .ok (.iadd, 1) := by decide +kernel
theorem dX0_apply_37 : decode cX0_apply 37 = .ok (.invokevirtual 43, 3) := by decide +kernel
theorem dX0_apply_40 : decode cX0_apply 40 = .ok (.putfield 31, 3) := by decide +kernel
theorem dX0_apply_43 : decode cX0_apply 43 = .ok (.aload_n 1, 1) := by decide +kernel
theorem dX0_apply_44 : decode cX0_apply 44 = .ok (.getfield 27, 3) := by decide +kernel
theorem dX0_apply_47 : decode cX0_apply 47 = .ok (.iload_n 3, 1) := by decide +kernel
theorem dX0_apply_48 : decode cX0_apply 48 = .ok (.aaload, 1) := by decide +kernel
theorem dX0_apply_49 : decode cX0_apply 49 = .ok (.aload_n 0, 1) := by decide +kernel
theorem dX0_apply_50 : decode cX0_apply 50 = .ok (.iconst 3, 1) := by decide +kernel
theorem dX0_apply_51 : decode cX0_apply 51 = .ok (.iconst 2, 1) := by decide +kernel
theorem dX0_apply_52 : decode cX0_apply 52 = .ok (.iload_n 3, 1) := by decide +kernel
theorem dX0_apply_53 : decode cX0_apply 53 = .ok (.imul, 1) := by decide +kernel
theorem dX0_apply_54 : decode cX0_apply 54 = .ok (.iadd, 1) := by decide +kernel
theorem dX0_apply_55 : decode cX0_apply 55 = .ok (.invokevirtual 43, 3) := by decide +kernel
theorem dX0_apply_58 : decode cX0_apply 58 = .ok (.iconst 1, 1) := by decide +kernel
theorem dX0_apply_59 : decode cX0_apply 59 = .ok (.if_icmp .ne 7, 3) := by decide +kernel
theorem dX0_apply_62 : decode cX0_apply 62 = .ok (.iconst 1, 1) := by decide +kernel
theorem dX0_apply_63 : decode cX0_apply 63 = .ok (.goto 4, 3) := by decide +kernel
theorem dX0_apply_66 : decode cX0_apply 66 = .ok (.iconst 0, 1) := by decide +kernel
theorem dX0_apply_67 : decode cX0_apply 67 = .ok (.putfield 36, 3) := by decide +kernel
theorem dX0_apply_70 : decode cX0_apply 70 = .ok (.iinc 3 1, 3) := by decide +kernel
theorem dX0_apply_73 : decode cX0_apply 73 = .ok (.goto (-53), 3) := by decide +kernel
theorem dX0_apply_76 : decode cX0_apply 76 = .ok (.return_, 1) := by decide +kernel
theorem dX1_init_0 : decode cX1_init 0 = .ok (.aload_n 0, 1) := by decide +kernel
theorem dX1_init_1 : decode cX1_init 1 = .ok (.invokespecial 3, 3) := by decide +kernel
theorem dX1_init_4 : decode cX1_init 4 = .ok (.aload_n 0, 1) := by decide +kernel
theorem dX1_init_5 : decode cX1_init 5 = .ok (.sipush 160, 3) := by decide +kernel
theorem dX1_init_8 : decode cX1_init 8 = .ok (.newarray .int, 2) := by decide +kernel
theorem dX1_init_10 : decode cX1_init 10 = .ok (.putfield 11, 3) := by decide +kernel
theorem dX1_init_13 : decode cX1_init 13 = .ok (.aload_n 0, 1) := by decide +kernel
theorem dX1_init_14 : decode cX1_init 14 = .ok (.iconst 0, 1) := by decide +kernel
theorem dX1_init_15 : decode cX1_init 15 = .ok (.putfield 15, 3) := by decide +kernel
theorem dX1_init_18 : decode cX1_init 18 = .ok (.return_, 1) := by decide +kernel
theorem dX1_copy_0 : decode cX1_copy 0 = .ok (.aload_n 0, 1) := by decide +kernel
theorem dX1_copy_1 : decode cX1_copy 1 = .ok (.aload_n 1, 1) := by decide +kernel
theorem dX1_copy_2 : decode cX1_copy 2 = .ok (.getfield 15, 3) := by decide +kernel
theorem dX1_copy_5 : decode cX1_copy 5 = .ok (.putfield 15, 3) := by decide +kernel
theorem dX1_copy_8 : decode cX1_copy 8 = .ok (.aload_n 1, 1) := by decide +kernel
theorem dX1_copy_9 : decode cX1_copy 9 = .ok (.getfield 11, 3) := by decide +kernel
theorem dX1_copy_12 : decode cX1_copy 12 = .ok (.iconst 0, 1) := by decide +kernel
theorem dX1_copy_13 : decode cX1_copy 13 = .ok (.aload_n 0, 1) := by decide +kernel
theorem dX1_copy_14 : decode cX1_copy 14 = .ok (.getfield 11, 3) := by decide +kernel
theorem dX1_copy_17 : decode cX1_copy 17 = .ok (.iconst 0, 1) := by decide +kernel
theorem dX1_copy_18 : decode cX1_copy 18 = .ok (.aload_n 0, 1) := by decide +kernel
theorem dX1_copy_19 : decode cX1_copy 19 = .ok (.getfield 11, 3) := by decide +kernel
theorem dX1_copy_22 : decode cX1_copy 22 = .ok (.arraylength, 1) := by decide +kernel
theorem dX1_copy_23 : decode cX1_copy 23 = .ok (.invokestatic 19, 3) := by decide +kernel
theorem dX1_copy_26 : decode cX1_copy 26 = .ok (.return_, 1) := by decide +kernel
theorem dX1_told_0 : decode cX1_told 0 = .ok (.aload_n 0, 1) := by decide +kernel
theorem dX1_told_1 : decode cX1_told 1 = .ok (.getfield 15, 3) := by decide +kernel
theorem dX1_told_4 : decode cX1_told 4 = .ok (.bipush 40, 2) := by decide +kernel
theorem dX1_told_6 : decode cX1_told 6 = .ok (.invokestatic 25, 3) := by decide +kernel
theorem dX1_told_9 : decode cX1_told 9 = .ok (.ireturn, 1) := by decide +kernel
theorem dX1_add_0 : decode cX1_add 0 = .ok (.aload_n 0, 1) := by decide +kernel
theorem dX1_add_1 : decode cX1_add 1 = .ok (.getfield 15, 3) := by decide +kernel
theorem dX1_add_4 : decode cX1_add 4 = .ok (.bipush 40, 2) := by decide +kernel
theorem dX1_add_6 : decode cX1_add 6 = .ok (.irem, 1) := by decide +kernel
theorem dX1_add_7 : decode cX1_add 7 = .ok (.iconst 4, 1) := by decide +kernel
theorem dX1_add_8 : decode cX1_add 8 = .ok (.imul, 1) := by decide +kernel
theorem dX1_add_9 : decode cX1_add 9 = .ok (.istore 5, 2) := by decide +kernel
theorem dX1_add_11 : decode cX1_add 11 = .ok (.aload_n 0, 1) := by decide +kernel
theorem dX1_add_12 : decode cX1_add 12 = .ok (.getfield 11, 3) := by decide +kernel
theorem dX1_add_15 : decode cX1_add 15 = .ok (.iload 5, 2) := by decide +kernel
theorem dX1_add_17 : decode cX1_add 17 = .ok (.iload_n 1, 1) := by decide +kernel
theorem dX1_add_18 : decode cX1_add 18 = .ok (.iastore, 1) := by decide +kernel
theorem dX1_add_19 : decode cX1_add 19 = .ok (.aload_n 0, 1) := by decide +kernel
theorem dX1_add_20 : decode cX1_add 20 = .ok (.getfield 11, 3) := by decide +kernel
theorem dX1_add_23 : decode cX1_add 23 = .ok (.iload 5, 2) := by decide +kernel
theorem dX1_add_25 : decode cX1_add 25 = .ok (.iconst 1, 1) := by decide +kernel
theorem dX1_add_26 : decode cX1_add 26 = .ok (.iadd, 1) := by decide +kernel
theorem dX1_add_27 : decode cX1_add 27 = .ok (.iload_n 2, 1) := by decide +kernel
theorem dX1_add_28 : decode cX1_add 28 = .ok (.iastore, 1) := by decide +kernel
theorem dX1_add_29 : decode cX1_add 29 = .ok (.aload_n 0, 1) := by decide +kernel
theorem dX1_add_30 : decode cX1_add 30 = .ok (.getfield 11, 3) := by decide +kernel
theorem dX1_add_33 : decode cX1_add 33 = .ok (.iload 5, 2) := by decide +kernel
theorem dX1_add_35 : decode cX1_add 35 = .ok (.iconst 2, 1) := by decide +kernel
theorem dX1_add_36 : decode cX1_add 36 = .ok (.iadd, 1) := by decide +kernel
theorem dX1_add_37 : decode cX1_add 37 = .ok (.iload_n 3, 1) := by decide +kernel
theorem dX1_add_38 : decode cX1_add 38 = .ok (.iastore, 1) := by decide +kernel
theorem dX1_add_39 : decode cX1_add 39 = .ok (.aload_n 0, 1) := by decide +kernel
theorem dX1_add_40 : decode cX1_add 40 = .ok (.getfield 11, 3) := by decide +kernel
theorem dX1_add_43 : decode cX1_add 43 = .ok (.iload 5, 2) := by decide +kernel
theorem dX1_add_45 : decode cX1_add 45 = .ok (.iconst 3, 1) := by decide +kernel
theorem dX1_add_46 : decode cX1_add 46 = .ok (.iadd, 1) := by decide +kernel
theorem dX1_add_47 : decode cX1_add 47 = .ok (.iload 4, 2) := by decide +kernel
theorem dX1_add_49 : decode cX1_add 49 = .ok (.iastore, 1) := by decide +kernel
theorem dX1_add_50 : decode cX1_add 50 = .ok (.aload_n 0, 1) := by decide +kernel
theorem dX1_add_51 : decode cX1_add 51 = .ok (.dup, 1) := by decide +kernel
theorem dX1_add_52 : decode cX1_add 52 = .ok (.getfield 15, 3) := by decide +kernel
theorem dX1_add_55 : decode cX1_add 55 = .ok (.iconst 1, 1) := by decide +kernel
theorem dX1_add_56 : decode cX1_add 56 = .ok (.iadd, 1) := by decide +kernel
theorem dX1_add_57 : decode cX1_add 57 = .ok (.putfield 15, 3) := by decide +kernel
theorem dX1_add_60 : decode cX1_add 60 = .ok (.return_, 1) := by decide +kernel
theorem dX1_tell_0 : decode cX1_tell 0 = .ok (.iload_n 2, 1) := by decide +kernel
theorem dX1_tell_1 : decode cX1_tell 1 = .ok (.ifCond .lt 8, 3) := by decide +kernel
theorem dX1_tell_4 : decode cX1_tell 4 = .ok (.iload_n 2, 1) := by decide +kernel
theorem dX1_tell_5 : decode cX1_tell 5 = .ok (.iconst 4, 1) := by decide +kernel
theorem dX1_tell_6 : decode cX1_tell 6 = .ok (.if_icmp .lt 5, 3) := by decide +kernel
theorem dX1_tell_9 : decode cX1_tell 9 = .ok (.iconst (-1), 1) := by decide +kernel
theorem dX1_tell_10 : decode cX1_tell 10 = .ok (.ireturn, 1) := by decide +kernel
theorem dX1_tell_11 : decode cX1_tell 11 = .ok (.aload_n 0, 1) := by decide +kernel
theorem dX1_tell_12 : decode cX1_tell 12 = .ok (.getfield 15, 3) := by decide +kernel
theorem dX1_tell_15 : decode cX1_tell 15 = .ok (.aload_n 0, 1) := by decide +kernel
theorem dX1_tell_16 : decode cX1_tell 16 = .ok (.invokevirtual 31, 3) := by decide +kernel
theorem dX1_tell_19 : decode cX1_tell 19 = .ok (.isub, 1) := by decide +kernel
theorem dX1_tell_20 : decode cX1_tell 20 = .ok (.iload_n 1, 1) := by decide +kernel
theorem dX1_tell_21 : decode cX1_tell 21 = .ok (.iadd, 1) := by decide +kernel
theorem dX1_tell_22 : decode cX1_tell 22 = .ok (.istore_n 3, 1) := by decide +kernel
theorem dX1_tell_23 : decode cX1_tell 23 = .ok (.iload_n 3, 1) := by decide +kernel
theorem dX1_tell_24 : decode cX1_tell 24 = .ok (.ifCond .ge 7, 3) := by decide +kernel
theorem dX1_tell_27 : decode cX1_tell 27 = .ok (.iconst (-1), 1) := by decide +kernel
theorem dX1_tell_28 : decode cX1_tell 28 = .ok (.goto 16, 3) := by decide +kernel
theorem dX1_tell_31 : decode cX1_tell 31 = .ok (.aload_n 0, 1) := by decide +kernel
theorem dX1_tell_32 : decode cX1_tell 32 = .ok (.getfield 11, 3) := by decide +kernel
theorem dX1_tell_35 : decode cX1_tell 35 = .ok (.iload_n 3, 1) := by decide +kernel
theorem dX1_tell_36 : decode cX1_tell 36 = .ok (.bipush 40, 2) := by decide +kernel
theorem dX1_tell_38 : decode cX1_tell 38 = .ok (.irem, 1) := by decide +kernel
theorem dX1_tell_39 : decode cX1_tell 39 = .ok (.iconst 4, 1) := by decide +kernel
theorem dX1_tell_40 : decode cX1_tell 40 = .ok (.imul, 1) := by decide +kernel
theorem dX1_tell_41 : decode cX1_tell 41 = .ok (.iload_n 2, 1) := by decide +kernel
theorem dX1_tell_42 : decode cX1_tell 42 = .ok (.iadd, 1) := by decide +kernel
theorem dX1_tell_43 : decode cX1_tell 43 = .ok (.iaload, 1) := by decide +kernel
theorem dX1_tell_44 : decode cX1_tell 44 = .ok (.ireturn, 1) := by decide +kernel
theorem dX2_init_0 : decode cX2_init 0 = .ok (.aload_n 0, 1) := by decide +kernel
theorem dX2_init_1 : decode cX2_init 1 = .ok (.invokespecial 3, 3) := by decide +kernel
theorem dX2_init_4 : decode cX2_init 4 = .ok (.aload_n 0, 1) := by decide +kernel
theorem dX2_init_5 : decode cX2_init 5 = .ok (.bipush 36, 2) := by decide +kernel
theorem dX2_init_7 : decode cX2_init 7 = .ok (.newarray .int, 2) := by decide +kernel
theorem dX2_init_9 : decode cX2_init 9 = .ok (.putfield 9, 3) := by decide +kernel
theorem dX2_init_12 : decode cX2_init 12 = .ok (.aload_n 0, 1) := by decide +kernel
theorem dX2_init_13 : decode cX2_init 13 = .ok (.bipush 6, 2) := by decide +kernel
theorem dX2_init_15 : decode cX2_init 15 = .ok (.newarray .boolean, 2) := by decide +kernel
theorem dX2_init_17 : decode cX2_init 17 = .ok (.putfield 15, 3) := by decide +kernel
theorem dX2_init_20 : decode cX2_init 20 = .ok (.aload_n 0, 1) := by decide +kernel
theorem dX2_init_21 : decode cX2_init 21 = .ok (.bipush 6, 2) := by decide +kernel
theorem dX2_init_23 : decode cX2_init 23 = .ok (.newarray .int, 2) := by decide +kernel
theorem dX2_init_25 : decode cX2_init 25 = .ok (.putfield 19, 3) := by decide +kernel
theorem dX2_init_28 : decode cX2_init 28 = .ok (.aload_n 0, 1) := by decide +kernel
theorem dX2_init_29 : decode cX2_init 29 = .ok (.bipush 6, 2) := by decide +kernel
theorem dX2_init_31 : decode cX2_init 31 = .ok (.newarray .int, 2) := by decide +kernel
theorem dX2_init_33 : decode cX2_init 33 = .ok (.putfield 22, 3) := by decide +kernel
theorem dX2_init_36 : decode cX2_init 36 = .ok (.aload_n 0, 1) := by decide +kernel
theorem dX2_init_37 : decode cX2_init 37 = .ok (.bipush 6, 2) := by decide +kernel
theorem dX2_init_39 : decode cX2_init 39 = .ok (.newarray .int, 2) := by decide +kernel
theorem dX2_init_41 : decode cX2_init 41 = .ok (.putfield 25, 3) := by decide +kernel
theorem dX2_init_44 : decode cX2_init 44 = .ok (.aload_n 0, 1) := by decide +kernel
theorem dX2_init_45 : decode cX2_init 45 = .ok (.bipush 36, 2) := by decide +kernel
theorem dX2_init_47 : decode cX2_init 47 = .ok (.newarray .int, 2) := by decide +kernel
theorem dX2_init_49 : decode cX2_init 49 = .ok (.putfield 28, 3) := by decide +kernel
theorem dX2_init_52 : decode cX2_init 52 = .ok (.aload_n 0, 1) := by decide +kernel
theorem dX2_init_53 : decode cX2_init 53 = .ok (.bipush 36, 2) := by decide +kernel
theorem dX2_init_55 : decode cX2_init 55 = .ok (.newarray .int, 2) := by decide +kernel
theorem dX2_init_57 : decode cX2_init 57 = .ok (.putfield 31, 3) := by decide +kernel
theorem dX2_init_60 : decode cX2_init 60 = .ok (.aload_n 0, 1) := by decide +kernel
theorem dX2_init_61 : decode cX2_init 61 = .ok (.bipush 36, 2) := by decide +kernel
theorem dX2_init_63 : decode cX2_init 63 = .ok (.newarray .int, 2) := by decide +kernel
theorem dX2_init_65 : decode cX2_init 65 = .ok (.putfield 34, 3) := by decide +kernel
theorem dX2_init_68 : decode cX2_init 68 = .ok (.return_, 1) := by decide +kernel
theorem dX2_clear_0 : decode cX2_clear 0 = .ok (.aload_n 0, 1) := by decide +kernel
theorem dX2_clear_1 : decode cX2_clear 1 = .ok (.iconst 0, 1) := by decide +kernel
theorem dX2_clear_2 : decode cX2_clear 2 = .ok (.putfield 37, 3) := by decide +kernel
theorem dX2_clear_5 : decode cX2_clear 5 = .ok (.aload_n 0, 1) := by decide +kernel
theorem dX2_clear_6 : decode cX2_clear 6 = .ok (.bipush 8, 2) := by decide +kernel
theorem dX2_clear_8 : decode cX2_clear 8 = .ok (.putfield 41, 3) := by decide +kernel
theorem dX2_clear_11 : decode cX2_clear 11 = .ok (.aload_n 0, 1) := by decide +kernel
theorem dX2_clear_12 : decode cX2_clear 12 = .ok (.bipush 64, 2) := by decide +kernel
theorem dX2_clear_14 : decode cX2_clear 14 = .ok (.putfield 44, 3) := by decide +kernel
theorem dX2_clear_17 : decode cX2_clear 17 = .ok (.aload_n 0, 1) := by decide +kernel
theorem dX2_clear_18 : decode cX2_clear 18 = .ok (.iconst 4, 1) := by decide +kernel
theorem dX2_clear_19 : decode cX2_clear 19 = .ok (.putfield 47, 3) := by decide +kernel
theorem dX2_clear_22 : decode cX2_clear 22 = .ok (.aload_n 0, 1) := by decide +kernel
theorem dX2_clear_23 : decode cX2_clear 23 = .ok (.bipush 40, 2) := by decide +kernel
theorem dX2_clear_25 : decode cX2_clear 25 = .ok (.putfield 50, 3) := by decide +kernel
theorem dX2_clear_28 : decode cX2_clear 28 = .ok (.aload_n 0, 1) := by decide +kernel
theorem dX2_clear_29 : decode cX2_clear 29 = .ok (.bipush 16, 2) := by decide +kernel
theorem dX2_clear_31 : decode cX2_clear 31 = .ok (.putfield 53, 3) := by decide +kernel
theorem dX2_clear_34 : decode cX2_clear 34 = .ok (.aload_n 0, 1) := by decide +kernel
theorem dX2_clear_35 : decode cX2_clear 35 = .ok (.iconst 1, 1) := by decide +kernel
theorem dX2_clear_36 : decode cX2_clear 36 = .ok (.putfield 56, 3) := by decide +kernel
theorem dX2_clear_39 : decode cX2_clear 39 = .ok (.aload_n 0, 1) := by decide +kernel
theorem dX2_clear_40 : decode cX2_clear 40 = .ok (.iconst 0, 1) := by decide +kernel
theorem dX2_clear_41 : decode cX2_clear 41 = .ok (.putfield 59, 3) := by decide +kernel
theorem dX2_clear_44 : decode cX2_clear 44 = .ok (.aload_n 0, 1) := by decide +kernel
theorem dX2_clear_45 : decode cX2_clear 45 = .ok (.sipush 999, 3) := by decide +kernel
theorem dX2_clear_48 : decode cX2_clear 48 = .ok (.putfield 62, 3) := by decide +kernel
theorem dX2_clear_51 : decode cX2_clear 51 = .ok (.aload_n 0, 1) := by decide +kernel
theorem dX2_clear_52 : decode cX2_clear 52 = .ok (.iconst 0, 1) := by decide +kernel
theorem dX2_clear_53 : decode cX2_clear 53 = .ok (.putfield 65, 3) := by decide +kernel
theorem dX2_clear_56 : decode cX2_clear 56 = .ok (.iconst 0, 1) := by decide +kernel
theorem dX2_clear_57 : decode cX2_clear 57 = .ok (.istore_n 1, 1) := by decide +kernel
theorem dX2_clear_58 : decode cX2_clear 58 = .ok (.iload_n 1, 1) := by decide +kernel
theorem dX2_clear_59 : decode cX2_clear 59 = .ok (.aload_n 0, 1) := by decide +kernel
theorem dX2_clear_60 : decode cX2_clear 60 = .ok (.getfield 9, 3) := by decide +kernel
theorem dX2_clear_63 : decode cX2_clear 63 = .ok (.arraylength, 1) := by decide +kernel
theorem dX2_clear_64 : decode cX2_clear 64 = .ok (.if_icmp .ge 16, 3) := by decide +kernel
theorem dX2_clear_67 : decode cX2_clear 67 = .ok (.aload_n 0, 1) := by decide +kernel
theorem dX2_clear_68 : decode cX2_clear 68 = .ok (.getfield 9, 3) := by decide +kernel
theorem dX2_clear_71 : decode cX2_clear 71 = .ok (.iload_n 1, 1) := by decide +kernel
theorem dX2_clear_72 : decode cX2_clear 72 = .ok (.iconst 0, 1) := by decide +kernel
theorem dX2_clear_73 : decode cX2_clear 73 = .ok (.iastore, 1) := by decide +kernel
theorem dX2_clear_74 : decode cX2_clear 74 = .ok (.iinc 1 1, 3) := by decide +kernel
theorem dX2_clear_77 : decode cX2_clear 77 = .ok (.goto (-19), 3) := by decide +kernel
theorem dX2_clear_80 : decode cX2_clear 80 = .ok (.return_, 1) := by decide +kernel
theorem dX2_hasName_0 : decode cX2_hasName 0 = .ok (.iconst 0, 1) := by decide +kernel
theorem dX2_hasName_1 : decode cX2_hasName 1 = .ok (.istore_n 2, 1) := by decide +kernel
theorem dX2_hasName_2 : decode cX2_hasName 2 = .ok (.iload_n 2, 1) := by decide +kernel
theorem dX2_hasName_3 : decode cX2_hasName 3 = .ok (.iload_n 1, 1) := by decide +kernel
theorem dX2_hasName_4 : decode cX2_hasName 4 = .ok (.if_icmp .ge 20, 3) := by decide +kernel
theorem dX2_hasName_7 : decode cX2_hasName 7 = .ok (.aload_n 0, 1) := by decide +kernel
theorem dX2_hasName_8 : decode cX2_hasName 8 = .ok (.iload_n 2, 1) := by decide +kernel
theorem dX2_hasName_9 : decode cX2_hasName 9 = .ok (.iload_n 1, 1) := by decide +kernel
theorem dX2_hasName_10 : decode cX2_hasName 10 = .ok (.invokevirtual 68, 3) := by decide +kernel
theorem dX2_hasName_13 : decode cX2_hasName 13 = .ok (.ifCond .eq 5, 3) := by decide +kernel
theorem dX2_hasName_16 : decode cX2_hasName 16 = .ok (.iconst 1, 1) := by decide +kernel
theorem dX2_hasName_17 : decode cX2_hasName 17 = .ok (.ireturn, 1) := by decide +kernel
theorem dX2_hasName_18 : decode cX2_hasName 18 = .ok (.iinc 2 1, 3) := by decide +kernel
theorem dX2_hasName_21 : decode cX2_hasName 21 = .ok (.goto (-19), 3) := by decide +kernel
theorem dX2_hasName_24 : decode cX2_hasName 24 = .ok (.iconst 0, 1) := by decide +kernel
theorem dX2_hasName_25 : decode cX2_hasName 25 = .ok (.ireturn, 1) := by decide +kernel
theorem dX2_hasLikeNames_0 : decode cX2_hasLikeNames 0 = .ok (.iconst 0, 1) := by decide +kernel
theorem dX2_hasLikeNames_1 : decode cX2_hasLikeNames 1 = .ok (.istore_n 3, 1) := by decide +kernel
theorem dX2_hasLikeNames_2 : decode cX2_hasLikeNames 2 = .ok (.iload_n 3, 1) := by decide +kernel
theorem dX2_hasLikeNames_3 : decode cX2_hasLikeNames 3 = .ok (.bipush 6, 2) := by decide +kernel
theorem dX2_hasLikeNames_5 : decode cX2_hasLikeNames 5 = .ok (.if_icmp .ge 36, 3) := by decide +kernel
theorem dX2_hasLikeNames_8 : decode cX2_hasLikeNames 8 = .ok (.aload_n 0, 1) := by decide +kernel
theorem dX2_hasLikeNames_9 : decode cX2_hasLikeNames 9 = .ok (.getfield 9, 3) := by decide +kernel
theorem dX2_hasLikeNames_12 : decode cX2_hasLikeNames 12 = .ok (.iload_n 1, 1) := by decide +kernel
theorem dX2_hasLikeNames_13 : decode cX2_hasLikeNames 13 = .ok (.bipush 6, 2) := by decide +kernel
theorem dX2_hasLikeNames_15 : decode cX2_hasLikeNames 15 = .ok (.imul, 1) := by decide +kernel
theorem dX2_hasLikeNames_16 : decode cX2_hasLikeNames 16 = .ok (.iload_n 3, 1) := by decide +kernel
theorem dX2_hasLikeNames_17 : decode cX2_hasLikeNames 17 = .ok (.iadd, 1) := by decide +kernel
theorem dX2_hasLikeNames_18 : decode cX2_hasLikeNames 18 = .ok (.iaload, 1) := by decide +kernel
theorem dX2_hasLikeNames_19 : decode cX2_hasLikeNames 19 = .ok (.aload_n 0, 1) := by decide +kernel
theorem dX2_hasLikeNames_20 : decode cX2_hasLikeNames 20 = .ok (.getfield 9, 3) := by decide +kernel
theorem dX2_hasLikeNames_23 : decode cX2_hasLikeNames 23 = .ok (.iload_n 2, 1) := by decide +kernel
theorem dX2_hasLikeNames_24 : decode cX2_hasLikeNames 24 = .ok (.bipush 6, 2) := by decide +kernel
theorem dX2_hasLikeNames_26 : decode cX2_hasLikeNames 26 = .ok (.imul, 1) := by decide +kernel
theorem dX2_hasLikeNames_27 : decode cX2_hasLikeNames 27 = .ok (.iload_n 3, 1) := by decide +kernel
theorem dX2_hasLikeNames_28 : decode cX2_hasLikeNames 28 = .ok (.iadd, 1) := by decide +kernel
theorem dX2_hasLikeNames_29 : decode cX2_hasLikeNames 29 = .ok (.iaload, 1) := by decide +kernel
theorem dX2_hasLikeNames_30 : decode cX2_hasLikeNames 30 = .ok (.if_icmp .eq 5, 3) := by decide +kernel
theorem dX2_hasLikeNames_33 : decode cX2_hasLikeNames 33 = .ok (.iconst 0, 1) := by decide +kernel
theorem dX2_hasLikeNames_34 : decode cX2_hasLikeNames 34 = .ok (.ireturn, 1) := by decide +kernel
theorem dX2_hasLikeNames_35 : decode cX2_hasLikeNames 35 = .ok (.iinc 3 1, 3) := by decide +kernel
theorem dX2_hasLikeNames_38 : decode cX2_hasLikeNames 38 = .ok (.goto (-36), 3) := by decide +kernel
theorem dX2_hasLikeNames_41 : decode cX2_hasLikeNames 41 = .ok (.iconst 1, 1) := by decide +kernel
theorem dX2_hasLikeNames_42 : decode cX2_hasLikeNames 42 = .ok (.ireturn, 1) := by decide +kernel
theorem dX3_init_0 : decode cX3_init 0 = .ok (.aload_n 0, 1) := by decide +kernel
theorem dX3_init_1 : decode cX3_init 1 = .ok (.invokespecial 1, 3) := by decide +kernel
theorem dX3_init_4 : decode cX3_init 4 = .ok (.return_, 1) := by decide +kernel
theorem dX3_begin_0 : decode cX3_begin 0 = .ok (.aload_n 0, 1) := by decide +kernel
theorem dX3_begin_1 : decode cX3_begin 1 = .ok (.iload_n 2, 1) := by decide +kernel
theorem dX3_begin_2 : decode cX3_begin 2 = .ok (.putfield 7, 3) := by decide +kernel
theorem dX3_begin_5 : decode cX3_begin 5 = .ok (.aload_n 0, 1) := by decide +kernel
theorem dX3_begin_6 : decode cX3_begin 6 = .ok (.iconst 1, 1) := by decide +kernel
theorem dX3_begin_7 : decode cX3_begin 7 = .ok (.putfield 13, 3) := by decide +kernel
theorem dX3_begin_10 : decode cX3_begin 10 = .ok (.aload_n 0, 1) := by decide +kernel
theorem dX3_begin_11 : decode cX3_begin 11 = .ok (.iload_n 3, 1) := by decide +kernel
theorem dX3_begin_12 : decode cX3_begin 12 = .ok (.putfield 17, 3) := by decide +kernel
theorem dX3_begin_15 : decode cX3_begin 15 = .ok (.aload_n 0, 1) := by decide +kernel
theorem dX3_begin_16 : decode cX3_begin 16 = .ok (.iconst 0, 1) := by decide +kernel
theorem dX3_begin_17 : decode cX3_begin 17 = .ok (.putfield 20, 3) := by decide +kernel
theorem dX3_begin_20 : decode cX3_begin 20 = .ok (.aload_n 0, 1) := by decide +kernel
theorem dX3_begin_21 : decode cX3_begin 21 = .ok (.iconst 0, 1) := by decide +kernel
theorem dX3_begin_22 : decode cX3_begin 22 = .ok (.putfield 23, 3) := by decide +kernel
theorem dX3_begin_25 : decode cX3_begin 25 = .ok (.aload_n 0, 1) := by decide +kernel
theorem dX3_begin_26 : decode cX3_begin 26 = .ok (.iconst 0, 1) := by decide +kernel
theorem dX3_begin_27 : decode cX3_begin 27 = .ok (.putfield 26, 3) := by decide +kernel
theorem dX3_begin_30 : decode cX3_begin 30 = .ok (.aload_n 0, 1) := by decide +kernel
theorem dX3_begin_31 : decode cX3_begin 31 = .ok (.iconst 0, 1) := by decide +kernel
theorem dX3_begin_32 : decode cX3_begin 32 = .ok (.putfield 29, 3) := by decide +kernel
theorem dX3_begin_35 : decode cX3_begin 35 = .ok (.aload_n 0, 1) := by decide +kernel
theorem dX3_begin_36 : decode cX3_begin 36 = .ok (.iload_n 1, 1) := by decide +kernel
theorem dX3_begin_37 : decode cX3_begin 37 = .ok (.putfield 32, 3) := by decide +kernel
theorem dX3_begin_40 : decode cX3_begin 40 = .ok (.aload_n 0, 1) := by decide +kernel
theorem dX3_begin_41 : decode cX3_begin 41 = .ok (.iconst 0, 1) := by decide +kernel
theorem dX3_begin_42 : decode cX3_begin 42 = .ok (.putfield 35, 3) := by decide +kernel
theorem dX3_begin_45 : decode cX3_begin 45 = .ok (.aload_n 0, 1) := by decide +kernel
theorem dX3_begin_46 : decode cX3_begin 46 = .ok (.invokevirtual 38, 3) := by decide +kernel
theorem dX3_begin_49 : decode cX3_begin 49 = .ok (.return_, 1) := by decide +kernel
theorem dX3_clearCounts_0 : decode cX3_clearCounts 0 = .ok (.aload_n 0, 1) := by decide +kernel
theorem dX3_clearCounts_1 : decode cX3_clearCounts 1 = .ok (.iconst 0, 1) := by decide +kernel
theorem dX3_clearCounts_2 : decode cX3_clearCounts 2 = .ok (.putfield 41, 3) := by decide +kernel
theorem dX3_clearCounts_5 : decode cX3_clearCounts 5 = .ok (.aload_n 0, 1) := by decide +kernel
theorem dX3_clearCounts_6 : decode cX3_clearCounts 6 = .ok (.iconst 0, 1) := by decide +kernel
theorem dX3_clearCounts_7 : decode cX3_clearCounts 7 = .ok (.putfield 44, 3) := by decide +kernel
theorem dX3_clearCounts_10 : decode cX3_clearCounts 10 = .ok (.aload_n 0, 1) := by decide +kernel
theorem dX3_clearCounts_11 : decode cX3_clearCounts 11 = .ok (.iconst 0, 1) := by decide +kernel
theorem dX3_clearCounts_12 : decode cX3_clearCounts 12 = .ok (.putfield 47, 3) := by decide +kernel
theorem dX3_clearCounts_15 : decode cX3_clearCounts 15 = .ok (.aload_n 0, 1) := by decide +kernel
theorem dX3_clearCounts_16 : decode cX3_clearCounts 16 = .ok (.iconst 0, 1) := by decide +kernel
theorem dX3_clearCounts_17 : decode cX3_clearCounts 17 = .ok (.putfield 50, 3) := by decide +kernel
theorem dX3_clearCounts_20 : decode cX3_clearCounts 20 = .ok (.aload_n 0, 1) := by decide +kernel
theorem dX3_clearCounts_21 : decode cX3_clearCounts 21 = .ok (.iconst 0, 1) := by decide +kernel
theorem dX3_clearCounts_22 : decode cX3_clearCounts 22 = .ok (.putfield 53, 3) := by decide +kernel
theorem dX3_clearCounts_25 : decode cX3_clearCounts 25 = .ok (.return_, 1) := by decide +kernel
theorem dX3_copyStanding_0 : decode cX3_copyStanding 0 = .ok (.aload_n 0, 1) := by decide +kernel
theorem dX3_copyStanding_1 : decode cX3_copyStanding 1 = .ok (.aload_n 1, 1) := by decide +kernel
theorem dX3_copyStanding_2 : decode cX3_copyStanding 2 = .ok (.getfield 7, 3) := by decide +kernel
theorem dX3_copyStanding_5 : decode cX3_copyStanding 5 = .ok (.putfield 7, 3) := by decide +kernel
theorem dX3_copyStanding_8 : decode cX3_copyStanding 8 = .ok (.aload_n 0, 1) := by decide +kernel
theorem dX3_copyStanding_9 : decode cX3_copyStanding 9 = .ok (.aload_n 1, 1) := by decide +kernel
theorem dX3_copyStanding_10 : decode cX3_copyStanding 10 = .ok (.getfield 13, 3) := by decide +kernel
theorem dX3_copyStanding_13 : decode cX3_copyStanding 13 = .ok (.putfield 13, 3) := by decide +kernel
theorem dX3_copyStanding_16 : decode cX3_copyStanding 16 = .ok (.aload_n 0, 1) := by decide +kernel
theorem dX3_copyStanding_17 : decode cX3_copyStanding 17 = .ok (.aload_n 1, 1) := by decide +kernel
theorem dX3_copyStanding_18 : decode cX3_copyStanding 18 = .ok (.getfield 17, 3) := by decide +kernel
theorem dX3_copyStanding_21 : decode cX3_copyStanding 21 = .ok (.putfield 17, 3) := by decide +kernel
theorem dX3_copyStanding_24 : decode cX3_copyStanding 24 = .ok (.aload_n 0, 1) := by decide +kernel
theorem dX3_copyStanding_25 : decode cX3_copyStanding 25 = .ok (.aload_n 1, 1) := by decide +kernel
theorem dX3_copyStanding_26 : decode cX3_copyStanding 26 = .ok (.getfield 20, 3) := by decide +kernel
theorem dX3_copyStanding_29 : decode cX3_copyStanding 29 = .ok (.putfield 20, 3) := by decide +kernel
theorem dX3_copyStanding_32 : decode cX3_copyStanding 32 = .ok (.aload_n 0, 1) := by decide +kernel
theorem dX3_copyStanding_33 : decode cX3_copyStanding 33 = .ok (.aload_n 1, 1) := by decide +kernel
theorem dX3_copyStanding_34 : decode cX3_copyStanding 34 = .ok (.getfield 23, 3) := by decide +kernel
theorem dX3_copyStanding_37 : decode cX3_copyStanding 37 = .ok (.putfield 23, 3) := by decide +kernel
theorem dX3_copyStanding_40 : decode cX3_copyStanding 40 = .ok (.aload_n 0, 1) := by decide +kernel
theorem dX3_copyStanding_41 : decode cX3_copyStanding 41 = .ok (.aload_n 1, 1) := by decide +kernel
theorem dX3_copyStanding_42 : decode cX3_copyStanding 42 = .ok (.getfield 26, 3) := by decide +kernel
theorem dX3_copyStanding_45 : decode cX3_copyStanding 45 = .ok (.putfield 26, 3) := by decide +kernel
theorem dX3_copyStanding_48 : decode cX3_copyStanding 48 = .ok (.aload_n 0, 1) := by decide +kernel
theorem dX3_copyStanding_49 : decode cX3_copyStanding 49 = .ok (.aload_n 1, 1) := by decide +kernel
theorem dX3_copyStanding_50 : decode cX3_copyStanding 50 = .ok (.getfield 29, 3) := by decide +kernel
theorem dX3_copyStanding_53 : decode cX3_copyStanding 53 = .ok (.putfield 29, 3) := by decide +kernel
theorem dX3_copyStanding_56 : decode cX3_copyStanding 56 = .ok (.aload_n 0, 1) := by decide +kernel
theorem dX3_copyStanding_57 : decode cX3_copyStanding 57 = .ok (.aload_n 1, 1) := by decide +kernel
theorem dX3_copyStanding_58 : decode cX3_copyStanding 58 = .ok (.getfield 32, 3) := by decide +kernel
theorem dX3_copyStanding_61 : decode cX3_copyStanding 61 = .ok (.putfield 32, 3) := by decide +kernel
theorem dX3_copyStanding_64 : decode cX3_copyStanding 64 = .ok (.aload_n 0, 1) := by decide +kernel
theorem dX3_copyStanding_65 : decode cX3_copyStanding 65 = .ok (.aload_n 1, 1) := by decide +kernel
theorem dX3_copyStanding_66 : decode cX3_copyStanding 66 = .ok (.getfield 35, 3) := by decide +kernel
theorem dX3_copyStanding_69 : decode cX3_copyStanding 69 = .ok (.putfield 35, 3) := by decide +kernel
theorem dX3_copyStanding_72 : decode cX3_copyStanding 72 = .ok (.return_, 1) := by decide +kernel
theorem dX3_copyCounts_0 : decode cX3_copyCounts 0 = .ok (.aload_n 0, 1) := by decide +kernel
theorem dX3_copyCounts_1 : decode cX3_copyCounts 1 = .ok (.aload_n 1, 1) := by decide +kernel
theorem dX3_copyCounts_2 : decode cX3_copyCounts 2 = .ok (.getfield 41, 3) := by decide +kernel
theorem dX3_copyCounts_5 : decode cX3_copyCounts 5 = .ok (.putfield 41, 3) := by decide +kernel
theorem dX3_copyCounts_8 : decode cX3_copyCounts 8 = .ok (.aload_n 0, 1) := by decide +kernel
theorem dX3_copyCounts_9 : decode cX3_copyCounts 9 = .ok (.aload_n 1, 1) := by decide +kernel
theorem dX3_copyCounts_10 : decode cX3_copyCounts 10 = .ok (.getfield 44, 3) := by decide +kernel
theorem dX3_copyCounts_13 : decode cX3_copyCounts 13 = .ok (.putfield 44, 3) := by decide +kernel
theorem dX3_copyCounts_16 : decode cX3_copyCounts 16 = .ok (.aload_n 0, 1) := by decide +kernel
theorem dX3_copyCounts_17 : decode cX3_copyCounts 17 = .ok (.aload_n 1, 1) := by decide +kernel
theorem dX3_copyCounts_18 : decode cX3_copyCounts 18 = .ok (.getfield 47, 3) := by decide +kernel
theorem dX3_copyCounts_21 : decode cX3_copyCounts 21 = .ok (.putfield 47, 3) := by decide +kernel
theorem dX3_copyCounts_24 : decode cX3_copyCounts 24 = .ok (.aload_n 0, 1) := by decide +kernel
theorem dX3_copyCounts_25 : decode cX3_copyCounts 25 = .ok (.aload_n 1, 1) := by decide +kernel
theorem dX3_copyCounts_26 : decode cX3_copyCounts 26 = .ok (.getfield 50, 3) := by decide +kernel
theorem dX3_copyCounts_29 : decode cX3_copyCounts 29 = .ok (.putfield 50, 3) := by decide +kernel
theorem dX3_copyCounts_32 : decode cX3_copyCounts 32 = .ok (.aload_n 0, 1) := by decide +kernel
theorem dX3_copyCounts_33 : decode cX3_copyCounts 33 = .ok (.aload_n 1, 1) := by decide +kernel
theorem dX3_copyCounts_34 : decode cX3_copyCounts 34 = .ok (.getfield 53, 3) := by decide +kernel
theorem dX3_copyCounts_37 : decode cX3_copyCounts 37 = .ok (.putfield 53, 3) := by decide +kernel
theorem dX3_copyCounts_40 : decode cX3_copyCounts 40 = .ok (.return_, 1) := by decide +kernel
theorem dX3_count_0 : decode cX3_count 0 = .ok (.aload_n 0, 1) := by decide +kernel
theorem dX3_count_1 : decode cX3_count 1 = .ok (.dup, 1) := by decide +kernel
theorem dX3_count_2 : decode cX3_count 2 = .ok (.getfield 29, 3) := by decide +kernel
theorem dX3_count_5 : decode cX3_count 5 = .ok (.iconst 1, 1) := by decide +kernel
theorem dX3_count_6 : decode cX3_count 6 = .ok (.isub, 1) := by decide +kernel
theorem dX3_count_7 : decode cX3_count 7 = .ok (.putfield 29, 3) := by decide +kernel
theorem dX3_count_10 : decode cX3_count 10 = .ok (.aload_n 0, 1) := by decide +kernel
theorem dX3_count_11 : decode cX3_count 11 = .ok (.dup, 1) := by decide +kernel
theorem dX3_count_12 : decode cX3_count 12 = .ok (.getfield 41, 3) := by decide +kernel
theorem dX3_count_15 : decode cX3_count 15 = .ok (.iconst 1, 1) := by decide +kernel
theorem dX3_count_16 : decode cX3_count 16 = .ok (.iadd, 1) := by decide +kernel
theorem dX3_count_17 : decode cX3_count 17 = .ok (.putfield 41, 3) := by decide +kernel
theorem dX3_count_20 : decode cX3_count 20 = .ok (.aload_n 0, 1) := by decide +kernel
theorem dX3_count_21 : decode cX3_count 21 = .ok (.dup, 1) := by decide +kernel
theorem dX3_count_22 : decode cX3_count 22 = .ok (.getfield 44, 3) := by decide +kernel
theorem dX3_count_25 : decode cX3_count 25 = .ok (.iload_n 1, 1) := by decide +kernel
theorem dX3_count_26 : decode cX3_count 26 = .ok (.iadd, 1) := by decide +kernel
theorem dX3_count_27 : decode cX3_count 27 = .ok (.putfield 44, 3) := by decide +kernel
theorem dX3_count_30 : decode cX3_count 30 = .ok (.aload_n 0, 1) := by decide +kernel
theorem dX3_count_31 : decode cX3_count 31 = .ok (.dup, 1) := by decide +kernel
theorem dX3_count_32 : decode cX3_count 32 = .ok (.getfield 47, 3) := by decide +kernel
theorem dX3_count_35 : decode cX3_count 35 = .ok (.iload_n 2, 1) := by decide +kernel
theorem dX3_count_36 : decode cX3_count 36 = .ok (.iadd, 1) := by decide +kernel
theorem dX3_count_37 : decode cX3_count 37 = .ok (.putfield 47, 3) := by decide +kernel
theorem dX3_count_40 : decode cX3_count 40 = .ok (.aload_n 0, 1) := by decide +kernel
theorem dX3_count_41 : decode cX3_count 41 = .ok (.aload_n 0, 1) := by decide +kernel
theorem dX3_count_42 : decode cX3_count 42 = .ok (.getfield 50, 3) := by decide +kernel
theorem dX3_count_45 : decode cX3_count 45 = .ok (.iload_n 2, 1) := by decide +kernel
theorem dX3_count_46 : decode cX3_count 46 = .ok (.invokestatic 56, 3) := by decide +kernel
theorem dX3_count_49 : decode cX3_count 49 = .ok (.putfield 50, 3) := by decide +kernel
theorem dX3_count_52 : decode cX3_count 52 = .ok (.iload_n 2, 1) := by decide +kernel
theorem dX3_count_53 : decode cX3_count 53 = .ok (.iload_n 3, 1) := by decide +kernel
theorem dX3_count_54 : decode cX3_count 54 = .ok (.if_icmp .le 13, 3) := by decide +kernel
theorem dX3_count_57 : decode cX3_count 57 = .ok (.aload_n 0, 1) := by decide +kernel
theorem dX3_count_58 : decode cX3_count 58 = .ok (.dup, 1) := by decide +kernel
theorem dX3_count_59 : decode cX3_count 59 = .ok (.getfield 53, 3) := by decide +kernel
theorem dX3_count_62 : decode cX3_count 62 = .ok (.iconst 1, 1) := by decide +kernel
theorem dX3_count_63 : decode cX3_count 63 = .ok (.iadd, 1) := by decide +kernel
theorem dX3_count_64 : decode cX3_count 64 = .ok (.putfield 53, 3) := by decide +kernel
theorem dX3_count_67 : decode cX3_count 67 = .ok (.return_, 1) := by decide +kernel
theorem dX4_init_0 : decode cX4_init 0 = .ok (.aload_n 0, 1) := by decide +kernel
theorem dX4_init_1 : decode cX4_init 1 = .ok (.invokespecial 1, 3) := by decide +kernel
theorem dX4_init_4 : decode cX4_init 4 = .ok (.return_, 1) := by decide +kernel
theorem dX4_begin_0 : decode cX4_begin 0 = .ok (.aload_n 0, 1) := by decide +kernel
theorem dX4_begin_1 : decode cX4_begin 1 = .ok (.fconst 0, 1) := by decide +kernel
theorem dX4_begin_2 : decode cX4_begin 2 = .ok (.putfield 7, 3) := by decide +kernel
theorem dX4_begin_5 : decode cX4_begin 5 = .ok (.aload_n 0, 1) := by decide +kernel
theorem dX4_begin_6 : decode cX4_begin 6 = .ok (.fconst 0, 1) := by decide +kernel
theorem dX4_begin_7 : decode cX4_begin 7 = .ok (.putfield 13, 3) := by decide +kernel
theorem dX4_begin_10 : decode cX4_begin 10 = .ok (.aload_n 0, 1) := by decide +kernel
theorem dX4_begin_11 : decode cX4_begin 11 = .ok (.fconst 0, 1) := by decide +kernel
theorem dX4_begin_12 : decode cX4_begin 12 = .ok (.putfield 16, 3) := by decide +kernel
theorem dX4_begin_15 : decode cX4_begin 15 = .ok (.aload_n 0, 1) := by decide +kernel
theorem dX4_begin_16 : decode cX4_begin 16 = .ok (.iload_n 1, 1) := by decide +kernel
theorem dX4_begin_17 : decode cX4_begin 17 = .ok (.putfield 19, 3) := by decide +kernel
theorem dX4_begin_20 : decode cX4_begin 20 = .ok (.aload_n 0, 1) := by decide +kernel
theorem dX4_begin_21 : decode cX4_begin 21 = .ok (.iconst 0, 1) := by decide +kernel
theorem dX4_begin_22 : decode cX4_begin 22 = .ok (.putfield 23, 3) := by decide +kernel
theorem dX4_begin_25 : decode cX4_begin 25 = .ok (.aload_n 0, 1) := by decide +kernel
theorem dX4_begin_26 : decode cX4_begin 26 = .ok (.iconst 0, 1) := by decide +kernel
theorem dX4_begin_27 : decode cX4_begin 27 = .ok (.putfield 26, 3) := by decide +kernel
theorem dX4_begin_30 : decode cX4_begin 30 = .ok (.aload_n 0, 1) := by decide +kernel
theorem dX4_begin_31 : decode cX4_begin 31 = .ok (.iconst 0, 1) := by decide +kernel
theorem dX4_begin_32 : decode cX4_begin 32 = .ok (.putfield 29, 3) := by decide +kernel
theorem dX4_begin_35 : decode cX4_begin 35 = .ok (.aload_n 0, 1) := by decide +kernel
theorem dX4_begin_36 : decode cX4_begin 36 = .ok (.iconst 0, 1) := by decide +kernel
theorem dX4_begin_37 : decode cX4_begin 37 = .ok (.putfield 32, 3) := by decide +kernel
theorem dX4_begin_40 : decode cX4_begin 40 = .ok (.aload_n 0, 1) := by decide +kernel
theorem dX4_begin_41 : decode cX4_begin 41 = .ok (.iconst 0, 1) := by decide +kernel
theorem dX4_begin_42 : decode cX4_begin 42 = .ok (.putfield 35, 3) := by decide +kernel
theorem dX4_begin_45 : decode cX4_begin 45 = .ok (.return_, 1) := by decide +kernel
theorem dX4_copy_0 : decode cX4_copy 0 = .ok (.aload_n 0, 1) := by decide +kernel
theorem dX4_copy_1 : decode cX4_copy 1 = .ok (.aload_n 1, 1) := by decide +kernel
theorem dX4_copy_2 : decode cX4_copy 2 = .ok (.getfield 7, 3) := by decide +kernel
theorem dX4_copy_5 : decode cX4_copy 5 = .ok (.putfield 7, 3) := by decide +kernel
theorem dX4_copy_8 : decode cX4_copy 8 = .ok (.aload_n 0, 1) := by decide +kernel
theorem dX4_copy_9 : decode cX4_copy 9 = .ok (.aload_n 1, 1) := by decide +kernel
theorem dX4_copy_10 : decode cX4_copy 10 = .ok (.getfield 13, 3) := by decide +kernel
theorem dX4_copy_13 : decode cX4_copy 13 = .ok (.putfield 13, 3) := by decide +kernel
theorem dX4_copy_16 : decode cX4_copy 16 = .ok (.aload_n 0, 1) := by decide +kernel
theorem dX4_copy_17 : decode cX4_copy 17 = .ok (.aload_n 1, 1) := by decide +kernel
theorem dX4_copy_18 : decode cX4_copy 18 = .ok (.getfield 16, 3) := by decide +kernel
theorem dX4_copy_21 : decode cX4_copy 21 = .ok (.putfield 16, 3) := by decide +kernel
theorem dX4_copy_24 : decode cX4_copy 24 = .ok (.aload_n 0, 1) := by decide +kernel
theorem dX4_copy_25 : decode cX4_copy 25 = .ok (.aload_n 1, 1) := by decide +kernel
theorem dX4_copy_26 : decode cX4_copy 26 = .ok (.getfield 19, 3) := by decide +kernel
theorem dX4_copy_29 : decode cX4_copy 29 = .ok (.putfield 19, 3) := by decide +kernel
theorem dX4_copy_32 : decode cX4_copy 32 = .ok (.aload_n 0, 1) := by decide +kernel
theorem dX4_copy_33 : decode cX4_copy 33 = .ok (.aload_n 1, 1) := by decide +kernel
theorem dX4_copy_34 : decode cX4_copy 34 = .ok (.getfield 23, 3) := by decide +kernel
theorem dX4_copy_37 : decode cX4_copy 37 = .ok (.putfield 23, 3) := by decide +kernel
theorem dX4_copy_40 : decode cX4_copy 40 = .ok (.aload_n 0, 1) := by decide +kernel
theorem dX4_copy_41 : decode cX4_copy 41 = .ok (.aload_n 1, 1) := by decide +kernel
theorem dX4_copy_42 : decode cX4_copy 42 = .ok (.getfield 26, 3) := by decide +kernel
theorem dX4_copy_45 : decode cX4_copy 45 = .ok (.putfield 26, 3) := by decide +kernel
theorem dX4_copy_48 : decode cX4_copy 48 = .ok (.aload_n 0, 1) := by decide +kernel
theorem dX4_copy_49 : decode cX4_copy 49 = .ok (.aload_n 1, 1) := by decide +kernel
theorem dX4_copy_50 : decode cX4_copy 50 = .ok (.getfield 29, 3) := by decide +kernel
theorem dX4_copy_53 : decode cX4_copy 53 = .ok (.putfield 29, 3) := by decide +kernel
theorem dX4_copy_56 : decode cX4_copy 56 = .ok (.aload_n 0, 1) := by decide +kernel
theorem dX4_copy_57 : decode cX4_copy 57 = .ok (.aload_n 1, 1) := by decide +kernel
theorem dX4_copy_58 : decode cX4_copy 58 = .ok (.getfield 32, 3) := by decide +kernel
theorem dX4_copy_61 : decode cX4_copy 61 = .ok (.putfield 32, 3) := by decide +kernel
theorem dX4_copy_64 : decode cX4_copy 64 = .ok (.aload_n 0, 1) := by decide +kernel
theorem dX4_copy_65 : decode cX4_copy 65 = .ok (.aload_n 1, 1) := by decide +kernel
theorem dX4_copy_66 : decode cX4_copy 66 = .ok (.getfield 35, 3) := by decide +kernel
theorem dX4_copy_69 : decode cX4_copy 69 = .ok (.putfield 35, 3) := by decide +kernel
theorem dX4_copy_72 : decode cX4_copy 72 = .ok (.return_, 1) := by decide +kernel
theorem dX4_farJumps_0 : decode cX4_farJumps 0 = .ok (.aload_n 0, 1) := by decide +kernel
theorem dX4_farJumps_1 : decode cX4_farJumps 1 = .ok (.getfield 26, 3) := by decide +kernel
theorem dX4_farJumps_4 : decode cX4_farJumps 4 = .ok (.invokestatic 38, 3) := by decide +kernel
theorem dX4_farJumps_7 : decode cX4_farJumps 7 = .ok (.ireturn, 1) := by decide +kernel
theorem dX4_isSeeky_0 : decode cX4_isSeeky 0 = .ok (.aload_n 0, 1) := by decide +kernel
theorem dX4_isSeeky_1 : decode cX4_isSeeky 1 = .ok (.invokevirtual 44, 3) := by decide +kernel
theorem dX4_isSeeky_4 : decode cX4_isSeeky 4 = .ok (.iconst 5, 1) := by decide +kernel
theorem dX4_isSeeky_5 : decode cX4_isSeeky 5 = .ok (.if_icmp .lt 7, 3) := by decide +kernel
theorem dX4_isSeeky_8 : decode cX4_isSeeky 8 = .ok (.iconst 1, 1) := by decide +kernel
theorem dX4_isSeeky_9 : decode cX4_isSeeky 9 = .ok (.goto 4, 3) := by decide +kernel
theorem dX4_isSeeky_12 : decode cX4_isSeeky 12 = .ok (.iconst 0, 1) := by decide +kernel
theorem dX4_isSeeky_13 : decode cX4_isSeeky 13 = .ok (.ireturn, 1) := by decide +kernel
theorem dX4_isFar_0 : decode cX4_isFar 0 = .ok (.iload_n 1, 1) := by decide +kernel
theorem dX4_isFar_1 : decode cX4_isFar 1 = .ok (.aload_n 0, 1) := by decide +kernel
theorem dX4_isFar_2 : decode cX4_isFar 2 = .ok (.getfield 23, 3) := by decide +kernel
theorem dX4_isFar_5 : decode cX4_isFar 5 = .ok (.isub, 1) := by decide +kernel
theorem dX4_isFar_6 : decode cX4_isFar 6 = .ok (.iload_n 2, 1) := by decide +kernel
theorem dX4_isFar_7 : decode cX4_isFar 7 = .ok (.if_icmp .gt 13, 3) := by decide +kernel
theorem dX4_isFar_10 : decode cX4_isFar 10 = .ok (.aload_n 0, 1) := by decide +kernel
theorem dX4_isFar_11 : decode cX4_isFar 11 = .ok (.getfield 23, 3) := by decide +kernel
theorem dX4_isFar_14 : decode cX4_isFar 14 = .ok (.iload_n 1, 1) := by decide +kernel
theorem dX4_isFar_15 : decode cX4_isFar 15 = .ok (.isub, 1) := by decide +kernel
theorem dX4_isFar_16 : decode cX4_isFar 16 = .ok (.iload_n 2, 1) := by decide +kernel
theorem dX4_isFar_17 : decode cX4_isFar 17 = .ok (.if_icmp .le 7, 3) := by decide +kernel
theorem dX4_isFar_20 : decode cX4_isFar 20 = .ok (.iconst 1, 1) := by decide +kernel
theorem dX4_isFar_21 : decode cX4_isFar 21 = .ok (.goto 4, 3) := by decide +kernel
theorem dX4_isFar_24 : decode cX4_isFar 24 = .ok (.iconst 0, 1) := by decide +kernel
theorem dX4_isFar_25 : decode cX4_isFar 25 = .ok (.ireturn, 1) := by decide +kernel
theorem dX4_reachTo_0 : decode cX4_reachTo 0 = .ok (.aload_n 0, 1) := by decide +kernel
theorem dX4_reachTo_1 : decode cX4_reachTo 1 = .ok (.iload_n 1, 1) := by decide +kernel
theorem dX4_reachTo_2 : decode cX4_reachTo 2 = .ok (.iload_n 3, 1) := by decide +kernel
theorem dX4_reachTo_3 : decode cX4_reachTo 3 = .ok (.invokevirtual 48, 3) := by decide +kernel
theorem dX4_reachTo_6 : decode cX4_reachTo 6 = .ok (.ifCond .eq 7, 3) := by decide +kernel
theorem dX4_reachTo_9 : decode cX4_reachTo 9 = .ok (.iconst 1, 1) := by decide +kernel
theorem dX4_reachTo_10 : decode cX4_reachTo 10 = .ok (.goto 4, 3) := by decide +kernel
theorem dX4_reachTo_13 : decode cX4_reachTo 13 = .ok (.iconst 0, 1) := by decide +kernel
theorem dX4_reachTo_14 : decode cX4_reachTo 14 = .ok (.istore 4, 2) := by decide +kernel
theorem dX4_reachTo_16 : decode cX4_reachTo 16 = .ok (.aload_n 0, 1) := by decide +kernel
theorem dX4_reachTo_17 : decode cX4_reachTo 17 = .ok (.aload_n 0, 1) := by decide +kernel
theorem dX4_reachTo_18 : decode cX4_reachTo 18 = .ok (.getfield 26, 3) := by decide +kernel
theorem dX4_reachTo_21 : decode cX4_reachTo 21 = .ok (.iconst 1, 1) := by decide +kernel
theorem dX4_reachTo_22 : decode cX4_reachTo 22 = .ok (.ishl, 1) := by decide +kernel
theorem dX4_reachTo_23 : decode cX4_reachTo 23 = .ok (.iload 4, 2) := by decide +kernel
theorem dX4_reachTo_25 : decode cX4_reachTo 25 = .ok (.ior, 1) := by decide +kernel
theorem dX4_reachTo_26 : decode cX4_reachTo 26 = .ok (.sipush 255, 3) := by decide +kernel
theorem dX4_reachTo_29 : decode cX4_reachTo 29 = .ok (.iand, 1) := by decide +kernel
theorem dX4_reachTo_30 : decode cX4_reachTo 30 = .ok (.putfield 26, 3) := by decide +kernel
theorem dX4_reachTo_33 : decode cX4_reachTo 33 = .ok (.aload_n 0, 1) := by decide +kernel
theorem dX4_reachTo_34 : decode cX4_reachTo 34 = .ok (.iload_n 1, 1) := by decide +kernel
theorem dX4_reachTo_35 : decode cX4_reachTo 35 = .ok (.iload_n 2, 1) := by decide +kernel
theorem dX4_reachTo_36 : decode cX4_reachTo 36 = .ok (.iadd, 1) := by decide +kernel
theorem dX4_reachTo_37 : decode cX4_reachTo 37 = .ok (.putfield 23, 3) := by decide +kernel
theorem dX4_reachTo_40 : decode cX4_reachTo 40 = .ok (.return_, 1) := by decide +kernel
theorem dX4_learnPause_0 : decode cX4_learnPause 0 = .ok (.aload_n 0, 1) := by decide +kernel
theorem dX4_learnPause_1 : decode cX4_learnPause 1 = .ok (.aload_n 0, 1) := by decide +kernel
theorem dX4_learnPause_2 : decode cX4_learnPause 2 = .ok (.getfield 16, 3) := by decide +kernel
theorem dX4_learnPause_5 : decode cX4_learnPause 5 = .ok (.ldc 52, 2) := by decide +kernel
theorem dX4_learnPause_7 : decode cX4_learnPause 7 = .ok (.fmul, 1) := by decide +kernel
theorem dX4_learnPause_8 : decode cX4_learnPause 8 = .ok (.iload_n 1, 1) := by decide +kernel
theorem dX4_learnPause_9 : decode cX4_learnPause 9 = .ok (.aload_n 0, 1) := by decide +kernel
theorem dX4_learnPause_10 : decode cX4_learnPause 10 = .ok (.getfield 29, 3) := by decide +kernel
theorem dX4_learnPause_13 : decode cX4_learnPause 13 = .ok (.isub, 1) := by decide +kernel
theorem dX4_learnPause_14 : decode cX4_learnPause 14 = .ok (.i2f, 1) := by decide +kernel
theorem dX4_learnPause_15 : decode cX4_learnPause 15 = .ok (.ldc 53, 2) := by decide +kernel
theorem dX4_learnPause_17 : decode cX4_learnPause 17 = .ok (.fmul, 1) := by decide +kernel
theorem dX4_learnPause_18 : decode cX4_learnPause 18 = .ok (.fadd, 1) := by decide +kernel
theorem dX4_learnPause_19 : decode cX4_learnPause 19 = .ok (.putfield 16, 3) := by decide +kernel
theorem dX4_learnPause_22 : decode cX4_learnPause 22 = .ok (.return_, 1) := by decide +kernel
