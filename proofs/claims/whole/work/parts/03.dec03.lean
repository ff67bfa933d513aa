theorem dX11_init_0 : decode cX11_init 0 = .ok (.aload_n 0, 1) := by decide +kernel
theorem dX11_init_1 : decode cX11_init 1 = .ok (.invokespecial 1, 3) := by decide +kernel
theorem dX11_init_4 : decode cX11_init 4 = .ok (.aload_n 0, 1) := by decide +kernel
theorem dX11_init_5 : decode cX11_init 5 = .ok (.new 7, 3) := by decide +kernel
theorem dX11_init_8 : decode cX11_init 8 = .ok (.dup, 1) := by decide +kernel
theorem dX11_init_9 : decode cX11_init 9 = .ok (.invokespecial 9, 3) := by decide +kernel
theorem dX11_init_12 : decode cX11_init 12 = .ok (.putfield 10, 3) := by decide +kernel
theorem dX11_init_15 : decode cX11_init 15 = .ok (.aload_n 0, 1) := by decide +kernel
theorem dX11_init_16 : decode cX11_init 16 = .ok (.new 7, 3) := by decide +kernel
theorem dX11_init_19 : decode cX11_init 19 = .ok (.dup, 1) := by decide +kernel
theorem dX11_init_20 : decode cX11_init 20 = .ok (.invokespecial 9, 3) := by decide +kernel
theorem dX11_init_23 : decode cX11_init 23 = .ok (.putfield 16, 3) := by decide +kernel
theorem dX11_init_26 : decode cX11_init 26 = .ok (.aload_n 0, 1) := by decide +kernel
theorem dX11_init_27 : decode cX11_init 27 = .ok (.new 19, 3) := by decide +kernel
theorem dX11_init_30 : decode cX11_init 30 = .ok (.dup, 1) := by decide +kernel
theorem dX11_init_31 : decode cX11_init 31 = .ok (.invokespecial 21, 3) := by decide +kernel
theorem dX11_init_34 : decode cX11_init 34 = .ok (.putfield 22, 3) := by decide +kernel
theorem dX11_init_37 : decode cX11_init 37 = .ok (.aload_n 0, 1) := by decide +kernel
theorem dX11_init_38 : decode cX11_init 38 = .ok (.new 26, 3) := by decide +kernel
theorem dX11_init_41 : decode cX11_init 41 = .ok (.dup, 1) := by decide +kernel
theorem dX11_init_42 : decode cX11_init 42 = .ok (.aload_n 0, 1) := by decide +kernel
theorem dX11_init_43 : decode cX11_init 43 = .ok (.getfield 22, 3) := by decide +kernel
theorem dX11_init_46 : decode cX11_init 46 = .ok (.aload_n 0, 1) := by decide +kernel
theorem dX11_init_47 : decode cX11_init 47 = .ok (.getfield 16, 3) := by decide +kernel
theorem dX11_init_50 : decode cX11_init 50 = .ok (.invokespecial 28, 3) := by decide +kernel
theorem dX11_init_53 : decode cX11_init 53 = .ok (.putfield 31, 3) := by decide +kernel
theorem dX11_init_56 : decode cX11_init 56 = .ok (.aload_n 0, 1) := by decide +kernel
theorem dX11_init_57 : decode cX11_init 57 = .ok (.new 35, 3) := by decide +kernel
theorem dX11_init_60 : decode cX11_init 60 = .ok (.dup, 1) := by decide +kernel
theorem dX11_init_61 : decode cX11_init 61 = .ok (.aload_n 0, 1) := by decide +kernel
theorem dX11_init_62 : decode cX11_init 62 = .ok (.getfield 10, 3) := by decide +kernel
theorem dX11_init_65 : decode cX11_init 65 = .ok (.invokespecial 37, 3) := by decide +kernel
theorem dX11_init_68 : decode cX11_init 68 = .ok (.putfield 40, 3) := by decide +kernel
theorem dX11_init_71 : decode cX11_init 71 = .ok (.aload_n 0, 1) := by decide +kernel
theorem dX11_init_72 : decode cX11_init 72 = .ok (.new 35, 3) := by decide +kernel
theorem dX11_init_75 : decode cX11_init 75 = .ok (.dup, 1) := by decide +kernel
theorem dX11_init_76 : decode cX11_init 76 = .ok (.aload_n 0, 1) := by decide +kernel
theorem dX11_init_77 : decode cX11_init 77 = .ok (.getfield 10, 3) := by decide +kernel
theorem dX11_init_80 : decode cX11_init 80 = .ok (.invokespecial 37, 3) := by decide +kernel
theorem dX11_init_83 : decode cX11_init 83 = .ok (.putfield 44, 3) := by decide +kernel
theorem dX11_init_86 : decode cX11_init 86 = .ok (.aload_n 0, 1) := by decide +kernel
theorem dX11_init_87 : decode cX11_init 87 = .ok (.bipush 20, 2) := by decide +kernel
theorem dX11_init_89 : decode cX11_init 89 = .ok (.anewarray 35, 3) := by decide +kernel
theorem dX11_init_92 : decode cX11_init 92 = .ok (.putfield 47, 3) := by decide +kernel
theorem dX11_init_95 : decode cX11_init 95 = .ok (.aload_n 0, 1) := by decide +kernel
theorem dX11_init_96 : decode cX11_init 96 = .ok (.iconst 0, 1) := by decide +kernel
theorem dX11_init_97 : decode cX11_init 97 = .ok (.putfield 51, 3) := by decide +kernel
theorem dX11_init_100 : decode cX11_init 100 = .ok (.aload_n 0, 1) := by decide +kernel
theorem dX11_init_101 : decode cX11_init 101 = .ok (.iconst 0, 1) := by decide +kernel
theorem dX11_init_102 : decode cX11_init 102 = .ok (.putfield 55, 3) := by decide +kernel
theorem dX11_init_105 : decode cX11_init 105 = .ok (.aload_n 0, 1) := by decide +kernel
theorem dX11_init_106 : decode cX11_init 106 = .ok (.new 58, 3) := by decide +kernel
theorem dX11_init_109 : decode cX11_init 109 = .ok (.dup, 1) := by decide +kernel
theorem dX11_init_110 : decode cX11_init 110 = .ok (.invokespecial 60, 3) := by decide +kernel
theorem dX11_init_113 : decode cX11_init 113 = .ok (.putfield 61, 3) := by decide +kernel
theorem dX11_init_116 : decode cX11_init 116 = .ok (.aload_n 0, 1) := by decide +kernel
theorem dX11_init_117 : decode cX11_init 117 = .ok (.new 65, 3) := by decide +kernel
theorem dX11_init_120 : decode cX11_init 120 = .ok (.dup, 1) := by decide +kernel
theorem dX11_init_121 : decode cX11_init 121 = .ok (.invokespecial 67, 3) := by decide +kernel
theorem dX11_init_124 : decode cX11_init 124 = .ok (.putfield 68, 3) := by decide +kernel
theorem dX11_init_127 : decode cX11_init 127 = .ok (.aload_n 0, 1) := by decide +kernel
theorem dX11_init_128 : decode cX11_init 128 = .ok (.bipush 6, 2) := by decide +kernel
theorem dX11_init_130 : decode cX11_init 130 = .ok (.newarray .int, 2) := by decide +kernel
theorem dX11_init_132 : decode cX11_init 132 = .ok (.putfield 72, 3) := by decide +kernel
theorem dX11_init_135 : decode cX11_init 135 = .ok (.aload_n 0, 1) := by decide +kernel
theorem dX11_init_136 : decode cX11_init 136 = .ok (.sipush 427, 3) := by decide +kernel
theorem dX11_init_139 : decode cX11_init 139 = .ok (.newarray .int, 2) := by decide +kernel
theorem dX11_init_141 : decode cX11_init 141 = .ok (.putfield 76, 3) := by decide +kernel
theorem dX11_init_144 : decode cX11_init 144 = .ok (.aload_n 0, 1) := by decide +kernel
theorem dX11_init_145 : decode cX11_init 145 = .ok (.iconst 0, 1) := by decide +kernel
theorem dX11_init_146 : decode cX11_init 146 = .ok (.putfield 79, 3) := by decide +kernel
theorem dX11_init_149 : decode cX11_init 149 = .ok (.aload_n 0, 1) := by decide +kernel
theorem dX11_init_150 : decode cX11_init 150 = .ok (.iconst (-1), 1) := by decide +kernel
theorem dX11_init_151 : decode cX11_init 151 = .ok (.putfield 82, 3) := by decide +kernel
theorem dX11_init_154 : decode cX11_init 154 = .ok (.aload_n 0, 1) := by decide +kernel
theorem dX11_init_155 : decode cX11_init 155 = .ok (.lconst 1, 1) := by decide +kernel
theorem dX11_init_156 : decode cX11_init 156 = .ok (.putfield 85, 3) := by decide +kernel
theorem dX11_init_159 : decode cX11_init 159 = .ok (.iconst 0, 1) := by decide +kernel
theorem dX11_init_160 : decode cX11_init 160 = .ok (.istore_n 1, 1) := by decide +kernel
theorem dX11_init_161 : decode cX11_init 161 = .ok (.iload_n 1, 1) := by decide +kernel
theorem dX11_init_162 : decode cX11_init 162 = .ok (.bipush 20, 2) := by decide +kernel
theorem dX11_init_164 : decode cX11_init 164 = .ok (.if_icmp .ge 26, 3) := by decide +kernel
theorem dX11_init_167 : decode cX11_init 167 = .ok (.aload_n 0, 1) := by decide +kernel
theorem dX11_init_168 : decode cX11_init 168 = .ok (.getfield 47, 3) := by decide +kernel
theorem dX11_init_171 : decode cX11_init 171 = .ok (.iload_n 1, 1) := by decide +kernel
theorem dX11_init_172 : decode cX11_init 172 = .ok (.new 35, 3) := by decide +kernel
theorem dX11_init_175 : decode cX11_init 175 = .ok (.dup, 1) := by decide +kernel
theorem dX11_init_176 : decode cX11_init 176 = .ok (.aload_n 0, 1) := by decide +kernel
theorem dX11_init_177 : decode cX11_init 177 = .ok (.getfield 10, 3) := by decide +kernel
theorem dX11_init_180 : decode cX11_init 180 = .ok (.invokespecial 37, 3) := by decide +kernel
theorem dX11_init_183 : decode cX11_init 183 = .ok (.aastore, 1) := by decide +kernel
theorem dX11_init_184 : decode cX11_init 184 = .ok (.iinc 1 1, 3) := by decide +kernel
theorem dX11_init_187 : decode cX11_init 187 = .ok (.goto (-26), 3) := by decide +kernel
theorem dX11_init_190 : decode cX11_init 190 = .ok (.return_, 1) := by decide +kernel
theorem dX11_feed_0 : decode cX11_feed 0 = .ok (.aload_n 0, 1) := by decide +kernel
theorem dX11_feed_1 : decode cX11_feed 1 = .ok (.getfield 22, 3) := by decide +kernel
theorem dX11_feed_4 : decode cX11_feed 4 = .ok (.getfield 89, 3) := by decide +kernel
theorem dX11_feed_7 : decode cX11_feed 7 = .ok (.bipush 20, 2) := by decide +kernel
theorem dX11_feed_9 : decode cX11_feed 9 = .ok (.iadd, 1) := by decide +kernel
theorem dX11_feed_10 : decode cX11_feed 10 = .ok (.sipush 1600, 3) := by decide +kernel
theorem dX11_feed_13 : decode cX11_feed 13 = .ok (.if_icmp .le 9, 3) := by decide +kernel
theorem dX11_feed_16 : decode cX11_feed 16 = .ok (.aload_n 0, 1) := by decide +kernel
theorem dX11_feed_17 : decode cX11_feed 17 = .ok (.iconst 0, 1) := by decide +kernel
theorem dX11_feed_18 : decode cX11_feed 18 = .ok (.invokevirtual 92, 3) := by decide +kernel
theorem dX11_feed_21 : decode cX11_feed 21 = .ok (.ireturn, 1) := by decide +kernel
theorem dX11_feed_22 : decode cX11_feed 22 = .ok (.aload_n 0, 1) := by decide +kernel
theorem dX11_feed_23 : decode cX11_feed 23 = .ok (.getfield 22, 3) := by decide +kernel
theorem dX11_feed_26 : decode cX11_feed 26 = .ok (.iload_n 1, 1) := by decide +kernel
theorem dX11_feed_27 : decode cX11_feed 27 = .ok (.invokevirtual 96, 3) := by decide +kernel
theorem dX11_feed_30 : decode cX11_feed 30 = .ok (.aload_n 0, 1) := by decide +kernel
theorem dX11_feed_31 : decode cX11_feed 31 = .ok (.getfield 22, 3) := by decide +kernel
theorem dX11_feed_34 : decode cX11_feed 34 = .ok (.iload_n 2, 1) := by decide +kernel
theorem dX11_feed_35 : decode cX11_feed 35 = .ok (.invokevirtual 96, 3) := by decide +kernel
theorem dX11_feed_38 : decode cX11_feed 38 = .ok (.aload_n 0, 1) := by decide +kernel
theorem dX11_feed_39 : decode cX11_feed 39 = .ok (.getfield 22, 3) := by decide +kernel
theorem dX11_feed_42 : decode cX11_feed 42 = .ok (.iload_n 3, 1) := by decide +kernel
theorem dX11_feed_43 : decode cX11_feed 43 = .ok (.invokevirtual 96, 3) := by decide +kernel
theorem dX11_feed_46 : decode cX11_feed 46 = .ok (.aload_n 0, 1) := by decide +kernel
theorem dX11_feed_47 : decode cX11_feed 47 = .ok (.getfield 22, 3) := by decide +kernel
theorem dX11_feed_50 : decode cX11_feed 50 = .ok (.iload 4, 2) := by decide +kernel
theorem dX11_feed_52 : decode cX11_feed 52 = .ok (.invokevirtual 96, 3) := by decide +kernel
theorem dX11_feed_55 : decode cX11_feed 55 = .ok (.aload_n 0, 1) := by decide +kernel
theorem dX11_feed_56 : decode cX11_feed 56 = .ok (.getfield 22, 3) := by decide +kernel
theorem dX11_feed_59 : decode cX11_feed 59 = .ok (.iload 5, 2) := by decide +kernel
theorem dX11_feed_61 : decode cX11_feed 61 = .ok (.invokevirtual 96, 3) := by decide +kernel
theorem dX11_feed_64 : decode cX11_feed 64 = .ok (.aload_n 0, 1) := by decide +kernel
theorem dX11_feed_65 : decode cX11_feed 65 = .ok (.getfield 22, 3) := by decide +kernel
theorem dX11_feed_68 : decode cX11_feed 68 = .ok (.getfield 89, 3) := by decide +kernel
theorem dX11_feed_71 : decode cX11_feed 71 = .ok (.ireturn, 1) := by decide +kernel
theorem dX11_end_0 : decode cX11_end 0 = .ok (.iload_n 1, 1) := by decide +kernel
theorem dX11_end_1 : decode cX11_end 1 = .ok (.ifCond .lt 14, 3) := by decide +kernel
theorem dX11_end_4 : decode cX11_end 4 = .ok (.iload_n 1, 1) := by decide +kernel
theorem dX11_end_5 : decode cX11_end 5 = .ok (.aload_n 0, 1) := by decide +kernel
theorem dX11_end_6 : decode cX11_end 6 = .ok (.getfield 22, 3) := by decide +kernel
theorem dX11_end_9 : decode cX11_end 9 = .ok (.getfield 89, 3) := by decide +kernel
theorem dX11_end_12 : decode cX11_end 12 = .ok (.if_icmp .le 11, 3) := by decide +kernel
theorem dX11_end_15 : decode cX11_end 15 = .ok (.aload_n 0, 1) := by decide +kernel
theorem dX11_end_16 : decode cX11_end 16 = .ok (.iconst 0, 1) := by decide +kernel
theorem dX11_end_17 : decode cX11_end 17 = .ok (.invokevirtual 92, 3) := by decide +kernel
theorem dX11_end_20 : decode cX11_end 20 = .ok (.pop, 1) := by decide +kernel
theorem dX11_end_21 : decode cX11_end 21 = .ok (.iconst 0, 1) := by decide +kernel
theorem dX11_end_22 : decode cX11_end 22 = .ok (.ireturn, 1) := by decide +kernel
theorem dX11_end_23 : decode cX11_end 23 = .ok (.aload_n 0, 1) := by decide +kernel
theorem dX11_end_24 : decode cX11_end 24 = .ok (.getfield 22, 3) := by decide +kernel
theorem dX11_end_27 : decode cX11_end 27 = .ok (.iload_n 1, 1) := by decide +kernel
theorem dX11_end_28 : decode cX11_end 28 = .ok (.putfield 89, 3) := by decide +kernel
theorem dX11_end_31 : decode cX11_end 31 = .ok (.iconst 1, 1) := by decide +kernel
theorem dX11_end_32 : decode cX11_end 32 = .ok (.ireturn, 1) := by decide +kernel
theorem dX11_disk_0 : decode cX11_disk 0 = .ok (.aload_n 0, 1) := by decide +kernel
theorem dX11_disk_1 : decode cX11_disk 1 = .ok (.getfield 16, 3) := by decide +kernel
theorem dX11_disk_4 : decode cX11_disk 4 = .ok (.invokevirtual 100, 3) := by decide +kernel
theorem dX11_disk_7 : decode cX11_disk 7 = .ok (.aload_n 0, 1) := by decide +kernel
theorem dX11_disk_8 : decode cX11_disk 8 = .ok (.getfield 31, 3) := by decide +kernel
theorem dX11_disk_11 : decode cX11_disk 11 = .ok (.aload_n 0, 1) := by decide +kernel
theorem dX11_disk_12 : decode cX11_disk 12 = .ok (.getfield 16, 3) := by decide +kernel
theorem dX11_disk_15 : decode cX11_disk 15 = .ok (.invokevirtual 103, 3) := by decide +kernel
theorem dX11_disk_18 : decode cX11_disk 18 = .ok (.istore_n 1, 1) := by decide +kernel
theorem dX11_disk_19 : decode cX11_disk 19 = .ok (.aload_n 0, 1) := by decide +kernel
theorem dX11_disk_20 : decode cX11_disk 20 = .ok (.getfield 22, 3) := by decide +kernel
theorem dX11_disk_23 : decode cX11_disk 23 = .ok (.iconst 0, 1) := by decide +kernel
theorem dX11_disk_24 : decode cX11_disk 24 = .ok (.putfield 89, 3) := by decide +kernel
theorem dX11_disk_27 : decode cX11_disk 27 = .ok (.aload_n 0, 1) := by decide +kernel
theorem dX11_disk_28 : decode cX11_disk 28 = .ok (.aload_n 0, 1) := by decide +kernel
theorem dX11_disk_29 : decode cX11_disk 29 = .ok (.getfield 31, 3) := by decide +kernel
theorem dX11_disk_32 : decode cX11_disk 32 = .ok (.getfield 107, 3) := by decide +kernel
theorem dX11_disk_35 : decode cX11_disk 35 = .ok (.putfield 79, 3) := by decide +kernel
theorem dX11_disk_38 : decode cX11_disk 38 = .ok (.aload_n 0, 1) := by decide +kernel
theorem dX11_disk_39 : decode cX11_disk 39 = .ok (.aload_n 0, 1) := by decide +kernel
theorem dX11_disk_40 : decode cX11_disk 40 = .ok (.getfield 31, 3) := by decide +kernel
theorem dX11_disk_43 : decode cX11_disk 43 = .ok (.getfield 110, 3) := by decide +kernel
theorem dX11_disk_46 : decode cX11_disk 46 = .ok (.putfield 82, 3) := by decide +kernel
theorem dX11_disk_49 : decode cX11_disk 49 = .ok (.aload_n 0, 1) := by decide +kernel
theorem dX11_disk_50 : decode cX11_disk 50 = .ok (.getfield 79, 3) := by decide +kernel
theorem dX11_disk_53 : decode cX11_disk 53 = .ok (.ifCond .eq 9, 3) := by decide +kernel
theorem dX11_disk_56 : decode cX11_disk 56 = .ok (.aload_n 0, 1) := by decide +kernel
theorem dX11_disk_57 : decode cX11_disk 57 = .ok (.iconst 1, 1) := by decide +kernel
theorem dX11_disk_58 : decode cX11_disk 58 = .ok (.invokevirtual 92, 3) := by decide +kernel
theorem dX11_disk_61 : decode cX11_disk 61 = .ok (.ireturn, 1) := by decide +kernel
theorem dX11_disk_62 : decode cX11_disk 62 = .ok (.aload_n 0, 1) := by decide +kernel
theorem dX11_disk_63 : decode cX11_disk 63 = .ok (.getfield 10, 3) := by decide +kernel
theorem dX11_disk_66 : decode cX11_disk 66 = .ok (.astore_n 2, 1) := by decide +kernel
theorem dX11_disk_67 : decode cX11_disk 67 = .ok (.aload_n 0, 1) := by decide +kernel
theorem dX11_disk_68 : decode cX11_disk 68 = .ok (.aload_n 0, 1) := by decide +kernel
theorem dX11_disk_69 : decode cX11_disk 69 = .ok (.getfield 16, 3) := by decide +kernel
theorem dX11_disk_72 : decode cX11_disk 72 = .ok (.putfield 10, 3) := by decide +kernel
theorem dX11_disk_75 : decode cX11_disk 75 = .ok (.aload_n 0, 1) := by decide +kernel
theorem dX11_disk_76 : decode cX11_disk 76 = .ok (.aload_n 2, 1) := by decide +kernel
theorem dX11_disk_77 : decode cX11_disk 77 = .ok (.putfield 16, 3) := by decide +kernel
theorem dX11_disk_80 : decode cX11_disk 80 = .ok (.aload_n 0, 1) := by decide +kernel
theorem dX11_disk_81 : decode cX11_disk 81 = .ok (.getfield 40, 3) := by decide +kernel
theorem dX11_disk_84 : decode cX11_disk 84 = .ok (.aload_n 0, 1) := by decide +kernel
theorem dX11_disk_85 : decode cX11_disk 85 = .ok (.getfield 10, 3) := by decide +kernel
theorem dX11_disk_88 : decode cX11_disk 88 = .ok (.invokevirtual 113, 3) := by decide +kernel
theorem dX11_disk_91 : decode cX11_disk 91 = .ok (.aload_n 0, 1) := by decide +kernel
theorem dX11_disk_92 : decode cX11_disk 92 = .ok (.iconst 0, 1) := by decide +kernel
theorem dX11_disk_93 : decode cX11_disk 93 = .ok (.putfield 55, 3) := by decide +kernel
theorem dX11_disk_96 : decode cX11_disk 96 = .ok (.aload_n 0, 1) := by decide +kernel
theorem dX11_disk_97 : decode cX11_disk 97 = .ok (.getfield 61, 3) := by decide +kernel
theorem dX11_disk_100 : decode cX11_disk 100 = .ok (.iconst 0, 1) := by decide +kernel
theorem dX11_disk_101 : decode cX11_disk 101 = .ok (.putfield 116, 3) := by decide +kernel
theorem dX11_disk_104 : decode cX11_disk 104 = .ok (.iload_n 1, 1) := by decide +kernel
theorem dX11_disk_105 : decode cX11_disk 105 = .ok (.ireturn, 1) := by decide +kernel
theorem dX11_fault_0 : decode cX11_fault 0 = .ok (.iload_n 1, 1) := by decide +kernel
theorem dX11_fault_1 : decode cX11_fault 1 = .ok (.lookupswitch 37 #[(0, 27), (1, 32)], 27) := by decide +kernel
theorem dX11_fault_28 : decode cX11_fault 28 = .ok (.aload_n 0, 1) := by decide +kernel
theorem dX11_fault_29 : decode cX11_fault 29 = .ok (.getfield 79, 3) := by decide +kernel
theorem dX11_fault_32 : decode cX11_fault 32 = .ok (.ireturn, 1) := by decide +kernel
theorem dX11_fault_33 : decode cX11_fault 33 = .ok (.aload_n 0, 1) := by decide +kernel
theorem dX11_fault_34 : decode cX11_fault 34 = .ok (.getfield 82, 3) := by decide +kernel
theorem dX11_fault_37 : decode cX11_fault 37 = .ok (.ireturn, 1) := by decide +kernel
theorem dX11_fault_38 : decode cX11_fault 38 = .ok (.iconst (-1), 1) := by decide +kernel
theorem dX11_fault_39 : decode cX11_fault 39 = .ok (.ireturn, 1) := by decide +kernel
theorem dX11_has_0 : decode cX11_has 0 = .ok (.aload_n 0, 1) := by decide +kernel
theorem dX11_has_1 : decode cX11_has 1 = .ok (.getfield 40, 3) := by decide +kernel
theorem dX11_has_4 : decode cX11_has 4 = .ok (.getfield 119, 3) := by decide +kernel
theorem dX11_has_7 : decode cX11_has 7 = .ok (.ifCond .ge 7, 3) := by decide +kernel
theorem dX11_has_10 : decode cX11_has 10 = .ok (.iconst 1, 1) := by decide +kernel
theorem dX11_has_11 : decode cX11_has 11 = .ok (.goto 4, 3) := by decide +kernel
theorem dX11_has_14 : decode cX11_has 14 = .ok (.iconst 0, 1) := by decide +kernel
theorem dX11_has_15 : decode cX11_has 15 = .ok (.istore_n 2, 1) := by decide +kernel
theorem dX11_has_16 : decode cX11_has 16 = .ok (.iload_n 1, 1) := by decide +kernel
theorem dX11_has_17 : decode cX11_has 17 = .ok (.tableswitch 223 0 14 #[75, 83, 91, 99, 107, 123, 131, 147, 169, 177, 185, 193, 204, 212, 217], 75) := by decide +kernel
theorem dX11_has_92 : decode cX11_has 92 = .ok (.aload_n 0, 1) := by decide +kernel
theorem dX11_has_93 : decode cX11_has 93 = .ok (.getfield 10, 3) := by decide +kernel
theorem dX11_has_96 : decode cX11_has 96 = .ok (.getfield 122, 3) := by decide +kernel
theorem dX11_has_99 : decode cX11_has 99 = .ok (.ireturn, 1) := by decide +kernel
theorem dX11_has_100 : decode cX11_has 100 = .ok (.aload_n 0, 1) := by decide +kernel
theorem dX11_has_101 : decode cX11_has 101 = .ok (.getfield 10, 3) := by decide +kernel
theorem dX11_has_104 : decode cX11_has 104 = .ok (.getfield 125, 3) := by decide +kernel
theorem dX11_has_107 : decode cX11_has 107 = .ok (.ireturn, 1) := by decide +kernel
theorem dX11_has_108 : decode cX11_has 108 = .ok (.aload_n 0, 1) := by decide +kernel
theorem dX11_has_109 : decode cX11_has 109 = .ok (.getfield 40, 3) := by decide +kernel
theorem dX11_has_112 : decode cX11_has 112 = .ok (.getfield 126, 3) := by decide +kernel
theorem dX11_has_115 : decode cX11_has 115 = .ok (.ireturn, 1) := by decide +kernel
theorem dX11_has_116 : decode cX11_has 116 = .ok (.aload_n 0, 1) := by decide +kernel
theorem dX11_has_117 : decode cX11_has 117 = .ok (.getfield 40, 3) := by decide +kernel
theorem dX11_has_120 : decode cX11_has 120 = .ok (.getfield 129, 3) := by decide +kernel
theorem dX11_has_123 : decode cX11_has 123 = .ok (.ireturn, 1) := by decide +kernel
theorem dX11_has_124 : decode cX11_has 124 = .ok (.iload_n 2, 1) := by decide +kernel
theorem dX11_has_125 : decode cX11_has 125 = .ok (.ifCond .eq 7, 3) := by decide +kernel
theorem dX11_has_128 : decode cX11_has 128 = .ok (.iconst (-1), 1) := by decide +kernel
theorem dX11_has_129 : decode cX11_has 129 = .ok (.goto 10, 3) := by decide +kernel
theorem dX11_has_132 : decode cX11_has 132 = .ok (.aload_n 0, 1) := by decide +kernel
theorem dX11_has_133 : decode cX11_has 133 = .ok (.getfield 40, 3) := by decide +kernel
theorem dX11_has_136 : decode cX11_has 136 = .ok (.getfield 119, 3) := by decide +kernel
theorem dX11_has_139 : decode cX11_has 139 = .ok (.ireturn, 1) := by decide +kernel
theorem dX11_has_140 : decode cX11_has 140 = .ok (.aload_n 0, 1) := by decide +kernel
theorem dX11_has_141 : decode cX11_has 141 = .ok (.getfield 40, 3) := by decide +kernel
theorem dX11_has_144 : decode cX11_has 144 = .ok (.getfield 132, 3) := by decide +kernel
theorem dX11_has_147 : decode cX11_has 147 = .ok (.ireturn, 1) := by decide +kernel
theorem dX11_has_148 : decode cX11_has 148 = .ok (.iload_n 2, 1) := by decide +kernel
theorem dX11_has_149 : decode cX11_has 149 = .ok (.ifCond .eq 7, 3) := by decide +kernel
theorem dX11_has_152 : decode cX11_has 152 = .ok (.iconst (-1), 1) := by decide +kernel
theorem dX11_has_153 : decode cX11_has 153 = .ok (.goto 10, 3) := by decide +kernel
theorem dX11_has_156 : decode cX11_has 156 = .ok (.aload_n 0, 1) := by decide +kernel
theorem dX11_has_157 : decode cX11_has 157 = .ok (.getfield 40, 3) := by decide +kernel
theorem dX11_has_160 : decode cX11_has 160 = .ok (.getfield 135, 3) := by decide +kernel
theorem dX11_has_163 : decode cX11_has 163 = .ok (.ireturn, 1) := by decide +kernel
theorem dX11_has_164 : decode cX11_has 164 = .ok (.aload_n 0, 1) := by decide +kernel
theorem dX11_has_165 : decode cX11_has 165 = .ok (.getfield 40, 3) := by decide +kernel
theorem dX11_has_168 : decode cX11_has 168 = .ok (.invokevirtual 138, 3) := by decide +kernel
theorem dX11_has_171 : decode cX11_has 171 = .ok (.ifCond .eq 13, 3) := by decide +kernel
theorem dX11_has_174 : decode cX11_has 174 = .ok (.aload_n 0, 1) := by decide +kernel
theorem dX11_has_175 : decode cX11_has 175 = .ok (.getfield 40, 3) := by decide +kernel
theorem dX11_has_178 : decode cX11_has 178 = .ok (.getfield 142, 3) := by decide +kernel
theorem dX11_has_181 : decode cX11_has 181 = .ok (.goto 4, 3) := by decide +kernel
theorem dX11_has_184 : decode cX11_has 184 = .ok (.iconst (-1), 1) := by decide +kernel
theorem dX11_has_185 : decode cX11_has 185 = .ok (.ireturn, 1) := by decide +kernel
theorem dX11_has_186 : decode cX11_has 186 = .ok (.aload_n 0, 1) := by decide +kernel
theorem dX11_has_187 : decode cX11_has 187 = .ok (.getfield 40, 3) := by decide +kernel
theorem dX11_has_190 : decode cX11_has 190 = .ok (.getfield 145, 3) := by decide +kernel
theorem dX11_has_193 : decode cX11_has 193 = .ok (.ireturn, 1) := by decide +kernel
theorem dX11_has_194 : decode cX11_has 194 = .ok (.aload_n 0, 1) := by decide +kernel
theorem dX11_has_195 : decode cX11_has 195 = .ok (.getfield 40, 3) := by decide +kernel
theorem dX11_has_198 : decode cX11_has 198 = .ok (.getfield 148, 3) := by decide +kernel
theorem dX11_has_201 : decode cX11_has 201 = .ok (.ireturn, 1) := by decide +kernel
theorem dX11_has_202 : decode cX11_has 202 = .ok (.aload_n 0, 1) := by decide +kernel
theorem dX11_has_203 : decode cX11_has 203 = .ok (.getfield 40, 3) := by decide +kernel
theorem dX11_has_206 : decode cX11_has 206 = .ok (.getfield 151, 3) := by decide +kernel
theorem dX11_has_209 : decode cX11_has 209 = .ok (.ireturn, 1) := by decide +kernel
theorem dX11_has_210 : decode cX11_has 210 = .ok (.aload_n 0, 1) := by decide +kernel
theorem dX11_has_211 : decode cX11_has 211 = .ok (.getfield 40, 3) := by decide +kernel
theorem dX11_has_214 : decode cX11_has 214 = .ok (.getfield 154, 3) := by decide +kernel
theorem dX11_has_217 : decode cX11_has 217 = .ok (.invokevirtual 158, 3) := by decide +kernel
theorem dX11_has_220 : decode cX11_has 220 = .ok (.ireturn, 1) := by decide +kernel
theorem dX11_has_221 : decode cX11_has 221 = .ok (.aload_n 0, 1) := by decide +kernel
theorem dX11_has_222 : decode cX11_has 222 = .ok (.getfield 61, 3) := by decide +kernel
theorem dX11_has_225 : decode cX11_has 225 = .ok (.getfield 116, 3) := by decide +kernel
theorem dX11_has_228 : decode cX11_has 228 = .ok (.ireturn, 1) := by decide +kernel
theorem dX11_has_229 : decode cX11_has 229 = .ok (.aload_n 0, 1) := by decide +kernel
theorem dX11_has_230 : decode cX11_has 230 = .ok (.getfield 55, 3) := by decide +kernel
theorem dX11_has_233 : decode cX11_has 233 = .ok (.ireturn, 1) := by decide +kernel
theorem dX11_has_234 : decode cX11_has 234 = .ok (.aload_n 0, 1) := by decide +kernel
theorem dX11_has_235 : decode cX11_has 235 = .ok (.getfield 85, 3) := by decide +kernel
theorem dX11_has_238 : decode cX11_has 238 = .ok (.l2i, 1) := by decide +kernel
theorem dX11_has_239 : decode cX11_has 239 = .ok (.ireturn, 1) := by decide +kernel
theorem dX11_has_240 : decode cX11_has 240 = .ok (.iconst (-1), 1) := by decide +kernel
theorem dX11_has_241 : decode cX11_has 241 = .ok (.ireturn, 1) := by decide +kernel
theorem dX11_letter_0 : decode cX11_letter 0 = .ok (.aload_n 0, 1) := by decide +kernel
theorem dX11_letter_1 : decode cX11_letter 1 = .ok (.iload_n 1, 1) := by decide +kernel
theorem dX11_letter_2 : decode cX11_letter 2 = .ok (.invokevirtual 164, 3) := by decide +kernel
theorem dX11_letter_5 : decode cX11_letter 5 = .ok (.ifCond .eq 13, 3) := by decide +kernel
theorem dX11_letter_8 : decode cX11_letter 8 = .ok (.iload_n 2, 1) := by decide +kernel
theorem dX11_letter_9 : decode cX11_letter 9 = .ok (.ifCond .lt 9, 3) := by decide +kernel
theorem dX11_letter_12 : decode cX11_letter 12 = .ok (.iload_n 2, 1) := by decide +kernel
theorem dX11_letter_13 : decode cX11_letter 13 = .ok (.bipush 6, 2) := by decide +kernel
theorem dX11_letter_15 : decode cX11_letter 15 = .ok (.if_icmp .lt 5, 3) := by decide +kernel
theorem dX11_letter_18 : decode cX11_letter 18 = .ok (.iconst (-1), 1) := by decide +kernel
theorem dX11_letter_19 : decode cX11_letter 19 = .ok (.ireturn, 1) := by decide +kernel
theorem dX11_letter_20 : decode cX11_letter 20 = .ok (.aload_n 0, 1) := by decide +kernel
theorem dX11_letter_21 : decode cX11_letter 21 = .ok (.getfield 10, 3) := by decide +kernel
theorem dX11_letter_24 : decode cX11_letter 24 = .ok (.getfield 168, 3) := by decide +kernel
theorem dX11_letter_27 : decode cX11_letter 27 = .ok (.iload_n 1, 1) := by decide +kernel
theorem dX11_letter_28 : decode cX11_letter 28 = .ok (.bipush 6, 2) := by decide +kernel
theorem dX11_letter_30 : decode cX11_letter 30 = .ok (.imul, 1) := by decide +kernel
theorem dX11_letter_31 : decode cX11_letter 31 = .ok (.iload_n 2, 1) := by decide +kernel
theorem dX11_letter_32 : decode cX11_letter 32 = .ok (.iadd, 1) := by decide +kernel
theorem dX11_letter_33 : decode cX11_letter 33 = .ok (.iaload, 1) := by decide +kernel
theorem dX11_letter_34 : decode cX11_letter 34 = .ok (.ireturn, 1) := by decide +kernel
theorem dX11_process_0 : decode cX11_process 0 = .ok (.aload_n 0, 1) := by decide +kernel
theorem dX11_process_1 : decode cX11_process 1 = .ok (.iload_n 1, 1) := by decide +kernel
theorem dX11_process_2 : decode cX11_process 2 = .ok (.invokevirtual 164, 3) := by decide +kernel
theorem dX11_process_5 : decode cX11_process 5 = .ok (.ifCond .ne 5, 3) := by decide +kernel
theorem dX11_process_8 : decode cX11_process 8 = .ok (.iconst (-1), 1) := by decide +kernel
theorem dX11_process_9 : decode cX11_process 9 = .ok (.ireturn, 1) := by decide +kernel
theorem dX11_process_10 : decode cX11_process 10 = .ok (.aload_n 0, 1) := by decide +kernel
theorem dX11_process_11 : decode cX11_process 11 = .ok (.getfield 40, 3) := by decide +kernel
theorem dX11_process_14 : decode cX11_process 14 = .ok (.getfield 171, 3) := by decide +kernel
theorem dX11_process_17 : decode cX11_process 17 = .ok (.iload_n 1, 1) := by decide +kernel
theorem dX11_process_18 : decode cX11_process 18 = .ok (.aaload, 1) := by decide +kernel
theorem dX11_process_19 : decode cX11_process 19 = .ok (.astore_n 3, 1) := by decide +kernel
theorem dX11_process_20 : decode cX11_process 20 = .ok (.iload_n 2, 1) := by decide +kernel
theorem dX11_process_21 : decode cX11_process 21 = .ok (.tableswitch 159 0 12 #[67, 72, 88, 101, 106, 111, 116, 121, 126, 139, 144, 149, 154], 67) := by decide +kernel
theorem dX11_process_88 : decode cX11_process 88 = .ok (.aload_n 3, 1) := by decide +kernel
theorem dX11_process_89 : decode cX11_process 89 = .ok (.getfield 175, 3) := by decide +kernel
theorem dX11_process_92 : decode cX11_process 92 = .ok (.ireturn, 1) := by decide +kernel
theorem dX11_process_93 : decode cX11_process 93 = .ok (.aload_n 3, 1) := by decide +kernel
theorem dX11_process_94 : decode cX11_process 94 = .ok (.getfield 180, 3) := by decide +kernel
theorem dX11_process_97 : decode cX11_process 97 = .ok (.ifCond .eq 7, 3) := by decide +kernel
theorem dX11_process_100 : decode cX11_process 100 = .ok (.iconst 0, 1) := by decide +kernel
theorem dX11_process_101 : decode cX11_process 101 = .ok (.goto 7, 3) := by decide +kernel
theorem dX11_process_104 : decode cX11_process 104 = .ok (.aload_n 3, 1) := by decide +kernel
theorem dX11_process_105 : decode cX11_process 105 = .ok (.getfield 184, 3) := by decide +kernel
theorem dX11_process_108 : decode cX11_process 108 = .ok (.ireturn, 1) := by decide +kernel
theorem dX11_process_109 : decode cX11_process 109 = .ok (.aload_n 3, 1) := by decide +kernel
theorem dX11_process_110 : decode cX11_process 110 = .ok (.getfield 180, 3) := by decide +kernel
theorem dX11_process_113 : decode cX11_process 113 = .ok (.ifCond .eq 7, 3) := by decide +kernel
theorem dX11_process_116 : decode cX11_process 116 = .ok (.iconst 1, 1) := by decide +kernel
theorem dX11_process_117 : decode cX11_process 117 = .ok (.goto 4, 3) := by decide +kernel
theorem dX11_process_120 : decode cX11_process 120 = .ok (.iconst 0, 1) := by decide +kernel
theorem dX11_process_121 : decode cX11_process 121 = .ok (.ireturn, 1) := by decide +kernel
theorem dX11_process_122 : decode cX11_process 122 = .ok (.aload_n 3, 1) := by decide +kernel
theorem dX11_process_123 : decode cX11_process 123 = .ok (.getfield 187, 3) := by decide +kernel
theorem dX11_process_126 : decode cX11_process 126 = .ok (.ireturn, 1) := by decide +kernel
theorem dX11_process_127 : decode cX11_process 127 = .ok (.aload_n 3, 1) := by decide +kernel
theorem dX11_process_128 : decode cX11_process 128 = .ok (.getfield 188, 3) := by decide +kernel
theorem dX11_process_131 : decode cX11_process 131 = .ok (.ireturn, 1) := by decide +kernel
theorem dX11_process_132 : decode cX11_process 132 = .ok (.aload_n 3, 1) := by decide +kernel
theorem dX11_process_133 : decode cX11_process 133 = .ok (.getfield 191, 3) := by decide +kernel
theorem dX11_process_136 : decode cX11_process 136 = .ok (.ireturn, 1) := by decide +kernel
theorem dX11_process_137 : decode cX11_process 137 = .ok (.aload_n 3, 1) := by decide +kernel
theorem dX11_process_138 : decode cX11_process 138 = .ok (.getfield 194, 3) := by decide +kernel
theorem dX11_process_141 : decode cX11_process 141 = .ok (.ireturn, 1) := by decide +kernel
theorem dX11_process_142 : decode cX11_process 142 = .ok (.aload_n 3, 1) := by decide +kernel
theorem dX11_process_143 : decode cX11_process 143 = .ok (.getfield 197, 3) := by decide +kernel
theorem dX11_process_146 : decode cX11_process 146 = .ok (.ireturn, 1) := by decide +kernel
theorem dX11_process_147 : decode cX11_process 147 = .ok (.aload_n 3, 1) := by decide +kernel
theorem dX11_process_148 : decode cX11_process 148 = .ok (.getfield 200, 3) := by decide +kernel
theorem dX11_process_151 : decode cX11_process 151 = .ok (.ifCond .eq 7, 3) := by decide +kernel
theorem dX11_process_154 : decode cX11_process 154 = .ok (.iconst 1, 1) := by decide +kernel
theorem dX11_process_155 : decode cX11_process 155 = .ok (.goto 4, 3) := by decide +kernel
theorem dX11_process_158 : decode cX11_process 158 = .ok (.iconst 0, 1) := by decide +kernel
theorem dX11_process_159 : decode cX11_process 159 = .ok (.ireturn, 1) := by decide +kernel
theorem dX11_process_160 : decode cX11_process 160 = .ok (.aload_n 3, 1) := by decide +kernel
theorem dX11_process_161 : decode cX11_process 161 = .ok (.getfield 203, 3) := by decide +kernel
theorem dX11_process_164 : decode cX11_process 164 = .ok (.ireturn, 1) := by decide +kernel
theorem dX11_process_165 : decode cX11_process 165 = .ok (.aload_n 3, 1) := by decide +kernel
theorem dX11_process_166 : decode cX11_process 166 = .ok (.getfield 206, 3) := by decide +kernel
theorem dX11_process_169 : decode cX11_process 169 = .ok (.ireturn, 1) := by decide +kernel
theorem dX11_process_170 : decode cX11_process 170 = .ok (.aload_n 3, 1) := by decide +kernel
theorem dX11_process_171 : decode cX11_process 171 = .ok (.getfield 207, 3) := by decide +kernel
theorem dX11_process_174 : decode cX11_process 174 = .ok (.ireturn, 1) := by decide +kernel
theorem dX11_process_175 : decode cX11_process 175 = .ok (.aload_n 3, 1) := by decide +kernel
theorem dX11_process_176 : decode cX11_process 176 = .ok (.getfield 210, 3) := by decide +kernel
theorem dX11_process_179 : decode cX11_process 179 = .ok (.ireturn, 1) := by decide +kernel
theorem dX11_process_180 : decode cX11_process 180 = .ok (.iconst (-1), 1) := by decide +kernel
theorem dX11_process_181 : decode cX11_process 181 = .ok (.ireturn, 1) := by decide +kernel
theorem dX11_mean_0 : decode cX11_mean 0 = .ok (.aload_n 0, 1) := by decide +kernel
theorem dX11_mean_1 : decode cX11_mean 1 = .ok (.iload_n 1, 1) := by decide +kernel
theorem dX11_mean_2 : decode cX11_mean 2 = .ok (.invokevirtual 164, 3) := by decide +kernel
theorem dX11_mean_5 : decode cX11_mean 5 = .ok (.ifCond .ne 7, 3) := by decide +kernel
theorem dX11_mean_8 : decode cX11_mean 8 = .ok (.ldc2_w 213, 3) := by decide +kernel
theorem dX11_mean_11 : decode cX11_mean 11 = .ok (.lreturn, 1) := by decide +kernel
theorem dX11_mean_12 : decode cX11_mean 12 = .ok (.aload_n 0, 1) := by decide +kernel
theorem dX11_mean_13 : decode cX11_mean 13 = .ok (.getfield 40, 3) := by decide +kernel
theorem dX11_mean_16 : decode cX11_mean 16 = .ok (.getfield 171, 3) := by decide +kernel
theorem dX11_mean_19 : decode cX11_mean 19 = .ok (.iload_n 1, 1) := by decide +kernel
theorem dX11_mean_20 : decode cX11_mean 20 = .ok (.aaload, 1) := by decide +kernel
theorem dX11_mean_21 : decode cX11_mean 21 = .ok (.astore_n 2, 1) := by decide +kernel
theorem dX11_mean_22 : decode cX11_mean 22 = .ok (.aload_n 2, 1) := by decide +kernel
theorem dX11_mean_23 : decode cX11_mean 23 = .ok (.getfield 203, 3) := by decide +kernel
theorem dX11_mean_26 : decode cX11_mean 26 = .ok (.ifCond .gt 7, 3) := by decide +kernel
theorem dX11_mean_29 : decode cX11_mean 29 = .ok (.ldc2_w 213, 3) := by decide +kernel
theorem dX11_mean_32 : decode cX11_mean 32 = .ok (.lreturn, 1) := by decide +kernel
theorem dX11_mean_33 : decode cX11_mean 33 = .ok (.aload_n 2, 1) := by decide +kernel
theorem dX11_mean_34 : decode cX11_mean 34 = .ok (.getfield 207, 3) := by decide +kernel
theorem dX11_mean_37 : decode cX11_mean 37 = .ok (.i2d, 1) := by decide +kernel
theorem dX11_mean_38 : decode cX11_mean 38 = .ok (.aload_n 2, 1) := by decide +kernel
theorem dX11_mean_39 : decode cX11_mean 39 = .ok (.getfield 203, 3) := by decide +kernel
theorem dX11_mean_42 : decode cX11_mean 42 = .ok (.i2d, 1) := by decide +kernel
theorem dX11_mean_43 : decode cX11_mean 43 = .ok (.ddiv, 1) := by decide +kernel
theorem dX11_mean_44 : decode cX11_mean 44 = .ok (.invokestatic 215, 3) := by decide +kernel
theorem dX11_mean_47 : decode cX11_mean 47 = .ok (.lreturn, 1) := by decide +kernel
theorem dX11_queue_0 : decode cX11_queue 0 = .ok (.aload_n 0, 1) := by decide +kernel
theorem dX11_queue_1 : decode cX11_queue 1 = .ok (.iload_n 1, 1) := by decide +kernel
theorem dX11_queue_2 : decode cX11_queue 2 = .ok (.invokevirtual 164, 3) := by decide +kernel
theorem dX11_queue_5 : decode cX11_queue 5 = .ok (.ifCond .ne 5, 3) := by decide +kernel
theorem dX11_queue_8 : decode cX11_queue 8 = .ok (.iconst (-1), 1) := by decide +kernel
theorem dX11_queue_9 : decode cX11_queue 9 = .ok (.ireturn, 1) := by decide +kernel
theorem dX11_queue_10 : decode cX11_queue 10 = .ok (.aload_n 0, 1) := by decide +kernel
theorem dX11_queue_11 : decode cX11_queue 11 = .ok (.getfield 40, 3) := by decide +kernel
theorem dX11_queue_14 : decode cX11_queue 14 = .ok (.getfield 219, 3) := by decide +kernel
theorem dX11_queue_17 : decode cX11_queue 17 = .ok (.iload_n 1, 1) := by decide +kernel
theorem dX11_queue_18 : decode cX11_queue 18 = .ok (.aaload, 1) := by decide +kernel
theorem dX11_queue_19 : decode cX11_queue 19 = .ok (.astore_n 3, 1) := by decide +kernel
theorem dX11_queue_20 : decode cX11_queue 20 = .ok (.iload_n 2, 1) := by decide +kernel
theorem dX11_queue_21 : decode cX11_queue 21 = .ok (.tableswitch 183 0 12 #[67, 72, 77, 100, 105, 110, 123, 128, 133, 142, 159, 167, 175], 67) := by decide +kernel
theorem dX11_queue_88 : decode cX11_queue 88 = .ok (.aload_n 3, 1) := by decide +kernel
theorem dX11_queue_89 : decode cX11_queue 89 = .ok (.getfield 223, 3) := by decide +kernel
theorem dX11_queue_92 : decode cX11_queue 92 = .ok (.ireturn, 1) := by decide +kernel
theorem dX11_queue_93 : decode cX11_queue 93 = .ok (.aload_n 3, 1) := by decide +kernel
theorem dX11_queue_94 : decode cX11_queue 94 = .ok (.getfield 228, 3) := by decide +kernel
theorem dX11_queue_97 : decode cX11_queue 97 = .ok (.ireturn, 1) := by decide +kernel
theorem dX11_queue_98 : decode cX11_queue 98 = .ok (.aload_n 0, 1) := by decide +kernel
theorem dX11_queue_99 : decode cX11_queue 99 = .ok (.getfield 40, 3) := by decide +kernel
theorem dX11_queue_102 : decode cX11_queue 102 = .ok (.getfield 119, 3) := by decide +kernel
theorem dX11_queue_105 : decode cX11_queue 105 = .ok (.iload_n 1, 1) := by decide +kernel
theorem dX11_queue_106 : decode cX11_queue 106 = .ok (.if_icmp .ne 13, 3) := by decide +kernel
theorem dX11_queue_109 : decode cX11_queue 109 = .ok (.aload_n 0, 1) := by decide +kernel
theorem dX11_queue_110 : decode cX11_queue 110 = .ok (.getfield 40, 3) := by decide +kernel
theorem dX11_queue_113 : decode cX11_queue 113 = .ok (.getfield 231, 3) := by decide +kernel
theorem dX11_queue_116 : decode cX11_queue 116 = .ok (.goto 4, 3) := by decide +kernel
theorem dX11_queue_119 : decode cX11_queue 119 = .ok (.iconst 0, 1) := by decide +kernel
theorem dX11_queue_120 : decode cX11_queue 120 = .ok (.ireturn, 1) := by decide +kernel
theorem dX11_queue_121 : decode cX11_queue 121 = .ok (.aload_n 3, 1) := by decide +kernel
theorem dX11_queue_122 : decode cX11_queue 122 = .ok (.getfield 234, 3) := by decide +kernel
theorem dX11_queue_125 : decode cX11_queue 125 = .ok (.ireturn, 1) := by decide +kernel
theorem dX11_queue_126 : decode cX11_queue 126 = .ok (.aload_n 3, 1) := by decide +kernel
theorem dX11_queue_127 : decode cX11_queue 127 = .ok (.invokevirtual 237, 3) := by decide +kernel
theorem dX11_queue_130 : decode cX11_queue 130 = .ok (.ireturn, 1) := by decide +kernel
theorem dX11_queue_131 : decode cX11_queue 131 = .ok (.aload_n 3, 1) := by decide +kernel
theorem dX11_queue_132 : decode cX11_queue 132 = .ok (.invokevirtual 240, 3) := by decide +kernel
theorem dX11_queue_135 : decode cX11_queue 135 = .ok (.ifCond .eq 7, 3) := by decide +kernel
theorem dX11_queue_138 : decode cX11_queue 138 = .ok (.iconst 1, 1) := by decide +kernel
theorem dX11_queue_139 : decode cX11_queue 139 = .ok (.goto 4, 3) := by decide +kernel
theorem dX11_queue_142 : decode cX11_queue 142 = .ok (.iconst 0, 1) := by decide +kernel
theorem dX11_queue_143 : decode cX11_queue 143 = .ok (.ireturn, 1) := by decide +kernel
theorem dX11_queue_144 : decode cX11_queue 144 = .ok (.aload_n 3, 1) := by decide +kernel
theorem dX11_queue_145 : decode cX11_queue 145 = .ok (.getfield 243, 3) := by decide +kernel
theorem dX11_queue_148 : decode cX11_queue 148 = .ok (.ireturn, 1) := by decide +kernel
theorem dX11_queue_149 : decode cX11_queue 149 = .ok (.aload_n 3, 1) := by decide +kernel
theorem dX11_queue_150 : decode cX11_queue 150 = .ok (.getfield 246, 3) := by decide +kernel
theorem dX11_queue_153 : decode cX11_queue 153 = .ok (.ireturn, 1) := by decide +kernel
theorem dX11_queue_154 : decode cX11_queue 154 = .ok (.aload_n 0, 1) := by decide +kernel
theorem dX11_queue_155 : decode cX11_queue 155 = .ok (.getfield 40, 3) := by decide +kernel
theorem dX11_queue_158 : decode cX11_queue 158 = .ok (.iload_n 1, 1) := by decide +kernel
theorem dX11_queue_159 : decode cX11_queue 159 = .ok (.invokevirtual 249, 3) := by decide +kernel
theorem dX11_queue_162 : decode cX11_queue 162 = .ok (.ireturn, 1) := by decide +kernel
theorem dX11_queue_163 : decode cX11_queue 163 = .ok (.aload_n 0, 1) := by decide +kernel
theorem dX11_queue_164 : decode cX11_queue 164 = .ok (.getfield 40, 3) := by decide +kernel
theorem dX11_queue_167 : decode cX11_queue 167 = .ok (.iload_n 1, 1) := by decide +kernel
theorem dX11_queue_168 : decode cX11_queue 168 = .ok (.invokevirtual 252, 3) := by decide +kernel
theorem dX11_queue_171 : decode cX11_queue 171 = .ok (.ifCond .eq 7, 3) := by decide +kernel
theorem dX11_queue_174 : decode cX11_queue 174 = .ok (.iconst 1, 1) := by decide +kernel
theorem dX11_queue_175 : decode cX11_queue 175 = .ok (.goto 4, 3) := by decide +kernel
theorem dX11_queue_178 : decode cX11_queue 178 = .ok (.iconst 0, 1) := by decide +kernel
theorem dX11_queue_179 : decode cX11_queue 179 = .ok (.ireturn, 1) := by decide +kernel
theorem dX11_queue_180 : decode cX11_queue 180 = .ok (.aload_n 3, 1) := by decide +kernel
theorem dX11_queue_181 : decode cX11_queue 181 = .ok (.getfield 255, 3) := by decide +kernel
theorem dX11_queue_184 : decode cX11_queue 184 = .ok (.invokestatic 259, 3) := by decide +kernel
theorem dX11_queue_187 : decode cX11_queue 187 = .ok (.ireturn, 1) := by decide +kernel
theorem dX11_queue_188 : decode cX11_queue 188 = .ok (.aload_n 3, 1) := by decide +kernel
theorem dX11_queue_189 : decode cX11_queue 189 = .ok (.getfield 263, 3) := by decide +kernel
theorem dX11_queue_192 : decode cX11_queue 192 = .ok (.invokestatic 259, 3) := by decide +kernel
theorem dX11_queue_195 : decode cX11_queue 195 = .ok (.ireturn, 1) := by decide +kernel
theorem dX11_queue_196 : decode cX11_queue 196 = .ok (.aload_n 3, 1) := by decide +kernel
theorem dX11_queue_197 : decode cX11_queue 197 = .ok (.getfield 266, 3) := by decide +kernel
theorem dX11_queue_200 : decode cX11_queue 200 = .ok (.invokestatic 259, 3) := by decide +kernel
theorem dX11_queue_203 : decode cX11_queue 203 = .ok (.ireturn, 1) := by decide +kernel
theorem dX11_queue_204 : decode cX11_queue 204 = .ok (.iconst (-1), 1) := by decide +kernel
theorem dX11_queue_205 : decode cX11_queue 205 = .ok (.ireturn, 1) := by decide +kernel
theorem dX11_bits_0 : decode cX11_bits 0 = .ok (.aload_n 0, 1) := by decide +kernel
theorem dX11_bits_1 : decode cX11_bits 1 = .ok (.invokevirtual 269, 3) := by decide +kernel
theorem dX11_bits_4 : decode cX11_bits 4 = .ok (.ifCond .ne 5, 3) := by decide +kernel
theorem dX11_bits_7 : decode cX11_bits 7 = .ok (.iconst (-1), 1) := by decide +kernel
theorem dX11_bits_8 : decode cX11_bits 8 = .ok (.ireturn, 1) := by decide +kernel
theorem dX11_bits_9 : decode cX11_bits 9 = .ok (.iload_n 1, 1) := by decide +kernel
theorem dX11_bits_10 : decode cX11_bits 10 = .ok (.lookupswitch 48 #[(0, 26), (1, 37)], 26) := by decide +kernel
theorem dX11_bits_36 : decode cX11_bits 36 = .ok (.aload_n 0, 1) := by decide +kernel
theorem dX11_bits_37 : decode cX11_bits 37 = .ok (.getfield 40, 3) := by decide +kernel
theorem dX11_bits_40 : decode cX11_bits 40 = .ok (.getfield 272, 3) := by decide +kernel
theorem dX11_bits_43 : decode cX11_bits 43 = .ok (.invokestatic 259, 3) := by decide +kernel
theorem dX11_bits_46 : decode cX11_bits 46 = .ok (.ireturn, 1) := by decide +kernel
theorem dX11_bits_47 : decode cX11_bits 47 = .ok (.aload_n 0, 1) := by decide +kernel
theorem dX11_bits_48 : decode cX11_bits 48 = .ok (.getfield 40, 3) := by decide +kernel
theorem dX11_bits_51 : decode cX11_bits 51 = .ok (.getfield 275, 3) := by decide +kernel
theorem dX11_bits_54 : decode cX11_bits 54 = .ok (.invokestatic 259, 3) := by decide +kernel
theorem dX11_bits_57 : decode cX11_bits 57 = .ok (.ireturn, 1) := by decide +kernel
theorem dX11_bits_58 : decode cX11_bits 58 = .ok (.iconst (-1), 1) := by decide +kernel
theorem dX11_bits_59 : decode cX11_bits 59 = .ok (.ireturn, 1) := by decide +kernel
theorem dX11_request_0 : decode cX11_request 0 = .ok (.iload_n 1, 1) := by decide +kernel
theorem dX11_request_1 : decode cX11_request 1 = .ok (.iconst (-1), 1) := by decide +kernel
theorem dX11_request_2 : decode cX11_request 2 = .ok (.if_icmp .ne 32, 3) := by decide +kernel
theorem dX11_request_5 : decode cX11_request 5 = .ok (.iload_n 2, 1) := by decide +kernel
theorem dX11_request_6 : decode cX11_request 6 = .ok (.ifCond .ne 13, 3) := by decide +kernel
theorem dX11_request_9 : decode cX11_request 9 = .ok (.aload_n 0, 1) := by decide +kernel
theorem dX11_request_10 : decode cX11_request 10 = .ok (.getfield 40, 3) := by decide +kernel
theorem dX11_request_13 : decode cX11_request 13 = .ok (.getfield 132, 3) := by decide +kernel
theorem dX11_request_16 : decode cX11_request 16 = .ok (.ifCond .gt 5, 3) := by decide +kernel
theorem dX11_request_19 : decode cX11_request 19 = .ok (.iconst (-1), 1) := by decide +kernel
theorem dX11_request_20 : decode cX11_request 20 = .ok (.ireturn, 1) := by decide +kernel
theorem dX11_request_21 : decode cX11_request 21 = .ok (.aload_n 0, 1) := by decide +kernel
theorem dX11_request_22 : decode cX11_request 22 = .ok (.getfield 40, 3) := by decide +kernel
theorem dX11_request_25 : decode cX11_request 25 = .ok (.getfield 278, 3) := by decide +kernel
theorem dX11_request_28 : decode cX11_request 28 = .ok (.iconst 0, 1) := by decide +kernel
theorem dX11_request_29 : decode cX11_request 29 = .ok (.iload_n 3, 1) := by decide +kernel
theorem dX11_request_30 : decode cX11_request 30 = .ok (.invokestatic 281, 3) := by decide +kernel
theorem dX11_request_33 : decode cX11_request 33 = .ok (.ireturn, 1) := by decide +kernel
theorem dX11_request_34 : decode cX11_request 34 = .ok (.aload_n 0, 1) := by decide +kernel
theorem dX11_request_35 : decode cX11_request 35 = .ok (.iload_n 1, 1) := by decide +kernel
theorem dX11_request_36 : decode cX11_request 36 = .ok (.invokevirtual 164, 3) := by decide +kernel
theorem dX11_request_39 : decode cX11_request 39 = .ok (.ifCond .eq 7, 3) := by decide +kernel
theorem dX11_request_42 : decode cX11_request 42 = .ok (.iload_n 2, 1) := by decide +kernel
theorem dX11_request_43 : decode cX11_request 43 = .ok (.ifCond .ge 5, 3) := by decide +kernel
theorem dX11_request_46 : decode cX11_request 46 = .ok (.iconst (-1), 1) := by decide +kernel
theorem dX11_request_47 : decode cX11_request 47 = .ok (.ireturn, 1) := by decide +kernel
theorem dX11_request_48 : decode cX11_request 48 = .ok (.aload_n 0, 1) := by decide +kernel
theorem dX11_request_49 : decode cX11_request 49 = .ok (.getfield 40, 3) := by decide +kernel
theorem dX11_request_52 : decode cX11_request 52 = .ok (.getfield 287, 3) := by decide +kernel
theorem dX11_request_55 : decode cX11_request 55 = .ok (.iload_n 1, 1) := by decide +kernel
theorem dX11_request_56 : decode cX11_request 56 = .ok (.iload_n 2, 1) := by decide +kernel
theorem dX11_request_57 : decode cX11_request 57 = .ok (.invokevirtual 291, 3) := by decide +kernel
theorem dX11_request_60 : decode cX11_request 60 = .ok (.istore 4, 2) := by decide +kernel
theorem dX11_request_62 : decode cX11_request 62 = .ok (.iload 4, 2) := by decide +kernel
theorem dX11_request_64 : decode cX11_request 64 = .ok (.ifCond .ge 7, 3) := by decide +kernel
theorem dX11_request_67 : decode cX11_request 67 = .ok (.iconst (-1), 1) := by decide +kernel
theorem dX11_request_68 : decode cX11_request 68 = .ok (.goto 19, 3) := by decide +kernel
theorem dX11_request_71 : decode cX11_request 71 = .ok (.aload_n 0, 1) := by decide +kernel
theorem dX11_request_72 : decode cX11_request 72 = .ok (.getfield 40, 3) := by decide +kernel
theorem dX11_request_75 : decode cX11_request 75 = .ok (.getfield 287, 3) := by decide +kernel
theorem dX11_request_78 : decode cX11_request 78 = .ok (.getfield 295, 3) := by decide +kernel
theorem dX11_request_81 : decode cX11_request 81 = .ok (.iload 4, 2) := by decide +kernel
theorem dX11_request_83 : decode cX11_request 83 = .ok (.iload_n 3, 1) := by decide +kernel
theorem dX11_request_84 : decode cX11_request 84 = .ok (.invokestatic 281, 3) := by decide +kernel
theorem dX11_request_87 : decode cX11_request 87 = .ok (.ireturn, 1) := by decide +kernel
theorem dX11_next_0 : decode cX11_next 0 = .ok (.aload_n 0, 1) := by decide +kernel
theorem dX11_next_1 : decode cX11_next 1 = .ok (.iload_n 1, 1) := by decide +kernel
theorem dX11_next_2 : decode cX11_next 2 = .ok (.invokevirtual 164, 3) := by decide +kernel
theorem dX11_next_5 : decode cX11_next 5 = .ok (.ifCond .ne 5, 3) := by decide +kernel
theorem dX11_next_8 : decode cX11_next 8 = .ok (.iconst (-1), 1) := by decide +kernel
theorem dX11_next_9 : decode cX11_next 9 = .ok (.ireturn, 1) := by decide +kernel
theorem dX11_next_10 : decode cX11_next 10 = .ok (.aload_n 0, 1) := by decide +kernel
theorem dX11_next_11 : decode cX11_next 11 = .ok (.getfield 40, 3) := by decide +kernel
theorem dX11_next_14 : decode cX11_next 14 = .ok (.getfield 287, 3) := by decide +kernel
theorem dX11_next_17 : decode cX11_next 17 = .ok (.iload_n 1, 1) := by decide +kernel
theorem dX11_next_18 : decode cX11_next 18 = .ok (.aload_n 0, 1) := by decide +kernel
theorem dX11_next_19 : decode cX11_next 19 = .ok (.getfield 40, 3) := by decide +kernel
theorem dX11_next_22 : decode cX11_next 22 = .ok (.getfield 129, 3) := by decide +kernel
theorem dX11_next_25 : decode cX11_next 25 = .ok (.invokevirtual 298, 3) := by decide +kernel
theorem dX11_next_28 : decode cX11_next 28 = .ok (.istore_n 2, 1) := by decide +kernel
theorem dX11_next_29 : decode cX11_next 29 = .ok (.iload_n 2, 1) := by decide +kernel
theorem dX11_next_30 : decode cX11_next 30 = .ok (.ifCond .ge 7, 3) := by decide +kernel
theorem dX11_next_33 : decode cX11_next 33 = .ok (.iconst (-1), 1) := by decide +kernel
theorem dX11_next_34 : decode cX11_next 34 = .ok (.goto 14, 3) := by decide +kernel
theorem dX11_next_37 : decode cX11_next 37 = .ok (.aload_n 0, 1) := by decide +kernel
theorem dX11_next_38 : decode cX11_next 38 = .ok (.getfield 40, 3) := by decide +kernel
theorem dX11_next_41 : decode cX11_next 41 = .ok (.getfield 287, 3) := by decide +kernel
theorem dX11_next_44 : decode cX11_next 44 = .ok (.iload_n 2, 1) := by decide +kernel
theorem dX11_next_45 : decode cX11_next 45 = .ok (.invokevirtual 301, 3) := by decide +kernel
theorem dX11_next_48 : decode cX11_next 48 = .ok (.ireturn, 1) := by decide +kernel
theorem dX11_kept_0 : decode cX11_kept 0 = .ok (.iload_n 1, 1) := by decide +kernel
theorem dX11_kept_1 : decode cX11_kept 1 = .ok (.ifCond .lt 17, 3) := by decide +kernel
theorem dX11_kept_4 : decode cX11_kept 4 = .ok (.iload_n 1, 1) := by decide +kernel
theorem dX11_kept_5 : decode cX11_kept 5 = .ok (.aload_n 0, 1) := by decide +kernel
theorem dX11_kept_6 : decode cX11_kept 6 = .ok (.getfield 40, 3) := by decide +kernel
theorem dX11_kept_9 : decode cX11_kept 9 = .ok (.getfield 154, 3) := by decide +kernel
theorem dX11_kept_12 : decode cX11_kept 12 = .ok (.invokevirtual 158, 3) := by decide +kernel
theorem dX11_kept_15 : decode cX11_kept 15 = .ok (.if_icmp .lt 5, 3) := by decide +kernel
theorem dX11_kept_18 : decode cX11_kept 18 = .ok (.iconst (-1), 1) := by decide +kernel
theorem dX11_kept_19 : decode cX11_kept 19 = .ok (.ireturn, 1) := by decide +kernel
theorem dX11_kept_20 : decode cX11_kept 20 = .ok (.aload_n 0, 1) := by decide +kernel
theorem dX11_kept_21 : decode cX11_kept 21 = .ok (.getfield 40, 3) := by decide +kernel
theorem dX11_kept_24 : decode cX11_kept 24 = .ok (.getfield 154, 3) := by decide +kernel
theorem dX11_kept_27 : decode cX11_kept 27 = .ok (.iload_n 1, 1) := by decide +kernel
theorem dX11_kept_28 : decode cX11_kept 28 = .ok (.iload_n 2, 1) := by decide +kernel
theorem dX11_kept_29 : decode cX11_kept 29 = .ok (.invokevirtual 304, 3) := by decide +kernel
theorem dX11_kept_32 : decode cX11_kept 32 = .ok (.ireturn, 1) := by decide +kernel
theorem dX11_later_0 : decode cX11_later 0 = .ok (.aload_n 0, 1) := by decide +kernel
theorem dX11_later_1 : decode cX11_later 1 = .ok (.iload_n 2, 1) := by decide +kernel
theorem dX11_later_2 : decode cX11_later 2 = .ok (.invokevirtual 164, 3) := by decide +kernel
theorem dX11_later_5 : decode cX11_later 5 = .ok (.ifCond .eq 23, 3) := by decide +kernel
theorem dX11_later_8 : decode cX11_later 8 = .ok (.iload_n 1, 1) := by decide +kernel
theorem dX11_later_9 : decode cX11_later 9 = .ok (.iconst 0, 1) := by decide +kernel
theorem dX11_later_10 : decode cX11_later 10 = .ok (.sipush 400, 3) := by decide +kernel
theorem dX11_later_13 : decode cX11_later 13 = .ok (.invokestatic 306, 3) := by decide +kernel
theorem dX11_later_16 : decode cX11_later 16 = .ok (.ifCond .eq 12, 3) := by decide +kernel
theorem dX11_later_19 : decode cX11_later 19 = .ok (.iload_n 3, 1) := by decide +kernel
theorem dX11_later_20 : decode cX11_later 20 = .ok (.iconst 0, 1) := by decide +kernel
theorem dX11_later_21 : decode cX11_later 21 = .ok (.iconst 3, 1) := by decide +kernel
theorem dX11_later_22 : decode cX11_later 22 = .ok (.invokestatic 306, 3) := by decide +kernel
theorem dX11_later_25 : decode cX11_later 25 = .ok (.ifCond .ne 5, 3) := by decide +kernel
theorem dX11_later_28 : decode cX11_later 28 = .ok (.iconst (-1), 1) := by decide +kernel
theorem dX11_later_29 : decode cX11_later 29 = .ok (.ireturn, 1) := by decide +kernel
theorem dX11_later_30 : decode cX11_later 30 = .ok (.aload_n 0, 1) := by decide +kernel
theorem dX11_later_31 : decode cX11_later 31 = .ok (.iload_n 1, 1) := by decide +kernel
theorem dX11_later_32 : decode cX11_later 32 = .ok (.invokevirtual 310, 3) := by decide +kernel
theorem dX11_later_35 : decode cX11_later 35 = .ok (.getfield 171, 3) := by decide +kernel
theorem dX11_later_38 : decode cX11_later 38 = .ok (.iload_n 2, 1) := by decide +kernel
theorem dX11_later_39 : decode cX11_later 39 = .ok (.aaload, 1) := by decide +kernel
theorem dX11_later_40 : decode cX11_later 40 = .ok (.astore 4, 2) := by decide +kernel
theorem dX11_later_42 : decode cX11_later 42 = .ok (.iload_n 3, 1) := by decide +kernel
theorem dX11_later_43 : decode cX11_later 43 = .ok (.tableswitch 43 0 2 #[25, 31, 37], 25) := by decide +kernel
theorem dX11_later_68 : decode cX11_later 68 = .ok (.aload 4, 2) := by decide +kernel
theorem dX11_later_70 : decode cX11_later 70 = .ok (.getfield 203, 3) := by decide +kernel
theorem dX11_later_73 : decode cX11_later 73 = .ok (.ireturn, 1) := by decide +kernel
theorem dX11_later_74 : decode cX11_later 74 = .ok (.aload 4, 2) := by decide +kernel
theorem dX11_later_76 : decode cX11_later 76 = .ok (.getfield 206, 3) := by decide +kernel
theorem dX11_later_79 : decode cX11_later 79 = .ok (.ireturn, 1) := by decide +kernel
theorem dX11_later_80 : decode cX11_later 80 = .ok (.aload 4, 2) := by decide +kernel
theorem dX11_later_82 : decode cX11_later 82 = .ok (.getfield 207, 3) := by decide +kernel
theorem dX11_later_85 : decode cX11_later 85 = .ok (.ireturn, 1) := by decide +kernel
theorem dX11_later_86 : decode cX11_later 86 = .ok (.aload 4, 2) := by decide +kernel
theorem dX11_later_88 : decode cX11_later 88 = .ok (.getfield 210, 3) := by decide +kernel
theorem dX11_later_91 : decode cX11_later 91 = .ok (.ireturn, 1) := by decide +kernel
theorem dX11_share_0 : decode cX11_share 0 = .ok (.aload_n 0, 1) := by decide +kernel
theorem dX11_share_1 : decode cX11_share 1 = .ok (.iload_n 2, 1) := by decide +kernel
theorem dX11_share_2 : decode cX11_share 2 = .ok (.invokevirtual 164, 3) := by decide +kernel
theorem dX11_share_5 : decode cX11_share 5 = .ok (.ifCond .eq 14, 3) := by decide +kernel
theorem dX11_share_8 : decode cX11_share 8 = .ok (.iload_n 1, 1) := by decide +kernel
theorem dX11_share_9 : decode cX11_share 9 = .ok (.iconst 1, 1) := by decide +kernel
theorem dX11_share_10 : decode cX11_share 10 = .ok (.sipush 400, 3) := by decide +kernel
theorem dX11_share_13 : decode cX11_share 13 = .ok (.invokestatic 306, 3) := by decide +kernel
theorem dX11_share_16 : decode cX11_share 16 = .ok (.ifCond .ne 5, 3) := by decide +kernel
theorem dX11_share_19 : decode cX11_share 19 = .ok (.iconst (-1), 1) := by decide +kernel
theorem dX11_share_20 : decode cX11_share 20 = .ok (.ireturn, 1) := by decide +kernel
theorem dX11_share_21 : decode cX11_share 21 = .ok (.aload_n 0, 1) := by decide +kernel
theorem dX11_share_22 : decode cX11_share 22 = .ok (.iload_n 1, 1) := by decide +kernel
theorem dX11_share_23 : decode cX11_share 23 = .ok (.invokevirtual 310, 3) := by decide +kernel
theorem dX11_share_26 : decode cX11_share 26 = .ok (.astore_n 3, 1) := by decide +kernel
theorem dX11_share_27 : decode cX11_share 27 = .ok (.aload_n 3, 1) := by decide +kernel
theorem dX11_share_28 : decode cX11_share 28 = .ok (.invokevirtual 314, 3) := by decide +kernel
theorem dX11_share_31 : decode cX11_share 31 = .ok (.istore 4, 2) := by decide +kernel
theorem dX11_share_33 : decode cX11_share 33 = .ok (.iload 4, 2) := by decide +kernel
theorem dX11_share_35 : decode cX11_share 35 = .ok (.ifCond .gt 7, 3) := by decide +kernel
theorem dX11_share_38 : decode cX11_share 38 = .ok (.iconst (-1), 1) := by decide +kernel
theorem dX11_share_39 : decode cX11_share 39 = .ok (.goto 18, 3) := by decide +kernel
theorem dX11_share_42 : decode cX11_share 42 = .ok (.aload_n 3, 1) := by decide +kernel
theorem dX11_share_43 : decode cX11_share 43 = .ok (.getfield 171, 3) := by decide +kernel
theorem dX11_share_46 : decode cX11_share 46 = .ok (.iload_n 2, 1) := by decide +kernel
theorem dX11_share_47 : decode cX11_share 47 = .ok (.aaload, 1) := by decide +kernel
theorem dX11_share_48 : decode cX11_share 48 = .ok (.getfield 206, 3) := by decide +kernel
theorem dX11_share_51 : decode cX11_share 51 = .ok (.bipush 100, 2) := by decide +kernel
theorem dX11_share_53 : decode cX11_share 53 = .ok (.imul, 1) := by decide +kernel
theorem dX11_share_54 : decode cX11_share 54 = .ok (.iload 4, 2) := by decide +kernel
theorem dX11_share_56 : decode cX11_share 56 = .ok (.idiv, 1) := by decide +kernel
theorem dX11_share_57 : decode cX11_share 57 = .ok (.ireturn, 1) := by decide +kernel
theorem dX11_when_0 : decode cX11_when 0 = .ok (.aload_n 0, 1) := by decide +kernel
theorem dX11_when_1 : decode cX11_when 1 = .ok (.iload_n 1, 1) := by decide +kernel
theorem dX11_when_2 : decode cX11_when 2 = .ok (.invokevirtual 164, 3) := by decide +kernel
theorem dX11_when_5 : decode cX11_when 5 = .ok (.ifCond .eq 13, 3) := by decide +kernel
theorem dX11_when_8 : decode cX11_when 8 = .ok (.iload_n 2, 1) := by decide +kernel
theorem dX11_when_9 : decode cX11_when 9 = .ok (.iconst 1, 1) := by decide +kernel
theorem dX11_when_10 : decode cX11_when 10 = .ok (.bipush 40, 2) := by decide +kernel
theorem dX11_when_12 : decode cX11_when 12 = .ok (.invokestatic 306, 3) := by decide +kernel
theorem dX11_when_15 : decode cX11_when 15 = .ok (.ifCond .ne 5, 3) := by decide +kernel
theorem dX11_when_18 : decode cX11_when 18 = .ok (.iconst (-1), 1) := by decide +kernel
theorem dX11_when_19 : decode cX11_when 19 = .ok (.ireturn, 1) := by decide +kernel
theorem dX11_when_20 : decode cX11_when 20 = .ok (.aload_n 0, 1) := by decide +kernel
theorem dX11_when_21 : decode cX11_when 21 = .ok (.invokevirtual 317, 3) := by decide +kernel
theorem dX11_when_24 : decode cX11_when 24 = .ok (.astore_n 3, 1) := by decide +kernel
theorem dX11_when_25 : decode cX11_when 25 = .ok (.aload_n 3, 1) := by decide +kernel
theorem dX11_when_26 : decode cX11_when 26 = .ok (.getfield 171, 3) := by decide +kernel
theorem dX11_when_29 : decode cX11_when 29 = .ok (.iload_n 1, 1) := by decide +kernel
theorem dX11_when_30 : decode cX11_when 30 = .ok (.aaload, 1) := by decide +kernel
theorem dX11_when_31 : decode cX11_when 31 = .ok (.astore 4, 2) := by decide +kernel
theorem dX11_when_33 : decode cX11_when 33 = .ok (.iconst 1, 1) := by decide +kernel
theorem dX11_when_34 : decode cX11_when 34 = .ok (.istore 5, 2) := by decide +kernel
theorem dX11_when_36 : decode cX11_when 36 = .ok (.iload 5, 2) := by decide +kernel
theorem dX11_when_38 : decode cX11_when 38 = .ok (.sipush 400, 3) := by decide +kernel
theorem dX11_when_41 : decode cX11_when 41 = .ok (.if_icmp .gt 26, 3) := by decide +kernel
theorem dX11_when_44 : decode cX11_when 44 = .ok (.aload_n 3, 1) := by decide +kernel
theorem dX11_when_45 : decode cX11_when 45 = .ok (.iconst 1, 1) := by decide +kernel
theorem dX11_when_46 : decode cX11_when 46 = .ok (.invokevirtual 321, 3) := by decide +kernel
theorem dX11_when_49 : decode cX11_when 49 = .ok (.aload 4, 2) := by decide +kernel
theorem dX11_when_51 : decode cX11_when 51 = .ok (.getfield 203, 3) := by decide +kernel
theorem dX11_when_54 : decode cX11_when 54 = .ok (.iload_n 2, 1) := by decide +kernel
theorem dX11_when_55 : decode cX11_when 55 = .ok (.if_icmp .lt 6, 3) := by decide +kernel
theorem dX11_when_58 : decode cX11_when 58 = .ok (.iload 5, 2) := by decide +kernel
theorem dX11_when_60 : decode cX11_when 60 = .ok (.ireturn, 1) := by decide +kernel
theorem dX11_when_61 : decode cX11_when 61 = .ok (.iinc 5 1, 3) := by decide +kernel
theorem dX11_when_64 : decode cX11_when 64 = .ok (.goto (-28), 3) := by decide +kernel
theorem dX11_when_67 : decode cX11_when 67 = .ok (.iconst (-1), 1) := by decide +kernel
theorem dX11_when_68 : decode cX11_when 68 = .ok (.ireturn, 1) := by decide +kernel
theorem dX11_late_0 : decode cX11_late 0 = .ok (.aload_n 0, 1) := by decide +kernel
theorem dX11_late_1 : decode cX11_late 1 = .ok (.iload_n 2, 1) := by decide +kernel
theorem dX11_late_2 : decode cX11_late 2 = .ok (.invokevirtual 164, 3) := by decide +kernel
theorem dX11_late_5 : decode cX11_late 5 = .ok (.ifCond .eq 18, 3) := by decide +kernel
theorem dX11_late_8 : decode cX11_late 8 = .ok (.iload_n 1, 1) := by decide +kernel
theorem dX11_late_9 : decode cX11_late 9 = .ok (.iconst 0, 1) := by decide +kernel
theorem dX11_late_10 : decode cX11_late 10 = .ok (.sipush 400, 3) := by decide +kernel
theorem dX11_late_13 : decode cX11_late 13 = .ok (.invokestatic 306, 3) := by decide +kernel
theorem dX11_late_16 : decode cX11_late 16 = .ok (.ifCond .eq 7, 3) := by decide +kernel
theorem dX11_late_19 : decode cX11_late 19 = .ok (.iload_n 3, 1) := by decide +kernel
theorem dX11_late_20 : decode cX11_late 20 = .ok (.ifCond .ge 5, 3) := by decide +kernel
theorem dX11_late_23 : decode cX11_late 23 = .ok (.iconst (-1), 1) := by decide +kernel
theorem dX11_late_24 : decode cX11_late 24 = .ok (.ireturn, 1) := by decide +kernel
theorem dX11_late_25 : decode cX11_late 25 = .ok (.aload_n 0, 1) := by decide +kernel
theorem dX11_late_26 : decode cX11_late 26 = .ok (.iload_n 1, 1) := by decide +kernel
theorem dX11_late_27 : decode cX11_late 27 = .ok (.iload_n 3, 1) := by decide +kernel
theorem dX11_late_28 : decode cX11_late 28 = .ok (.invokevirtual 324, 3) := by decide +kernel
theorem dX11_late_31 : decode cX11_late 31 = .ok (.getfield 171, 3) := by decide +kernel
theorem dX11_late_34 : decode cX11_late 34 = .ok (.iload_n 2, 1) := by decide +kernel
theorem dX11_late_35 : decode cX11_late 35 = .ok (.aaload, 1) := by decide +kernel
theorem dX11_late_36 : decode cX11_late 36 = .ok (.getfield 328, 3) := by decide +kernel
theorem dX11_late_39 : decode cX11_late 39 = .ok (.ireturn, 1) := by decide +kernel
theorem dX11_alone_0 : decode cX11_alone 0 = .ok (.aload_n 0, 1) := by decide +kernel
theorem dX11_alone_1 : decode cX11_alone 1 = .ok (.iload_n 2, 1) := by decide +kernel
theorem dX11_alone_2 : decode cX11_alone 2 = .ok (.invokevirtual 164, 3) := by decide +kernel
theorem dX11_alone_5 : decode cX11_alone 5 = .ok (.ifCond .eq 14, 3) := by decide +kernel
theorem dX11_alone_8 : decode cX11_alone 8 = .ok (.iload_n 1, 1) := by decide +kernel
theorem dX11_alone_9 : decode cX11_alone 9 = .ok (.iconst 0, 1) := by decide +kernel
theorem dX11_alone_10 : decode cX11_alone 10 = .ok (.sipush 400, 3) := by decide +kernel
theorem dX11_alone_13 : decode cX11_alone 13 = .ok (.invokestatic 306, 3) := by decide +kernel
theorem dX11_alone_16 : decode cX11_alone 16 = .ok (.ifCond .ne 5, 3) := by decide +kernel
theorem dX11_alone_19 : decode cX11_alone 19 = .ok (.iconst (-1), 1) := by decide +kernel
theorem dX11_alone_20 : decode cX11_alone 20 = .ok (.ireturn, 1) := by decide +kernel
theorem dX11_alone_21 : decode cX11_alone 21 = .ok (.aload_n 0, 1) := by decide +kernel
theorem dX11_alone_22 : decode cX11_alone 22 = .ok (.invokevirtual 317, 3) := by decide +kernel
theorem dX11_alone_25 : decode cX11_alone 25 = .ok (.astore_n 3, 1) := by decide +kernel
theorem dX11_alone_26 : decode cX11_alone 26 = .ok (.iconst 0, 1) := by decide +kernel
theorem dX11_alone_27 : decode cX11_alone 27 = .ok (.istore 4, 2) := by decide +kernel
theorem dX11_alone_29 : decode cX11_alone 29 = .ok (.iload 4, 2) := by decide +kernel
theorem dX11_alone_31 : decode cX11_alone 31 = .ok (.aload_n 0, 1) := by decide +kernel
theorem dX11_alone_32 : decode cX11_alone 32 = .ok (.getfield 10, 3) := by decide +kernel
theorem dX11_alone_35 : decode cX11_alone 35 = .ok (.getfield 125, 3) := by decide +kernel
theorem dX11_alone_38 : decode cX11_alone 38 = .ok (.if_icmp .ge 30, 3) := by decide +kernel
theorem dX11_alone_41 : decode cX11_alone 41 = .ok (.aload_n 3, 1) := by decide +kernel
theorem dX11_alone_42 : decode cX11_alone 42 = .ok (.getfield 171, 3) := by decide +kernel
theorem dX11_alone_45 : decode cX11_alone 45 = .ok (.iload 4, 2) := by decide +kernel
theorem dX11_alone_47 : decode cX11_alone 47 = .ok (.aaload, 1) := by decide +kernel
theorem dX11_alone_48 : decode cX11_alone 48 = .ok (.iload 4, 2) := by decide +kernel
theorem dX11_alone_50 : decode cX11_alone 50 = .ok (.iload_n 2, 1) := by decide +kernel
theorem dX11_alone_51 : decode cX11_alone 51 = .ok (.if_icmp .ne 7, 3) := by decide +kernel
theorem dX11_alone_54 : decode cX11_alone 54 = .ok (.iconst 1, 1) := by decide +kernel
theorem dX11_alone_55 : decode cX11_alone 55 = .ok (.goto 4, 3) := by decide +kernel
theorem dX11_alone_58 : decode cX11_alone 58 = .ok (.iconst 0, 1) := by decide +kernel
theorem dX11_alone_59 : decode cX11_alone 59 = .ok (.putfield 200, 3) := by decide +kernel
theorem dX11_alone_62 : decode cX11_alone 62 = .ok (.iinc 4 1, 3) := by decide +kernel
theorem dX11_alone_65 : decode cX11_alone 65 = .ok (.goto (-36), 3) := by decide +kernel
theorem dX11_alone_68 : decode cX11_alone 68 = .ok (.aload_n 3, 1) := by decide +kernel
theorem dX11_alone_69 : decode cX11_alone 69 = .ok (.iload_n 1, 1) := by decide +kernel
theorem dX11_alone_70 : decode cX11_alone 70 = .ok (.invokevirtual 321, 3) := by decide +kernel
theorem dX11_alone_73 : decode cX11_alone 73 = .ok (.aload_n 3, 1) := by decide +kernel
theorem dX11_alone_74 : decode cX11_alone 74 = .ok (.getfield 171, 3) := by decide +kernel
theorem dX11_alone_77 : decode cX11_alone 77 = .ok (.iload_n 2, 1) := by decide +kernel
theorem dX11_alone_78 : decode cX11_alone 78 = .ok (.aaload, 1) := by decide +kernel
theorem dX11_alone_79 : decode cX11_alone 79 = .ok (.getfield 206, 3) := by decide +kernel
theorem dX11_alone_82 : decode cX11_alone 82 = .ok (.ireturn, 1) := by decide +kernel
theorem dX11_idling_0 : decode cX11_idling 0 = .ok (.aload_n 0, 1) := by decide +kernel
theorem dX11_idling_1 : decode cX11_idling 1 = .ok (.getfield 10, 3) := by decide +kernel
theorem dX11_idling_4 : decode cX11_idling 4 = .ok (.getfield 125, 3) := by decide +kernel
theorem dX11_idling_7 : decode cX11_idling 7 = .ok (.ifCond .eq 23, 3) := by decide +kernel
theorem dX11_idling_10 : decode cX11_idling 10 = .ok (.iload_n 1, 1) := by decide +kernel
theorem dX11_idling_11 : decode cX11_idling 11 = .ok (.iconst 1, 1) := by decide +kernel
theorem dX11_idling_12 : decode cX11_idling 12 = .ok (.sipush 200, 3) := by decide +kernel
theorem dX11_idling_15 : decode cX11_idling 15 = .ok (.invokestatic 306, 3) := by decide +kernel
theorem dX11_idling_18 : decode cX11_idling 18 = .ok (.ifCond .eq 12, 3) := by decide +kernel
theorem dX11_idling_21 : decode cX11_idling 21 = .ok (.iload_n 2, 1) := by decide +kernel
theorem dX11_idling_22 : decode cX11_idling 22 = .ok (.iconst 0, 1) := by decide +kernel
theorem dX11_idling_23 : decode cX11_idling 23 = .ok (.iconst 1, 1) := by decide +kernel
theorem dX11_idling_24 : decode cX11_idling 24 = .ok (.invokestatic 306, 3) := by decide +kernel
theorem dX11_idling_27 : decode cX11_idling 27 = .ok (.ifCond .ne 5, 3) := by decide +kernel
theorem dX11_idling_30 : decode cX11_idling 30 = .ok (.iconst (-1), 1) := by decide +kernel
theorem dX11_idling_31 : decode cX11_idling 31 = .ok (.ireturn, 1) := by decide +kernel
theorem dX11_idling_32 : decode cX11_idling 32 = .ok (.iconst 0, 1) := by decide +kernel
theorem dX11_idling_33 : decode cX11_idling 33 = .ok (.istore_n 3, 1) := by decide +kernel
theorem dX11_idling_34 : decode cX11_idling 34 = .ok (.iconst (-1), 1) := by decide +kernel
theorem dX11_idling_35 : decode cX11_idling 35 = .ok (.istore 4, 2) := by decide +kernel
theorem dX11_idling_37 : decode cX11_idling 37 = .ok (.iconst 0, 1) := by decide +kernel
theorem dX11_idling_38 : decode cX11_idling 38 = .ok (.istore 5, 2) := by decide +kernel
theorem dX11_idling_40 : decode cX11_idling 40 = .ok (.iload 5, 2) := by decide +kernel
theorem dX11_idling_42 : decode cX11_idling 42 = .ok (.bipush 20, 2) := by decide +kernel
theorem dX11_idling_44 : decode cX11_idling 44 = .ok (.if_icmp .gt 32, 3) := by decide +kernel
theorem dX11_idling_47 : decode cX11_idling 47 = .ok (.aload_n 0, 1) := by decide +kernel
theorem dX11_idling_48 : decode cX11_idling 48 = .ok (.iload_n 1, 1) := by decide +kernel
theorem dX11_idling_49 : decode cX11_idling 49 = .ok (.iload 5, 2) := by decide +kernel
theorem dX11_idling_51 : decode cX11_idling 51 = .ok (.invokevirtual 331, 3) := by decide +kernel
theorem dX11_idling_54 : decode cX11_idling 54 = .ok (.istore 6, 2) := by decide +kernel
theorem dX11_idling_56 : decode cX11_idling 56 = .ok (.iload 6, 2) := by decide +kernel
theorem dX11_idling_58 : decode cX11_idling 58 = .ok (.iload 4, 2) := by decide +kernel
theorem dX11_idling_60 : decode cX11_idling 60 = .ok (.if_icmp .le 10, 3) := by decide +kernel
theorem dX11_idling_63 : decode cX11_idling 63 = .ok (.iload 6, 2) := by decide +kernel
theorem dX11_idling_65 : decode cX11_idling 65 = .ok (.istore 4, 2) := by decide +kernel
theorem dX11_idling_67 : decode cX11_idling 67 = .ok (.iload 5, 2) := by decide +kernel
theorem dX11_idling_69 : decode cX11_idling 69 = .ok (.istore_n 3, 1) := by decide +kernel
theorem dX11_idling_70 : decode cX11_idling 70 = .ok (.iinc 5 1, 3) := by decide +kernel
theorem dX11_idling_73 : decode cX11_idling 73 = .ok (.goto (-33), 3) := by decide +kernel
theorem dX11_idling_76 : decode cX11_idling 76 = .ok (.iload_n 2, 1) := by decide +kernel
theorem dX11_idling_77 : decode cX11_idling 77 = .ok (.ifCond .ne 7, 3) := by decide +kernel
theorem dX11_idling_80 : decode cX11_idling 80 = .ok (.iload_n 3, 1) := by decide +kernel
theorem dX11_idling_81 : decode cX11_idling 81 = .ok (.goto 5, 3) := by decide +kernel
theorem dX11_idling_84 : decode cX11_idling 84 = .ok (.iload 4, 2) := by decide +kernel
theorem dX11_idling_86 : decode cX11_idling 86 = .ok (.ireturn, 1) := by decide +kernel
theorem dX11_gain_0 : decode cX11_gain 0 = .ok (.aload_n 0, 1) := by decide +kernel
theorem dX11_gain_1 : decode cX11_gain 1 = .ok (.invokevirtual 269, 3) := by decide +kernel
theorem dX11_gain_4 : decode cX11_gain 4 = .ok (.ifCond .eq 23, 3) := by decide +kernel
theorem dX11_gain_7 : decode cX11_gain 7 = .ok (.iload_n 1, 1) := by decide +kernel
theorem dX11_gain_8 : decode cX11_gain 8 = .ok (.iconst 1, 1) := by decide +kernel
theorem dX11_gain_9 : decode cX11_gain 9 = .ok (.sipush 200, 3) := by decide +kernel
theorem dX11_gain_12 : decode cX11_gain 12 = .ok (.invokestatic 306, 3) := by decide +kernel
theorem dX11_gain_15 : decode cX11_gain 15 = .ok (.ifCond .eq 12, 3) := by decide +kernel
theorem dX11_gain_18 : decode cX11_gain 18 = .ok (.iload_n 2, 1) := by decide +kernel
theorem dX11_gain_19 : decode cX11_gain 19 = .ok (.iconst 0, 1) := by decide +kernel
theorem dX11_gain_20 : decode cX11_gain 20 = .ok (.iconst 1, 1) := by decide +kernel
theorem dX11_gain_21 : decode cX11_gain 21 = .ok (.invokestatic 306, 3) := by decide +kernel
theorem dX11_gain_24 : decode cX11_gain 24 = .ok (.ifCond .ne 5, 3) := by decide +kernel
theorem dX11_gain_27 : decode cX11_gain 27 = .ok (.iconst (-1), 1) := by decide +kernel
theorem dX11_gain_28 : decode cX11_gain 28 = .ok (.ireturn, 1) := by decide +kernel
theorem dX11_gain_29 : decode cX11_gain 29 = .ok (.aload_n 0, 1) := by decide +kernel
theorem dX11_gain_30 : decode cX11_gain 30 = .ok (.iload_n 1, 1) := by decide +kernel
theorem dX11_gain_31 : decode cX11_gain 31 = .ok (.iload_n 2, 1) := by decide +kernel
theorem dX11_gain_32 : decode cX11_gain 32 = .ok (.ifCond .ne 13, 3) := by decide +kernel
theorem dX11_gain_35 : decode cX11_gain 35 = .ok (.aload_n 0, 1) := by decide +kernel
theorem dX11_gain_36 : decode cX11_gain 36 = .ok (.getfield 40, 3) := by decide +kernel
theorem dX11_gain_39 : decode cX11_gain 39 = .ok (.getfield 145, 3) := by decide +kernel
theorem dX11_gain_42 : decode cX11_gain 42 = .ok (.goto 4, 3) := by decide +kernel
theorem dX11_gain_45 : decode cX11_gain 45 = .ok (.iconst 0, 1) := by decide +kernel
theorem dX11_gain_46 : decode cX11_gain 46 = .ok (.invokevirtual 331, 3) := by decide +kernel
theorem dX11_gain_49 : decode cX11_gain 49 = .ok (.ireturn, 1) := by decide +kernel
theorem dX11_apart_0 : decode cX11_apart 0 = .ok (.aload_n 0, 1) := by decide +kernel
theorem dX11_apart_1 : decode cX11_apart 1 = .ok (.getfield 10, 3) := by decide +kernel
theorem dX11_apart_4 : decode cX11_apart 4 = .ok (.getfield 125, 3) := by decide +kernel
theorem dX11_apart_7 : decode cX11_apart 7 = .ok (.ifCond .eq 14, 3) := by decide +kernel
theorem dX11_apart_10 : decode cX11_apart 10 = .ok (.iload_n 1, 1) := by decide +kernel
theorem dX11_apart_11 : decode cX11_apart 11 = .ok (.iconst 1, 1) := by decide +kernel
theorem dX11_apart_12 : decode cX11_apart 12 = .ok (.sipush 400, 3) := by decide +kernel
theorem dX11_apart_15 : decode cX11_apart 15 = .ok (.invokestatic 306, 3) := by decide +kernel
theorem dX11_apart_18 : decode cX11_apart 18 = .ok (.ifCond .ne 5, 3) := by decide +kernel
theorem dX11_apart_21 : decode cX11_apart 21 = .ok (.iconst (-1), 1) := by decide +kernel
theorem dX11_apart_22 : decode cX11_apart 22 = .ok (.ireturn, 1) := by decide +kernel
theorem dX11_apart_23 : decode cX11_apart 23 = .ok (.aload_n 0, 1) := by decide +kernel
theorem dX11_apart_24 : decode cX11_apart 24 = .ok (.iload_n 1, 1) := by decide +kernel
theorem dX11_apart_25 : decode cX11_apart 25 = .ok (.invokevirtual 310, 3) := by decide +kernel
theorem dX11_apart_28 : decode cX11_apart 28 = .ok (.astore_n 2, 1) := by decide +kernel
theorem dX11_apart_29 : decode cX11_apart 29 = .ok (.aload_n 2, 1) := by decide +kernel
theorem dX11_apart_30 : decode cX11_apart 30 = .ok (.iconst 0, 1) := by decide +kernel
theorem dX11_apart_31 : decode cX11_apart 31 = .ok (.invokevirtual 334, 3) := by decide +kernel
theorem dX11_apart_34 : decode cX11_apart 34 = .ok (.fstore_n 3, 1) := by decide +kernel
theorem dX11_apart_35 : decode cX11_apart 35 = .ok (.fload_n 3, 1) := by decide +kernel
theorem dX11_apart_36 : decode cX11_apart 36 = .ok (.fstore 4, 2) := by decide +kernel
theorem dX11_apart_38 : decode cX11_apart 38 = .ok (.iconst 1, 1) := by decide +kernel
theorem dX11_apart_39 : decode cX11_apart 39 = .ok (.istore 5, 2) := by decide +kernel
theorem dX11_apart_41 : decode cX11_apart 41 = .ok (.iload 5, 2) := by decide +kernel
theorem dX11_apart_43 : decode cX11_apart 43 = .ok (.aload_n 0, 1) := by decide +kernel
theorem dX11_apart_44 : decode cX11_apart 44 = .ok (.getfield 10, 3) := by decide +kernel
theorem dX11_apart_47 : decode cX11_apart 47 = .ok (.getfield 125, 3) := by decide +kernel
theorem dX11_apart_50 : decode cX11_apart 50 = .ok (.if_icmp .ge 48, 3) := by decide +kernel
theorem dX11_apart_53 : decode cX11_apart 53 = .ok (.aload_n 2, 1) := by decide +kernel
theorem dX11_apart_54 : decode cX11_apart 54 = .ok (.iload 5, 2) := by decide +kernel
theorem dX11_apart_56 : decode cX11_apart 56 = .ok (.invokevirtual 334, 3) := by decide +kernel
theorem dX11_apart_59 : decode cX11_apart 59 = .ok (.fstore 6, 2) := by decide +kernel
theorem dX11_apart_61 : decode cX11_apart 61 = .ok (.fload 6, 2) := by decide +kernel
theorem dX11_apart_63 : decode cX11_apart 63 = .ok (.fload_n 3, 1) := by decide +kernel
theorem dX11_apart_64 : decode cX11_apart 64 = .ok (.fcmp .l, 1) := by decide +kernel
theorem dX11_apart_65 : decode cX11_apart 65 = .ok (.ifCond .le 8, 3) := by decide +kernel
theorem dX11_apart_68 : decode cX11_apart 68 = .ok (.fload 6, 2) := by decide +kernel
theorem dX11_apart_70 : decode cX11_apart 70 = .ok (.goto 4, 3) := by decide +kernel
theorem dX11_apart_73 : decode cX11_apart 73 = .ok (.fload_n 3, 1) := by decide +kernel
theorem dX11_apart_74 : decode cX11_apart 74 = .ok (.fstore_n 3, 1) := by decide +kernel
theorem dX11_apart_75 : decode cX11_apart 75 = .ok (.fload 6, 2) := by decide +kernel
theorem dX11_apart_77 : decode cX11_apart 77 = .ok (.fload 4, 2) := by decide +kernel
theorem dX11_apart_79 : decode cX11_apart 79 = .ok (.fcmp .g, 1) := by decide +kernel
theorem dX11_apart_80 : decode cX11_apart 80 = .ok (.ifCond .ge 8, 3) := by decide +kernel
theorem dX11_apart_83 : decode cX11_apart 83 = .ok (.fload 6, 2) := by decide +kernel
theorem dX11_apart_85 : decode cX11_apart 85 = .ok (.goto 5, 3) := by decide +kernel
theorem dX11_apart_88 : decode cX11_apart 88 = .ok (.fload 4, 2) := by decide +kernel
theorem dX11_apart_90 : decode cX11_apart 90 = .ok (.fstore 4, 2) := by decide +kernel
theorem dX11_apart_92 : decode cX11_apart 92 = .ok (.iinc 5 1, 3) := by decide +kernel
theorem dX11_apart_95 : decode cX11_apart 95 = .ok (.goto (-54), 3) := by decide +kernel
theorem dX11_apart_98 : decode cX11_apart 98 = .ok (.fload_n 3, 1) := by decide +kernel
theorem dX11_apart_99 : decode cX11_apart 99 = .ok (.fload 4, 2) := by decide +kernel
theorem dX11_apart_101 : decode cX11_apart 101 = .ok (.fsub, 1) := by decide +kernel
theorem dX11_apart_102 : decode cX11_apart 102 = .ok (.invokestatic 259, 3) := by decide +kernel
theorem dX11_apart_105 : decode cX11_apart 105 = .ok (.ireturn, 1) := by decide +kernel
theorem dX11_latest_0 : decode cX11_latest 0 = .ok (.iload_n 1, 1) := by decide +kernel
theorem dX11_latest_1 : decode cX11_latest 1 = .ok (.iconst 1, 1) := by decide +kernel
theorem dX11_latest_2 : decode cX11_latest 2 = .ok (.sipush 400, 3) := by decide +kernel
theorem dX11_latest_5 : decode cX11_latest 5 = .ok (.invokestatic 306, 3) := by decide +kernel
theorem dX11_latest_8 : decode cX11_latest 8 = .ok (.ifCond .eq 26, 3) := by decide +kernel
theorem dX11_latest_11 : decode cX11_latest 11 = .ok (.iload_n 2, 1) := by decide +kernel
theorem dX11_latest_12 : decode cX11_latest 12 = .ok (.ifCond .lt 22, 3) := by decide +kernel
theorem dX11_latest_15 : decode cX11_latest 15 = .ok (.iload_n 3, 1) := by decide +kernel
theorem dX11_latest_16 : decode cX11_latest 16 = .ok (.iconst 0, 1) := by decide +kernel
theorem dX11_latest_17 : decode cX11_latest 17 = .ok (.iconst 1, 1) := by decide +kernel
theorem dX11_latest_18 : decode cX11_latest 18 = .ok (.invokestatic 306, 3) := by decide +kernel
theorem dX11_latest_21 : decode cX11_latest 21 = .ok (.ifCond .eq 13, 3) := by decide +kernel
theorem dX11_latest_24 : decode cX11_latest 24 = .ok (.aload_n 0, 1) := by decide +kernel
theorem dX11_latest_25 : decode cX11_latest 25 = .ok (.getfield 10, 3) := by decide +kernel
theorem dX11_latest_28 : decode cX11_latest 28 = .ok (.getfield 125, 3) := by decide +kernel
theorem dX11_latest_31 : decode cX11_latest 31 = .ok (.ifCond .ne 5, 3) := by decide +kernel
theorem dX11_latest_34 : decode cX11_latest 34 = .ok (.iconst (-1), 1) := by decide +kernel
theorem dX11_latest_35 : decode cX11_latest 35 = .ok (.ireturn, 1) := by decide +kernel
theorem dX11_latest_36 : decode cX11_latest 36 = .ok (.aload_n 0, 1) := by decide +kernel
theorem dX11_latest_37 : decode cX11_latest 37 = .ok (.iload_n 1, 1) := by decide +kernel
theorem dX11_latest_38 : decode cX11_latest 38 = .ok (.iload_n 2, 1) := by decide +kernel
theorem dX11_latest_39 : decode cX11_latest 39 = .ok (.invokevirtual 324, 3) := by decide +kernel
theorem dX11_latest_42 : decode cX11_latest 42 = .ok (.astore 4, 2) := by decide +kernel
theorem dX11_latest_44 : decode cX11_latest 44 = .ok (.iconst (-1), 1) := by decide +kernel
theorem dX11_latest_45 : decode cX11_latest 45 = .ok (.istore 5, 2) := by decide +kernel
theorem dX11_latest_47 : decode cX11_latest 47 = .ok (.iconst 0, 1) := by decide +kernel
theorem dX11_latest_48 : decode cX11_latest 48 = .ok (.istore 6, 2) := by decide +kernel
theorem dX11_latest_50 : decode cX11_latest 50 = .ok (.iconst 0, 1) := by decide +kernel
theorem dX11_latest_51 : decode cX11_latest 51 = .ok (.istore 7, 2) := by decide +kernel
theorem dX11_latest_53 : decode cX11_latest 53 = .ok (.iload 7, 2) := by decide +kernel
theorem dX11_latest_55 : decode cX11_latest 55 = .ok (.aload_n 0, 1) := by decide +kernel
theorem dX11_latest_56 : decode cX11_latest 56 = .ok (.getfield 10, 3) := by decide +kernel
theorem dX11_latest_59 : decode cX11_latest 59 = .ok (.getfield 125, 3) := by decide +kernel
theorem dX11_latest_62 : decode cX11_latest 62 = .ok (.if_icmp .ge 42, 3) := by decide +kernel
theorem dX11_latest_65 : decode cX11_latest 65 = .ok (.aload 4, 2) := by decide +kernel
theorem dX11_latest_67 : decode cX11_latest 67 = .ok (.getfield 171, 3) := by decide +kernel
theorem dX11_latest_70 : decode cX11_latest 70 = .ok (.iload 7, 2) := by decide +kernel
theorem dX11_latest_72 : decode cX11_latest 72 = .ok (.aaload, 1) := by decide +kernel
theorem dX11_latest_73 : decode cX11_latest 73 = .ok (.getfield 328, 3) := by decide +kernel
theorem dX11_latest_76 : decode cX11_latest 76 = .ok (.iload 6, 2) := by decide +kernel
theorem dX11_latest_78 : decode cX11_latest 78 = .ok (.if_icmp .le 20, 3) := by decide +kernel
theorem dX11_latest_81 : decode cX11_latest 81 = .ok (.aload 4, 2) := by decide +kernel
theorem dX11_latest_83 : decode cX11_latest 83 = .ok (.getfield 171, 3) := by decide +kernel
theorem dX11_latest_86 : decode cX11_latest 86 = .ok (.iload 7, 2) := by decide +kernel
theorem dX11_latest_88 : decode cX11_latest 88 = .ok (.aaload, 1) := by decide +kernel
theorem dX11_latest_89 : decode cX11_latest 89 = .ok (.getfield 328, 3) := by decide +kernel
theorem dX11_latest_92 : decode cX11_latest 92 = .ok (.istore 6, 2) := by decide +kernel
theorem dX11_latest_94 : decode cX11_latest 94 = .ok (.iload 7, 2) := by decide +kernel
theorem dX11_latest_96 : decode cX11_latest 96 = .ok (.istore 5, 2) := by decide +kernel
theorem dX11_latest_98 : decode cX11_latest 98 = .ok (.iinc 7 1, 3) := by decide +kernel
theorem dX11_latest_101 : decode cX11_latest 101 = .ok (.goto (-48), 3) := by decide +kernel
theorem dX11_latest_104 : decode cX11_latest 104 = .ok (.iload 5, 2) := by decide +kernel
theorem dX11_latest_106 : decode cX11_latest 106 = .ok (.ifCond .ge 5, 3) := by decide +kernel
theorem dX11_latest_109 : decode cX11_latest 109 = .ok (.iconst (-1), 1) := by decide +kernel
theorem dX11_latest_110 : decode cX11_latest 110 = .ok (.ireturn, 1) := by decide +kernel
theorem dX11_latest_111 : decode cX11_latest 111 = .ok (.iload_n 3, 1) := by decide +kernel
theorem dX11_latest_112 : decode cX11_latest 112 = .ok (.ifCond .ne 8, 3) := by decide +kernel
theorem dX11_latest_115 : decode cX11_latest 115 = .ok (.iload 5, 2) := by decide +kernel
theorem dX11_latest_117 : decode cX11_latest 117 = .ok (.goto 5, 3) := by decide +kernel
theorem dX11_latest_120 : decode cX11_latest 120 = .ok (.iload 6, 2) := by decide +kernel
theorem dX11_latest_122 : decode cX11_latest 122 = .ok (.ireturn, 1) := by decide +kernel
theorem dX11_least_0 : decode cX11_least 0 = .ok (.aload_n 0, 1) := by decide +kernel
theorem dX11_least_1 : decode cX11_least 1 = .ok (.iload_n 2, 1) := by decide +kernel
theorem dX11_least_2 : decode cX11_least 2 = .ok (.invokevirtual 164, 3) := by decide +kernel
theorem dX11_least_5 : decode cX11_least 5 = .ok (.ifCond .eq 18, 3) := by decide +kernel
theorem dX11_least_8 : decode cX11_least 8 = .ok (.iload_n 1, 1) := by decide +kernel
theorem dX11_least_9 : decode cX11_least 9 = .ok (.iconst 1, 1) := by decide +kernel
theorem dX11_least_10 : decode cX11_least 10 = .ok (.bipush 100, 2) := by decide +kernel
theorem dX11_least_12 : decode cX11_least 12 = .ok (.invokestatic 306, 3) := by decide +kernel
theorem dX11_least_15 : decode cX11_least 15 = .ok (.ifCond .eq 8, 3) := by decide +kernel
theorem dX11_least_18 : decode cX11_least 18 = .ok (.iload_n 3, 1) := by decide +kernel
theorem dX11_least_19 : decode cX11_least 19 = .ok (.iconst 1, 1) := by decide +kernel
theorem dX11_least_20 : decode cX11_least 20 = .ok (.if_icmp .ge 5, 3) := by decide +kernel
theorem dX11_least_23 : decode cX11_least 23 = .ok (.iconst (-1), 1) := by decide +kernel
theorem dX11_least_24 : decode cX11_least 24 = .ok (.ireturn, 1) := by decide +kernel
theorem dX11_least_25 : decode cX11_least 25 = .ok (.iconst 1, 1) := by decide +kernel
theorem dX11_least_26 : decode cX11_least 26 = .ok (.istore 4, 2) := by decide +kernel
theorem dX11_least_28 : decode cX11_least 28 = .ok (.iload 4, 2) := by decide +kernel
theorem dX11_least_30 : decode cX11_least 30 = .ok (.bipush 100, 2) := by decide +kernel
theorem dX11_least_32 : decode cX11_least 32 = .ok (.if_icmp .gt 41, 3) := by decide +kernel
theorem dX11_least_35 : decode cX11_least 35 = .ok (.aload_n 0, 1) := by decide +kernel
theorem dX11_least_36 : decode cX11_least 36 = .ok (.invokevirtual 317, 3) := by decide +kernel
theorem dX11_least_39 : decode cX11_least 39 = .ok (.astore 5, 2) := by decide +kernel
theorem dX11_least_41 : decode cX11_least 41 = .ok (.aload 5, 2) := by decide +kernel
theorem dX11_least_43 : decode cX11_least 43 = .ok (.getfield 171, 3) := by decide +kernel
theorem dX11_least_46 : decode cX11_least 46 = .ok (.iload_n 2, 1) := by decide +kernel
theorem dX11_least_47 : decode cX11_least 47 = .ok (.aaload, 1) := by decide +kernel
theorem dX11_least_48 : decode cX11_least 48 = .ok (.iload 4, 2) := by decide +kernel
theorem dX11_least_50 : decode cX11_least 50 = .ok (.putfield 175, 3) := by decide +kernel
theorem dX11_least_53 : decode cX11_least 53 = .ok (.aload 5, 2) := by decide +kernel
theorem dX11_least_55 : decode cX11_least 55 = .ok (.iload_n 1, 1) := by decide +kernel
theorem dX11_least_56 : decode cX11_least 56 = .ok (.iload_n 2, 1) := by decide +kernel
theorem dX11_least_57 : decode cX11_least 57 = .ok (.iload_n 3, 1) := by decide +kernel
theorem dX11_least_58 : decode cX11_least 58 = .ok (.invokestatic 338, 3) := by decide +kernel
theorem dX11_least_61 : decode cX11_least 61 = .ok (.ifCond .eq 6, 3) := by decide +kernel
theorem dX11_least_64 : decode cX11_least 64 = .ok (.iload 4, 2) := by decide +kernel
theorem dX11_least_66 : decode cX11_least 66 = .ok (.ireturn, 1) := by decide +kernel
theorem dX11_least_67 : decode cX11_least 67 = .ok (.iinc 4 1, 3) := by decide +kernel
theorem dX11_least_70 : decode cX11_least 70 = .ok (.goto (-42), 3) := by decide +kernel
theorem dX11_least_73 : decode cX11_least 73 = .ok (.iconst (-1), 1) := by decide +kernel
theorem dX11_least_74 : decode cX11_least 74 = .ok (.ireturn, 1) := by decide +kernel
theorem dX11_expiry_0 : decode cX11_expiry 0 = .ok (.aload_n 0, 1) := by decide +kernel
theorem dX11_expiry_1 : decode cX11_expiry 1 = .ok (.invokevirtual 269, 3) := by decide +kernel
theorem dX11_expiry_4 : decode cX11_expiry 4 = .ok (.ifCond .eq 23, 3) := by decide +kernel
theorem dX11_expiry_7 : decode cX11_expiry 7 = .ok (.iload_n 1, 1) := by decide +kernel
theorem dX11_expiry_8 : decode cX11_expiry 8 = .ok (.iconst 0, 1) := by decide +kernel
theorem dX11_expiry_9 : decode cX11_expiry 9 = .ok (.sipush 400, 3) := by decide +kernel
theorem dX11_expiry_12 : decode cX11_expiry 12 = .ok (.invokestatic 306, 3) := by decide +kernel
theorem dX11_expiry_15 : decode cX11_expiry 15 = .ok (.ifCond .eq 12, 3) := by decide +kernel
theorem dX11_expiry_18 : decode cX11_expiry 18 = .ok (.iload_n 2, 1) := by decide +kernel
theorem dX11_expiry_19 : decode cX11_expiry 19 = .ok (.iconst 0, 1) := by decide +kernel
theorem dX11_expiry_20 : decode cX11_expiry 20 = .ok (.iconst 3, 1) := by decide +kernel
theorem dX11_expiry_21 : decode cX11_expiry 21 = .ok (.invokestatic 306, 3) := by decide +kernel
theorem dX11_expiry_24 : decode cX11_expiry 24 = .ok (.ifCond .ne 5, 3) := by decide +kernel
theorem dX11_expiry_27 : decode cX11_expiry 27 = .ok (.iconst (-1), 1) := by decide +kernel
theorem dX11_expiry_28 : decode cX11_expiry 28 = .ok (.ireturn, 1) := by decide +kernel
theorem dX11_expiry_29 : decode cX11_expiry 29 = .ok (.aload_n 0, 1) := by decide +kernel
theorem dX11_expiry_30 : decode cX11_expiry 30 = .ok (.invokevirtual 317, 3) := by decide +kernel
theorem dX11_expiry_33 : decode cX11_expiry 33 = .ok (.astore_n 3, 1) := by decide +kernel
theorem dX11_expiry_34 : decode cX11_expiry 34 = .ok (.iconst 1, 1) := by decide +kernel
theorem dX11_expiry_35 : decode cX11_expiry 35 = .ok (.istore 4, 2) := by decide +kernel
theorem dX11_expiry_37 : decode cX11_expiry 37 = .ok (.iload 4, 2) := by decide +kernel
theorem dX11_expiry_39 : decode cX11_expiry 39 = .ok (.sipush 400, 3) := by decide +kernel
theorem dX11_expiry_42 : decode cX11_expiry 42 = .ok (.if_icmp .gt 52, 3) := by decide +kernel
theorem dX11_expiry_45 : decode cX11_expiry 45 = .ok (.aload_n 3, 1) := by decide +kernel
theorem dX11_expiry_46 : decode cX11_expiry 46 = .ok (.iconst 1, 1) := by decide +kernel
theorem dX11_expiry_47 : decode cX11_expiry 47 = .ok (.invokevirtual 321, 3) := by decide +kernel
theorem dX11_expiry_50 : decode cX11_expiry 50 = .ok (.aload_n 3, 1) := by decide +kernel
theorem dX11_expiry_51 : decode cX11_expiry 51 = .ok (.getfield 154, 3) := by decide +kernel
theorem dX11_expiry_54 : decode cX11_expiry 54 = .ok (.getfield 342, 3) := by decide +kernel
theorem dX11_expiry_57 : decode cX11_expiry 57 = .ok (.iload_n 1, 1) := by decide +kernel
theorem dX11_expiry_58 : decode cX11_expiry 58 = .ok (.if_icmp .le 30, 3) := by decide +kernel
theorem dX11_expiry_61 : decode cX11_expiry 61 = .ok (.iload_n 2, 1) := by decide +kernel
theorem dX11_expiry_62 : decode cX11_expiry 62 = .ok (.ifCond .ne 8, 3) := by decide +kernel
theorem dX11_expiry_65 : decode cX11_expiry 65 = .ok (.iload 4, 2) := by decide +kernel
theorem dX11_expiry_67 : decode cX11_expiry 67 = .ok (.goto 20, 3) := by decide +kernel
theorem dX11_expiry_70 : decode cX11_expiry 70 = .ok (.aload_n 3, 1) := by decide +kernel
theorem dX11_expiry_71 : decode cX11_expiry 71 = .ok (.getfield 154, 3) := by decide +kernel
theorem dX11_expiry_74 : decode cX11_expiry 74 = .ok (.aload_n 3, 1) := by decide +kernel
theorem dX11_expiry_75 : decode cX11_expiry 75 = .ok (.getfield 154, 3) := by decide +kernel
theorem dX11_expiry_78 : decode cX11_expiry 78 = .ok (.invokevirtual 158, 3) := by decide +kernel
theorem dX11_expiry_81 : decode cX11_expiry 81 = .ok (.iconst 1, 1) := by decide +kernel
theorem dX11_expiry_82 : decode cX11_expiry 82 = .ok (.isub, 1) := by decide +kernel
theorem dX11_expiry_83 : decode cX11_expiry 83 = .ok (.iload_n 2, 1) := by decide +kernel
theorem dX11_expiry_84 : decode cX11_expiry 84 = .ok (.invokevirtual 304, 3) := by decide +kernel
theorem dX11_expiry_87 : decode cX11_expiry 87 = .ok (.ireturn, 1) := by decide +kernel
theorem dX11_expiry_88 : decode cX11_expiry 88 = .ok (.iinc 4 1, 3) := by decide +kernel
theorem dX11_expiry_91 : decode cX11_expiry 91 = .ok (.goto (-54), 3) := by decide +kernel
theorem dX11_expiry_94 : decode cX11_expiry 94 = .ok (.iconst (-1), 1) := by decide +kernel
theorem dX11_expiry_95 : decode cX11_expiry 95 = .ok (.ireturn, 1) := by decide +kernel
theorem dX11_worst_0 : decode cX11_worst 0 = .ok (.iload_n 1, 1) := by decide +kernel
theorem dX11_worst_1 : decode cX11_worst 1 = .ok (.iconst 1, 1) := by decide +kernel
theorem dX11_worst_2 : decode cX11_worst 2 = .ok (.sipush 400, 3) := by decide +kernel
theorem dX11_worst_5 : decode cX11_worst 5 = .ok (.invokestatic 306, 3) := by decide +kernel
theorem dX11_worst_8 : decode cX11_worst 8 = .ok (.ifCond .eq 22, 3) := by decide +kernel
theorem dX11_worst_11 : decode cX11_worst 11 = .ok (.iload_n 2, 1) := by decide +kernel
theorem dX11_worst_12 : decode cX11_worst 12 = .ok (.iconst 0, 1) := by decide +kernel
theorem dX11_worst_13 : decode cX11_worst 13 = .ok (.iconst 1, 1) := by decide +kernel
theorem dX11_worst_14 : decode cX11_worst 14 = .ok (.invokestatic 306, 3) := by decide +kernel
theorem dX11_worst_17 : decode cX11_worst 17 = .ok (.ifCond .eq 13, 3) := by decide +kernel
theorem dX11_worst_20 : decode cX11_worst 20 = .ok (.aload_n 0, 1) := by decide +kernel
theorem dX11_worst_21 : decode cX11_worst 21 = .ok (.getfield 10, 3) := by decide +kernel
theorem dX11_worst_24 : decode cX11_worst 24 = .ok (.getfield 125, 3) := by decide +kernel
theorem dX11_worst_27 : decode cX11_worst 27 = .ok (.ifCond .ne 5, 3) := by decide +kernel
theorem dX11_worst_30 : decode cX11_worst 30 = .ok (.iconst (-1), 1) := by decide +kernel
theorem dX11_worst_31 : decode cX11_worst 31 = .ok (.ireturn, 1) := by decide +kernel
theorem dX11_worst_32 : decode cX11_worst 32 = .ok (.aload_n 0, 1) := by decide +kernel
theorem dX11_worst_33 : decode cX11_worst 33 = .ok (.iload_n 1, 1) := by decide +kernel
theorem dX11_worst_34 : decode cX11_worst 34 = .ok (.invokevirtual 310, 3) := by decide +kernel
theorem dX11_worst_37 : decode cX11_worst 37 = .ok (.astore_n 3, 1) := by decide +kernel
theorem dX11_worst_38 : decode cX11_worst 38 = .ok (.aload_n 3, 1) := by decide +kernel
theorem dX11_worst_39 : decode cX11_worst 39 = .ok (.invokevirtual 345, 3) := by decide +kernel
theorem dX11_worst_42 : decode cX11_worst 42 = .ok (.istore 4, 2) := by decide +kernel
theorem dX11_worst_44 : decode cX11_worst 44 = .ok (.iload 4, 2) := by decide +kernel
theorem dX11_worst_46 : decode cX11_worst 46 = .ok (.ifCond .ge 5, 3) := by decide +kernel
theorem dX11_worst_49 : decode cX11_worst 49 = .ok (.iconst (-1), 1) := by decide +kernel
theorem dX11_worst_50 : decode cX11_worst 50 = .ok (.ireturn, 1) := by decide +kernel
theorem dX11_worst_51 : decode cX11_worst 51 = .ok (.iload_n 2, 1) := by decide +kernel
theorem dX11_worst_52 : decode cX11_worst 52 = .ok (.ifCond .ne 8, 3) := by decide +kernel
theorem dX11_worst_55 : decode cX11_worst 55 = .ok (.iload 4, 2) := by decide +kernel
theorem dX11_worst_57 : decode cX11_worst 57 = .ok (.goto 13, 3) := by decide +kernel
theorem dX11_worst_60 : decode cX11_worst 60 = .ok (.aload_n 3, 1) := by decide +kernel
theorem dX11_worst_61 : decode cX11_worst 61 = .ok (.getfield 171, 3) := by decide +kernel
theorem dX11_worst_64 : decode cX11_worst 64 = .ok (.iload 4, 2) := by decide +kernel
theorem dX11_worst_66 : decode cX11_worst 66 = .ok (.aaload, 1) := by decide +kernel
theorem dX11_worst_67 : decode cX11_worst 67 = .ok (.getfield 210, 3) := by decide +kernel
theorem dX11_worst_70 : decode cX11_worst 70 = .ok (.ireturn, 1) := by decide +kernel
theorem dX11_slicing_0 : decode cX11_slicing 0 = .ok (.aload_n 0, 1) := by decide +kernel
theorem dX11_slicing_1 : decode cX11_slicing 1 = .ok (.getfield 10, 3) := by decide +kernel
theorem dX11_slicing_4 : decode cX11_slicing 4 = .ok (.getfield 125, 3) := by decide +kernel
theorem dX11_slicing_7 : decode cX11_slicing 7 = .ok (.ifCond .eq 22, 3) := by decide +kernel
theorem dX11_slicing_10 : decode cX11_slicing 10 = .ok (.iload_n 1, 1) := by decide +kernel
theorem dX11_slicing_11 : decode cX11_slicing 11 = .ok (.iconst 1, 1) := by decide +kernel
theorem dX11_slicing_12 : decode cX11_slicing 12 = .ok (.bipush 100, 2) := by decide +kernel
theorem dX11_slicing_14 : decode cX11_slicing 14 = .ok (.invokestatic 306, 3) := by decide +kernel
theorem dX11_slicing_17 : decode cX11_slicing 17 = .ok (.ifCond .eq 12, 3) := by decide +kernel
theorem dX11_slicing_20 : decode cX11_slicing 20 = .ok (.iload_n 2, 1) := by decide +kernel
theorem dX11_slicing_21 : decode cX11_slicing 21 = .ok (.iconst 0, 1) := by decide +kernel
theorem dX11_slicing_22 : decode cX11_slicing 22 = .ok (.iconst 1, 1) := by decide +kernel
theorem dX11_slicing_23 : decode cX11_slicing 23 = .ok (.invokestatic 306, 3) := by decide +kernel
theorem dX11_slicing_26 : decode cX11_slicing 26 = .ok (.ifCond .ne 5, 3) := by decide +kernel
theorem dX11_slicing_29 : decode cX11_slicing 29 = .ok (.iconst (-1), 1) := by decide +kernel
theorem dX11_slicing_30 : decode cX11_slicing 30 = .ok (.ireturn, 1) := by decide +kernel
theorem dX11_slicing_31 : decode cX11_slicing 31 = .ok (.sipush 200, 3) := by decide +kernel
theorem dX11_slicing_34 : decode cX11_slicing 34 = .ok (.istore_n 3, 1) := by decide +kernel
theorem dX11_slicing_35 : decode cX11_slicing 35 = .ok (.aload_n 0, 1) := by decide +kernel
theorem dX11_slicing_36 : decode cX11_slicing 36 = .ok (.iload_n 1, 1) := by decide +kernel
theorem dX11_slicing_37 : decode cX11_slicing 37 = .ok (.sipush 200, 3) := by decide +kernel
theorem dX11_slicing_40 : decode cX11_slicing 40 = .ok (.ldc_w 348, 3) := by decide +kernel
theorem dX11_slicing_43 : decode cX11_slicing 43 = .ok (.invokevirtual 349, 3) := by decide +kernel
theorem dX11_slicing_46 : decode cX11_slicing 46 = .ok (.istore 4, 2) := by decide +kernel
theorem dX11_slicing_48 : decode cX11_slicing 48 = .ok (.sipush 199, 3) := by decide +kernel
theorem dX11_slicing_51 : decode cX11_slicing 51 = .ok (.istore 5, 2) := by decide +kernel
theorem dX11_slicing_53 : decode cX11_slicing 53 = .ok (.iload 5, 2) := by decide +kernel
theorem dX11_slicing_55 : decode cX11_slicing 55 = .ok (.iconst 1, 1) := by decide +kernel
theorem dX11_slicing_56 : decode cX11_slicing 56 = .ok (.if_icmp .lt 39, 3) := by decide +kernel
theorem dX11_slicing_59 : decode cX11_slicing 59 = .ok (.iload 4, 2) := by decide +kernel
theorem dX11_slicing_61 : decode cX11_slicing 61 = .ok (.ifCond .le 34, 3) := by decide +kernel
theorem dX11_slicing_64 : decode cX11_slicing 64 = .ok (.aload_n 0, 1) := by decide +kernel
theorem dX11_slicing_65 : decode cX11_slicing 65 = .ok (.iload_n 1, 1) := by decide +kernel
theorem dX11_slicing_66 : decode cX11_slicing 66 = .ok (.iload 5, 2) := by decide +kernel
theorem dX11_slicing_68 : decode cX11_slicing 68 = .ok (.iload 4, 2) := by decide +kernel
theorem dX11_slicing_70 : decode cX11_slicing 70 = .ok (.invokevirtual 349, 3) := by decide +kernel
theorem dX11_slicing_73 : decode cX11_slicing 73 = .ok (.istore 6, 2) := by decide +kernel
theorem dX11_slicing_75 : decode cX11_slicing 75 = .ok (.iload 6, 2) := by decide +kernel
theorem dX11_slicing_77 : decode cX11_slicing 77 = .ok (.iload 4, 2) := by decide +kernel
theorem dX11_slicing_79 : decode cX11_slicing 79 = .ok (.if_icmp .ge 10, 3) := by decide +kernel
theorem dX11_slicing_82 : decode cX11_slicing 82 = .ok (.iload 6, 2) := by decide +kernel
theorem dX11_slicing_84 : decode cX11_slicing 84 = .ok (.istore 4, 2) := by decide +kernel
theorem dX11_slicing_86 : decode cX11_slicing 86 = .ok (.iload 5, 2) := by decide +kernel
theorem dX11_slicing_88 : decode cX11_slicing 88 = .ok (.istore_n 3, 1) := by decide +kernel
theorem dX11_slicing_89 : decode cX11_slicing 89 = .ok (.iinc 5 (-1), 3) := by decide +kernel
theorem dX11_slicing_92 : decode cX11_slicing 92 = .ok (.goto (-39), 3) := by decide +kernel
theorem dX11_slicing_95 : decode cX11_slicing 95 = .ok (.iload_n 2, 1) := by decide +kernel
theorem dX11_slicing_96 : decode cX11_slicing 96 = .ok (.ifCond .ne 7, 3) := by decide +kernel
theorem dX11_slicing_99 : decode cX11_slicing 99 = .ok (.iload_n 3, 1) := by decide +kernel
theorem dX11_slicing_100 : decode cX11_slicing 100 = .ok (.goto 5, 3) := by decide +kernel
theorem dX11_slicing_103 : decode cX11_slicing 103 = .ok (.iload 4, 2) := by decide +kernel
theorem dX11_slicing_105 : decode cX11_slicing 105 = .ok (.ireturn, 1) := by decide +kernel
theorem dX11_lag_0 : decode cX11_lag 0 = .ok (.aload_n 0, 1) := by decide +kernel
theorem dX11_lag_1 : decode cX11_lag 1 = .ok (.iload_n 1, 1) := by decide +kernel
theorem dX11_lag_2 : decode cX11_lag 2 = .ok (.invokevirtual 164, 3) := by decide +kernel
theorem dX11_lag_5 : decode cX11_lag 5 = .ok (.ifCond .ne 5, 3) := by decide +kernel
theorem dX11_lag_8 : decode cX11_lag 8 = .ok (.iconst (-1), 1) := by decide +kernel
theorem dX11_lag_9 : decode cX11_lag 9 = .ok (.ireturn, 1) := by decide +kernel
theorem dX11_lag_10 : decode cX11_lag 10 = .ok (.aload_n 0, 1) := by decide +kernel
theorem dX11_lag_11 : decode cX11_lag 11 = .ok (.getfield 40, 3) := by decide +kernel
theorem dX11_lag_14 : decode cX11_lag 14 = .ok (.getfield 219, 3) := by decide +kernel
theorem dX11_lag_17 : decode cX11_lag 17 = .ok (.iload_n 1, 1) := by decide +kernel
theorem dX11_lag_18 : decode cX11_lag 18 = .ok (.aaload, 1) := by decide +kernel
theorem dX11_lag_19 : decode cX11_lag 19 = .ok (.getfield 255, 3) := by decide +kernel
theorem dX11_lag_22 : decode cX11_lag 22 = .ok (.aload_n 0, 1) := by decide +kernel
theorem dX11_lag_23 : decode cX11_lag 23 = .ok (.getfield 40, 3) := by decide +kernel
theorem dX11_lag_26 : decode cX11_lag 26 = .ok (.getfield 272, 3) := by decide +kernel
theorem dX11_lag_29 : decode cX11_lag 29 = .ok (.fsub, 1) := by decide +kernel
theorem dX11_lag_30 : decode cX11_lag 30 = .ok (.invokestatic 259, 3) := by decide +kernel
theorem dX11_lag_33 : decode cX11_lag 33 = .ok (.ireturn, 1) := by decide +kernel
theorem dX11_see_0 : decode cX11_see 0 = .ok (.aload_n 0, 1) := by decide +kernel
theorem dX11_see_1 : decode cX11_see 1 = .ok (.invokevirtual 269, 3) := by decide +kernel
theorem dX11_see_4 : decode cX11_see 4 = .ok (.ifCond .eq 28, 3) := by decide +kernel
theorem dX11_see_7 : decode cX11_see 7 = .ok (.aload_n 0, 1) := by decide +kernel
theorem dX11_see_8 : decode cX11_see 8 = .ok (.getfield 61, 3) := by decide +kernel
theorem dX11_see_11 : decode cX11_see 11 = .ok (.aload_n 0, 1) := by decide +kernel
theorem dX11_see_12 : decode cX11_see 12 = .ok (.getfield 22, 3) := by decide +kernel
theorem dX11_see_15 : decode cX11_see 15 = .ok (.aload_n 0, 1) := by decide +kernel
theorem dX11_see_16 : decode cX11_see 16 = .ok (.getfield 10, 3) := by decide +kernel
theorem dX11_see_19 : decode cX11_see 19 = .ok (.getfield 125, 3) := by decide +kernel
theorem dX11_see_22 : decode cX11_see 22 = .ok (.invokevirtual 353, 3) := by decide +kernel
theorem dX11_see_25 : decode cX11_see 25 = .ok (.ifCond .eq 7, 3) := by decide +kernel
theorem dX11_see_28 : decode cX11_see 28 = .ok (.iconst 1, 1) := by decide +kernel
theorem dX11_see_29 : decode cX11_see 29 = .ok (.goto 4, 3) := by decide +kernel
theorem dX11_see_32 : decode cX11_see 32 = .ok (.iconst 0, 1) := by decide +kernel
theorem dX11_see_33 : decode cX11_see 33 = .ok (.istore_n 1, 1) := by decide +kernel
theorem dX11_see_34 : decode cX11_see 34 = .ok (.aload_n 0, 1) := by decide +kernel
theorem dX11_see_35 : decode cX11_see 35 = .ok (.getfield 22, 3) := by decide +kernel
theorem dX11_see_38 : decode cX11_see 38 = .ok (.iconst 0, 1) := by decide +kernel
theorem dX11_see_39 : decode cX11_see 39 = .ok (.putfield 89, 3) := by decide +kernel
theorem dX11_see_42 : decode cX11_see 42 = .ok (.iload_n 1, 1) := by decide +kernel
theorem dX11_see_43 : decode cX11_see 43 = .ok (.ifCond .eq 13, 3) := by decide +kernel
theorem dX11_see_46 : decode cX11_see 46 = .ok (.aload_n 0, 1) := by decide +kernel
theorem dX11_see_47 : decode cX11_see 47 = .ok (.getfield 61, 3) := by decide +kernel
theorem dX11_see_50 : decode cX11_see 50 = .ok (.getfield 116, 3) := by decide +kernel
theorem dX11_see_53 : decode cX11_see 53 = .ok (.goto 8, 3) := by decide +kernel
theorem dX11_see_56 : decode cX11_see 56 = .ok (.aload_n 0, 1) := by decide +kernel
theorem dX11_see_57 : decode cX11_see 57 = .ok (.iconst 5, 1) := by decide +kernel
theorem dX11_see_58 : decode cX11_see 58 = .ok (.invokevirtual 92, 3) := by decide +kernel
theorem dX11_see_61 : decode cX11_see 61 = .ok (.ireturn, 1) := by decide +kernel
theorem dX11_fits_0 : decode cX11_fits 0 = .ok (.aload_n 0, 1) := by decide +kernel
theorem dX11_fits_1 : decode cX11_fits 1 = .ok (.invokevirtual 269, 3) := by decide +kernel
theorem dX11_fits_4 : decode cX11_fits 4 = .ok (.ifCond .eq 10, 3) := by decide +kernel
theorem dX11_fits_7 : decode cX11_fits 7 = .ok (.aload_n 0, 1) := by decide +kernel
theorem dX11_fits_8 : decode cX11_fits 8 = .ok (.invokevirtual 357, 3) := by decide +kernel
theorem dX11_fits_11 : decode cX11_fits 11 = .ok (.goto 4, 3) := by decide +kernel
theorem dX11_fits_14 : decode cX11_fits 14 = .ok (.iconst (-1), 1) := by decide +kernel
theorem dX11_fits_15 : decode cX11_fits 15 = .ok (.ireturn, 1) := by decide +kernel
theorem dX11_tells_0 : decode cX11_tells 0 = .ok (.aload_n 0, 1) := by decide +kernel
theorem dX11_tells_1 : decode cX11_tells 1 = .ok (.invokevirtual 269, 3) := by decide +kernel
theorem dX11_tells_4 : decode cX11_tells 4 = .ok (.ifCond .eq 12, 3) := by decide +kernel
theorem dX11_tells_7 : decode cX11_tells 7 = .ok (.iload_n 1, 1) := by decide +kernel
theorem dX11_tells_8 : decode cX11_tells 8 = .ok (.iconst 0, 1) := by decide +kernel
theorem dX11_tells_9 : decode cX11_tells 9 = .ok (.iconst 1, 1) := by decide +kernel
theorem dX11_tells_10 : decode cX11_tells 10 = .ok (.invokestatic 306, 3) := by decide +kernel
theorem dX11_tells_13 : decode cX11_tells 13 = .ok (.ifCond .ne 5, 3) := by decide +kernel
theorem dX11_tells_16 : decode cX11_tells 16 = .ok (.iconst (-1), 1) := by decide +kernel
theorem dX11_tells_17 : decode cX11_tells 17 = .ok (.ireturn, 1) := by decide +kernel
theorem dX11_tells_18 : decode cX11_tells 18 = .ok (.aload_n 0, 1) := by decide +kernel
theorem dX11_tells_19 : decode cX11_tells 19 = .ok (.invokevirtual 357, 3) := by decide +kernel
theorem dX11_tells_22 : decode cX11_tells 22 = .ok (.istore_n 2, 1) := by decide +kernel
theorem dX11_tells_23 : decode cX11_tells 23 = .ok (.iload_n 2, 1) := by decide +kernel
theorem dX11_tells_24 : decode cX11_tells 24 = .ok (.ifCond .ne 5, 3) := by decide +kernel
theorem dX11_tells_27 : decode cX11_tells 27 = .ok (.iconst (-1), 1) := by decide +kernel
theorem dX11_tells_28 : decode cX11_tells 28 = .ok (.ireturn, 1) := by decide +kernel
theorem dX11_tells_29 : decode cX11_tells 29 = .ok (.aload_n 0, 1) := by decide +kernel
theorem dX11_tells_30 : decode cX11_tells 30 = .ok (.iload_n 2, 1) := by decide +kernel
theorem dX11_tells_31 : decode cX11_tells 31 = .ok (.invokevirtual 360, 3) := by decide +kernel
theorem dX11_tells_34 : decode cX11_tells 34 = .ok (.iconst 0, 1) := by decide +kernel
theorem dX11_tells_35 : decode cX11_tells 35 = .ok (.istore_n 3, 1) := by decide +kernel
theorem dX11_tells_36 : decode cX11_tells 36 = .ok (.ldc_w 348, 3) := by decide +kernel
theorem dX11_tells_39 : decode cX11_tells 39 = .ok (.istore 4, 2) := by decide +kernel
theorem dX11_tells_41 : decode cX11_tells 41 = .ok (.iconst 1, 1) := by decide +kernel
theorem dX11_tells_42 : decode cX11_tells 42 = .ok (.istore 5, 2) := by decide +kernel
theorem dX11_tells_44 : decode cX11_tells 44 = .ok (.iload 5, 2) := by decide +kernel
theorem dX11_tells_46 : decode cX11_tells 46 = .ok (.bipush 60, 2) := by decide +kernel
theorem dX11_tells_48 : decode cX11_tells 48 = .ok (.if_icmp .gt 31, 3) := by decide +kernel
theorem dX11_tells_51 : decode cX11_tells 51 = .ok (.aload_n 0, 1) := by decide +kernel
theorem dX11_tells_52 : decode cX11_tells 52 = .ok (.iload 5, 2) := by decide +kernel
theorem dX11_tells_54 : decode cX11_tells 54 = .ok (.invokevirtual 363, 3) := by decide +kernel
theorem dX11_tells_57 : decode cX11_tells 57 = .ok (.istore 6, 2) := by decide +kernel
theorem dX11_tells_59 : decode cX11_tells 59 = .ok (.iload 6, 2) := by decide +kernel
theorem dX11_tells_61 : decode cX11_tells 61 = .ok (.iload 4, 2) := by decide +kernel
theorem dX11_tells_63 : decode cX11_tells 63 = .ok (.if_icmp .ge 10, 3) := by decide +kernel
theorem dX11_tells_66 : decode cX11_tells 66 = .ok (.iload 6, 2) := by decide +kernel
theorem dX11_tells_68 : decode cX11_tells 68 = .ok (.istore 4, 2) := by decide +kernel
theorem dX11_tells_70 : decode cX11_tells 70 = .ok (.iload 5, 2) := by decide +kernel
theorem dX11_tells_72 : decode cX11_tells 72 = .ok (.istore_n 3, 1) := by decide +kernel
theorem dX11_tells_73 : decode cX11_tells 73 = .ok (.iinc 5 1, 3) := by decide +kernel
theorem dX11_tells_76 : decode cX11_tells 76 = .ok (.goto (-32), 3) := by decide +kernel
theorem dX11_tells_79 : decode cX11_tells 79 = .ok (.iload_n 1, 1) := by decide +kernel
theorem dX11_tells_80 : decode cX11_tells 80 = .ok (.ifCond .ne 7, 3) := by decide +kernel
theorem dX11_tells_83 : decode cX11_tells 83 = .ok (.iload_n 3, 1) := by decide +kernel
theorem dX11_tells_84 : decode cX11_tells 84 = .ok (.goto 5, 3) := by decide +kernel
theorem dX11_tells_87 : decode cX11_tells 87 = .ok (.iload 4, 2) := by decide +kernel
theorem dX11_tells_89 : decode cX11_tells 89 = .ok (.ireturn, 1) := by decide +kernel
theorem dX11_ticks_0 : decode cX11_ticks 0 = .ok (.aload_n 0, 1) := by decide +kernel
theorem dX11_ticks_1 : decode cX11_ticks 1 = .ok (.invokevirtual 269, 3) := by decide +kernel
theorem dX11_ticks_4 : decode cX11_ticks 4 = .ok (.ifCond .eq 29, 3) := by decide +kernel
theorem dX11_ticks_7 : decode cX11_ticks 7 = .ok (.iload_n 1, 1) := by decide +kernel
theorem dX11_ticks_8 : decode cX11_ticks 8 = .ok (.iconst 1, 1) := by decide +kernel
theorem dX11_ticks_9 : decode cX11_ticks 9 = .ok (.sipush 200, 3) := by decide +kernel
theorem dX11_ticks_12 : decode cX11_ticks 12 = .ok (.invokestatic 306, 3) := by decide +kernel
theorem dX11_ticks_15 : decode cX11_ticks 15 = .ok (.ifCond .eq 18, 3) := by decide +kernel
theorem dX11_ticks_18 : decode cX11_ticks 18 = .ok (.aload_n 0, 1) := by decide +kernel
theorem dX11_ticks_19 : decode cX11_ticks 19 = .ok (.getfield 40, 3) := by decide +kernel
theorem dX11_ticks_22 : decode cX11_ticks 22 = .ok (.getfield 126, 3) := by decide +kernel
theorem dX11_ticks_25 : decode cX11_ticks 25 = .ok (.iload_n 1, 1) := by decide +kernel
theorem dX11_ticks_26 : decode cX11_ticks 26 = .ok (.iadd, 1) := by decide +kernel
theorem dX11_ticks_27 : decode cX11_ticks 27 = .ok (.sipush 9999, 3) := by decide +kernel
theorem dX11_ticks_30 : decode cX11_ticks 30 = .ok (.if_icmp .le 9, 3) := by decide +kernel
theorem dX11_ticks_33 : decode cX11_ticks 33 = .ok (.aload_n 0, 1) := by decide +kernel
theorem dX11_ticks_34 : decode cX11_ticks 34 = .ok (.iconst 2, 1) := by decide +kernel
theorem dX11_ticks_35 : decode cX11_ticks 35 = .ok (.invokevirtual 92, 3) := by decide +kernel
theorem dX11_ticks_38 : decode cX11_ticks 38 = .ok (.ireturn, 1) := by decide +kernel
theorem dX11_ticks_39 : decode cX11_ticks 39 = .ok (.aload_n 0, 1) := by decide +kernel
theorem dX11_ticks_40 : decode cX11_ticks 40 = .ok (.invokevirtual 366, 3) := by decide +kernel
theorem dX11_ticks_43 : decode cX11_ticks 43 = .ok (.aload_n 0, 1) := by decide +kernel
theorem dX11_ticks_44 : decode cX11_ticks 44 = .ok (.getfield 40, 3) := by decide +kernel
theorem dX11_ticks_47 : decode cX11_ticks 47 = .ok (.iload_n 1, 1) := by decide +kernel
theorem dX11_ticks_48 : decode cX11_ticks 48 = .ok (.invokevirtual 321, 3) := by decide +kernel
theorem dX11_ticks_51 : decode cX11_ticks 51 = .ok (.aload_n 0, 1) := by decide +kernel
theorem dX11_ticks_52 : decode cX11_ticks 52 = .ok (.getfield 40, 3) := by decide +kernel
theorem dX11_ticks_55 : decode cX11_ticks 55 = .ok (.getfield 126, 3) := by decide +kernel
theorem dX11_ticks_58 : decode cX11_ticks 58 = .ok (.ireturn, 1) := by decide +kernel
theorem dX11_ask_0 : decode cX11_ask 0 = .ok (.aload_n 0, 1) := by decide +kernel
theorem dX11_ask_1 : decode cX11_ask 1 = .ok (.iload_n 1, 1) := by decide +kernel
theorem dX11_ask_2 : decode cX11_ask 2 = .ok (.invokevirtual 164, 3) := by decide +kernel
theorem dX11_ask_5 : decode cX11_ask 5 = .ok (.ifCond .eq 16, 3) := by decide +kernel
theorem dX11_ask_8 : decode cX11_ask 8 = .ok (.aload_n 0, 1) := by decide +kernel
theorem dX11_ask_9 : decode cX11_ask 9 = .ok (.getfield 40, 3) := by decide +kernel
theorem dX11_ask_12 : decode cX11_ask 12 = .ok (.iload_n 1, 1) := by decide +kernel
theorem dX11_ask_13 : decode cX11_ask 13 = .ok (.iload_n 2, 1) := by decide +kernel
theorem dX11_ask_14 : decode cX11_ask 14 = .ok (.iload_n 3, 1) := by decide +kernel
theorem dX11_ask_15 : decode cX11_ask 15 = .ok (.invokevirtual 369, 3) := by decide +kernel
theorem dX11_ask_18 : decode cX11_ask 18 = .ok (.ifCond .ne 9, 3) := by decide +kernel
theorem dX11_ask_21 : decode cX11_ask 21 = .ok (.aload_n 0, 1) := by decide +kernel
theorem dX11_ask_22 : decode cX11_ask 22 = .ok (.iconst 3, 1) := by decide +kernel
theorem dX11_ask_23 : decode cX11_ask 23 = .ok (.invokevirtual 92, 3) := by decide +kernel
theorem dX11_ask_26 : decode cX11_ask 26 = .ok (.ireturn, 1) := by decide +kernel
theorem dX11_ask_27 : decode cX11_ask 27 = .ok (.aload_n 0, 1) := by decide +kernel
theorem dX11_ask_28 : decode cX11_ask 28 = .ok (.invokevirtual 366, 3) := by decide +kernel
theorem dX11_ask_31 : decode cX11_ask 31 = .ok (.aload_n 0, 1) := by decide +kernel
theorem dX11_ask_32 : decode cX11_ask 32 = .ok (.getfield 40, 3) := by decide +kernel
theorem dX11_ask_35 : decode cX11_ask 35 = .ok (.iload_n 1, 1) := by decide +kernel
theorem dX11_ask_36 : decode cX11_ask 36 = .ok (.iload_n 2, 1) := by decide +kernel
theorem dX11_ask_37 : decode cX11_ask 37 = .ok (.iload_n 3, 1) := by decide +kernel
theorem dX11_ask_38 : decode cX11_ask 38 = .ok (.iconst (-1), 1) := by decide +kernel
theorem dX11_ask_39 : decode cX11_ask 39 = .ok (.invokevirtual 372, 3) := by decide +kernel
theorem dX11_ask_42 : decode cX11_ask 42 = .ok (.ireturn, 1) := by decide +kernel
theorem dX11_weight_0 : decode cX11_weight 0 = .ok (.aload_n 0, 1) := by decide +kernel
theorem dX11_weight_1 : decode cX11_weight 1 = .ok (.iload_n 1, 1) := by decide +kernel
theorem dX11_weight_2 : decode cX11_weight 2 = .ok (.invokevirtual 164, 3) := by decide +kernel
theorem dX11_weight_5 : decode cX11_weight 5 = .ok (.ifCond .eq 29, 3) := by decide +kernel
theorem dX11_weight_8 : decode cX11_weight 8 = .ok (.iload_n 2, 1) := by decide +kernel
theorem dX11_weight_9 : decode cX11_weight 9 = .ok (.iconst 1, 1) := by decide +kernel
theorem dX11_weight_10 : decode cX11_weight 10 = .ok (.bipush 100, 2) := by decide +kernel
theorem dX11_weight_12 : decode cX11_weight 12 = .ok (.invokestatic 306, 3) := by decide +kernel
theorem dX11_weight_15 : decode cX11_weight 15 = .ok (.ifCond .eq 19, 3) := by decide +kernel
theorem dX11_weight_18 : decode cX11_weight 18 = .ok (.aload_n 0, 1) := by decide +kernel
theorem dX11_weight_19 : decode cX11_weight 19 = .ok (.getfield 40, 3) := by decide +kernel
theorem dX11_weight_22 : decode cX11_weight 22 = .ok (.getfield 171, 3) := by decide +kernel
theorem dX11_weight_25 : decode cX11_weight 25 = .ok (.iload_n 1, 1) := by decide +kernel
theorem dX11_weight_26 : decode cX11_weight 26 = .ok (.aaload, 1) := by decide +kernel
theorem dX11_weight_27 : decode cX11_weight 27 = .ok (.getfield 175, 3) := by decide +kernel
theorem dX11_weight_30 : decode cX11_weight 30 = .ok (.iload_n 2, 1) := by decide +kernel
theorem dX11_weight_31 : decode cX11_weight 31 = .ok (.if_icmp .ne 11, 3) := by decide +kernel
theorem dX11_weight_34 : decode cX11_weight 34 = .ok (.aload_n 0, 1) := by decide +kernel
theorem dX11_weight_35 : decode cX11_weight 35 = .ok (.iconst 3, 1) := by decide +kernel
theorem dX11_weight_36 : decode cX11_weight 36 = .ok (.invokevirtual 92, 3) := by decide +kernel
theorem dX11_weight_39 : decode cX11_weight 39 = .ok (.pop, 1) := by decide +kernel
theorem dX11_weight_40 : decode cX11_weight 40 = .ok (.iconst 0, 1) := by decide +kernel
theorem dX11_weight_41 : decode cX11_weight 41 = .ok (.ireturn, 1) := by decide +kernel
theorem dX11_weight_42 : decode cX11_weight 42 = .ok (.aload_n 0, 1) := by decide +kernel
theorem dX11_weight_43 : decode cX11_weight 43 = .ok (.invokevirtual 366, 3) := by decide +kernel
theorem dX11_weight_46 : decode cX11_weight 46 = .ok (.aload_n 0, 1) := by decide +kernel
theorem dX11_weight_47 : decode cX11_weight 47 = .ok (.getfield 40, 3) := by decide +kernel
theorem dX11_weight_50 : decode cX11_weight 50 = .ok (.getfield 171, 3) := by decide +kernel
theorem dX11_weight_53 : decode cX11_weight 53 = .ok (.iload_n 1, 1) := by decide +kernel
theorem dX11_weight_54 : decode cX11_weight 54 = .ok (.aaload, 1) := by decide +kernel
theorem dX11_weight_55 : decode cX11_weight 55 = .ok (.iload_n 2, 1) := by decide +kernel
theorem dX11_weight_56 : decode cX11_weight 56 = .ok (.putfield 175, 3) := by decide +kernel
theorem dX11_weight_59 : decode cX11_weight 59 = .ok (.iconst 1, 1) := by decide +kernel
theorem dX11_weight_60 : decode cX11_weight 60 = .ok (.ireturn, 1) := by decide +kernel
theorem dX11_idle_0 : decode cX11_idle 0 = .ok (.aload_n 0, 1) := by decide +kernel
theorem dX11_idle_1 : decode cX11_idle 1 = .ok (.invokevirtual 269, 3) := by decide +kernel
theorem dX11_idle_4 : decode cX11_idle 4 = .ok (.ifCond .eq 24, 3) := by decide +kernel
theorem dX11_idle_7 : decode cX11_idle 7 = .ok (.iload_n 1, 1) := by decide +kernel
theorem dX11_idle_8 : decode cX11_idle 8 = .ok (.iconst 0, 1) := by decide +kernel
theorem dX11_idle_9 : decode cX11_idle 9 = .ok (.bipush 20, 2) := by decide +kernel
theorem dX11_idle_11 : decode cX11_idle 11 = .ok (.invokestatic 306, 3) := by decide +kernel
theorem dX11_idle_14 : decode cX11_idle 14 = .ok (.ifCond .eq 14, 3) := by decide +kernel
theorem dX11_idle_17 : decode cX11_idle 17 = .ok (.aload_n 0, 1) := by decide +kernel
theorem dX11_idle_18 : decode cX11_idle 18 = .ok (.getfield 40, 3) := by decide +kernel
theorem dX11_idle_21 : decode cX11_idle 21 = .ok (.getfield 145, 3) := by decide +kernel
theorem dX11_idle_24 : decode cX11_idle 24 = .ok (.iload_n 1, 1) := by decide +kernel
theorem dX11_idle_25 : decode cX11_idle 25 = .ok (.if_icmp .ne 11, 3) := by decide +kernel
theorem dX11_idle_28 : decode cX11_idle 28 = .ok (.aload_n 0, 1) := by decide +kernel
theorem dX11_idle_29 : decode cX11_idle 29 = .ok (.iconst 3, 1) := by decide +kernel
theorem dX11_idle_30 : decode cX11_idle 30 = .ok (.invokevirtual 92, 3) := by decide +kernel
theorem dX11_idle_33 : decode cX11_idle 33 = .ok (.pop, 1) := by decide +kernel
theorem dX11_idle_34 : decode cX11_idle 34 = .ok (.iconst 0, 1) := by decide +kernel
theorem dX11_idle_35 : decode cX11_idle 35 = .ok (.ireturn, 1) := by decide +kernel
theorem dX11_idle_36 : decode cX11_idle 36 = .ok (.aload_n 0, 1) := by decide +kernel
theorem dX11_idle_37 : decode cX11_idle 37 = .ok (.invokevirtual 366, 3) := by decide +kernel
theorem dX11_idle_40 : decode cX11_idle 40 = .ok (.aload_n 0, 1) := by decide +kernel
theorem dX11_idle_41 : decode cX11_idle 41 = .ok (.getfield 40, 3) := by decide +kernel
theorem dX11_idle_44 : decode cX11_idle 44 = .ok (.iload_n 1, 1) := by decide +kernel
theorem dX11_idle_45 : decode cX11_idle 45 = .ok (.putfield 145, 3) := by decide +kernel
theorem dX11_idle_48 : decode cX11_idle 48 = .ok (.iconst 1, 1) := by decide +kernel
theorem dX11_idle_49 : decode cX11_idle 49 = .ok (.ireturn, 1) := by decide +kernel
theorem dX11_slice_0 : decode cX11_slice 0 = .ok (.aload_n 0, 1) := by decide +kernel
theorem dX11_slice_1 : decode cX11_slice 1 = .ok (.invokevirtual 269, 3) := by decide +kernel
theorem dX11_slice_4 : decode cX11_slice 4 = .ok (.ifCond .eq 25, 3) := by decide +kernel
theorem dX11_slice_7 : decode cX11_slice 7 = .ok (.iload_n 1, 1) := by decide +kernel
theorem dX11_slice_8 : decode cX11_slice 8 = .ok (.iconst 1, 1) := by decide +kernel
theorem dX11_slice_9 : decode cX11_slice 9 = .ok (.sipush 200, 3) := by decide +kernel
theorem dX11_slice_12 : decode cX11_slice 12 = .ok (.invokestatic 306, 3) := by decide +kernel
theorem dX11_slice_15 : decode cX11_slice 15 = .ok (.ifCond .eq 14, 3) := by decide +kernel
theorem dX11_slice_18 : decode cX11_slice 18 = .ok (.aload_n 0, 1) := by decide +kernel
theorem dX11_slice_19 : decode cX11_slice 19 = .ok (.getfield 40, 3) := by decide +kernel
theorem dX11_slice_22 : decode cX11_slice 22 = .ok (.getfield 148, 3) := by decide +kernel
theorem dX11_slice_25 : decode cX11_slice 25 = .ok (.iload_n 1, 1) := by decide +kernel
theorem dX11_slice_26 : decode cX11_slice 26 = .ok (.if_icmp .ne 11, 3) := by decide +kernel
theorem dX11_slice_29 : decode cX11_slice 29 = .ok (.aload_n 0, 1) := by decide +kernel
theorem dX11_slice_30 : decode cX11_slice 30 = .ok (.iconst 3, 1) := by decide +kernel
theorem dX11_slice_31 : decode cX11_slice 31 = .ok (.invokevirtual 92, 3) := by decide +kernel
theorem dX11_slice_34 : decode cX11_slice 34 = .ok (.pop, 1) := by decide +kernel
theorem dX11_slice_35 : decode cX11_slice 35 = .ok (.iconst 0, 1) := by decide +kernel
theorem dX11_slice_36 : decode cX11_slice 36 = .ok (.ireturn, 1) := by decide +kernel
theorem dX11_slice_37 : decode cX11_slice 37 = .ok (.aload_n 0, 1) := by decide +kernel
theorem dX11_slice_38 : decode cX11_slice 38 = .ok (.invokevirtual 366, 3) := by decide +kernel
theorem dX11_slice_41 : decode cX11_slice 41 = .ok (.aload_n 0, 1) := by decide +kernel
theorem dX11_slice_42 : decode cX11_slice 42 = .ok (.getfield 40, 3) := by decide +kernel
theorem dX11_slice_45 : decode cX11_slice 45 = .ok (.iload_n 1, 1) := by decide +kernel
theorem dX11_slice_46 : decode cX11_slice 46 = .ok (.putfield 148, 3) := by decide +kernel
theorem dX11_slice_49 : decode cX11_slice 49 = .ok (.iconst 1, 1) := by decide +kernel
theorem dX11_slice_50 : decode cX11_slice 50 = .ok (.ireturn, 1) := by decide +kernel
theorem dX11_on_0 : decode cX11_on 0 = .ok (.aload_n 0, 1) := by decide +kernel
theorem dX11_on_1 : decode cX11_on 1 = .ok (.iload_n 1, 1) := by decide +kernel
theorem dX11_on_2 : decode cX11_on 2 = .ok (.invokevirtual 164, 3) := by decide +kernel
theorem dX11_on_5 : decode cX11_on 5 = .ok (.ifCond .eq 19, 3) := by decide +kernel
theorem dX11_on_8 : decode cX11_on 8 = .ok (.aload_n 0, 1) := by decide +kernel
theorem dX11_on_9 : decode cX11_on 9 = .ok (.getfield 40, 3) := by decide +kernel
theorem dX11_on_12 : decode cX11_on 12 = .ok (.getfield 171, 3) := by decide +kernel
theorem dX11_on_15 : decode cX11_on 15 = .ok (.iload_n 1, 1) := by decide +kernel
theorem dX11_on_16 : decode cX11_on 16 = .ok (.aaload, 1) := by decide +kernel
theorem dX11_on_17 : decode cX11_on 17 = .ok (.getfield 200, 3) := by decide +kernel
theorem dX11_on_20 : decode cX11_on 20 = .ok (.iload_n 2, 1) := by decide +kernel
theorem dX11_on_21 : decode cX11_on 21 = .ok (.if_icmp .ne 11, 3) := by decide +kernel
theorem dX11_on_24 : decode cX11_on 24 = .ok (.aload_n 0, 1) := by decide +kernel
theorem dX11_on_25 : decode cX11_on 25 = .ok (.iconst 3, 1) := by decide +kernel
theorem dX11_on_26 : decode cX11_on 26 = .ok (.invokevirtual 92, 3) := by decide +kernel
theorem dX11_on_29 : decode cX11_on 29 = .ok (.pop, 1) := by decide +kernel
theorem dX11_on_30 : decode cX11_on 30 = .ok (.iconst 0, 1) := by decide +kernel
theorem dX11_on_31 : decode cX11_on 31 = .ok (.ireturn, 1) := by decide +kernel
theorem dX11_on_32 : decode cX11_on 32 = .ok (.aload_n 0, 1) := by decide +kernel
theorem dX11_on_33 : decode cX11_on 33 = .ok (.invokevirtual 366, 3) := by decide +kernel
theorem dX11_on_36 : decode cX11_on 36 = .ok (.aload_n 0, 1) := by decide +kernel
theorem dX11_on_37 : decode cX11_on 37 = .ok (.getfield 40, 3) := by decide +kernel
theorem dX11_on_40 : decode cX11_on 40 = .ok (.getfield 171, 3) := by decide +kernel
theorem dX11_on_43 : decode cX11_on 43 = .ok (.iload_n 1, 1) := by decide +kernel
theorem dX11_on_44 : decode cX11_on 44 = .ok (.aaload, 1) := by decide +kernel
theorem dX11_on_45 : decode cX11_on 45 = .ok (.iload_n 2, 1) := by decide +kernel
theorem dX11_on_46 : decode cX11_on 46 = .ok (.putfield 200, 3) := by decide +kernel
theorem dX11_on_49 : decode cX11_on 49 = .ok (.iconst 1, 1) := by decide +kernel
theorem dX11_on_50 : decode cX11_on 50 = .ok (.ireturn, 1) := by decide +kernel
theorem dX11_chance_0 : decode cX11_chance 0 = .ok (.aload_n 0, 1) := by decide +kernel
theorem dX11_chance_1 : decode cX11_chance 1 = .ok (.getfield 10, 3) := by decide +kernel
theorem dX11_chance_4 : decode cX11_chance 4 = .ok (.getfield 125, 3) := by decide +kernel
theorem dX11_chance_7 : decode cX11_chance 7 = .ok (.ifCond .eq 31, 3) := by decide +kernel
theorem dX11_chance_10 : decode cX11_chance 10 = .ok (.iload_n 1, 1) := by decide +kernel
theorem dX11_chance_11 : decode cX11_chance 11 = .ok (.iconst 1, 1) := by decide +kernel
theorem dX11_chance_12 : decode cX11_chance 12 = .ok (.bipush 40, 2) := by decide +kernel
theorem dX11_chance_14 : decode cX11_chance 14 = .ok (.invokestatic 306, 3) := by decide +kernel
theorem dX11_chance_17 : decode cX11_chance 17 = .ok (.ifCond .eq 21, 3) := by decide +kernel
theorem dX11_chance_20 : decode cX11_chance 20 = .ok (.aload_n 0, 1) := by decide +kernel
theorem dX11_chance_21 : decode cX11_chance 21 = .ok (.getfield 40, 3) := by decide +kernel
theorem dX11_chance_24 : decode cX11_chance 24 = .ok (.getfield 126, 3) := by decide +kernel
theorem dX11_chance_27 : decode cX11_chance 27 = .ok (.bipush 7, 2) := by decide +kernel
theorem dX11_chance_29 : decode cX11_chance 29 = .ok (.iload_n 1, 1) := by decide +kernel
theorem dX11_chance_30 : decode cX11_chance 30 = .ok (.imul, 1) := by decide +kernel
theorem dX11_chance_31 : decode cX11_chance 31 = .ok (.iadd, 1) := by decide +kernel
theorem dX11_chance_32 : decode cX11_chance 32 = .ok (.sipush 9999, 3) := by decide +kernel
theorem dX11_chance_35 : decode cX11_chance 35 = .ok (.if_icmp .le 9, 3) := by decide +kernel
theorem dX11_chance_38 : decode cX11_chance 38 = .ok (.aload_n 0, 1) := by decide +kernel
theorem dX11_chance_39 : decode cX11_chance 39 = .ok (.iconst 2, 1) := by decide +kernel
theorem dX11_chance_40 : decode cX11_chance 40 = .ok (.invokevirtual 92, 3) := by decide +kernel
theorem dX11_chance_43 : decode cX11_chance 43 = .ok (.ireturn, 1) := by decide +kernel
theorem dX11_chance_44 : decode cX11_chance 44 = .ok (.aload_n 0, 1) := by decide +kernel
theorem dX11_chance_45 : decode cX11_chance 45 = .ok (.invokevirtual 366, 3) := by decide +kernel
theorem dX11_chance_48 : decode cX11_chance 48 = .ok (.iconst 0, 1) := by decide +kernel
theorem dX11_chance_49 : decode cX11_chance 49 = .ok (.istore_n 2, 1) := by decide +kernel
theorem dX11_chance_50 : decode cX11_chance 50 = .ok (.iload_n 2, 1) := by decide +kernel
theorem dX11_chance_51 : decode cX11_chance 51 = .ok (.iload_n 1, 1) := by decide +kernel
theorem dX11_chance_52 : decode cX11_chance 52 = .ok (.if_icmp .ge 26, 3) := by decide +kernel
theorem dX11_chance_55 : decode cX11_chance 55 = .ok (.aload_n 0, 1) := by decide +kernel
theorem dX11_chance_56 : decode cX11_chance 56 = .ok (.invokevirtual 376, 3) := by decide +kernel
theorem dX11_chance_59 : decode cX11_chance 59 = .ok (.aload_n 0, 1) := by decide +kernel
theorem dX11_chance_60 : decode cX11_chance 60 = .ok (.getfield 40, 3) := by decide +kernel
theorem dX11_chance_63 : decode cX11_chance 63 = .ok (.aload_n 0, 1) := by decide +kernel
theorem dX11_chance_64 : decode cX11_chance 64 = .ok (.bipush 8, 2) := by decide +kernel
theorem dX11_chance_66 : decode cX11_chance 66 = .ok (.invokevirtual 379, 3) := by decide +kernel
theorem dX11_chance_69 : decode cX11_chance 69 = .ok (.invokevirtual 321, 3) := by decide +kernel
theorem dX11_chance_72 : decode cX11_chance 72 = .ok (.iinc 2 1, 3) := by decide +kernel
theorem dX11_chance_75 : decode cX11_chance 75 = .ok (.goto (-25), 3) := by decide +kernel
theorem dX11_chance_78 : decode cX11_chance 78 = .ok (.aload_n 0, 1) := by decide +kernel
theorem dX11_chance_79 : decode cX11_chance 79 = .ok (.getfield 40, 3) := by decide +kernel
theorem dX11_chance_82 : decode cX11_chance 82 = .ok (.getfield 126, 3) := by decide +kernel
theorem dX11_chance_85 : decode cX11_chance 85 = .ok (.ireturn, 1) := by decide +kernel
theorem dX11_undo_0 : decode cX11_undo 0 = .ok (.aload_n 0, 1) := by decide +kernel
theorem dX11_undo_1 : decode cX11_undo 1 = .ok (.getfield 55, 3) := by decide +kernel
theorem dX11_undo_4 : decode cX11_undo 4 = .ok (.ifCond .ne 11, 3) := by decide +kernel
theorem dX11_undo_7 : decode cX11_undo 7 = .ok (.aload_n 0, 1) := by decide +kernel
theorem dX11_undo_8 : decode cX11_undo 8 = .ok (.iconst 4, 1) := by decide +kernel
theorem dX11_undo_9 : decode cX11_undo 9 = .ok (.invokevirtual 92, 3) := by decide +kernel
theorem dX11_undo_12 : decode cX11_undo 12 = .ok (.pop, 1) := by decide +kernel
theorem dX11_undo_13 : decode cX11_undo 13 = .ok (.iconst 0, 1) := by decide +kernel
theorem dX11_undo_14 : decode cX11_undo 14 = .ok (.ireturn, 1) := by decide +kernel
theorem dX11_undo_15 : decode cX11_undo 15 = .ok (.aload_n 0, 1) := by decide +kernel
theorem dX11_undo_16 : decode cX11_undo 16 = .ok (.invokevirtual 382, 3) := by decide +kernel
theorem dX11_undo_19 : decode cX11_undo 19 = .ok (.iconst 1, 1) := by decide +kernel
theorem dX11_undo_20 : decode cX11_undo 20 = .ok (.ireturn, 1) := by decide +kernel
theorem dX11_seed_0 : decode cX11_seed 0 = .ok (.iload_n 1, 1) := by decide +kernel
theorem dX11_seed_1 : decode cX11_seed 1 = .ok (.ifCond .ge 11, 3) := by decide +kernel
theorem dX11_seed_4 : decode cX11_seed 4 = .ok (.aload_n 0, 1) := by decide +kernel
theorem dX11_seed_5 : decode cX11_seed 5 = .ok (.iconst 5, 1) := by decide +kernel
theorem dX11_seed_6 : decode cX11_seed 6 = .ok (.invokevirtual 92, 3) := by decide +kernel
theorem dX11_seed_9 : decode cX11_seed 9 = .ok (.pop, 1) := by decide +kernel
theorem dX11_seed_10 : decode cX11_seed 10 = .ok (.iconst 0, 1) := by decide +kernel
theorem dX11_seed_11 : decode cX11_seed 11 = .ok (.ireturn, 1) := by decide +kernel
theorem dX11_seed_12 : decode cX11_seed 12 = .ok (.aload_n 0, 1) := by decide +kernel
theorem dX11_seed_13 : decode cX11_seed 13 = .ok (.iload_n 1, 1) := by decide +kernel
theorem dX11_seed_14 : decode cX11_seed 14 = .ok (.i2l, 1) := by decide +kernel
theorem dX11_seed_15 : decode cX11_seed 15 = .ok (.putfield 85, 3) := by decide +kernel
theorem dX11_seed_18 : decode cX11_seed 18 = .ok (.iconst 1, 1) := by decide +kernel
theorem dX11_seed_19 : decode cX11_seed 19 = .ok (.ireturn, 1) := by decide +kernel
theorem dX11_image_0 : decode cX11_image 0 = .ok (.aload_n 0, 1) := by decide +kernel
theorem dX11_image_1 : decode cX11_image 1 = .ok (.getfield 68, 3) := by decide +kernel
theorem dX11_image_4 : decode cX11_image 4 = .ok (.aload_n 0, 1) := by decide +kernel
theorem dX11_image_5 : decode cX11_image 5 = .ok (.getfield 40, 3) := by decide +kernel
theorem dX11_image_8 : decode cX11_image 8 = .ok (.aload_n 0, 1) := by decide +kernel
theorem dX11_image_9 : decode cX11_image 9 = .ok (.getfield 10, 3) := by decide +kernel
theorem dX11_image_12 : decode cX11_image 12 = .ok (.getfield 125, 3) := by decide +kernel
theorem dX11_image_15 : decode cX11_image 15 = .ok (.invokevirtual 385, 3) := by decide +kernel
theorem dX11_image_18 : decode cX11_image 18 = .ok (.aload_n 0, 1) := by decide +kernel
theorem dX11_image_19 : decode cX11_image 19 = .ok (.getfield 68, 3) := by decide +kernel
theorem dX11_image_22 : decode cX11_image 22 = .ok (.getfield 389, 3) := by decide +kernel
theorem dX11_image_25 : decode cX11_image 25 = .ok (.ireturn, 1) := by decide +kernel
theorem dX11_octet_0 : decode cX11_octet 0 = .ok (.iload_n 1, 1) := by decide +kernel
theorem dX11_octet_1 : decode cX11_octet 1 = .ok (.ifCond .lt 14, 3) := by decide +kernel
theorem dX11_octet_4 : decode cX11_octet 4 = .ok (.iload_n 1, 1) := by decide +kernel
theorem dX11_octet_5 : decode cX11_octet 5 = .ok (.aload_n 0, 1) := by decide +kernel
theorem dX11_octet_6 : decode cX11_octet 6 = .ok (.getfield 68, 3) := by decide +kernel
theorem dX11_octet_9 : decode cX11_octet 9 = .ok (.getfield 389, 3) := by decide +kernel
theorem dX11_octet_12 : decode cX11_octet 12 = .ok (.if_icmp .lt 7, 3) := by decide +kernel
theorem dX11_octet_15 : decode cX11_octet 15 = .ok (.iconst (-1), 1) := by decide +kernel
theorem dX11_octet_16 : decode cX11_octet 16 = .ok (.goto 12, 3) := by decide +kernel
theorem dX11_octet_19 : decode cX11_octet 19 = .ok (.aload_n 0, 1) := by decide +kernel
