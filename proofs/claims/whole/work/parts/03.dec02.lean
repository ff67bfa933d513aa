theorem dX8_init_0 : decode cX8_init 0 = .ok (.aload_n 0, 1) := by decide +kernel
theorem dX8_init_1 : decode cX8_init 1 = .ok (.invokespecial 3, 3) := by decide +kernel
theorem dX8_init_4 : decode cX8_init 4 = .ok (.aload_n 0, 1) := by decide +kernel
theorem dX8_init_5 : decode cX8_init 5 = .ok (.bipush 6, 2) := by decide +kernel
theorem dX8_init_7 : decode cX8_init 7 = .ok (.anewarray 9, 3) := by decide +kernel
theorem dX8_init_10 : decode cX8_init 10 = .ok (.putfield 11, 3) := by decide +kernel
theorem dX8_init_13 : decode cX8_init 13 = .ok (.aload_n 0, 1) := by decide +kernel
theorem dX8_init_14 : decode cX8_init 14 = .ok (.bipush 6, 2) := by decide +kernel
theorem dX8_init_16 : decode cX8_init 16 = .ok (.anewarray 17, 3) := by decide +kernel
theorem dX8_init_19 : decode cX8_init 19 = .ok (.putfield 19, 3) := by decide +kernel
theorem dX8_init_22 : decode cX8_init 22 = .ok (.aload_n 0, 1) := by decide +kernel
theorem dX8_init_23 : decode cX8_init 23 = .ok (.new 23, 3) := by decide +kernel
theorem dX8_init_26 : decode cX8_init 26 = .ok (.dup, 1) := by decide +kernel
theorem dX8_init_27 : decode cX8_init 27 = .ok (.invokespecial 25, 3) := by decide +kernel
theorem dX8_init_30 : decode cX8_init 30 = .ok (.putfield 26, 3) := by decide +kernel
theorem dX8_init_33 : decode cX8_init 33 = .ok (.aload_n 0, 1) := by decide +kernel
theorem dX8_init_34 : decode cX8_init 34 = .ok (.bipush 6, 2) := by decide +kernel
theorem dX8_init_36 : decode cX8_init 36 = .ok (.newarray .int, 2) := by decide +kernel
theorem dX8_init_38 : decode cX8_init 38 = .ok (.putfield 30, 3) := by decide +kernel
theorem dX8_init_41 : decode cX8_init 41 = .ok (.aload_n 0, 1) := by decide +kernel
theorem dX8_init_42 : decode cX8_init 42 = .ok (.new 34, 3) := by decide +kernel
theorem dX8_init_45 : decode cX8_init 45 = .ok (.dup, 1) := by decide +kernel
theorem dX8_init_46 : decode cX8_init 46 = .ok (.invokespecial 36, 3) := by decide +kernel
theorem dX8_init_49 : decode cX8_init 49 = .ok (.putfield 37, 3) := by decide +kernel
theorem dX8_init_52 : decode cX8_init 52 = .ok (.aload_n 0, 1) := by decide +kernel
theorem dX8_init_53 : decode cX8_init 53 = .ok (.iconst 0, 1) := by decide +kernel
theorem dX8_init_54 : decode cX8_init 54 = .ok (.putfield 41, 3) := by decide +kernel
theorem dX8_init_57 : decode cX8_init 57 = .ok (.aload_n 0, 1) := by decide +kernel
theorem dX8_init_58 : decode cX8_init 58 = .ok (.iconst 0, 1) := by decide +kernel
theorem dX8_init_59 : decode cX8_init 59 = .ok (.putfield 45, 3) := by decide +kernel
theorem dX8_init_62 : decode cX8_init 62 = .ok (.aload_n 0, 1) := by decide +kernel
theorem dX8_init_63 : decode cX8_init 63 = .ok (.fconst 0, 1) := by decide +kernel
theorem dX8_init_64 : decode cX8_init 64 = .ok (.putfield 48, 3) := by decide +kernel
theorem dX8_init_67 : decode cX8_init 67 = .ok (.aload_n 0, 1) := by decide +kernel
theorem dX8_init_68 : decode cX8_init 68 = .ok (.fconst 0, 1) := by decide +kernel
theorem dX8_init_69 : decode cX8_init 69 = .ok (.putfield 52, 3) := by decide +kernel
theorem dX8_init_72 : decode cX8_init 72 = .ok (.aload_n 0, 1) := by decide +kernel
theorem dX8_init_73 : decode cX8_init 73 = .ok (.iconst 0, 1) := by decide +kernel
theorem dX8_init_74 : decode cX8_init 74 = .ok (.putfield 55, 3) := by decide +kernel
theorem dX8_init_77 : decode cX8_init 77 = .ok (.aload_n 0, 1) := by decide +kernel
theorem dX8_init_78 : decode cX8_init 78 = .ok (.iconst (-1), 1) := by decide +kernel
theorem dX8_init_79 : decode cX8_init 79 = .ok (.putfield 58, 3) := by decide +kernel
theorem dX8_init_82 : decode cX8_init 82 = .ok (.aload_n 0, 1) := by decide +kernel
theorem dX8_init_83 : decode cX8_init 83 = .ok (.iconst 0, 1) := by decide +kernel
theorem dX8_init_84 : decode cX8_init 84 = .ok (.putfield 61, 3) := by decide +kernel
theorem dX8_init_87 : decode cX8_init 87 = .ok (.aload_n 0, 1) := by decide +kernel
theorem dX8_init_88 : decode cX8_init 88 = .ok (.iconst 0, 1) := by decide +kernel
theorem dX8_init_89 : decode cX8_init 89 = .ok (.putfield 64, 3) := by decide +kernel
theorem dX8_init_92 : decode cX8_init 92 = .ok (.aload_n 0, 1) := by decide +kernel
theorem dX8_init_93 : decode cX8_init 93 = .ok (.iconst 0, 1) := by decide +kernel
theorem dX8_init_94 : decode cX8_init 94 = .ok (.putfield 67, 3) := by decide +kernel
theorem dX8_init_97 : decode cX8_init 97 = .ok (.aload_n 0, 1) := by decide +kernel
theorem dX8_init_98 : decode cX8_init 98 = .ok (.iconst 0, 1) := by decide +kernel
theorem dX8_init_99 : decode cX8_init 99 = .ok (.putfield 70, 3) := by decide +kernel
theorem dX8_init_102 : decode cX8_init 102 = .ok (.aload_n 0, 1) := by decide +kernel
theorem dX8_init_103 : decode cX8_init 103 = .ok (.iconst 0, 1) := by decide +kernel
theorem dX8_init_104 : decode cX8_init 104 = .ok (.putfield 73, 3) := by decide +kernel
theorem dX8_init_107 : decode cX8_init 107 = .ok (.aload_n 0, 1) := by decide +kernel
theorem dX8_init_108 : decode cX8_init 108 = .ok (.iconst 0, 1) := by decide +kernel
theorem dX8_init_109 : decode cX8_init 109 = .ok (.putfield 76, 3) := by decide +kernel
theorem dX8_init_112 : decode cX8_init 112 = .ok (.aload_n 0, 1) := by decide +kernel
theorem dX8_init_113 : decode cX8_init 113 = .ok (.iconst 0, 1) := by decide +kernel
theorem dX8_init_114 : decode cX8_init 114 = .ok (.putfield 79, 3) := by decide +kernel
theorem dX8_init_117 : decode cX8_init 117 = .ok (.aload_n 0, 1) := by decide +kernel
theorem dX8_init_118 : decode cX8_init 118 = .ok (.iconst 0, 1) := by decide +kernel
theorem dX8_init_119 : decode cX8_init 119 = .ok (.putfield 82, 3) := by decide +kernel
theorem dX8_init_122 : decode cX8_init 122 = .ok (.aload_n 0, 1) := by decide +kernel
theorem dX8_init_123 : decode cX8_init 123 = .ok (.aload_n 1, 1) := by decide +kernel
theorem dX8_init_124 : decode cX8_init 124 = .ok (.putfield 85, 3) := by decide +kernel
theorem dX8_init_127 : decode cX8_init 127 = .ok (.iconst 0, 1) := by decide +kernel
theorem dX8_init_128 : decode cX8_init 128 = .ok (.istore_n 2, 1) := by decide +kernel
theorem dX8_init_129 : decode cX8_init 129 = .ok (.iload_n 2, 1) := by decide +kernel
theorem dX8_init_130 : decode cX8_init 130 = .ok (.bipush 6, 2) := by decide +kernel
theorem dX8_init_132 : decode cX8_init 132 = .ok (.if_icmp .ge 35, 3) := by decide +kernel
theorem dX8_init_135 : decode cX8_init 135 = .ok (.aload_n 0, 1) := by decide +kernel
theorem dX8_init_136 : decode cX8_init 136 = .ok (.getfield 11, 3) := by decide +kernel
theorem dX8_init_139 : decode cX8_init 139 = .ok (.iload_n 2, 1) := by decide +kernel
theorem dX8_init_140 : decode cX8_init 140 = .ok (.new 9, 3) := by decide +kernel
theorem dX8_init_143 : decode cX8_init 143 = .ok (.dup, 1) := by decide +kernel
theorem dX8_init_144 : decode cX8_init 144 = .ok (.invokespecial 89, 3) := by decide +kernel
theorem dX8_init_147 : decode cX8_init 147 = .ok (.aastore, 1) := by decide +kernel
theorem dX8_init_148 : decode cX8_init 148 = .ok (.aload_n 0, 1) := by decide +kernel
theorem dX8_init_149 : decode cX8_init 149 = .ok (.getfield 19, 3) := by decide +kernel
theorem dX8_init_152 : decode cX8_init 152 = .ok (.iload_n 2, 1) := by decide +kernel
theorem dX8_init_153 : decode cX8_init 153 = .ok (.new 17, 3) := by decide +kernel
theorem dX8_init_156 : decode cX8_init 156 = .ok (.dup, 1) := by decide +kernel
theorem dX8_init_157 : decode cX8_init 157 = .ok (.invokespecial 90, 3) := by decide +kernel
theorem dX8_init_160 : decode cX8_init 160 = .ok (.aastore, 1) := by decide +kernel
theorem dX8_init_161 : decode cX8_init 161 = .ok (.iinc 2 1, 3) := by decide +kernel
theorem dX8_init_164 : decode cX8_init 164 = .ok (.goto (-35), 3) := by decide +kernel
theorem dX8_init_167 : decode cX8_init 167 = .ok (.return_, 1) := by decide +kernel
theorem dX8_begin_0 : decode cX8_begin 0 = .ok (.aload_n 0, 1) := by decide +kernel
theorem dX8_begin_1 : decode cX8_begin 1 = .ok (.aload_n 1, 1) := by decide +kernel
theorem dX8_begin_2 : decode cX8_begin 2 = .ok (.putfield 85, 3) := by decide +kernel
theorem dX8_begin_5 : decode cX8_begin 5 = .ok (.iconst 0, 1) := by decide +kernel
theorem dX8_begin_6 : decode cX8_begin 6 = .ok (.istore_n 2, 1) := by decide +kernel
theorem dX8_begin_7 : decode cX8_begin 7 = .ok (.iload_n 2, 1) := by decide +kernel
theorem dX8_begin_8 : decode cX8_begin 8 = .ok (.bipush 6, 2) := by decide +kernel
theorem dX8_begin_10 : decode cX8_begin 10 = .ok (.if_icmp .ge 63, 3) := by decide +kernel
theorem dX8_begin_13 : decode cX8_begin 13 = .ok (.aload_n 0, 1) := by decide +kernel
theorem dX8_begin_14 : decode cX8_begin 14 = .ok (.getfield 11, 3) := by decide +kernel
theorem dX8_begin_17 : decode cX8_begin 17 = .ok (.iload_n 2, 1) := by decide +kernel
theorem dX8_begin_18 : decode cX8_begin 18 = .ok (.aaload, 1) := by decide +kernel
theorem dX8_begin_19 : decode cX8_begin 19 = .ok (.iload_n 2, 1) := by decide +kernel
theorem dX8_begin_20 : decode cX8_begin 20 = .ok (.aload_n 0, 1) := by decide +kernel
theorem dX8_begin_21 : decode cX8_begin 21 = .ok (.getfield 85, 3) := by decide +kernel
theorem dX8_begin_24 : decode cX8_begin 24 = .ok (.getfield 91, 3) := by decide +kernel
theorem dX8_begin_27 : decode cX8_begin 27 = .ok (.iload_n 2, 1) := by decide +kernel
theorem dX8_begin_28 : decode cX8_begin 28 = .ok (.iaload, 1) := by decide +kernel
theorem dX8_begin_29 : decode cX8_begin 29 = .ok (.aload_n 0, 1) := by decide +kernel
theorem dX8_begin_30 : decode cX8_begin 30 = .ok (.getfield 85, 3) := by decide +kernel
theorem dX8_begin_33 : decode cX8_begin 33 = .ok (.getfield 96, 3) := by decide +kernel
theorem dX8_begin_36 : decode cX8_begin 36 = .ok (.iload_n 2, 1) := by decide +kernel
theorem dX8_begin_37 : decode cX8_begin 37 = .ok (.iaload, 1) := by decide +kernel
theorem dX8_begin_38 : decode cX8_begin 38 = .ok (.invokevirtual 99, 3) := by decide +kernel
theorem dX8_begin_41 : decode cX8_begin 41 = .ok (.aload_n 0, 1) := by decide +kernel
theorem dX8_begin_42 : decode cX8_begin 42 = .ok (.getfield 19, 3) := by decide +kernel
theorem dX8_begin_45 : decode cX8_begin 45 = .ok (.iload_n 2, 1) := by decide +kernel
theorem dX8_begin_46 : decode cX8_begin 46 = .ok (.aaload, 1) := by decide +kernel
theorem dX8_begin_47 : decode cX8_begin 47 = .ok (.aload_n 0, 1) := by decide +kernel
theorem dX8_begin_48 : decode cX8_begin 48 = .ok (.getfield 85, 3) := by decide +kernel
theorem dX8_begin_51 : decode cX8_begin 51 = .ok (.getfield 103, 3) := by decide +kernel
theorem dX8_begin_54 : decode cX8_begin 54 = .ok (.aload_n 0, 1) := by decide +kernel
theorem dX8_begin_55 : decode cX8_begin 55 = .ok (.getfield 85, 3) := by decide +kernel
theorem dX8_begin_58 : decode cX8_begin 58 = .ok (.getfield 106, 3) := by decide +kernel
theorem dX8_begin_61 : decode cX8_begin 61 = .ok (.iadd, 1) := by decide +kernel
theorem dX8_begin_62 : decode cX8_begin 62 = .ok (.iconst 2, 1) := by decide +kernel
theorem dX8_begin_63 : decode cX8_begin 63 = .ok (.idiv, 1) := by decide +kernel
theorem dX8_begin_64 : decode cX8_begin 64 = .ok (.invokevirtual 109, 3) := by decide +kernel
theorem dX8_begin_67 : decode cX8_begin 67 = .ok (.iinc 2 1, 3) := by decide +kernel
theorem dX8_begin_70 : decode cX8_begin 70 = .ok (.goto (-63), 3) := by decide +kernel
theorem dX8_begin_73 : decode cX8_begin 73 = .ok (.aload_n 0, 1) := by decide +kernel
theorem dX8_begin_74 : decode cX8_begin 74 = .ok (.getfield 26, 3) := by decide +kernel
theorem dX8_begin_77 : decode cX8_begin 77 = .ok (.iconst 0, 1) := by decide +kernel
theorem dX8_begin_78 : decode cX8_begin 78 = .ok (.putfield 112, 3) := by decide +kernel
theorem dX8_begin_81 : decode cX8_begin 81 = .ok (.aload_n 0, 1) := by decide +kernel
theorem dX8_begin_82 : decode cX8_begin 82 = .ok (.getfield 37, 3) := by decide +kernel
theorem dX8_begin_85 : decode cX8_begin 85 = .ok (.iconst 0, 1) := by decide +kernel
theorem dX8_begin_86 : decode cX8_begin 86 = .ok (.putfield 115, 3) := by decide +kernel
theorem dX8_begin_89 : decode cX8_begin 89 = .ok (.aload_n 0, 1) := by decide +kernel
theorem dX8_begin_90 : decode cX8_begin 90 = .ok (.iconst 0, 1) := by decide +kernel
theorem dX8_begin_91 : decode cX8_begin 91 = .ok (.putfield 41, 3) := by decide +kernel
theorem dX8_begin_94 : decode cX8_begin 94 = .ok (.aload_n 0, 1) := by decide +kernel
theorem dX8_begin_95 : decode cX8_begin 95 = .ok (.iconst 0, 1) := by decide +kernel
theorem dX8_begin_96 : decode cX8_begin 96 = .ok (.putfield 45, 3) := by decide +kernel
theorem dX8_begin_99 : decode cX8_begin 99 = .ok (.aload_n 0, 1) := by decide +kernel
theorem dX8_begin_100 : decode cX8_begin 100 = .ok (.fconst 0, 1) := by decide +kernel
theorem dX8_begin_101 : decode cX8_begin 101 = .ok (.putfield 48, 3) := by decide +kernel
theorem dX8_begin_104 : decode cX8_begin 104 = .ok (.aload_n 0, 1) := by decide +kernel
theorem dX8_begin_105 : decode cX8_begin 105 = .ok (.aload_n 0, 1) := by decide +kernel
theorem dX8_begin_106 : decode cX8_begin 106 = .ok (.getfield 85, 3) := by decide +kernel
theorem dX8_begin_109 : decode cX8_begin 109 = .ok (.getfield 118, 3) := by decide +kernel
theorem dX8_begin_112 : decode cX8_begin 112 = .ok (.i2f, 1) := by decide +kernel
theorem dX8_begin_113 : decode cX8_begin 113 = .ok (.putfield 52, 3) := by decide +kernel
theorem dX8_begin_116 : decode cX8_begin 116 = .ok (.aload_n 0, 1) := by decide +kernel
theorem dX8_begin_117 : decode cX8_begin 117 = .ok (.iconst 0, 1) := by decide +kernel
theorem dX8_begin_118 : decode cX8_begin 118 = .ok (.putfield 55, 3) := by decide +kernel
theorem dX8_begin_121 : decode cX8_begin 121 = .ok (.aload_n 0, 1) := by decide +kernel
theorem dX8_begin_122 : decode cX8_begin 122 = .ok (.iconst (-1), 1) := by decide +kernel
theorem dX8_begin_123 : decode cX8_begin 123 = .ok (.putfield 58, 3) := by decide +kernel
theorem dX8_begin_126 : decode cX8_begin 126 = .ok (.aload_n 0, 1) := by decide +kernel
theorem dX8_begin_127 : decode cX8_begin 127 = .ok (.iconst 0, 1) := by decide +kernel
theorem dX8_begin_128 : decode cX8_begin 128 = .ok (.putfield 61, 3) := by decide +kernel
theorem dX8_begin_131 : decode cX8_begin 131 = .ok (.aload_n 0, 1) := by decide +kernel
theorem dX8_begin_132 : decode cX8_begin 132 = .ok (.iconst 0, 1) := by decide +kernel
theorem dX8_begin_133 : decode cX8_begin 133 = .ok (.putfield 64, 3) := by decide +kernel
theorem dX8_begin_136 : decode cX8_begin 136 = .ok (.aload_n 0, 1) := by decide +kernel
theorem dX8_begin_137 : decode cX8_begin 137 = .ok (.iconst 0, 1) := by decide +kernel
theorem dX8_begin_138 : decode cX8_begin 138 = .ok (.putfield 67, 3) := by decide +kernel
theorem dX8_begin_141 : decode cX8_begin 141 = .ok (.aload_n 0, 1) := by decide +kernel
theorem dX8_begin_142 : decode cX8_begin 142 = .ok (.aload_n 0, 1) := by decide +kernel
theorem dX8_begin_143 : decode cX8_begin 143 = .ok (.getfield 85, 3) := by decide +kernel
theorem dX8_begin_146 : decode cX8_begin 146 = .ok (.getfield 106, 3) := by decide +kernel
theorem dX8_begin_149 : decode cX8_begin 149 = .ok (.putfield 70, 3) := by decide +kernel
theorem dX8_begin_152 : decode cX8_begin 152 = .ok (.aload_n 0, 1) := by decide +kernel
theorem dX8_begin_153 : decode cX8_begin 153 = .ok (.aload_n 0, 1) := by decide +kernel
theorem dX8_begin_154 : decode cX8_begin 154 = .ok (.getfield 85, 3) := by decide +kernel
theorem dX8_begin_157 : decode cX8_begin 157 = .ok (.getfield 120, 3) := by decide +kernel
theorem dX8_begin_160 : decode cX8_begin 160 = .ok (.putfield 73, 3) := by decide +kernel
theorem dX8_begin_163 : decode cX8_begin 163 = .ok (.aload_n 0, 1) := by decide +kernel
theorem dX8_begin_164 : decode cX8_begin 164 = .ok (.aload_n 0, 1) := by decide +kernel
theorem dX8_begin_165 : decode cX8_begin 165 = .ok (.getfield 85, 3) := by decide +kernel
theorem dX8_begin_168 : decode cX8_begin 168 = .ok (.getfield 121, 3) := by decide +kernel
theorem dX8_begin_171 : decode cX8_begin 171 = .ok (.putfield 76, 3) := by decide +kernel
theorem dX8_begin_174 : decode cX8_begin 174 = .ok (.aload_n 0, 1) := by decide +kernel
theorem dX8_begin_175 : decode cX8_begin 175 = .ok (.iconst 0, 1) := by decide +kernel
theorem dX8_begin_176 : decode cX8_begin 176 = .ok (.putfield 79, 3) := by decide +kernel
theorem dX8_begin_179 : decode cX8_begin 179 = .ok (.aload_n 0, 1) := by decide +kernel
theorem dX8_begin_180 : decode cX8_begin 180 = .ok (.iconst 0, 1) := by decide +kernel
theorem dX8_begin_181 : decode cX8_begin 181 = .ok (.putfield 82, 3) := by decide +kernel
theorem dX8_begin_184 : decode cX8_begin 184 = .ok (.return_, 1) := by decide +kernel
theorem dX8_copyAll_0 : decode cX8_copyAll 0 = .ok (.aload_n 0, 1) := by decide +kernel
theorem dX8_copyAll_1 : decode cX8_copyAll 1 = .ok (.aload_n 1, 1) := by decide +kernel
theorem dX8_copyAll_2 : decode cX8_copyAll 2 = .ok (.invokevirtual 122, 3) := by decide +kernel
theorem dX8_copyAll_5 : decode cX8_copyAll 5 = .ok (.aload_n 0, 1) := by decide +kernel
theorem dX8_copyAll_6 : decode cX8_copyAll 6 = .ok (.getfield 37, 3) := by decide +kernel
theorem dX8_copyAll_9 : decode cX8_copyAll 9 = .ok (.aload_n 1, 1) := by decide +kernel
theorem dX8_copyAll_10 : decode cX8_copyAll 10 = .ok (.getfield 37, 3) := by decide +kernel
theorem dX8_copyAll_13 : decode cX8_copyAll 13 = .ok (.invokevirtual 126, 3) := by decide +kernel
theorem dX8_copyAll_16 : decode cX8_copyAll 16 = .ok (.aload_n 0, 1) := by decide +kernel
theorem dX8_copyAll_17 : decode cX8_copyAll 17 = .ok (.aload_n 1, 1) := by decide +kernel
theorem dX8_copyAll_18 : decode cX8_copyAll 18 = .ok (.getfield 79, 3) := by decide +kernel
theorem dX8_copyAll_21 : decode cX8_copyAll 21 = .ok (.putfield 79, 3) := by decide +kernel
theorem dX8_copyAll_24 : decode cX8_copyAll 24 = .ok (.iconst 0, 1) := by decide +kernel
theorem dX8_copyAll_25 : decode cX8_copyAll 25 = .ok (.istore_n 2, 1) := by decide +kernel
theorem dX8_copyAll_26 : decode cX8_copyAll 26 = .ok (.iload_n 2, 1) := by decide +kernel
theorem dX8_copyAll_27 : decode cX8_copyAll 27 = .ok (.aload_n 0, 1) := by decide +kernel
theorem dX8_copyAll_28 : decode cX8_copyAll 28 = .ok (.getfield 85, 3) := by decide +kernel
theorem dX8_copyAll_31 : decode cX8_copyAll 31 = .ok (.getfield 130, 3) := by decide +kernel
theorem dX8_copyAll_34 : decode cX8_copyAll 34 = .ok (.if_icmp .ge 24, 3) := by decide +kernel
theorem dX8_copyAll_37 : decode cX8_copyAll 37 = .ok (.aload_n 0, 1) := by decide +kernel
theorem dX8_copyAll_38 : decode cX8_copyAll 38 = .ok (.getfield 11, 3) := by decide +kernel
theorem dX8_copyAll_41 : decode cX8_copyAll 41 = .ok (.iload_n 2, 1) := by decide +kernel
theorem dX8_copyAll_42 : decode cX8_copyAll 42 = .ok (.aaload, 1) := by decide +kernel
theorem dX8_copyAll_43 : decode cX8_copyAll 43 = .ok (.aload_n 1, 1) := by decide +kernel
theorem dX8_copyAll_44 : decode cX8_copyAll 44 = .ok (.getfield 11, 3) := by decide +kernel
theorem dX8_copyAll_47 : decode cX8_copyAll 47 = .ok (.iload_n 2, 1) := by decide +kernel
theorem dX8_copyAll_48 : decode cX8_copyAll 48 = .ok (.aaload, 1) := by decide +kernel
theorem dX8_copyAll_49 : decode cX8_copyAll 49 = .ok (.invokevirtual 131, 3) := by decide +kernel
theorem dX8_copyAll_52 : decode cX8_copyAll 52 = .ok (.iinc 2 1, 3) := by decide +kernel
theorem dX8_copyAll_55 : decode cX8_copyAll 55 = .ok (.goto (-29), 3) := by decide +kernel
theorem dX8_copyAll_58 : decode cX8_copyAll 58 = .ok (.return_, 1) := by decide +kernel
theorem dX8_copyForAhead_0 : decode cX8_copyForAhead 0 = .ok (.aload_n 0, 1) := by decide +kernel
theorem dX8_copyForAhead_1 : decode cX8_copyForAhead 1 = .ok (.aload_n 1, 1) := by decide +kernel
theorem dX8_copyForAhead_2 : decode cX8_copyForAhead 2 = .ok (.invokevirtual 122, 3) := by decide +kernel
theorem dX8_copyForAhead_5 : decode cX8_copyForAhead 5 = .ok (.aload_n 0, 1) := by decide +kernel
theorem dX8_copyForAhead_6 : decode cX8_copyForAhead 6 = .ok (.getfield 37, 3) := by decide +kernel
theorem dX8_copyForAhead_9 : decode cX8_copyForAhead 9 = .ok (.iconst 0, 1) := by decide +kernel
theorem dX8_copyForAhead_10 : decode cX8_copyForAhead 10 = .ok (.putfield 115, 3) := by decide +kernel
theorem dX8_copyForAhead_13 : decode cX8_copyForAhead 13 = .ok (.aload_n 0, 1) := by decide +kernel
theorem dX8_copyForAhead_14 : decode cX8_copyForAhead 14 = .ok (.iconst 0, 1) := by decide +kernel
theorem dX8_copyForAhead_15 : decode cX8_copyForAhead 15 = .ok (.putfield 79, 3) := by decide +kernel
theorem dX8_copyForAhead_18 : decode cX8_copyForAhead 18 = .ok (.iconst 0, 1) := by decide +kernel
theorem dX8_copyForAhead_19 : decode cX8_copyForAhead 19 = .ok (.istore_n 2, 1) := by decide +kernel
theorem dX8_copyForAhead_20 : decode cX8_copyForAhead 20 = .ok (.iload_n 2, 1) := by decide +kernel
theorem dX8_copyForAhead_21 : decode cX8_copyForAhead 21 = .ok (.aload_n 0, 1) := by decide +kernel
theorem dX8_copyForAhead_22 : decode cX8_copyForAhead 22 = .ok (.getfield 85, 3) := by decide +kernel
theorem dX8_copyForAhead_25 : decode cX8_copyForAhead 25 = .ok (.getfield 130, 3) := by decide +kernel
theorem dX8_copyForAhead_28 : decode cX8_copyForAhead 28 = .ok (.if_icmp .ge 18, 3) := by decide +kernel
theorem dX8_copyForAhead_31 : decode cX8_copyForAhead 31 = .ok (.aload_n 0, 1) := by decide +kernel
theorem dX8_copyForAhead_32 : decode cX8_copyForAhead 32 = .ok (.getfield 11, 3) := by decide +kernel
theorem dX8_copyForAhead_35 : decode cX8_copyForAhead 35 = .ok (.iload_n 2, 1) := by decide +kernel
theorem dX8_copyForAhead_36 : decode cX8_copyForAhead 36 = .ok (.aaload, 1) := by decide +kernel
theorem dX8_copyForAhead_37 : decode cX8_copyForAhead 37 = .ok (.invokevirtual 135, 3) := by decide +kernel
theorem dX8_copyForAhead_40 : decode cX8_copyForAhead 40 = .ok (.iinc 2 1, 3) := by decide +kernel
theorem dX8_copyForAhead_43 : decode cX8_copyForAhead 43 = .ok (.goto (-23), 3) := by decide +kernel
theorem dX8_copyForAhead_46 : decode cX8_copyForAhead 46 = .ok (.return_, 1) := by decide +kernel
theorem dX8_copyMoving_0 : decode cX8_copyMoving 0 = .ok (.aload_n 0, 1) := by decide +kernel
theorem dX8_copyMoving_1 : decode cX8_copyMoving 1 = .ok (.aload_n 1, 1) := by decide +kernel
theorem dX8_copyMoving_2 : decode cX8_copyMoving 2 = .ok (.getfield 85, 3) := by decide +kernel
theorem dX8_copyMoving_5 : decode cX8_copyMoving 5 = .ok (.putfield 85, 3) := by decide +kernel
theorem dX8_copyMoving_8 : decode cX8_copyMoving 8 = .ok (.iconst 0, 1) := by decide +kernel
theorem dX8_copyMoving_9 : decode cX8_copyMoving 9 = .ok (.istore_n 2, 1) := by decide +kernel
theorem dX8_copyMoving_10 : decode cX8_copyMoving 10 = .ok (.iload_n 2, 1) := by decide +kernel
theorem dX8_copyMoving_11 : decode cX8_copyMoving 11 = .ok (.aload_n 0, 1) := by decide +kernel
theorem dX8_copyMoving_12 : decode cX8_copyMoving 12 = .ok (.getfield 85, 3) := by decide +kernel
theorem dX8_copyMoving_15 : decode cX8_copyMoving 15 = .ok (.getfield 130, 3) := by decide +kernel
theorem dX8_copyMoving_18 : decode cX8_copyMoving 18 = .ok (.if_icmp .ge 39, 3) := by decide +kernel
theorem dX8_copyMoving_21 : decode cX8_copyMoving 21 = .ok (.aload_n 0, 1) := by decide +kernel
theorem dX8_copyMoving_22 : decode cX8_copyMoving 22 = .ok (.getfield 11, 3) := by decide +kernel
theorem dX8_copyMoving_25 : decode cX8_copyMoving 25 = .ok (.iload_n 2, 1) := by decide +kernel
theorem dX8_copyMoving_26 : decode cX8_copyMoving 26 = .ok (.aaload, 1) := by decide +kernel
theorem dX8_copyMoving_27 : decode cX8_copyMoving 27 = .ok (.aload_n 1, 1) := by decide +kernel
theorem dX8_copyMoving_28 : decode cX8_copyMoving 28 = .ok (.getfield 11, 3) := by decide +kernel
theorem dX8_copyMoving_31 : decode cX8_copyMoving 31 = .ok (.iload_n 2, 1) := by decide +kernel
theorem dX8_copyMoving_32 : decode cX8_copyMoving 32 = .ok (.aaload, 1) := by decide +kernel
theorem dX8_copyMoving_33 : decode cX8_copyMoving 33 = .ok (.invokevirtual 138, 3) := by decide +kernel
theorem dX8_copyMoving_36 : decode cX8_copyMoving 36 = .ok (.aload_n 0, 1) := by decide +kernel
theorem dX8_copyMoving_37 : decode cX8_copyMoving 37 = .ok (.getfield 19, 3) := by decide +kernel
theorem dX8_copyMoving_40 : decode cX8_copyMoving 40 = .ok (.iload_n 2, 1) := by decide +kernel
theorem dX8_copyMoving_41 : decode cX8_copyMoving 41 = .ok (.aaload, 1) := by decide +kernel
theorem dX8_copyMoving_42 : decode cX8_copyMoving 42 = .ok (.aload_n 1, 1) := by decide +kernel
theorem dX8_copyMoving_43 : decode cX8_copyMoving 43 = .ok (.getfield 19, 3) := by decide +kernel
theorem dX8_copyMoving_46 : decode cX8_copyMoving 46 = .ok (.iload_n 2, 1) := by decide +kernel
theorem dX8_copyMoving_47 : decode cX8_copyMoving 47 = .ok (.aaload, 1) := by decide +kernel
theorem dX8_copyMoving_48 : decode cX8_copyMoving 48 = .ok (.invokevirtual 141, 3) := by decide +kernel
theorem dX8_copyMoving_51 : decode cX8_copyMoving 51 = .ok (.iinc 2 1, 3) := by decide +kernel
theorem dX8_copyMoving_54 : decode cX8_copyMoving 54 = .ok (.goto (-44), 3) := by decide +kernel
theorem dX8_copyMoving_57 : decode cX8_copyMoving 57 = .ok (.aload_n 0, 1) := by decide +kernel
theorem dX8_copyMoving_58 : decode cX8_copyMoving 58 = .ok (.getfield 26, 3) := by decide +kernel
theorem dX8_copyMoving_61 : decode cX8_copyMoving 61 = .ok (.aload_n 1, 1) := by decide +kernel
theorem dX8_copyMoving_62 : decode cX8_copyMoving 62 = .ok (.getfield 26, 3) := by decide +kernel
theorem dX8_copyMoving_65 : decode cX8_copyMoving 65 = .ok (.invokevirtual 144, 3) := by decide +kernel
theorem dX8_copyMoving_68 : decode cX8_copyMoving 68 = .ok (.aload_n 1, 1) := by decide +kernel
theorem dX8_copyMoving_69 : decode cX8_copyMoving 69 = .ok (.getfield 30, 3) := by decide +kernel
theorem dX8_copyMoving_72 : decode cX8_copyMoving 72 = .ok (.iconst 0, 1) := by decide +kernel
theorem dX8_copyMoving_73 : decode cX8_copyMoving 73 = .ok (.aload_n 0, 1) := by decide +kernel
theorem dX8_copyMoving_74 : decode cX8_copyMoving 74 = .ok (.getfield 30, 3) := by decide +kernel
theorem dX8_copyMoving_77 : decode cX8_copyMoving 77 = .ok (.iconst 0, 1) := by decide +kernel
theorem dX8_copyMoving_78 : decode cX8_copyMoving 78 = .ok (.aload_n 0, 1) := by decide +kernel
theorem dX8_copyMoving_79 : decode cX8_copyMoving 79 = .ok (.getfield 30, 3) := by decide +kernel
theorem dX8_copyMoving_82 : decode cX8_copyMoving 82 = .ok (.arraylength, 1) := by decide +kernel
theorem dX8_copyMoving_83 : decode cX8_copyMoving 83 = .ok (.invokestatic 147, 3) := by decide +kernel
theorem dX8_copyMoving_86 : decode cX8_copyMoving 86 = .ok (.aload_n 0, 1) := by decide +kernel
theorem dX8_copyMoving_87 : decode cX8_copyMoving 87 = .ok (.aload_n 1, 1) := by decide +kernel
theorem dX8_copyMoving_88 : decode cX8_copyMoving 88 = .ok (.getfield 41, 3) := by decide +kernel
theorem dX8_copyMoving_91 : decode cX8_copyMoving 91 = .ok (.putfield 41, 3) := by decide +kernel
theorem dX8_copyMoving_94 : decode cX8_copyMoving 94 = .ok (.aload_n 0, 1) := by decide +kernel
theorem dX8_copyMoving_95 : decode cX8_copyMoving 95 = .ok (.aload_n 1, 1) := by decide +kernel
theorem dX8_copyMoving_96 : decode cX8_copyMoving 96 = .ok (.getfield 45, 3) := by decide +kernel
theorem dX8_copyMoving_99 : decode cX8_copyMoving 99 = .ok (.putfield 45, 3) := by decide +kernel
theorem dX8_copyMoving_102 : decode cX8_copyMoving 102 = .ok (.aload_n 0, 1) := by decide +kernel
theorem dX8_copyMoving_103 : decode cX8_copyMoving 103 = .ok (.aload_n 1, 1) := by decide +kernel
theorem dX8_copyMoving_104 : decode cX8_copyMoving 104 = .ok (.getfield 48, 3) := by decide +kernel
theorem dX8_copyMoving_107 : decode cX8_copyMoving 107 = .ok (.putfield 48, 3) := by decide +kernel
theorem dX8_copyMoving_110 : decode cX8_copyMoving 110 = .ok (.aload_n 0, 1) := by decide +kernel
theorem dX8_copyMoving_111 : decode cX8_copyMoving 111 = .ok (.aload_n 1, 1) := by decide +kernel
theorem dX8_copyMoving_112 : decode cX8_copyMoving 112 = .ok (.getfield 52, 3) := by decide +kernel
theorem dX8_copyMoving_115 : decode cX8_copyMoving 115 = .ok (.putfield 52, 3) := by decide +kernel
theorem dX8_copyMoving_118 : decode cX8_copyMoving 118 = .ok (.aload_n 0, 1) := by decide +kernel
theorem dX8_copyMoving_119 : decode cX8_copyMoving 119 = .ok (.aload_n 1, 1) := by decide +kernel
theorem dX8_copyMoving_120 : decode cX8_copyMoving 120 = .ok (.getfield 55, 3) := by decide +kernel
theorem dX8_copyMoving_123 : decode cX8_copyMoving 123 = .ok (.putfield 55, 3) := by decide +kernel
theorem dX8_copyMoving_126 : decode cX8_copyMoving 126 = .ok (.aload_n 0, 1) := by decide +kernel
theorem dX8_copyMoving_127 : decode cX8_copyMoving 127 = .ok (.aload_n 1, 1) := by decide +kernel
theorem dX8_copyMoving_128 : decode cX8_copyMoving 128 = .ok (.getfield 58, 3) := by decide +kernel
theorem dX8_copyMoving_131 : decode cX8_copyMoving 131 = .ok (.putfield 58, 3) := by decide +kernel
theorem dX8_copyMoving_134 : decode cX8_copyMoving 134 = .ok (.aload_n 0, 1) := by decide +kernel
theorem dX8_copyMoving_135 : decode cX8_copyMoving 135 = .ok (.aload_n 1, 1) := by decide +kernel
theorem dX8_copyMoving_136 : decode cX8_copyMoving 136 = .ok (.getfield 61, 3) := by decide +kernel
theorem dX8_copyMoving_139 : decode cX8_copyMoving 139 = .ok (.putfield 61, 3) := by decide +kernel
theorem dX8_copyMoving_142 : decode cX8_copyMoving 142 = .ok (.aload_n 0, 1) := by decide +kernel
theorem dX8_copyMoving_143 : decode cX8_copyMoving 143 = .ok (.aload_n 1, 1) := by decide +kernel
theorem dX8_copyMoving_144 : decode cX8_copyMoving 144 = .ok (.getfield 64, 3) := by decide +kernel
theorem dX8_copyMoving_147 : decode cX8_copyMoving 147 = .ok (.putfield 64, 3) := by decide +kernel
theorem dX8_copyMoving_150 : decode cX8_copyMoving 150 = .ok (.aload_n 0, 1) := by decide +kernel
theorem dX8_copyMoving_151 : decode cX8_copyMoving 151 = .ok (.aload_n 1, 1) := by decide +kernel
theorem dX8_copyMoving_152 : decode cX8_copyMoving 152 = .ok (.getfield 67, 3) := by decide +kernel
theorem dX8_copyMoving_155 : decode cX8_copyMoving 155 = .ok (.putfield 67, 3) := by decide +kernel
theorem dX8_copyMoving_158 : decode cX8_copyMoving 158 = .ok (.aload_n 0, 1) := by decide +kernel
theorem dX8_copyMoving_159 : decode cX8_copyMoving 159 = .ok (.aload_n 1, 1) := by decide +kernel
theorem dX8_copyMoving_160 : decode cX8_copyMoving 160 = .ok (.getfield 70, 3) := by decide +kernel
theorem dX8_copyMoving_163 : decode cX8_copyMoving 163 = .ok (.putfield 70, 3) := by decide +kernel
theorem dX8_copyMoving_166 : decode cX8_copyMoving 166 = .ok (.aload_n 0, 1) := by decide +kernel
theorem dX8_copyMoving_167 : decode cX8_copyMoving 167 = .ok (.aload_n 1, 1) := by decide +kernel
theorem dX8_copyMoving_168 : decode cX8_copyMoving 168 = .ok (.getfield 73, 3) := by decide +kernel
theorem dX8_copyMoving_171 : decode cX8_copyMoving 171 = .ok (.putfield 73, 3) := by decide +kernel
theorem dX8_copyMoving_174 : decode cX8_copyMoving 174 = .ok (.aload_n 0, 1) := by decide +kernel
theorem dX8_copyMoving_175 : decode cX8_copyMoving 175 = .ok (.aload_n 1, 1) := by decide +kernel
theorem dX8_copyMoving_176 : decode cX8_copyMoving 176 = .ok (.getfield 76, 3) := by decide +kernel
theorem dX8_copyMoving_179 : decode cX8_copyMoving 179 = .ok (.putfield 76, 3) := by decide +kernel
theorem dX8_copyMoving_182 : decode cX8_copyMoving 182 = .ok (.aload_n 0, 1) := by decide +kernel
theorem dX8_copyMoving_183 : decode cX8_copyMoving 183 = .ok (.aload_n 1, 1) := by decide +kernel
theorem dX8_copyMoving_184 : decode cX8_copyMoving 184 = .ok (.getfield 82, 3) := by decide +kernel
theorem dX8_copyMoving_187 : decode cX8_copyMoving 187 = .ok (.putfield 82, 3) := by decide +kernel
theorem dX8_copyMoving_190 : decode cX8_copyMoving 190 = .ok (.return_, 1) := by decide +kernel
theorem dX8_isWaiting_0 : decode cX8_isWaiting 0 = .ok (.aload_n 0, 1) := by decide +kernel
theorem dX8_isWaiting_1 : decode cX8_isWaiting 1 = .ok (.getfield 58, 3) := by decide +kernel
theorem dX8_isWaiting_4 : decode cX8_isWaiting 4 = .ok (.ifCond .lt 29, 3) := by decide +kernel
theorem dX8_isWaiting_7 : decode cX8_isWaiting 7 = .ok (.aload_n 0, 1) := by decide +kernel
theorem dX8_isWaiting_8 : decode cX8_isWaiting 8 = .ok (.getfield 41, 3) := by decide +kernel
theorem dX8_isWaiting_11 : decode cX8_isWaiting 11 = .ok (.ifCond .ne 22, 3) := by decide +kernel
theorem dX8_isWaiting_14 : decode cX8_isWaiting 14 = .ok (.aload_n 0, 1) := by decide +kernel
theorem dX8_isWaiting_15 : decode cX8_isWaiting 15 = .ok (.getfield 19, 3) := by decide +kernel
theorem dX8_isWaiting_18 : decode cX8_isWaiting 18 = .ok (.aload_n 0, 1) := by decide +kernel
theorem dX8_isWaiting_19 : decode cX8_isWaiting 19 = .ok (.getfield 58, 3) := by decide +kernel
theorem dX8_isWaiting_22 : decode cX8_isWaiting 22 = .ok (.aaload, 1) := by decide +kernel
theorem dX8_isWaiting_23 : decode cX8_isWaiting 23 = .ok (.getfield 153, 3) := by decide +kernel
theorem dX8_isWaiting_26 : decode cX8_isWaiting 26 = .ok (.ifCond .ne 7, 3) := by decide +kernel
theorem dX8_isWaiting_29 : decode cX8_isWaiting 29 = .ok (.iconst 1, 1) := by decide +kernel
theorem dX8_isWaiting_30 : decode cX8_isWaiting 30 = .ok (.goto 4, 3) := by decide +kernel
theorem dX8_isWaiting_33 : decode cX8_isWaiting 33 = .ok (.iconst 0, 1) := by decide +kernel
theorem dX8_isWaiting_34 : decode cX8_isWaiting 34 = .ok (.ireturn, 1) := by decide +kernel
theorem dX8_isBacklogged_0 : decode cX8_isBacklogged 0 = .ok (.iload_n 1, 1) := by decide +kernel
theorem dX8_isBacklogged_1 : decode cX8_isBacklogged 1 = .ok (.aload_n 0, 1) := by decide +kernel
theorem dX8_isBacklogged_2 : decode cX8_isBacklogged 2 = .ok (.getfield 58, 3) := by decide +kernel
theorem dX8_isBacklogged_5 : decode cX8_isBacklogged 5 = .ok (.if_icmp .eq 19, 3) := by decide +kernel
theorem dX8_isBacklogged_8 : decode cX8_isBacklogged 8 = .ok (.aload_n 0, 1) := by decide +kernel
theorem dX8_isBacklogged_9 : decode cX8_isBacklogged 9 = .ok (.getfield 19, 3) := by decide +kernel
theorem dX8_isBacklogged_12 : decode cX8_isBacklogged 12 = .ok (.iload_n 1, 1) := by decide +kernel
theorem dX8_isBacklogged_13 : decode cX8_isBacklogged 13 = .ok (.aaload, 1) := by decide +kernel
theorem dX8_isBacklogged_14 : decode cX8_isBacklogged 14 = .ok (.getfield 153, 3) := by decide +kernel
theorem dX8_isBacklogged_17 : decode cX8_isBacklogged 17 = .ok (.ifCond .le 7, 3) := by decide +kernel
theorem dX8_isBacklogged_20 : decode cX8_isBacklogged 20 = .ok (.iconst 1, 1) := by decide +kernel
theorem dX8_isBacklogged_21 : decode cX8_isBacklogged 21 = .ok (.goto 4, 3) := by decide +kernel
theorem dX8_isBacklogged_24 : decode cX8_isBacklogged 24 = .ok (.iconst 0, 1) := by decide +kernel
theorem dX8_isBacklogged_25 : decode cX8_isBacklogged 25 = .ok (.ireturn, 1) := by decide +kernel
theorem dX8_weightOf_0 : decode cX8_weightOf 0 = .ok (.aload_n 0, 1) := by decide +kernel
theorem dX8_weightOf_1 : decode cX8_weightOf 1 = .ok (.getfield 11, 3) := by decide +kernel
theorem dX8_weightOf_4 : decode cX8_weightOf 4 = .ok (.iload_n 1, 1) := by decide +kernel
theorem dX8_weightOf_5 : decode cX8_weightOf 5 = .ok (.aaload, 1) := by decide +kernel
theorem dX8_weightOf_6 : decode cX8_weightOf 6 = .ok (.getfield 156, 3) := by decide +kernel
theorem dX8_weightOf_9 : decode cX8_weightOf 9 = .ok (.istore_n 2, 1) := by decide +kernel
theorem dX8_weightOf_10 : decode cX8_weightOf 10 = .ok (.aload_n 0, 1) := by decide +kernel
theorem dX8_weightOf_11 : decode cX8_weightOf 11 = .ok (.getfield 55, 3) := by decide +kernel
theorem dX8_weightOf_14 : decode cX8_weightOf 14 = .ok (.aload_n 0, 1) := by decide +kernel
theorem dX8_weightOf_15 : decode cX8_weightOf 15 = .ok (.getfield 19, 3) := by decide +kernel
theorem dX8_weightOf_18 : decode cX8_weightOf 18 = .ok (.iload_n 1, 1) := by decide +kernel
theorem dX8_weightOf_19 : decode cX8_weightOf 19 = .ok (.aaload, 1) := by decide +kernel
theorem dX8_weightOf_20 : decode cX8_weightOf 20 = .ok (.getfield 159, 3) := by decide +kernel
theorem dX8_weightOf_23 : decode cX8_weightOf 23 = .ok (.if_icmp .ge 15, 3) := by decide +kernel
theorem dX8_weightOf_26 : decode cX8_weightOf 26 = .ok (.iload_n 2, 1) := by decide +kernel
theorem dX8_weightOf_27 : decode cX8_weightOf 27 = .ok (.aload_n 0, 1) := by decide +kernel
theorem dX8_weightOf_28 : decode cX8_weightOf 28 = .ok (.getfield 85, 3) := by decide +kernel
theorem dX8_weightOf_31 : decode cX8_weightOf 31 = .ok (.getfield 162, 3) := by decide +kernel
theorem dX8_weightOf_34 : decode cX8_weightOf 34 = .ok (.imul, 1) := by decide +kernel
theorem dX8_weightOf_35 : decode cX8_weightOf 35 = .ok (.goto 4, 3) := by decide +kernel
theorem dX8_weightOf_38 : decode cX8_weightOf 38 = .ok (.iload_n 2, 1) := by decide +kernel
theorem dX8_weightOf_39 : decode cX8_weightOf 39 = .ok (.ireturn, 1) := by decide +kernel
theorem dX8_sectorsDone_0 : decode cX8_sectorsDone 0 = .ok (.iconst 0, 1) := by decide +kernel
theorem dX8_sectorsDone_1 : decode cX8_sectorsDone 1 = .ok (.istore_n 1, 1) := by decide +kernel
theorem dX8_sectorsDone_2 : decode cX8_sectorsDone 2 = .ok (.iconst 0, 1) := by decide +kernel
theorem dX8_sectorsDone_3 : decode cX8_sectorsDone 3 = .ok (.istore_n 2, 1) := by decide +kernel
theorem dX8_sectorsDone_4 : decode cX8_sectorsDone 4 = .ok (.iload_n 2, 1) := by decide +kernel
theorem dX8_sectorsDone_5 : decode cX8_sectorsDone 5 = .ok (.aload_n 0, 1) := by decide +kernel
theorem dX8_sectorsDone_6 : decode cX8_sectorsDone 6 = .ok (.getfield 85, 3) := by decide +kernel
theorem dX8_sectorsDone_9 : decode cX8_sectorsDone 9 = .ok (.getfield 130, 3) := by decide +kernel
theorem dX8_sectorsDone_12 : decode cX8_sectorsDone 12 = .ok (.if_icmp .ge 21, 3) := by decide +kernel
theorem dX8_sectorsDone_15 : decode cX8_sectorsDone 15 = .ok (.iload_n 1, 1) := by decide +kernel
theorem dX8_sectorsDone_16 : decode cX8_sectorsDone 16 = .ok (.aload_n 0, 1) := by decide +kernel
theorem dX8_sectorsDone_17 : decode cX8_sectorsDone 17 = .ok (.getfield 11, 3) := by decide +kernel
theorem dX8_sectorsDone_20 : decode cX8_sectorsDone 20 = .ok (.iload_n 2, 1) := by decide +kernel
theorem dX8_sectorsDone_21 : decode cX8_sectorsDone 21 = .ok (.aaload, 1) := by decide +kernel
theorem dX8_sectorsDone_22 : decode cX8_sectorsDone 22 = .ok (.getfield 165, 3) := by decide +kernel
theorem dX8_sectorsDone_25 : decode cX8_sectorsDone 25 = .ok (.iadd, 1) := by decide +kernel
theorem dX8_sectorsDone_26 : decode cX8_sectorsDone 26 = .ok (.istore_n 1, 1) := by decide +kernel
theorem dX8_sectorsDone_27 : decode cX8_sectorsDone 27 = .ok (.iinc 2 1, 3) := by decide +kernel
theorem dX8_sectorsDone_30 : decode cX8_sectorsDone 30 = .ok (.goto (-26), 3) := by decide +kernel
theorem dX8_sectorsDone_33 : decode cX8_sectorsDone 33 = .ok (.iload_n 1, 1) := by decide +kernel
theorem dX8_sectorsDone_34 : decode cX8_sectorsDone 34 = .ok (.ireturn, 1) := by decide +kernel
theorem dX8_sectorsByWeight_0 : decode cX8_sectorsByWeight 0 = .ok (.aload_n 0, 1) := by decide +kernel
theorem dX8_sectorsByWeight_1 : decode cX8_sectorsByWeight 1 = .ok (.getfield 11, 3) := by decide +kernel
theorem dX8_sectorsByWeight_4 : decode cX8_sectorsByWeight 4 = .ok (.iload_n 1, 1) := by decide +kernel
theorem dX8_sectorsByWeight_5 : decode cX8_sectorsByWeight 5 = .ok (.aaload, 1) := by decide +kernel
theorem dX8_sectorsByWeight_6 : decode cX8_sectorsByWeight 6 = .ok (.getfield 156, 3) := by decide +kernel
theorem dX8_sectorsByWeight_9 : decode cX8_sectorsByWeight 9 = .ok (.istore_n 2, 1) := by decide +kernel
theorem dX8_sectorsByWeight_10 : decode cX8_sectorsByWeight 10 = .ok (.iload_n 2, 1) := by decide +kernel
theorem dX8_sectorsByWeight_11 : decode cX8_sectorsByWeight 11 = .ok (.iconst 1, 1) := by decide +kernel
theorem dX8_sectorsByWeight_12 : decode cX8_sectorsByWeight 12 = .ok (.if_icmp .ge 7, 3) := by decide +kernel
theorem dX8_sectorsByWeight_15 : decode cX8_sectorsByWeight 15 = .ok (.fconst 0, 1) := by decide +kernel
theorem dX8_sectorsByWeight_16 : decode cX8_sectorsByWeight 16 = .ok (.goto 16, 3) := by decide +kernel
theorem dX8_sectorsByWeight_19 : decode cX8_sectorsByWeight 19 = .ok (.aload_n 0, 1) := by decide +kernel
theorem dX8_sectorsByWeight_20 : decode cX8_sectorsByWeight 20 = .ok (.getfield 11, 3) := by decide +kernel
theorem dX8_sectorsByWeight_23 : decode cX8_sectorsByWeight 23 = .ok (.iload_n 1, 1) := by decide +kernel
theorem dX8_sectorsByWeight_24 : decode cX8_sectorsByWeight 24 = .ok (.aaload, 1) := by decide +kernel
theorem dX8_sectorsByWeight_25 : decode cX8_sectorsByWeight 25 = .ok (.getfield 165, 3) := by decide +kernel
theorem dX8_sectorsByWeight_28 : decode cX8_sectorsByWeight 28 = .ok (.i2f, 1) := by decide +kernel
theorem dX8_sectorsByWeight_29 : decode cX8_sectorsByWeight 29 = .ok (.iload_n 2, 1) := by decide +kernel
theorem dX8_sectorsByWeight_30 : decode cX8_sectorsByWeight 30 = .ok (.i2f, 1) := by decide +kernel
theorem dX8_sectorsByWeight_31 : decode cX8_sectorsByWeight 31 = .ok (.fdiv, 1) := by decide +kernel
theorem dX8_sectorsByWeight_32 : decode cX8_sectorsByWeight 32 = .ok (.freturn, 1) := by decide +kernel
theorem dX8_worstProcess_0 : decode cX8_worstProcess 0 = .ok (.iconst (-1), 1) := by decide +kernel
theorem dX8_worstProcess_1 : decode cX8_worstProcess 1 = .ok (.istore_n 1, 1) := by decide +kernel
theorem dX8_worstProcess_2 : decode cX8_worstProcess 2 = .ok (.iconst 0, 1) := by decide +kernel
theorem dX8_worstProcess_3 : decode cX8_worstProcess 3 = .ok (.istore_n 2, 1) := by decide +kernel
theorem dX8_worstProcess_4 : decode cX8_worstProcess 4 = .ok (.iload_n 2, 1) := by decide +kernel
theorem dX8_worstProcess_5 : decode cX8_worstProcess 5 = .ok (.aload_n 0, 1) := by decide +kernel
theorem dX8_worstProcess_6 : decode cX8_worstProcess 6 = .ok (.getfield 85, 3) := by decide +kernel
theorem dX8_worstProcess_9 : decode cX8_worstProcess 9 = .ok (.getfield 130, 3) := by decide +kernel
theorem dX8_worstProcess_12 : decode cX8_worstProcess 12 = .ok (.if_icmp .ge 48, 3) := by decide +kernel
theorem dX8_worstProcess_15 : decode cX8_worstProcess 15 = .ok (.aload_n 0, 1) := by decide +kernel
theorem dX8_worstProcess_16 : decode cX8_worstProcess 16 = .ok (.getfield 11, 3) := by decide +kernel
theorem dX8_worstProcess_19 : decode cX8_worstProcess 19 = .ok (.iload_n 2, 1) := by decide +kernel
theorem dX8_worstProcess_20 : decode cX8_worstProcess 20 = .ok (.aaload, 1) := by decide +kernel
theorem dX8_worstProcess_21 : decode cX8_worstProcess 21 = .ok (.getfield 168, 3) := by decide +kernel
theorem dX8_worstProcess_24 : decode cX8_worstProcess 24 = .ok (.ifCond .le 30, 3) := by decide +kernel
theorem dX8_worstProcess_27 : decode cX8_worstProcess 27 = .ok (.iload_n 1, 1) := by decide +kernel
theorem dX8_worstProcess_28 : decode cX8_worstProcess 28 = .ok (.ifCond .lt 24, 3) := by decide +kernel
theorem dX8_worstProcess_31 : decode cX8_worstProcess 31 = .ok (.aload_n 0, 1) := by decide +kernel
theorem dX8_worstProcess_32 : decode cX8_worstProcess 32 = .ok (.getfield 11, 3) := by decide +kernel
theorem dX8_worstProcess_35 : decode cX8_worstProcess 35 = .ok (.iload_n 2, 1) := by decide +kernel
theorem dX8_worstProcess_36 : decode cX8_worstProcess 36 = .ok (.aaload, 1) := by decide +kernel
theorem dX8_worstProcess_37 : decode cX8_worstProcess 37 = .ok (.getfield 171, 3) := by decide +kernel
theorem dX8_worstProcess_40 : decode cX8_worstProcess 40 = .ok (.aload_n 0, 1) := by decide +kernel
theorem dX8_worstProcess_41 : decode cX8_worstProcess 41 = .ok (.getfield 11, 3) := by decide +kernel
theorem dX8_worstProcess_44 : decode cX8_worstProcess 44 = .ok (.iload_n 1, 1) := by decide +kernel
theorem dX8_worstProcess_45 : decode cX8_worstProcess 45 = .ok (.aaload, 1) := by decide +kernel
theorem dX8_worstProcess_46 : decode cX8_worstProcess 46 = .ok (.getfield 171, 3) := by decide +kernel
theorem dX8_worstProcess_49 : decode cX8_worstProcess 49 = .ok (.if_icmp .le 5, 3) := by decide +kernel
theorem dX8_worstProcess_52 : decode cX8_worstProcess 52 = .ok (.iload_n 2, 1) := by decide +kernel
theorem dX8_worstProcess_53 : decode cX8_worstProcess 53 = .ok (.istore_n 1, 1) := by decide +kernel
theorem dX8_worstProcess_54 : decode cX8_worstProcess 54 = .ok (.iinc 2 1, 3) := by decide +kernel
theorem dX8_worstProcess_57 : decode cX8_worstProcess 57 = .ok (.goto (-53), 3) := by decide +kernel
theorem dX8_worstProcess_60 : decode cX8_worstProcess 60 = .ok (.iload_n 1, 1) := by decide +kernel
theorem dX8_worstProcess_61 : decode cX8_worstProcess 61 = .ok (.ireturn, 1) := by decide +kernel
theorem dX8_canAskByHand_0 : decode cX8_canAskByHand 0 = .ok (.aload_n 0, 1) := by decide +kernel
theorem dX8_canAskByHand_1 : decode cX8_canAskByHand 1 = .ok (.getfield 11, 3) := by decide +kernel
theorem dX8_canAskByHand_4 : decode cX8_canAskByHand 4 = .ok (.iload_n 1, 1) := by decide +kernel
theorem dX8_canAskByHand_5 : decode cX8_canAskByHand 5 = .ok (.aaload, 1) := by decide +kernel
theorem dX8_canAskByHand_6 : decode cX8_canAskByHand 6 = .ok (.getfield 172, 3) := by decide +kernel
theorem dX8_canAskByHand_9 : decode cX8_canAskByHand 9 = .ok (.bipush 8, 2) := by decide +kernel
theorem dX8_canAskByHand_11 : decode cX8_canAskByHand 11 = .ok (.if_icmp .ge 35, 3) := by decide +kernel
theorem dX8_canAskByHand_14 : decode cX8_canAskByHand 14 = .ok (.iload_n 3, 1) := by decide +kernel
theorem dX8_canAskByHand_15 : decode cX8_canAskByHand 15 = .ok (.iconst 1, 1) := by decide +kernel
theorem dX8_canAskByHand_16 : decode cX8_canAskByHand 16 = .ok (.if_icmp .lt 30, 3) := by decide +kernel
theorem dX8_canAskByHand_19 : decode cX8_canAskByHand 19 = .ok (.iload_n 3, 1) := by decide +kernel
theorem dX8_canAskByHand_20 : decode cX8_canAskByHand 20 = .ok (.bipush 64, 2) := by decide +kernel
theorem dX8_canAskByHand_22 : decode cX8_canAskByHand 22 = .ok (.if_icmp .gt 24, 3) := by decide +kernel
theorem dX8_canAskByHand_25 : decode cX8_canAskByHand 25 = .ok (.iload_n 2, 1) := by decide +kernel
theorem dX8_canAskByHand_26 : decode cX8_canAskByHand 26 = .ok (.ifCond .lt 20, 3) := by decide +kernel
theorem dX8_canAskByHand_29 : decode cX8_canAskByHand 29 = .ok (.iload_n 2, 1) := by decide +kernel
theorem dX8_canAskByHand_30 : decode cX8_canAskByHand 30 = .ok (.aload_n 0, 1) := by decide +kernel
theorem dX8_canAskByHand_31 : decode cX8_canAskByHand 31 = .ok (.getfield 85, 3) := by decide +kernel
theorem dX8_canAskByHand_34 : decode cX8_canAskByHand 34 = .ok (.getfield 175, 3) := by decide +kernel
theorem dX8_canAskByHand_37 : decode cX8_canAskByHand 37 = .ok (.iload_n 3, 1) := by decide +kernel
theorem dX8_canAskByHand_38 : decode cX8_canAskByHand 38 = .ok (.isub, 1) := by decide +kernel
theorem dX8_canAskByHand_39 : decode cX8_canAskByHand 39 = .ok (.if_icmp .gt 7, 3) := by decide +kernel
theorem dX8_canAskByHand_42 : decode cX8_canAskByHand 42 = .ok (.iconst 1, 1) := by decide +kernel
theorem dX8_canAskByHand_43 : decode cX8_canAskByHand 43 = .ok (.goto 4, 3) := by decide +kernel
theorem dX8_canAskByHand_46 : decode cX8_canAskByHand 46 = .ok (.iconst 0, 1) := by decide +kernel
theorem dX8_canAskByHand_47 : decode cX8_canAskByHand 47 = .ok (.ireturn, 1) := by decide +kernel
theorem dX8_run_0 : decode cX8_run 0 = .ok (.iconst 0, 1) := by decide +kernel
theorem dX8_run_1 : decode cX8_run 1 = .ok (.istore_n 2, 1) := by decide +kernel
theorem dX8_run_2 : decode cX8_run 2 = .ok (.iload_n 2, 1) := by decide +kernel
theorem dX8_run_3 : decode cX8_run 3 = .ok (.iload_n 1, 1) := by decide +kernel
theorem dX8_run_4 : decode cX8_run 4 = .ok (.if_icmp .ge 130, 3) := by decide +kernel
theorem dX8_run_7 : decode cX8_run 7 = .ok (.aload_n 0, 1) := by decide +kernel
theorem dX8_run_8 : decode cX8_run 8 = .ok (.getfield 41, 3) := by decide +kernel
theorem dX8_run_11 : decode cX8_run 11 = .ok (.ifCond .le 24, 3) := by decide +kernel
theorem dX8_run_14 : decode cX8_run 14 = .ok (.aload_n 0, 1) := by decide +kernel
theorem dX8_run_15 : decode cX8_run 15 = .ok (.dup, 1) := by decide +kernel
theorem dX8_run_16 : decode cX8_run 16 = .ok (.getfield 41, 3) := by decide +kernel
theorem dX8_run_19 : decode cX8_run 19 = .ok (.iconst 1, 1) := by decide +kernel
theorem dX8_run_20 : decode cX8_run 20 = .ok (.isub, 1) := by decide +kernel
theorem dX8_run_21 : decode cX8_run 21 = .ok (.putfield 41, 3) := by decide +kernel
theorem dX8_run_24 : decode cX8_run 24 = .ok (.aload_n 0, 1) := by decide +kernel
theorem dX8_run_25 : decode cX8_run 25 = .ok (.getfield 41, 3) := by decide +kernel
theorem dX8_run_28 : decode cX8_run 28 = .ok (.ifCond .ne 7, 3) := by decide +kernel
theorem dX8_run_31 : decode cX8_run 31 = .ok (.aload_n 0, 1) := by decide +kernel
theorem dX8_run_32 : decode cX8_run 32 = .ok (.invokevirtual 176, 3) := by decide +kernel
theorem dX8_run_35 : decode cX8_run 35 = .ok (.iconst 0, 1) := by decide +kernel
theorem dX8_run_36 : decode cX8_run 36 = .ok (.istore_n 3, 1) := by decide +kernel
theorem dX8_run_37 : decode cX8_run 37 = .ok (.iload_n 3, 1) := by decide +kernel
theorem dX8_run_38 : decode cX8_run 38 = .ok (.aload_n 0, 1) := by decide +kernel
theorem dX8_run_39 : decode cX8_run 39 = .ok (.getfield 85, 3) := by decide +kernel
theorem dX8_run_42 : decode cX8_run 42 = .ok (.getfield 130, 3) := by decide +kernel
theorem dX8_run_45 : decode cX8_run 45 = .ok (.if_icmp .ge 62, 3) := by decide +kernel
theorem dX8_run_48 : decode cX8_run 48 = .ok (.aload_n 0, 1) := by decide +kernel
theorem dX8_run_49 : decode cX8_run 49 = .ok (.getfield 11, 3) := by decide +kernel
theorem dX8_run_52 : decode cX8_run 52 = .ok (.iload_n 3, 1) := by decide +kernel
theorem dX8_run_53 : decode cX8_run 53 = .ok (.aaload, 1) := by decide +kernel
theorem dX8_run_54 : decode cX8_run 54 = .ok (.astore 4, 2) := by decide +kernel
theorem dX8_run_56 : decode cX8_run 56 = .ok (.aload 4, 2) := by decide +kernel
theorem dX8_run_58 : decode cX8_run 58 = .ok (.getfield 179, 3) := by decide +kernel
theorem dX8_run_61 : decode cX8_run 61 = .ok (.ifCond .eq 40, 3) := by decide +kernel
theorem dX8_run_64 : decode cX8_run 64 = .ok (.aload 4, 2) := by decide +kernel
theorem dX8_run_66 : decode cX8_run 66 = .ok (.getfield 183, 3) := by decide +kernel
theorem dX8_run_69 : decode cX8_run 69 = .ok (.ifCond .ne 32, 3) := by decide +kernel
theorem dX8_run_72 : decode cX8_run 72 = .ok (.aload 4, 2) := by decide +kernel
theorem dX8_run_74 : decode cX8_run 74 = .ok (.getfield 186, 3) := by decide +kernel
theorem dX8_run_77 : decode cX8_run 77 = .ok (.ifCond .le 17, 3) := by decide +kernel
theorem dX8_run_80 : decode cX8_run 80 = .ok (.aload 4, 2) := by decide +kernel
theorem dX8_run_82 : decode cX8_run 82 = .ok (.dup, 1) := by decide +kernel
theorem dX8_run_83 : decode cX8_run 83 = .ok (.getfield 186, 3) := by decide +kernel
theorem dX8_run_86 : decode cX8_run 86 = .ok (.iconst 1, 1) := by decide +kernel
theorem dX8_run_87 : decode cX8_run 87 = .ok (.isub, 1) := by decide +kernel
theorem dX8_run_88 : decode cX8_run 88 = .ok (.putfield 186, 3) := by decide +kernel
theorem dX8_run_91 : decode cX8_run 91 = .ok (.goto 10, 3) := by decide +kernel
theorem dX8_run_94 : decode cX8_run 94 = .ok (.aload_n 0, 1) := by decide +kernel
theorem dX8_run_95 : decode cX8_run 95 = .ok (.iload_n 3, 1) := by decide +kernel
theorem dX8_run_96 : decode cX8_run 96 = .ok (.aload 4, 2) := by decide +kernel
theorem dX8_run_98 : decode cX8_run 98 = .ok (.invokevirtual 189, 3) := by decide +kernel
theorem dX8_run_101 : decode cX8_run 101 = .ok (.iinc 3 1, 3) := by decide +kernel
theorem dX8_run_104 : decode cX8_run 104 = .ok (.goto (-67), 3) := by decide +kernel
theorem dX8_run_107 : decode cX8_run 107 = .ok (.aload_n 0, 1) := by decide +kernel
theorem dX8_run_108 : decode cX8_run 108 = .ok (.getfield 41, 3) := by decide +kernel
theorem dX8_run_111 : decode cX8_run 111 = .ok (.ifCond .ne 7, 3) := by decide +kernel
theorem dX8_run_114 : decode cX8_run 114 = .ok (.aload_n 0, 1) := by decide +kernel
theorem dX8_run_115 : decode cX8_run 115 = .ok (.invokevirtual 193, 3) := by decide +kernel
theorem dX8_run_118 : decode cX8_run 118 = .ok (.aload_n 0, 1) := by decide +kernel
theorem dX8_run_119 : decode cX8_run 119 = .ok (.dup, 1) := by decide +kernel
theorem dX8_run_120 : decode cX8_run 120 = .ok (.getfield 55, 3) := by decide +kernel
theorem dX8_run_123 : decode cX8_run 123 = .ok (.iconst 1, 1) := by decide +kernel
theorem dX8_run_124 : decode cX8_run 124 = .ok (.iadd, 1) := by decide +kernel
theorem dX8_run_125 : decode cX8_run 125 = .ok (.putfield 55, 3) := by decide +kernel
theorem dX8_run_128 : decode cX8_run 128 = .ok (.iinc 2 1, 3) := by decide +kernel
theorem dX8_run_131 : decode cX8_run 131 = .ok (.goto (-129), 3) := by decide +kernel
theorem dX8_run_134 : decode cX8_run 134 = .ok (.return_, 1) := by decide +kernel
theorem dX8_complete_0 : decode cX8_complete 0 = .ok (.aload_n 0, 1) := by decide +kernel
theorem dX8_complete_1 : decode cX8_complete 1 = .ok (.getfield 58, 3) := by decide +kernel
theorem dX8_complete_4 : decode cX8_complete 4 = .ok (.ifCond .ge 4, 3) := by decide +kernel
theorem dX8_complete_7 : decode cX8_complete 7 = .ok (.return_, 1) := by decide +kernel
theorem dX8_complete_8 : decode cX8_complete 8 = .ok (.aload_n 0, 1) := by decide +kernel
theorem dX8_complete_9 : decode cX8_complete 9 = .ok (.getfield 19, 3) := by decide +kernel
theorem dX8_complete_12 : decode cX8_complete 12 = .ok (.aload_n 0, 1) := by decide +kernel
theorem dX8_complete_13 : decode cX8_complete 13 = .ok (.getfield 58, 3) := by decide +kernel
theorem dX8_complete_16 : decode cX8_complete 16 = .ok (.aaload, 1) := by decide +kernel
theorem dX8_complete_17 : decode cX8_complete 17 = .ok (.astore_n 1, 1) := by decide +kernel
theorem dX8_complete_18 : decode cX8_complete 18 = .ok (.aload_n 0, 1) := by decide +kernel
theorem dX8_complete_19 : decode cX8_complete 19 = .ok (.getfield 30, 3) := by decide +kernel
theorem dX8_complete_22 : decode cX8_complete 22 = .ok (.iconst 1, 1) := by decide +kernel
theorem dX8_complete_23 : decode cX8_complete 23 = .ok (.iaload, 1) := by decide +kernel
theorem dX8_complete_24 : decode cX8_complete 24 = .ok (.istore_n 2, 1) := by decide +kernel
theorem dX8_complete_25 : decode cX8_complete 25 = .ok (.aload_n 0, 1) := by decide +kernel
theorem dX8_complete_26 : decode cX8_complete 26 = .ok (.aload_n 0, 1) := by decide +kernel
theorem dX8_complete_27 : decode cX8_complete 27 = .ok (.getfield 30, 3) := by decide +kernel
theorem dX8_complete_30 : decode cX8_complete 30 = .ok (.iconst 0, 1) := by decide +kernel
theorem dX8_complete_31 : decode cX8_complete 31 = .ok (.iaload, 1) := by decide +kernel
theorem dX8_complete_32 : decode cX8_complete 32 = .ok (.iload_n 2, 1) := by decide +kernel
theorem dX8_complete_33 : decode cX8_complete 33 = .ok (.iadd, 1) := by decide +kernel
theorem dX8_complete_34 : decode cX8_complete 34 = .ok (.putfield 45, 3) := by decide +kernel
theorem dX8_complete_37 : decode cX8_complete 37 = .ok (.aload_n 0, 1) := by decide +kernel
theorem dX8_complete_38 : decode cX8_complete 38 = .ok (.dup, 1) := by decide +kernel
theorem dX8_complete_39 : decode cX8_complete 39 = .ok (.getfield 64, 3) := by decide +kernel
theorem dX8_complete_42 : decode cX8_complete 42 = .ok (.iload_n 2, 1) := by decide +kernel
theorem dX8_complete_43 : decode cX8_complete 43 = .ok (.iadd, 1) := by decide +kernel
theorem dX8_complete_44 : decode cX8_complete 44 = .ok (.putfield 64, 3) := by decide +kernel
theorem dX8_complete_47 : decode cX8_complete 47 = .ok (.aload_n 0, 1) := by decide +kernel
theorem dX8_complete_48 : decode cX8_complete 48 = .ok (.invokevirtual 196, 3) := by decide +kernel
theorem dX8_complete_51 : decode cX8_complete 51 = .ok (.istore_n 3, 1) := by decide +kernel
theorem dX8_complete_52 : decode cX8_complete 52 = .ok (.iload_n 3, 1) := by decide +kernel
theorem dX8_complete_53 : decode cX8_complete 53 = .ok (.ifCond .le 17, 3) := by decide +kernel
theorem dX8_complete_56 : decode cX8_complete 56 = .ok (.aload_n 0, 1) := by decide +kernel
theorem dX8_complete_57 : decode cX8_complete 57 = .ok (.aload_n 0, 1) := by decide +kernel
theorem dX8_complete_58 : decode cX8_complete 58 = .ok (.getfield 48, 3) := by decide +kernel
theorem dX8_complete_61 : decode cX8_complete 61 = .ok (.iload_n 2, 1) := by decide +kernel
theorem dX8_complete_62 : decode cX8_complete 62 = .ok (.i2f, 1) := by decide +kernel
theorem dX8_complete_63 : decode cX8_complete 63 = .ok (.iload_n 3, 1) := by decide +kernel
theorem dX8_complete_64 : decode cX8_complete 64 = .ok (.i2f, 1) := by decide +kernel
theorem dX8_complete_65 : decode cX8_complete 65 = .ok (.fdiv, 1) := by decide +kernel
theorem dX8_complete_66 : decode cX8_complete 66 = .ok (.fadd, 1) := by decide +kernel
theorem dX8_complete_67 : decode cX8_complete 67 = .ok (.putfield 48, 3) := by decide +kernel
theorem dX8_complete_70 : decode cX8_complete 70 = .ok (.aload_n 1, 1) := by decide +kernel
theorem dX8_complete_71 : decode cX8_complete 71 = .ok (.aload_n 0, 1) := by decide +kernel
theorem dX8_complete_72 : decode cX8_complete 72 = .ok (.getfield 55, 3) := by decide +kernel
theorem dX8_complete_75 : decode cX8_complete 75 = .ok (.putfield 200, 3) := by decide +kernel
theorem dX8_complete_78 : decode cX8_complete 78 = .ok (.aload_n 0, 1) := by decide +kernel
theorem dX8_complete_79 : decode cX8_complete 79 = .ok (.iload_n 2, 1) := by decide +kernel
theorem dX8_complete_80 : decode cX8_complete 80 = .ok (.invokevirtual 203, 3) := by decide +kernel
theorem dX8_complete_83 : decode cX8_complete 83 = .ok (.aload_n 1, 1) := by decide +kernel
theorem dX8_complete_84 : decode cX8_complete 84 = .ok (.getfield 153, 3) := by decide +kernel
theorem dX8_complete_87 : decode cX8_complete 87 = .ok (.ifCond .ne 28, 3) := by decide +kernel
theorem dX8_complete_90 : decode cX8_complete 90 = .ok (.aload_n 0, 1) := by decide +kernel
theorem dX8_complete_91 : decode cX8_complete 91 = .ok (.aload_n 0, 1) := by decide +kernel
theorem dX8_complete_92 : decode cX8_complete 92 = .ok (.getfield 55, 3) := by decide +kernel
theorem dX8_complete_95 : decode cX8_complete 95 = .ok (.aload_n 0, 1) := by decide +kernel
theorem dX8_complete_96 : decode cX8_complete 96 = .ok (.aload_n 1, 1) := by decide +kernel
theorem dX8_complete_97 : decode cX8_complete 97 = .ok (.invokevirtual 206, 3) := by decide +kernel
theorem dX8_complete_100 : decode cX8_complete 100 = .ok (.ifCond .eq 10, 3) := by decide +kernel
theorem dX8_complete_103 : decode cX8_complete 103 = .ok (.aload_n 0, 1) := by decide +kernel
theorem dX8_complete_104 : decode cX8_complete 104 = .ok (.getfield 73, 3) := by decide +kernel
theorem dX8_complete_107 : decode cX8_complete 107 = .ok (.goto 4, 3) := by decide +kernel
theorem dX8_complete_110 : decode cX8_complete 110 = .ok (.iconst 0, 1) := by decide +kernel
theorem dX8_complete_111 : decode cX8_complete 111 = .ok (.iadd, 1) := by decide +kernel
theorem dX8_complete_112 : decode cX8_complete 112 = .ok (.putfield 67, 3) := by decide +kernel
theorem dX8_complete_115 : decode cX8_complete 115 = .ok (.return_, 1) := by decide +kernel
theorem dX8_countDone_0 : decode cX8_countDone 0 = .ok (.aload_n 0, 1) := by decide +kernel
theorem dX8_countDone_1 : decode cX8_countDone 1 = .ok (.getfield 30, 3) := by decide +kernel
theorem dX8_countDone_4 : decode cX8_countDone 4 = .ok (.iconst 2, 1) := by decide +kernel
theorem dX8_countDone_5 : decode cX8_countDone 5 = .ok (.iaload, 1) := by decide +kernel
theorem dX8_countDone_6 : decode cX8_countDone 6 = .ok (.istore_n 2, 1) := by decide +kernel
theorem dX8_countDone_7 : decode cX8_countDone 7 = .ok (.aload_n 0, 1) := by decide +kernel
theorem dX8_countDone_8 : decode cX8_countDone 8 = .ok (.getfield 55, 3) := by decide +kernel
theorem dX8_countDone_11 : decode cX8_countDone 11 = .ok (.aload_n 0, 1) := by decide +kernel
theorem dX8_countDone_12 : decode cX8_countDone 12 = .ok (.getfield 30, 3) := by decide +kernel
theorem dX8_countDone_15 : decode cX8_countDone 15 = .ok (.iconst 3, 1) := by decide +kernel
theorem dX8_countDone_16 : decode cX8_countDone 16 = .ok (.iaload, 1) := by decide +kernel
theorem dX8_countDone_17 : decode cX8_countDone 17 = .ok (.isub, 1) := by decide +kernel
theorem dX8_countDone_18 : decode cX8_countDone 18 = .ok (.istore_n 3, 1) := by decide +kernel
theorem dX8_countDone_19 : decode cX8_countDone 19 = .ok (.aload_n 0, 1) := by decide +kernel
theorem dX8_countDone_20 : decode cX8_countDone 20 = .ok (.getfield 11, 3) := by decide +kernel
theorem dX8_countDone_23 : decode cX8_countDone 23 = .ok (.iload_n 2, 1) := by decide +kernel
theorem dX8_countDone_24 : decode cX8_countDone 24 = .ok (.aaload, 1) := by decide +kernel
theorem dX8_countDone_25 : decode cX8_countDone 25 = .ok (.astore 4, 2) := by decide +kernel
theorem dX8_countDone_27 : decode cX8_countDone 27 = .ok (.aload 4, 2) := by decide +kernel
theorem dX8_countDone_29 : decode cX8_countDone 29 = .ok (.iload_n 1, 1) := by decide +kernel
theorem dX8_countDone_30 : decode cX8_countDone 30 = .ok (.iload_n 3, 1) := by decide +kernel
theorem dX8_countDone_31 : decode cX8_countDone 31 = .ok (.aload_n 0, 1) := by decide +kernel
theorem dX8_countDone_32 : decode cX8_countDone 32 = .ok (.getfield 82, 3) := by decide +kernel
theorem dX8_countDone_35 : decode cX8_countDone 35 = .ok (.invokevirtual 210, 3) := by decide +kernel
theorem dX8_countDone_38 : decode cX8_countDone 38 = .ok (.aload_n 0, 1) := by decide +kernel
theorem dX8_countDone_39 : decode cX8_countDone 39 = .ok (.aload_n 0, 1) := by decide +kernel
theorem dX8_countDone_40 : decode cX8_countDone 40 = .ok (.getfield 79, 3) := by decide +kernel
theorem dX8_countDone_43 : decode cX8_countDone 43 = .ok (.iload_n 3, 1) := by decide +kernel
theorem dX8_countDone_44 : decode cX8_countDone 44 = .ok (.invokestatic 212, 3) := by decide +kernel
theorem dX8_countDone_47 : decode cX8_countDone 47 = .ok (.putfield 79, 3) := by decide +kernel
theorem dX8_countDone_50 : decode cX8_countDone 50 = .ok (.aload_n 0, 1) := by decide +kernel
theorem dX8_countDone_51 : decode cX8_countDone 51 = .ok (.getfield 30, 3) := by decide +kernel
theorem dX8_countDone_54 : decode cX8_countDone 54 = .ok (.iconst 4, 1) := by decide +kernel
theorem dX8_countDone_55 : decode cX8_countDone 55 = .ok (.iaload, 1) := by decide +kernel
theorem dX8_countDone_56 : decode cX8_countDone 56 = .ok (.iconst (-1), 1) := by decide +kernel
theorem dX8_countDone_57 : decode cX8_countDone 57 = .ok (.if_icmp .eq 32, 3) := by decide +kernel
theorem dX8_countDone_60 : decode cX8_countDone 60 = .ok (.aload_n 0, 1) := by decide +kernel
theorem dX8_countDone_61 : decode cX8_countDone 61 = .ok (.getfield 85, 3) := by decide +kernel
theorem dX8_countDone_64 : decode cX8_countDone 64 = .ok (.getfield 218, 3) := by decide +kernel
theorem dX8_countDone_67 : decode cX8_countDone 67 = .ok (.iload_n 2, 1) := by decide +kernel
theorem dX8_countDone_68 : decode cX8_countDone 68 = .ok (.baload, 1) := by decide +kernel
theorem dX8_countDone_69 : decode cX8_countDone 69 = .ok (.ifCond .ne 20, 3) := by decide +kernel
theorem dX8_countDone_72 : decode cX8_countDone 72 = .ok (.aload 4, 2) := by decide +kernel
theorem dX8_countDone_74 : decode cX8_countDone 74 = .ok (.iconst 0, 1) := by decide +kernel
theorem dX8_countDone_75 : decode cX8_countDone 75 = .ok (.putfield 183, 3) := by decide +kernel
theorem dX8_countDone_78 : decode cX8_countDone 78 = .ok (.aload 4, 2) := by decide +kernel
theorem dX8_countDone_80 : decode cX8_countDone 80 = .ok (.aload_n 0, 1) := by decide +kernel
theorem dX8_countDone_81 : decode cX8_countDone 81 = .ok (.getfield 30, 3) := by decide +kernel
theorem dX8_countDone_84 : decode cX8_countDone 84 = .ok (.iconst 4, 1) := by decide +kernel
theorem dX8_countDone_85 : decode cX8_countDone 85 = .ok (.iaload, 1) := by decide +kernel
theorem dX8_countDone_86 : decode cX8_countDone 86 = .ok (.putfield 186, 3) := by decide +kernel
theorem dX8_countDone_89 : decode cX8_countDone 89 = .ok (.return_, 1) := by decide +kernel
theorem dX8_weightsTogether_0 : decode cX8_weightsTogether 0 = .ok (.iconst 0, 1) := by decide +kernel
theorem dX8_weightsTogether_1 : decode cX8_weightsTogether 1 = .ok (.istore_n 1, 1) := by decide +kernel
theorem dX8_weightsTogether_2 : decode cX8_weightsTogether 2 = .ok (.iconst 0, 1) := by decide +kernel
theorem dX8_weightsTogether_3 : decode cX8_weightsTogether 3 = .ok (.istore_n 2, 1) := by decide +kernel
theorem dX8_weightsTogether_4 : decode cX8_weightsTogether 4 = .ok (.iload_n 2, 1) := by decide +kernel
theorem dX8_weightsTogether_5 : decode cX8_weightsTogether 5 = .ok (.aload_n 0, 1) := by decide +kernel
theorem dX8_weightsTogether_6 : decode cX8_weightsTogether 6 = .ok (.getfield 85, 3) := by decide +kernel
theorem dX8_weightsTogether_9 : decode cX8_weightsTogether 9 = .ok (.getfield 130, 3) := by decide +kernel
theorem dX8_weightsTogether_12 : decode cX8_weightsTogether 12 = .ok (.if_icmp .ge 37, 3) := by decide +kernel
theorem dX8_weightsTogether_15 : decode cX8_weightsTogether 15 = .ok (.iload_n 2, 1) := by decide +kernel
theorem dX8_weightsTogether_16 : decode cX8_weightsTogether 16 = .ok (.aload_n 0, 1) := by decide +kernel
theorem dX8_weightsTogether_17 : decode cX8_weightsTogether 17 = .ok (.getfield 58, 3) := by decide +kernel
theorem dX8_weightsTogether_20 : decode cX8_weightsTogether 20 = .ok (.if_icmp .eq 15, 3) := by decide +kernel
theorem dX8_weightsTogether_23 : decode cX8_weightsTogether 23 = .ok (.aload_n 0, 1) := by decide +kernel
theorem dX8_weightsTogether_24 : decode cX8_weightsTogether 24 = .ok (.getfield 19, 3) := by decide +kernel
theorem dX8_weightsTogether_27 : decode cX8_weightsTogether 27 = .ok (.iload_n 2, 1) := by decide +kernel
theorem dX8_weightsTogether_28 : decode cX8_weightsTogether 28 = .ok (.aaload, 1) := by decide +kernel
theorem dX8_weightsTogether_29 : decode cX8_weightsTogether 29 = .ok (.getfield 153, 3) := by decide +kernel
theorem dX8_weightsTogether_32 : decode cX8_weightsTogether 32 = .ok (.ifCond .le 11, 3) := by decide +kernel
theorem dX8_weightsTogether_35 : decode cX8_weightsTogether 35 = .ok (.iload_n 1, 1) := by decide +kernel
theorem dX8_weightsTogether_36 : decode cX8_weightsTogether 36 = .ok (.aload_n 0, 1) := by decide +kernel
theorem dX8_weightsTogether_37 : decode cX8_weightsTogether 37 = .ok (.iload_n 2, 1) := by decide +kernel
theorem dX8_weightsTogether_38 : decode cX8_weightsTogether 38 = .ok (.invokevirtual 222, 3) := by decide +kernel
theorem dX8_weightsTogether_41 : decode cX8_weightsTogether 41 = .ok (.iadd, 1) := by decide +kernel
theorem dX8_weightsTogether_42 : decode cX8_weightsTogether 42 = .ok (.istore_n 1, 1) := by decide +kernel
theorem dX8_weightsTogether_43 : decode cX8_weightsTogether 43 = .ok (.iinc 2 1, 3) := by decide +kernel
theorem dX8_weightsTogether_46 : decode cX8_weightsTogether 46 = .ok (.goto (-42), 3) := by decide +kernel
theorem dX8_weightsTogether_49 : decode cX8_weightsTogether 49 = .ok (.iload_n 1, 1) := by decide +kernel
theorem dX8_weightsTogether_50 : decode cX8_weightsTogether 50 = .ok (.ireturn, 1) := by decide +kernel
theorem dX8_isWorthIdling_0 : decode cX8_isWorthIdling 0 = .ok (.aload_n 0, 1) := by decide +kernel
theorem dX8_isWorthIdling_1 : decode cX8_isWorthIdling 1 = .ok (.getfield 85, 3) := by decide +kernel
theorem dX8_isWorthIdling_4 : decode cX8_isWorthIdling 4 = .ok (.getfield 218, 3) := by decide +kernel
theorem dX8_isWorthIdling_7 : decode cX8_isWorthIdling 7 = .ok (.aload_n 0, 1) := by decide +kernel
theorem dX8_isWorthIdling_8 : decode cX8_isWorthIdling 8 = .ok (.getfield 58, 3) := by decide +kernel
theorem dX8_isWorthIdling_11 : decode cX8_isWorthIdling 11 = .ok (.baload, 1) := by decide +kernel
theorem dX8_isWorthIdling_12 : decode cX8_isWorthIdling 12 = .ok (.ifCond .ne 27, 3) := by decide +kernel
theorem dX8_isWorthIdling_15 : decode cX8_isWorthIdling 15 = .ok (.aload_n 1, 1) := by decide +kernel
theorem dX8_isWorthIdling_16 : decode cX8_isWorthIdling 16 = .ok (.invokevirtual 226, 3) := by decide +kernel
theorem dX8_isWorthIdling_19 : decode cX8_isWorthIdling 19 = .ok (.ifCond .ne 20, 3) := by decide +kernel
theorem dX8_isWorthIdling_22 : decode cX8_isWorthIdling 22 = .ok (.aload_n 1, 1) := by decide +kernel
theorem dX8_isWorthIdling_23 : decode cX8_isWorthIdling 23 = .ok (.getfield 230, 3) := by decide +kernel
theorem dX8_isWorthIdling_26 : decode cX8_isWorthIdling 26 = .ok (.aload_n 0, 1) := by decide +kernel
theorem dX8_isWorthIdling_27 : decode cX8_isWorthIdling 27 = .ok (.getfield 73, 3) := by decide +kernel
theorem dX8_isWorthIdling_30 : decode cX8_isWorthIdling 30 = .ok (.i2f, 1) := by decide +kernel
theorem dX8_isWorthIdling_31 : decode cX8_isWorthIdling 31 = .ok (.fcmp .g, 1) := by decide +kernel
theorem dX8_isWorthIdling_32 : decode cX8_isWorthIdling 32 = .ok (.ifCond .gt 7, 3) := by decide +kernel
theorem dX8_isWorthIdling_35 : decode cX8_isWorthIdling 35 = .ok (.iconst 1, 1) := by decide +kernel
theorem dX8_isWorthIdling_36 : decode cX8_isWorthIdling 36 = .ok (.goto 4, 3) := by decide +kernel
theorem dX8_isWorthIdling_39 : decode cX8_isWorthIdling 39 = .ok (.iconst 0, 1) := by decide +kernel
theorem dX8_isWorthIdling_40 : decode cX8_isWorthIdling 40 = .ok (.ireturn, 1) := by decide +kernel
theorem dX8_askByStep_0 : decode cX8_askByStep 0 = .ok (.aload_n 0, 1) := by decide +kernel
theorem dX8_askByStep_1 : decode cX8_askByStep 1 = .ok (.getfield 85, 3) := by decide +kernel
theorem dX8_askByStep_4 : decode cX8_askByStep 4 = .ok (.getfield 218, 3) := by decide +kernel
theorem dX8_askByStep_7 : decode cX8_askByStep 7 = .ok (.iload_n 1, 1) := by decide +kernel
theorem dX8_askByStep_8 : decode cX8_askByStep 8 = .ok (.baload, 1) := by decide +kernel
theorem dX8_askByStep_9 : decode cX8_askByStep 9 = .ok (.istore_n 3, 1) := by decide +kernel
theorem dX8_askByStep_10 : decode cX8_askByStep 10 = .ok (.aload_n 0, 1) := by decide +kernel
theorem dX8_askByStep_11 : decode cX8_askByStep 11 = .ok (.getfield 85, 3) := by decide +kernel
theorem dX8_askByStep_14 : decode cX8_askByStep 14 = .ok (.getfield 233, 3) := by decide +kernel
theorem dX8_askByStep_17 : decode cX8_askByStep 17 = .ok (.iload_n 1, 1) := by decide +kernel
theorem dX8_askByStep_18 : decode cX8_askByStep 18 = .ok (.iaload, 1) := by decide +kernel
theorem dX8_askByStep_19 : decode cX8_askByStep 19 = .ok (.istore 4, 2) := by decide +kernel
theorem dX8_askByStep_21 : decode cX8_askByStep 21 = .ok (.iload 4, 2) := by decide +kernel
theorem dX8_askByStep_23 : decode cX8_askByStep 23 = .ok (.iconst 1, 1) := by decide +kernel
theorem dX8_askByStep_24 : decode cX8_askByStep 24 = .ok (.if_icmp .lt 15, 3) := by decide +kernel
theorem dX8_askByStep_27 : decode cX8_askByStep 27 = .ok (.iload_n 3, 1) := by decide +kernel
theorem dX8_askByStep_28 : decode cX8_askByStep 28 = .ok (.ifCond .eq 12, 3) := by decide +kernel
theorem dX8_askByStep_31 : decode cX8_askByStep 31 = .ok (.aload_n 2, 1) := by decide +kernel
theorem dX8_askByStep_32 : decode cX8_askByStep 32 = .ok (.getfield 172, 3) := by decide +kernel
theorem dX8_askByStep_35 : decode cX8_askByStep 35 = .ok (.iconst 4, 1) := by decide +kernel
theorem dX8_askByStep_36 : decode cX8_askByStep 36 = .ok (.if_icmp .lt 4, 3) := by decide +kernel
theorem dX8_askByStep_39 : decode cX8_askByStep 39 = .ok (.return_, 1) := by decide +kernel
theorem dX8_askByStep_40 : decode cX8_askByStep 40 = .ok (.iload_n 1, 1) := by decide +kernel
theorem dX8_askByStep_41 : decode cX8_askByStep 41 = .ok (.bipush 6, 2) := by decide +kernel
theorem dX8_askByStep_43 : decode cX8_askByStep 43 = .ok (.imul, 1) := by decide +kernel
theorem dX8_askByStep_44 : decode cX8_askByStep 44 = .ok (.aload_n 2, 1) := by decide +kernel
theorem dX8_askByStep_45 : decode cX8_askByStep 45 = .ok (.getfield 236, 3) := by decide +kernel
theorem dX8_askByStep_48 : decode cX8_askByStep 48 = .ok (.iadd, 1) := by decide +kernel
theorem dX8_askByStep_49 : decode cX8_askByStep 49 = .ok (.istore 5, 2) := by decide +kernel
theorem dX8_askByStep_51 : decode cX8_askByStep 51 = .ok (.aload_n 0, 1) := by decide +kernel
theorem dX8_askByStep_52 : decode cX8_askByStep 52 = .ok (.getfield 85, 3) := by decide +kernel
theorem dX8_askByStep_55 : decode cX8_askByStep 55 = .ok (.getfield 239, 3) := by decide +kernel
theorem dX8_askByStep_58 : decode cX8_askByStep 58 = .ok (.iload 5, 2) := by decide +kernel
theorem dX8_askByStep_60 : decode cX8_askByStep 60 = .ok (.iaload, 1) := by decide +kernel
theorem dX8_askByStep_61 : decode cX8_askByStep 61 = .ok (.istore 6, 2) := by decide +kernel
theorem dX8_askByStep_63 : decode cX8_askByStep 63 = .ok (.aload_n 0, 1) := by decide +kernel
theorem dX8_askByStep_64 : decode cX8_askByStep 64 = .ok (.getfield 85, 3) := by decide +kernel
theorem dX8_askByStep_67 : decode cX8_askByStep 67 = .ok (.getfield 242, 3) := by decide +kernel
theorem dX8_askByStep_70 : decode cX8_askByStep 70 = .ok (.iload 5, 2) := by decide +kernel
theorem dX8_askByStep_72 : decode cX8_askByStep 72 = .ok (.iaload, 1) := by decide +kernel
theorem dX8_askByStep_73 : decode cX8_askByStep 73 = .ok (.istore 7, 2) := by decide +kernel
theorem dX8_askByStep_75 : decode cX8_askByStep 75 = .ok (.aload_n 0, 1) := by decide +kernel
theorem dX8_askByStep_76 : decode cX8_askByStep 76 = .ok (.getfield 85, 3) := by decide +kernel
theorem dX8_askByStep_79 : decode cX8_askByStep 79 = .ok (.getfield 245, 3) := by decide +kernel
theorem dX8_askByStep_82 : decode cX8_askByStep 82 = .ok (.iload 5, 2) := by decide +kernel
theorem dX8_askByStep_84 : decode cX8_askByStep 84 = .ok (.iaload, 1) := by decide +kernel
theorem dX8_askByStep_85 : decode cX8_askByStep 85 = .ok (.istore 8, 2) := by decide +kernel
theorem dX8_askByStep_87 : decode cX8_askByStep 87 = .ok (.iload 8, 2) := by decide +kernel
theorem dX8_askByStep_89 : decode cX8_askByStep 89 = .ok (.ifCond .ge 30, 3) := by decide +kernel
theorem dX8_askByStep_92 : decode cX8_askByStep 92 = .ok (.aload_n 2, 1) := by decide +kernel
theorem dX8_askByStep_93 : decode cX8_askByStep 93 = .ok (.getfield 248, 3) := by decide +kernel
theorem dX8_askByStep_96 : decode cX8_askByStep 96 = .ok (.iload 6, 2) := by decide +kernel
theorem dX8_askByStep_98 : decode cX8_askByStep 98 = .ok (.iadd, 1) := by decide +kernel
theorem dX8_askByStep_99 : decode cX8_askByStep 99 = .ok (.aload_n 0, 1) := by decide +kernel
theorem dX8_askByStep_100 : decode cX8_askByStep 100 = .ok (.getfield 85, 3) := by decide +kernel
theorem dX8_askByStep_103 : decode cX8_askByStep 103 = .ok (.getfield 175, 3) := by decide +kernel
theorem dX8_askByStep_106 : decode cX8_askByStep 106 = .ok (.if_icmp .le 7, 3) := by decide +kernel
theorem dX8_askByStep_109 : decode cX8_askByStep 109 = .ok (.iconst 0, 1) := by decide +kernel
theorem dX8_askByStep_110 : decode cX8_askByStep 110 = .ok (.goto 7, 3) := by decide +kernel
theorem dX8_askByStep_113 : decode cX8_askByStep 113 = .ok (.aload_n 2, 1) := by decide +kernel
theorem dX8_askByStep_114 : decode cX8_askByStep 114 = .ok (.getfield 248, 3) := by decide +kernel
theorem dX8_askByStep_117 : decode cX8_askByStep 117 = .ok (.istore 8, 2) := by decide +kernel
theorem dX8_askByStep_119 : decode cX8_askByStep 119 = .ok (.aload_n 2, 1) := by decide +kernel
theorem dX8_askByStep_120 : decode cX8_askByStep 120 = .ok (.aload_n 2, 1) := by decide +kernel
theorem dX8_askByStep_121 : decode cX8_askByStep 121 = .ok (.getfield 236, 3) := by decide +kernel
theorem dX8_askByStep_124 : decode cX8_askByStep 124 = .ok (.iconst 1, 1) := by decide +kernel
theorem dX8_askByStep_125 : decode cX8_askByStep 125 = .ok (.iadd, 1) := by decide +kernel
theorem dX8_askByStep_126 : decode cX8_askByStep 126 = .ok (.iload 4, 2) := by decide +kernel
theorem dX8_askByStep_128 : decode cX8_askByStep 128 = .ok (.if_icmp .ge 12, 3) := by decide +kernel
theorem dX8_askByStep_131 : decode cX8_askByStep 131 = .ok (.aload_n 2, 1) := by decide +kernel
theorem dX8_askByStep_132 : decode cX8_askByStep 132 = .ok (.getfield 236, 3) := by decide +kernel
theorem dX8_askByStep_135 : decode cX8_askByStep 135 = .ok (.iconst 1, 1) := by decide +kernel
theorem dX8_askByStep_136 : decode cX8_askByStep 136 = .ok (.iadd, 1) := by decide +kernel
theorem dX8_askByStep_137 : decode cX8_askByStep 137 = .ok (.goto 4, 3) := by decide +kernel
theorem dX8_askByStep_140 : decode cX8_askByStep 140 = .ok (.iconst 0, 1) := by decide +kernel
theorem dX8_askByStep_141 : decode cX8_askByStep 141 = .ok (.putfield 236, 3) := by decide +kernel
theorem dX8_askByStep_144 : decode cX8_askByStep 144 = .ok (.iload_n 3, 1) := by decide +kernel
theorem dX8_askByStep_145 : decode cX8_askByStep 145 = .ok (.ifCond .eq 12, 3) := by decide +kernel
theorem dX8_askByStep_148 : decode cX8_askByStep 148 = .ok (.aload_n 2, 1) := by decide +kernel
theorem dX8_askByStep_149 : decode cX8_askByStep 149 = .ok (.iload 7, 2) := by decide +kernel
theorem dX8_askByStep_151 : decode cX8_askByStep 151 = .ok (.putfield 186, 3) := by decide +kernel
theorem dX8_askByStep_154 : decode cX8_askByStep 154 = .ok (.goto 8, 3) := by decide +kernel
theorem dX8_askByStep_157 : decode cX8_askByStep 157 = .ok (.aload_n 2, 1) := by decide +kernel
theorem dX8_askByStep_158 : decode cX8_askByStep 158 = .ok (.iconst 1, 1) := by decide +kernel
theorem dX8_askByStep_159 : decode cX8_askByStep 159 = .ok (.putfield 183, 3) := by decide +kernel
theorem dX8_askByStep_162 : decode cX8_askByStep 162 = .ok (.aload_n 0, 1) := by decide +kernel
theorem dX8_askByStep_163 : decode cX8_askByStep 163 = .ok (.iload_n 1, 1) := by decide +kernel
theorem dX8_askByStep_164 : decode cX8_askByStep 164 = .ok (.iload 8, 2) := by decide +kernel
theorem dX8_askByStep_166 : decode cX8_askByStep 166 = .ok (.iload 6, 2) := by decide +kernel
theorem dX8_askByStep_168 : decode cX8_askByStep 168 = .ok (.iload 7, 2) := by decide +kernel
theorem dX8_askByStep_170 : decode cX8_askByStep 170 = .ok (.invokevirtual 251, 3) := by decide +kernel
theorem dX8_askByStep_173 : decode cX8_askByStep 173 = .ok (.pop, 1) := by decide +kernel
theorem dX8_askByStep_174 : decode cX8_askByStep 174 = .ok (.return_, 1) := by decide +kernel
theorem dX8_send_0 : decode cX8_send 0 = .ok (.aload_n 0, 1) := by decide +kernel
theorem dX8_send_1 : decode cX8_send 1 = .ok (.getfield 11, 3) := by decide +kernel
theorem dX8_send_4 : decode cX8_send 4 = .ok (.iload_n 1, 1) := by decide +kernel
theorem dX8_send_5 : decode cX8_send 5 = .ok (.aaload, 1) := by decide +kernel
theorem dX8_send_6 : decode cX8_send 6 = .ok (.astore 5, 2) := by decide +kernel
theorem dX8_send_8 : decode cX8_send 8 = .ok (.aload 5, 2) := by decide +kernel
theorem dX8_send_10 : decode cX8_send 10 = .ok (.iload_n 2, 1) := by decide +kernel
theorem dX8_send_11 : decode cX8_send 11 = .ok (.iload_n 3, 1) := by decide +kernel
theorem dX8_send_12 : decode cX8_send 12 = .ok (.iadd, 1) := by decide +kernel
theorem dX8_send_13 : decode cX8_send 13 = .ok (.putfield 248, 3) := by decide +kernel
theorem dX8_send_16 : decode cX8_send 16 = .ok (.aload_n 0, 1) := by decide +kernel
theorem dX8_send_17 : decode cX8_send 17 = .ok (.iload_n 1, 1) := by decide +kernel
theorem dX8_send_18 : decode cX8_send 18 = .ok (.iload_n 2, 1) := by decide +kernel
theorem dX8_send_19 : decode cX8_send 19 = .ok (.invokevirtual 255, 3) := by decide +kernel
theorem dX8_send_22 : decode cX8_send 22 = .ok (.aload 5, 2) := by decide +kernel
theorem dX8_send_24 : decode cX8_send 24 = .ok (.getfield 259, 3) := by decide +kernel
theorem dX8_send_27 : decode cX8_send 27 = .ok (.istore 6, 2) := by decide +kernel
theorem dX8_send_29 : decode cX8_send 29 = .ok (.aload_n 0, 1) := by decide +kernel
theorem dX8_send_30 : decode cX8_send 30 = .ok (.getfield 19, 3) := by decide +kernel
theorem dX8_send_33 : decode cX8_send 33 = .ok (.iload 6, 2) := by decide +kernel
theorem dX8_send_35 : decode cX8_send 35 = .ok (.aaload, 1) := by decide +kernel
theorem dX8_send_36 : decode cX8_send 36 = .ok (.astore 7, 2) := by decide +kernel
theorem dX8_send_38 : decode cX8_send 38 = .ok (.aload 7, 2) := by decide +kernel
theorem dX8_send_40 : decode cX8_send 40 = .ok (.iload_n 2, 1) := by decide +kernel
theorem dX8_send_41 : decode cX8_send 41 = .ok (.iload_n 3, 1) := by decide +kernel
theorem dX8_send_42 : decode cX8_send 42 = .ok (.aload_n 0, 1) := by decide +kernel
theorem dX8_send_43 : decode cX8_send 43 = .ok (.getfield 85, 3) := by decide +kernel
theorem dX8_send_46 : decode cX8_send 46 = .ok (.getfield 262, 3) := by decide +kernel
theorem dX8_send_49 : decode cX8_send 49 = .ok (.invokevirtual 265, 3) := by decide +kernel
theorem dX8_send_52 : decode cX8_send 52 = .ok (.iload 6, 2) := by decide +kernel
theorem dX8_send_54 : decode cX8_send 54 = .ok (.aload_n 0, 1) := by decide +kernel
theorem dX8_send_55 : decode cX8_send 55 = .ok (.getfield 58, 3) := by decide +kernel
theorem dX8_send_58 : decode cX8_send 58 = .ok (.if_icmp .ne 7, 3) := by decide +kernel
theorem dX8_send_61 : decode cX8_send 61 = .ok (.iconst 1, 1) := by decide +kernel
theorem dX8_send_62 : decode cX8_send 62 = .ok (.goto 4, 3) := by decide +kernel
theorem dX8_send_65 : decode cX8_send 65 = .ok (.iconst 0, 1) := by decide +kernel
theorem dX8_send_66 : decode cX8_send 66 = .ok (.istore 8, 2) := by decide +kernel
theorem dX8_send_68 : decode cX8_send 68 = .ok (.aload 7, 2) := by decide +kernel
theorem dX8_send_70 : decode cX8_send 70 = .ok (.getfield 153, 3) := by decide +kernel
theorem dX8_send_73 : decode cX8_send 73 = .ok (.ifCond .gt 15, 3) := by decide +kernel
theorem dX8_send_76 : decode cX8_send 76 = .ok (.iload 8, 2) := by decide +kernel
theorem dX8_send_78 : decode cX8_send 78 = .ok (.ifCond .eq 14, 3) := by decide +kernel
theorem dX8_send_81 : decode cX8_send 81 = .ok (.aload_n 0, 1) := by decide +kernel
theorem dX8_send_82 : decode cX8_send 82 = .ok (.getfield 41, 3) := by decide +kernel
theorem dX8_send_85 : decode cX8_send 85 = .ok (.ifCond .le 7, 3) := by decide +kernel
theorem dX8_send_88 : decode cX8_send 88 = .ok (.iconst 1, 1) := by decide +kernel
theorem dX8_send_89 : decode cX8_send 89 = .ok (.goto 4, 3) := by decide +kernel
theorem dX8_send_92 : decode cX8_send 92 = .ok (.iconst 0, 1) := by decide +kernel
theorem dX8_send_93 : decode cX8_send 93 = .ok (.istore 9, 2) := by decide +kernel
theorem dX8_send_95 : decode cX8_send 95 = .ok (.iload 9, 2) := by decide +kernel
theorem dX8_send_97 : decode cX8_send 97 = .ok (.ifCond .ne 33, 3) := by decide +kernel
theorem dX8_send_100 : decode cX8_send 100 = .ok (.aload_n 0, 1) := by decide +kernel
theorem dX8_send_101 : decode cX8_send 101 = .ok (.getfield 85, 3) := by decide +kernel
theorem dX8_send_104 : decode cX8_send 104 = .ok (.getfield 218, 3) := by decide +kernel
theorem dX8_send_107 : decode cX8_send 107 = .ok (.iload 6, 2) := by decide +kernel
theorem dX8_send_109 : decode cX8_send 109 = .ok (.baload, 1) := by decide +kernel
theorem dX8_send_110 : decode cX8_send 110 = .ok (.ifCond .ne 20, 3) := by decide +kernel
theorem dX8_send_113 : decode cX8_send 113 = .ok (.aload 7, 2) := by decide +kernel
theorem dX8_send_115 : decode cX8_send 115 = .ok (.getfield 200, 3) := by decide +kernel
theorem dX8_send_118 : decode cX8_send 118 = .ok (.ifCond .eq 12, 3) := by decide +kernel
theorem dX8_send_121 : decode cX8_send 121 = .ok (.aload 7, 2) := by decide +kernel
theorem dX8_send_123 : decode cX8_send 123 = .ok (.aload_n 0, 1) := by decide +kernel
theorem dX8_send_124 : decode cX8_send 124 = .ok (.getfield 55, 3) := by decide +kernel
theorem dX8_send_127 : decode cX8_send 127 = .ok (.invokevirtual 268, 3) := by decide +kernel
theorem dX8_send_130 : decode cX8_send 130 = .ok (.iload 8, 2) := by decide +kernel
theorem dX8_send_132 : decode cX8_send 132 = .ok (.ifCond .ne 19, 3) := by decide +kernel
theorem dX8_send_135 : decode cX8_send 135 = .ok (.aload 7, 2) := by decide +kernel
theorem dX8_send_137 : decode cX8_send 137 = .ok (.getfield 153, 3) := by decide +kernel
theorem dX8_send_140 : decode cX8_send 140 = .ok (.ifCond .ne 11, 3) := by decide +kernel
theorem dX8_send_143 : decode cX8_send 143 = .ok (.aload_n 0, 1) := by decide +kernel
theorem dX8_send_144 : decode cX8_send 144 = .ok (.iload 6, 2) := by decide +kernel
theorem dX8_send_146 : decode cX8_send 146 = .ok (.aload 7, 2) := by decide +kernel
theorem dX8_send_148 : decode cX8_send 148 = .ok (.invokevirtual 271, 3) := by decide +kernel
theorem dX8_send_151 : decode cX8_send 151 = .ok (.aload_n 0, 1) := by decide +kernel
theorem dX8_send_152 : decode cX8_send 152 = .ok (.getfield 26, 3) := by decide +kernel
theorem dX8_send_155 : decode cX8_send 155 = .ok (.invokevirtual 275, 3) := by decide +kernel
theorem dX8_send_158 : decode cX8_send 158 = .ok (.ifCond .ne 117, 3) := by decide +kernel
theorem dX8_send_161 : decode cX8_send 161 = .ok (.aload_n 0, 1) := by decide +kernel
theorem dX8_send_162 : decode cX8_send 162 = .ok (.getfield 26, 3) := by decide +kernel
theorem dX8_send_165 : decode cX8_send 165 = .ok (.invokevirtual 278, 3) := by decide +kernel
theorem dX8_send_168 : decode cX8_send 168 = .ok (.istore 10, 2) := by decide +kernel
theorem dX8_send_170 : decode cX8_send 170 = .ok (.aload_n 0, 1) := by decide +kernel
theorem dX8_send_171 : decode cX8_send 171 = .ok (.getfield 26, 3) := by decide +kernel
theorem dX8_send_174 : decode cX8_send 174 = .ok (.getfield 281, 3) := by decide +kernel
theorem dX8_send_177 : decode cX8_send 177 = .ok (.iload 10, 2) := by decide +kernel
theorem dX8_send_179 : decode cX8_send 179 = .ok (.iconst 0, 1) := by decide +kernel
theorem dX8_send_180 : decode cX8_send 180 = .ok (.iadd, 1) := by decide +kernel
theorem dX8_send_181 : decode cX8_send 181 = .ok (.iload_n 2, 1) := by decide +kernel
theorem dX8_send_182 : decode cX8_send 182 = .ok (.iastore, 1) := by decide +kernel
theorem dX8_send_183 : decode cX8_send 183 = .ok (.aload_n 0, 1) := by decide +kernel
theorem dX8_send_184 : decode cX8_send 184 = .ok (.getfield 26, 3) := by decide +kernel
theorem dX8_send_187 : decode cX8_send 187 = .ok (.getfield 281, 3) := by decide +kernel
theorem dX8_send_190 : decode cX8_send 190 = .ok (.iload 10, 2) := by decide +kernel
theorem dX8_send_192 : decode cX8_send 192 = .ok (.iconst 1, 1) := by decide +kernel
theorem dX8_send_193 : decode cX8_send 193 = .ok (.iadd, 1) := by decide +kernel
theorem dX8_send_194 : decode cX8_send 194 = .ok (.iload_n 3, 1) := by decide +kernel
theorem dX8_send_195 : decode cX8_send 195 = .ok (.iastore, 1) := by decide +kernel
theorem dX8_send_196 : decode cX8_send 196 = .ok (.aload_n 0, 1) := by decide +kernel
theorem dX8_send_197 : decode cX8_send 197 = .ok (.getfield 26, 3) := by decide +kernel
theorem dX8_send_200 : decode cX8_send 200 = .ok (.getfield 281, 3) := by decide +kernel
theorem dX8_send_203 : decode cX8_send 203 = .ok (.iload 10, 2) := by decide +kernel
theorem dX8_send_205 : decode cX8_send 205 = .ok (.iconst 2, 1) := by decide +kernel
theorem dX8_send_206 : decode cX8_send 206 = .ok (.iadd, 1) := by decide +kernel
theorem dX8_send_207 : decode cX8_send 207 = .ok (.iload_n 1, 1) := by decide +kernel
theorem dX8_send_208 : decode cX8_send 208 = .ok (.iastore, 1) := by decide +kernel
theorem dX8_send_209 : decode cX8_send 209 = .ok (.aload_n 0, 1) := by decide +kernel
theorem dX8_send_210 : decode cX8_send 210 = .ok (.getfield 26, 3) := by decide +kernel
theorem dX8_send_213 : decode cX8_send 213 = .ok (.getfield 281, 3) := by decide +kernel
theorem dX8_send_216 : decode cX8_send 216 = .ok (.iload 10, 2) := by decide +kernel
theorem dX8_send_218 : decode cX8_send 218 = .ok (.iconst 3, 1) := by decide +kernel
theorem dX8_send_219 : decode cX8_send 219 = .ok (.iadd, 1) := by decide +kernel
theorem dX8_send_220 : decode cX8_send 220 = .ok (.aload_n 0, 1) := by decide +kernel
theorem dX8_send_221 : decode cX8_send 221 = .ok (.getfield 55, 3) := by decide +kernel
theorem dX8_send_224 : decode cX8_send 224 = .ok (.iastore, 1) := by decide +kernel
theorem dX8_send_225 : decode cX8_send 225 = .ok (.aload_n 0, 1) := by decide +kernel
theorem dX8_send_226 : decode cX8_send 226 = .ok (.getfield 26, 3) := by decide +kernel
theorem dX8_send_229 : decode cX8_send 229 = .ok (.getfield 281, 3) := by decide +kernel
theorem dX8_send_232 : decode cX8_send 232 = .ok (.iload 10, 2) := by decide +kernel
theorem dX8_send_234 : decode cX8_send 234 = .ok (.iconst 4, 1) := by decide +kernel
theorem dX8_send_235 : decode cX8_send 235 = .ok (.iadd, 1) := by decide +kernel
theorem dX8_send_236 : decode cX8_send 236 = .ok (.iload 4, 2) := by decide +kernel
theorem dX8_send_238 : decode cX8_send 238 = .ok (.iastore, 1) := by decide +kernel
theorem dX8_send_239 : decode cX8_send 239 = .ok (.aload_n 0, 1) := by decide +kernel
theorem dX8_send_240 : decode cX8_send 240 = .ok (.getfield 26, 3) := by decide +kernel
theorem dX8_send_243 : decode cX8_send 243 = .ok (.getfield 281, 3) := by decide +kernel
theorem dX8_send_246 : decode cX8_send 246 = .ok (.iload 10, 2) := by decide +kernel
theorem dX8_send_248 : decode cX8_send 248 = .ok (.iconst 5, 1) := by decide +kernel
theorem dX8_send_249 : decode cX8_send 249 = .ok (.iadd, 1) := by decide +kernel
theorem dX8_send_250 : decode cX8_send 250 = .ok (.iload 6, 2) := by decide +kernel
theorem dX8_send_252 : decode cX8_send 252 = .ok (.iastore, 1) := by decide +kernel
theorem dX8_send_253 : decode cX8_send 253 = .ok (.aload 7, 2) := by decide +kernel
theorem dX8_send_255 : decode cX8_send 255 = .ok (.dup, 1) := by decide +kernel
theorem dX8_send_256 : decode cX8_send 256 = .ok (.getfield 153, 3) := by decide +kernel
theorem dX8_send_259 : decode cX8_send 259 = .ok (.iconst 1, 1) := by decide +kernel
theorem dX8_send_260 : decode cX8_send 260 = .ok (.iadd, 1) := by decide +kernel
theorem dX8_send_261 : decode cX8_send 261 = .ok (.putfield 153, 3) := by decide +kernel
theorem dX8_send_264 : decode cX8_send 264 = .ok (.aload 5, 2) := by decide +kernel
theorem dX8_send_266 : decode cX8_send 266 = .ok (.dup, 1) := by decide +kernel
theorem dX8_send_267 : decode cX8_send 267 = .ok (.getfield 172, 3) := by decide +kernel
theorem dX8_send_270 : decode cX8_send 270 = .ok (.iconst 1, 1) := by decide +kernel
theorem dX8_send_271 : decode cX8_send 271 = .ok (.iadd, 1) := by decide +kernel
theorem dX8_send_272 : decode cX8_send 272 = .ok (.putfield 172, 3) := by decide +kernel
theorem dX8_send_275 : decode cX8_send 275 = .ok (.iload 6, 2) := by decide +kernel
theorem dX8_send_277 : decode cX8_send 277 = .ok (.ireturn, 1) := by decide +kernel
theorem dX8_route_0 : decode cX8_route 0 = .ok (.aload_n 0, 1) := by decide +kernel
theorem dX8_route_1 : decode cX8_route 1 = .ok (.getfield 11, 3) := by decide +kernel
theorem dX8_route_4 : decode cX8_route 4 = .ok (.iload_n 1, 1) := by decide +kernel
theorem dX8_route_5 : decode cX8_route 5 = .ok (.aaload, 1) := by decide +kernel
theorem dX8_route_6 : decode cX8_route 6 = .ok (.astore_n 3, 1) := by decide +kernel
theorem dX8_route_7 : decode cX8_route 7 = .ok (.aload_n 3, 1) := by decide +kernel
theorem dX8_route_8 : decode cX8_route 8 = .ok (.getfield 259, 3) := by decide +kernel
theorem dX8_route_11 : decode cX8_route 11 = .ok (.iload_n 1, 1) := by decide +kernel
theorem dX8_route_12 : decode cX8_route 12 = .ok (.if_icmp .ne 50, 3) := by decide +kernel
theorem dX8_route_15 : decode cX8_route 15 = .ok (.aload_n 0, 1) := by decide +kernel
theorem dX8_route_16 : decode cX8_route 16 = .ok (.iload_n 1, 1) := by decide +kernel
theorem dX8_route_17 : decode cX8_route 17 = .ok (.invokevirtual 284, 3) := by decide +kernel
theorem dX8_route_20 : decode cX8_route 20 = .ok (.ifCond .eq 101, 3) := by decide +kernel
theorem dX8_route_23 : decode cX8_route 23 = .ok (.aload_n 0, 1) := by decide +kernel
theorem dX8_route_24 : decode cX8_route 24 = .ok (.getfield 19, 3) := by decide +kernel
theorem dX8_route_27 : decode cX8_route 27 = .ok (.aload_n 0, 1) := by decide +kernel
theorem dX8_route_28 : decode cX8_route 28 = .ok (.getfield 58, 3) := by decide +kernel
theorem dX8_route_31 : decode cX8_route 31 = .ok (.aaload, 1) := by decide +kernel
theorem dX8_route_32 : decode cX8_route 32 = .ok (.iload_n 2, 1) := by decide +kernel
theorem dX8_route_33 : decode cX8_route 33 = .ok (.aload_n 0, 1) := by decide +kernel
theorem dX8_route_34 : decode cX8_route 34 = .ok (.getfield 85, 3) := by decide +kernel
theorem dX8_route_37 : decode cX8_route 37 = .ok (.getfield 262, 3) := by decide +kernel
theorem dX8_route_40 : decode cX8_route 40 = .ok (.invokevirtual 288, 3) := by decide +kernel
theorem dX8_route_43 : decode cX8_route 43 = .ok (.ifCond .ne 78, 3) := by decide +kernel
theorem dX8_route_46 : decode cX8_route 46 = .ok (.aload_n 3, 1) := by decide +kernel
theorem dX8_route_47 : decode cX8_route 47 = .ok (.aload_n 0, 1) := by decide +kernel
theorem dX8_route_48 : decode cX8_route 48 = .ok (.getfield 58, 3) := by decide +kernel
theorem dX8_route_51 : decode cX8_route 51 = .ok (.putfield 259, 3) := by decide +kernel
theorem dX8_route_54 : decode cX8_route 54 = .ok (.aload_n 3, 1) := by decide +kernel
theorem dX8_route_55 : decode cX8_route 55 = .ok (.iconst 0, 1) := by decide +kernel
theorem dX8_route_56 : decode cX8_route 56 = .ok (.putfield 292, 3) := by decide +kernel
theorem dX8_route_59 : decode cX8_route 59 = .ok (.goto 62, 3) := by decide +kernel
theorem dX8_route_62 : decode cX8_route 62 = .ok (.aload_n 0, 1) := by decide +kernel
theorem dX8_route_63 : decode cX8_route 63 = .ok (.getfield 19, 3) := by decide +kernel
theorem dX8_route_66 : decode cX8_route 66 = .ok (.aload_n 3, 1) := by decide +kernel
theorem dX8_route_67 : decode cX8_route 67 = .ok (.getfield 259, 3) := by decide +kernel
theorem dX8_route_70 : decode cX8_route 70 = .ok (.aaload, 1) := by decide +kernel
theorem dX8_route_71 : decode cX8_route 71 = .ok (.iload_n 2, 1) := by decide +kernel
theorem dX8_route_72 : decode cX8_route 72 = .ok (.aload_n 0, 1) := by decide +kernel
theorem dX8_route_73 : decode cX8_route 73 = .ok (.getfield 85, 3) := by decide +kernel
theorem dX8_route_76 : decode cX8_route 76 = .ok (.getfield 262, 3) := by decide +kernel
theorem dX8_route_79 : decode cX8_route 79 = .ok (.invokevirtual 288, 3) := by decide +kernel
theorem dX8_route_82 : decode cX8_route 82 = .ok (.ifCond .eq 34, 3) := by decide +kernel
theorem dX8_route_85 : decode cX8_route 85 = .ok (.aload_n 3, 1) := by decide +kernel
theorem dX8_route_86 : decode cX8_route 86 = .ok (.dup, 1) := by decide +kernel
theorem dX8_route_87 : decode cX8_route 87 = .ok (.getfield 292, 3) := by decide +kernel
theorem dX8_route_90 : decode cX8_route 90 = .ok (.iconst 1, 1) := by decide +kernel
theorem dX8_route_91 : decode cX8_route 91 = .ok (.iadd, 1) := by decide +kernel
theorem dX8_route_92 : decode cX8_route 92 = .ok (.putfield 292, 3) := by decide +kernel
theorem dX8_route_95 : decode cX8_route 95 = .ok (.aload_n 3, 1) := by decide +kernel
theorem dX8_route_96 : decode cX8_route 96 = .ok (.getfield 292, 3) := by decide +kernel
theorem dX8_route_99 : decode cX8_route 99 = .ok (.iconst 3, 1) := by decide +kernel
theorem dX8_route_100 : decode cX8_route 100 = .ok (.if_icmp .lt 21, 3) := by decide +kernel
theorem dX8_route_103 : decode cX8_route 103 = .ok (.aload_n 3, 1) := by decide +kernel
theorem dX8_route_104 : decode cX8_route 104 = .ok (.iload_n 1, 1) := by decide +kernel
theorem dX8_route_105 : decode cX8_route 105 = .ok (.putfield 259, 3) := by decide +kernel
theorem dX8_route_108 : decode cX8_route 108 = .ok (.aload_n 3, 1) := by decide +kernel
theorem dX8_route_109 : decode cX8_route 109 = .ok (.iconst 0, 1) := by decide +kernel
theorem dX8_route_110 : decode cX8_route 110 = .ok (.putfield 292, 3) := by decide +kernel
theorem dX8_route_113 : decode cX8_route 113 = .ok (.goto 8, 3) := by decide +kernel
theorem dX8_route_116 : decode cX8_route 116 = .ok (.aload_n 3, 1) := by decide +kernel
theorem dX8_route_117 : decode cX8_route 117 = .ok (.iconst 0, 1) := by decide +kernel
theorem dX8_route_118 : decode cX8_route 118 = .ok (.putfield 292, 3) := by decide +kernel
theorem dX8_route_121 : decode cX8_route 121 = .ok (.return_, 1) := by decide +kernel
theorem dX8_mayMerge_0 : decode cX8_mayMerge 0 = .ok (.aload_n 0, 1) := by decide +kernel
theorem dX8_mayMerge_1 : decode cX8_mayMerge 1 = .ok (.getfield 58, 3) := by decide +kernel
theorem dX8_mayMerge_4 : decode cX8_mayMerge 4 = .ok (.ifCond .lt 42, 3) := by decide +kernel
theorem dX8_mayMerge_7 : decode cX8_mayMerge 7 = .ok (.aload_n 0, 1) := by decide +kernel
theorem dX8_mayMerge_8 : decode cX8_mayMerge 8 = .ok (.getfield 58, 3) := by decide +kernel
theorem dX8_mayMerge_11 : decode cX8_mayMerge 11 = .ok (.iload_n 1, 1) := by decide +kernel
theorem dX8_mayMerge_12 : decode cX8_mayMerge 12 = .ok (.if_icmp .eq 34, 3) := by decide +kernel
theorem dX8_mayMerge_15 : decode cX8_mayMerge 15 = .ok (.aload_n 0, 1) := by decide +kernel
theorem dX8_mayMerge_16 : decode cX8_mayMerge 16 = .ok (.getfield 85, 3) := by decide +kernel
theorem dX8_mayMerge_19 : decode cX8_mayMerge 19 = .ok (.getfield 218, 3) := by decide +kernel
theorem dX8_mayMerge_22 : decode cX8_mayMerge 22 = .ok (.iload_n 1, 1) := by decide +kernel
theorem dX8_mayMerge_23 : decode cX8_mayMerge 23 = .ok (.baload, 1) := by decide +kernel
theorem dX8_mayMerge_24 : decode cX8_mayMerge 24 = .ok (.ifCond .ne 22, 3) := by decide +kernel
theorem dX8_mayMerge_27 : decode cX8_mayMerge 27 = .ok (.aload_n 0, 1) := by decide +kernel
theorem dX8_mayMerge_28 : decode cX8_mayMerge 28 = .ok (.getfield 85, 3) := by decide +kernel
theorem dX8_mayMerge_31 : decode cX8_mayMerge 31 = .ok (.getfield 218, 3) := by decide +kernel
theorem dX8_mayMerge_34 : decode cX8_mayMerge 34 = .ok (.aload_n 0, 1) := by decide +kernel
theorem dX8_mayMerge_35 : decode cX8_mayMerge 35 = .ok (.getfield 58, 3) := by decide +kernel
theorem dX8_mayMerge_38 : decode cX8_mayMerge 38 = .ok (.baload, 1) := by decide +kernel
theorem dX8_mayMerge_39 : decode cX8_mayMerge 39 = .ok (.ifCond .ne 7, 3) := by decide +kernel
theorem dX8_mayMerge_42 : decode cX8_mayMerge 42 = .ok (.iconst 1, 1) := by decide +kernel
theorem dX8_mayMerge_43 : decode cX8_mayMerge 43 = .ok (.goto 4, 3) := by decide +kernel
theorem dX8_mayMerge_46 : decode cX8_mayMerge 46 = .ok (.iconst 0, 1) := by decide +kernel
theorem dX8_mayMerge_47 : decode cX8_mayMerge 47 = .ok (.ireturn, 1) := by decide +kernel
theorem dX8_wake_0 : decode cX8_wake 0 = .ok (.aload_n 0, 1) := by decide +kernel
theorem dX8_wake_1 : decode cX8_wake 1 = .ok (.getfield 55, 3) := by decide +kernel
theorem dX8_wake_4 : decode cX8_wake 4 = .ok (.aload_n 2, 1) := by decide +kernel
theorem dX8_wake_5 : decode cX8_wake 5 = .ok (.getfield 200, 3) := by decide +kernel
theorem dX8_wake_8 : decode cX8_wake 8 = .ok (.isub, 1) := by decide +kernel
theorem dX8_wake_9 : decode cX8_wake 9 = .ok (.aload_n 0, 1) := by decide +kernel
theorem dX8_wake_10 : decode cX8_wake 10 = .ok (.getfield 85, 3) := by decide +kernel
theorem dX8_wake_13 : decode cX8_wake 13 = .ok (.getfield 295, 3) := by decide +kernel
theorem dX8_wake_16 : decode cX8_wake 16 = .ok (.if_icmp .lt 19, 3) := by decide +kernel
theorem dX8_wake_19 : decode cX8_wake 19 = .ok (.aload_n 2, 1) := by decide +kernel
theorem dX8_wake_20 : decode cX8_wake 20 = .ok (.aload_n 0, 1) := by decide +kernel
theorem dX8_wake_21 : decode cX8_wake 21 = .ok (.getfield 55, 3) := by decide +kernel
theorem dX8_wake_24 : decode cX8_wake 24 = .ok (.aload_n 0, 1) := by decide +kernel
theorem dX8_wake_25 : decode cX8_wake 25 = .ok (.getfield 85, 3) := by decide +kernel
theorem dX8_wake_28 : decode cX8_wake 28 = .ok (.getfield 298, 3) := by decide +kernel
theorem dX8_wake_31 : decode cX8_wake 31 = .ok (.iadd, 1) := by decide +kernel
theorem dX8_wake_32 : decode cX8_wake 32 = .ok (.putfield 159, 3) := by decide +kernel
theorem dX8_wake_35 : decode cX8_wake 35 = .ok (.aload_n 2, 1) := by decide +kernel
theorem dX8_wake_36 : decode cX8_wake 36 = .ok (.aload_n 0, 1) := by decide +kernel
theorem dX8_wake_37 : decode cX8_wake 37 = .ok (.getfield 48, 3) := by decide +kernel
theorem dX8_wake_40 : decode cX8_wake 40 = .ok (.aload_n 2, 1) := by decide +kernel
theorem dX8_wake_41 : decode cX8_wake 41 = .ok (.getfield 301, 3) := by decide +kernel
theorem dX8_wake_44 : decode cX8_wake 44 = .ok (.fcmp .l, 1) := by decide +kernel
theorem dX8_wake_45 : decode cX8_wake 45 = .ok (.ifCond .le 10, 3) := by decide +kernel
theorem dX8_wake_48 : decode cX8_wake 48 = .ok (.aload_n 0, 1) := by decide +kernel
theorem dX8_wake_49 : decode cX8_wake 49 = .ok (.getfield 48, 3) := by decide +kernel
theorem dX8_wake_52 : decode cX8_wake 52 = .ok (.goto 7, 3) := by decide +kernel
theorem dX8_wake_55 : decode cX8_wake 55 = .ok (.aload_n 2, 1) := by decide +kernel
theorem dX8_wake_56 : decode cX8_wake 56 = .ok (.getfield 301, 3) := by decide +kernel
theorem dX8_wake_59 : decode cX8_wake 59 = .ok (.putfield 304, 3) := by decide +kernel
theorem dX8_wake_62 : decode cX8_wake 62 = .ok (.aload_n 2, 1) := by decide +kernel
theorem dX8_wake_63 : decode cX8_wake 63 = .ok (.aload_n 0, 1) := by decide +kernel
theorem dX8_wake_64 : decode cX8_wake 64 = .ok (.aload_n 2, 1) := by decide +kernel
theorem dX8_wake_65 : decode cX8_wake 65 = .ok (.getfield 304, 3) := by decide +kernel
theorem dX8_wake_68 : decode cX8_wake 68 = .ok (.aload_n 2, 1) := by decide +kernel
theorem dX8_wake_69 : decode cX8_wake 69 = .ok (.getfield 307, 3) := by decide +kernel
theorem dX8_wake_72 : decode cX8_wake 72 = .ok (.iload_n 1, 1) := by decide +kernel
theorem dX8_wake_73 : decode cX8_wake 73 = .ok (.invokevirtual 310, 3) := by decide +kernel
theorem dX8_wake_76 : decode cX8_wake 76 = .ok (.putfield 301, 3) := by decide +kernel
theorem dX8_wake_79 : decode cX8_wake 79 = .ok (.return_, 1) := by decide +kernel
theorem dX8_after_0 : decode cX8_after 0 = .ok (.aload_n 0, 1) := by decide +kernel
theorem dX8_after_1 : decode cX8_after 1 = .ok (.iload_n 3, 1) := by decide +kernel
theorem dX8_after_2 : decode cX8_after 2 = .ok (.invokevirtual 222, 3) := by decide +kernel
theorem dX8_after_5 : decode cX8_after 5 = .ok (.istore 4, 2) := by decide +kernel
theorem dX8_after_7 : decode cX8_after 7 = .ok (.iload 4, 2) := by decide +kernel
theorem dX8_after_9 : decode cX8_after 9 = .ok (.iconst 1, 1) := by decide +kernel
theorem dX8_after_10 : decode cX8_after 10 = .ok (.if_icmp .ge 7, 3) := by decide +kernel
theorem dX8_after_13 : decode cX8_after 13 = .ok (.fload_n 1, 1) := by decide +kernel
theorem dX8_after_14 : decode cX8_after 14 = .ok (.goto 11, 3) := by decide +kernel
theorem dX8_after_17 : decode cX8_after 17 = .ok (.fload_n 1, 1) := by decide +kernel
theorem dX8_after_18 : decode cX8_after 18 = .ok (.iload_n 2, 1) := by decide +kernel
theorem dX8_after_19 : decode cX8_after 19 = .ok (.i2f, 1) := by decide +kernel
theorem dX8_after_20 : decode cX8_after 20 = .ok (.iload 4, 2) := by decide +kernel
theorem dX8_after_22 : decode cX8_after 22 = .ok (.i2f, 1) := by decide +kernel
theorem dX8_after_23 : decode cX8_after 23 = .ok (.fdiv, 1) := by decide +kernel
theorem dX8_after_24 : decode cX8_after 24 = .ok (.fadd, 1) := by decide +kernel
theorem dX8_after_25 : decode cX8_after 25 = .ok (.freturn, 1) := by decide +kernel
theorem dX8_choose_0 : decode cX8_choose 0 = .ok (.aload_n 0, 1) := by decide +kernel
theorem dX8_choose_1 : decode cX8_choose 1 = .ok (.getfield 58, 3) := by decide +kernel
theorem dX8_choose_4 : decode cX8_choose 4 = .ok (.ifCond .lt 121, 3) := by decide +kernel
theorem dX8_choose_7 : decode cX8_choose 7 = .ok (.aload_n 0, 1) := by decide +kernel
theorem dX8_choose_8 : decode cX8_choose 8 = .ok (.getfield 19, 3) := by decide +kernel
theorem dX8_choose_11 : decode cX8_choose 11 = .ok (.aload_n 0, 1) := by decide +kernel
theorem dX8_choose_12 : decode cX8_choose 12 = .ok (.getfield 58, 3) := by decide +kernel
theorem dX8_choose_15 : decode cX8_choose 15 = .ok (.aaload, 1) := by decide +kernel
theorem dX8_choose_16 : decode cX8_choose 16 = .ok (.astore_n 1, 1) := by decide +kernel
theorem dX8_choose_17 : decode cX8_choose 17 = .ok (.aload_n 0, 1) := by decide +kernel
theorem dX8_choose_18 : decode cX8_choose 18 = .ok (.getfield 26, 3) := by decide +kernel
theorem dX8_choose_21 : decode cX8_choose 21 = .ok (.aload_n 0, 1) := by decide +kernel
theorem dX8_choose_22 : decode cX8_choose 22 = .ok (.getfield 58, 3) := by decide +kernel
theorem dX8_choose_25 : decode cX8_choose 25 = .ok (.aload_n 0, 1) := by decide +kernel
theorem dX8_choose_26 : decode cX8_choose 26 = .ok (.getfield 45, 3) := by decide +kernel
theorem dX8_choose_29 : decode cX8_choose 29 = .ok (.invokevirtual 314, 3) := by decide +kernel
theorem dX8_choose_32 : decode cX8_choose 32 = .ok (.istore_n 2, 1) := by decide +kernel
theorem dX8_choose_33 : decode cX8_choose 33 = .ok (.iload_n 2, 1) := by decide +kernel
theorem dX8_choose_34 : decode cX8_choose 34 = .ok (.ifCond .lt 73, 3) := by decide +kernel
theorem dX8_choose_37 : decode cX8_choose 37 = .ok (.aload_n 0, 1) := by decide +kernel
theorem dX8_choose_38 : decode cX8_choose 38 = .ok (.getfield 64, 3) := by decide +kernel
theorem dX8_choose_41 : decode cX8_choose 41 = .ok (.ifCond .eq 35, 3) := by decide +kernel
theorem dX8_choose_44 : decode cX8_choose 44 = .ok (.aload_n 0, 1) := by decide +kernel
theorem dX8_choose_45 : decode cX8_choose 45 = .ok (.getfield 64, 3) := by decide +kernel
theorem dX8_choose_48 : decode cX8_choose 48 = .ok (.aload_n 0, 1) := by decide +kernel
theorem dX8_choose_49 : decode cX8_choose 49 = .ok (.getfield 26, 3) := by decide +kernel
theorem dX8_choose_52 : decode cX8_choose 52 = .ok (.getfield 281, 3) := by decide +kernel
theorem dX8_choose_55 : decode cX8_choose 55 = .ok (.iload_n 2, 1) := by decide +kernel
theorem dX8_choose_56 : decode cX8_choose 56 = .ok (.iconst 1, 1) := by decide +kernel
theorem dX8_choose_57 : decode cX8_choose 57 = .ok (.iadd, 1) := by decide +kernel
theorem dX8_choose_58 : decode cX8_choose 58 = .ok (.iaload, 1) := by decide +kernel
theorem dX8_choose_59 : decode cX8_choose 59 = .ok (.iadd, 1) := by decide +kernel
theorem dX8_choose_60 : decode cX8_choose 60 = .ok (.aload_n 1, 1) := by decide +kernel
theorem dX8_choose_61 : decode cX8_choose 61 = .ok (.getfield 307, 3) := by decide +kernel
theorem dX8_choose_64 : decode cX8_choose 64 = .ok (.if_icmp .le 12, 3) := by decide +kernel
theorem dX8_choose_67 : decode cX8_choose 67 = .ok (.aload_n 0, 1) := by decide +kernel
theorem dX8_choose_68 : decode cX8_choose 68 = .ok (.aload_n 1, 1) := by decide +kernel
theorem dX8_choose_69 : decode cX8_choose 69 = .ok (.iconst 0, 1) := by decide +kernel
theorem dX8_choose_70 : decode cX8_choose 70 = .ok (.invokevirtual 317, 3) := by decide +kernel
theorem dX8_choose_73 : decode cX8_choose 73 = .ok (.goto 52, 3) := by decide +kernel
theorem dX8_choose_76 : decode cX8_choose 76 = .ok (.aload_n 0, 1) := by decide +kernel
theorem dX8_choose_77 : decode cX8_choose 77 = .ok (.getfield 55, 3) := by decide +kernel
theorem dX8_choose_80 : decode cX8_choose 80 = .ok (.aload_n 0, 1) := by decide +kernel
theorem dX8_choose_81 : decode cX8_choose 81 = .ok (.getfield 61, 3) := by decide +kernel
theorem dX8_choose_84 : decode cX8_choose 84 = .ok (.isub, 1) := by decide +kernel
theorem dX8_choose_85 : decode cX8_choose 85 = .ok (.aload_n 0, 1) := by decide +kernel
theorem dX8_choose_86 : decode cX8_choose 86 = .ok (.getfield 76, 3) := by decide +kernel
theorem dX8_choose_89 : decode cX8_choose 89 = .ok (.if_icmp .lt 12, 3) := by decide +kernel
theorem dX8_choose_92 : decode cX8_choose 92 = .ok (.aload_n 0, 1) := by decide +kernel
theorem dX8_choose_93 : decode cX8_choose 93 = .ok (.aload_n 1, 1) := by decide +kernel
theorem dX8_choose_94 : decode cX8_choose 94 = .ok (.iconst 1, 1) := by decide +kernel
theorem dX8_choose_95 : decode cX8_choose 95 = .ok (.invokevirtual 317, 3) := by decide +kernel
theorem dX8_choose_98 : decode cX8_choose 98 = .ok (.goto 27, 3) := by decide +kernel
theorem dX8_choose_101 : decode cX8_choose 101 = .ok (.aload_n 0, 1) := by decide +kernel
theorem dX8_choose_102 : decode cX8_choose 102 = .ok (.iload_n 2, 1) := by decide +kernel
theorem dX8_choose_103 : decode cX8_choose 103 = .ok (.invokevirtual 321, 3) := by decide +kernel
theorem dX8_choose_106 : decode cX8_choose 106 = .ok (.return_, 1) := by decide +kernel
theorem dX8_choose_107 : decode cX8_choose 107 = .ok (.aload_n 0, 1) := by decide +kernel
theorem dX8_choose_108 : decode cX8_choose 108 = .ok (.getfield 55, 3) := by decide +kernel
theorem dX8_choose_111 : decode cX8_choose 111 = .ok (.aload_n 0, 1) := by decide +kernel
theorem dX8_choose_112 : decode cX8_choose 112 = .ok (.getfield 67, 3) := by decide +kernel
theorem dX8_choose_115 : decode cX8_choose 115 = .ok (.if_icmp .ge 4, 3) := by decide +kernel
theorem dX8_choose_118 : decode cX8_choose 118 = .ok (.return_, 1) := by decide +kernel
theorem dX8_choose_119 : decode cX8_choose 119 = .ok (.aload_n 0, 1) := by decide +kernel
theorem dX8_choose_120 : decode cX8_choose 120 = .ok (.aload_n 1, 1) := by decide +kernel
theorem dX8_choose_121 : decode cX8_choose 121 = .ok (.iconst 2, 1) := by decide +kernel
theorem dX8_choose_122 : decode cX8_choose 122 = .ok (.invokevirtual 317, 3) := by decide +kernel
theorem dX8_choose_125 : decode cX8_choose 125 = .ok (.aload_n 0, 1) := by decide +kernel
theorem dX8_choose_126 : decode cX8_choose 126 = .ok (.invokevirtual 324, 3) := by decide +kernel
theorem dX8_choose_129 : decode cX8_choose 129 = .ok (.return_, 1) := by decide +kernel
theorem dX8_activate_0 : decode cX8_activate 0 = .ok (.aload_n 0, 1) := by decide +kernel
theorem dX8_activate_1 : decode cX8_activate 1 = .ok (.getfield 26, 3) := by decide +kernel
theorem dX8_activate_4 : decode cX8_activate 4 = .ok (.getfield 112, 3) := by decide +kernel
theorem dX8_activate_7 : decode cX8_activate 7 = .ok (.ifCond .ne 4, 3) := by decide +kernel
theorem dX8_activate_10 : decode cX8_activate 10 = .ok (.return_, 1) := by decide +kernel
theorem dX8_activate_11 : decode cX8_activate 11 = .ok (.aload_n 0, 1) := by decide +kernel
theorem dX8_activate_12 : decode cX8_activate 12 = .ok (.invokevirtual 327, 3) := by decide +kernel
theorem dX8_activate_15 : decode cX8_activate 15 = .ok (.fstore_n 1, 1) := by decide +kernel
theorem dX8_activate_16 : decode cX8_activate 16 = .ok (.aload_n 0, 1) := by decide +kernel
theorem dX8_activate_17 : decode cX8_activate 17 = .ok (.fload_n 1, 1) := by decide +kernel
theorem dX8_activate_18 : decode cX8_activate 18 = .ok (.aload_n 0, 1) := by decide +kernel
theorem dX8_activate_19 : decode cX8_activate 19 = .ok (.getfield 48, 3) := by decide +kernel
theorem dX8_activate_22 : decode cX8_activate 22 = .ok (.fcmp .l, 1) := by decide +kernel
theorem dX8_activate_23 : decode cX8_activate 23 = .ok (.ifCond .le 7, 3) := by decide +kernel
theorem dX8_activate_26 : decode cX8_activate 26 = .ok (.fload_n 1, 1) := by decide +kernel
theorem dX8_activate_27 : decode cX8_activate 27 = .ok (.goto 7, 3) := by decide +kernel
theorem dX8_activate_30 : decode cX8_activate 30 = .ok (.aload_n 0, 1) := by decide +kernel
theorem dX8_activate_31 : decode cX8_activate 31 = .ok (.getfield 48, 3) := by decide +kernel
theorem dX8_activate_34 : decode cX8_activate 34 = .ok (.putfield 48, 3) := by decide +kernel
theorem dX8_activate_37 : decode cX8_activate 37 = .ok (.iconst (-1), 1) := by decide +kernel
theorem dX8_activate_38 : decode cX8_activate 38 = .ok (.istore_n 2, 1) := by decide +kernel
theorem dX8_activate_39 : decode cX8_activate 39 = .ok (.iconst 0, 1) := by decide +kernel
theorem dX8_activate_40 : decode cX8_activate 40 = .ok (.istore_n 3, 1) := by decide +kernel
theorem dX8_activate_41 : decode cX8_activate 41 = .ok (.iload_n 3, 1) := by decide +kernel
theorem dX8_activate_42 : decode cX8_activate 42 = .ok (.aload_n 0, 1) := by decide +kernel
theorem dX8_activate_43 : decode cX8_activate 43 = .ok (.getfield 85, 3) := by decide +kernel
theorem dX8_activate_46 : decode cX8_activate 46 = .ok (.getfield 130, 3) := by decide +kernel
theorem dX8_activate_49 : decode cX8_activate 49 = .ok (.if_icmp .ge 66, 3) := by decide +kernel
theorem dX8_activate_52 : decode cX8_activate 52 = .ok (.aload_n 0, 1) := by decide +kernel
theorem dX8_activate_53 : decode cX8_activate 53 = .ok (.getfield 19, 3) := by decide +kernel
theorem dX8_activate_56 : decode cX8_activate 56 = .ok (.iload_n 3, 1) := by decide +kernel
theorem dX8_activate_57 : decode cX8_activate 57 = .ok (.aaload, 1) := by decide +kernel
theorem dX8_activate_58 : decode cX8_activate 58 = .ok (.getfield 153, 3) := by decide +kernel
theorem dX8_activate_61 : decode cX8_activate 61 = .ok (.ifCond .le 48, 3) := by decide +kernel
theorem dX8_activate_64 : decode cX8_activate 64 = .ok (.aload_n 0, 1) := by decide +kernel
theorem dX8_activate_65 : decode cX8_activate 65 = .ok (.getfield 19, 3) := by decide +kernel
theorem dX8_activate_68 : decode cX8_activate 68 = .ok (.iload_n 3, 1) := by decide +kernel
theorem dX8_activate_69 : decode cX8_activate 69 = .ok (.aaload, 1) := by decide +kernel
theorem dX8_activate_70 : decode cX8_activate 70 = .ok (.getfield 304, 3) := by decide +kernel
theorem dX8_activate_73 : decode cX8_activate 73 = .ok (.aload_n 0, 1) := by decide +kernel
theorem dX8_activate_74 : decode cX8_activate 74 = .ok (.getfield 48, 3) := by decide +kernel
theorem dX8_activate_77 : decode cX8_activate 77 = .ok (.fcmp .g, 1) := by decide +kernel
theorem dX8_activate_78 : decode cX8_activate 78 = .ok (.ifCond .gt 31, 3) := by decide +kernel
theorem dX8_activate_81 : decode cX8_activate 81 = .ok (.iload_n 2, 1) := by decide +kernel
theorem dX8_activate_82 : decode cX8_activate 82 = .ok (.ifCond .lt 25, 3) := by decide +kernel
theorem dX8_activate_85 : decode cX8_activate 85 = .ok (.aload_n 0, 1) := by decide +kernel
theorem dX8_activate_86 : decode cX8_activate 86 = .ok (.getfield 19, 3) := by decide +kernel
theorem dX8_activate_89 : decode cX8_activate 89 = .ok (.iload_n 3, 1) := by decide +kernel
theorem dX8_activate_90 : decode cX8_activate 90 = .ok (.aaload, 1) := by decide +kernel
theorem dX8_activate_91 : decode cX8_activate 91 = .ok (.getfield 301, 3) := by decide +kernel
theorem dX8_activate_94 : decode cX8_activate 94 = .ok (.aload_n 0, 1) := by decide +kernel
theorem dX8_activate_95 : decode cX8_activate 95 = .ok (.getfield 19, 3) := by decide +kernel
theorem dX8_activate_98 : decode cX8_activate 98 = .ok (.iload_n 2, 1) := by decide +kernel
theorem dX8_activate_99 : decode cX8_activate 99 = .ok (.aaload, 1) := by decide +kernel
theorem dX8_activate_100 : decode cX8_activate 100 = .ok (.getfield 301, 3) := by decide +kernel
theorem dX8_activate_103 : decode cX8_activate 103 = .ok (.fcmp .g, 1) := by decide +kernel
theorem dX8_activate_104 : decode cX8_activate 104 = .ok (.ifCond .ge 5, 3) := by decide +kernel
theorem dX8_activate_107 : decode cX8_activate 107 = .ok (.iload_n 3, 1) := by decide +kernel
theorem dX8_activate_108 : decode cX8_activate 108 = .ok (.istore_n 2, 1) := by decide +kernel
theorem dX8_activate_109 : decode cX8_activate 109 = .ok (.iinc 3 1, 3) := by decide +kernel
theorem dX8_activate_112 : decode cX8_activate 112 = .ok (.goto (-71), 3) := by decide +kernel
theorem dX8_activate_115 : decode cX8_activate 115 = .ok (.iload_n 2, 1) := by decide +kernel
theorem dX8_activate_116 : decode cX8_activate 116 = .ok (.ifCond .lt 37, 3) := by decide +kernel
theorem dX8_activate_119 : decode cX8_activate 119 = .ok (.aload_n 0, 1) := by decide +kernel
theorem dX8_activate_120 : decode cX8_activate 120 = .ok (.iload_n 2, 1) := by decide +kernel
theorem dX8_activate_121 : decode cX8_activate 121 = .ok (.putfield 58, 3) := by decide +kernel
theorem dX8_activate_124 : decode cX8_activate 124 = .ok (.aload_n 0, 1) := by decide +kernel
theorem dX8_activate_125 : decode cX8_activate 125 = .ok (.aload_n 0, 1) := by decide +kernel
theorem dX8_activate_126 : decode cX8_activate 126 = .ok (.getfield 55, 3) := by decide +kernel
theorem dX8_activate_129 : decode cX8_activate 129 = .ok (.putfield 61, 3) := by decide +kernel
theorem dX8_activate_132 : decode cX8_activate 132 = .ok (.aload_n 0, 1) := by decide +kernel
theorem dX8_activate_133 : decode cX8_activate 133 = .ok (.iconst 0, 1) := by decide +kernel
theorem dX8_activate_134 : decode cX8_activate 134 = .ok (.putfield 64, 3) := by decide +kernel
theorem dX8_activate_137 : decode cX8_activate 137 = .ok (.aload_n 0, 1) := by decide +kernel
theorem dX8_activate_138 : decode cX8_activate 138 = .ok (.aload_n 0, 1) := by decide +kernel
theorem dX8_activate_139 : decode cX8_activate 139 = .ok (.getfield 26, 3) := by decide +kernel
theorem dX8_activate_142 : decode cX8_activate 142 = .ok (.iload_n 2, 1) := by decide +kernel
theorem dX8_activate_143 : decode cX8_activate 143 = .ok (.aload_n 0, 1) := by decide +kernel
theorem dX8_activate_144 : decode cX8_activate 144 = .ok (.getfield 45, 3) := by decide +kernel
theorem dX8_activate_147 : decode cX8_activate 147 = .ok (.invokevirtual 314, 3) := by decide +kernel
theorem dX8_activate_150 : decode cX8_activate 150 = .ok (.invokevirtual 321, 3) := by decide +kernel
theorem dX8_activate_153 : decode cX8_activate 153 = .ok (.return_, 1) := by decide +kernel
theorem dX8_leastStart_0 : decode cX8_leastStart 0 = .ok (.fconst 0, 1) := by decide +kernel
theorem dX8_leastStart_1 : decode cX8_leastStart 1 = .ok (.fstore_n 1, 1) := by decide +kernel
theorem dX8_leastStart_2 : decode cX8_leastStart 2 = .ok (.iconst 0, 1) := by decide +kernel
theorem dX8_leastStart_3 : decode cX8_leastStart 3 = .ok (.istore_n 2, 1) := by decide +kernel
theorem dX8_leastStart_4 : decode cX8_leastStart 4 = .ok (.iconst 0, 1) := by decide +kernel
theorem dX8_leastStart_5 : decode cX8_leastStart 5 = .ok (.istore_n 3, 1) := by decide +kernel
theorem dX8_leastStart_6 : decode cX8_leastStart 6 = .ok (.iload_n 3, 1) := by decide +kernel
theorem dX8_leastStart_7 : decode cX8_leastStart 7 = .ok (.aload_n 0, 1) := by decide +kernel
theorem dX8_leastStart_8 : decode cX8_leastStart 8 = .ok (.getfield 85, 3) := by decide +kernel
theorem dX8_leastStart_11 : decode cX8_leastStart 11 = .ok (.getfield 130, 3) := by decide +kernel
theorem dX8_leastStart_14 : decode cX8_leastStart 14 = .ok (.if_icmp .ge 51, 3) := by decide +kernel
theorem dX8_leastStart_17 : decode cX8_leastStart 17 = .ok (.aload_n 0, 1) := by decide +kernel
theorem dX8_leastStart_18 : decode cX8_leastStart 18 = .ok (.getfield 19, 3) := by decide +kernel
theorem dX8_leastStart_21 : decode cX8_leastStart 21 = .ok (.iload_n 3, 1) := by decide +kernel
theorem dX8_leastStart_22 : decode cX8_leastStart 22 = .ok (.aaload, 1) := by decide +kernel
theorem dX8_leastStart_23 : decode cX8_leastStart 23 = .ok (.getfield 153, 3) := by decide +kernel
theorem dX8_leastStart_26 : decode cX8_leastStart 26 = .ok (.ifCond .le 33, 3) := by decide +kernel
theorem dX8_leastStart_29 : decode cX8_leastStart 29 = .ok (.iload_n 2, 1) := by decide +kernel
theorem dX8_leastStart_30 : decode cX8_leastStart 30 = .ok (.ifCond .eq 17, 3) := by decide +kernel
theorem dX8_leastStart_33 : decode cX8_leastStart 33 = .ok (.aload_n 0, 1) := by decide +kernel
theorem dX8_leastStart_34 : decode cX8_leastStart 34 = .ok (.getfield 19, 3) := by decide +kernel
theorem dX8_leastStart_37 : decode cX8_leastStart 37 = .ok (.iload_n 3, 1) := by decide +kernel
theorem dX8_leastStart_38 : decode cX8_leastStart 38 = .ok (.aaload, 1) := by decide +kernel
theorem dX8_leastStart_39 : decode cX8_leastStart 39 = .ok (.getfield 304, 3) := by decide +kernel
theorem dX8_leastStart_42 : decode cX8_leastStart 42 = .ok (.fload_n 1, 1) := by decide +kernel
theorem dX8_leastStart_43 : decode cX8_leastStart 43 = .ok (.fcmp .g, 1) := by decide +kernel
theorem dX8_leastStart_44 : decode cX8_leastStart 44 = .ok (.ifCond .ge 15, 3) := by decide +kernel
theorem dX8_leastStart_47 : decode cX8_leastStart 47 = .ok (.aload_n 0, 1) := by decide +kernel
theorem dX8_leastStart_48 : decode cX8_leastStart 48 = .ok (.getfield 19, 3) := by decide +kernel
theorem dX8_leastStart_51 : decode cX8_leastStart 51 = .ok (.iload_n 3, 1) := by decide +kernel
theorem dX8_leastStart_52 : decode cX8_leastStart 52 = .ok (.aaload, 1) := by decide +kernel
theorem dX8_leastStart_53 : decode cX8_leastStart 53 = .ok (.getfield 304, 3) := by decide +kernel
theorem dX8_leastStart_56 : decode cX8_leastStart 56 = .ok (.fstore_n 1, 1) := by decide +kernel
theorem dX8_leastStart_57 : decode cX8_leastStart 57 = .ok (.iconst 1, 1) := by decide +kernel
theorem dX8_leastStart_58 : decode cX8_leastStart 58 = .ok (.istore_n 2, 1) := by decide +kernel
theorem dX8_leastStart_59 : decode cX8_leastStart 59 = .ok (.iinc 3 1, 3) := by decide +kernel
theorem dX8_leastStart_62 : decode cX8_leastStart 62 = .ok (.goto (-56), 3) := by decide +kernel
theorem dX8_leastStart_65 : decode cX8_leastStart 65 = .ok (.fload_n 1, 1) := by decide +kernel
theorem dX8_leastStart_66 : decode cX8_leastStart 66 = .ok (.freturn, 1) := by decide +kernel
theorem dX8_go_0 : decode cX8_go 0 = .ok (.iload_n 1, 1) := by decide +kernel
theorem dX8_go_1 : decode cX8_go 1 = .ok (.ifCond .lt 20, 3) := by decide +kernel
theorem dX8_go_4 : decode cX8_go 4 = .ok (.iload_n 1, 1) := by decide +kernel
theorem dX8_go_5 : decode cX8_go 5 = .ok (.bipush 6, 2) := by decide +kernel
theorem dX8_go_7 : decode cX8_go 7 = .ok (.iadd, 1) := by decide +kernel
theorem dX8_go_8 : decode cX8_go 8 = .ok (.aload_n 0, 1) := by decide +kernel
theorem dX8_go_9 : decode cX8_go 9 = .ok (.getfield 26, 3) := by decide +kernel
theorem dX8_go_12 : decode cX8_go 12 = .ok (.getfield 112, 3) := by decide +kernel
theorem dX8_go_15 : decode cX8_go 15 = .ok (.bipush 6, 2) := by decide +kernel
theorem dX8_go_17 : decode cX8_go 17 = .ok (.imul, 1) := by decide +kernel
theorem dX8_go_18 : decode cX8_go 18 = .ok (.if_icmp .le 4, 3) := by decide +kernel
theorem dX8_go_21 : decode cX8_go 21 = .ok (.return_, 1) := by decide +kernel
theorem dX8_go_22 : decode cX8_go 22 = .ok (.aload_n 0, 1) := by decide +kernel
theorem dX8_go_23 : decode cX8_go 23 = .ok (.getfield 26, 3) := by decide +kernel
theorem dX8_go_26 : decode cX8_go 26 = .ok (.iload_n 1, 1) := by decide +kernel
theorem dX8_go_27 : decode cX8_go 27 = .ok (.aload_n 0, 1) := by decide +kernel
theorem dX8_go_28 : decode cX8_go 28 = .ok (.getfield 30, 3) := by decide +kernel
theorem dX8_go_31 : decode cX8_go 31 = .ok (.invokevirtual 331, 3) := by decide +kernel
theorem dX8_go_34 : decode cX8_go 34 = .ok (.aload_n 0, 1) := by decide +kernel
theorem dX8_go_35 : decode cX8_go 35 = .ok (.getfield 19, 3) := by decide +kernel
theorem dX8_go_38 : decode cX8_go 38 = .ok (.aload_n 0, 1) := by decide +kernel
theorem dX8_go_39 : decode cX8_go 39 = .ok (.getfield 58, 3) := by decide +kernel
theorem dX8_go_42 : decode cX8_go 42 = .ok (.aaload, 1) := by decide +kernel
theorem dX8_go_43 : decode cX8_go 43 = .ok (.dup, 1) := by decide +kernel
theorem dX8_go_44 : decode cX8_go 44 = .ok (.getfield 153, 3) := by decide +kernel
theorem dX8_go_47 : decode cX8_go 47 = .ok (.iconst 1, 1) := by decide +kernel
theorem dX8_go_48 : decode cX8_go 48 = .ok (.isub, 1) := by decide +kernel
theorem dX8_go_49 : decode cX8_go 49 = .ok (.putfield 153, 3) := by decide +kernel
theorem dX8_go_52 : decode cX8_go 52 = .ok (.aload_n 0, 1) := by decide +kernel
theorem dX8_go_53 : decode cX8_go 53 = .ok (.getfield 30, 3) := by decide +kernel
theorem dX8_go_56 : decode cX8_go 56 = .ok (.iconst 0, 1) := by decide +kernel
theorem dX8_go_57 : decode cX8_go 57 = .ok (.iaload, 1) := by decide +kernel
theorem dX8_go_58 : decode cX8_go 58 = .ok (.aload_n 0, 1) := by decide +kernel
theorem dX8_go_59 : decode cX8_go 59 = .ok (.getfield 45, 3) := by decide +kernel
theorem dX8_go_62 : decode cX8_go 62 = .ok (.isub, 1) := by decide +kernel
theorem dX8_go_63 : decode cX8_go 63 = .ok (.invokestatic 335, 3) := by decide +kernel
theorem dX8_go_66 : decode cX8_go 66 = .ok (.istore_n 2, 1) := by decide +kernel
theorem dX8_go_67 : decode cX8_go 67 = .ok (.aload_n 0, 1) := by decide +kernel
theorem dX8_go_68 : decode cX8_go 68 = .ok (.iload_n 2, 1) := by decide +kernel
theorem dX8_go_69 : decode cX8_go 69 = .ok (.aload_n 0, 1) := by decide +kernel
theorem dX8_go_70 : decode cX8_go 70 = .ok (.getfield 85, 3) := by decide +kernel
theorem dX8_go_73 : decode cX8_go 73 = .ok (.getfield 338, 3) := by decide +kernel
theorem dX8_go_76 : decode cX8_go 76 = .ok (.invokestatic 341, 3) := by decide +kernel
theorem dX8_go_79 : decode cX8_go 79 = .ok (.aload_n 0, 1) := by decide +kernel
theorem dX8_go_80 : decode cX8_go 80 = .ok (.getfield 30, 3) := by decide +kernel
theorem dX8_go_83 : decode cX8_go 83 = .ok (.iconst 1, 1) := by decide +kernel
theorem dX8_go_84 : decode cX8_go 84 = .ok (.iaload, 1) := by decide +kernel
theorem dX8_go_85 : decode cX8_go 85 = .ok (.aload_n 0, 1) := by decide +kernel
theorem dX8_go_86 : decode cX8_go 86 = .ok (.getfield 85, 3) := by decide +kernel
theorem dX8_go_89 : decode cX8_go 89 = .ok (.getfield 118, 3) := by decide +kernel
theorem dX8_go_92 : decode cX8_go 92 = .ok (.invokestatic 341, 3) := by decide +kernel
theorem dX8_go_95 : decode cX8_go 95 = .ok (.iadd, 1) := by decide +kernel
theorem dX8_go_96 : decode cX8_go 96 = .ok (.putfield 41, 3) := by decide +kernel
theorem dX8_go_99 : decode cX8_go 99 = .ok (.return_, 1) := by decide +kernel
theorem dX8_roundedUp_0 : decode cX8_roundedUp 0 = .ok (.iload_n 1, 1) := by decide +kernel
theorem dX8_roundedUp_1 : decode cX8_roundedUp 1 = .ok (.iconst 1, 1) := by decide +kernel
theorem dX8_roundedUp_2 : decode cX8_roundedUp 2 = .ok (.if_icmp .ge 7, 3) := by decide +kernel
theorem dX8_roundedUp_5 : decode cX8_roundedUp 5 = .ok (.iload_n 0, 1) := by decide +kernel
theorem dX8_roundedUp_6 : decode cX8_roundedUp 6 = .ok (.goto 10, 3) := by decide +kernel
theorem dX8_roundedUp_9 : decode cX8_roundedUp 9 = .ok (.iload_n 0, 1) := by decide +kernel
theorem dX8_roundedUp_10 : decode cX8_roundedUp 10 = .ok (.iload_n 1, 1) := by decide +kernel
theorem dX8_roundedUp_11 : decode cX8_roundedUp 11 = .ok (.iadd, 1) := by decide +kernel
theorem dX8_roundedUp_12 : decode cX8_roundedUp 12 = .ok (.iconst 1, 1) := by decide +kernel
theorem dX8_roundedUp_13 : decode cX8_roundedUp 13 = .ok (.isub, 1) := by decide +kernel
theorem dX8_roundedUp_14 : decode cX8_roundedUp 14 = .ok (.iload_n 1, 1) := by decide +kernel
theorem dX8_roundedUp_15 : decode cX8_roundedUp 15 = .ok (.idiv, 1) := by decide +kernel
theorem dX8_roundedUp_16 : decode cX8_roundedUp 16 = .ok (.ireturn, 1) := by decide +kernel
theorem dX8_expire_0 : decode cX8_expire 0 = .ok (.aload_n 0, 1) := by decide +kernel
theorem dX8_expire_1 : decode cX8_expire 1 = .ok (.getfield 55, 3) := by decide +kernel
theorem dX8_expire_4 : decode cX8_expire 4 = .ok (.aload_n 0, 1) := by decide +kernel
theorem dX8_expire_5 : decode cX8_expire 5 = .ok (.getfield 61, 3) := by decide +kernel
theorem dX8_expire_8 : decode cX8_expire 8 = .ok (.isub, 1) := by decide +kernel
theorem dX8_expire_9 : decode cX8_expire 9 = .ok (.istore_n 3, 1) := by decide +kernel
theorem dX8_expire_10 : decode cX8_expire 10 = .ok (.iload_n 3, 1) := by decide +kernel
theorem dX8_expire_11 : decode cX8_expire 11 = .ok (.ifCond .le 28, 3) := by decide +kernel
theorem dX8_expire_14 : decode cX8_expire 14 = .ok (.aload_n 0, 1) := by decide +kernel
theorem dX8_expire_15 : decode cX8_expire 15 = .ok (.aload_n 0, 1) := by decide +kernel
theorem dX8_expire_16 : decode cX8_expire 16 = .ok (.getfield 52, 3) := by decide +kernel
theorem dX8_expire_19 : decode cX8_expire 19 = .ok (.ldc_w 344, 3) := by decide +kernel
theorem dX8_expire_22 : decode cX8_expire 22 = .ok (.fmul, 1) := by decide +kernel
theorem dX8_expire_23 : decode cX8_expire 23 = .ok (.aload_n 0, 1) := by decide +kernel
theorem dX8_expire_24 : decode cX8_expire 24 = .ok (.getfield 64, 3) := by decide +kernel
theorem dX8_expire_27 : decode cX8_expire 27 = .ok (.i2f, 1) := by decide +kernel
theorem dX8_expire_28 : decode cX8_expire 28 = .ok (.iload_n 3, 1) := by decide +kernel
theorem dX8_expire_29 : decode cX8_expire 29 = .ok (.i2f, 1) := by decide +kernel
theorem dX8_expire_30 : decode cX8_expire 30 = .ok (.fdiv, 1) := by decide +kernel
theorem dX8_expire_31 : decode cX8_expire 31 = .ok (.ldc_w 345, 3) := by decide +kernel
theorem dX8_expire_34 : decode cX8_expire 34 = .ok (.fmul, 1) := by decide +kernel
theorem dX8_expire_35 : decode cX8_expire 35 = .ok (.fadd, 1) := by decide +kernel
theorem dX8_expire_36 : decode cX8_expire 36 = .ok (.putfield 52, 3) := by decide +kernel
theorem dX8_expire_39 : decode cX8_expire 39 = .ok (.aload_n 0, 1) := by decide +kernel
theorem dX8_expire_40 : decode cX8_expire 40 = .ok (.aload_n 0, 1) := by decide +kernel
theorem dX8_expire_41 : decode cX8_expire 41 = .ok (.getfield 52, 3) := by decide +kernel
theorem dX8_expire_44 : decode cX8_expire 44 = .ok (.aload_n 0, 1) := by decide +kernel
theorem dX8_expire_45 : decode cX8_expire 45 = .ok (.getfield 76, 3) := by decide +kernel
theorem dX8_expire_48 : decode cX8_expire 48 = .ok (.i2f, 1) := by decide +kernel
theorem dX8_expire_49 : decode cX8_expire 49 = .ok (.fmul, 1) := by decide +kernel
theorem dX8_expire_50 : decode cX8_expire 50 = .ok (.f2i, 1) := by decide +kernel
theorem dX8_expire_51 : decode cX8_expire 51 = .ok (.aload_n 0, 1) := by decide +kernel
theorem dX8_expire_52 : decode cX8_expire 52 = .ok (.getfield 85, 3) := by decide +kernel
theorem dX8_expire_55 : decode cX8_expire 55 = .ok (.getfield 103, 3) := by decide +kernel
theorem dX8_expire_58 : decode cX8_expire 58 = .ok (.aload_n 0, 1) := by decide +kernel
theorem dX8_expire_59 : decode cX8_expire 59 = .ok (.getfield 85, 3) := by decide +kernel
theorem dX8_expire_62 : decode cX8_expire 62 = .ok (.getfield 106, 3) := by decide +kernel
theorem dX8_expire_65 : decode cX8_expire 65 = .ok (.invokestatic 346, 3) := by decide +kernel
theorem dX8_expire_68 : decode cX8_expire 68 = .ok (.putfield 70, 3) := by decide +kernel
theorem dX8_expire_71 : decode cX8_expire 71 = .ok (.aload_n 1, 1) := by decide +kernel
theorem dX8_expire_72 : decode cX8_expire 72 = .ok (.aload_n 0, 1) := by decide +kernel
theorem dX8_expire_73 : decode cX8_expire 73 = .ok (.aload_n 1, 1) := by decide +kernel
theorem dX8_expire_74 : decode cX8_expire 74 = .ok (.getfield 307, 3) := by decide +kernel
theorem dX8_expire_77 : decode cX8_expire 77 = .ok (.iload_n 2, 1) := by decide +kernel
theorem dX8_expire_78 : decode cX8_expire 78 = .ok (.invokevirtual 350, 3) := by decide +kernel
theorem dX8_expire_81 : decode cX8_expire 81 = .ok (.aload_n 0, 1) := by decide +kernel
theorem dX8_expire_82 : decode cX8_expire 82 = .ok (.getfield 85, 3) := by decide +kernel
theorem dX8_expire_85 : decode cX8_expire 85 = .ok (.getfield 103, 3) := by decide +kernel
theorem dX8_expire_88 : decode cX8_expire 88 = .ok (.aload_n 0, 1) := by decide +kernel
theorem dX8_expire_89 : decode cX8_expire 89 = .ok (.getfield 70, 3) := by decide +kernel
theorem dX8_expire_92 : decode cX8_expire 92 = .ok (.invokestatic 346, 3) := by decide +kernel
theorem dX8_expire_95 : decode cX8_expire 95 = .ok (.putfield 307, 3) := by decide +kernel
theorem dX8_expire_98 : decode cX8_expire 98 = .ok (.aload_n 1, 1) := by decide +kernel
theorem dX8_expire_99 : decode cX8_expire 99 = .ok (.aload_n 0, 1) := by decide +kernel
theorem dX8_expire_100 : decode cX8_expire 100 = .ok (.aload_n 1, 1) := by decide +kernel
theorem dX8_expire_101 : decode cX8_expire 101 = .ok (.getfield 304, 3) := by decide +kernel
theorem dX8_expire_104 : decode cX8_expire 104 = .ok (.aload_n 0, 1) := by decide +kernel
theorem dX8_expire_105 : decode cX8_expire 105 = .ok (.getfield 64, 3) := by decide +kernel
theorem dX8_expire_108 : decode cX8_expire 108 = .ok (.aload_n 0, 1) := by decide +kernel
theorem dX8_expire_109 : decode cX8_expire 109 = .ok (.getfield 58, 3) := by decide +kernel
theorem dX8_expire_112 : decode cX8_expire 112 = .ok (.invokevirtual 310, 3) := by decide +kernel
theorem dX8_expire_115 : decode cX8_expire 115 = .ok (.putfield 304, 3) := by decide +kernel
theorem dX8_expire_118 : decode cX8_expire 118 = .ok (.aload_n 1, 1) := by decide +kernel
theorem dX8_expire_119 : decode cX8_expire 119 = .ok (.aload_n 1, 1) := by decide +kernel
theorem dX8_expire_120 : decode cX8_expire 120 = .ok (.getfield 153, 3) := by decide +kernel
theorem dX8_expire_123 : decode cX8_expire 123 = .ok (.ifCond .le 22, 3) := by decide +kernel
theorem dX8_expire_126 : decode cX8_expire 126 = .ok (.aload_n 0, 1) := by decide +kernel
theorem dX8_expire_127 : decode cX8_expire 127 = .ok (.aload_n 1, 1) := by decide +kernel
theorem dX8_expire_128 : decode cX8_expire 128 = .ok (.getfield 304, 3) := by decide +kernel
theorem dX8_expire_131 : decode cX8_expire 131 = .ok (.aload_n 1, 1) := by decide +kernel
theorem dX8_expire_132 : decode cX8_expire 132 = .ok (.getfield 307, 3) := by decide +kernel
theorem dX8_expire_135 : decode cX8_expire 135 = .ok (.aload_n 0, 1) := by decide +kernel
theorem dX8_expire_136 : decode cX8_expire 136 = .ok (.getfield 58, 3) := by decide +kernel
theorem dX8_expire_139 : decode cX8_expire 139 = .ok (.invokevirtual 310, 3) := by decide +kernel
theorem dX8_expire_142 : decode cX8_expire 142 = .ok (.goto 7, 3) := by decide +kernel
theorem dX8_expire_145 : decode cX8_expire 145 = .ok (.aload_n 1, 1) := by decide +kernel
theorem dX8_expire_146 : decode cX8_expire 146 = .ok (.getfield 304, 3) := by decide +kernel
theorem dX8_expire_149 : decode cX8_expire 149 = .ok (.putfield 301, 3) := by decide +kernel
theorem dX8_expire_152 : decode cX8_expire 152 = .ok (.aload_n 0, 1) := by decide +kernel
theorem dX8_expire_153 : decode cX8_expire 153 = .ok (.getfield 37, 3) := by decide +kernel
theorem dX8_expire_156 : decode cX8_expire 156 = .ok (.aload_n 0, 1) := by decide +kernel
theorem dX8_expire_157 : decode cX8_expire 157 = .ok (.getfield 55, 3) := by decide +kernel
theorem dX8_expire_160 : decode cX8_expire 160 = .ok (.aload_n 0, 1) := by decide +kernel
theorem dX8_expire_161 : decode cX8_expire 161 = .ok (.getfield 58, 3) := by decide +kernel
theorem dX8_expire_164 : decode cX8_expire 164 = .ok (.iload_n 2, 1) := by decide +kernel
theorem dX8_expire_165 : decode cX8_expire 165 = .ok (.aload_n 0, 1) := by decide +kernel
theorem dX8_expire_166 : decode cX8_expire 166 = .ok (.getfield 64, 3) := by decide +kernel
theorem dX8_expire_169 : decode cX8_expire 169 = .ok (.invokevirtual 353, 3) := by decide +kernel
theorem dX8_expire_172 : decode cX8_expire 172 = .ok (.aload_n 0, 1) := by decide +kernel
theorem dX8_expire_173 : decode cX8_expire 173 = .ok (.iconst (-1), 1) := by decide +kernel
theorem dX8_expire_174 : decode cX8_expire 174 = .ok (.putfield 58, 3) := by decide +kernel
theorem dX8_expire_177 : decode cX8_expire 177 = .ok (.return_, 1) := by decide +kernel
theorem dX8_wanted_0 : decode cX8_wanted 0 = .ok (.iload_n 2, 1) := by decide +kernel
theorem dX8_wanted_1 : decode cX8_wanted 1 = .ok (.lookupswitch 36 #[(0, 27), (1, 31)], 27) := by decide +kernel
theorem dX8_wanted_28 : decode cX8_wanted 28 = .ok (.iload_n 1, 1) := by decide +kernel
theorem dX8_wanted_29 : decode cX8_wanted 29 = .ok (.iconst 2, 1) := by decide +kernel
theorem dX8_wanted_30 : decode cX8_wanted 30 = .ok (.imul, 1) := by decide +kernel
theorem dX8_wanted_31 : decode cX8_wanted 31 = .ok (.ireturn, 1) := by decide +kernel
theorem dX8_wanted_32 : decode cX8_wanted 32 = .ok (.aload_n 0, 1) := by decide +kernel
theorem dX8_wanted_33 : decode cX8_wanted 33 = .ok (.getfield 64, 3) := by decide +kernel
theorem dX8_wanted_36 : decode cX8_wanted 36 = .ok (.ireturn, 1) := by decide +kernel
theorem dX8_wanted_37 : decode cX8_wanted 37 = .ok (.iload_n 1, 1) := by decide +kernel
theorem dX8_wanted_38 : decode cX8_wanted 38 = .ok (.iconst 2, 1) := by decide +kernel
theorem dX8_wanted_39 : decode cX8_wanted 39 = .ok (.idiv, 1) := by decide +kernel
theorem dX8_wanted_40 : decode cX8_wanted 40 = .ok (.aload_n 0, 1) := by decide +kernel
theorem dX8_wanted_41 : decode cX8_wanted 41 = .ok (.getfield 64, 3) := by decide +kernel
theorem dX8_wanted_44 : decode cX8_wanted 44 = .ok (.invokestatic 212, 3) := by decide +kernel
theorem dX8_wanted_47 : decode cX8_wanted 47 = .ok (.ireturn, 1) := by decide +kernel
theorem dX8_within_0 : decode cX8_within 0 = .ok (.iload_n 0, 1) := by decide +kernel
theorem dX8_within_1 : decode cX8_within 1 = .ok (.iload_n 1, 1) := by decide +kernel
theorem dX8_within_2 : decode cX8_within 2 = .ok (.invokestatic 212, 3) := by decide +kernel
theorem dX8_within_5 : decode cX8_within 5 = .ok (.iload_n 2, 1) := by decide +kernel
theorem dX8_within_6 : decode cX8_within 6 = .ok (.invokestatic 357, 3) := by decide +kernel
theorem dX8_within_9 : decode cX8_within 9 = .ok (.ireturn, 1) := by decide +kernel
