theorem dX12_readsOne_1 : decode cX12_readsOne 1 = .ok (.bipush 19, 2) := by decide +kernel
theorem dX12_readsOne_3 : decode cX12_readsOne 3 = .ok (.if_icmp .eq 9, 3) := by decide +kernel
theorem dX12_readsOne_6 : decode cX12_readsOne 6 = .ok (.iload_n 1, 1) := by decide +kernel
theorem dX12_readsOne_7 : decode cX12_readsOne 7 = .ok (.bipush 14, 2) := by decide +kernel
theorem dX12_readsOne_9 : decode cX12_readsOne 9 = .ok (.if_icmp .ne 19, 3) := by decide +kernel
theorem dX12_readsOne_12 : decode cX12_readsOne 12 = .ok (.aload_n 0, 1) := by decide +kernel
theorem dX12_readsOne_13 : decode cX12_readsOne 13 = .ok (.iload_n 1, 1) := by decide +kernel
theorem dX12_readsOne_14 : decode cX12_readsOne 14 = .ok (.bipush 14, 2) := by decide +kernel
theorem dX12_readsOne_16 : decode cX12_readsOne 16 = .ok (.if_icmp .ne 7, 3) := by decide +kernel
theorem dX12_readsOne_19 : decode cX12_readsOne 19 = .ok (.iconst 1, 1) := by decide +kernel
theorem dX12_readsOne_20 : decode cX12_readsOne 20 = .ok (.goto 4, 3) := by decide +kernel
theorem dX12_readsOne_23 : decode cX12_readsOne 23 = .ok (.iconst 0, 1) := by decide +kernel
theorem dX12_readsOne_24 : decode cX12_readsOne 24 = .ok (.invokevirtual 289, 3) := by decide +kernel
theorem dX12_readsOne_27 : decode cX12_readsOne 27 = .ok (.return_, 1) := by decide +kernel
theorem dX12_readsOne_28 : decode cX12_readsOne 28 = .ok (.iload_n 1, 1) := by decide +kernel
theorem dX12_readsOne_29 : decode cX12_readsOne 29 = .ok (.iconst 3, 1) := by decide +kernel
theorem dX12_readsOne_30 : decode cX12_readsOne 30 = .ok (.if_icmp .eq 36, 3) := by decide +kernel
theorem dX12_readsOne_33 : decode cX12_readsOne 33 = .ok (.iload_n 1, 1) := by decide +kernel
theorem dX12_readsOne_34 : decode cX12_readsOne 34 = .ok (.iconst 5, 1) := by decide +kernel
theorem dX12_readsOne_35 : decode cX12_readsOne 35 = .ok (.if_icmp .eq 31, 3) := by decide +kernel
theorem dX12_readsOne_38 : decode cX12_readsOne 38 = .ok (.iload_n 1, 1) := by decide +kernel
theorem dX12_readsOne_39 : decode cX12_readsOne 39 = .ok (.bipush 6, 2) := by decide +kernel
theorem dX12_readsOne_41 : decode cX12_readsOne 41 = .ok (.if_icmp .eq 25, 3) := by decide +kernel
theorem dX12_readsOne_44 : decode cX12_readsOne 44 = .ok (.iload_n 1, 1) := by decide +kernel
theorem dX12_readsOne_45 : decode cX12_readsOne 45 = .ok (.bipush 7, 2) := by decide +kernel
theorem dX12_readsOne_47 : decode cX12_readsOne 47 = .ok (.if_icmp .eq 19, 3) := by decide +kernel
theorem dX12_readsOne_50 : decode cX12_readsOne 50 = .ok (.iload_n 1, 1) := by decide +kernel
theorem dX12_readsOne_51 : decode cX12_readsOne 51 = .ok (.bipush 8, 2) := by decide +kernel
theorem dX12_readsOne_53 : decode cX12_readsOne 53 = .ok (.if_icmp .eq 13, 3) := by decide +kernel
theorem dX12_readsOne_56 : decode cX12_readsOne 56 = .ok (.aload_n 0, 1) := by decide +kernel
theorem dX12_readsOne_57 : decode cX12_readsOne 57 = .ok (.iconst 1, 1) := by decide +kernel
theorem dX12_readsOne_58 : decode cX12_readsOne 58 = .ok (.aload_n 0, 1) := by decide +kernel
theorem dX12_readsOne_59 : decode cX12_readsOne 59 = .ok (.getfield 147, 3) := by decide +kernel
theorem dX12_readsOne_62 : decode cX12_readsOne 62 = .ok (.invokevirtual 249, 3) := by decide +kernel
theorem dX12_readsOne_65 : decode cX12_readsOne 65 = .ok (.return_, 1) := by decide +kernel
theorem dX12_readsOne_66 : decode cX12_readsOne 66 = .ok (.aload_n 0, 1) := by decide +kernel
theorem dX12_readsOne_67 : decode cX12_readsOne 67 = .ok (.iload_n 1, 1) := by decide +kernel
theorem dX12_readsOne_68 : decode cX12_readsOne 68 = .ok (.invokevirtual 293, 3) := by decide +kernel
theorem dX12_readsOne_71 : decode cX12_readsOne 71 = .ok (.ifCond .ne 4, 3) := by decide +kernel
theorem dX12_readsOne_74 : decode cX12_readsOne 74 = .ok (.return_, 1) := by decide +kernel
theorem dX12_readsOne_75 : decode cX12_readsOne 75 = .ok (.iload_n 1, 1) := by decide +kernel
theorem dX12_readsOne_76 : decode cX12_readsOne 76 = .ok (.iconst 3, 1) := by decide +kernel
theorem dX12_readsOne_77 : decode cX12_readsOne 77 = .ok (.if_icmp .ne 34, 3) := by decide +kernel
theorem dX12_readsOne_80 : decode cX12_readsOne 80 = .ok (.aload_n 0, 1) := by decide +kernel
theorem dX12_readsOne_81 : decode cX12_readsOne 81 = .ok (.aload_n 0, 1) := by decide +kernel
theorem dX12_readsOne_82 : decode cX12_readsOne 82 = .ok (.iconst 1, 1) := by decide +kernel
theorem dX12_readsOne_83 : decode cX12_readsOne 83 = .ok (.sipush 999, 3) := by decide +kernel
theorem dX12_readsOne_86 : decode cX12_readsOne 86 = .ok (.invokevirtual 269, 3) := by decide +kernel
theorem dX12_readsOne_89 : decode cX12_readsOne 89 = .ok (.putfield 81, 3) := by decide +kernel
theorem dX12_readsOne_92 : decode cX12_readsOne 92 = .ok (.aload_n 0, 1) := by decide +kernel
theorem dX12_readsOne_93 : decode cX12_readsOne 93 = .ok (.aload_n 0, 1) := by decide +kernel
theorem dX12_readsOne_94 : decode cX12_readsOne 94 = .ok (.iconst 4, 1) := by decide +kernel
theorem dX12_readsOne_95 : decode cX12_readsOne 95 = .ok (.aload_n 0, 1) := by decide +kernel
theorem dX12_readsOne_96 : decode cX12_readsOne 96 = .ok (.getfield 81, 3) := by decide +kernel
theorem dX12_readsOne_99 : decode cX12_readsOne 99 = .ok (.sipush 999, 3) := by decide +kernel
theorem dX12_readsOne_102 : decode cX12_readsOne 102 = .ok (.invokevirtual 279, 3) := by decide +kernel
theorem dX12_readsOne_105 : decode cX12_readsOne 105 = .ok (.putfield 84, 3) := by decide +kernel
theorem dX12_readsOne_108 : decode cX12_readsOne 108 = .ok (.goto 103, 3) := by decide +kernel
theorem dX12_readsOne_111 : decode cX12_readsOne 111 = .ok (.iload_n 1, 1) := by decide +kernel
theorem dX12_readsOne_112 : decode cX12_readsOne 112 = .ok (.iconst 5, 1) := by decide +kernel
theorem dX12_readsOne_113 : decode cX12_readsOne 113 = .ok (.if_icmp .ne 17, 3) := by decide +kernel
theorem dX12_readsOne_116 : decode cX12_readsOne 116 = .ok (.aload_n 0, 1) := by decide +kernel
theorem dX12_readsOne_117 : decode cX12_readsOne 117 = .ok (.aload_n 0, 1) := by decide +kernel
theorem dX12_readsOne_118 : decode cX12_readsOne 118 = .ok (.iconst 0, 1) := by decide +kernel
theorem dX12_readsOne_119 : decode cX12_readsOne 119 = .ok (.bipush 20, 2) := by decide +kernel
theorem dX12_readsOne_121 : decode cX12_readsOne 121 = .ok (.invokevirtual 269, 3) := by decide +kernel
theorem dX12_readsOne_124 : decode cX12_readsOne 124 = .ok (.putfield 87, 3) := by decide +kernel
theorem dX12_readsOne_127 : decode cX12_readsOne 127 = .ok (.goto 84, 3) := by decide +kernel
theorem dX12_readsOne_130 : decode cX12_readsOne 130 = .ok (.iload_n 1, 1) := by decide +kernel
theorem dX12_readsOne_131 : decode cX12_readsOne 131 = .ok (.bipush 6, 2) := by decide +kernel
theorem dX12_readsOne_133 : decode cX12_readsOne 133 = .ok (.if_icmp .ne 18, 3) := by decide +kernel
theorem dX12_readsOne_136 : decode cX12_readsOne 136 = .ok (.aload_n 0, 1) := by decide +kernel
theorem dX12_readsOne_137 : decode cX12_readsOne 137 = .ok (.aload_n 0, 1) := by decide +kernel
theorem dX12_readsOne_138 : decode cX12_readsOne 138 = .ok (.iconst 1, 1) := by decide +kernel
theorem dX12_readsOne_139 : decode cX12_readsOne 139 = .ok (.sipush 200, 3) := by decide +kernel
theorem dX12_readsOne_142 : decode cX12_readsOne 142 = .ok (.invokevirtual 269, 3) := by decide +kernel
theorem dX12_readsOne_145 : decode cX12_readsOne 145 = .ok (.putfield 90, 3) := by decide +kernel
theorem dX12_readsOne_148 : decode cX12_readsOne 148 = .ok (.goto 63, 3) := by decide +kernel
theorem dX12_readsOne_151 : decode cX12_readsOne 151 = .ok (.iload_n 1, 1) := by decide +kernel
theorem dX12_readsOne_152 : decode cX12_readsOne 152 = .ok (.bipush 7, 2) := by decide +kernel
theorem dX12_readsOne_154 : decode cX12_readsOne 154 = .ok (.if_icmp .ne 18, 3) := by decide +kernel
theorem dX12_readsOne_157 : decode cX12_readsOne 157 = .ok (.aload_n 0, 1) := by decide +kernel
theorem dX12_readsOne_158 : decode cX12_readsOne 158 = .ok (.aload_n 0, 1) := by decide +kernel
theorem dX12_readsOne_159 : decode cX12_readsOne 159 = .ok (.iconst 0, 1) := by decide +kernel
theorem dX12_readsOne_160 : decode cX12_readsOne 160 = .ok (.sipush 999, 3) := by decide +kernel
theorem dX12_readsOne_163 : decode cX12_readsOne 163 = .ok (.invokevirtual 269, 3) := by decide +kernel
theorem dX12_readsOne_166 : decode cX12_readsOne 166 = .ok (.putfield 93, 3) := by decide +kernel
theorem dX12_readsOne_169 : decode cX12_readsOne 169 = .ok (.goto 42, 3) := by decide +kernel
theorem dX12_readsOne_172 : decode cX12_readsOne 172 = .ok (.aload_n 0, 1) := by decide +kernel
theorem dX12_readsOne_173 : decode cX12_readsOne 173 = .ok (.aload_n 0, 1) := by decide +kernel
theorem dX12_readsOne_174 : decode cX12_readsOne 174 = .ok (.iconst 1, 1) := by decide +kernel
theorem dX12_readsOne_175 : decode cX12_readsOne 175 = .ok (.bipush 20, 2) := by decide +kernel
theorem dX12_readsOne_177 : decode cX12_readsOne 177 = .ok (.invokevirtual 269, 3) := by decide +kernel
theorem dX12_readsOne_180 : decode cX12_readsOne 180 = .ok (.putfield 96, 3) := by decide +kernel
theorem dX12_readsOne_183 : decode cX12_readsOne 183 = .ok (.aload_n 0, 1) := by decide +kernel
theorem dX12_readsOne_184 : decode cX12_readsOne 184 = .ok (.aload_n 0, 1) := by decide +kernel
theorem dX12_readsOne_185 : decode cX12_readsOne 185 = .ok (.bipush 9, 2) := by decide +kernel
theorem dX12_readsOne_187 : decode cX12_readsOne 187 = .ok (.iconst 0, 1) := by decide +kernel
theorem dX12_readsOne_188 : decode cX12_readsOne 188 = .ok (.sipush 500, 3) := by decide +kernel
theorem dX12_readsOne_191 : decode cX12_readsOne 191 = .ok (.invokevirtual 279, 3) := by decide +kernel
theorem dX12_readsOne_194 : decode cX12_readsOne 194 = .ok (.putfield 99, 3) := by decide +kernel
theorem dX12_readsOne_197 : decode cX12_readsOne 197 = .ok (.aload_n 0, 1) := by decide +kernel
theorem dX12_readsOne_198 : decode cX12_readsOne 198 = .ok (.aload_n 0, 1) := by decide +kernel
theorem dX12_readsOne_199 : decode cX12_readsOne 199 = .ok (.bipush 10, 2) := by decide +kernel
theorem dX12_readsOne_201 : decode cX12_readsOne 201 = .ok (.iconst 1, 1) := by decide +kernel
theorem dX12_readsOne_202 : decode cX12_readsOne 202 = .ok (.sipush 999, 3) := by decide +kernel
theorem dX12_readsOne_205 : decode cX12_readsOne 205 = .ok (.invokevirtual 279, 3) := by decide +kernel
theorem dX12_readsOne_208 : decode cX12_readsOne 208 = .ok (.putfield 102, 3) := by decide +kernel
theorem dX12_readsOne_211 : decode cX12_readsOne 211 = .ok (.return_, 1) := by decide +kernel
theorem dX12_readsAll_0 : decode cX12_readsAll 0 = .ok (.aload_n 0, 1) := by decide +kernel
theorem dX12_readsAll_1 : decode cX12_readsAll 1 = .ok (.iconst 0, 1) := by decide +kernel
theorem dX12_readsAll_2 : decode cX12_readsAll 2 = .ok (.putfield 69, 3) := by decide +kernel
theorem dX12_readsAll_5 : decode cX12_readsAll 5 = .ok (.aload_n 0, 1) := by decide +kernel
theorem dX12_readsAll_6 : decode cX12_readsAll 6 = .ok (.bipush 8, 2) := by decide +kernel
theorem dX12_readsAll_8 : decode cX12_readsAll 8 = .ok (.putfield 81, 3) := by decide +kernel
theorem dX12_readsAll_11 : decode cX12_readsAll 11 = .ok (.aload_n 0, 1) := by decide +kernel
theorem dX12_readsAll_12 : decode cX12_readsAll 12 = .ok (.bipush 64, 2) := by decide +kernel
theorem dX12_readsAll_14 : decode cX12_readsAll 14 = .ok (.putfield 84, 3) := by decide +kernel
theorem dX12_readsAll_17 : decode cX12_readsAll 17 = .ok (.aload_n 0, 1) := by decide +kernel
theorem dX12_readsAll_18 : decode cX12_readsAll 18 = .ok (.iconst 4, 1) := by decide +kernel
theorem dX12_readsAll_19 : decode cX12_readsAll 19 = .ok (.putfield 87, 3) := by decide +kernel
theorem dX12_readsAll_22 : decode cX12_readsAll 22 = .ok (.aload_n 0, 1) := by decide +kernel
theorem dX12_readsAll_23 : decode cX12_readsAll 23 = .ok (.bipush 40, 2) := by decide +kernel
theorem dX12_readsAll_25 : decode cX12_readsAll 25 = .ok (.putfield 90, 3) := by decide +kernel
theorem dX12_readsAll_28 : decode cX12_readsAll 28 = .ok (.aload_n 0, 1) := by decide +kernel
theorem dX12_readsAll_29 : decode cX12_readsAll 29 = .ok (.bipush 16, 2) := by decide +kernel
theorem dX12_readsAll_31 : decode cX12_readsAll 31 = .ok (.putfield 93, 3) := by decide +kernel
theorem dX12_readsAll_34 : decode cX12_readsAll 34 = .ok (.aload_n 0, 1) := by decide +kernel
theorem dX12_readsAll_35 : decode cX12_readsAll 35 = .ok (.iconst 1, 1) := by decide +kernel
theorem dX12_readsAll_36 : decode cX12_readsAll 36 = .ok (.putfield 96, 3) := by decide +kernel
theorem dX12_readsAll_39 : decode cX12_readsAll 39 = .ok (.aload_n 0, 1) := by decide +kernel
theorem dX12_readsAll_40 : decode cX12_readsAll 40 = .ok (.iconst 0, 1) := by decide +kernel
theorem dX12_readsAll_41 : decode cX12_readsAll 41 = .ok (.putfield 99, 3) := by decide +kernel
theorem dX12_readsAll_44 : decode cX12_readsAll 44 = .ok (.aload_n 0, 1) := by decide +kernel
theorem dX12_readsAll_45 : decode cX12_readsAll 45 = .ok (.sipush 999, 3) := by decide +kernel
theorem dX12_readsAll_48 : decode cX12_readsAll 48 = .ok (.putfield 102, 3) := by decide +kernel
theorem dX12_readsAll_51 : decode cX12_readsAll 51 = .ok (.aload_n 0, 1) := by decide +kernel
theorem dX12_readsAll_52 : decode cX12_readsAll 52 = .ok (.iconst 0, 1) := by decide +kernel
theorem dX12_readsAll_53 : decode cX12_readsAll 53 = .ok (.putfield 105, 3) := by decide +kernel
theorem dX12_readsAll_56 : decode cX12_readsAll 56 = .ok (.aload_n 0, 1) := by decide +kernel
theorem dX12_readsAll_57 : decode cX12_readsAll 57 = .ok (.aload_n 0, 1) := by decide +kernel
theorem dX12_readsAll_58 : decode cX12_readsAll 58 = .ok (.iconst 0, 1) := by decide +kernel
theorem dX12_readsAll_59 : decode cX12_readsAll 59 = .ok (.bipush 64, 2) := by decide +kernel
theorem dX12_readsAll_61 : decode cX12_readsAll 61 = .ok (.sipush 9999, 3) := by decide +kernel
theorem dX12_readsAll_64 : decode cX12_readsAll 64 = .ok (.invokevirtual 279, 3) := by decide +kernel
theorem dX12_readsAll_67 : decode cX12_readsAll 67 = .ok (.putfield 72, 3) := by decide +kernel
theorem dX12_readsAll_70 : decode cX12_readsAll 70 = .ok (.aload_n 0, 1) := by decide +kernel
theorem dX12_readsAll_71 : decode cX12_readsAll 71 = .ok (.aload_n 0, 1) := by decide +kernel
theorem dX12_readsAll_72 : decode cX12_readsAll 72 = .ok (.iconst 1, 1) := by decide +kernel
theorem dX12_readsAll_73 : decode cX12_readsAll 73 = .ok (.iconst 1, 1) := by decide +kernel
theorem dX12_readsAll_74 : decode cX12_readsAll 74 = .ok (.sipush 500, 3) := by decide +kernel
theorem dX12_readsAll_77 : decode cX12_readsAll 77 = .ok (.invokevirtual 279, 3) := by decide +kernel
theorem dX12_readsAll_80 : decode cX12_readsAll 80 = .ok (.putfield 75, 3) := by decide +kernel
theorem dX12_readsAll_83 : decode cX12_readsAll 83 = .ok (.aload_n 0, 1) := by decide +kernel
theorem dX12_readsAll_84 : decode cX12_readsAll 84 = .ok (.aload_n 0, 1) := by decide +kernel
theorem dX12_readsAll_85 : decode cX12_readsAll 85 = .ok (.iconst 2, 1) := by decide +kernel
theorem dX12_readsAll_86 : decode cX12_readsAll 86 = .ok (.iconst 1, 1) := by decide +kernel
theorem dX12_readsAll_87 : decode cX12_readsAll 87 = .ok (.bipush 64, 2) := by decide +kernel
theorem dX12_readsAll_89 : decode cX12_readsAll 89 = .ok (.invokevirtual 279, 3) := by decide +kernel
theorem dX12_readsAll_92 : decode cX12_readsAll 92 = .ok (.putfield 78, 3) := by decide +kernel
theorem dX12_readsAll_95 : decode cX12_readsAll 95 = .ok (.aload_n 0, 1) := by decide +kernel
theorem dX12_readsAll_96 : decode cX12_readsAll 96 = .ok (.invokevirtual 296, 3) := by decide +kernel
theorem dX12_readsAll_99 : decode cX12_readsAll 99 = .ok (.iconst 1, 1) := by decide +kernel
theorem dX12_readsAll_100 : decode cX12_readsAll 100 = .ok (.istore_n 1, 1) := by decide +kernel
theorem dX12_readsAll_101 : decode cX12_readsAll 101 = .ok (.aload_n 0, 1) := by decide +kernel
theorem dX12_readsAll_102 : decode cX12_readsAll 102 = .ok (.invokevirtual 235, 3) := by decide +kernel
theorem dX12_readsAll_105 : decode cX12_readsAll 105 = .ok (.ifCond .eq 40, 3) := by decide +kernel
theorem dX12_readsAll_108 : decode cX12_readsAll 108 = .ok (.aload_n 0, 1) := by decide +kernel
theorem dX12_readsAll_109 : decode cX12_readsAll 109 = .ok (.invokevirtual 239, 3) := by decide +kernel
theorem dX12_readsAll_112 : decode cX12_readsAll 112 = .ok (.iconst (-1), 1) := by decide +kernel
theorem dX12_readsAll_113 : decode cX12_readsAll 113 = .ok (.if_icmp .eq 32, 3) := by decide +kernel
theorem dX12_readsAll_116 : decode cX12_readsAll 116 = .ok (.aload_n 0, 1) := by decide +kernel
theorem dX12_readsAll_117 : decode cX12_readsAll 117 = .ok (.invokevirtual 253, 3) := by decide +kernel
theorem dX12_readsAll_120 : decode cX12_readsAll 120 = .ok (.aload_n 0, 1) := by decide +kernel
theorem dX12_readsAll_121 : decode cX12_readsAll 121 = .ok (.invokevirtual 235, 3) := by decide +kernel
theorem dX12_readsAll_124 : decode cX12_readsAll 124 = .ok (.ifCond .eq 11, 3) := by decide +kernel
theorem dX12_readsAll_127 : decode cX12_readsAll 127 = .ok (.aload_n 0, 1) := by decide +kernel
theorem dX12_readsAll_128 : decode cX12_readsAll 128 = .ok (.aload_n 0, 1) := by decide +kernel
theorem dX12_readsAll_129 : decode cX12_readsAll 129 = .ok (.invokevirtual 256, 3) := by decide +kernel
theorem dX12_readsAll_132 : decode cX12_readsAll 132 = .ok (.invokevirtual 299, 3) := by decide +kernel
theorem dX12_readsAll_135 : decode cX12_readsAll 135 = .ok (.aload_n 0, 1) := by decide +kernel
theorem dX12_readsAll_136 : decode cX12_readsAll 136 = .ok (.invokevirtual 296, 3) := by decide +kernel
theorem dX12_readsAll_139 : decode cX12_readsAll 139 = .ok (.iinc 1 1, 3) := by decide +kernel
theorem dX12_readsAll_142 : decode cX12_readsAll 142 = .ok (.goto (-41), 3) := by decide +kernel
theorem dX12_readsAll_145 : decode cX12_readsAll 145 = .ok (.iload_n 1, 1) := by decide +kernel
theorem dX12_readsAll_146 : decode cX12_readsAll 146 = .ok (.ireturn, 1) := by decide +kernel
theorem dX12_tellsAll_0 : decode cX12_tellsAll 0 = .ok (.aload_n 0, 1) := by decide +kernel
theorem dX12_tellsAll_1 : decode cX12_tellsAll 1 = .ok (.iconst 1, 1) := by decide +kernel
theorem dX12_tellsAll_2 : decode cX12_tellsAll 2 = .ok (.putfield 7, 3) := by decide +kernel
theorem dX12_tellsAll_5 : decode cX12_tellsAll 5 = .ok (.aload_n 0, 1) := by decide +kernel
theorem dX12_tellsAll_6 : decode cX12_tellsAll 6 = .ok (.aload_n 0, 1) := by decide +kernel
theorem dX12_tellsAll_7 : decode cX12_tellsAll 7 = .ok (.getfield 69, 3) := by decide +kernel
theorem dX12_tellsAll_10 : decode cX12_tellsAll 10 = .ok (.putfield 13, 3) := by decide +kernel
theorem dX12_tellsAll_13 : decode cX12_tellsAll 13 = .ok (.aload_n 0, 1) := by decide +kernel
theorem dX12_tellsAll_14 : decode cX12_tellsAll 14 = .ok (.aload_n 0, 1) := by decide +kernel
theorem dX12_tellsAll_15 : decode cX12_tellsAll 15 = .ok (.getfield 72, 3) := by decide +kernel
theorem dX12_tellsAll_18 : decode cX12_tellsAll 18 = .ok (.putfield 17, 3) := by decide +kernel
theorem dX12_tellsAll_21 : decode cX12_tellsAll 21 = .ok (.aload_n 0, 1) := by decide +kernel
theorem dX12_tellsAll_22 : decode cX12_tellsAll 22 = .ok (.aload_n 0, 1) := by decide +kernel
theorem dX12_tellsAll_23 : decode cX12_tellsAll 23 = .ok (.getfield 75, 3) := by decide +kernel
theorem dX12_tellsAll_26 : decode cX12_tellsAll 26 = .ok (.putfield 20, 3) := by decide +kernel
theorem dX12_tellsAll_29 : decode cX12_tellsAll 29 = .ok (.aload_n 0, 1) := by decide +kernel
theorem dX12_tellsAll_30 : decode cX12_tellsAll 30 = .ok (.aload_n 0, 1) := by decide +kernel
theorem dX12_tellsAll_31 : decode cX12_tellsAll 31 = .ok (.getfield 78, 3) := by decide +kernel
theorem dX12_tellsAll_34 : decode cX12_tellsAll 34 = .ok (.putfield 23, 3) := by decide +kernel
theorem dX12_tellsAll_37 : decode cX12_tellsAll 37 = .ok (.aload_n 0, 1) := by decide +kernel
theorem dX12_tellsAll_38 : decode cX12_tellsAll 38 = .ok (.aload_n 0, 1) := by decide +kernel
theorem dX12_tellsAll_39 : decode cX12_tellsAll 39 = .ok (.getfield 81, 3) := by decide +kernel
theorem dX12_tellsAll_42 : decode cX12_tellsAll 42 = .ok (.putfield 26, 3) := by decide +kernel
theorem dX12_tellsAll_45 : decode cX12_tellsAll 45 = .ok (.aload_n 0, 1) := by decide +kernel
theorem dX12_tellsAll_46 : decode cX12_tellsAll 46 = .ok (.aload_n 0, 1) := by decide +kernel
theorem dX12_tellsAll_47 : decode cX12_tellsAll 47 = .ok (.getfield 84, 3) := by decide +kernel
theorem dX12_tellsAll_50 : decode cX12_tellsAll 50 = .ok (.putfield 29, 3) := by decide +kernel
theorem dX12_tellsAll_53 : decode cX12_tellsAll 53 = .ok (.aload_n 0, 1) := by decide +kernel
theorem dX12_tellsAll_54 : decode cX12_tellsAll 54 = .ok (.aload_n 0, 1) := by decide +kernel
theorem dX12_tellsAll_55 : decode cX12_tellsAll 55 = .ok (.getfield 93, 3) := by decide +kernel
theorem dX12_tellsAll_58 : decode cX12_tellsAll 58 = .ok (.putfield 32, 3) := by decide +kernel
theorem dX12_tellsAll_61 : decode cX12_tellsAll 61 = .ok (.aload_n 0, 1) := by decide +kernel
theorem dX12_tellsAll_62 : decode cX12_tellsAll 62 = .ok (.aload_n 0, 1) := by decide +kernel
theorem dX12_tellsAll_63 : decode cX12_tellsAll 63 = .ok (.getfield 96, 3) := by decide +kernel
theorem dX12_tellsAll_66 : decode cX12_tellsAll 66 = .ok (.putfield 35, 3) := by decide +kernel
theorem dX12_tellsAll_69 : decode cX12_tellsAll 69 = .ok (.aload_n 0, 1) := by decide +kernel
theorem dX12_tellsAll_70 : decode cX12_tellsAll 70 = .ok (.aload_n 0, 1) := by decide +kernel
theorem dX12_tellsAll_71 : decode cX12_tellsAll 71 = .ok (.getfield 99, 3) := by decide +kernel
theorem dX12_tellsAll_74 : decode cX12_tellsAll 74 = .ok (.putfield 38, 3) := by decide +kernel
theorem dX12_tellsAll_77 : decode cX12_tellsAll 77 = .ok (.aload_n 0, 1) := by decide +kernel
theorem dX12_tellsAll_78 : decode cX12_tellsAll 78 = .ok (.aload_n 0, 1) := by decide +kernel
theorem dX12_tellsAll_79 : decode cX12_tellsAll 79 = .ok (.getfield 102, 3) := by decide +kernel
theorem dX12_tellsAll_82 : decode cX12_tellsAll 82 = .ok (.putfield 41, 3) := by decide +kernel
theorem dX12_tellsAll_85 : decode cX12_tellsAll 85 = .ok (.aload_n 0, 1) := by decide +kernel
theorem dX12_tellsAll_86 : decode cX12_tellsAll 86 = .ok (.aload_n 0, 1) := by decide +kernel
theorem dX12_tellsAll_87 : decode cX12_tellsAll 87 = .ok (.getfield 87, 3) := by decide +kernel
theorem dX12_tellsAll_90 : decode cX12_tellsAll 90 = .ok (.putfield 44, 3) := by decide +kernel
theorem dX12_tellsAll_93 : decode cX12_tellsAll 93 = .ok (.aload_n 0, 1) := by decide +kernel
theorem dX12_tellsAll_94 : decode cX12_tellsAll 94 = .ok (.aload_n 0, 1) := by decide +kernel
theorem dX12_tellsAll_95 : decode cX12_tellsAll 95 = .ok (.getfield 90, 3) := by decide +kernel
theorem dX12_tellsAll_98 : decode cX12_tellsAll 98 = .ok (.putfield 47, 3) := by decide +kernel
theorem dX12_tellsAll_101 : decode cX12_tellsAll 101 = .ok (.iconst 0, 1) := by decide +kernel
theorem dX12_tellsAll_102 : decode cX12_tellsAll 102 = .ok (.istore_n 1, 1) := by decide +kernel
theorem dX12_tellsAll_103 : decode cX12_tellsAll 103 = .ok (.iload_n 1, 1) := by decide +kernel
theorem dX12_tellsAll_104 : decode cX12_tellsAll 104 = .ok (.aload_n 0, 1) := by decide +kernel
theorem dX12_tellsAll_105 : decode cX12_tellsAll 105 = .ok (.getfield 13, 3) := by decide +kernel
theorem dX12_tellsAll_108 : decode cX12_tellsAll 108 = .ok (.if_icmp .ge 57, 3) := by decide +kernel
theorem dX12_tellsAll_111 : decode cX12_tellsAll 111 = .ok (.aload_n 0, 1) := by decide +kernel
theorem dX12_tellsAll_112 : decode cX12_tellsAll 112 = .ok (.getfield 50, 3) := by decide +kernel
theorem dX12_tellsAll_115 : decode cX12_tellsAll 115 = .ok (.iload_n 1, 1) := by decide +kernel
theorem dX12_tellsAll_116 : decode cX12_tellsAll 116 = .ok (.aload_n 0, 1) := by decide +kernel
theorem dX12_tellsAll_117 : decode cX12_tellsAll 117 = .ok (.getfield 108, 3) := by decide +kernel
theorem dX12_tellsAll_120 : decode cX12_tellsAll 120 = .ok (.iload_n 1, 1) := by decide +kernel
theorem dX12_tellsAll_121 : decode cX12_tellsAll 121 = .ok (.iaload, 1) := by decide +kernel
theorem dX12_tellsAll_122 : decode cX12_tellsAll 122 = .ok (.iastore, 1) := by decide +kernel
theorem dX12_tellsAll_123 : decode cX12_tellsAll 123 = .ok (.aload_n 0, 1) := by decide +kernel
theorem dX12_tellsAll_124 : decode cX12_tellsAll 124 = .ok (.getfield 54, 3) := by decide +kernel
theorem dX12_tellsAll_127 : decode cX12_tellsAll 127 = .ok (.iload_n 1, 1) := by decide +kernel
theorem dX12_tellsAll_128 : decode cX12_tellsAll 128 = .ok (.aload_n 0, 1) := by decide +kernel
theorem dX12_tellsAll_129 : decode cX12_tellsAll 129 = .ok (.getfield 111, 3) := by decide +kernel
theorem dX12_tellsAll_132 : decode cX12_tellsAll 132 = .ok (.iload_n 1, 1) := by decide +kernel
theorem dX12_tellsAll_133 : decode cX12_tellsAll 133 = .ok (.iaload, 1) := by decide +kernel
theorem dX12_tellsAll_134 : decode cX12_tellsAll 134 = .ok (.iastore, 1) := by decide +kernel
theorem dX12_tellsAll_135 : decode cX12_tellsAll 135 = .ok (.aload_n 0, 1) := by decide +kernel
theorem dX12_tellsAll_136 : decode cX12_tellsAll 136 = .ok (.getfield 57, 3) := by decide +kernel
theorem dX12_tellsAll_139 : decode cX12_tellsAll 139 = .ok (.iload_n 1, 1) := by decide +kernel
theorem dX12_tellsAll_140 : decode cX12_tellsAll 140 = .ok (.aload_n 0, 1) := by decide +kernel
theorem dX12_tellsAll_141 : decode cX12_tellsAll 141 = .ok (.getfield 114, 3) := by decide +kernel
theorem dX12_tellsAll_144 : decode cX12_tellsAll 144 = .ok (.iload_n 1, 1) := by decide +kernel
theorem dX12_tellsAll_145 : decode cX12_tellsAll 145 = .ok (.iaload, 1) := by decide +kernel
theorem dX12_tellsAll_146 : decode cX12_tellsAll 146 = .ok (.iastore, 1) := by decide +kernel
theorem dX12_tellsAll_147 : decode cX12_tellsAll 147 = .ok (.aload_n 0, 1) := by decide +kernel
theorem dX12_tellsAll_148 : decode cX12_tellsAll 148 = .ok (.getfield 60, 3) := by decide +kernel
theorem dX12_tellsAll_151 : decode cX12_tellsAll 151 = .ok (.iload_n 1, 1) := by decide +kernel
theorem dX12_tellsAll_152 : decode cX12_tellsAll 152 = .ok (.aload_n 0, 1) := by decide +kernel
theorem dX12_tellsAll_153 : decode cX12_tellsAll 153 = .ok (.getfield 117, 3) := by decide +kernel
theorem dX12_tellsAll_156 : decode cX12_tellsAll 156 = .ok (.iload_n 1, 1) := by decide +kernel
theorem dX12_tellsAll_157 : decode cX12_tellsAll 157 = .ok (.iaload, 1) := by decide +kernel
theorem dX12_tellsAll_158 : decode cX12_tellsAll 158 = .ok (.iastore, 1) := by decide +kernel
theorem dX12_tellsAll_159 : decode cX12_tellsAll 159 = .ok (.iinc 1 1, 3) := by decide +kernel
theorem dX12_tellsAll_162 : decode cX12_tellsAll 162 = .ok (.goto (-59), 3) := by decide +kernel
theorem dX12_tellsAll_165 : decode cX12_tellsAll 165 = .ok (.iconst 0, 1) := by decide +kernel
theorem dX12_tellsAll_166 : decode cX12_tellsAll 166 = .ok (.istore_n 1, 1) := by decide +kernel
theorem dX12_tellsAll_167 : decode cX12_tellsAll 167 = .ok (.iload_n 1, 1) := by decide +kernel
theorem dX12_tellsAll_168 : decode cX12_tellsAll 168 = .ok (.bipush 108, 2) := by decide +kernel
theorem dX12_tellsAll_170 : decode cX12_tellsAll 170 = .ok (.if_icmp .ge 21, 3) := by decide +kernel
theorem dX12_tellsAll_173 : decode cX12_tellsAll 173 = .ok (.aload_n 0, 1) := by decide +kernel
theorem dX12_tellsAll_174 : decode cX12_tellsAll 174 = .ok (.getfield 63, 3) := by decide +kernel
theorem dX12_tellsAll_177 : decode cX12_tellsAll 177 = .ok (.iload_n 1, 1) := by decide +kernel
theorem dX12_tellsAll_178 : decode cX12_tellsAll 178 = .ok (.aload_n 0, 1) := by decide +kernel
theorem dX12_tellsAll_179 : decode cX12_tellsAll 179 = .ok (.getfield 120, 3) := by decide +kernel
theorem dX12_tellsAll_182 : decode cX12_tellsAll 182 = .ok (.iload_n 1, 1) := by decide +kernel
theorem dX12_tellsAll_183 : decode cX12_tellsAll 183 = .ok (.iaload, 1) := by decide +kernel
theorem dX12_tellsAll_184 : decode cX12_tellsAll 184 = .ok (.iastore, 1) := by decide +kernel
theorem dX12_tellsAll_185 : decode cX12_tellsAll 185 = .ok (.iinc 1 1, 3) := by decide +kernel
theorem dX12_tellsAll_188 : decode cX12_tellsAll 188 = .ok (.goto (-21), 3) := by decide +kernel
theorem dX12_tellsAll_191 : decode cX12_tellsAll 191 = .ok (.iconst 0, 1) := by decide +kernel
theorem dX12_tellsAll_192 : decode cX12_tellsAll 192 = .ok (.istore_n 1, 1) := by decide +kernel
theorem dX12_tellsAll_193 : decode cX12_tellsAll 193 = .ok (.iload_n 1, 1) := by decide +kernel
theorem dX12_tellsAll_194 : decode cX12_tellsAll 194 = .ok (.bipush 36, 2) := by decide +kernel
theorem dX12_tellsAll_196 : decode cX12_tellsAll 196 = .ok (.if_icmp .ge 21, 3) := by decide +kernel
theorem dX12_tellsAll_199 : decode cX12_tellsAll 199 = .ok (.aload_n 0, 1) := by decide +kernel
theorem dX12_tellsAll_200 : decode cX12_tellsAll 200 = .ok (.getfield 66, 3) := by decide +kernel
theorem dX12_tellsAll_203 : decode cX12_tellsAll 203 = .ok (.iload_n 1, 1) := by decide +kernel
theorem dX12_tellsAll_204 : decode cX12_tellsAll 204 = .ok (.aload_n 0, 1) := by decide +kernel
theorem dX12_tellsAll_205 : decode cX12_tellsAll 205 = .ok (.getfield 123, 3) := by decide +kernel
theorem dX12_tellsAll_208 : decode cX12_tellsAll 208 = .ok (.iload_n 1, 1) := by decide +kernel
theorem dX12_tellsAll_209 : decode cX12_tellsAll 209 = .ok (.iaload, 1) := by decide +kernel
theorem dX12_tellsAll_210 : decode cX12_tellsAll 210 = .ok (.iastore, 1) := by decide +kernel
theorem dX12_tellsAll_211 : decode cX12_tellsAll 211 = .ok (.iinc 1 1, 3) := by decide +kernel
theorem dX12_tellsAll_214 : decode cX12_tellsAll 214 = .ok (.goto (-21), 3) := by decide +kernel
theorem dX12_tellsAll_217 : decode cX12_tellsAll 217 = .ok (.return_, 1) := by decide +kernel
theorem dX12_disk_0 : decode cX12_disk 0 = .ok (.aload_n 0, 1) := by decide +kernel
theorem dX12_disk_1 : decode cX12_disk 1 = .ok (.aload_n 0, 1) := by decide +kernel
theorem dX12_disk_2 : decode cX12_disk 2 = .ok (.invokevirtual 302, 3) := by decide +kernel
theorem dX12_disk_5 : decode cX12_disk 5 = .ok (.putfield 141, 3) := by decide +kernel
theorem dX12_disk_8 : decode cX12_disk 8 = .ok (.aload_n 0, 1) := by decide +kernel
theorem dX12_disk_9 : decode cX12_disk 9 = .ok (.iconst 0, 1) := by decide +kernel
theorem dX12_disk_10 : decode cX12_disk 10 = .ok (.putfield 144, 3) := by decide +kernel
theorem dX12_disk_13 : decode cX12_disk 13 = .ok (.aload_n 0, 1) := by decide +kernel
theorem dX12_disk_14 : decode cX12_disk 14 = .ok (.iconst 0, 1) := by decide +kernel
theorem dX12_disk_15 : decode cX12_disk 15 = .ok (.putfield 150, 3) := by decide +kernel
theorem dX12_disk_18 : decode cX12_disk 18 = .ok (.aload_n 0, 1) := by decide +kernel
theorem dX12_disk_19 : decode cX12_disk 19 = .ok (.iconst (-1), 1) := by decide +kernel
theorem dX12_disk_20 : decode cX12_disk 20 = .ok (.putfield 153, 3) := by decide +kernel
theorem dX12_disk_23 : decode cX12_disk 23 = .ok (.aload_n 0, 1) := by decide +kernel
theorem dX12_disk_24 : decode cX12_disk 24 = .ok (.invokevirtual 305, 3) := by decide +kernel
theorem dX12_disk_27 : decode cX12_disk 27 = .ok (.istore_n 1, 1) := by decide +kernel
theorem dX12_disk_28 : decode cX12_disk 28 = .ok (.aload_n 0, 1) := by decide +kernel
theorem dX12_disk_29 : decode cX12_disk 29 = .ok (.aload_n 0, 1) := by decide +kernel
theorem dX12_disk_30 : decode cX12_disk 30 = .ok (.getfield 150, 3) := by decide +kernel
theorem dX12_disk_33 : decode cX12_disk 33 = .ok (.putfield 135, 3) := by decide +kernel
theorem dX12_disk_36 : decode cX12_disk 36 = .ok (.aload_n 0, 1) := by decide +kernel
theorem dX12_disk_37 : decode cX12_disk 37 = .ok (.aload_n 0, 1) := by decide +kernel
theorem dX12_disk_38 : decode cX12_disk 38 = .ok (.getfield 153, 3) := by decide +kernel
theorem dX12_disk_41 : decode cX12_disk 41 = .ok (.putfield 138, 3) := by decide +kernel
theorem dX12_disk_44 : decode cX12_disk 44 = .ok (.aload_n 0, 1) := by decide +kernel
theorem dX12_disk_45 : decode cX12_disk 45 = .ok (.getfield 150, 3) := by decide +kernel
theorem dX12_disk_48 : decode cX12_disk 48 = .ok (.ifCond .eq 9, 3) := by decide +kernel
theorem dX12_disk_51 : decode cX12_disk 51 = .ok (.aload_n 0, 1) := by decide +kernel
theorem dX12_disk_52 : decode cX12_disk 52 = .ok (.iconst 1, 1) := by decide +kernel
theorem dX12_disk_53 : decode cX12_disk 53 = .ok (.invokevirtual 220, 3) := by decide +kernel
theorem dX12_disk_56 : decode cX12_disk 56 = .ok (.ireturn, 1) := by decide +kernel
theorem dX12_disk_57 : decode cX12_disk 57 = .ok (.aload_n 0, 1) := by decide +kernel
theorem dX12_disk_58 : decode cX12_disk 58 = .ok (.invokevirtual 308, 3) := by decide +kernel
theorem dX12_disk_61 : decode cX12_disk 61 = .ok (.aload_n 0, 1) := by decide +kernel
theorem dX12_disk_62 : decode cX12_disk 62 = .ok (.invokevirtual 311, 3) := by decide +kernel
theorem dX12_disk_65 : decode cX12_disk 65 = .ok (.iconst 0, 1) := by decide +kernel
theorem dX12_disk_66 : decode cX12_disk 66 = .ok (.istore_n 2, 1) := by decide +kernel
theorem dX12_disk_67 : decode cX12_disk 67 = .ok (.iload_n 2, 1) := by decide +kernel
theorem dX12_disk_68 : decode cX12_disk 68 = .ok (.aload_n 0, 1) := by decide +kernel
theorem dX12_disk_69 : decode cX12_disk 69 = .ok (.getfield 13, 3) := by decide +kernel
theorem dX12_disk_72 : decode cX12_disk 72 = .ok (.if_icmp .ge 29, 3) := by decide +kernel
theorem dX12_disk_75 : decode cX12_disk 75 = .ok (.aload_n 0, 1) := by decide +kernel
theorem dX12_disk_76 : decode cX12_disk 76 = .ok (.iload_n 2, 1) := by decide +kernel
theorem dX12_disk_77 : decode cX12_disk 77 = .ok (.iconst 0, 1) := by decide +kernel
theorem dX12_disk_78 : decode cX12_disk 78 = .ok (.aload_n 0, 1) := by decide +kernel
theorem dX12_disk_79 : decode cX12_disk 79 = .ok (.getfield 50, 3) := by decide +kernel
theorem dX12_disk_82 : decode cX12_disk 82 = .ok (.iload_n 2, 1) := by decide +kernel
theorem dX12_disk_83 : decode cX12_disk 83 = .ok (.iaload, 1) := by decide +kernel
theorem dX12_disk_84 : decode cX12_disk 84 = .ok (.invokevirtual 314, 3) := by decide +kernel
theorem dX12_disk_87 : decode cX12_disk 87 = .ok (.aload_n 0, 1) := by decide +kernel
theorem dX12_disk_88 : decode cX12_disk 88 = .ok (.iload_n 2, 1) := by decide +kernel
theorem dX12_disk_89 : decode cX12_disk 89 = .ok (.bipush 8, 2) := by decide +kernel
theorem dX12_disk_91 : decode cX12_disk 91 = .ok (.iconst 1, 1) := by decide +kernel
theorem dX12_disk_92 : decode cX12_disk 92 = .ok (.invokevirtual 314, 3) := by decide +kernel
theorem dX12_disk_95 : decode cX12_disk 95 = .ok (.iinc 2 1, 3) := by decide +kernel
theorem dX12_disk_98 : decode cX12_disk 98 = .ok (.goto (-31), 3) := by decide +kernel
theorem dX12_disk_101 : decode cX12_disk 101 = .ok (.aload_n 0, 1) := by decide +kernel
theorem dX12_disk_102 : decode cX12_disk 102 = .ok (.bipush 6, 2) := by decide +kernel
theorem dX12_disk_104 : decode cX12_disk 104 = .ok (.aload_n 0, 1) := by decide +kernel
theorem dX12_disk_105 : decode cX12_disk 105 = .ok (.getfield 44, 3) := by decide +kernel
theorem dX12_disk_108 : decode cX12_disk 108 = .ok (.invokevirtual 318, 3) := by decide +kernel
theorem dX12_disk_111 : decode cX12_disk 111 = .ok (.aload_n 0, 1) := by decide +kernel
theorem dX12_disk_112 : decode cX12_disk 112 = .ok (.bipush 7, 2) := by decide +kernel
theorem dX12_disk_114 : decode cX12_disk 114 = .ok (.aload_n 0, 1) := by decide +kernel
theorem dX12_disk_115 : decode cX12_disk 115 = .ok (.getfield 47, 3) := by decide +kernel
theorem dX12_disk_118 : decode cX12_disk 118 = .ok (.invokevirtual 318, 3) := by decide +kernel
theorem dX12_disk_121 : decode cX12_disk 121 = .ok (.aload_n 0, 1) := by decide +kernel
theorem dX12_disk_122 : decode cX12_disk 122 = .ok (.iconst 0, 1) := by decide +kernel
theorem dX12_disk_123 : decode cX12_disk 123 = .ok (.putfield 178, 3) := by decide +kernel
theorem dX12_disk_126 : decode cX12_disk 126 = .ok (.aload_n 0, 1) := by decide +kernel
theorem dX12_disk_127 : decode cX12_disk 127 = .ok (.iconst 0, 1) := by decide +kernel
theorem dX12_disk_128 : decode cX12_disk 128 = .ok (.putfield 196, 3) := by decide +kernel
theorem dX12_disk_131 : decode cX12_disk 131 = .ok (.iload_n 1, 1) := by decide +kernel
theorem dX12_disk_132 : decode cX12_disk 132 = .ok (.ireturn, 1) := by decide +kernel
theorem dX12_fault_0 : decode cX12_fault 0 = .ok (.iload_n 1, 1) := by decide +kernel
theorem dX12_fault_1 : decode cX12_fault 1 = .ok (.ifCond .ne 10, 3) := by decide +kernel
theorem dX12_fault_4 : decode cX12_fault 4 = .ok (.aload_n 0, 1) := by decide +kernel
theorem dX12_fault_5 : decode cX12_fault 5 = .ok (.getfield 135, 3) := by decide +kernel
theorem dX12_fault_8 : decode cX12_fault 8 = .ok (.goto 16, 3) := by decide +kernel
theorem dX12_fault_11 : decode cX12_fault 11 = .ok (.iload_n 1, 1) := by decide +kernel
theorem dX12_fault_12 : decode cX12_fault 12 = .ok (.iconst 1, 1) := by decide +kernel
theorem dX12_fault_13 : decode cX12_fault 13 = .ok (.if_icmp .ne 10, 3) := by decide +kernel
theorem dX12_fault_16 : decode cX12_fault 16 = .ok (.aload_n 0, 1) := by decide +kernel
theorem dX12_fault_17 : decode cX12_fault 17 = .ok (.getfield 138, 3) := by decide +kernel
theorem dX12_fault_20 : decode cX12_fault 20 = .ok (.goto 4, 3) := by decide +kernel
theorem dX12_fault_23 : decode cX12_fault 23 = .ok (.iconst (-1), 1) := by decide +kernel
theorem dX12_fault_24 : decode cX12_fault 24 = .ok (.ireturn, 1) := by decide +kernel
theorem dX12_isNow_0 : decode cX12_isNow 0 = .ok (.aload_n 0, 1) := by decide +kernel
theorem dX12_isNow_1 : decode cX12_isNow 1 = .ok (.iconst 0, 1) := by decide +kernel
theorem dX12_isNow_2 : decode cX12_isNow 2 = .ok (.putfield 172, 3) := by decide +kernel
theorem dX12_isNow_5 : decode cX12_isNow 5 = .ok (.aload_n 0, 1) := by decide +kernel
theorem dX12_isNow_6 : decode cX12_isNow 6 = .ok (.iconst 0, 1) := by decide +kernel
theorem dX12_isNow_7 : decode cX12_isNow 7 = .ok (.putfield 175, 3) := by decide +kernel
theorem dX12_isNow_10 : decode cX12_isNow 10 = .ok (.return_, 1) := by decide +kernel
theorem dX12_tries_0 : decode cX12_tries 0 = .ok (.iconst 0, 1) := by decide +kernel
theorem dX12_tries_1 : decode cX12_tries 1 = .ok (.istore_n 1, 1) := by decide +kernel
theorem dX12_tries_2 : decode cX12_tries 2 = .ok (.iload_n 1, 1) := by decide +kernel
theorem dX12_tries_3 : decode cX12_tries 3 = .ok (.sipush 758, 3) := by decide +kernel
theorem dX12_tries_6 : decode cX12_tries 6 = .ok (.if_icmp .ge 25, 3) := by decide +kernel
theorem dX12_tries_9 : decode cX12_tries 9 = .ok (.aload_n 0, 1) := by decide +kernel
theorem dX12_tries_10 : decode cX12_tries 10 = .ok (.getfield 159, 3) := by decide +kernel
theorem dX12_tries_13 : decode cX12_tries 13 = .ok (.sipush 758, 3) := by decide +kernel
theorem dX12_tries_16 : decode cX12_tries 16 = .ok (.iload_n 1, 1) := by decide +kernel
theorem dX12_tries_17 : decode cX12_tries 17 = .ok (.iadd, 1) := by decide +kernel
theorem dX12_tries_18 : decode cX12_tries 18 = .ok (.aload_n 0, 1) := by decide +kernel
theorem dX12_tries_19 : decode cX12_tries 19 = .ok (.getfield 159, 3) := by decide +kernel
theorem dX12_tries_22 : decode cX12_tries 22 = .ok (.iload_n 1, 1) := by decide +kernel
theorem dX12_tries_23 : decode cX12_tries 23 = .ok (.iaload, 1) := by decide +kernel
theorem dX12_tries_24 : decode cX12_tries 24 = .ok (.iastore, 1) := by decide +kernel
theorem dX12_tries_25 : decode cX12_tries 25 = .ok (.iinc 1 1, 3) := by decide +kernel
theorem dX12_tries_28 : decode cX12_tries 28 = .ok (.goto (-26), 3) := by decide +kernel
theorem dX12_tries_31 : decode cX12_tries 31 = .ok (.iconst 0, 1) := by decide +kernel
theorem dX12_tries_32 : decode cX12_tries 32 = .ok (.istore_n 1, 1) := by decide +kernel
theorem dX12_tries_33 : decode cX12_tries 33 = .ok (.iload_n 1, 1) := by decide +kernel
theorem dX12_tries_34 : decode cX12_tries 34 = .ok (.bipush 20, 2) := by decide +kernel
theorem dX12_tries_36 : decode cX12_tries 36 = .ok (.if_icmp .ge 24, 3) := by decide +kernel
theorem dX12_tries_39 : decode cX12_tries 39 = .ok (.aload_n 0, 1) := by decide +kernel
theorem dX12_tries_40 : decode cX12_tries 40 = .ok (.getfield 162, 3) := by decide +kernel
theorem dX12_tries_43 : decode cX12_tries 43 = .ok (.bipush 20, 2) := by decide +kernel
theorem dX12_tries_45 : decode cX12_tries 45 = .ok (.iload_n 1, 1) := by decide +kernel
theorem dX12_tries_46 : decode cX12_tries 46 = .ok (.iadd, 1) := by decide +kernel
theorem dX12_tries_47 : decode cX12_tries 47 = .ok (.aload_n 0, 1) := by decide +kernel
theorem dX12_tries_48 : decode cX12_tries 48 = .ok (.getfield 162, 3) := by decide +kernel
theorem dX12_tries_51 : decode cX12_tries 51 = .ok (.iload_n 1, 1) := by decide +kernel
theorem dX12_tries_52 : decode cX12_tries 52 = .ok (.faload, 1) := by decide +kernel
theorem dX12_tries_53 : decode cX12_tries 53 = .ok (.fastore, 1) := by decide +kernel
theorem dX12_tries_54 : decode cX12_tries 54 = .ok (.iinc 1 1, 3) := by decide +kernel
theorem dX12_tries_57 : decode cX12_tries 57 = .ok (.goto (-24), 3) := by decide +kernel
theorem dX12_tries_60 : decode cX12_tries 60 = .ok (.aload_n 0, 1) := by decide +kernel
theorem dX12_tries_61 : decode cX12_tries 61 = .ok (.sipush 758, 3) := by decide +kernel
theorem dX12_tries_64 : decode cX12_tries 64 = .ok (.putfield 172, 3) := by decide +kernel
theorem dX12_tries_67 : decode cX12_tries 67 = .ok (.aload_n 0, 1) := by decide +kernel
theorem dX12_tries_68 : decode cX12_tries 68 = .ok (.bipush 20, 2) := by decide +kernel
theorem dX12_tries_70 : decode cX12_tries 70 = .ok (.putfield 175, 3) := by decide +kernel
theorem dX12_tries_73 : decode cX12_tries 73 = .ok (.aload_n 0, 1) := by decide +kernel
theorem dX12_tries_74 : decode cX12_tries 74 = .ok (.iconst 0, 1) := by decide +kernel
theorem dX12_tries_75 : decode cX12_tries 75 = .ok (.putfield 184, 3) := by decide +kernel
theorem dX12_tries_78 : decode cX12_tries 78 = .ok (.aload_n 0, 1) := by decide +kernel
theorem dX12_tries_79 : decode cX12_tries 79 = .ok (.iconst 0, 1) := by decide +kernel
theorem dX12_tries_80 : decode cX12_tries 80 = .ok (.putfield 187, 3) := by decide +kernel
theorem dX12_tries_83 : decode cX12_tries 83 = .ok (.aload_n 0, 1) := by decide +kernel
theorem dX12_tries_84 : decode cX12_tries 84 = .ok (.iconst 0, 1) := by decide +kernel
theorem dX12_tries_85 : decode cX12_tries 85 = .ok (.putfield 181, 3) := by decide +kernel
theorem dX12_tries_88 : decode cX12_tries 88 = .ok (.return_, 1) := by decide +kernel
theorem dX12_its_0 : decode cX12_its 0 = .ok (.aload_n 0, 1) := by decide +kernel
theorem dX12_its_1 : decode cX12_its 1 = .ok (.getfield 159, 3) := by decide +kernel
theorem dX12_its_4 : decode cX12_its 4 = .ok (.aload_n 0, 1) := by decide +kernel
theorem dX12_its_5 : decode cX12_its 5 = .ok (.getfield 172, 3) := by decide +kernel
theorem dX12_its_8 : decode cX12_its 8 = .ok (.iload_n 1, 1) := by decide +kernel
theorem dX12_its_9 : decode cX12_its 9 = .ok (.iadd, 1) := by decide +kernel
theorem dX12_its_10 : decode cX12_its 10 = .ok (.iaload, 1) := by decide +kernel
theorem dX12_its_11 : decode cX12_its 11 = .ok (.ireturn, 1) := by decide +kernel
theorem dX12_puts_0 : decode cX12_puts 0 = .ok (.aload_n 0, 1) := by decide +kernel
theorem dX12_puts_1 : decode cX12_puts 1 = .ok (.getfield 159, 3) := by decide +kernel
theorem dX12_puts_4 : decode cX12_puts 4 = .ok (.aload_n 0, 1) := by decide +kernel
theorem dX12_puts_5 : decode cX12_puts 5 = .ok (.getfield 172, 3) := by decide +kernel
theorem dX12_puts_8 : decode cX12_puts 8 = .ok (.iload_n 1, 1) := by decide +kernel
theorem dX12_puts_9 : decode cX12_puts 9 = .ok (.iadd, 1) := by decide +kernel
theorem dX12_puts_10 : decode cX12_puts 10 = .ok (.iload_n 2, 1) := by decide +kernel
theorem dX12_puts_11 : decode cX12_puts 11 = .ok (.iastore, 1) := by decide +kernel
theorem dX12_puts_12 : decode cX12_puts 12 = .ok (.return_, 1) := by decide +kernel
theorem dX12_of_0 : decode cX12_of 0 = .ok (.aload_n 0, 1) := by decide +kernel
theorem dX12_of_1 : decode cX12_of 1 = .ok (.bipush 18, 2) := by decide +kernel
theorem dX12_of_3 : decode cX12_of 3 = .ok (.bipush 14, 2) := by decide +kernel
theorem dX12_of_5 : decode cX12_of 5 = .ok (.iload_n 1, 1) := by decide +kernel
theorem dX12_of_6 : decode cX12_of 6 = .ok (.imul, 1) := by decide +kernel
theorem dX12_of_7 : decode cX12_of 7 = .ok (.iadd, 1) := by decide +kernel
theorem dX12_of_8 : decode cX12_of 8 = .ok (.iload_n 2, 1) := by decide +kernel
theorem dX12_of_9 : decode cX12_of 9 = .ok (.iadd, 1) := by decide +kernel
theorem dX12_of_10 : decode cX12_of 10 = .ok (.invokevirtual 321, 3) := by decide +kernel
theorem dX12_of_13 : decode cX12_of 13 = .ok (.ireturn, 1) := by decide +kernel
theorem dX12_sets_0 : decode cX12_sets 0 = .ok (.aload_n 0, 1) := by decide +kernel
theorem dX12_sets_1 : decode cX12_sets 1 = .ok (.bipush 18, 2) := by decide +kernel
theorem dX12_sets_3 : decode cX12_sets 3 = .ok (.bipush 14, 2) := by decide +kernel
theorem dX12_sets_5 : decode cX12_sets 5 = .ok (.iload_n 1, 1) := by decide +kernel
theorem dX12_sets_6 : decode cX12_sets 6 = .ok (.imul, 1) := by decide +kernel
theorem dX12_sets_7 : decode cX12_sets 7 = .ok (.iadd, 1) := by decide +kernel
theorem dX12_sets_8 : decode cX12_sets 8 = .ok (.iload_n 2, 1) := by decide +kernel
theorem dX12_sets_9 : decode cX12_sets 9 = .ok (.iadd, 1) := by decide +kernel
theorem dX12_sets_10 : decode cX12_sets 10 = .ok (.iload_n 3, 1) := by decide +kernel
theorem dX12_sets_11 : decode cX12_sets 11 = .ok (.invokevirtual 318, 3) := by decide +kernel
theorem dX12_sets_14 : decode cX12_sets 14 = .ok (.return_, 1) := by decide +kernel
theorem dX12_ofQueue_0 : decode cX12_ofQueue 0 = .ok (.aload_n 0, 1) := by decide +kernel
theorem dX12_ofQueue_1 : decode cX12_ofQueue 1 = .ok (.bipush 102, 2) := by decide +kernel
theorem dX12_ofQueue_3 : decode cX12_ofQueue 3 = .ok (.bipush 8, 2) := by decide +kernel
theorem dX12_ofQueue_5 : decode cX12_ofQueue 5 = .ok (.iload_n 1, 1) := by decide +kernel
theorem dX12_ofQueue_6 : decode cX12_ofQueue 6 = .ok (.imul, 1) := by decide +kernel
theorem dX12_ofQueue_7 : decode cX12_ofQueue 7 = .ok (.iadd, 1) := by decide +kernel
theorem dX12_ofQueue_8 : decode cX12_ofQueue 8 = .ok (.iload_n 2, 1) := by decide +kernel
theorem dX12_ofQueue_9 : decode cX12_ofQueue 9 = .ok (.iadd, 1) := by decide +kernel
theorem dX12_ofQueue_10 : decode cX12_ofQueue 10 = .ok (.invokevirtual 321, 3) := by decide +kernel
theorem dX12_ofQueue_13 : decode cX12_ofQueue 13 = .ok (.ireturn, 1) := by decide +kernel
theorem dX12_setsQueue_0 : decode cX12_setsQueue 0 = .ok (.aload_n 0, 1) := by decide +kernel
theorem dX12_setsQueue_1 : decode cX12_setsQueue 1 = .ok (.bipush 102, 2) := by decide +kernel
theorem dX12_setsQueue_3 : decode cX12_setsQueue 3 = .ok (.bipush 8, 2) := by decide +kernel
theorem dX12_setsQueue_5 : decode cX12_setsQueue 5 = .ok (.iload_n 1, 1) := by decide +kernel
theorem dX12_setsQueue_6 : decode cX12_setsQueue 6 = .ok (.imul, 1) := by decide +kernel
theorem dX12_setsQueue_7 : decode cX12_setsQueue 7 = .ok (.iadd, 1) := by decide +kernel
theorem dX12_setsQueue_8 : decode cX12_setsQueue 8 = .ok (.iload_n 2, 1) := by decide +kernel
theorem dX12_setsQueue_9 : decode cX12_setsQueue 9 = .ok (.iadd, 1) := by decide +kernel
theorem dX12_setsQueue_10 : decode cX12_setsQueue 10 = .ok (.iload_n 3, 1) := by decide +kernel
theorem dX12_setsQueue_11 : decode cX12_setsQueue 11 = .ok (.invokevirtual 318, 3) := by decide +kernel
theorem dX12_setsQueue_14 : decode cX12_setsQueue 14 = .ok (.return_, 1) := by decide +kernel
theorem dX12_ofRequest_0 : decode cX12_ofRequest 0 = .ok (.aload_n 0, 1) := by decide +kernel
theorem dX12_ofRequest_1 : decode cX12_ofRequest 1 = .ok (.sipush 150, 3) := by decide +kernel
theorem dX12_ofRequest_4 : decode cX12_ofRequest 4 = .ok (.bipush 7, 2) := by decide +kernel
theorem dX12_ofRequest_6 : decode cX12_ofRequest 6 = .ok (.iload_n 1, 1) := by decide +kernel
theorem dX12_ofRequest_7 : decode cX12_ofRequest 7 = .ok (.imul, 1) := by decide +kernel
theorem dX12_ofRequest_8 : decode cX12_ofRequest 8 = .ok (.iadd, 1) := by decide +kernel
theorem dX12_ofRequest_9 : decode cX12_ofRequest 9 = .ok (.iload_n 2, 1) := by decide +kernel
theorem dX12_ofRequest_10 : decode cX12_ofRequest 10 = .ok (.iadd, 1) := by decide +kernel
theorem dX12_ofRequest_11 : decode cX12_ofRequest 11 = .ok (.invokevirtual 321, 3) := by decide +kernel
theorem dX12_ofRequest_14 : decode cX12_ofRequest 14 = .ok (.ireturn, 1) := by decide +kernel
theorem dX12_part_0 : decode cX12_part 0 = .ok (.aload_n 0, 1) := by decide +kernel
theorem dX12_part_1 : decode cX12_part 1 = .ok (.getfield 162, 3) := by decide +kernel
theorem dX12_part_4 : decode cX12_part 4 = .ok (.aload_n 0, 1) := by decide +kernel
theorem dX12_part_5 : decode cX12_part 5 = .ok (.getfield 175, 3) := by decide +kernel
theorem dX12_part_8 : decode cX12_part 8 = .ok (.iload_n 1, 1) := by decide +kernel
theorem dX12_part_9 : decode cX12_part 9 = .ok (.iadd, 1) := by decide +kernel
theorem dX12_part_10 : decode cX12_part 10 = .ok (.faload, 1) := by decide +kernel
theorem dX12_part_11 : decode cX12_part 11 = .ok (.freturn, 1) := by decide +kernel
theorem dX12_setsPart_0 : decode cX12_setsPart 0 = .ok (.aload_n 0, 1) := by decide +kernel
theorem dX12_setsPart_1 : decode cX12_setsPart 1 = .ok (.getfield 162, 3) := by decide +kernel
theorem dX12_setsPart_4 : decode cX12_setsPart 4 = .ok (.aload_n 0, 1) := by decide +kernel
theorem dX12_setsPart_5 : decode cX12_setsPart 5 = .ok (.getfield 175, 3) := by decide +kernel
theorem dX12_setsPart_8 : decode cX12_setsPart 8 = .ok (.iload_n 1, 1) := by decide +kernel
theorem dX12_setsPart_9 : decode cX12_setsPart 9 = .ok (.iadd, 1) := by decide +kernel
theorem dX12_setsPart_10 : decode cX12_setsPart 10 = .ok (.fload_n 2, 1) := by decide +kernel
theorem dX12_setsPart_11 : decode cX12_setsPart 11 = .ok (.fastore, 1) := by decide +kernel
theorem dX12_setsPart_12 : decode cX12_setsPart 12 = .ok (.return_, 1) := by decide +kernel
theorem dX12_begins_0 : decode cX12_begins 0 = .ok (.aload_n 0, 1) := by decide +kernel
theorem dX12_begins_1 : decode cX12_begins 1 = .ok (.invokevirtual 324, 3) := by decide +kernel
theorem dX12_begins_4 : decode cX12_begins 4 = .ok (.iconst 0, 1) := by decide +kernel
theorem dX12_begins_5 : decode cX12_begins 5 = .ok (.istore_n 1, 1) := by decide +kernel
theorem dX12_begins_6 : decode cX12_begins 6 = .ok (.iload_n 1, 1) := by decide +kernel
theorem dX12_begins_7 : decode cX12_begins 7 = .ok (.sipush 758, 3) := by decide +kernel
theorem dX12_begins_10 : decode cX12_begins 10 = .ok (.if_icmp .ge 16, 3) := by decide +kernel
theorem dX12_begins_13 : decode cX12_begins 13 = .ok (.aload_n 0, 1) := by decide +kernel
theorem dX12_begins_14 : decode cX12_begins 14 = .ok (.getfield 159, 3) := by decide +kernel
theorem dX12_begins_17 : decode cX12_begins 17 = .ok (.iload_n 1, 1) := by decide +kernel
theorem dX12_begins_18 : decode cX12_begins 18 = .ok (.iconst 0, 1) := by decide +kernel
theorem dX12_begins_19 : decode cX12_begins 19 = .ok (.iastore, 1) := by decide +kernel
theorem dX12_begins_20 : decode cX12_begins 20 = .ok (.iinc 1 1, 3) := by decide +kernel
theorem dX12_begins_23 : decode cX12_begins 23 = .ok (.goto (-17), 3) := by decide +kernel
theorem dX12_begins_26 : decode cX12_begins 26 = .ok (.iconst 0, 1) := by decide +kernel
theorem dX12_begins_27 : decode cX12_begins 27 = .ok (.istore_n 1, 1) := by decide +kernel
theorem dX12_begins_28 : decode cX12_begins 28 = .ok (.iload_n 1, 1) := by decide +kernel
theorem dX12_begins_29 : decode cX12_begins 29 = .ok (.bipush 20, 2) := by decide +kernel
theorem dX12_begins_31 : decode cX12_begins 31 = .ok (.if_icmp .ge 16, 3) := by decide +kernel
theorem dX12_begins_34 : decode cX12_begins 34 = .ok (.aload_n 0, 1) := by decide +kernel
theorem dX12_begins_35 : decode cX12_begins 35 = .ok (.getfield 162, 3) := by decide +kernel
theorem dX12_begins_38 : decode cX12_begins 38 = .ok (.iload_n 1, 1) := by decide +kernel
theorem dX12_begins_39 : decode cX12_begins 39 = .ok (.fconst 0, 1) := by decide +kernel
theorem dX12_begins_40 : decode cX12_begins 40 = .ok (.fastore, 1) := by decide +kernel
theorem dX12_begins_41 : decode cX12_begins 41 = .ok (.iinc 1 1, 3) := by decide +kernel
theorem dX12_begins_44 : decode cX12_begins 44 = .ok (.goto (-16), 3) := by decide +kernel
theorem dX12_begins_47 : decode cX12_begins 47 = .ok (.aload_n 0, 1) := by decide +kernel
theorem dX12_begins_48 : decode cX12_begins 48 = .ok (.bipush 19, 2) := by decide +kernel
theorem dX12_begins_50 : decode cX12_begins 50 = .ok (.aload_n 0, 1) := by decide +kernel
theorem dX12_begins_51 : decode cX12_begins 51 = .ok (.getfield 23, 3) := by decide +kernel
theorem dX12_begins_54 : decode cX12_begins 54 = .ok (.i2f, 1) := by decide +kernel
theorem dX12_begins_55 : decode cX12_begins 55 = .ok (.invokevirtual 327, 3) := by decide +kernel
theorem dX12_begins_58 : decode cX12_begins 58 = .ok (.aload_n 0, 1) := by decide +kernel
theorem dX12_begins_59 : decode cX12_begins 59 = .ok (.iconst 2, 1) := by decide +kernel
theorem dX12_begins_60 : decode cX12_begins 60 = .ok (.iconst (-1), 1) := by decide +kernel
theorem dX12_begins_61 : decode cX12_begins 61 = .ok (.invokevirtual 318, 3) := by decide +kernel
theorem dX12_begins_64 : decode cX12_begins 64 = .ok (.aload_n 0, 1) := by decide +kernel
theorem dX12_begins_65 : decode cX12_begins 65 = .ok (.bipush 8, 2) := by decide +kernel
theorem dX12_begins_67 : decode cX12_begins 67 = .ok (.aload_n 0, 1) := by decide +kernel
theorem dX12_begins_68 : decode cX12_begins 68 = .ok (.getfield 29, 3) := by decide +kernel
theorem dX12_begins_71 : decode cX12_begins 71 = .ok (.invokevirtual 318, 3) := by decide +kernel
theorem dX12_begins_74 : decode cX12_begins 74 = .ok (.iconst 0, 1) := by decide +kernel
theorem dX12_begins_75 : decode cX12_begins 75 = .ok (.istore_n 1, 1) := by decide +kernel
theorem dX12_begins_76 : decode cX12_begins 76 = .ok (.iload_n 1, 1) := by decide +kernel
theorem dX12_begins_77 : decode cX12_begins 77 = .ok (.aload_n 0, 1) := by decide +kernel
theorem dX12_begins_78 : decode cX12_begins 78 = .ok (.getfield 13, 3) := by decide +kernel
theorem dX12_begins_81 : decode cX12_begins 81 = .ok (.if_icmp .ge 46, 3) := by decide +kernel
theorem dX12_begins_84 : decode cX12_begins 84 = .ok (.aload_n 0, 1) := by decide +kernel
theorem dX12_begins_85 : decode cX12_begins 85 = .ok (.iload_n 1, 1) := by decide +kernel
theorem dX12_begins_86 : decode cX12_begins 86 = .ok (.iconst 1, 1) := by decide +kernel
theorem dX12_begins_87 : decode cX12_begins 87 = .ok (.aload_n 0, 1) := by decide +kernel
theorem dX12_begins_88 : decode cX12_begins 88 = .ok (.getfield 54, 3) := by decide +kernel
theorem dX12_begins_91 : decode cX12_begins 91 = .ok (.iload_n 1, 1) := by decide +kernel
theorem dX12_begins_92 : decode cX12_begins 92 = .ok (.iaload, 1) := by decide +kernel
theorem dX12_begins_93 : decode cX12_begins 93 = .ok (.invokevirtual 314, 3) := by decide +kernel
theorem dX12_begins_96 : decode cX12_begins 96 = .ok (.aload_n 0, 1) := by decide +kernel
theorem dX12_begins_97 : decode cX12_begins 97 = .ok (.iload_n 1, 1) := by decide +kernel
theorem dX12_begins_98 : decode cX12_begins 98 = .ok (.bipush 6, 2) := by decide +kernel
theorem dX12_begins_100 : decode cX12_begins 100 = .ok (.iload_n 1, 1) := by decide +kernel
theorem dX12_begins_101 : decode cX12_begins 101 = .ok (.invokevirtual 314, 3) := by decide +kernel
theorem dX12_begins_104 : decode cX12_begins 104 = .ok (.aload_n 0, 1) := by decide +kernel
theorem dX12_begins_105 : decode cX12_begins 105 = .ok (.iload_n 1, 1) := by decide +kernel
theorem dX12_begins_106 : decode cX12_begins 106 = .ok (.iconst 0, 1) := by decide +kernel
theorem dX12_begins_107 : decode cX12_begins 107 = .ok (.aload_n 0, 1) := by decide +kernel
theorem dX12_begins_108 : decode cX12_begins 108 = .ok (.getfield 26, 3) := by decide +kernel
theorem dX12_begins_111 : decode cX12_begins 111 = .ok (.aload_n 0, 1) := by decide +kernel
theorem dX12_begins_112 : decode cX12_begins 112 = .ok (.getfield 29, 3) := by decide +kernel
theorem dX12_begins_115 : decode cX12_begins 115 = .ok (.iadd, 1) := by decide +kernel
theorem dX12_begins_116 : decode cX12_begins 116 = .ok (.iconst 2, 1) := by decide +kernel
theorem dX12_begins_117 : decode cX12_begins 117 = .ok (.idiv, 1) := by decide +kernel
theorem dX12_begins_118 : decode cX12_begins 118 = .ok (.invokevirtual 331, 3) := by decide +kernel
theorem dX12_begins_121 : decode cX12_begins 121 = .ok (.iinc 1 1, 3) := by decide +kernel
theorem dX12_begins_124 : decode cX12_begins 124 = .ok (.goto (-48), 3) := by decide +kernel
theorem dX12_begins_127 : decode cX12_begins 127 = .ok (.return_, 1) := by decide +kernel
theorem dX12_lying_0 : decode cX12_lying 0 = .ok (.iconst 0, 1) := by decide +kernel
theorem dX12_lying_1 : decode cX12_lying 1 = .ok (.istore_n 2, 1) := by decide +kernel
theorem dX12_lying_2 : decode cX12_lying 2 = .ok (.iconst 0, 1) := by decide +kernel
theorem dX12_lying_3 : decode cX12_lying 3 = .ok (.istore_n 3, 1) := by decide +kernel
theorem dX12_lying_4 : decode cX12_lying 4 = .ok (.iload_n 3, 1) := by decide +kernel
theorem dX12_lying_5 : decode cX12_lying 5 = .ok (.aload_n 0, 1) := by decide +kernel
theorem dX12_lying_6 : decode cX12_lying 6 = .ok (.bipush 10, 2) := by decide +kernel
theorem dX12_lying_8 : decode cX12_lying 8 = .ok (.invokevirtual 321, 3) := by decide +kernel
theorem dX12_lying_11 : decode cX12_lying 11 = .ok (.if_icmp .ge 27, 3) := by decide +kernel
theorem dX12_lying_14 : decode cX12_lying 14 = .ok (.iload_n 2, 1) := by decide +kernel
theorem dX12_lying_15 : decode cX12_lying 15 = .ok (.aload_n 0, 1) := by decide +kernel
theorem dX12_lying_16 : decode cX12_lying 16 = .ok (.iload_n 3, 1) := by decide +kernel
theorem dX12_lying_17 : decode cX12_lying 17 = .ok (.iconst 0, 1) := by decide +kernel
theorem dX12_lying_18 : decode cX12_lying 18 = .ok (.invokevirtual 334, 3) := by decide +kernel
theorem dX12_lying_21 : decode cX12_lying 21 = .ok (.iload_n 1, 1) := by decide +kernel
theorem dX12_lying_22 : decode cX12_lying 22 = .ok (.if_icmp .ne 7, 3) := by decide +kernel
theorem dX12_lying_25 : decode cX12_lying 25 = .ok (.iconst 1, 1) := by decide +kernel
theorem dX12_lying_26 : decode cX12_lying 26 = .ok (.goto 4, 3) := by decide +kernel
theorem dX12_lying_29 : decode cX12_lying 29 = .ok (.iconst 0, 1) := by decide +kernel
theorem dX12_lying_30 : decode cX12_lying 30 = .ok (.iadd, 1) := by decide +kernel
theorem dX12_lying_31 : decode cX12_lying 31 = .ok (.istore_n 2, 1) := by decide +kernel
theorem dX12_lying_32 : decode cX12_lying 32 = .ok (.iinc 3 1, 3) := by decide +kernel
theorem dX12_lying_35 : decode cX12_lying 35 = .ok (.goto (-31), 3) := by decide +kernel
theorem dX12_lying_38 : decode cX12_lying 38 = .ok (.iload_n 2, 1) := by decide +kernel
theorem dX12_lying_39 : decode cX12_lying 39 = .ok (.ireturn, 1) := by decide +kernel
theorem dX12_weightOf_0 : decode cX12_weightOf 0 = .ok (.aload_n 0, 1) := by decide +kernel
theorem dX12_weightOf_1 : decode cX12_weightOf 1 = .ok (.iload_n 1, 1) := by decide +kernel
theorem dX12_weightOf_2 : decode cX12_weightOf 2 = .ok (.iconst 0, 1) := by decide +kernel
theorem dX12_weightOf_3 : decode cX12_weightOf 3 = .ok (.invokevirtual 337, 3) := by decide +kernel
theorem dX12_weightOf_6 : decode cX12_weightOf 6 = .ok (.aload_n 0, 1) := by decide +kernel
theorem dX12_weightOf_7 : decode cX12_weightOf 7 = .ok (.iconst 0, 1) := by decide +kernel
theorem dX12_weightOf_8 : decode cX12_weightOf 8 = .ok (.invokevirtual 321, 3) := by decide +kernel
theorem dX12_weightOf_11 : decode cX12_weightOf 11 = .ok (.aload_n 0, 1) := by decide +kernel
theorem dX12_weightOf_12 : decode cX12_weightOf 12 = .ok (.iload_n 1, 1) := by decide +kernel
theorem dX12_weightOf_13 : decode cX12_weightOf 13 = .ok (.iconst 5, 1) := by decide +kernel
theorem dX12_weightOf_14 : decode cX12_weightOf 14 = .ok (.invokevirtual 340, 3) := by decide +kernel
theorem dX12_weightOf_17 : decode cX12_weightOf 17 = .ok (.if_icmp .ge 10, 3) := by decide +kernel
theorem dX12_weightOf_20 : decode cX12_weightOf 20 = .ok (.aload_n 0, 1) := by decide +kernel
theorem dX12_weightOf_21 : decode cX12_weightOf 21 = .ok (.getfield 35, 3) := by decide +kernel
theorem dX12_weightOf_24 : decode cX12_weightOf 24 = .ok (.goto 4, 3) := by decide +kernel
theorem dX12_weightOf_27 : decode cX12_weightOf 27 = .ok (.iconst 1, 1) := by decide +kernel
theorem dX12_weightOf_28 : decode cX12_weightOf 28 = .ok (.imul, 1) := by decide +kernel
theorem dX12_weightOf_29 : decode cX12_weightOf 29 = .ok (.ireturn, 1) := by decide +kernel
theorem dX12_far_0 : decode cX12_far 0 = .ok (.iconst 0, 1) := by decide +kernel
theorem dX12_far_1 : decode cX12_far 1 = .ok (.istore_n 2, 1) := by decide +kernel
theorem dX12_far_2 : decode cX12_far 2 = .ok (.iconst 0, 1) := by decide +kernel
theorem dX12_far_3 : decode cX12_far 3 = .ok (.istore_n 3, 1) := by decide +kernel
theorem dX12_far_4 : decode cX12_far 4 = .ok (.iload_n 3, 1) := by decide +kernel
theorem dX12_far_5 : decode cX12_far 5 = .ok (.bipush 8, 2) := by decide +kernel
theorem dX12_far_7 : decode cX12_far 7 = .ok (.if_icmp .ge 22, 3) := by decide +kernel
theorem dX12_far_10 : decode cX12_far 10 = .ok (.iload_n 2, 1) := by decide +kernel
theorem dX12_far_11 : decode cX12_far 11 = .ok (.aload_n 0, 1) := by decide +kernel
theorem dX12_far_12 : decode cX12_far 12 = .ok (.iload_n 1, 1) := by decide +kernel
theorem dX12_far_13 : decode cX12_far 13 = .ok (.iconst 3, 1) := by decide +kernel
theorem dX12_far_14 : decode cX12_far 14 = .ok (.invokevirtual 340, 3) := by decide +kernel
theorem dX12_far_17 : decode cX12_far 17 = .ok (.iload_n 3, 1) := by decide +kernel
theorem dX12_far_18 : decode cX12_far 18 = .ok (.ishr, 1) := by decide +kernel
theorem dX12_far_19 : decode cX12_far 19 = .ok (.iconst 1, 1) := by decide +kernel
theorem dX12_far_20 : decode cX12_far 20 = .ok (.iand, 1) := by decide +kernel
theorem dX12_far_21 : decode cX12_far 21 = .ok (.iadd, 1) := by decide +kernel
theorem dX12_far_22 : decode cX12_far 22 = .ok (.istore_n 2, 1) := by decide +kernel
theorem dX12_far_23 : decode cX12_far 23 = .ok (.iinc 3 1, 3) := by decide +kernel
theorem dX12_far_26 : decode cX12_far 26 = .ok (.goto (-22), 3) := by decide +kernel
theorem dX12_far_29 : decode cX12_far 29 = .ok (.iload_n 2, 1) := by decide +kernel
theorem dX12_far_30 : decode cX12_far 30 = .ok (.ireturn, 1) := by decide +kernel
theorem dX12_goesTo_0 : decode cX12_goesTo 0 = .ok (.aload_n 0, 1) := by decide +kernel
theorem dX12_goesTo_1 : decode cX12_goesTo 1 = .ok (.iload_n 1, 1) := by decide +kernel
theorem dX12_goesTo_2 : decode cX12_goesTo 2 = .ok (.bipush 6, 2) := by decide +kernel
theorem dX12_goesTo_4 : decode cX12_goesTo 4 = .ok (.invokevirtual 337, 3) := by decide +kernel
theorem dX12_goesTo_7 : decode cX12_goesTo 7 = .ok (.istore_n 3, 1) := by decide +kernel
theorem dX12_goesTo_8 : decode cX12_goesTo 8 = .ok (.iload_n 3, 1) := by decide +kernel
theorem dX12_goesTo_9 : decode cX12_goesTo 9 = .ok (.iload_n 1, 1) := by decide +kernel
theorem dX12_goesTo_10 : decode cX12_goesTo 10 = .ok (.if_icmp .eq 83, 3) := by decide +kernel
theorem dX12_goesTo_13 : decode cX12_goesTo 13 = .ok (.iload_n 2, 1) := by decide +kernel
theorem dX12_goesTo_14 : decode cX12_goesTo 14 = .ok (.aload_n 0, 1) := by decide +kernel
theorem dX12_goesTo_15 : decode cX12_goesTo 15 = .ok (.iload_n 3, 1) := by decide +kernel
theorem dX12_goesTo_16 : decode cX12_goesTo 16 = .ok (.iconst 2, 1) := by decide +kernel
theorem dX12_goesTo_17 : decode cX12_goesTo 17 = .ok (.invokevirtual 340, 3) := by decide +kernel
theorem dX12_goesTo_20 : decode cX12_goesTo 20 = .ok (.invokestatic 343, 3) := by decide +kernel
theorem dX12_goesTo_23 : decode cX12_goesTo 23 = .ok (.aload_n 0, 1) := by decide +kernel
theorem dX12_goesTo_24 : decode cX12_goesTo 24 = .ok (.getfield 32, 3) := by decide +kernel
theorem dX12_goesTo_27 : decode cX12_goesTo 27 = .ok (.if_icmp .le 7, 3) := by decide +kernel
theorem dX12_goesTo_30 : decode cX12_goesTo 30 = .ok (.iconst 1, 1) := by decide +kernel
theorem dX12_goesTo_31 : decode cX12_goesTo 31 = .ok (.goto 4, 3) := by decide +kernel
theorem dX12_goesTo_34 : decode cX12_goesTo 34 = .ok (.iconst 0, 1) := by decide +kernel
theorem dX12_goesTo_35 : decode cX12_goesTo 35 = .ok (.istore 4, 2) := by decide +kernel
theorem dX12_goesTo_37 : decode cX12_goesTo 37 = .ok (.aload_n 0, 1) := by decide +kernel
theorem dX12_goesTo_38 : decode cX12_goesTo 38 = .ok (.iload_n 1, 1) := by decide +kernel
theorem dX12_goesTo_39 : decode cX12_goesTo 39 = .ok (.bipush 7, 2) := by decide +kernel
theorem dX12_goesTo_41 : decode cX12_goesTo 41 = .ok (.iload 4, 2) := by decide +kernel
theorem dX12_goesTo_43 : decode cX12_goesTo 43 = .ok (.ifCond .eq 15, 3) := by decide +kernel
theorem dX12_goesTo_46 : decode cX12_goesTo 46 = .ok (.aload_n 0, 1) := by decide +kernel
theorem dX12_goesTo_47 : decode cX12_goesTo 47 = .ok (.iload_n 1, 1) := by decide +kernel
theorem dX12_goesTo_48 : decode cX12_goesTo 48 = .ok (.bipush 7, 2) := by decide +kernel
theorem dX12_goesTo_50 : decode cX12_goesTo 50 = .ok (.invokevirtual 337, 3) := by decide +kernel
theorem dX12_goesTo_53 : decode cX12_goesTo 53 = .ok (.iconst 1, 1) := by decide +kernel
theorem dX12_goesTo_54 : decode cX12_goesTo 54 = .ok (.iadd, 1) := by decide +kernel
theorem dX12_goesTo_55 : decode cX12_goesTo 55 = .ok (.goto 4, 3) := by decide +kernel
theorem dX12_goesTo_58 : decode cX12_goesTo 58 = .ok (.iconst 0, 1) := by decide +kernel
theorem dX12_goesTo_59 : decode cX12_goesTo 59 = .ok (.invokevirtual 314, 3) := by decide +kernel
theorem dX12_goesTo_62 : decode cX12_goesTo 62 = .ok (.aload_n 0, 1) := by decide +kernel
theorem dX12_goesTo_63 : decode cX12_goesTo 63 = .ok (.iload_n 1, 1) := by decide +kernel
theorem dX12_goesTo_64 : decode cX12_goesTo 64 = .ok (.bipush 7, 2) := by decide +kernel
theorem dX12_goesTo_66 : decode cX12_goesTo 66 = .ok (.invokevirtual 337, 3) := by decide +kernel
theorem dX12_goesTo_69 : decode cX12_goesTo 69 = .ok (.iconst 3, 1) := by decide +kernel
theorem dX12_goesTo_70 : decode cX12_goesTo 70 = .ok (.if_icmp .ge 5, 3) := by decide +kernel
theorem dX12_goesTo_73 : decode cX12_goesTo 73 = .ok (.iload_n 3, 1) := by decide +kernel
theorem dX12_goesTo_74 : decode cX12_goesTo 74 = .ok (.ireturn, 1) := by decide +kernel
theorem dX12_goesTo_75 : decode cX12_goesTo 75 = .ok (.aload_n 0, 1) := by decide +kernel
theorem dX12_goesTo_76 : decode cX12_goesTo 76 = .ok (.iload_n 1, 1) := by decide +kernel
theorem dX12_goesTo_77 : decode cX12_goesTo 77 = .ok (.bipush 7, 2) := by decide +kernel
theorem dX12_goesTo_79 : decode cX12_goesTo 79 = .ok (.iconst 0, 1) := by decide +kernel
theorem dX12_goesTo_80 : decode cX12_goesTo 80 = .ok (.invokevirtual 314, 3) := by decide +kernel
theorem dX12_goesTo_83 : decode cX12_goesTo 83 = .ok (.aload_n 0, 1) := by decide +kernel
theorem dX12_goesTo_84 : decode cX12_goesTo 84 = .ok (.iload_n 1, 1) := by decide +kernel
theorem dX12_goesTo_85 : decode cX12_goesTo 85 = .ok (.bipush 6, 2) := by decide +kernel
theorem dX12_goesTo_87 : decode cX12_goesTo 87 = .ok (.iload_n 1, 1) := by decide +kernel
theorem dX12_goesTo_88 : decode cX12_goesTo 88 = .ok (.invokevirtual 314, 3) := by decide +kernel
theorem dX12_goesTo_91 : decode cX12_goesTo 91 = .ok (.iload_n 1, 1) := by decide +kernel
theorem dX12_goesTo_92 : decode cX12_goesTo 92 = .ok (.ireturn, 1) := by decide +kernel
theorem dX12_goesTo_93 : decode cX12_goesTo 93 = .ok (.aload_n 0, 1) := by decide +kernel
theorem dX12_goesTo_94 : decode cX12_goesTo 94 = .ok (.iconst 2, 1) := by decide +kernel
theorem dX12_goesTo_95 : decode cX12_goesTo 95 = .ok (.invokevirtual 321, 3) := by decide +kernel
theorem dX12_goesTo_98 : decode cX12_goesTo 98 = .ok (.istore 4, 2) := by decide +kernel
theorem dX12_goesTo_100 : decode cX12_goesTo 100 = .ok (.iload 4, 2) := by decide +kernel
theorem dX12_goesTo_102 : decode cX12_goesTo 102 = .ok (.iconst (-1), 1) := by decide +kernel
theorem dX12_goesTo_103 : decode cX12_goesTo 103 = .ok (.if_icmp .eq 48, 3) := by decide +kernel
theorem dX12_goesTo_106 : decode cX12_goesTo 106 = .ok (.iload 4, 2) := by decide +kernel
theorem dX12_goesTo_108 : decode cX12_goesTo 108 = .ok (.iload_n 1, 1) := by decide +kernel
theorem dX12_goesTo_109 : decode cX12_goesTo 109 = .ok (.if_icmp .eq 42, 3) := by decide +kernel
theorem dX12_goesTo_112 : decode cX12_goesTo 112 = .ok (.aload_n 0, 1) := by decide +kernel
theorem dX12_goesTo_113 : decode cX12_goesTo 113 = .ok (.getfield 57, 3) := by decide +kernel
theorem dX12_goesTo_116 : decode cX12_goesTo 116 = .ok (.iload_n 1, 1) := by decide +kernel
theorem dX12_goesTo_117 : decode cX12_goesTo 117 = .ok (.iaload, 1) := by decide +kernel
theorem dX12_goesTo_118 : decode cX12_goesTo 118 = .ok (.iconst 1, 1) := by decide +kernel
theorem dX12_goesTo_119 : decode cX12_goesTo 119 = .ok (.if_icmp .eq 32, 3) := by decide +kernel
theorem dX12_goesTo_122 : decode cX12_goesTo 122 = .ok (.aload_n 0, 1) := by decide +kernel
theorem dX12_goesTo_123 : decode cX12_goesTo 123 = .ok (.getfield 57, 3) := by decide +kernel
theorem dX12_goesTo_126 : decode cX12_goesTo 126 = .ok (.iload 4, 2) := by decide +kernel
theorem dX12_goesTo_128 : decode cX12_goesTo 128 = .ok (.iaload, 1) := by decide +kernel
theorem dX12_goesTo_129 : decode cX12_goesTo 129 = .ok (.iconst 1, 1) := by decide +kernel
theorem dX12_goesTo_130 : decode cX12_goesTo 130 = .ok (.if_icmp .eq 21, 3) := by decide +kernel
theorem dX12_goesTo_133 : decode cX12_goesTo 133 = .ok (.iload_n 2, 1) := by decide +kernel
theorem dX12_goesTo_134 : decode cX12_goesTo 134 = .ok (.aload_n 0, 1) := by decide +kernel
theorem dX12_goesTo_135 : decode cX12_goesTo 135 = .ok (.iload 4, 2) := by decide +kernel
theorem dX12_goesTo_137 : decode cX12_goesTo 137 = .ok (.iconst 2, 1) := by decide +kernel
theorem dX12_goesTo_138 : decode cX12_goesTo 138 = .ok (.invokevirtual 340, 3) := by decide +kernel
theorem dX12_goesTo_141 : decode cX12_goesTo 141 = .ok (.invokestatic 343, 3) := by decide +kernel
theorem dX12_goesTo_144 : decode cX12_goesTo 144 = .ok (.aload_n 0, 1) := by decide +kernel
theorem dX12_goesTo_145 : decode cX12_goesTo 145 = .ok (.getfield 32, 3) := by decide +kernel
theorem dX12_goesTo_148 : decode cX12_goesTo 148 = .ok (.if_icmp .le 5, 3) := by decide +kernel
theorem dX12_goesTo_151 : decode cX12_goesTo 151 = .ok (.iload_n 1, 1) := by decide +kernel
theorem dX12_goesTo_152 : decode cX12_goesTo 152 = .ok (.ireturn, 1) := by decide +kernel
theorem dX12_goesTo_153 : decode cX12_goesTo 153 = .ok (.aload_n 0, 1) := by decide +kernel
theorem dX12_goesTo_154 : decode cX12_goesTo 154 = .ok (.iload_n 1, 1) := by decide +kernel
theorem dX12_goesTo_155 : decode cX12_goesTo 155 = .ok (.bipush 6, 2) := by decide +kernel
theorem dX12_goesTo_157 : decode cX12_goesTo 157 = .ok (.iload 4, 2) := by decide +kernel
theorem dX12_goesTo_159 : decode cX12_goesTo 159 = .ok (.invokevirtual 314, 3) := by decide +kernel
theorem dX12_goesTo_162 : decode cX12_goesTo 162 = .ok (.aload_n 0, 1) := by decide +kernel
theorem dX12_goesTo_163 : decode cX12_goesTo 163 = .ok (.iload_n 1, 1) := by decide +kernel
theorem dX12_goesTo_164 : decode cX12_goesTo 164 = .ok (.bipush 7, 2) := by decide +kernel
theorem dX12_goesTo_166 : decode cX12_goesTo 166 = .ok (.iconst 0, 1) := by decide +kernel
theorem dX12_goesTo_167 : decode cX12_goesTo 167 = .ok (.invokevirtual 314, 3) := by decide +kernel
theorem dX12_goesTo_170 : decode cX12_goesTo 170 = .ok (.iload 4, 2) := by decide +kernel
theorem dX12_goesTo_172 : decode cX12_goesTo 172 = .ok (.ireturn, 1) := by decide +kernel
theorem dX12_asks_0 : decode cX12_asks 0 = .ok (.aload_n 0, 1) := by decide +kernel
theorem dX12_asks_1 : decode cX12_asks 1 = .ok (.iload_n 1, 1) := by decide +kernel
theorem dX12_asks_2 : decode cX12_asks 2 = .ok (.iconst 3, 1) := by decide +kernel
theorem dX12_asks_3 : decode cX12_asks 3 = .ok (.iload_n 2, 1) := by decide +kernel
theorem dX12_asks_4 : decode cX12_asks 4 = .ok (.iload_n 3, 1) := by decide +kernel
theorem dX12_asks_5 : decode cX12_asks 5 = .ok (.iadd, 1) := by decide +kernel
theorem dX12_asks_6 : decode cX12_asks 6 = .ok (.invokevirtual 314, 3) := by decide +kernel
theorem dX12_asks_9 : decode cX12_asks 9 = .ok (.aload_n 0, 1) := by decide +kernel
theorem dX12_asks_10 : decode cX12_asks 10 = .ok (.iload_n 1, 1) := by decide +kernel
theorem dX12_asks_11 : decode cX12_asks 11 = .ok (.iload_n 2, 1) := by decide +kernel
theorem dX12_asks_12 : decode cX12_asks 12 = .ok (.invokevirtual 346, 3) := by decide +kernel
theorem dX12_asks_15 : decode cX12_asks 15 = .ok (.istore 6, 2) := by decide +kernel
theorem dX12_asks_17 : decode cX12_asks 17 = .ok (.aload_n 0, 1) := by decide +kernel
theorem dX12_asks_18 : decode cX12_asks 18 = .ok (.iload 6, 2) := by decide +kernel
theorem dX12_asks_20 : decode cX12_asks 20 = .ok (.iconst 3, 1) := by decide +kernel
theorem dX12_asks_21 : decode cX12_asks 21 = .ok (.iconst 2, 1) := by decide +kernel
theorem dX12_asks_22 : decode cX12_asks 22 = .ok (.aload_n 0, 1) := by decide +kernel
theorem dX12_asks_23 : decode cX12_asks 23 = .ok (.iload 6, 2) := by decide +kernel
theorem dX12_asks_25 : decode cX12_asks 25 = .ok (.iconst 3, 1) := by decide +kernel
theorem dX12_asks_26 : decode cX12_asks 26 = .ok (.invokevirtual 340, 3) := by decide +kernel
theorem dX12_asks_29 : decode cX12_asks 29 = .ok (.imul, 1) := by decide +kernel
theorem dX12_asks_30 : decode cX12_asks 30 = .ok (.iload_n 2, 1) := by decide +kernel
theorem dX12_asks_31 : decode cX12_asks 31 = .ok (.aload_n 0, 1) := by decide +kernel
theorem dX12_asks_32 : decode cX12_asks 32 = .ok (.iload 6, 2) := by decide +kernel
theorem dX12_asks_34 : decode cX12_asks 34 = .ok (.iconst 2, 1) := by decide +kernel
theorem dX12_asks_35 : decode cX12_asks 35 = .ok (.invokevirtual 340, 3) := by decide +kernel
theorem dX12_asks_38 : decode cX12_asks 38 = .ok (.invokestatic 343, 3) := by decide +kernel
theorem dX12_asks_41 : decode cX12_asks 41 = .ok (.aload_n 0, 1) := by decide +kernel
theorem dX12_asks_42 : decode cX12_asks 42 = .ok (.getfield 32, 3) := by decide +kernel
theorem dX12_asks_45 : decode cX12_asks 45 = .ok (.if_icmp .le 7, 3) := by decide +kernel
theorem dX12_asks_48 : decode cX12_asks 48 = .ok (.iconst 1, 1) := by decide +kernel
theorem dX12_asks_49 : decode cX12_asks 49 = .ok (.goto 4, 3) := by decide +kernel
theorem dX12_asks_52 : decode cX12_asks 52 = .ok (.iconst 0, 1) := by decide +kernel
theorem dX12_asks_53 : decode cX12_asks 53 = .ok (.iadd, 1) := by decide +kernel
theorem dX12_asks_54 : decode cX12_asks 54 = .ok (.sipush 255, 3) := by decide +kernel
theorem dX12_asks_57 : decode cX12_asks 57 = .ok (.iand, 1) := by decide +kernel
theorem dX12_asks_58 : decode cX12_asks 58 = .ok (.invokevirtual 331, 3) := by decide +kernel
theorem dX12_asks_61 : decode cX12_asks 61 = .ok (.aload_n 0, 1) := by decide +kernel
theorem dX12_asks_62 : decode cX12_asks 62 = .ok (.iload 6, 2) := by decide +kernel
theorem dX12_asks_64 : decode cX12_asks 64 = .ok (.iconst 2, 1) := by decide +kernel
theorem dX12_asks_65 : decode cX12_asks 65 = .ok (.iload_n 2, 1) := by decide +kernel
theorem dX12_asks_66 : decode cX12_asks 66 = .ok (.iload_n 3, 1) := by decide +kernel
theorem dX12_asks_67 : decode cX12_asks 67 = .ok (.iadd, 1) := by decide +kernel
theorem dX12_asks_68 : decode cX12_asks 68 = .ok (.invokevirtual 331, 3) := by decide +kernel
theorem dX12_asks_71 : decode cX12_asks 71 = .ok (.aload_n 0, 1) := by decide +kernel
theorem dX12_asks_72 : decode cX12_asks 72 = .ok (.iconst 2, 1) := by decide +kernel
theorem dX12_asks_73 : decode cX12_asks 73 = .ok (.invokevirtual 321, 3) := by decide +kernel
theorem dX12_asks_76 : decode cX12_asks 76 = .ok (.iload 6, 2) := by decide +kernel
theorem dX12_asks_78 : decode cX12_asks 78 = .ok (.if_icmp .ne 7, 3) := by decide +kernel
theorem dX12_asks_81 : decode cX12_asks 81 = .ok (.iconst 1, 1) := by decide +kernel
theorem dX12_asks_82 : decode cX12_asks 82 = .ok (.goto 4, 3) := by decide +kernel
theorem dX12_asks_85 : decode cX12_asks 85 = .ok (.iconst 0, 1) := by decide +kernel
theorem dX12_asks_86 : decode cX12_asks 86 = .ok (.istore 7, 2) := by decide +kernel
theorem dX12_asks_88 : decode cX12_asks 88 = .ok (.aload_n 0, 1) := by decide +kernel
theorem dX12_asks_89 : decode cX12_asks 89 = .ok (.iload 6, 2) := by decide +kernel
theorem dX12_asks_91 : decode cX12_asks 91 = .ok (.invokevirtual 349, 3) := by decide +kernel
theorem dX12_asks_94 : decode cX12_asks 94 = .ok (.ifCond .le 7, 3) := by decide +kernel
theorem dX12_asks_97 : decode cX12_asks 97 = .ok (.iconst 1, 1) := by decide +kernel
theorem dX12_asks_98 : decode cX12_asks 98 = .ok (.goto 4, 3) := by decide +kernel
theorem dX12_asks_101 : decode cX12_asks 101 = .ok (.iconst 0, 1) := by decide +kernel
theorem dX12_asks_102 : decode cX12_asks 102 = .ok (.istore 8, 2) := by decide +kernel
theorem dX12_asks_104 : decode cX12_asks 104 = .ok (.aload_n 0, 1) := by decide +kernel
theorem dX12_asks_105 : decode cX12_asks 105 = .ok (.iconst 0, 1) := by decide +kernel
theorem dX12_asks_106 : decode cX12_asks 106 = .ok (.invokevirtual 321, 3) := by decide +kernel
theorem dX12_asks_109 : decode cX12_asks 109 = .ok (.aload_n 0, 1) := by decide +kernel
theorem dX12_asks_110 : decode cX12_asks 110 = .ok (.iload 6, 2) := by decide +kernel
theorem dX12_asks_112 : decode cX12_asks 112 = .ok (.iconst 4, 1) := by decide +kernel
theorem dX12_asks_113 : decode cX12_asks 113 = .ok (.invokevirtual 340, 3) := by decide +kernel
theorem dX12_asks_116 : decode cX12_asks 116 = .ok (.isub, 1) := by decide +kernel
theorem dX12_asks_117 : decode cX12_asks 117 = .ok (.istore 9, 2) := by decide +kernel
theorem dX12_asks_119 : decode cX12_asks 119 = .ok (.iload 8, 2) := by decide +kernel
theorem dX12_asks_121 : decode cX12_asks 121 = .ok (.ifCond .ne 66, 3) := by decide +kernel
theorem dX12_asks_124 : decode cX12_asks 124 = .ok (.iload 7, 2) := by decide +kernel
theorem dX12_asks_126 : decode cX12_asks 126 = .ok (.ifCond .eq 11, 3) := by decide +kernel
theorem dX12_asks_129 : decode cX12_asks 129 = .ok (.aload_n 0, 1) := by decide +kernel
theorem dX12_asks_130 : decode cX12_asks 130 = .ok (.iconst 5, 1) := by decide +kernel
theorem dX12_asks_131 : decode cX12_asks 131 = .ok (.invokevirtual 321, 3) := by decide +kernel
theorem dX12_asks_134 : decode cX12_asks 134 = .ok (.ifCond .gt 53, 3) := by decide +kernel
theorem dX12_asks_137 : decode cX12_asks 137 = .ok (.aload_n 0, 1) := by decide +kernel
theorem dX12_asks_138 : decode cX12_asks 138 = .ok (.getfield 57, 3) := by decide +kernel
theorem dX12_asks_141 : decode cX12_asks 141 = .ok (.iload 6, 2) := by decide +kernel
theorem dX12_asks_143 : decode cX12_asks 143 = .ok (.iaload, 1) := by decide +kernel
theorem dX12_asks_144 : decode cX12_asks 144 = .ok (.ifCond .ne 43, 3) := by decide +kernel
theorem dX12_asks_147 : decode cX12_asks 147 = .ok (.aload_n 0, 1) := by decide +kernel
theorem dX12_asks_148 : decode cX12_asks 148 = .ok (.iload 6, 2) := by decide +kernel
theorem dX12_asks_150 : decode cX12_asks 150 = .ok (.iconst 4, 1) := by decide +kernel
theorem dX12_asks_151 : decode cX12_asks 151 = .ok (.invokevirtual 340, 3) := by decide +kernel
theorem dX12_asks_154 : decode cX12_asks 154 = .ok (.ifCond .eq 33, 3) := by decide +kernel
theorem dX12_asks_157 : decode cX12_asks 157 = .ok (.aload_n 0, 1) := by decide +kernel
theorem dX12_asks_158 : decode cX12_asks 158 = .ok (.bipush 12, 2) := by decide +kernel
theorem dX12_asks_160 : decode cX12_asks 160 = .ok (.iload 6, 2) := by decide +kernel
theorem dX12_asks_162 : decode cX12_asks 162 = .ok (.iadd, 1) := by decide +kernel
theorem dX12_asks_163 : decode cX12_asks 163 = .ok (.aload_n 0, 1) := by decide +kernel
theorem dX12_asks_164 : decode cX12_asks 164 = .ok (.bipush 12, 2) := by decide +kernel
theorem dX12_asks_166 : decode cX12_asks 166 = .ok (.iload 6, 2) := by decide +kernel
theorem dX12_asks_168 : decode cX12_asks 168 = .ok (.iadd, 1) := by decide +kernel
theorem dX12_asks_169 : decode cX12_asks 169 = .ok (.invokevirtual 352, 3) := by decide +kernel
theorem dX12_asks_172 : decode cX12_asks 172 = .ok (.ldc_w 356, 3) := by decide +kernel
theorem dX12_asks_175 : decode cX12_asks 175 = .ok (.fmul, 1) := by decide +kernel
theorem dX12_asks_176 : decode cX12_asks 176 = .ok (.iload 9, 2) := by decide +kernel
theorem dX12_asks_178 : decode cX12_asks 178 = .ok (.i2f, 1) := by decide +kernel
theorem dX12_asks_179 : decode cX12_asks 179 = .ok (.ldc_w 357, 3) := by decide +kernel
theorem dX12_asks_182 : decode cX12_asks 182 = .ok (.fmul, 1) := by decide +kernel
theorem dX12_asks_183 : decode cX12_asks 183 = .ok (.fadd, 1) := by decide +kernel
theorem dX12_asks_184 : decode cX12_asks 184 = .ok (.invokevirtual 327, 3) := by decide +kernel
theorem dX12_asks_187 : decode cX12_asks 187 = .ok (.iload 8, 2) := by decide +kernel
theorem dX12_asks_189 : decode cX12_asks 189 = .ok (.ifCond .ne 113, 3) := by decide +kernel
theorem dX12_asks_192 : decode cX12_asks 192 = .ok (.iload 7, 2) := by decide +kernel
theorem dX12_asks_194 : decode cX12_asks 194 = .ok (.ifCond .ne 108, 3) := by decide +kernel
theorem dX12_asks_197 : decode cX12_asks 197 = .ok (.iload 9, 2) := by decide +kernel
theorem dX12_asks_199 : decode cX12_asks 199 = .ok (.aload_n 0, 1) := by decide +kernel
theorem dX12_asks_200 : decode cX12_asks 200 = .ok (.getfield 41, 3) := by decide +kernel
theorem dX12_asks_203 : decode cX12_asks 203 = .ok (.if_icmp .lt 20, 3) := by decide +kernel
theorem dX12_asks_206 : decode cX12_asks 206 = .ok (.aload_n 0, 1) := by decide +kernel
theorem dX12_asks_207 : decode cX12_asks 207 = .ok (.iload 6, 2) := by decide +kernel
theorem dX12_asks_209 : decode cX12_asks 209 = .ok (.iconst 5, 1) := by decide +kernel
theorem dX12_asks_210 : decode cX12_asks 210 = .ok (.aload_n 0, 1) := by decide +kernel
theorem dX12_asks_211 : decode cX12_asks 211 = .ok (.iconst 0, 1) := by decide +kernel
theorem dX12_asks_212 : decode cX12_asks 212 = .ok (.invokevirtual 321, 3) := by decide +kernel
theorem dX12_asks_215 : decode cX12_asks 215 = .ok (.aload_n 0, 1) := by decide +kernel
theorem dX12_asks_216 : decode cX12_asks 216 = .ok (.getfield 38, 3) := by decide +kernel
theorem dX12_asks_219 : decode cX12_asks 219 = .ok (.iadd, 1) := by decide +kernel
theorem dX12_asks_220 : decode cX12_asks 220 = .ok (.invokevirtual 331, 3) := by decide +kernel
theorem dX12_asks_223 : decode cX12_asks 223 = .ok (.aload_n 0, 1) := by decide +kernel
theorem dX12_asks_224 : decode cX12_asks 224 = .ok (.iconst 0, 1) := by decide +kernel
theorem dX12_asks_225 : decode cX12_asks 225 = .ok (.iload 6, 2) := by decide +kernel
theorem dX12_asks_227 : decode cX12_asks 227 = .ok (.iadd, 1) := by decide +kernel
theorem dX12_asks_228 : decode cX12_asks 228 = .ok (.aload_n 0, 1) := by decide +kernel
theorem dX12_asks_229 : decode cX12_asks 229 = .ok (.bipush 18, 2) := by decide +kernel
theorem dX12_asks_231 : decode cX12_asks 231 = .ok (.invokevirtual 352, 3) := by decide +kernel
theorem dX12_asks_234 : decode cX12_asks 234 = .ok (.aload_n 0, 1) := by decide +kernel
theorem dX12_asks_235 : decode cX12_asks 235 = .ok (.bipush 6, 2) := by decide +kernel
theorem dX12_asks_237 : decode cX12_asks 237 = .ok (.iload 6, 2) := by decide +kernel
theorem dX12_asks_239 : decode cX12_asks 239 = .ok (.iadd, 1) := by decide +kernel
theorem dX12_asks_240 : decode cX12_asks 240 = .ok (.invokevirtual 352, 3) := by decide +kernel
theorem dX12_asks_243 : decode cX12_asks 243 = .ok (.fcmp .l, 1) := by decide +kernel
theorem dX12_asks_244 : decode cX12_asks 244 = .ok (.ifCond .le 12, 3) := by decide +kernel
theorem dX12_asks_247 : decode cX12_asks 247 = .ok (.aload_n 0, 1) := by decide +kernel
theorem dX12_asks_248 : decode cX12_asks 248 = .ok (.bipush 18, 2) := by decide +kernel
theorem dX12_asks_250 : decode cX12_asks 250 = .ok (.invokevirtual 352, 3) := by decide +kernel
theorem dX12_asks_253 : decode cX12_asks 253 = .ok (.goto 12, 3) := by decide +kernel
theorem dX12_asks_256 : decode cX12_asks 256 = .ok (.aload_n 0, 1) := by decide +kernel
theorem dX12_asks_257 : decode cX12_asks 257 = .ok (.bipush 6, 2) := by decide +kernel
theorem dX12_asks_259 : decode cX12_asks 259 = .ok (.iload 6, 2) := by decide +kernel
theorem dX12_asks_261 : decode cX12_asks 261 = .ok (.iadd, 1) := by decide +kernel
theorem dX12_asks_262 : decode cX12_asks 262 = .ok (.invokevirtual 352, 3) := by decide +kernel
theorem dX12_asks_265 : decode cX12_asks 265 = .ok (.invokevirtual 327, 3) := by decide +kernel
theorem dX12_asks_268 : decode cX12_asks 268 = .ok (.aload_n 0, 1) := by decide +kernel
theorem dX12_asks_269 : decode cX12_asks 269 = .ok (.bipush 6, 2) := by decide +kernel
theorem dX12_asks_271 : decode cX12_asks 271 = .ok (.iload 6, 2) := by decide +kernel
theorem dX12_asks_273 : decode cX12_asks 273 = .ok (.iadd, 1) := by decide +kernel
theorem dX12_asks_274 : decode cX12_asks 274 = .ok (.aload_n 0, 1) := by decide +kernel
theorem dX12_asks_275 : decode cX12_asks 275 = .ok (.iconst 0, 1) := by decide +kernel
theorem dX12_asks_276 : decode cX12_asks 276 = .ok (.iload 6, 2) := by decide +kernel
theorem dX12_asks_278 : decode cX12_asks 278 = .ok (.iadd, 1) := by decide +kernel
theorem dX12_asks_279 : decode cX12_asks 279 = .ok (.invokevirtual 352, 3) := by decide +kernel
theorem dX12_asks_282 : decode cX12_asks 282 = .ok (.aload_n 0, 1) := by decide +kernel
theorem dX12_asks_283 : decode cX12_asks 283 = .ok (.iload 6, 2) := by decide +kernel
theorem dX12_asks_285 : decode cX12_asks 285 = .ok (.iconst 0, 1) := by decide +kernel
theorem dX12_asks_286 : decode cX12_asks 286 = .ok (.invokevirtual 340, 3) := by decide +kernel
theorem dX12_asks_289 : decode cX12_asks 289 = .ok (.i2f, 1) := by decide +kernel
theorem dX12_asks_290 : decode cX12_asks 290 = .ok (.aload_n 0, 1) := by decide +kernel
theorem dX12_asks_291 : decode cX12_asks 291 = .ok (.iload 6, 2) := by decide +kernel
theorem dX12_asks_293 : decode cX12_asks 293 = .ok (.invokevirtual 358, 3) := by decide +kernel
theorem dX12_asks_296 : decode cX12_asks 296 = .ok (.i2f, 1) := by decide +kernel
theorem dX12_asks_297 : decode cX12_asks 297 = .ok (.fdiv, 1) := by decide +kernel
theorem dX12_asks_298 : decode cX12_asks 298 = .ok (.fadd, 1) := by decide +kernel
theorem dX12_asks_299 : decode cX12_asks 299 = .ok (.invokevirtual 327, 3) := by decide +kernel
theorem dX12_asks_302 : decode cX12_asks 302 = .ok (.aload_n 0, 1) := by decide +kernel
theorem dX12_asks_303 : decode cX12_asks 303 = .ok (.iload_n 1, 1) := by decide +kernel
theorem dX12_asks_304 : decode cX12_asks 304 = .ok (.iconst 5, 1) := by decide +kernel
theorem dX12_asks_305 : decode cX12_asks 305 = .ok (.aload_n 0, 1) := by decide +kernel
theorem dX12_asks_306 : decode cX12_asks 306 = .ok (.iload_n 1, 1) := by decide +kernel
theorem dX12_asks_307 : decode cX12_asks 307 = .ok (.iconst 5, 1) := by decide +kernel
theorem dX12_asks_308 : decode cX12_asks 308 = .ok (.invokevirtual 337, 3) := by decide +kernel
theorem dX12_asks_311 : decode cX12_asks 311 = .ok (.iconst 1, 1) := by decide +kernel
theorem dX12_asks_312 : decode cX12_asks 312 = .ok (.iadd, 1) := by decide +kernel
theorem dX12_asks_313 : decode cX12_asks 313 = .ok (.invokevirtual 314, 3) := by decide +kernel
theorem dX12_asks_316 : decode cX12_asks 316 = .ok (.sipush 150, 3) := by decide +kernel
theorem dX12_asks_319 : decode cX12_asks 319 = .ok (.bipush 7, 2) := by decide +kernel
theorem dX12_asks_321 : decode cX12_asks 321 = .ok (.aload_n 0, 1) := by decide +kernel
theorem dX12_asks_322 : decode cX12_asks 322 = .ok (.bipush 10, 2) := by decide +kernel
theorem dX12_asks_324 : decode cX12_asks 324 = .ok (.invokevirtual 321, 3) := by decide +kernel
theorem dX12_asks_327 : decode cX12_asks 327 = .ok (.imul, 1) := by decide +kernel
theorem dX12_asks_328 : decode cX12_asks 328 = .ok (.iadd, 1) := by decide +kernel
theorem dX12_asks_329 : decode cX12_asks 329 = .ok (.istore 10, 2) := by decide +kernel
theorem dX12_asks_331 : decode cX12_asks 331 = .ok (.aload_n 0, 1) := by decide +kernel
theorem dX12_asks_332 : decode cX12_asks 332 = .ok (.iload 10, 2) := by decide +kernel
theorem dX12_asks_334 : decode cX12_asks 334 = .ok (.iconst 0, 1) := by decide +kernel
theorem dX12_asks_335 : decode cX12_asks 335 = .ok (.iadd, 1) := by decide +kernel
theorem dX12_asks_336 : decode cX12_asks 336 = .ok (.iload 6, 2) := by decide +kernel
theorem dX12_asks_338 : decode cX12_asks 338 = .ok (.invokevirtual 318, 3) := by decide +kernel
theorem dX12_asks_341 : decode cX12_asks 341 = .ok (.aload_n 0, 1) := by decide +kernel
theorem dX12_asks_342 : decode cX12_asks 342 = .ok (.iload 10, 2) := by decide +kernel
theorem dX12_asks_344 : decode cX12_asks 344 = .ok (.iconst 1, 1) := by decide +kernel
theorem dX12_asks_345 : decode cX12_asks 345 = .ok (.iadd, 1) := by decide +kernel
theorem dX12_asks_346 : decode cX12_asks 346 = .ok (.iload_n 2, 1) := by decide +kernel
theorem dX12_asks_347 : decode cX12_asks 347 = .ok (.invokevirtual 318, 3) := by decide +kernel
theorem dX12_asks_350 : decode cX12_asks 350 = .ok (.aload_n 0, 1) := by decide +kernel
theorem dX12_asks_351 : decode cX12_asks 351 = .ok (.iload 10, 2) := by decide +kernel
theorem dX12_asks_353 : decode cX12_asks 353 = .ok (.iconst 2, 1) := by decide +kernel
theorem dX12_asks_354 : decode cX12_asks 354 = .ok (.iadd, 1) := by decide +kernel
theorem dX12_asks_355 : decode cX12_asks 355 = .ok (.iload_n 3, 1) := by decide +kernel
theorem dX12_asks_356 : decode cX12_asks 356 = .ok (.invokevirtual 318, 3) := by decide +kernel
theorem dX12_asks_359 : decode cX12_asks 359 = .ok (.aload_n 0, 1) := by decide +kernel
theorem dX12_asks_360 : decode cX12_asks 360 = .ok (.iload 10, 2) := by decide +kernel
theorem dX12_asks_362 : decode cX12_asks 362 = .ok (.iconst 3, 1) := by decide +kernel
theorem dX12_asks_363 : decode cX12_asks 363 = .ok (.iadd, 1) := by decide +kernel
theorem dX12_asks_364 : decode cX12_asks 364 = .ok (.iload_n 1, 1) := by decide +kernel
theorem dX12_asks_365 : decode cX12_asks 365 = .ok (.invokevirtual 318, 3) := by decide +kernel
theorem dX12_asks_368 : decode cX12_asks 368 = .ok (.aload_n 0, 1) := by decide +kernel
theorem dX12_asks_369 : decode cX12_asks 369 = .ok (.iload 10, 2) := by decide +kernel
theorem dX12_asks_371 : decode cX12_asks 371 = .ok (.iconst 4, 1) := by decide +kernel
theorem dX12_asks_372 : decode cX12_asks 372 = .ok (.iadd, 1) := by decide +kernel
theorem dX12_asks_373 : decode cX12_asks 373 = .ok (.aload_n 0, 1) := by decide +kernel
theorem dX12_asks_374 : decode cX12_asks 374 = .ok (.iconst 0, 1) := by decide +kernel
theorem dX12_asks_375 : decode cX12_asks 375 = .ok (.invokevirtual 321, 3) := by decide +kernel
theorem dX12_asks_378 : decode cX12_asks 378 = .ok (.invokevirtual 318, 3) := by decide +kernel
theorem dX12_asks_381 : decode cX12_asks 381 = .ok (.aload_n 0, 1) := by decide +kernel
theorem dX12_asks_382 : decode cX12_asks 382 = .ok (.iload 10, 2) := by decide +kernel
theorem dX12_asks_384 : decode cX12_asks 384 = .ok (.iconst 5, 1) := by decide +kernel
theorem dX12_asks_385 : decode cX12_asks 385 = .ok (.iadd, 1) := by decide +kernel
theorem dX12_asks_386 : decode cX12_asks 386 = .ok (.iload 4, 2) := by decide +kernel
theorem dX12_asks_388 : decode cX12_asks 388 = .ok (.invokevirtual 318, 3) := by decide +kernel
theorem dX12_asks_391 : decode cX12_asks 391 = .ok (.aload_n 0, 1) := by decide +kernel
theorem dX12_asks_392 : decode cX12_asks 392 = .ok (.iload 10, 2) := by decide +kernel
theorem dX12_asks_394 : decode cX12_asks 394 = .ok (.bipush 6, 2) := by decide +kernel
theorem dX12_asks_396 : decode cX12_asks 396 = .ok (.iadd, 1) := by decide +kernel
theorem dX12_asks_397 : decode cX12_asks 397 = .ok (.iload 5, 2) := by decide +kernel
theorem dX12_asks_399 : decode cX12_asks 399 = .ok (.invokevirtual 318, 3) := by decide +kernel
theorem dX12_asks_402 : decode cX12_asks 402 = .ok (.aload_n 0, 1) := by decide +kernel
theorem dX12_asks_403 : decode cX12_asks 403 = .ok (.bipush 10, 2) := by decide +kernel
theorem dX12_asks_405 : decode cX12_asks 405 = .ok (.aload_n 0, 1) := by decide +kernel
theorem dX12_asks_406 : decode cX12_asks 406 = .ok (.bipush 10, 2) := by decide +kernel
theorem dX12_asks_408 : decode cX12_asks 408 = .ok (.invokevirtual 321, 3) := by decide +kernel
theorem dX12_asks_411 : decode cX12_asks 411 = .ok (.iconst 1, 1) := by decide +kernel
theorem dX12_asks_412 : decode cX12_asks 412 = .ok (.iadd, 1) := by decide +kernel
theorem dX12_asks_413 : decode cX12_asks 413 = .ok (.invokevirtual 318, 3) := by decide +kernel
theorem dX12_asks_416 : decode cX12_asks 416 = .ok (.return_, 1) := by decide +kernel
theorem dX12_asksByStep_0 : decode cX12_asksByStep 0 = .ok (.aload_n 0, 1) := by decide +kernel
theorem dX12_asksByStep_1 : decode cX12_asksByStep 1 = .ok (.getfield 57, 3) := by decide +kernel
theorem dX12_asksByStep_4 : decode cX12_asksByStep 4 = .ok (.iload_n 1, 1) := by decide +kernel
theorem dX12_asksByStep_5 : decode cX12_asksByStep 5 = .ok (.iaload, 1) := by decide +kernel
theorem dX12_asksByStep_6 : decode cX12_asksByStep 6 = .ok (.iconst 1, 1) := by decide +kernel
theorem dX12_asksByStep_7 : decode cX12_asksByStep 7 = .ok (.if_icmp .ne 14, 3) := by decide +kernel
theorem dX12_asksByStep_10 : decode cX12_asksByStep 10 = .ok (.aload_n 0, 1) := by decide +kernel
theorem dX12_asksByStep_11 : decode cX12_asksByStep 11 = .ok (.iload_n 1, 1) := by decide +kernel
theorem dX12_asksByStep_12 : decode cX12_asksByStep 12 = .ok (.iconst 5, 1) := by decide +kernel
theorem dX12_asksByStep_13 : decode cX12_asksByStep 13 = .ok (.invokevirtual 337, 3) := by decide +kernel
theorem dX12_asksByStep_16 : decode cX12_asksByStep 16 = .ok (.iconst 4, 1) := by decide +kernel
theorem dX12_asksByStep_17 : decode cX12_asksByStep 17 = .ok (.if_icmp .lt 4, 3) := by decide +kernel
theorem dX12_asksByStep_20 : decode cX12_asksByStep 20 = .ok (.return_, 1) := by decide +kernel
theorem dX12_asksByStep_21 : decode cX12_asksByStep 21 = .ok (.iconst 3, 1) := by decide +kernel
theorem dX12_asksByStep_22 : decode cX12_asksByStep 22 = .ok (.bipush 6, 2) := by decide +kernel
theorem dX12_asksByStep_24 : decode cX12_asksByStep 24 = .ok (.iload_n 1, 1) := by decide +kernel
theorem dX12_asksByStep_25 : decode cX12_asksByStep 25 = .ok (.imul, 1) := by decide +kernel
theorem dX12_asksByStep_26 : decode cX12_asksByStep 26 = .ok (.aload_n 0, 1) := by decide +kernel
theorem dX12_asksByStep_27 : decode cX12_asksByStep 27 = .ok (.iload_n 1, 1) := by decide +kernel
theorem dX12_asksByStep_28 : decode cX12_asksByStep 28 = .ok (.iconst 4, 1) := by decide +kernel
theorem dX12_asksByStep_29 : decode cX12_asksByStep 29 = .ok (.invokevirtual 337, 3) := by decide +kernel
theorem dX12_asksByStep_32 : decode cX12_asksByStep 32 = .ok (.iadd, 1) := by decide +kernel
theorem dX12_asksByStep_33 : decode cX12_asksByStep 33 = .ok (.imul, 1) := by decide +kernel
theorem dX12_asksByStep_34 : decode cX12_asksByStep 34 = .ok (.istore_n 2, 1) := by decide +kernel
theorem dX12_asksByStep_35 : decode cX12_asksByStep 35 = .ok (.aload_n 0, 1) := by decide +kernel
theorem dX12_asksByStep_36 : decode cX12_asksByStep 36 = .ok (.getfield 63, 3) := by decide +kernel
theorem dX12_asksByStep_39 : decode cX12_asksByStep 39 = .ok (.iload_n 2, 1) := by decide +kernel
theorem dX12_asksByStep_40 : decode cX12_asksByStep 40 = .ok (.iconst 1, 1) := by decide +kernel
theorem dX12_asksByStep_41 : decode cX12_asksByStep 41 = .ok (.iadd, 1) := by decide +kernel
theorem dX12_asksByStep_42 : decode cX12_asksByStep 42 = .ok (.iaload, 1) := by decide +kernel
theorem dX12_asksByStep_43 : decode cX12_asksByStep 43 = .ok (.istore_n 3, 1) := by decide +kernel
theorem dX12_asksByStep_44 : decode cX12_asksByStep 44 = .ok (.aload_n 0, 1) := by decide +kernel
theorem dX12_asksByStep_45 : decode cX12_asksByStep 45 = .ok (.getfield 63, 3) := by decide +kernel
theorem dX12_asksByStep_48 : decode cX12_asksByStep 48 = .ok (.iload_n 2, 1) := by decide +kernel
theorem dX12_asksByStep_49 : decode cX12_asksByStep 49 = .ok (.iaload, 1) := by decide +kernel
theorem dX12_asksByStep_50 : decode cX12_asksByStep 50 = .ok (.iconst (-1), 1) := by decide +kernel
theorem dX12_asksByStep_51 : decode cX12_asksByStep 51 = .ok (.if_icmp .eq 12, 3) := by decide +kernel
theorem dX12_asksByStep_54 : decode cX12_asksByStep 54 = .ok (.aload_n 0, 1) := by decide +kernel
theorem dX12_asksByStep_55 : decode cX12_asksByStep 55 = .ok (.getfield 63, 3) := by decide +kernel
theorem dX12_asksByStep_58 : decode cX12_asksByStep 58 = .ok (.iload_n 2, 1) := by decide +kernel
theorem dX12_asksByStep_59 : decode cX12_asksByStep 59 = .ok (.iaload, 1) := by decide +kernel
theorem dX12_asksByStep_60 : decode cX12_asksByStep 60 = .ok (.goto 28, 3) := by decide +kernel
theorem dX12_asksByStep_63 : decode cX12_asksByStep 63 = .ok (.aload_n 0, 1) := by decide +kernel
theorem dX12_asksByStep_64 : decode cX12_asksByStep 64 = .ok (.iload_n 1, 1) := by decide +kernel
theorem dX12_asksByStep_65 : decode cX12_asksByStep 65 = .ok (.iconst 3, 1) := by decide +kernel
theorem dX12_asksByStep_66 : decode cX12_asksByStep 66 = .ok (.invokevirtual 337, 3) := by decide +kernel
theorem dX12_asksByStep_69 : decode cX12_asksByStep 69 = .ok (.iload_n 3, 1) := by decide +kernel
theorem dX12_asksByStep_70 : decode cX12_asksByStep 70 = .ok (.iadd, 1) := by decide +kernel
theorem dX12_asksByStep_71 : decode cX12_asksByStep 71 = .ok (.aload_n 0, 1) := by decide +kernel
theorem dX12_asksByStep_72 : decode cX12_asksByStep 72 = .ok (.getfield 17, 3) := by decide +kernel
theorem dX12_asksByStep_75 : decode cX12_asksByStep 75 = .ok (.if_icmp .le 7, 3) := by decide +kernel
theorem dX12_asksByStep_78 : decode cX12_asksByStep 78 = .ok (.iconst 0, 1) := by decide +kernel
theorem dX12_asksByStep_79 : decode cX12_asksByStep 79 = .ok (.goto 9, 3) := by decide +kernel
theorem dX12_asksByStep_82 : decode cX12_asksByStep 82 = .ok (.aload_n 0, 1) := by decide +kernel
theorem dX12_asksByStep_83 : decode cX12_asksByStep 83 = .ok (.iload_n 1, 1) := by decide +kernel
theorem dX12_asksByStep_84 : decode cX12_asksByStep 84 = .ok (.iconst 3, 1) := by decide +kernel
theorem dX12_asksByStep_85 : decode cX12_asksByStep 85 = .ok (.invokevirtual 337, 3) := by decide +kernel
theorem dX12_asksByStep_88 : decode cX12_asksByStep 88 = .ok (.istore 4, 2) := by decide +kernel
theorem dX12_asksByStep_90 : decode cX12_asksByStep 90 = .ok (.aload_n 0, 1) := by decide +kernel
theorem dX12_asksByStep_91 : decode cX12_asksByStep 91 = .ok (.iload_n 1, 1) := by decide +kernel
theorem dX12_asksByStep_92 : decode cX12_asksByStep 92 = .ok (.iload 4, 2) := by decide +kernel
theorem dX12_asksByStep_94 : decode cX12_asksByStep 94 = .ok (.iload_n 3, 1) := by decide +kernel
theorem dX12_asksByStep_95 : decode cX12_asksByStep 95 = .ok (.iconst 0, 1) := by decide +kernel
theorem dX12_asksByStep_96 : decode cX12_asksByStep 96 = .ok (.aload_n 0, 1) := by decide +kernel
theorem dX12_asksByStep_97 : decode cX12_asksByStep 97 = .ok (.getfield 63, 3) := by decide +kernel
theorem dX12_asksByStep_100 : decode cX12_asksByStep 100 = .ok (.iload_n 2, 1) := by decide +kernel
theorem dX12_asksByStep_101 : decode cX12_asksByStep 101 = .ok (.iconst 2, 1) := by decide +kernel
theorem dX12_asksByStep_102 : decode cX12_asksByStep 102 = .ok (.iadd, 1) := by decide +kernel
theorem dX12_asksByStep_103 : decode cX12_asksByStep 103 = .ok (.iaload, 1) := by decide +kernel
theorem dX12_asksByStep_104 : decode cX12_asksByStep 104 = .ok (.invokevirtual 361, 3) := by decide +kernel
theorem dX12_asksByStep_107 : decode cX12_asksByStep 107 = .ok (.aload_n 0, 1) := by decide +kernel
theorem dX12_asksByStep_108 : decode cX12_asksByStep 108 = .ok (.iload_n 1, 1) := by decide +kernel
theorem dX12_asksByStep_109 : decode cX12_asksByStep 109 = .ok (.iconst 4, 1) := by decide +kernel
theorem dX12_asksByStep_110 : decode cX12_asksByStep 110 = .ok (.aload_n 0, 1) := by decide +kernel
theorem dX12_asksByStep_111 : decode cX12_asksByStep 111 = .ok (.iload_n 1, 1) := by decide +kernel
theorem dX12_asksByStep_112 : decode cX12_asksByStep 112 = .ok (.iconst 4, 1) := by decide +kernel
theorem dX12_asksByStep_113 : decode cX12_asksByStep 113 = .ok (.invokevirtual 337, 3) := by decide +kernel
theorem dX12_asksByStep_116 : decode cX12_asksByStep 116 = .ok (.iconst 1, 1) := by decide +kernel
theorem dX12_asksByStep_117 : decode cX12_asksByStep 117 = .ok (.iadd, 1) := by decide +kernel
theorem dX12_asksByStep_118 : decode cX12_asksByStep 118 = .ok (.aload_n 0, 1) := by decide +kernel
theorem dX12_asksByStep_119 : decode cX12_asksByStep 119 = .ok (.getfield 60, 3) := by decide +kernel
theorem dX12_asksByStep_122 : decode cX12_asksByStep 122 = .ok (.iload_n 1, 1) := by decide +kernel
theorem dX12_asksByStep_123 : decode cX12_asksByStep 123 = .ok (.iaload, 1) := by decide +kernel
theorem dX12_asksByStep_124 : decode cX12_asksByStep 124 = .ok (.if_icmp .ne 7, 3) := by decide +kernel
theorem dX12_asksByStep_127 : decode cX12_asksByStep 127 = .ok (.iconst 0, 1) := by decide +kernel
theorem dX12_asksByStep_128 : decode cX12_asksByStep 128 = .ok (.goto 11, 3) := by decide +kernel
theorem dX12_asksByStep_131 : decode cX12_asksByStep 131 = .ok (.aload_n 0, 1) := by decide +kernel
theorem dX12_asksByStep_132 : decode cX12_asksByStep 132 = .ok (.iload_n 1, 1) := by decide +kernel
theorem dX12_asksByStep_133 : decode cX12_asksByStep 133 = .ok (.iconst 4, 1) := by decide +kernel
theorem dX12_asksByStep_134 : decode cX12_asksByStep 134 = .ok (.invokevirtual 337, 3) := by decide +kernel
theorem dX12_asksByStep_137 : decode cX12_asksByStep 137 = .ok (.iconst 1, 1) := by decide +kernel
theorem dX12_asksByStep_138 : decode cX12_asksByStep 138 = .ok (.iadd, 1) := by decide +kernel
theorem dX12_asksByStep_139 : decode cX12_asksByStep 139 = .ok (.invokevirtual 314, 3) := by decide +kernel
theorem dX12_asksByStep_142 : decode cX12_asksByStep 142 = .ok (.aload_n 0, 1) := by decide +kernel
theorem dX12_asksByStep_143 : decode cX12_asksByStep 143 = .ok (.getfield 57, 3) := by decide +kernel
theorem dX12_asksByStep_146 : decode cX12_asksByStep 146 = .ok (.iload_n 1, 1) := by decide +kernel
theorem dX12_asksByStep_147 : decode cX12_asksByStep 147 = .ok (.iaload, 1) := by decide +kernel
theorem dX12_asksByStep_148 : decode cX12_asksByStep 148 = .ok (.iconst 1, 1) := by decide +kernel
theorem dX12_asksByStep_149 : decode cX12_asksByStep 149 = .ok (.if_icmp .ne 20, 3) := by decide +kernel
theorem dX12_asksByStep_152 : decode cX12_asksByStep 152 = .ok (.aload_n 0, 1) := by decide +kernel
theorem dX12_asksByStep_153 : decode cX12_asksByStep 153 = .ok (.iload_n 1, 1) := by decide +kernel
theorem dX12_asksByStep_154 : decode cX12_asksByStep 154 = .ok (.iconst 1, 1) := by decide +kernel
theorem dX12_asksByStep_155 : decode cX12_asksByStep 155 = .ok (.aload_n 0, 1) := by decide +kernel
theorem dX12_asksByStep_156 : decode cX12_asksByStep 156 = .ok (.getfield 63, 3) := by decide +kernel
theorem dX12_asksByStep_159 : decode cX12_asksByStep 159 = .ok (.iload_n 2, 1) := by decide +kernel
theorem dX12_asksByStep_160 : decode cX12_asksByStep 160 = .ok (.iconst 2, 1) := by decide +kernel
theorem dX12_asksByStep_161 : decode cX12_asksByStep 161 = .ok (.iadd, 1) := by decide +kernel
theorem dX12_asksByStep_162 : decode cX12_asksByStep 162 = .ok (.iaload, 1) := by decide +kernel
theorem dX12_asksByStep_163 : decode cX12_asksByStep 163 = .ok (.invokevirtual 314, 3) := by decide +kernel
theorem dX12_asksByStep_166 : decode cX12_asksByStep 166 = .ok (.goto 10, 3) := by decide +kernel
theorem dX12_asksByStep_169 : decode cX12_asksByStep 169 = .ok (.aload_n 0, 1) := by decide +kernel
theorem dX12_asksByStep_170 : decode cX12_asksByStep 170 = .ok (.iload_n 1, 1) := by decide +kernel
theorem dX12_asksByStep_171 : decode cX12_asksByStep 171 = .ok (.iconst 2, 1) := by decide +kernel
theorem dX12_asksByStep_172 : decode cX12_asksByStep 172 = .ok (.iconst 1, 1) := by decide +kernel
theorem dX12_asksByStep_173 : decode cX12_asksByStep 173 = .ok (.invokevirtual 314, 3) := by decide +kernel
theorem dX12_asksByStep_176 : decode cX12_asksByStep 176 = .ok (.return_, 1) := by decide +kernel
theorem dX12_nextOf_0 : decode cX12_nextOf 0 = .ok (.iconst (-1), 1) := by decide +kernel
theorem dX12_nextOf_1 : decode cX12_nextOf 1 = .ok (.istore_n 2, 1) := by decide +kernel
theorem dX12_nextOf_2 : decode cX12_nextOf 2 = .ok (.iconst 0, 1) := by decide +kernel
theorem dX12_nextOf_3 : decode cX12_nextOf 3 = .ok (.istore_n 3, 1) := by decide +kernel
theorem dX12_nextOf_4 : decode cX12_nextOf 4 = .ok (.iload_n 3, 1) := by decide +kernel
theorem dX12_nextOf_5 : decode cX12_nextOf 5 = .ok (.aload_n 0, 1) := by decide +kernel
theorem dX12_nextOf_6 : decode cX12_nextOf 6 = .ok (.bipush 10, 2) := by decide +kernel
theorem dX12_nextOf_8 : decode cX12_nextOf 8 = .ok (.invokevirtual 321, 3) := by decide +kernel
theorem dX12_nextOf_11 : decode cX12_nextOf 11 = .ok (.if_icmp .ge 42, 3) := by decide +kernel
theorem dX12_nextOf_14 : decode cX12_nextOf 14 = .ok (.aload_n 0, 1) := by decide +kernel
theorem dX12_nextOf_15 : decode cX12_nextOf 15 = .ok (.iload_n 3, 1) := by decide +kernel
theorem dX12_nextOf_16 : decode cX12_nextOf 16 = .ok (.iconst 0, 1) := by decide +kernel
theorem dX12_nextOf_17 : decode cX12_nextOf 17 = .ok (.invokevirtual 334, 3) := by decide +kernel
theorem dX12_nextOf_20 : decode cX12_nextOf 20 = .ok (.iload_n 1, 1) := by decide +kernel
theorem dX12_nextOf_21 : decode cX12_nextOf 21 = .ok (.if_icmp .eq 6, 3) := by decide +kernel
theorem dX12_nextOf_24 : decode cX12_nextOf 24 = .ok (.goto 23, 3) := by decide +kernel
theorem dX12_nextOf_27 : decode cX12_nextOf 27 = .ok (.iload_n 2, 1) := by decide +kernel
theorem dX12_nextOf_28 : decode cX12_nextOf 28 = .ok (.iconst (-1), 1) := by decide +kernel
theorem dX12_nextOf_29 : decode cX12_nextOf 29 = .ok (.if_icmp .eq 16, 3) := by decide +kernel
theorem dX12_nextOf_32 : decode cX12_nextOf 32 = .ok (.aload_n 0, 1) := by decide +kernel
theorem dX12_nextOf_33 : decode cX12_nextOf 33 = .ok (.iload_n 3, 1) := by decide +kernel
theorem dX12_nextOf_34 : decode cX12_nextOf 34 = .ok (.invokevirtual 365, 3) := by decide +kernel
theorem dX12_nextOf_37 : decode cX12_nextOf 37 = .ok (.aload_n 0, 1) := by decide +kernel
theorem dX12_nextOf_38 : decode cX12_nextOf 38 = .ok (.iload_n 2, 1) := by decide +kernel
theorem dX12_nextOf_39 : decode cX12_nextOf 39 = .ok (.invokevirtual 365, 3) := by decide +kernel
theorem dX12_nextOf_42 : decode cX12_nextOf 42 = .ok (.if_icmp .ge 5, 3) := by decide +kernel
theorem dX12_nextOf_45 : decode cX12_nextOf 45 = .ok (.iload_n 3, 1) := by decide +kernel
theorem dX12_nextOf_46 : decode cX12_nextOf 46 = .ok (.istore_n 2, 1) := by decide +kernel
theorem dX12_nextOf_47 : decode cX12_nextOf 47 = .ok (.iinc 3 1, 3) := by decide +kernel
theorem dX12_nextOf_50 : decode cX12_nextOf 50 = .ok (.goto (-46), 3) := by decide +kernel
theorem dX12_nextOf_53 : decode cX12_nextOf 53 = .ok (.iload_n 2, 1) := by decide +kernel
theorem dX12_nextOf_54 : decode cX12_nextOf 54 = .ok (.ireturn, 1) := by decide +kernel
theorem dX12_wayTo_0 : decode cX12_wayTo 0 = .ok (.aload_n 0, 1) := by decide +kernel
theorem dX12_wayTo_1 : decode cX12_wayTo 1 = .ok (.iload_n 1, 1) := by decide +kernel
theorem dX12_wayTo_2 : decode cX12_wayTo 2 = .ok (.iconst 1, 1) := by decide +kernel
theorem dX12_wayTo_3 : decode cX12_wayTo 3 = .ok (.invokevirtual 334, 3) := by decide +kernel
theorem dX12_wayTo_6 : decode cX12_wayTo 6 = .ok (.istore_n 2, 1) := by decide +kernel
theorem dX12_wayTo_7 : decode cX12_wayTo 7 = .ok (.iload_n 2, 1) := by decide +kernel
theorem dX12_wayTo_8 : decode cX12_wayTo 8 = .ok (.aload_n 0, 1) := by decide +kernel
theorem dX12_wayTo_9 : decode cX12_wayTo 9 = .ok (.iconst 1, 1) := by decide +kernel
theorem dX12_wayTo_10 : decode cX12_wayTo 10 = .ok (.invokevirtual 321, 3) := by decide +kernel
theorem dX12_wayTo_13 : decode cX12_wayTo 13 = .ok (.if_icmp .lt 7, 3) := by decide +kernel
theorem dX12_wayTo_16 : decode cX12_wayTo 16 = .ok (.iload_n 2, 1) := by decide +kernel
theorem dX12_wayTo_17 : decode cX12_wayTo 17 = .ok (.goto 8, 3) := by decide +kernel
theorem dX12_wayTo_20 : decode cX12_wayTo 20 = .ok (.iload_n 2, 1) := by decide +kernel
theorem dX12_wayTo_21 : decode cX12_wayTo 21 = .ok (.ldc_w 368, 3) := by decide +kernel
theorem dX12_wayTo_24 : decode cX12_wayTo 24 = .ok (.iadd, 1) := by decide +kernel
theorem dX12_wayTo_25 : decode cX12_wayTo 25 = .ok (.ireturn, 1) := by decide +kernel
theorem dX12_up_0 : decode cX12_up 0 = .ok (.iload_n 0, 1) := by decide +kernel
theorem dX12_up_1 : decode cX12_up 1 = .ok (.iload_n 1, 1) := by decide +kernel
theorem dX12_up_2 : decode cX12_up 2 = .ok (.iadd, 1) := by decide +kernel
theorem dX12_up_3 : decode cX12_up 3 = .ok (.iconst 1, 1) := by decide +kernel
theorem dX12_up_4 : decode cX12_up 4 = .ok (.isub, 1) := by decide +kernel
theorem dX12_up_5 : decode cX12_up 5 = .ok (.iload_n 1, 1) := by decide +kernel
theorem dX12_up_6 : decode cX12_up 6 = .ok (.idiv, 1) := by decide +kernel
theorem dX12_up_7 : decode cX12_up 7 = .ok (.ireturn, 1) := by decide +kernel
theorem dX12_goesNext_0 : decode cX12_goesNext 0 = .ok (.iconst 0, 1) := by decide +kernel
theorem dX12_goesNext_1 : decode cX12_goesNext 1 = .ok (.istore_n 2, 1) := by decide +kernel
theorem dX12_goesNext_2 : decode cX12_goesNext 2 = .ok (.iload_n 2, 1) := by decide +kernel
theorem dX12_goesNext_3 : decode cX12_goesNext 3 = .ok (.bipush 7, 2) := by decide +kernel
theorem dX12_goesNext_5 : decode cX12_goesNext 5 = .ok (.if_icmp .ge 23, 3) := by decide +kernel
theorem dX12_goesNext_8 : decode cX12_goesNext 8 = .ok (.aload_n 0, 1) := by decide +kernel
theorem dX12_goesNext_9 : decode cX12_goesNext 9 = .ok (.bipush 11, 2) := by decide +kernel
theorem dX12_goesNext_11 : decode cX12_goesNext 11 = .ok (.iload_n 2, 1) := by decide +kernel
theorem dX12_goesNext_12 : decode cX12_goesNext 12 = .ok (.iadd, 1) := by decide +kernel
theorem dX12_goesNext_13 : decode cX12_goesNext 13 = .ok (.aload_n 0, 1) := by decide +kernel
theorem dX12_goesNext_14 : decode cX12_goesNext 14 = .ok (.iload_n 1, 1) := by decide +kernel
theorem dX12_goesNext_15 : decode cX12_goesNext 15 = .ok (.iload_n 2, 1) := by decide +kernel
theorem dX12_goesNext_16 : decode cX12_goesNext 16 = .ok (.invokevirtual 334, 3) := by decide +kernel
theorem dX12_goesNext_19 : decode cX12_goesNext 19 = .ok (.invokevirtual 318, 3) := by decide +kernel
theorem dX12_goesNext_22 : decode cX12_goesNext 22 = .ok (.iinc 2 1, 3) := by decide +kernel
theorem dX12_goesNext_25 : decode cX12_goesNext 25 = .ok (.goto (-23), 3) := by decide +kernel
theorem dX12_goesNext_28 : decode cX12_goesNext 28 = .ok (.aload_n 0, 1) := by decide +kernel
theorem dX12_goesNext_29 : decode cX12_goesNext 29 = .ok (.iconst 5, 1) := by decide +kernel
theorem dX12_goesNext_30 : decode cX12_goesNext 30 = .ok (.aload_n 0, 1) := by decide +kernel
theorem dX12_goesNext_31 : decode cX12_goesNext 31 = .ok (.iload_n 1, 1) := by decide +kernel
theorem dX12_goesNext_32 : decode cX12_goesNext 32 = .ok (.iconst 1, 1) := by decide +kernel
theorem dX12_goesNext_33 : decode cX12_goesNext 33 = .ok (.invokevirtual 334, 3) := by decide +kernel
theorem dX12_goesNext_36 : decode cX12_goesNext 36 = .ok (.aload_n 0, 1) := by decide +kernel
theorem dX12_goesNext_37 : decode cX12_goesNext 37 = .ok (.iconst 1, 1) := by decide +kernel
theorem dX12_goesNext_38 : decode cX12_goesNext 38 = .ok (.invokevirtual 321, 3) := by decide +kernel
theorem dX12_goesNext_41 : decode cX12_goesNext 41 = .ok (.invokestatic 343, 3) := by decide +kernel
theorem dX12_goesNext_44 : decode cX12_goesNext 44 = .ok (.aload_n 0, 1) := by decide +kernel
theorem dX12_goesNext_45 : decode cX12_goesNext 45 = .ok (.getfield 20, 3) := by decide +kernel
theorem dX12_goesNext_48 : decode cX12_goesNext 48 = .ok (.invokestatic 369, 3) := by decide +kernel
theorem dX12_goesNext_51 : decode cX12_goesNext 51 = .ok (.aload_n 0, 1) := by decide +kernel
theorem dX12_goesNext_52 : decode cX12_goesNext 52 = .ok (.iload_n 1, 1) := by decide +kernel
theorem dX12_goesNext_53 : decode cX12_goesNext 53 = .ok (.iconst 2, 1) := by decide +kernel
theorem dX12_goesNext_54 : decode cX12_goesNext 54 = .ok (.invokevirtual 334, 3) := by decide +kernel
theorem dX12_goesNext_57 : decode cX12_goesNext 57 = .ok (.aload_n 0, 1) := by decide +kernel
theorem dX12_goesNext_58 : decode cX12_goesNext 58 = .ok (.getfield 23, 3) := by decide +kernel
theorem dX12_goesNext_61 : decode cX12_goesNext 61 = .ok (.invokestatic 369, 3) := by decide +kernel
theorem dX12_goesNext_64 : decode cX12_goesNext 64 = .ok (.iadd, 1) := by decide +kernel
theorem dX12_goesNext_65 : decode cX12_goesNext 65 = .ok (.invokevirtual 318, 3) := by decide +kernel
theorem dX12_goesNext_68 : decode cX12_goesNext 68 = .ok (.sipush 150, 3) := by decide +kernel
theorem dX12_goesNext_71 : decode cX12_goesNext 71 = .ok (.bipush 7, 2) := by decide +kernel
theorem dX12_goesNext_73 : decode cX12_goesNext 73 = .ok (.iload_n 1, 1) := by decide +kernel
theorem dX12_goesNext_74 : decode cX12_goesNext 74 = .ok (.imul, 1) := by decide +kernel
theorem dX12_goesNext_75 : decode cX12_goesNext 75 = .ok (.iadd, 1) := by decide +kernel
theorem dX12_goesNext_76 : decode cX12_goesNext 76 = .ok (.istore_n 2, 1) := by decide +kernel
theorem dX12_goesNext_77 : decode cX12_goesNext 77 = .ok (.iload_n 2, 1) := by decide +kernel
theorem dX12_goesNext_78 : decode cX12_goesNext 78 = .ok (.sipush 150, 3) := by decide +kernel
theorem dX12_goesNext_81 : decode cX12_goesNext 81 = .ok (.bipush 7, 2) := by decide +kernel
theorem dX12_goesNext_83 : decode cX12_goesNext 83 = .ok (.aload_n 0, 1) := by decide +kernel
theorem dX12_goesNext_84 : decode cX12_goesNext 84 = .ok (.bipush 10, 2) := by decide +kernel
theorem dX12_goesNext_86 : decode cX12_goesNext 86 = .ok (.invokevirtual 321, 3) := by decide +kernel
theorem dX12_goesNext_89 : decode cX12_goesNext 89 = .ok (.iconst 1, 1) := by decide +kernel
theorem dX12_goesNext_90 : decode cX12_goesNext 90 = .ok (.isub, 1) := by decide +kernel
theorem dX12_goesNext_91 : decode cX12_goesNext 91 = .ok (.imul, 1) := by decide +kernel
theorem dX12_goesNext_92 : decode cX12_goesNext 92 = .ok (.iadd, 1) := by decide +kernel
theorem dX12_goesNext_93 : decode cX12_goesNext 93 = .ok (.if_icmp .ge 22, 3) := by decide +kernel
theorem dX12_goesNext_96 : decode cX12_goesNext 96 = .ok (.aload_n 0, 1) := by decide +kernel
theorem dX12_goesNext_97 : decode cX12_goesNext 97 = .ok (.iload_n 2, 1) := by decide +kernel
theorem dX12_goesNext_98 : decode cX12_goesNext 98 = .ok (.aload_n 0, 1) := by decide +kernel
theorem dX12_goesNext_99 : decode cX12_goesNext 99 = .ok (.iload_n 2, 1) := by decide +kernel
theorem dX12_goesNext_100 : decode cX12_goesNext 100 = .ok (.bipush 7, 2) := by decide +kernel
theorem dX12_goesNext_102 : decode cX12_goesNext 102 = .ok (.iadd, 1) := by decide +kernel
theorem dX12_goesNext_103 : decode cX12_goesNext 103 = .ok (.invokevirtual 321, 3) := by decide +kernel
theorem dX12_goesNext_106 : decode cX12_goesNext 106 = .ok (.invokevirtual 318, 3) := by decide +kernel
theorem dX12_goesNext_109 : decode cX12_goesNext 109 = .ok (.iinc 2 1, 3) := by decide +kernel
theorem dX12_goesNext_112 : decode cX12_goesNext 112 = .ok (.goto (-35), 3) := by decide +kernel
theorem dX12_goesNext_115 : decode cX12_goesNext 115 = .ok (.aload_n 0, 1) := by decide +kernel
theorem dX12_goesNext_116 : decode cX12_goesNext 116 = .ok (.bipush 10, 2) := by decide +kernel
theorem dX12_goesNext_118 : decode cX12_goesNext 118 = .ok (.aload_n 0, 1) := by decide +kernel
theorem dX12_goesNext_119 : decode cX12_goesNext 119 = .ok (.bipush 10, 2) := by decide +kernel
theorem dX12_goesNext_121 : decode cX12_goesNext 121 = .ok (.invokevirtual 321, 3) := by decide +kernel
theorem dX12_goesNext_124 : decode cX12_goesNext 124 = .ok (.iconst 1, 1) := by decide +kernel
theorem dX12_goesNext_125 : decode cX12_goesNext 125 = .ok (.isub, 1) := by decide +kernel
theorem dX12_goesNext_126 : decode cX12_goesNext 126 = .ok (.invokevirtual 318, 3) := by decide +kernel
theorem dX12_goesNext_129 : decode cX12_goesNext 129 = .ok (.return_, 1) := by decide +kernel
theorem dX12_keepsOn_0 : decode cX12_keepsOn 0 = .ok (.aload_n 0, 1) := by decide +kernel
theorem dX12_keepsOn_1 : decode cX12_keepsOn 1 = .ok (.iload_n 1, 1) := by decide +kernel
theorem dX12_keepsOn_2 : decode cX12_keepsOn 2 = .ok (.invokevirtual 372, 3) := by decide +kernel
theorem dX12_keepsOn_5 : decode cX12_keepsOn 5 = .ok (.istore_n 2, 1) := by decide +kernel
theorem dX12_keepsOn_6 : decode cX12_keepsOn 6 = .ok (.iload_n 2, 1) := by decide +kernel
theorem dX12_keepsOn_7 : decode cX12_keepsOn 7 = .ok (.iconst (-1), 1) := by decide +kernel
theorem dX12_keepsOn_8 : decode cX12_keepsOn 8 = .ok (.if_icmp .ne 26, 3) := by decide +kernel
theorem dX12_keepsOn_11 : decode cX12_keepsOn 11 = .ok (.aload_n 0, 1) := by decide +kernel
theorem dX12_keepsOn_12 : decode cX12_keepsOn 12 = .ok (.iconst 0, 1) := by decide +kernel
theorem dX12_keepsOn_13 : decode cX12_keepsOn 13 = .ok (.invokevirtual 321, 3) := by decide +kernel
theorem dX12_keepsOn_16 : decode cX12_keepsOn 16 = .ok (.aload_n 0, 1) := by decide +kernel
theorem dX12_keepsOn_17 : decode cX12_keepsOn 17 = .ok (.iconst 4, 1) := by decide +kernel
theorem dX12_keepsOn_18 : decode cX12_keepsOn 18 = .ok (.invokevirtual 321, 3) := by decide +kernel
theorem dX12_keepsOn_21 : decode cX12_keepsOn 21 = .ok (.if_icmp .ge 5, 3) := by decide +kernel
theorem dX12_keepsOn_24 : decode cX12_keepsOn 24 = .ok (.iconst 1, 1) := by decide +kernel
theorem dX12_keepsOn_25 : decode cX12_keepsOn 25 = .ok (.ireturn, 1) := by decide +kernel
theorem dX12_keepsOn_26 : decode cX12_keepsOn 26 = .ok (.aload_n 0, 1) := by decide +kernel
theorem dX12_keepsOn_27 : decode cX12_keepsOn 27 = .ok (.iload_n 1, 1) := by decide +kernel
theorem dX12_keepsOn_28 : decode cX12_keepsOn 28 = .ok (.iconst 2, 1) := by decide +kernel
theorem dX12_keepsOn_29 : decode cX12_keepsOn 29 = .ok (.invokevirtual 375, 3) := by decide +kernel
theorem dX12_keepsOn_32 : decode cX12_keepsOn 32 = .ok (.iconst 0, 1) := by decide +kernel
theorem dX12_keepsOn_33 : decode cX12_keepsOn 33 = .ok (.ireturn, 1) := by decide +kernel
theorem dX12_keepsOn_34 : decode cX12_keepsOn 34 = .ok (.aload_n 0, 1) := by decide +kernel
theorem dX12_keepsOn_35 : decode cX12_keepsOn 35 = .ok (.iload_n 1, 1) := by decide +kernel
theorem dX12_keepsOn_36 : decode cX12_keepsOn 36 = .ok (.iconst 1, 1) := by decide +kernel
theorem dX12_keepsOn_37 : decode cX12_keepsOn 37 = .ok (.invokevirtual 340, 3) := by decide +kernel
theorem dX12_keepsOn_40 : decode cX12_keepsOn 40 = .ok (.ifCond .eq 33, 3) := by decide +kernel
theorem dX12_keepsOn_43 : decode cX12_keepsOn 43 = .ok (.aload_n 0, 1) := by decide +kernel
theorem dX12_keepsOn_44 : decode cX12_keepsOn 44 = .ok (.iload_n 1, 1) := by decide +kernel
theorem dX12_keepsOn_45 : decode cX12_keepsOn 45 = .ok (.iconst 1, 1) := by decide +kernel
theorem dX12_keepsOn_46 : decode cX12_keepsOn 46 = .ok (.invokevirtual 340, 3) := by decide +kernel
theorem dX12_keepsOn_49 : decode cX12_keepsOn 49 = .ok (.aload_n 0, 1) := by decide +kernel
theorem dX12_keepsOn_50 : decode cX12_keepsOn 50 = .ok (.iload_n 2, 1) := by decide +kernel
theorem dX12_keepsOn_51 : decode cX12_keepsOn 51 = .ok (.iconst 2, 1) := by decide +kernel
theorem dX12_keepsOn_52 : decode cX12_keepsOn 52 = .ok (.invokevirtual 334, 3) := by decide +kernel
theorem dX12_keepsOn_55 : decode cX12_keepsOn 55 = .ok (.iadd, 1) := by decide +kernel
theorem dX12_keepsOn_56 : decode cX12_keepsOn 56 = .ok (.aload_n 0, 1) := by decide +kernel
theorem dX12_keepsOn_57 : decode cX12_keepsOn 57 = .ok (.iload_n 1, 1) := by decide +kernel
theorem dX12_keepsOn_58 : decode cX12_keepsOn 58 = .ok (.iconst 0, 1) := by decide +kernel
theorem dX12_keepsOn_59 : decode cX12_keepsOn 59 = .ok (.invokevirtual 340, 3) := by decide +kernel
theorem dX12_keepsOn_62 : decode cX12_keepsOn 62 = .ok (.if_icmp .le 11, 3) := by decide +kernel
theorem dX12_keepsOn_65 : decode cX12_keepsOn 65 = .ok (.aload_n 0, 1) := by decide +kernel
theorem dX12_keepsOn_66 : decode cX12_keepsOn 66 = .ok (.iload_n 1, 1) := by decide +kernel
theorem dX12_keepsOn_67 : decode cX12_keepsOn 67 = .ok (.iconst 0, 1) := by decide +kernel
theorem dX12_keepsOn_68 : decode cX12_keepsOn 68 = .ok (.invokevirtual 375, 3) := by decide +kernel
theorem dX12_keepsOn_71 : decode cX12_keepsOn 71 = .ok (.iconst 0, 1) := by decide +kernel
theorem dX12_keepsOn_72 : decode cX12_keepsOn 72 = .ok (.ireturn, 1) := by decide +kernel
theorem dX12_keepsOn_73 : decode cX12_keepsOn 73 = .ok (.aload_n 0, 1) := by decide +kernel
theorem dX12_keepsOn_74 : decode cX12_keepsOn 74 = .ok (.iconst 0, 1) := by decide +kernel
theorem dX12_keepsOn_75 : decode cX12_keepsOn 75 = .ok (.invokevirtual 321, 3) := by decide +kernel
theorem dX12_keepsOn_78 : decode cX12_keepsOn 78 = .ok (.aload_n 0, 1) := by decide +kernel
theorem dX12_keepsOn_79 : decode cX12_keepsOn 79 = .ok (.iconst 3, 1) := by decide +kernel
theorem dX12_keepsOn_80 : decode cX12_keepsOn 80 = .ok (.invokevirtual 321, 3) := by decide +kernel
theorem dX12_keepsOn_83 : decode cX12_keepsOn 83 = .ok (.isub, 1) := by decide +kernel
theorem dX12_keepsOn_84 : decode cX12_keepsOn 84 = .ok (.aload_n 0, 1) := by decide +kernel
theorem dX12_keepsOn_85 : decode cX12_keepsOn 85 = .ok (.bipush 7, 2) := by decide +kernel
theorem dX12_keepsOn_87 : decode cX12_keepsOn 87 = .ok (.invokevirtual 321, 3) := by decide +kernel
theorem dX12_keepsOn_90 : decode cX12_keepsOn 90 = .ok (.if_icmp .lt 11, 3) := by decide +kernel
theorem dX12_keepsOn_93 : decode cX12_keepsOn 93 = .ok (.aload_n 0, 1) := by decide +kernel
theorem dX12_keepsOn_94 : decode cX12_keepsOn 94 = .ok (.iload_n 1, 1) := by decide +kernel
theorem dX12_keepsOn_95 : decode cX12_keepsOn 95 = .ok (.iconst 1, 1) := by decide +kernel
theorem dX12_keepsOn_96 : decode cX12_keepsOn 96 = .ok (.invokevirtual 375, 3) := by decide +kernel
theorem dX12_keepsOn_99 : decode cX12_keepsOn 99 = .ok (.iconst 0, 1) := by decide +kernel
theorem dX12_keepsOn_100 : decode cX12_keepsOn 100 = .ok (.ireturn, 1) := by decide +kernel
theorem dX12_keepsOn_101 : decode cX12_keepsOn 101 = .ok (.aload_n 0, 1) := by decide +kernel
theorem dX12_keepsOn_102 : decode cX12_keepsOn 102 = .ok (.iload_n 2, 1) := by decide +kernel
theorem dX12_keepsOn_103 : decode cX12_keepsOn 103 = .ok (.invokevirtual 378, 3) := by decide +kernel
theorem dX12_keepsOn_106 : decode cX12_keepsOn 106 = .ok (.iconst 1, 1) := by decide +kernel
theorem dX12_keepsOn_107 : decode cX12_keepsOn 107 = .ok (.ireturn, 1) := by decide +kernel
theorem dX12_chooses_0 : decode cX12_chooses 0 = .ok (.aload_n 0, 1) := by decide +kernel
theorem dX12_chooses_1 : decode cX12_chooses 1 = .ok (.iconst 2, 1) := by decide +kernel
theorem dX12_chooses_2 : decode cX12_chooses 2 = .ok (.invokevirtual 321, 3) := by decide +kernel
theorem dX12_chooses_5 : decode cX12_chooses 5 = .ok (.iconst (-1), 1) := by decide +kernel
theorem dX12_chooses_6 : decode cX12_chooses 6 = .ok (.if_icmp .eq 16, 3) := by decide +kernel
theorem dX12_chooses_9 : decode cX12_chooses 9 = .ok (.aload_n 0, 1) := by decide +kernel
theorem dX12_chooses_10 : decode cX12_chooses 10 = .ok (.aload_n 0, 1) := by decide +kernel
theorem dX12_chooses_11 : decode cX12_chooses 11 = .ok (.iconst 2, 1) := by decide +kernel
theorem dX12_chooses_12 : decode cX12_chooses 12 = .ok (.invokevirtual 321, 3) := by decide +kernel
theorem dX12_chooses_15 : decode cX12_chooses 15 = .ok (.invokevirtual 381, 3) := by decide +kernel
theorem dX12_chooses_18 : decode cX12_chooses 18 = .ok (.ifCond .eq 4, 3) := by decide +kernel
theorem dX12_chooses_21 : decode cX12_chooses 21 = .ok (.return_, 1) := by decide +kernel
theorem dX12_chooses_22 : decode cX12_chooses 22 = .ok (.iconst (-1), 1) := by decide +kernel
theorem dX12_chooses_23 : decode cX12_chooses 23 = .ok (.istore_n 1, 1) := by decide +kernel
theorem dX12_chooses_24 : decode cX12_chooses 24 = .ok (.iconst 0, 1) := by decide +kernel
theorem dX12_chooses_25 : decode cX12_chooses 25 = .ok (.istore_n 2, 1) := by decide +kernel
theorem dX12_chooses_26 : decode cX12_chooses 26 = .ok (.iload_n 2, 1) := by decide +kernel
theorem dX12_chooses_27 : decode cX12_chooses 27 = .ok (.aload_n 0, 1) := by decide +kernel
theorem dX12_chooses_28 : decode cX12_chooses 28 = .ok (.getfield 13, 3) := by decide +kernel
theorem dX12_chooses_31 : decode cX12_chooses 31 = .ok (.if_icmp .ge 42, 3) := by decide +kernel
theorem dX12_chooses_34 : decode cX12_chooses 34 = .ok (.aload_n 0, 1) := by decide +kernel
theorem dX12_chooses_35 : decode cX12_chooses 35 = .ok (.iload_n 2, 1) := by decide +kernel
theorem dX12_chooses_36 : decode cX12_chooses 36 = .ok (.invokevirtual 349, 3) := by decide +kernel
theorem dX12_chooses_39 : decode cX12_chooses 39 = .ok (.ifCond .le 28, 3) := by decide +kernel
theorem dX12_chooses_42 : decode cX12_chooses 42 = .ok (.iload_n 1, 1) := by decide +kernel
theorem dX12_chooses_43 : decode cX12_chooses 43 = .ok (.iconst (-1), 1) := by decide +kernel
theorem dX12_chooses_44 : decode cX12_chooses 44 = .ok (.if_icmp .eq 21, 3) := by decide +kernel
theorem dX12_chooses_47 : decode cX12_chooses 47 = .ok (.aload_n 0, 1) := by decide +kernel
theorem dX12_chooses_48 : decode cX12_chooses 48 = .ok (.iconst 0, 1) := by decide +kernel
theorem dX12_chooses_49 : decode cX12_chooses 49 = .ok (.iload_n 2, 1) := by decide +kernel
theorem dX12_chooses_50 : decode cX12_chooses 50 = .ok (.iadd, 1) := by decide +kernel
theorem dX12_chooses_51 : decode cX12_chooses 51 = .ok (.invokevirtual 352, 3) := by decide +kernel
theorem dX12_chooses_54 : decode cX12_chooses 54 = .ok (.aload_n 0, 1) := by decide +kernel
theorem dX12_chooses_55 : decode cX12_chooses 55 = .ok (.iconst 0, 1) := by decide +kernel
theorem dX12_chooses_56 : decode cX12_chooses 56 = .ok (.iload_n 1, 1) := by decide +kernel
theorem dX12_chooses_57 : decode cX12_chooses 57 = .ok (.iadd, 1) := by decide +kernel
theorem dX12_chooses_58 : decode cX12_chooses 58 = .ok (.invokevirtual 352, 3) := by decide +kernel
theorem dX12_chooses_61 : decode cX12_chooses 61 = .ok (.fcmp .g, 1) := by decide +kernel
theorem dX12_chooses_62 : decode cX12_chooses 62 = .ok (.ifCond .ge 5, 3) := by decide +kernel
theorem dX12_chooses_65 : decode cX12_chooses 65 = .ok (.iload_n 2, 1) := by decide +kernel
theorem dX12_chooses_66 : decode cX12_chooses 66 = .ok (.istore_n 1, 1) := by decide +kernel
theorem dX12_chooses_67 : decode cX12_chooses 67 = .ok (.iinc 2 1, 3) := by decide +kernel
theorem dX12_chooses_70 : decode cX12_chooses 70 = .ok (.goto (-44), 3) := by decide +kernel
theorem dX12_chooses_73 : decode cX12_chooses 73 = .ok (.iload_n 1, 1) := by decide +kernel
theorem dX12_chooses_74 : decode cX12_chooses 74 = .ok (.iconst (-1), 1) := by decide +kernel
theorem dX12_chooses_75 : decode cX12_chooses 75 = .ok (.if_icmp .ne 4, 3) := by decide +kernel
theorem dX12_chooses_78 : decode cX12_chooses 78 = .ok (.return_, 1) := by decide +kernel
theorem dX12_chooses_79 : decode cX12_chooses 79 = .ok (.aload_n 0, 1) := by decide +kernel
theorem dX12_chooses_80 : decode cX12_chooses 80 = .ok (.iconst 0, 1) := by decide +kernel
theorem dX12_chooses_81 : decode cX12_chooses 81 = .ok (.iload_n 1, 1) := by decide +kernel
theorem dX12_chooses_82 : decode cX12_chooses 82 = .ok (.iadd, 1) := by decide +kernel
theorem dX12_chooses_83 : decode cX12_chooses 83 = .ok (.invokevirtual 352, 3) := by decide +kernel
theorem dX12_chooses_86 : decode cX12_chooses 86 = .ok (.aload_n 0, 1) := by decide +kernel
theorem dX12_chooses_87 : decode cX12_chooses 87 = .ok (.bipush 18, 2) := by decide +kernel
theorem dX12_chooses_89 : decode cX12_chooses 89 = .ok (.invokevirtual 352, 3) := by decide +kernel
theorem dX12_chooses_92 : decode cX12_chooses 92 = .ok (.fcmp .l, 1) := by decide +kernel
theorem dX12_chooses_93 : decode cX12_chooses 93 = .ok (.ifCond .le 16, 3) := by decide +kernel
theorem dX12_chooses_96 : decode cX12_chooses 96 = .ok (.aload_n 0, 1) := by decide +kernel
theorem dX12_chooses_97 : decode cX12_chooses 97 = .ok (.bipush 18, 2) := by decide +kernel
theorem dX12_chooses_99 : decode cX12_chooses 99 = .ok (.aload_n 0, 1) := by decide +kernel
theorem dX12_chooses_100 : decode cX12_chooses 100 = .ok (.iconst 0, 1) := by decide +kernel
theorem dX12_chooses_101 : decode cX12_chooses 101 = .ok (.iload_n 1, 1) := by decide +kernel
theorem dX12_chooses_102 : decode cX12_chooses 102 = .ok (.iadd, 1) := by decide +kernel
theorem dX12_chooses_103 : decode cX12_chooses 103 = .ok (.invokevirtual 352, 3) := by decide +kernel
theorem dX12_chooses_106 : decode cX12_chooses 106 = .ok (.invokevirtual 327, 3) := by decide +kernel
theorem dX12_chooses_109 : decode cX12_chooses 109 = .ok (.iconst (-1), 1) := by decide +kernel
theorem dX12_chooses_110 : decode cX12_chooses 110 = .ok (.istore_n 2, 1) := by decide +kernel
theorem dX12_chooses_111 : decode cX12_chooses 111 = .ok (.iconst 0, 1) := by decide +kernel
theorem dX12_chooses_112 : decode cX12_chooses 112 = .ok (.istore_n 3, 1) := by decide +kernel
theorem dX12_chooses_113 : decode cX12_chooses 113 = .ok (.iload_n 3, 1) := by decide +kernel
theorem dX12_chooses_114 : decode cX12_chooses 114 = .ok (.aload_n 0, 1) := by decide +kernel
theorem dX12_chooses_115 : decode cX12_chooses 115 = .ok (.getfield 13, 3) := by decide +kernel
theorem dX12_chooses_118 : decode cX12_chooses 118 = .ok (.if_icmp .ge 64, 3) := by decide +kernel
theorem dX12_chooses_121 : decode cX12_chooses 121 = .ok (.aload_n 0, 1) := by decide +kernel
theorem dX12_chooses_122 : decode cX12_chooses 122 = .ok (.iload_n 3, 1) := by decide +kernel
theorem dX12_chooses_123 : decode cX12_chooses 123 = .ok (.invokevirtual 349, 3) := by decide +kernel
theorem dX12_chooses_126 : decode cX12_chooses 126 = .ok (.ifCond .eq 50, 3) := by decide +kernel
theorem dX12_chooses_129 : decode cX12_chooses 129 = .ok (.aload_n 0, 1) := by decide +kernel
theorem dX12_chooses_130 : decode cX12_chooses 130 = .ok (.iconst 0, 1) := by decide +kernel
theorem dX12_chooses_131 : decode cX12_chooses 131 = .ok (.iload_n 3, 1) := by decide +kernel
theorem dX12_chooses_132 : decode cX12_chooses 132 = .ok (.iadd, 1) := by decide +kernel
theorem dX12_chooses_133 : decode cX12_chooses 133 = .ok (.invokevirtual 352, 3) := by decide +kernel
theorem dX12_chooses_136 : decode cX12_chooses 136 = .ok (.aload_n 0, 1) := by decide +kernel
theorem dX12_chooses_137 : decode cX12_chooses 137 = .ok (.bipush 18, 2) := by decide +kernel
theorem dX12_chooses_139 : decode cX12_chooses 139 = .ok (.invokevirtual 352, 3) := by decide +kernel
theorem dX12_chooses_142 : decode cX12_chooses 142 = .ok (.fcmp .l, 1) := by decide +kernel
theorem dX12_chooses_143 : decode cX12_chooses 143 = .ok (.ifCond .le 6, 3) := by decide +kernel
theorem dX12_chooses_146 : decode cX12_chooses 146 = .ok (.goto 30, 3) := by decide +kernel
theorem dX12_chooses_149 : decode cX12_chooses 149 = .ok (.iload_n 2, 1) := by decide +kernel
theorem dX12_chooses_150 : decode cX12_chooses 150 = .ok (.iconst (-1), 1) := by decide +kernel
theorem dX12_chooses_151 : decode cX12_chooses 151 = .ok (.if_icmp .eq 23, 3) := by decide +kernel
theorem dX12_chooses_154 : decode cX12_chooses 154 = .ok (.aload_n 0, 1) := by decide +kernel
theorem dX12_chooses_155 : decode cX12_chooses 155 = .ok (.bipush 6, 2) := by decide +kernel
theorem dX12_chooses_157 : decode cX12_chooses 157 = .ok (.iload_n 3, 1) := by decide +kernel
theorem dX12_chooses_158 : decode cX12_chooses 158 = .ok (.iadd, 1) := by decide +kernel
theorem dX12_chooses_159 : decode cX12_chooses 159 = .ok (.invokevirtual 352, 3) := by decide +kernel
theorem dX12_chooses_162 : decode cX12_chooses 162 = .ok (.aload_n 0, 1) := by decide +kernel
theorem dX12_chooses_163 : decode cX12_chooses 163 = .ok (.bipush 6, 2) := by decide +kernel
theorem dX12_chooses_165 : decode cX12_chooses 165 = .ok (.iload_n 2, 1) := by decide +kernel
theorem dX12_chooses_166 : decode cX12_chooses 166 = .ok (.iadd, 1) := by decide +kernel
theorem dX12_chooses_167 : decode cX12_chooses 167 = .ok (.invokevirtual 352, 3) := by decide +kernel
theorem dX12_chooses_170 : decode cX12_chooses 170 = .ok (.fcmp .g, 1) := by decide +kernel
theorem dX12_chooses_171 : decode cX12_chooses 171 = .ok (.ifCond .ge 5, 3) := by decide +kernel
theorem dX12_chooses_174 : decode cX12_chooses 174 = .ok (.iload_n 3, 1) := by decide +kernel
theorem dX12_chooses_175 : decode cX12_chooses 175 = .ok (.istore_n 2, 1) := by decide +kernel
theorem dX12_chooses_176 : decode cX12_chooses 176 = .ok (.iinc 3 1, 3) := by decide +kernel
theorem dX12_chooses_179 : decode cX12_chooses 179 = .ok (.goto (-66), 3) := by decide +kernel
theorem dX12_chooses_182 : decode cX12_chooses 182 = .ok (.aload_n 0, 1) := by decide +kernel
theorem dX12_chooses_183 : decode cX12_chooses 183 = .ok (.iconst 2, 1) := by decide +kernel
theorem dX12_chooses_184 : decode cX12_chooses 184 = .ok (.iload_n 2, 1) := by decide +kernel
theorem dX12_chooses_185 : decode cX12_chooses 185 = .ok (.invokevirtual 318, 3) := by decide +kernel
theorem dX12_chooses_188 : decode cX12_chooses 188 = .ok (.aload_n 0, 1) := by decide +kernel
theorem dX12_chooses_189 : decode cX12_chooses 189 = .ok (.iconst 3, 1) := by decide +kernel
theorem dX12_chooses_190 : decode cX12_chooses 190 = .ok (.aload_n 0, 1) := by decide +kernel
theorem dX12_chooses_191 : decode cX12_chooses 191 = .ok (.iconst 0, 1) := by decide +kernel
theorem dX12_chooses_192 : decode cX12_chooses 192 = .ok (.invokevirtual 321, 3) := by decide +kernel
theorem dX12_chooses_195 : decode cX12_chooses 195 = .ok (.invokevirtual 318, 3) := by decide +kernel
theorem dX12_chooses_198 : decode cX12_chooses 198 = .ok (.aload_n 0, 1) := by decide +kernel
theorem dX12_chooses_199 : decode cX12_chooses 199 = .ok (.iload_n 2, 1) := by decide +kernel
theorem dX12_chooses_200 : decode cX12_chooses 200 = .ok (.iconst 1, 1) := by decide +kernel
theorem dX12_chooses_201 : decode cX12_chooses 201 = .ok (.iconst 0, 1) := by decide +kernel
theorem dX12_chooses_202 : decode cX12_chooses 202 = .ok (.invokevirtual 331, 3) := by decide +kernel
theorem dX12_chooses_205 : decode cX12_chooses 205 = .ok (.aload_n 0, 1) := by decide +kernel
theorem dX12_chooses_206 : decode cX12_chooses 206 = .ok (.aload_n 0, 1) := by decide +kernel
theorem dX12_chooses_207 : decode cX12_chooses 207 = .ok (.iload_n 2, 1) := by decide +kernel
theorem dX12_chooses_208 : decode cX12_chooses 208 = .ok (.invokevirtual 372, 3) := by decide +kernel
theorem dX12_chooses_211 : decode cX12_chooses 211 = .ok (.invokevirtual 378, 3) := by decide +kernel
theorem dX12_chooses_214 : decode cX12_chooses 214 = .ok (.return_, 1) := by decide +kernel
theorem dX12_isDone_0 : decode cX12_isDone 0 = .ok (.aload_n 0, 1) := by decide +kernel
theorem dX12_isDone_1 : decode cX12_isDone 1 = .ok (.iconst 2, 1) := by decide +kernel
theorem dX12_isDone_2 : decode cX12_isDone 2 = .ok (.invokevirtual 321, 3) := by decide +kernel
theorem dX12_isDone_5 : decode cX12_isDone 5 = .ok (.istore_n 1, 1) := by decide +kernel
theorem dX12_isDone_6 : decode cX12_isDone 6 = .ok (.aload_n 0, 1) := by decide +kernel
theorem dX12_isDone_7 : decode cX12_isDone 7 = .ok (.bipush 13, 2) := by decide +kernel
theorem dX12_isDone_9 : decode cX12_isDone 9 = .ok (.invokevirtual 321, 3) := by decide +kernel
theorem dX12_isDone_12 : decode cX12_isDone 12 = .ok (.istore_n 2, 1) := by decide +kernel
theorem dX12_isDone_13 : decode cX12_isDone 13 = .ok (.aload_n 0, 1) := by decide +kernel
theorem dX12_isDone_14 : decode cX12_isDone 14 = .ok (.bipush 14, 2) := by decide +kernel
theorem dX12_isDone_16 : decode cX12_isDone 16 = .ok (.invokevirtual 321, 3) := by decide +kernel
theorem dX12_isDone_19 : decode cX12_isDone 19 = .ok (.istore_n 3, 1) := by decide +kernel
theorem dX12_isDone_20 : decode cX12_isDone 20 = .ok (.aload_n 0, 1) := by decide +kernel
theorem dX12_isDone_21 : decode cX12_isDone 21 = .ok (.iconst 0, 1) := by decide +kernel
theorem dX12_isDone_22 : decode cX12_isDone 22 = .ok (.invokevirtual 321, 3) := by decide +kernel
theorem dX12_isDone_25 : decode cX12_isDone 25 = .ok (.aload_n 0, 1) := by decide +kernel
theorem dX12_isDone_26 : decode cX12_isDone 26 = .ok (.bipush 15, 2) := by decide +kernel
theorem dX12_isDone_28 : decode cX12_isDone 28 = .ok (.invokevirtual 321, 3) := by decide +kernel
theorem dX12_isDone_31 : decode cX12_isDone 31 = .ok (.isub, 1) := by decide +kernel
theorem dX12_isDone_32 : decode cX12_isDone 32 = .ok (.istore 4, 2) := by decide +kernel
theorem dX12_isDone_34 : decode cX12_isDone 34 = .ok (.aload_n 0, 1) := by decide +kernel
theorem dX12_isDone_35 : decode cX12_isDone 35 = .ok (.iconst 1, 1) := by decide +kernel
theorem dX12_isDone_36 : decode cX12_isDone 36 = .ok (.aload_n 0, 1) := by decide +kernel
theorem dX12_isDone_37 : decode cX12_isDone 37 = .ok (.bipush 12, 2) := by decide +kernel
theorem dX12_isDone_39 : decode cX12_isDone 39 = .ok (.invokevirtual 321, 3) := by decide +kernel
theorem dX12_isDone_42 : decode cX12_isDone 42 = .ok (.iload_n 2, 1) := by decide +kernel
theorem dX12_isDone_43 : decode cX12_isDone 43 = .ok (.iadd, 1) := by decide +kernel
theorem dX12_isDone_44 : decode cX12_isDone 44 = .ok (.invokevirtual 318, 3) := by decide +kernel
theorem dX12_isDone_47 : decode cX12_isDone 47 = .ok (.aload_n 0, 1) := by decide +kernel
theorem dX12_isDone_48 : decode cX12_isDone 48 = .ok (.iload_n 1, 1) := by decide +kernel
theorem dX12_isDone_49 : decode cX12_isDone 49 = .ok (.iconst 1, 1) := by decide +kernel
theorem dX12_isDone_50 : decode cX12_isDone 50 = .ok (.aload_n 0, 1) := by decide +kernel
theorem dX12_isDone_51 : decode cX12_isDone 51 = .ok (.iload_n 1, 1) := by decide +kernel
theorem dX12_isDone_52 : decode cX12_isDone 52 = .ok (.iconst 1, 1) := by decide +kernel
theorem dX12_isDone_53 : decode cX12_isDone 53 = .ok (.invokevirtual 340, 3) := by decide +kernel
theorem dX12_isDone_56 : decode cX12_isDone 56 = .ok (.iload_n 2, 1) := by decide +kernel
theorem dX12_isDone_57 : decode cX12_isDone 57 = .ok (.iadd, 1) := by decide +kernel
theorem dX12_isDone_58 : decode cX12_isDone 58 = .ok (.invokevirtual 331, 3) := by decide +kernel
theorem dX12_isDone_61 : decode cX12_isDone 61 = .ok (.iconst 0, 1) := by decide +kernel
theorem dX12_isDone_62 : decode cX12_isDone 62 = .ok (.istore 5, 2) := by decide +kernel
theorem dX12_isDone_64 : decode cX12_isDone 64 = .ok (.iconst 0, 1) := by decide +kernel
