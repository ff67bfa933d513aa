theorem dX12_slicing_18 : decode cX12_slicing 18 = .ok (.iconst 0, 1) := by decide +kernel
theorem dX12_slicing_19 : decode cX12_slicing 19 = .ok (.iconst 1, 1) := by decide +kernel
theorem dX12_slicing_20 : decode cX12_slicing 20 = .ok (.invokestatic 262, 3) := by decide +kernel
theorem dX12_slicing_23 : decode cX12_slicing 23 = .ok (.ifCond .ne 5, 3) := by decide +kernel
theorem dX12_slicing_26 : decode cX12_slicing 26 = .ok (.iconst (-1), 1) := by decide +kernel
theorem dX12_slicing_27 : decode cX12_slicing 27 = .ok (.ireturn, 1) := by decide +kernel
theorem dX12_slicing_28 : decode cX12_slicing 28 = .ok (.iconst (-1), 1) := by decide +kernel
theorem dX12_slicing_29 : decode cX12_slicing 29 = .ok (.istore_n 3, 1) := by decide +kernel
theorem dX12_slicing_30 : decode cX12_slicing 30 = .ok (.ldc_w 434, 3) := by decide +kernel
theorem dX12_slicing_33 : decode cX12_slicing 33 = .ok (.istore 4, 2) := by decide +kernel
theorem dX12_slicing_35 : decode cX12_slicing 35 = .ok (.iconst 1, 1) := by decide +kernel
theorem dX12_slicing_36 : decode cX12_slicing 36 = .ok (.istore 5, 2) := by decide +kernel
theorem dX12_slicing_38 : decode cX12_slicing 38 = .ok (.iload 5, 2) := by decide +kernel
theorem dX12_slicing_40 : decode cX12_slicing 40 = .ok (.sipush 200, 3) := by decide +kernel
theorem dX12_slicing_43 : decode cX12_slicing 43 = .ok (.if_icmp .gt 51, 3) := by decide +kernel
theorem dX12_slicing_46 : decode cX12_slicing 46 = .ok (.aload_n 0, 1) := by decide +kernel
theorem dX12_slicing_47 : decode cX12_slicing 47 = .ok (.invokevirtual 425, 3) := by decide +kernel
theorem dX12_slicing_50 : decode cX12_slicing 50 = .ok (.aload_n 0, 1) := by decide +kernel
theorem dX12_slicing_51 : decode cX12_slicing 51 = .ok (.bipush 7, 2) := by decide +kernel
theorem dX12_slicing_53 : decode cX12_slicing 53 = .ok (.iload 5, 2) := by decide +kernel
theorem dX12_slicing_55 : decode cX12_slicing 55 = .ok (.invokevirtual 318, 3) := by decide +kernel
theorem dX12_slicing_58 : decode cX12_slicing 58 = .ok (.aload_n 0, 1) := by decide +kernel
theorem dX12_slicing_59 : decode cX12_slicing 59 = .ok (.iload_n 1, 1) := by decide +kernel
theorem dX12_slicing_60 : decode cX12_slicing 60 = .ok (.invokevirtual 428, 3) := by decide +kernel
theorem dX12_slicing_63 : decode cX12_slicing 63 = .ok (.aload_n 0, 1) := by decide +kernel
theorem dX12_slicing_64 : decode cX12_slicing 64 = .ok (.iconst (-1), 1) := by decide +kernel
theorem dX12_slicing_65 : decode cX12_slicing 65 = .ok (.iconst 3, 1) := by decide +kernel
theorem dX12_slicing_66 : decode cX12_slicing 66 = .ok (.invokevirtual 431, 3) := by decide +kernel
theorem dX12_slicing_69 : decode cX12_slicing 69 = .ok (.istore 6, 2) := by decide +kernel
theorem dX12_slicing_71 : decode cX12_slicing 71 = .ok (.iload 6, 2) := by decide +kernel
theorem dX12_slicing_73 : decode cX12_slicing 73 = .ok (.iload 4, 2) := by decide +kernel
theorem dX12_slicing_75 : decode cX12_slicing 75 = .ok (.if_icmp .le 6, 3) := by decide +kernel
theorem dX12_slicing_78 : decode cX12_slicing 78 = .ok (.goto 10, 3) := by decide +kernel
theorem dX12_slicing_81 : decode cX12_slicing 81 = .ok (.iload 5, 2) := by decide +kernel
theorem dX12_slicing_83 : decode cX12_slicing 83 = .ok (.istore_n 3, 1) := by decide +kernel
theorem dX12_slicing_84 : decode cX12_slicing 84 = .ok (.iload 6, 2) := by decide +kernel
theorem dX12_slicing_86 : decode cX12_slicing 86 = .ok (.istore 4, 2) := by decide +kernel
theorem dX12_slicing_88 : decode cX12_slicing 88 = .ok (.iinc 5 1, 3) := by decide +kernel
theorem dX12_slicing_91 : decode cX12_slicing 91 = .ok (.goto (-53), 3) := by decide +kernel
theorem dX12_slicing_94 : decode cX12_slicing 94 = .ok (.iload_n 2, 1) := by decide +kernel
theorem dX12_slicing_95 : decode cX12_slicing 95 = .ok (.ifCond .ne 7, 3) := by decide +kernel
theorem dX12_slicing_98 : decode cX12_slicing 98 = .ok (.iload_n 3, 1) := by decide +kernel
theorem dX12_slicing_99 : decode cX12_slicing 99 = .ok (.goto 5, 3) := by decide +kernel
theorem dX12_slicing_102 : decode cX12_slicing 102 = .ok (.iload 4, 2) := by decide +kernel
theorem dX12_slicing_104 : decode cX12_slicing 104 = .ok (.ireturn, 1) := by decide +kernel
theorem dX12_gain_0 : decode cX12_gain 0 = .ok (.aload_n 0, 1) := by decide +kernel
theorem dX12_gain_1 : decode cX12_gain 1 = .ok (.getfield 7, 3) := by decide +kernel
theorem dX12_gain_4 : decode cX12_gain 4 = .ok (.ifCond .eq 23, 3) := by decide +kernel
theorem dX12_gain_7 : decode cX12_gain 7 = .ok (.iload_n 1, 1) := by decide +kernel
theorem dX12_gain_8 : decode cX12_gain 8 = .ok (.iconst 1, 1) := by decide +kernel
theorem dX12_gain_9 : decode cX12_gain 9 = .ok (.sipush 200, 3) := by decide +kernel
theorem dX12_gain_12 : decode cX12_gain 12 = .ok (.invokestatic 262, 3) := by decide +kernel
theorem dX12_gain_15 : decode cX12_gain 15 = .ok (.ifCond .eq 12, 3) := by decide +kernel
theorem dX12_gain_18 : decode cX12_gain 18 = .ok (.iload_n 2, 1) := by decide +kernel
theorem dX12_gain_19 : decode cX12_gain 19 = .ok (.iconst 0, 1) := by decide +kernel
theorem dX12_gain_20 : decode cX12_gain 20 = .ok (.iconst 1, 1) := by decide +kernel
theorem dX12_gain_21 : decode cX12_gain 21 = .ok (.invokestatic 262, 3) := by decide +kernel
theorem dX12_gain_24 : decode cX12_gain 24 = .ok (.ifCond .ne 5, 3) := by decide +kernel
theorem dX12_gain_27 : decode cX12_gain 27 = .ok (.iconst (-1), 1) := by decide +kernel
theorem dX12_gain_28 : decode cX12_gain 28 = .ok (.ireturn, 1) := by decide +kernel
theorem dX12_gain_29 : decode cX12_gain 29 = .ok (.aload_n 0, 1) := by decide +kernel
theorem dX12_gain_30 : decode cX12_gain 30 = .ok (.invokevirtual 425, 3) := by decide +kernel
theorem dX12_gain_33 : decode cX12_gain 33 = .ok (.iload_n 2, 1) := by decide +kernel
theorem dX12_gain_34 : decode cX12_gain 34 = .ok (.iconst 1, 1) := by decide +kernel
theorem dX12_gain_35 : decode cX12_gain 35 = .ok (.if_icmp .ne 10, 3) := by decide +kernel
theorem dX12_gain_38 : decode cX12_gain 38 = .ok (.aload_n 0, 1) := by decide +kernel
theorem dX12_gain_39 : decode cX12_gain 39 = .ok (.bipush 6, 2) := by decide +kernel
theorem dX12_gain_41 : decode cX12_gain 41 = .ok (.iconst 0, 1) := by decide +kernel
theorem dX12_gain_42 : decode cX12_gain 42 = .ok (.invokevirtual 318, 3) := by decide +kernel
theorem dX12_gain_45 : decode cX12_gain 45 = .ok (.aload_n 0, 1) := by decide +kernel
theorem dX12_gain_46 : decode cX12_gain 46 = .ok (.iload_n 1, 1) := by decide +kernel
theorem dX12_gain_47 : decode cX12_gain 47 = .ok (.invokevirtual 428, 3) := by decide +kernel
theorem dX12_gain_50 : decode cX12_gain 50 = .ok (.aload_n 0, 1) := by decide +kernel
theorem dX12_gain_51 : decode cX12_gain 51 = .ok (.iconst (-1), 1) := by decide +kernel
theorem dX12_gain_52 : decode cX12_gain 52 = .ok (.iconst 1, 1) := by decide +kernel
theorem dX12_gain_53 : decode cX12_gain 53 = .ok (.invokevirtual 431, 3) := by decide +kernel
theorem dX12_gain_56 : decode cX12_gain 56 = .ok (.ireturn, 1) := by decide +kernel
theorem dX12_apart_0 : decode cX12_apart 0 = .ok (.iload_n 1, 1) := by decide +kernel
theorem dX12_apart_1 : decode cX12_apart 1 = .ok (.iconst 1, 1) := by decide +kernel
theorem dX12_apart_2 : decode cX12_apart 2 = .ok (.sipush 400, 3) := by decide +kernel
theorem dX12_apart_5 : decode cX12_apart 5 = .ok (.invokestatic 262, 3) := by decide +kernel
theorem dX12_apart_8 : decode cX12_apart 8 = .ok (.ifCond .eq 10, 3) := by decide +kernel
theorem dX12_apart_11 : decode cX12_apart 11 = .ok (.aload_n 0, 1) := by decide +kernel
theorem dX12_apart_12 : decode cX12_apart 12 = .ok (.getfield 13, 3) := by decide +kernel
theorem dX12_apart_15 : decode cX12_apart 15 = .ok (.ifCond .ne 5, 3) := by decide +kernel
theorem dX12_apart_18 : decode cX12_apart 18 = .ok (.iconst (-1), 1) := by decide +kernel
theorem dX12_apart_19 : decode cX12_apart 19 = .ok (.ireturn, 1) := by decide +kernel
theorem dX12_apart_20 : decode cX12_apart 20 = .ok (.aload_n 0, 1) := by decide +kernel
theorem dX12_apart_21 : decode cX12_apart 21 = .ok (.invokevirtual 425, 3) := by decide +kernel
theorem dX12_apart_24 : decode cX12_apart 24 = .ok (.aload_n 0, 1) := by decide +kernel
theorem dX12_apart_25 : decode cX12_apart 25 = .ok (.iload_n 1, 1) := by decide +kernel
theorem dX12_apart_26 : decode cX12_apart 26 = .ok (.invokevirtual 428, 3) := by decide +kernel
theorem dX12_apart_29 : decode cX12_apart 29 = .ok (.fconst 0, 1) := by decide +kernel
theorem dX12_apart_30 : decode cX12_apart 30 = .ok (.fstore_n 2, 1) := by decide +kernel
theorem dX12_apart_31 : decode cX12_apart 31 = .ok (.fconst 0, 1) := by decide +kernel
theorem dX12_apart_32 : decode cX12_apart 32 = .ok (.fstore_n 3, 1) := by decide +kernel
theorem dX12_apart_33 : decode cX12_apart 33 = .ok (.iconst 0, 1) := by decide +kernel
theorem dX12_apart_34 : decode cX12_apart 34 = .ok (.istore 4, 2) := by decide +kernel
theorem dX12_apart_36 : decode cX12_apart 36 = .ok (.iload 4, 2) := by decide +kernel
theorem dX12_apart_38 : decode cX12_apart 38 = .ok (.aload_n 0, 1) := by decide +kernel
theorem dX12_apart_39 : decode cX12_apart 39 = .ok (.getfield 13, 3) := by decide +kernel
theorem dX12_apart_42 : decode cX12_apart 42 = .ok (.if_icmp .ge 58, 3) := by decide +kernel
theorem dX12_apart_45 : decode cX12_apart 45 = .ok (.aload_n 0, 1) := by decide +kernel
theorem dX12_apart_46 : decode cX12_apart 46 = .ok (.iload 4, 2) := by decide +kernel
theorem dX12_apart_48 : decode cX12_apart 48 = .ok (.iconst 1, 1) := by decide +kernel
theorem dX12_apart_49 : decode cX12_apart 49 = .ok (.invokevirtual 431, 3) := by decide +kernel
theorem dX12_apart_52 : decode cX12_apart 52 = .ok (.i2f, 1) := by decide +kernel
theorem dX12_apart_53 : decode cX12_apart 53 = .ok (.aload_n 0, 1) := by decide +kernel
theorem dX12_apart_54 : decode cX12_apart 54 = .ok (.iload 4, 2) := by decide +kernel
theorem dX12_apart_56 : decode cX12_apart 56 = .ok (.iconst 0, 1) := by decide +kernel
theorem dX12_apart_57 : decode cX12_apart 57 = .ok (.invokevirtual 337, 3) := by decide +kernel
theorem dX12_apart_60 : decode cX12_apart 60 = .ok (.i2f, 1) := by decide +kernel
theorem dX12_apart_61 : decode cX12_apart 61 = .ok (.fdiv, 1) := by decide +kernel
theorem dX12_apart_62 : decode cX12_apart 62 = .ok (.fstore 5, 2) := by decide +kernel
theorem dX12_apart_64 : decode cX12_apart 64 = .ok (.iload 4, 2) := by decide +kernel
theorem dX12_apart_66 : decode cX12_apart 66 = .ok (.ifCond .eq 10, 3) := by decide +kernel
theorem dX12_apart_69 : decode cX12_apart 69 = .ok (.fload 5, 2) := by decide +kernel
theorem dX12_apart_71 : decode cX12_apart 71 = .ok (.fload_n 2, 1) := by decide +kernel
theorem dX12_apart_72 : decode cX12_apart 72 = .ok (.fcmp .l, 1) := by decide +kernel
theorem dX12_apart_73 : decode cX12_apart 73 = .ok (.ifCond .le 6, 3) := by decide +kernel
theorem dX12_apart_76 : decode cX12_apart 76 = .ok (.fload 5, 2) := by decide +kernel
theorem dX12_apart_78 : decode cX12_apart 78 = .ok (.fstore_n 2, 1) := by decide +kernel
theorem dX12_apart_79 : decode cX12_apart 79 = .ok (.iload 4, 2) := by decide +kernel
theorem dX12_apart_81 : decode cX12_apart 81 = .ok (.ifCond .eq 10, 3) := by decide +kernel
theorem dX12_apart_84 : decode cX12_apart 84 = .ok (.fload 5, 2) := by decide +kernel
theorem dX12_apart_86 : decode cX12_apart 86 = .ok (.fload_n 3, 1) := by decide +kernel
theorem dX12_apart_87 : decode cX12_apart 87 = .ok (.fcmp .g, 1) := by decide +kernel
theorem dX12_apart_88 : decode cX12_apart 88 = .ok (.ifCond .ge 6, 3) := by decide +kernel
theorem dX12_apart_91 : decode cX12_apart 91 = .ok (.fload 5, 2) := by decide +kernel
theorem dX12_apart_93 : decode cX12_apart 93 = .ok (.fstore_n 3, 1) := by decide +kernel
theorem dX12_apart_94 : decode cX12_apart 94 = .ok (.iinc 4 1, 3) := by decide +kernel
theorem dX12_apart_97 : decode cX12_apart 97 = .ok (.goto (-61), 3) := by decide +kernel
theorem dX12_apart_100 : decode cX12_apart 100 = .ok (.fload_n 2, 1) := by decide +kernel
theorem dX12_apart_101 : decode cX12_apart 101 = .ok (.fload_n 3, 1) := by decide +kernel
theorem dX12_apart_102 : decode cX12_apart 102 = .ok (.fsub, 1) := by decide +kernel
theorem dX12_apart_103 : decode cX12_apart 103 = .ok (.invokestatic 416, 3) := by decide +kernel
theorem dX12_apart_106 : decode cX12_apart 106 = .ok (.ireturn, 1) := by decide +kernel
theorem dX12_latest_0 : decode cX12_latest 0 = .ok (.aload_n 0, 1) := by decide +kernel
theorem dX12_latest_1 : decode cX12_latest 1 = .ok (.getfield 7, 3) := by decide +kernel
theorem dX12_latest_4 : decode cX12_latest 4 = .ok (.ifCond .eq 27, 3) := by decide +kernel
theorem dX12_latest_7 : decode cX12_latest 7 = .ok (.iload_n 1, 1) := by decide +kernel
theorem dX12_latest_8 : decode cX12_latest 8 = .ok (.iconst 1, 1) := by decide +kernel
theorem dX12_latest_9 : decode cX12_latest 9 = .ok (.sipush 400, 3) := by decide +kernel
theorem dX12_latest_12 : decode cX12_latest 12 = .ok (.invokestatic 262, 3) := by decide +kernel
theorem dX12_latest_15 : decode cX12_latest 15 = .ok (.ifCond .eq 16, 3) := by decide +kernel
theorem dX12_latest_18 : decode cX12_latest 18 = .ok (.iload_n 2, 1) := by decide +kernel
theorem dX12_latest_19 : decode cX12_latest 19 = .ok (.ifCond .lt 12, 3) := by decide +kernel
theorem dX12_latest_22 : decode cX12_latest 22 = .ok (.iload_n 3, 1) := by decide +kernel
theorem dX12_latest_23 : decode cX12_latest 23 = .ok (.iconst 0, 1) := by decide +kernel
theorem dX12_latest_24 : decode cX12_latest 24 = .ok (.iconst 1, 1) := by decide +kernel
theorem dX12_latest_25 : decode cX12_latest 25 = .ok (.invokestatic 262, 3) := by decide +kernel
theorem dX12_latest_28 : decode cX12_latest 28 = .ok (.ifCond .ne 5, 3) := by decide +kernel
theorem dX12_latest_31 : decode cX12_latest 31 = .ok (.iconst (-1), 1) := by decide +kernel
theorem dX12_latest_32 : decode cX12_latest 32 = .ok (.ireturn, 1) := by decide +kernel
theorem dX12_latest_33 : decode cX12_latest 33 = .ok (.aload_n 0, 1) := by decide +kernel
theorem dX12_latest_34 : decode cX12_latest 34 = .ok (.invokevirtual 425, 3) := by decide +kernel
theorem dX12_latest_37 : decode cX12_latest 37 = .ok (.aload_n 0, 1) := by decide +kernel
theorem dX12_latest_38 : decode cX12_latest 38 = .ok (.iload_n 1, 1) := by decide +kernel
theorem dX12_latest_39 : decode cX12_latest 39 = .ok (.invokevirtual 428, 3) := by decide +kernel
theorem dX12_latest_42 : decode cX12_latest 42 = .ok (.iconst (-1), 1) := by decide +kernel
theorem dX12_latest_43 : decode cX12_latest 43 = .ok (.istore 4, 2) := by decide +kernel
theorem dX12_latest_45 : decode cX12_latest 45 = .ok (.iconst 0, 1) := by decide +kernel
theorem dX12_latest_46 : decode cX12_latest 46 = .ok (.istore 5, 2) := by decide +kernel
theorem dX12_latest_48 : decode cX12_latest 48 = .ok (.iconst 0, 1) := by decide +kernel
theorem dX12_latest_49 : decode cX12_latest 49 = .ok (.istore 6, 2) := by decide +kernel
theorem dX12_latest_51 : decode cX12_latest 51 = .ok (.iload 6, 2) := by decide +kernel
theorem dX12_latest_53 : decode cX12_latest 53 = .ok (.aload_n 0, 1) := by decide +kernel
theorem dX12_latest_54 : decode cX12_latest 54 = .ok (.getfield 13, 3) := by decide +kernel
theorem dX12_latest_57 : decode cX12_latest 57 = .ok (.if_icmp .ge 89, 3) := by decide +kernel
theorem dX12_latest_60 : decode cX12_latest 60 = .ok (.iconst 0, 1) := by decide +kernel
theorem dX12_latest_61 : decode cX12_latest 61 = .ok (.istore 7, 2) := by decide +kernel
theorem dX12_latest_63 : decode cX12_latest 63 = .ok (.iconst 0, 1) := by decide +kernel
theorem dX12_latest_64 : decode cX12_latest 64 = .ok (.istore 8, 2) := by decide +kernel
theorem dX12_latest_66 : decode cX12_latest 66 = .ok (.iload 8, 2) := by decide +kernel
theorem dX12_latest_68 : decode cX12_latest 68 = .ok (.aload_n 0, 1) := by decide +kernel
theorem dX12_latest_69 : decode cX12_latest 69 = .ok (.getfield 184, 3) := by decide +kernel
theorem dX12_latest_72 : decode cX12_latest 72 = .ok (.if_icmp .ge 50, 3) := by decide +kernel
theorem dX12_latest_75 : decode cX12_latest 75 = .ok (.iload 7, 2) := by decide +kernel
theorem dX12_latest_77 : decode cX12_latest 77 = .ok (.aload_n 0, 1) := by decide +kernel
theorem dX12_latest_78 : decode cX12_latest 78 = .ok (.getfield 190, 3) := by decide +kernel
theorem dX12_latest_81 : decode cX12_latest 81 = .ok (.iconst 4, 1) := by decide +kernel
theorem dX12_latest_82 : decode cX12_latest 82 = .ok (.iload 8, 2) := by decide +kernel
theorem dX12_latest_84 : decode cX12_latest 84 = .ok (.imul, 1) := by decide +kernel
theorem dX12_latest_85 : decode cX12_latest 85 = .ok (.iconst 1, 1) := by decide +kernel
theorem dX12_latest_86 : decode cX12_latest 86 = .ok (.iadd, 1) := by decide +kernel
theorem dX12_latest_87 : decode cX12_latest 87 = .ok (.iaload, 1) := by decide +kernel
theorem dX12_latest_88 : decode cX12_latest 88 = .ok (.iload 6, 2) := by decide +kernel
theorem dX12_latest_90 : decode cX12_latest 90 = .ok (.if_icmp .ne 22, 3) := by decide +kernel
theorem dX12_latest_93 : decode cX12_latest 93 = .ok (.aload_n 0, 1) := by decide +kernel
theorem dX12_latest_94 : decode cX12_latest 94 = .ok (.getfield 190, 3) := by decide +kernel
theorem dX12_latest_97 : decode cX12_latest 97 = .ok (.iconst 4, 1) := by decide +kernel
theorem dX12_latest_98 : decode cX12_latest 98 = .ok (.iload 8, 2) := by decide +kernel
theorem dX12_latest_100 : decode cX12_latest 100 = .ok (.imul, 1) := by decide +kernel
theorem dX12_latest_101 : decode cX12_latest 101 = .ok (.iconst 2, 1) := by decide +kernel
theorem dX12_latest_102 : decode cX12_latest 102 = .ok (.iadd, 1) := by decide +kernel
theorem dX12_latest_103 : decode cX12_latest 103 = .ok (.iaload, 1) := by decide +kernel
theorem dX12_latest_104 : decode cX12_latest 104 = .ok (.iload_n 2, 1) := by decide +kernel
theorem dX12_latest_105 : decode cX12_latest 105 = .ok (.if_icmp .le 7, 3) := by decide +kernel
theorem dX12_latest_108 : decode cX12_latest 108 = .ok (.iconst 1, 1) := by decide +kernel
theorem dX12_latest_109 : decode cX12_latest 109 = .ok (.goto 4, 3) := by decide +kernel
theorem dX12_latest_112 : decode cX12_latest 112 = .ok (.iconst 0, 1) := by decide +kernel
theorem dX12_latest_113 : decode cX12_latest 113 = .ok (.iadd, 1) := by decide +kernel
theorem dX12_latest_114 : decode cX12_latest 114 = .ok (.istore 7, 2) := by decide +kernel
theorem dX12_latest_116 : decode cX12_latest 116 = .ok (.iinc 8 1, 3) := by decide +kernel
theorem dX12_latest_119 : decode cX12_latest 119 = .ok (.goto (-53), 3) := by decide +kernel
theorem dX12_latest_122 : decode cX12_latest 122 = .ok (.iload 7, 2) := by decide +kernel
theorem dX12_latest_124 : decode cX12_latest 124 = .ok (.iload 5, 2) := by decide +kernel
theorem dX12_latest_126 : decode cX12_latest 126 = .ok (.if_icmp .gt 6, 3) := by decide +kernel
theorem dX12_latest_129 : decode cX12_latest 129 = .ok (.goto 11, 3) := by decide +kernel
theorem dX12_latest_132 : decode cX12_latest 132 = .ok (.iload 6, 2) := by decide +kernel
theorem dX12_latest_134 : decode cX12_latest 134 = .ok (.istore 4, 2) := by decide +kernel
theorem dX12_latest_136 : decode cX12_latest 136 = .ok (.iload 7, 2) := by decide +kernel
theorem dX12_latest_138 : decode cX12_latest 138 = .ok (.istore 5, 2) := by decide +kernel
theorem dX12_latest_140 : decode cX12_latest 140 = .ok (.iinc 6 1, 3) := by decide +kernel
theorem dX12_latest_143 : decode cX12_latest 143 = .ok (.goto (-92), 3) := by decide +kernel
theorem dX12_latest_146 : decode cX12_latest 146 = .ok (.iload 4, 2) := by decide +kernel
theorem dX12_latest_148 : decode cX12_latest 148 = .ok (.iconst (-1), 1) := by decide +kernel
theorem dX12_latest_149 : decode cX12_latest 149 = .ok (.if_icmp .eq 7, 3) := by decide +kernel
theorem dX12_latest_152 : decode cX12_latest 152 = .ok (.iload_n 3, 1) := by decide +kernel
theorem dX12_latest_153 : decode cX12_latest 153 = .ok (.ifCond .ne 8, 3) := by decide +kernel
theorem dX12_latest_156 : decode cX12_latest 156 = .ok (.iload 4, 2) := by decide +kernel
theorem dX12_latest_158 : decode cX12_latest 158 = .ok (.goto 5, 3) := by decide +kernel
theorem dX12_latest_161 : decode cX12_latest 161 = .ok (.iload 5, 2) := by decide +kernel
theorem dX12_latest_163 : decode cX12_latest 163 = .ok (.ireturn, 1) := by decide +kernel
theorem dX12_lag_0 : decode cX12_lag 0 = .ok (.aload_n 0, 1) := by decide +kernel
theorem dX12_lag_1 : decode cX12_lag 1 = .ok (.invokevirtual 324, 3) := by decide +kernel
theorem dX12_lag_4 : decode cX12_lag 4 = .ok (.aload_n 0, 1) := by decide +kernel
theorem dX12_lag_5 : decode cX12_lag 5 = .ok (.iload_n 1, 1) := by decide +kernel
theorem dX12_lag_6 : decode cX12_lag 6 = .ok (.invokevirtual 405, 3) := by decide +kernel
theorem dX12_lag_9 : decode cX12_lag 9 = .ok (.ifCond .eq 23, 3) := by decide +kernel
theorem dX12_lag_12 : decode cX12_lag 12 = .ok (.aload_n 0, 1) := by decide +kernel
theorem dX12_lag_13 : decode cX12_lag 13 = .ok (.iconst 0, 1) := by decide +kernel
theorem dX12_lag_14 : decode cX12_lag 14 = .ok (.iload_n 1, 1) := by decide +kernel
theorem dX12_lag_15 : decode cX12_lag 15 = .ok (.iadd, 1) := by decide +kernel
theorem dX12_lag_16 : decode cX12_lag 16 = .ok (.invokevirtual 352, 3) := by decide +kernel
theorem dX12_lag_19 : decode cX12_lag 19 = .ok (.aload_n 0, 1) := by decide +kernel
theorem dX12_lag_20 : decode cX12_lag 20 = .ok (.bipush 18, 2) := by decide +kernel
theorem dX12_lag_22 : decode cX12_lag 22 = .ok (.invokevirtual 352, 3) := by decide +kernel
theorem dX12_lag_25 : decode cX12_lag 25 = .ok (.fsub, 1) := by decide +kernel
theorem dX12_lag_26 : decode cX12_lag 26 = .ok (.invokestatic 416, 3) := by decide +kernel
theorem dX12_lag_29 : decode cX12_lag 29 = .ok (.goto 4, 3) := by decide +kernel
theorem dX12_lag_32 : decode cX12_lag 32 = .ok (.iconst (-1), 1) := by decide +kernel
theorem dX12_lag_33 : decode cX12_lag 33 = .ok (.ireturn, 1) := by decide +kernel
theorem dX12_see_0 : decode cX12_see 0 = .ok (.aload_n 0, 1) := by decide +kernel
theorem dX12_see_1 : decode cX12_see 1 = .ok (.invokevirtual 302, 3) := by decide +kernel
theorem dX12_see_4 : decode cX12_see 4 = .ok (.istore_n 1, 1) := by decide +kernel
theorem dX12_see_5 : decode cX12_see 5 = .ok (.aload_n 0, 1) := by decide +kernel
theorem dX12_see_6 : decode cX12_see 6 = .ok (.getfield 7, 3) := by decide +kernel
theorem dX12_see_9 : decode cX12_see 9 = .ok (.ifCond .eq 23, 3) := by decide +kernel
theorem dX12_see_12 : decode cX12_see 12 = .ok (.iload_n 1, 1) := by decide +kernel
theorem dX12_see_13 : decode cX12_see 13 = .ok (.ifCond .le 19, 3) := by decide +kernel
theorem dX12_see_16 : decode cX12_see 16 = .ok (.iload_n 1, 1) := by decide +kernel
theorem dX12_see_17 : decode cX12_see 17 = .ok (.iconst 2, 1) := by decide +kernel
theorem dX12_see_18 : decode cX12_see 18 = .ok (.irem, 1) := by decide +kernel
theorem dX12_see_19 : decode cX12_see 19 = .ok (.ifCond .ne 13, 3) := by decide +kernel
theorem dX12_see_22 : decode cX12_see 22 = .ok (.iload_n 1, 1) := by decide +kernel
theorem dX12_see_23 : decode cX12_see 23 = .ok (.bipush 32, 2) := by decide +kernel
theorem dX12_see_25 : decode cX12_see 25 = .ok (.if_icmp .gt 7, 3) := by decide +kernel
theorem dX12_see_28 : decode cX12_see 28 = .ok (.iconst 1, 1) := by decide +kernel
theorem dX12_see_29 : decode cX12_see 29 = .ok (.goto 4, 3) := by decide +kernel
theorem dX12_see_32 : decode cX12_see 32 = .ok (.iconst 0, 1) := by decide +kernel
theorem dX12_see_33 : decode cX12_see 33 = .ok (.istore_n 2, 1) := by decide +kernel
theorem dX12_see_34 : decode cX12_see 34 = .ok (.iconst 0, 1) := by decide +kernel
theorem dX12_see_35 : decode cX12_see 35 = .ok (.istore_n 3, 1) := by decide +kernel
theorem dX12_see_36 : decode cX12_see 36 = .ok (.iload_n 2, 1) := by decide +kernel
theorem dX12_see_37 : decode cX12_see 37 = .ok (.ifCond .eq 63, 3) := by decide +kernel
theorem dX12_see_40 : decode cX12_see 40 = .ok (.iload_n 3, 1) := by decide +kernel
theorem dX12_see_41 : decode cX12_see 41 = .ok (.iload_n 1, 1) := by decide +kernel
theorem dX12_see_42 : decode cX12_see 42 = .ok (.if_icmp .ge 58, 3) := by decide +kernel
theorem dX12_see_45 : decode cX12_see 45 = .ok (.aload_n 0, 1) := by decide +kernel
theorem dX12_see_46 : decode cX12_see 46 = .ok (.getfield 126, 3) := by decide +kernel
theorem dX12_see_49 : decode cX12_see 49 = .ok (.iload_n 3, 1) := by decide +kernel
theorem dX12_see_50 : decode cX12_see 50 = .ok (.iaload, 1) := by decide +kernel
theorem dX12_see_51 : decode cX12_see 51 = .ok (.iconst 1, 1) := by decide +kernel
theorem dX12_see_52 : decode cX12_see 52 = .ok (.bipush 60, 2) := by decide +kernel
theorem dX12_see_54 : decode cX12_see 54 = .ok (.invokestatic 262, 3) := by decide +kernel
theorem dX12_see_57 : decode cX12_see 57 = .ok (.ifCond .eq 35, 3) := by decide +kernel
theorem dX12_see_60 : decode cX12_see 60 = .ok (.aload_n 0, 1) := by decide +kernel
theorem dX12_see_61 : decode cX12_see 61 = .ok (.getfield 126, 3) := by decide +kernel
theorem dX12_see_64 : decode cX12_see 64 = .ok (.iload_n 3, 1) := by decide +kernel
theorem dX12_see_65 : decode cX12_see 65 = .ok (.iconst 1, 1) := by decide +kernel
theorem dX12_see_66 : decode cX12_see 66 = .ok (.iadd, 1) := by decide +kernel
theorem dX12_see_67 : decode cX12_see 67 = .ok (.iaload, 1) := by decide +kernel
theorem dX12_see_68 : decode cX12_see 68 = .ok (.bipush 6, 2) := by decide +kernel
theorem dX12_see_70 : decode cX12_see 70 = .ok (.if_icmp .eq 18, 3) := by decide +kernel
theorem dX12_see_73 : decode cX12_see 73 = .ok (.aload_n 0, 1) := by decide +kernel
theorem dX12_see_74 : decode cX12_see 74 = .ok (.aload_n 0, 1) := by decide +kernel
theorem dX12_see_75 : decode cX12_see 75 = .ok (.getfield 126, 3) := by decide +kernel
theorem dX12_see_78 : decode cX12_see 78 = .ok (.iload_n 3, 1) := by decide +kernel
theorem dX12_see_79 : decode cX12_see 79 = .ok (.iconst 1, 1) := by decide +kernel
theorem dX12_see_80 : decode cX12_see 80 = .ok (.iadd, 1) := by decide +kernel
theorem dX12_see_81 : decode cX12_see 81 = .ok (.iaload, 1) := by decide +kernel
theorem dX12_see_82 : decode cX12_see 82 = .ok (.invokevirtual 405, 3) := by decide +kernel
theorem dX12_see_85 : decode cX12_see 85 = .ok (.ifCond .eq 7, 3) := by decide +kernel
theorem dX12_see_88 : decode cX12_see 88 = .ok (.iconst 1, 1) := by decide +kernel
theorem dX12_see_89 : decode cX12_see 89 = .ok (.goto 4, 3) := by decide +kernel
theorem dX12_see_92 : decode cX12_see 92 = .ok (.iconst 0, 1) := by decide +kernel
theorem dX12_see_93 : decode cX12_see 93 = .ok (.istore_n 2, 1) := by decide +kernel
theorem dX12_see_94 : decode cX12_see 94 = .ok (.iinc 3 2, 3) := by decide +kernel
theorem dX12_see_97 : decode cX12_see 97 = .ok (.goto (-61), 3) := by decide +kernel
theorem dX12_see_100 : decode cX12_see 100 = .ok (.iload_n 2, 1) := by decide +kernel
theorem dX12_see_101 : decode cX12_see 101 = .ok (.ifCond .ne 9, 3) := by decide +kernel
theorem dX12_see_104 : decode cX12_see 104 = .ok (.aload_n 0, 1) := by decide +kernel
theorem dX12_see_105 : decode cX12_see 105 = .ok (.iconst 5, 1) := by decide +kernel
theorem dX12_see_106 : decode cX12_see 106 = .ok (.invokevirtual 220, 3) := by decide +kernel
theorem dX12_see_109 : decode cX12_see 109 = .ok (.ireturn, 1) := by decide +kernel
theorem dX12_see_110 : decode cX12_see 110 = .ok (.aload_n 0, 1) := by decide +kernel
theorem dX12_see_111 : decode cX12_see 111 = .ok (.iload_n 1, 1) := by decide +kernel
theorem dX12_see_112 : decode cX12_see 112 = .ok (.iconst 2, 1) := by decide +kernel
theorem dX12_see_113 : decode cX12_see 113 = .ok (.idiv, 1) := by decide +kernel
theorem dX12_see_114 : decode cX12_see 114 = .ok (.putfield 196, 3) := by decide +kernel
theorem dX12_see_117 : decode cX12_see 117 = .ok (.iconst 0, 1) := by decide +kernel
theorem dX12_see_118 : decode cX12_see 118 = .ok (.istore_n 3, 1) := by decide +kernel
theorem dX12_see_119 : decode cX12_see 119 = .ok (.iload_n 3, 1) := by decide +kernel
theorem dX12_see_120 : decode cX12_see 120 = .ok (.aload_n 0, 1) := by decide +kernel
theorem dX12_see_121 : decode cX12_see 121 = .ok (.getfield 196, 3) := by decide +kernel
theorem dX12_see_124 : decode cX12_see 124 = .ok (.if_icmp .ge 39, 3) := by decide +kernel
theorem dX12_see_127 : decode cX12_see 127 = .ok (.aload_n 0, 1) := by decide +kernel
theorem dX12_see_128 : decode cX12_see 128 = .ok (.getfield 199, 3) := by decide +kernel
theorem dX12_see_131 : decode cX12_see 131 = .ok (.iload_n 3, 1) := by decide +kernel
theorem dX12_see_132 : decode cX12_see 132 = .ok (.aload_n 0, 1) := by decide +kernel
theorem dX12_see_133 : decode cX12_see 133 = .ok (.getfield 126, 3) := by decide +kernel
theorem dX12_see_136 : decode cX12_see 136 = .ok (.iconst 2, 1) := by decide +kernel
theorem dX12_see_137 : decode cX12_see 137 = .ok (.iload_n 3, 1) := by decide +kernel
theorem dX12_see_138 : decode cX12_see 138 = .ok (.imul, 1) := by decide +kernel
theorem dX12_see_139 : decode cX12_see 139 = .ok (.iaload, 1) := by decide +kernel
theorem dX12_see_140 : decode cX12_see 140 = .ok (.iastore, 1) := by decide +kernel
theorem dX12_see_141 : decode cX12_see 141 = .ok (.aload_n 0, 1) := by decide +kernel
theorem dX12_see_142 : decode cX12_see 142 = .ok (.getfield 202, 3) := by decide +kernel
theorem dX12_see_145 : decode cX12_see 145 = .ok (.iload_n 3, 1) := by decide +kernel
theorem dX12_see_146 : decode cX12_see 146 = .ok (.aload_n 0, 1) := by decide +kernel
theorem dX12_see_147 : decode cX12_see 147 = .ok (.getfield 126, 3) := by decide +kernel
theorem dX12_see_150 : decode cX12_see 150 = .ok (.iconst 2, 1) := by decide +kernel
theorem dX12_see_151 : decode cX12_see 151 = .ok (.iload_n 3, 1) := by decide +kernel
theorem dX12_see_152 : decode cX12_see 152 = .ok (.imul, 1) := by decide +kernel
theorem dX12_see_153 : decode cX12_see 153 = .ok (.iconst 1, 1) := by decide +kernel
theorem dX12_see_154 : decode cX12_see 154 = .ok (.iadd, 1) := by decide +kernel
theorem dX12_see_155 : decode cX12_see 155 = .ok (.iaload, 1) := by decide +kernel
theorem dX12_see_156 : decode cX12_see 156 = .ok (.iastore, 1) := by decide +kernel
theorem dX12_see_157 : decode cX12_see 157 = .ok (.iinc 3 1, 3) := by decide +kernel
theorem dX12_see_160 : decode cX12_see 160 = .ok (.goto (-41), 3) := by decide +kernel
theorem dX12_see_163 : decode cX12_see 163 = .ok (.aload_n 0, 1) := by decide +kernel
theorem dX12_see_164 : decode cX12_see 164 = .ok (.getfield 196, 3) := by decide +kernel
theorem dX12_see_167 : decode cX12_see 167 = .ok (.ireturn, 1) := by decide +kernel
theorem dX12_laysFits_0 : decode cX12_laysFits 0 = .ok (.iconst 0, 1) := by decide +kernel
theorem dX12_laysFits_1 : decode cX12_laysFits 1 = .ok (.istore_n 1, 1) := by decide +kernel
theorem dX12_laysFits_2 : decode cX12_laysFits 2 = .ok (.iconst 0, 1) := by decide +kernel
theorem dX12_laysFits_3 : decode cX12_laysFits 3 = .ok (.istore_n 2, 1) := by decide +kernel
theorem dX12_laysFits_4 : decode cX12_laysFits 4 = .ok (.iload_n 2, 1) := by decide +kernel
theorem dX12_laysFits_5 : decode cX12_laysFits 5 = .ok (.bipush 20, 2) := by decide +kernel
theorem dX12_laysFits_7 : decode cX12_laysFits 7 = .ok (.if_icmp .gt 141, 3) := by decide +kernel
theorem dX12_laysFits_10 : decode cX12_laysFits 10 = .ok (.aload_n 0, 1) := by decide +kernel
theorem dX12_laysFits_11 : decode cX12_laysFits 11 = .ok (.invokevirtual 425, 3) := by decide +kernel
theorem dX12_laysFits_14 : decode cX12_laysFits 14 = .ok (.aload_n 0, 1) := by decide +kernel
theorem dX12_laysFits_15 : decode cX12_laysFits 15 = .ok (.bipush 6, 2) := by decide +kernel
theorem dX12_laysFits_17 : decode cX12_laysFits 17 = .ok (.iload_n 2, 1) := by decide +kernel
theorem dX12_laysFits_18 : decode cX12_laysFits 18 = .ok (.invokevirtual 318, 3) := by decide +kernel
theorem dX12_laysFits_21 : decode cX12_laysFits 21 = .ok (.iconst 1, 1) := by decide +kernel
theorem dX12_laysFits_22 : decode cX12_laysFits 22 = .ok (.istore_n 3, 1) := by decide +kernel
theorem dX12_laysFits_23 : decode cX12_laysFits 23 = .ok (.iload_n 3, 1) := by decide +kernel
theorem dX12_laysFits_24 : decode cX12_laysFits 24 = .ok (.bipush 60, 2) := by decide +kernel
theorem dX12_laysFits_26 : decode cX12_laysFits 26 = .ok (.if_icmp .gt 43, 3) := by decide +kernel
theorem dX12_laysFits_29 : decode cX12_laysFits 29 = .ok (.aload_n 0, 1) := by decide +kernel
theorem dX12_laysFits_30 : decode cX12_laysFits 30 = .ok (.invokevirtual 402, 3) := by decide +kernel
theorem dX12_laysFits_33 : decode cX12_laysFits 33 = .ok (.aload_n 0, 1) := by decide +kernel
theorem dX12_laysFits_34 : decode cX12_laysFits 34 = .ok (.getfield 205, 3) := by decide +kernel
theorem dX12_laysFits_37 : decode cX12_laysFits 37 = .ok (.bipush 61, 2) := by decide +kernel
theorem dX12_laysFits_39 : decode cX12_laysFits 39 = .ok (.iload_n 2, 1) := by decide +kernel
theorem dX12_laysFits_40 : decode cX12_laysFits 40 = .ok (.imul, 1) := by decide +kernel
theorem dX12_laysFits_41 : decode cX12_laysFits 41 = .ok (.iload_n 3, 1) := by decide +kernel
theorem dX12_laysFits_42 : decode cX12_laysFits 42 = .ok (.iadd, 1) := by decide +kernel
theorem dX12_laysFits_43 : decode cX12_laysFits 43 = .ok (.aload_n 0, 1) := by decide +kernel
theorem dX12_laysFits_44 : decode cX12_laysFits 44 = .ok (.iconst 2, 1) := by decide +kernel
theorem dX12_laysFits_45 : decode cX12_laysFits 45 = .ok (.invokevirtual 321, 3) := by decide +kernel
theorem dX12_laysFits_48 : decode cX12_laysFits 48 = .ok (.iconst (-1), 1) := by decide +kernel
theorem dX12_laysFits_49 : decode cX12_laysFits 49 = .ok (.if_icmp .ne 8, 3) := by decide +kernel
theorem dX12_laysFits_52 : decode cX12_laysFits 52 = .ok (.bipush 6, 2) := by decide +kernel
theorem dX12_laysFits_54 : decode cX12_laysFits 54 = .ok (.goto 8, 3) := by decide +kernel
theorem dX12_laysFits_57 : decode cX12_laysFits 57 = .ok (.aload_n 0, 1) := by decide +kernel
theorem dX12_laysFits_58 : decode cX12_laysFits 58 = .ok (.iconst 2, 1) := by decide +kernel
theorem dX12_laysFits_59 : decode cX12_laysFits 59 = .ok (.invokevirtual 321, 3) := by decide +kernel
theorem dX12_laysFits_62 : decode cX12_laysFits 62 = .ok (.iastore, 1) := by decide +kernel
theorem dX12_laysFits_63 : decode cX12_laysFits 63 = .ok (.iinc 3 1, 3) := by decide +kernel
theorem dX12_laysFits_66 : decode cX12_laysFits 66 = .ok (.goto (-43), 3) := by decide +kernel
theorem dX12_laysFits_69 : decode cX12_laysFits 69 = .ok (.aload_n 0, 1) := by decide +kernel
theorem dX12_laysFits_70 : decode cX12_laysFits 70 = .ok (.getfield 208, 3) := by decide +kernel
theorem dX12_laysFits_73 : decode cX12_laysFits 73 = .ok (.iload_n 2, 1) := by decide +kernel
theorem dX12_laysFits_74 : decode cX12_laysFits 74 = .ok (.iconst 1, 1) := by decide +kernel
theorem dX12_laysFits_75 : decode cX12_laysFits 75 = .ok (.iastore, 1) := by decide +kernel
theorem dX12_laysFits_76 : decode cX12_laysFits 76 = .ok (.iconst 0, 1) := by decide +kernel
theorem dX12_laysFits_77 : decode cX12_laysFits 77 = .ok (.istore_n 3, 1) := by decide +kernel
theorem dX12_laysFits_78 : decode cX12_laysFits 78 = .ok (.iload_n 3, 1) := by decide +kernel
theorem dX12_laysFits_79 : decode cX12_laysFits 79 = .ok (.aload_n 0, 1) := by decide +kernel
theorem dX12_laysFits_80 : decode cX12_laysFits 80 = .ok (.getfield 196, 3) := by decide +kernel
theorem dX12_laysFits_83 : decode cX12_laysFits 83 = .ok (.if_icmp .ge 50, 3) := by decide +kernel
theorem dX12_laysFits_86 : decode cX12_laysFits 86 = .ok (.aload_n 0, 1) := by decide +kernel
theorem dX12_laysFits_87 : decode cX12_laysFits 87 = .ok (.getfield 208, 3) := by decide +kernel
theorem dX12_laysFits_90 : decode cX12_laysFits 90 = .ok (.iload_n 2, 1) := by decide +kernel
theorem dX12_laysFits_91 : decode cX12_laysFits 91 = .ok (.aload_n 0, 1) := by decide +kernel
theorem dX12_laysFits_92 : decode cX12_laysFits 92 = .ok (.getfield 205, 3) := by decide +kernel
theorem dX12_laysFits_95 : decode cX12_laysFits 95 = .ok (.bipush 61, 2) := by decide +kernel
theorem dX12_laysFits_97 : decode cX12_laysFits 97 = .ok (.iload_n 2, 1) := by decide +kernel
theorem dX12_laysFits_98 : decode cX12_laysFits 98 = .ok (.imul, 1) := by decide +kernel
theorem dX12_laysFits_99 : decode cX12_laysFits 99 = .ok (.aload_n 0, 1) := by decide +kernel
theorem dX12_laysFits_100 : decode cX12_laysFits 100 = .ok (.getfield 199, 3) := by decide +kernel
theorem dX12_laysFits_103 : decode cX12_laysFits 103 = .ok (.iload_n 3, 1) := by decide +kernel
theorem dX12_laysFits_104 : decode cX12_laysFits 104 = .ok (.iaload, 1) := by decide +kernel
theorem dX12_laysFits_105 : decode cX12_laysFits 105 = .ok (.iadd, 1) := by decide +kernel
theorem dX12_laysFits_106 : decode cX12_laysFits 106 = .ok (.iaload, 1) := by decide +kernel
theorem dX12_laysFits_107 : decode cX12_laysFits 107 = .ok (.aload_n 0, 1) := by decide +kernel
theorem dX12_laysFits_108 : decode cX12_laysFits 108 = .ok (.getfield 202, 3) := by decide +kernel
theorem dX12_laysFits_111 : decode cX12_laysFits 111 = .ok (.iload_n 3, 1) := by decide +kernel
theorem dX12_laysFits_112 : decode cX12_laysFits 112 = .ok (.iaload, 1) := by decide +kernel
theorem dX12_laysFits_113 : decode cX12_laysFits 113 = .ok (.if_icmp .ne 12, 3) := by decide +kernel
theorem dX12_laysFits_116 : decode cX12_laysFits 116 = .ok (.aload_n 0, 1) := by decide +kernel
theorem dX12_laysFits_117 : decode cX12_laysFits 117 = .ok (.getfield 208, 3) := by decide +kernel
theorem dX12_laysFits_120 : decode cX12_laysFits 120 = .ok (.iload_n 2, 1) := by decide +kernel
theorem dX12_laysFits_121 : decode cX12_laysFits 121 = .ok (.iaload, 1) := by decide +kernel
theorem dX12_laysFits_122 : decode cX12_laysFits 122 = .ok (.goto 4, 3) := by decide +kernel
theorem dX12_laysFits_125 : decode cX12_laysFits 125 = .ok (.iconst 0, 1) := by decide +kernel
theorem dX12_laysFits_126 : decode cX12_laysFits 126 = .ok (.iastore, 1) := by decide +kernel
theorem dX12_laysFits_127 : decode cX12_laysFits 127 = .ok (.iinc 3 1, 3) := by decide +kernel
theorem dX12_laysFits_130 : decode cX12_laysFits 130 = .ok (.goto (-52), 3) := by decide +kernel
theorem dX12_laysFits_133 : decode cX12_laysFits 133 = .ok (.iload_n 1, 1) := by decide +kernel
theorem dX12_laysFits_134 : decode cX12_laysFits 134 = .ok (.aload_n 0, 1) := by decide +kernel
theorem dX12_laysFits_135 : decode cX12_laysFits 135 = .ok (.getfield 208, 3) := by decide +kernel
theorem dX12_laysFits_138 : decode cX12_laysFits 138 = .ok (.iload_n 2, 1) := by decide +kernel
theorem dX12_laysFits_139 : decode cX12_laysFits 139 = .ok (.iaload, 1) := by decide +kernel
theorem dX12_laysFits_140 : decode cX12_laysFits 140 = .ok (.iadd, 1) := by decide +kernel
theorem dX12_laysFits_141 : decode cX12_laysFits 141 = .ok (.istore_n 1, 1) := by decide +kernel
theorem dX12_laysFits_142 : decode cX12_laysFits 142 = .ok (.iinc 2 1, 3) := by decide +kernel
theorem dX12_laysFits_145 : decode cX12_laysFits 145 = .ok (.goto (-141), 3) := by decide +kernel
theorem dX12_laysFits_148 : decode cX12_laysFits 148 = .ok (.iload_n 1, 1) := by decide +kernel
theorem dX12_laysFits_149 : decode cX12_laysFits 149 = .ok (.ireturn, 1) := by decide +kernel
theorem dX12_fits_0 : decode cX12_fits 0 = .ok (.aload_n 0, 1) := by decide +kernel
theorem dX12_fits_1 : decode cX12_fits 1 = .ok (.getfield 7, 3) := by decide +kernel
theorem dX12_fits_4 : decode cX12_fits 4 = .ok (.ifCond .ne 5, 3) := by decide +kernel
theorem dX12_fits_7 : decode cX12_fits 7 = .ok (.iconst (-1), 1) := by decide +kernel
theorem dX12_fits_8 : decode cX12_fits 8 = .ok (.ireturn, 1) := by decide +kernel
theorem dX12_fits_9 : decode cX12_fits 9 = .ok (.aload_n 0, 1) := by decide +kernel
theorem dX12_fits_10 : decode cX12_fits 10 = .ok (.invokevirtual 435, 3) := by decide +kernel
theorem dX12_fits_13 : decode cX12_fits 13 = .ok (.pop, 1) := by decide +kernel
theorem dX12_fits_14 : decode cX12_fits 14 = .ok (.iconst 0, 1) := by decide +kernel
theorem dX12_fits_15 : decode cX12_fits 15 = .ok (.istore_n 1, 1) := by decide +kernel
theorem dX12_fits_16 : decode cX12_fits 16 = .ok (.iconst 0, 1) := by decide +kernel
theorem dX12_fits_17 : decode cX12_fits 17 = .ok (.istore_n 2, 1) := by decide +kernel
theorem dX12_fits_18 : decode cX12_fits 18 = .ok (.iload_n 2, 1) := by decide +kernel
theorem dX12_fits_19 : decode cX12_fits 19 = .ok (.bipush 20, 2) := by decide +kernel
theorem dX12_fits_21 : decode cX12_fits 21 = .ok (.if_icmp .gt 20, 3) := by decide +kernel
theorem dX12_fits_24 : decode cX12_fits 24 = .ok (.iload_n 1, 1) := by decide +kernel
theorem dX12_fits_25 : decode cX12_fits 25 = .ok (.aload_n 0, 1) := by decide +kernel
theorem dX12_fits_26 : decode cX12_fits 26 = .ok (.getfield 208, 3) := by decide +kernel
theorem dX12_fits_29 : decode cX12_fits 29 = .ok (.iload_n 2, 1) := by decide +kernel
theorem dX12_fits_30 : decode cX12_fits 30 = .ok (.iaload, 1) := by decide +kernel
theorem dX12_fits_31 : decode cX12_fits 31 = .ok (.iload_n 2, 1) := by decide +kernel
theorem dX12_fits_32 : decode cX12_fits 32 = .ok (.ishl, 1) := by decide +kernel
theorem dX12_fits_33 : decode cX12_fits 33 = .ok (.ior, 1) := by decide +kernel
theorem dX12_fits_34 : decode cX12_fits 34 = .ok (.istore_n 1, 1) := by decide +kernel
theorem dX12_fits_35 : decode cX12_fits 35 = .ok (.iinc 2 1, 3) := by decide +kernel
theorem dX12_fits_38 : decode cX12_fits 38 = .ok (.goto (-20), 3) := by decide +kernel
theorem dX12_fits_41 : decode cX12_fits 41 = .ok (.iload_n 1, 1) := by decide +kernel
theorem dX12_fits_42 : decode cX12_fits 42 = .ok (.ireturn, 1) := by decide +kernel
theorem dX12_mostBy_0 : decode cX12_mostBy 0 = .ok (.iconst 0, 1) := by decide +kernel
theorem dX12_mostBy_1 : decode cX12_mostBy 1 = .ok (.istore_n 2, 1) := by decide +kernel
theorem dX12_mostBy_2 : decode cX12_mostBy 2 = .ok (.iconst 0, 1) := by decide +kernel
theorem dX12_mostBy_3 : decode cX12_mostBy 3 = .ok (.istore_n 3, 1) := by decide +kernel
theorem dX12_mostBy_4 : decode cX12_mostBy 4 = .ok (.iload_n 3, 1) := by decide +kernel
theorem dX12_mostBy_5 : decode cX12_mostBy 5 = .ok (.bipush 6, 2) := by decide +kernel
theorem dX12_mostBy_7 : decode cX12_mostBy 7 = .ok (.if_icmp .gt 72, 3) := by decide +kernel
theorem dX12_mostBy_10 : decode cX12_mostBy 10 = .ok (.iconst 0, 1) := by decide +kernel
theorem dX12_mostBy_11 : decode cX12_mostBy 11 = .ok (.istore 4, 2) := by decide +kernel
theorem dX12_mostBy_13 : decode cX12_mostBy 13 = .ok (.iconst 0, 1) := by decide +kernel
theorem dX12_mostBy_14 : decode cX12_mostBy 14 = .ok (.istore 5, 2) := by decide +kernel
theorem dX12_mostBy_16 : decode cX12_mostBy 16 = .ok (.iload 5, 2) := by decide +kernel
theorem dX12_mostBy_18 : decode cX12_mostBy 18 = .ok (.bipush 20, 2) := by decide +kernel
theorem dX12_mostBy_20 : decode cX12_mostBy 20 = .ok (.if_icmp .gt 46, 3) := by decide +kernel
theorem dX12_mostBy_23 : decode cX12_mostBy 23 = .ok (.iload 4, 2) := by decide +kernel
theorem dX12_mostBy_25 : decode cX12_mostBy 25 = .ok (.aload_n 0, 1) := by decide +kernel
theorem dX12_mostBy_26 : decode cX12_mostBy 26 = .ok (.getfield 208, 3) := by decide +kernel
theorem dX12_mostBy_29 : decode cX12_mostBy 29 = .ok (.iload 5, 2) := by decide +kernel
theorem dX12_mostBy_31 : decode cX12_mostBy 31 = .ok (.iaload, 1) := by decide +kernel
theorem dX12_mostBy_32 : decode cX12_mostBy 32 = .ok (.iconst 1, 1) := by decide +kernel
theorem dX12_mostBy_33 : decode cX12_mostBy 33 = .ok (.if_icmp .ne 23, 3) := by decide +kernel
theorem dX12_mostBy_36 : decode cX12_mostBy 36 = .ok (.aload_n 0, 1) := by decide +kernel
theorem dX12_mostBy_37 : decode cX12_mostBy 37 = .ok (.getfield 205, 3) := by decide +kernel
theorem dX12_mostBy_40 : decode cX12_mostBy 40 = .ok (.bipush 61, 2) := by decide +kernel
theorem dX12_mostBy_42 : decode cX12_mostBy 42 = .ok (.iload 5, 2) := by decide +kernel
theorem dX12_mostBy_44 : decode cX12_mostBy 44 = .ok (.imul, 1) := by decide +kernel
theorem dX12_mostBy_45 : decode cX12_mostBy 45 = .ok (.iload_n 1, 1) := by decide +kernel
theorem dX12_mostBy_46 : decode cX12_mostBy 46 = .ok (.iadd, 1) := by decide +kernel
theorem dX12_mostBy_47 : decode cX12_mostBy 47 = .ok (.iaload, 1) := by decide +kernel
theorem dX12_mostBy_48 : decode cX12_mostBy 48 = .ok (.iload_n 3, 1) := by decide +kernel
theorem dX12_mostBy_49 : decode cX12_mostBy 49 = .ok (.if_icmp .ne 7, 3) := by decide +kernel
theorem dX12_mostBy_52 : decode cX12_mostBy 52 = .ok (.iconst 1, 1) := by decide +kernel
theorem dX12_mostBy_53 : decode cX12_mostBy 53 = .ok (.goto 4, 3) := by decide +kernel
theorem dX12_mostBy_56 : decode cX12_mostBy 56 = .ok (.iconst 0, 1) := by decide +kernel
theorem dX12_mostBy_57 : decode cX12_mostBy 57 = .ok (.iadd, 1) := by decide +kernel
theorem dX12_mostBy_58 : decode cX12_mostBy 58 = .ok (.istore 4, 2) := by decide +kernel
theorem dX12_mostBy_60 : decode cX12_mostBy 60 = .ok (.iinc 5 1, 3) := by decide +kernel
theorem dX12_mostBy_63 : decode cX12_mostBy 63 = .ok (.goto (-47), 3) := by decide +kernel
theorem dX12_mostBy_66 : decode cX12_mostBy 66 = .ok (.iload_n 2, 1) := by decide +kernel
theorem dX12_mostBy_67 : decode cX12_mostBy 67 = .ok (.iload 4, 2) := by decide +kernel
theorem dX12_mostBy_69 : decode cX12_mostBy 69 = .ok (.invokestatic 384, 3) := by decide +kernel
theorem dX12_mostBy_72 : decode cX12_mostBy 72 = .ok (.istore_n 2, 1) := by decide +kernel
theorem dX12_mostBy_73 : decode cX12_mostBy 73 = .ok (.iinc 3 1, 3) := by decide +kernel
theorem dX12_mostBy_76 : decode cX12_mostBy 76 = .ok (.goto (-72), 3) := by decide +kernel
theorem dX12_mostBy_79 : decode cX12_mostBy 79 = .ok (.iload_n 2, 1) := by decide +kernel
theorem dX12_mostBy_80 : decode cX12_mostBy 80 = .ok (.ireturn, 1) := by decide +kernel
theorem dX12_tells_0 : decode cX12_tells 0 = .ok (.aload_n 0, 1) := by decide +kernel
theorem dX12_tells_1 : decode cX12_tells 1 = .ok (.getfield 7, 3) := by decide +kernel
theorem dX12_tells_4 : decode cX12_tells 4 = .ok (.ifCond .eq 19, 3) := by decide +kernel
theorem dX12_tells_7 : decode cX12_tells 7 = .ok (.iload_n 1, 1) := by decide +kernel
theorem dX12_tells_8 : decode cX12_tells 8 = .ok (.iconst 0, 1) := by decide +kernel
theorem dX12_tells_9 : decode cX12_tells 9 = .ok (.iconst 1, 1) := by decide +kernel
theorem dX12_tells_10 : decode cX12_tells 10 = .ok (.invokestatic 262, 3) := by decide +kernel
theorem dX12_tells_13 : decode cX12_tells 13 = .ok (.ifCond .eq 10, 3) := by decide +kernel
theorem dX12_tells_16 : decode cX12_tells 16 = .ok (.aload_n 0, 1) := by decide +kernel
theorem dX12_tells_17 : decode cX12_tells 17 = .ok (.invokevirtual 435, 3) := by decide +kernel
theorem dX12_tells_20 : decode cX12_tells 20 = .ok (.ifCond .ne 5, 3) := by decide +kernel
theorem dX12_tells_23 : decode cX12_tells 23 = .ok (.iconst (-1), 1) := by decide +kernel
theorem dX12_tells_24 : decode cX12_tells 24 = .ok (.ireturn, 1) := by decide +kernel
theorem dX12_tells_25 : decode cX12_tells 25 = .ok (.iconst (-1), 1) := by decide +kernel
theorem dX12_tells_26 : decode cX12_tells 26 = .ok (.istore_n 2, 1) := by decide +kernel
theorem dX12_tells_27 : decode cX12_tells 27 = .ok (.ldc_w 434, 3) := by decide +kernel
theorem dX12_tells_30 : decode cX12_tells 30 = .ok (.istore_n 3, 1) := by decide +kernel
theorem dX12_tells_31 : decode cX12_tells 31 = .ok (.iconst 1, 1) := by decide +kernel
theorem dX12_tells_32 : decode cX12_tells 32 = .ok (.istore 4, 2) := by decide +kernel
theorem dX12_tells_34 : decode cX12_tells 34 = .ok (.iload 4, 2) := by decide +kernel
theorem dX12_tells_36 : decode cX12_tells 36 = .ok (.bipush 60, 2) := by decide +kernel
theorem dX12_tells_38 : decode cX12_tells 38 = .ok (.if_icmp .gt 32, 3) := by decide +kernel
theorem dX12_tells_41 : decode cX12_tells 41 = .ok (.aload_n 0, 1) := by decide +kernel
theorem dX12_tells_42 : decode cX12_tells 42 = .ok (.iload 4, 2) := by decide +kernel
theorem dX12_tells_44 : decode cX12_tells 44 = .ok (.invokevirtual 438, 3) := by decide +kernel
theorem dX12_tells_47 : decode cX12_tells 47 = .ok (.istore 5, 2) := by decide +kernel
theorem dX12_tells_49 : decode cX12_tells 49 = .ok (.iload 5, 2) := by decide +kernel
theorem dX12_tells_51 : decode cX12_tells 51 = .ok (.iload_n 3, 1) := by decide +kernel
theorem dX12_tells_52 : decode cX12_tells 52 = .ok (.if_icmp .lt 6, 3) := by decide +kernel
theorem dX12_tells_55 : decode cX12_tells 55 = .ok (.goto 9, 3) := by decide +kernel
theorem dX12_tells_58 : decode cX12_tells 58 = .ok (.iload 4, 2) := by decide +kernel
theorem dX12_tells_60 : decode cX12_tells 60 = .ok (.istore_n 2, 1) := by decide +kernel
theorem dX12_tells_61 : decode cX12_tells 61 = .ok (.iload 5, 2) := by decide +kernel
theorem dX12_tells_63 : decode cX12_tells 63 = .ok (.istore_n 3, 1) := by decide +kernel
theorem dX12_tells_64 : decode cX12_tells 64 = .ok (.iinc 4 1, 3) := by decide +kernel
theorem dX12_tells_67 : decode cX12_tells 67 = .ok (.goto (-33), 3) := by decide +kernel
theorem dX12_tells_70 : decode cX12_tells 70 = .ok (.iload_n 1, 1) := by decide +kernel
theorem dX12_tells_71 : decode cX12_tells 71 = .ok (.ifCond .ne 7, 3) := by decide +kernel
theorem dX12_tells_74 : decode cX12_tells 74 = .ok (.iload_n 2, 1) := by decide +kernel
theorem dX12_tells_75 : decode cX12_tells 75 = .ok (.goto 4, 3) := by decide +kernel
theorem dX12_tells_78 : decode cX12_tells 78 = .ok (.iload_n 3, 1) := by decide +kernel
theorem dX12_tells_79 : decode cX12_tells 79 = .ok (.ireturn, 1) := by decide +kernel
theorem dX12_remembers_0 : decode cX12_remembers 0 = .ok (.aload_n 0, 1) := by decide +kernel
theorem dX12_remembers_1 : decode cX12_remembers 1 = .ok (.invokevirtual 324, 3) := by decide +kernel
theorem dX12_remembers_4 : decode cX12_remembers 4 = .ok (.aload_n 0, 1) := by decide +kernel
theorem dX12_remembers_5 : decode cX12_remembers 5 = .ok (.getfield 178, 3) := by decide +kernel
theorem dX12_remembers_8 : decode cX12_remembers 8 = .ok (.bipush 20, 2) := by decide +kernel
theorem dX12_remembers_10 : decode cX12_remembers 10 = .ok (.if_icmp .ne 74, 3) := by decide +kernel
theorem dX12_remembers_13 : decode cX12_remembers 13 = .ok (.iconst 0, 1) := by decide +kernel
theorem dX12_remembers_14 : decode cX12_remembers 14 = .ok (.istore_n 1, 1) := by decide +kernel
theorem dX12_remembers_15 : decode cX12_remembers 15 = .ok (.iload_n 1, 1) := by decide +kernel
theorem dX12_remembers_16 : decode cX12_remembers 16 = .ok (.sipush 14402, 3) := by decide +kernel
theorem dX12_remembers_19 : decode cX12_remembers 19 = .ok (.if_icmp .ge 25, 3) := by decide +kernel
theorem dX12_remembers_22 : decode cX12_remembers 22 = .ok (.aload_n 0, 1) := by decide +kernel
theorem dX12_remembers_23 : decode cX12_remembers 23 = .ok (.getfield 166, 3) := by decide +kernel
theorem dX12_remembers_26 : decode cX12_remembers 26 = .ok (.iload_n 1, 1) := by decide +kernel
theorem dX12_remembers_27 : decode cX12_remembers 27 = .ok (.aload_n 0, 1) := by decide +kernel
theorem dX12_remembers_28 : decode cX12_remembers 28 = .ok (.getfield 166, 3) := by decide +kernel
theorem dX12_remembers_31 : decode cX12_remembers 31 = .ok (.iload_n 1, 1) := by decide +kernel
theorem dX12_remembers_32 : decode cX12_remembers 32 = .ok (.sipush 758, 3) := by decide +kernel
theorem dX12_remembers_35 : decode cX12_remembers 35 = .ok (.iadd, 1) := by decide +kernel
theorem dX12_remembers_36 : decode cX12_remembers 36 = .ok (.iaload, 1) := by decide +kernel
theorem dX12_remembers_37 : decode cX12_remembers 37 = .ok (.iastore, 1) := by decide +kernel
theorem dX12_remembers_38 : decode cX12_remembers 38 = .ok (.iinc 1 1, 3) := by decide +kernel
theorem dX12_remembers_41 : decode cX12_remembers 41 = .ok (.goto (-26), 3) := by decide +kernel
theorem dX12_remembers_44 : decode cX12_remembers 44 = .ok (.iconst 0, 1) := by decide +kernel
theorem dX12_remembers_45 : decode cX12_remembers 45 = .ok (.istore_n 1, 1) := by decide +kernel
theorem dX12_remembers_46 : decode cX12_remembers 46 = .ok (.iload_n 1, 1) := by decide +kernel
theorem dX12_remembers_47 : decode cX12_remembers 47 = .ok (.sipush 380, 3) := by decide +kernel
theorem dX12_remembers_50 : decode cX12_remembers 50 = .ok (.if_icmp .ge 24, 3) := by decide +kernel
theorem dX12_remembers_53 : decode cX12_remembers 53 = .ok (.aload_n 0, 1) := by decide +kernel
theorem dX12_remembers_54 : decode cX12_remembers 54 = .ok (.getfield 169, 3) := by decide +kernel
theorem dX12_remembers_57 : decode cX12_remembers 57 = .ok (.iload_n 1, 1) := by decide +kernel
theorem dX12_remembers_58 : decode cX12_remembers 58 = .ok (.aload_n 0, 1) := by decide +kernel
theorem dX12_remembers_59 : decode cX12_remembers 59 = .ok (.getfield 169, 3) := by decide +kernel
theorem dX12_remembers_62 : decode cX12_remembers 62 = .ok (.iload_n 1, 1) := by decide +kernel
theorem dX12_remembers_63 : decode cX12_remembers 63 = .ok (.bipush 20, 2) := by decide +kernel
theorem dX12_remembers_65 : decode cX12_remembers 65 = .ok (.iadd, 1) := by decide +kernel
theorem dX12_remembers_66 : decode cX12_remembers 66 = .ok (.faload, 1) := by decide +kernel
theorem dX12_remembers_67 : decode cX12_remembers 67 = .ok (.fastore, 1) := by decide +kernel
theorem dX12_remembers_68 : decode cX12_remembers 68 = .ok (.iinc 1 1, 3) := by decide +kernel
theorem dX12_remembers_71 : decode cX12_remembers 71 = .ok (.goto (-25), 3) := by decide +kernel
theorem dX12_remembers_74 : decode cX12_remembers 74 = .ok (.aload_n 0, 1) := by decide +kernel
theorem dX12_remembers_75 : decode cX12_remembers 75 = .ok (.dup, 1) := by decide +kernel
theorem dX12_remembers_76 : decode cX12_remembers 76 = .ok (.getfield 178, 3) := by decide +kernel
theorem dX12_remembers_79 : decode cX12_remembers 79 = .ok (.iconst 1, 1) := by decide +kernel
theorem dX12_remembers_80 : decode cX12_remembers 80 = .ok (.isub, 1) := by decide +kernel
theorem dX12_remembers_81 : decode cX12_remembers 81 = .ok (.putfield 178, 3) := by decide +kernel
theorem dX12_remembers_84 : decode cX12_remembers 84 = .ok (.iconst 0, 1) := by decide +kernel
theorem dX12_remembers_85 : decode cX12_remembers 85 = .ok (.istore_n 1, 1) := by decide +kernel
theorem dX12_remembers_86 : decode cX12_remembers 86 = .ok (.iload_n 1, 1) := by decide +kernel
theorem dX12_remembers_87 : decode cX12_remembers 87 = .ok (.sipush 758, 3) := by decide +kernel
theorem dX12_remembers_90 : decode cX12_remembers 90 = .ok (.if_icmp .ge 30, 3) := by decide +kernel
theorem dX12_remembers_93 : decode cX12_remembers 93 = .ok (.aload_n 0, 1) := by decide +kernel
theorem dX12_remembers_94 : decode cX12_remembers 94 = .ok (.getfield 166, 3) := by decide +kernel
theorem dX12_remembers_97 : decode cX12_remembers 97 = .ok (.sipush 758, 3) := by decide +kernel
theorem dX12_remembers_100 : decode cX12_remembers 100 = .ok (.aload_n 0, 1) := by decide +kernel
theorem dX12_remembers_101 : decode cX12_remembers 101 = .ok (.getfield 178, 3) := by decide +kernel
theorem dX12_remembers_104 : decode cX12_remembers 104 = .ok (.imul, 1) := by decide +kernel
theorem dX12_remembers_105 : decode cX12_remembers 105 = .ok (.iload_n 1, 1) := by decide +kernel
theorem dX12_remembers_106 : decode cX12_remembers 106 = .ok (.iadd, 1) := by decide +kernel
theorem dX12_remembers_107 : decode cX12_remembers 107 = .ok (.aload_n 0, 1) := by decide +kernel
theorem dX12_remembers_108 : decode cX12_remembers 108 = .ok (.getfield 159, 3) := by decide +kernel
theorem dX12_remembers_111 : decode cX12_remembers 111 = .ok (.iload_n 1, 1) := by decide +kernel
theorem dX12_remembers_112 : decode cX12_remembers 112 = .ok (.iaload, 1) := by decide +kernel
theorem dX12_remembers_113 : decode cX12_remembers 113 = .ok (.iastore, 1) := by decide +kernel
theorem dX12_remembers_114 : decode cX12_remembers 114 = .ok (.iinc 1 1, 3) := by decide +kernel
theorem dX12_remembers_117 : decode cX12_remembers 117 = .ok (.goto (-31), 3) := by decide +kernel
theorem dX12_remembers_120 : decode cX12_remembers 120 = .ok (.iconst 0, 1) := by decide +kernel
theorem dX12_remembers_121 : decode cX12_remembers 121 = .ok (.istore_n 1, 1) := by decide +kernel
theorem dX12_remembers_122 : decode cX12_remembers 122 = .ok (.iload_n 1, 1) := by decide +kernel
theorem dX12_remembers_123 : decode cX12_remembers 123 = .ok (.bipush 20, 2) := by decide +kernel
theorem dX12_remembers_125 : decode cX12_remembers 125 = .ok (.if_icmp .ge 29, 3) := by decide +kernel
theorem dX12_remembers_128 : decode cX12_remembers 128 = .ok (.aload_n 0, 1) := by decide +kernel
theorem dX12_remembers_129 : decode cX12_remembers 129 = .ok (.getfield 169, 3) := by decide +kernel
theorem dX12_remembers_132 : decode cX12_remembers 132 = .ok (.bipush 20, 2) := by decide +kernel
theorem dX12_remembers_134 : decode cX12_remembers 134 = .ok (.aload_n 0, 1) := by decide +kernel
theorem dX12_remembers_135 : decode cX12_remembers 135 = .ok (.getfield 178, 3) := by decide +kernel
theorem dX12_remembers_138 : decode cX12_remembers 138 = .ok (.imul, 1) := by decide +kernel
theorem dX12_remembers_139 : decode cX12_remembers 139 = .ok (.iload_n 1, 1) := by decide +kernel
theorem dX12_remembers_140 : decode cX12_remembers 140 = .ok (.iadd, 1) := by decide +kernel
theorem dX12_remembers_141 : decode cX12_remembers 141 = .ok (.aload_n 0, 1) := by decide +kernel
theorem dX12_remembers_142 : decode cX12_remembers 142 = .ok (.getfield 162, 3) := by decide +kernel
theorem dX12_remembers_145 : decode cX12_remembers 145 = .ok (.iload_n 1, 1) := by decide +kernel
theorem dX12_remembers_146 : decode cX12_remembers 146 = .ok (.faload, 1) := by decide +kernel
theorem dX12_remembers_147 : decode cX12_remembers 147 = .ok (.fastore, 1) := by decide +kernel
theorem dX12_remembers_148 : decode cX12_remembers 148 = .ok (.iinc 1 1, 3) := by decide +kernel
theorem dX12_remembers_151 : decode cX12_remembers 151 = .ok (.goto (-29), 3) := by decide +kernel
theorem dX12_remembers_154 : decode cX12_remembers 154 = .ok (.aload_n 0, 1) := by decide +kernel
theorem dX12_remembers_155 : decode cX12_remembers 155 = .ok (.dup, 1) := by decide +kernel
theorem dX12_remembers_156 : decode cX12_remembers 156 = .ok (.getfield 178, 3) := by decide +kernel
theorem dX12_remembers_159 : decode cX12_remembers 159 = .ok (.iconst 1, 1) := by decide +kernel
theorem dX12_remembers_160 : decode cX12_remembers 160 = .ok (.iadd, 1) := by decide +kernel
theorem dX12_remembers_161 : decode cX12_remembers 161 = .ok (.putfield 178, 3) := by decide +kernel
theorem dX12_remembers_164 : decode cX12_remembers 164 = .ok (.return_, 1) := by decide +kernel
theorem dX12_ticks_0 : decode cX12_ticks 0 = .ok (.aload_n 0, 1) := by decide +kernel
theorem dX12_ticks_1 : decode cX12_ticks 1 = .ok (.invokevirtual 324, 3) := by decide +kernel
theorem dX12_ticks_4 : decode cX12_ticks 4 = .ok (.aload_n 0, 1) := by decide +kernel
theorem dX12_ticks_5 : decode cX12_ticks 5 = .ok (.getfield 7, 3) := by decide +kernel
theorem dX12_ticks_8 : decode cX12_ticks 8 = .ok (.ifCond .eq 27, 3) := by decide +kernel
theorem dX12_ticks_11 : decode cX12_ticks 11 = .ok (.iload_n 1, 1) := by decide +kernel
theorem dX12_ticks_12 : decode cX12_ticks 12 = .ok (.iconst 1, 1) := by decide +kernel
theorem dX12_ticks_13 : decode cX12_ticks 13 = .ok (.sipush 200, 3) := by decide +kernel
theorem dX12_ticks_16 : decode cX12_ticks 16 = .ok (.invokestatic 262, 3) := by decide +kernel
theorem dX12_ticks_19 : decode cX12_ticks 19 = .ok (.ifCond .eq 16, 3) := by decide +kernel
theorem dX12_ticks_22 : decode cX12_ticks 22 = .ok (.aload_n 0, 1) := by decide +kernel
theorem dX12_ticks_23 : decode cX12_ticks 23 = .ok (.iconst 0, 1) := by decide +kernel
theorem dX12_ticks_24 : decode cX12_ticks 24 = .ok (.invokevirtual 321, 3) := by decide +kernel
theorem dX12_ticks_27 : decode cX12_ticks 27 = .ok (.iload_n 1, 1) := by decide +kernel
theorem dX12_ticks_28 : decode cX12_ticks 28 = .ok (.iadd, 1) := by decide +kernel
theorem dX12_ticks_29 : decode cX12_ticks 29 = .ok (.sipush 9999, 3) := by decide +kernel
theorem dX12_ticks_32 : decode cX12_ticks 32 = .ok (.if_icmp .le 9, 3) := by decide +kernel
theorem dX12_ticks_35 : decode cX12_ticks 35 = .ok (.aload_n 0, 1) := by decide +kernel
theorem dX12_ticks_36 : decode cX12_ticks 36 = .ok (.iconst 2, 1) := by decide +kernel
theorem dX12_ticks_37 : decode cX12_ticks 37 = .ok (.invokevirtual 220, 3) := by decide +kernel
theorem dX12_ticks_40 : decode cX12_ticks 40 = .ok (.ireturn, 1) := by decide +kernel
theorem dX12_ticks_41 : decode cX12_ticks 41 = .ok (.aload_n 0, 1) := by decide +kernel
theorem dX12_ticks_42 : decode cX12_ticks 42 = .ok (.invokevirtual 441, 3) := by decide +kernel
theorem dX12_ticks_45 : decode cX12_ticks 45 = .ok (.aload_n 0, 1) := by decide +kernel
theorem dX12_ticks_46 : decode cX12_ticks 46 = .ok (.iload_n 1, 1) := by decide +kernel
theorem dX12_ticks_47 : decode cX12_ticks 47 = .ok (.invokevirtual 428, 3) := by decide +kernel
theorem dX12_ticks_50 : decode cX12_ticks 50 = .ok (.aload_n 0, 1) := by decide +kernel
theorem dX12_ticks_51 : decode cX12_ticks 51 = .ok (.iconst 0, 1) := by decide +kernel
theorem dX12_ticks_52 : decode cX12_ticks 52 = .ok (.invokevirtual 321, 3) := by decide +kernel
theorem dX12_ticks_55 : decode cX12_ticks 55 = .ok (.ireturn, 1) := by decide +kernel
theorem dX12_canAsk_0 : decode cX12_canAsk 0 = .ok (.aload_n 0, 1) := by decide +kernel
theorem dX12_canAsk_1 : decode cX12_canAsk 1 = .ok (.iload_n 1, 1) := by decide +kernel
theorem dX12_canAsk_2 : decode cX12_canAsk 2 = .ok (.iconst 5, 1) := by decide +kernel
theorem dX12_canAsk_3 : decode cX12_canAsk 3 = .ok (.invokevirtual 337, 3) := by decide +kernel
theorem dX12_canAsk_6 : decode cX12_canAsk 6 = .ok (.bipush 8, 2) := by decide +kernel
theorem dX12_canAsk_8 : decode cX12_canAsk 8 = .ok (.if_icmp .ge 31, 3) := by decide +kernel
theorem dX12_canAsk_11 : decode cX12_canAsk 11 = .ok (.iload_n 3, 1) := by decide +kernel
theorem dX12_canAsk_12 : decode cX12_canAsk 12 = .ok (.iconst 1, 1) := by decide +kernel
theorem dX12_canAsk_13 : decode cX12_canAsk 13 = .ok (.bipush 64, 2) := by decide +kernel
theorem dX12_canAsk_15 : decode cX12_canAsk 15 = .ok (.invokestatic 262, 3) := by decide +kernel
theorem dX12_canAsk_18 : decode cX12_canAsk 18 = .ok (.ifCond .eq 21, 3) := by decide +kernel
theorem dX12_canAsk_21 : decode cX12_canAsk 21 = .ok (.iload_n 2, 1) := by decide +kernel
theorem dX12_canAsk_22 : decode cX12_canAsk 22 = .ok (.iconst 0, 1) := by decide +kernel
theorem dX12_canAsk_23 : decode cX12_canAsk 23 = .ok (.aload_n 0, 1) := by decide +kernel
theorem dX12_canAsk_24 : decode cX12_canAsk 24 = .ok (.getfield 17, 3) := by decide +kernel
theorem dX12_canAsk_27 : decode cX12_canAsk 27 = .ok (.iload_n 3, 1) := by decide +kernel
theorem dX12_canAsk_28 : decode cX12_canAsk 28 = .ok (.isub, 1) := by decide +kernel
theorem dX12_canAsk_29 : decode cX12_canAsk 29 = .ok (.invokestatic 262, 3) := by decide +kernel
theorem dX12_canAsk_32 : decode cX12_canAsk 32 = .ok (.ifCond .eq 7, 3) := by decide +kernel
theorem dX12_canAsk_35 : decode cX12_canAsk 35 = .ok (.iconst 1, 1) := by decide +kernel
theorem dX12_canAsk_36 : decode cX12_canAsk 36 = .ok (.goto 4, 3) := by decide +kernel
theorem dX12_canAsk_39 : decode cX12_canAsk 39 = .ok (.iconst 0, 1) := by decide +kernel
theorem dX12_canAsk_40 : decode cX12_canAsk 40 = .ok (.ireturn, 1) := by decide +kernel
theorem dX12_ask_0 : decode cX12_ask 0 = .ok (.aload_n 0, 1) := by decide +kernel
theorem dX12_ask_1 : decode cX12_ask 1 = .ok (.invokevirtual 324, 3) := by decide +kernel
theorem dX12_ask_4 : decode cX12_ask 4 = .ok (.aload_n 0, 1) := by decide +kernel
theorem dX12_ask_5 : decode cX12_ask 5 = .ok (.iload_n 1, 1) := by decide +kernel
theorem dX12_ask_6 : decode cX12_ask 6 = .ok (.invokevirtual 405, 3) := by decide +kernel
theorem dX12_ask_9 : decode cX12_ask 9 = .ok (.ifCond .eq 13, 3) := by decide +kernel
theorem dX12_ask_12 : decode cX12_ask 12 = .ok (.aload_n 0, 1) := by decide +kernel
theorem dX12_ask_13 : decode cX12_ask 13 = .ok (.iload_n 1, 1) := by decide +kernel
theorem dX12_ask_14 : decode cX12_ask 14 = .ok (.iload_n 2, 1) := by decide +kernel
theorem dX12_ask_15 : decode cX12_ask 15 = .ok (.iload_n 3, 1) := by decide +kernel
theorem dX12_ask_16 : decode cX12_ask 16 = .ok (.invokevirtual 444, 3) := by decide +kernel
theorem dX12_ask_19 : decode cX12_ask 19 = .ok (.ifCond .ne 9, 3) := by decide +kernel
theorem dX12_ask_22 : decode cX12_ask 22 = .ok (.aload_n 0, 1) := by decide +kernel
theorem dX12_ask_23 : decode cX12_ask 23 = .ok (.iconst 3, 1) := by decide +kernel
theorem dX12_ask_24 : decode cX12_ask 24 = .ok (.invokevirtual 220, 3) := by decide +kernel
theorem dX12_ask_27 : decode cX12_ask 27 = .ok (.ireturn, 1) := by decide +kernel
theorem dX12_ask_28 : decode cX12_ask 28 = .ok (.aload_n 0, 1) := by decide +kernel
theorem dX12_ask_29 : decode cX12_ask 29 = .ok (.invokevirtual 441, 3) := by decide +kernel
theorem dX12_ask_32 : decode cX12_ask 32 = .ok (.aload_n 0, 1) := by decide +kernel
theorem dX12_ask_33 : decode cX12_ask 33 = .ok (.iload_n 1, 1) := by decide +kernel
theorem dX12_ask_34 : decode cX12_ask 34 = .ok (.iload_n 2, 1) := by decide +kernel
theorem dX12_ask_35 : decode cX12_ask 35 = .ok (.iload_n 3, 1) := by decide +kernel
theorem dX12_ask_36 : decode cX12_ask 36 = .ok (.iconst 1, 1) := by decide +kernel
theorem dX12_ask_37 : decode cX12_ask 37 = .ok (.iconst 0, 1) := by decide +kernel
theorem dX12_ask_38 : decode cX12_ask 38 = .ok (.invokevirtual 361, 3) := by decide +kernel
theorem dX12_ask_41 : decode cX12_ask 41 = .ok (.aload_n 0, 1) := by decide +kernel
theorem dX12_ask_42 : decode cX12_ask 42 = .ok (.iload_n 1, 1) := by decide +kernel
theorem dX12_ask_43 : decode cX12_ask 43 = .ok (.bipush 6, 2) := by decide +kernel
theorem dX12_ask_45 : decode cX12_ask 45 = .ok (.invokevirtual 337, 3) := by decide +kernel
theorem dX12_ask_48 : decode cX12_ask 48 = .ok (.ireturn, 1) := by decide +kernel
theorem dX12_weight_0 : decode cX12_weight 0 = .ok (.aload_n 0, 1) := by decide +kernel
theorem dX12_weight_1 : decode cX12_weight 1 = .ok (.invokevirtual 324, 3) := by decide +kernel
theorem dX12_weight_4 : decode cX12_weight 4 = .ok (.aload_n 0, 1) := by decide +kernel
theorem dX12_weight_5 : decode cX12_weight 5 = .ok (.iload_n 1, 1) := by decide +kernel
theorem dX12_weight_6 : decode cX12_weight 6 = .ok (.invokevirtual 405, 3) := by decide +kernel
theorem dX12_weight_9 : decode cX12_weight 9 = .ok (.ifCond .eq 23, 3) := by decide +kernel
theorem dX12_weight_12 : decode cX12_weight 12 = .ok (.iload_n 2, 1) := by decide +kernel
theorem dX12_weight_13 : decode cX12_weight 13 = .ok (.iconst 1, 1) := by decide +kernel
theorem dX12_weight_14 : decode cX12_weight 14 = .ok (.bipush 100, 2) := by decide +kernel
theorem dX12_weight_16 : decode cX12_weight 16 = .ok (.invokestatic 262, 3) := by decide +kernel
theorem dX12_weight_19 : decode cX12_weight 19 = .ok (.ifCond .eq 13, 3) := by decide +kernel
theorem dX12_weight_22 : decode cX12_weight 22 = .ok (.aload_n 0, 1) := by decide +kernel
theorem dX12_weight_23 : decode cX12_weight 23 = .ok (.iload_n 1, 1) := by decide +kernel
theorem dX12_weight_24 : decode cX12_weight 24 = .ok (.iconst 0, 1) := by decide +kernel
theorem dX12_weight_25 : decode cX12_weight 25 = .ok (.invokevirtual 337, 3) := by decide +kernel
theorem dX12_weight_28 : decode cX12_weight 28 = .ok (.iload_n 2, 1) := by decide +kernel
theorem dX12_weight_29 : decode cX12_weight 29 = .ok (.if_icmp .ne 9, 3) := by decide +kernel
theorem dX12_weight_32 : decode cX12_weight 32 = .ok (.aload_n 0, 1) := by decide +kernel
theorem dX12_weight_33 : decode cX12_weight 33 = .ok (.iconst 3, 1) := by decide +kernel
theorem dX12_weight_34 : decode cX12_weight 34 = .ok (.invokevirtual 228, 3) := by decide +kernel
theorem dX12_weight_37 : decode cX12_weight 37 = .ok (.ireturn, 1) := by decide +kernel
theorem dX12_weight_38 : decode cX12_weight 38 = .ok (.aload_n 0, 1) := by decide +kernel
theorem dX12_weight_39 : decode cX12_weight 39 = .ok (.invokevirtual 441, 3) := by decide +kernel
theorem dX12_weight_42 : decode cX12_weight 42 = .ok (.aload_n 0, 1) := by decide +kernel
theorem dX12_weight_43 : decode cX12_weight 43 = .ok (.iload_n 1, 1) := by decide +kernel
theorem dX12_weight_44 : decode cX12_weight 44 = .ok (.iconst 0, 1) := by decide +kernel
theorem dX12_weight_45 : decode cX12_weight 45 = .ok (.iload_n 2, 1) := by decide +kernel
theorem dX12_weight_46 : decode cX12_weight 46 = .ok (.invokevirtual 314, 3) := by decide +kernel
theorem dX12_weight_49 : decode cX12_weight 49 = .ok (.iconst 1, 1) := by decide +kernel
theorem dX12_weight_50 : decode cX12_weight 50 = .ok (.ireturn, 1) := by decide +kernel
theorem dX12_idle_0 : decode cX12_idle 0 = .ok (.aload_n 0, 1) := by decide +kernel
theorem dX12_idle_1 : decode cX12_idle 1 = .ok (.invokevirtual 324, 3) := by decide +kernel
theorem dX12_idle_4 : decode cX12_idle 4 = .ok (.aload_n 0, 1) := by decide +kernel
theorem dX12_idle_5 : decode cX12_idle 5 = .ok (.getfield 7, 3) := by decide +kernel
theorem dX12_idle_8 : decode cX12_idle 8 = .ok (.ifCond .eq 23, 3) := by decide +kernel
theorem dX12_idle_11 : decode cX12_idle 11 = .ok (.iload_n 1, 1) := by decide +kernel
theorem dX12_idle_12 : decode cX12_idle 12 = .ok (.iconst 0, 1) := by decide +kernel
theorem dX12_idle_13 : decode cX12_idle 13 = .ok (.bipush 20, 2) := by decide +kernel
theorem dX12_idle_15 : decode cX12_idle 15 = .ok (.invokestatic 262, 3) := by decide +kernel
theorem dX12_idle_18 : decode cX12_idle 18 = .ok (.ifCond .eq 13, 3) := by decide +kernel
theorem dX12_idle_21 : decode cX12_idle 21 = .ok (.aload_n 0, 1) := by decide +kernel
theorem dX12_idle_22 : decode cX12_idle 22 = .ok (.bipush 6, 2) := by decide +kernel
theorem dX12_idle_24 : decode cX12_idle 24 = .ok (.invokevirtual 321, 3) := by decide +kernel
theorem dX12_idle_27 : decode cX12_idle 27 = .ok (.iload_n 1, 1) := by decide +kernel
theorem dX12_idle_28 : decode cX12_idle 28 = .ok (.if_icmp .ne 9, 3) := by decide +kernel
theorem dX12_idle_31 : decode cX12_idle 31 = .ok (.aload_n 0, 1) := by decide +kernel
theorem dX12_idle_32 : decode cX12_idle 32 = .ok (.iconst 3, 1) := by decide +kernel
theorem dX12_idle_33 : decode cX12_idle 33 = .ok (.invokevirtual 228, 3) := by decide +kernel
theorem dX12_idle_36 : decode cX12_idle 36 = .ok (.ireturn, 1) := by decide +kernel
theorem dX12_idle_37 : decode cX12_idle 37 = .ok (.aload_n 0, 1) := by decide +kernel
theorem dX12_idle_38 : decode cX12_idle 38 = .ok (.invokevirtual 441, 3) := by decide +kernel
theorem dX12_idle_41 : decode cX12_idle 41 = .ok (.aload_n 0, 1) := by decide +kernel
theorem dX12_idle_42 : decode cX12_idle 42 = .ok (.bipush 6, 2) := by decide +kernel
theorem dX12_idle_44 : decode cX12_idle 44 = .ok (.iload_n 1, 1) := by decide +kernel
theorem dX12_idle_45 : decode cX12_idle 45 = .ok (.invokevirtual 318, 3) := by decide +kernel
theorem dX12_idle_48 : decode cX12_idle 48 = .ok (.iconst 1, 1) := by decide +kernel
theorem dX12_idle_49 : decode cX12_idle 49 = .ok (.ireturn, 1) := by decide +kernel
theorem dX12_slice_0 : decode cX12_slice 0 = .ok (.aload_n 0, 1) := by decide +kernel
theorem dX12_slice_1 : decode cX12_slice 1 = .ok (.invokevirtual 324, 3) := by decide +kernel
theorem dX12_slice_4 : decode cX12_slice 4 = .ok (.aload_n 0, 1) := by decide +kernel
theorem dX12_slice_5 : decode cX12_slice 5 = .ok (.getfield 7, 3) := by decide +kernel
theorem dX12_slice_8 : decode cX12_slice 8 = .ok (.ifCond .eq 24, 3) := by decide +kernel
theorem dX12_slice_11 : decode cX12_slice 11 = .ok (.iload_n 1, 1) := by decide +kernel
theorem dX12_slice_12 : decode cX12_slice 12 = .ok (.iconst 1, 1) := by decide +kernel
theorem dX12_slice_13 : decode cX12_slice 13 = .ok (.sipush 200, 3) := by decide +kernel
theorem dX12_slice_16 : decode cX12_slice 16 = .ok (.invokestatic 262, 3) := by decide +kernel
theorem dX12_slice_19 : decode cX12_slice 19 = .ok (.ifCond .eq 13, 3) := by decide +kernel
theorem dX12_slice_22 : decode cX12_slice 22 = .ok (.aload_n 0, 1) := by decide +kernel
theorem dX12_slice_23 : decode cX12_slice 23 = .ok (.bipush 7, 2) := by decide +kernel
theorem dX12_slice_25 : decode cX12_slice 25 = .ok (.invokevirtual 321, 3) := by decide +kernel
theorem dX12_slice_28 : decode cX12_slice 28 = .ok (.iload_n 1, 1) := by decide +kernel
theorem dX12_slice_29 : decode cX12_slice 29 = .ok (.if_icmp .ne 9, 3) := by decide +kernel
theorem dX12_slice_32 : decode cX12_slice 32 = .ok (.aload_n 0, 1) := by decide +kernel
theorem dX12_slice_33 : decode cX12_slice 33 = .ok (.iconst 3, 1) := by decide +kernel
theorem dX12_slice_34 : decode cX12_slice 34 = .ok (.invokevirtual 228, 3) := by decide +kernel
theorem dX12_slice_37 : decode cX12_slice 37 = .ok (.ireturn, 1) := by decide +kernel
theorem dX12_slice_38 : decode cX12_slice 38 = .ok (.aload_n 0, 1) := by decide +kernel
theorem dX12_slice_39 : decode cX12_slice 39 = .ok (.invokevirtual 441, 3) := by decide +kernel
theorem dX12_slice_42 : decode cX12_slice 42 = .ok (.aload_n 0, 1) := by decide +kernel
theorem dX12_slice_43 : decode cX12_slice 43 = .ok (.bipush 7, 2) := by decide +kernel
theorem dX12_slice_45 : decode cX12_slice 45 = .ok (.iload_n 1, 1) := by decide +kernel
theorem dX12_slice_46 : decode cX12_slice 46 = .ok (.invokevirtual 318, 3) := by decide +kernel
theorem dX12_slice_49 : decode cX12_slice 49 = .ok (.iconst 1, 1) := by decide +kernel
theorem dX12_slice_50 : decode cX12_slice 50 = .ok (.ireturn, 1) := by decide +kernel
theorem dX12_on_0 : decode cX12_on 0 = .ok (.aload_n 0, 1) := by decide +kernel
theorem dX12_on_1 : decode cX12_on 1 = .ok (.invokevirtual 324, 3) := by decide +kernel
theorem dX12_on_4 : decode cX12_on 4 = .ok (.iload_n 2, 1) := by decide +kernel
theorem dX12_on_5 : decode cX12_on 5 = .ok (.ifCond .eq 7, 3) := by decide +kernel
theorem dX12_on_8 : decode cX12_on 8 = .ok (.iconst 1, 1) := by decide +kernel
theorem dX12_on_9 : decode cX12_on 9 = .ok (.goto 4, 3) := by decide +kernel
theorem dX12_on_12 : decode cX12_on 12 = .ok (.iconst 0, 1) := by decide +kernel
theorem dX12_on_13 : decode cX12_on 13 = .ok (.istore_n 3, 1) := by decide +kernel
theorem dX12_on_14 : decode cX12_on 14 = .ok (.aload_n 0, 1) := by decide +kernel
theorem dX12_on_15 : decode cX12_on 15 = .ok (.iload_n 1, 1) := by decide +kernel
theorem dX12_on_16 : decode cX12_on 16 = .ok (.invokevirtual 405, 3) := by decide +kernel
theorem dX12_on_19 : decode cX12_on 19 = .ok (.ifCond .eq 14, 3) := by decide +kernel
theorem dX12_on_22 : decode cX12_on 22 = .ok (.aload_n 0, 1) := by decide +kernel
theorem dX12_on_23 : decode cX12_on 23 = .ok (.iload_n 1, 1) := by decide +kernel
theorem dX12_on_24 : decode cX12_on 24 = .ok (.bipush 8, 2) := by decide +kernel
theorem dX12_on_26 : decode cX12_on 26 = .ok (.invokevirtual 337, 3) := by decide +kernel
theorem dX12_on_29 : decode cX12_on 29 = .ok (.iload_n 3, 1) := by decide +kernel
theorem dX12_on_30 : decode cX12_on 30 = .ok (.if_icmp .ne 9, 3) := by decide +kernel
theorem dX12_on_33 : decode cX12_on 33 = .ok (.aload_n 0, 1) := by decide +kernel
theorem dX12_on_34 : decode cX12_on 34 = .ok (.iconst 3, 1) := by decide +kernel
theorem dX12_on_35 : decode cX12_on 35 = .ok (.invokevirtual 228, 3) := by decide +kernel
theorem dX12_on_38 : decode cX12_on 38 = .ok (.ireturn, 1) := by decide +kernel
theorem dX12_on_39 : decode cX12_on 39 = .ok (.aload_n 0, 1) := by decide +kernel
theorem dX12_on_40 : decode cX12_on 40 = .ok (.invokevirtual 441, 3) := by decide +kernel
theorem dX12_on_43 : decode cX12_on 43 = .ok (.aload_n 0, 1) := by decide +kernel
theorem dX12_on_44 : decode cX12_on 44 = .ok (.iload_n 1, 1) := by decide +kernel
theorem dX12_on_45 : decode cX12_on 45 = .ok (.bipush 8, 2) := by decide +kernel
theorem dX12_on_47 : decode cX12_on 47 = .ok (.iload_n 3, 1) := by decide +kernel
theorem dX12_on_48 : decode cX12_on 48 = .ok (.invokevirtual 314, 3) := by decide +kernel
theorem dX12_on_51 : decode cX12_on 51 = .ok (.iconst 1, 1) := by decide +kernel
theorem dX12_on_52 : decode cX12_on 52 = .ok (.ireturn, 1) := by decide +kernel
theorem dX12_draw_0 : decode cX12_draw 0 = .ok (.aload_n 0, 1) := by decide +kernel
theorem dX12_draw_1 : decode cX12_draw 1 = .ok (.ldc2_w 447, 3) := by decide +kernel
theorem dX12_draw_4 : decode cX12_draw 4 = .ok (.aload_n 0, 1) := by decide +kernel
theorem dX12_draw_5 : decode cX12_draw 5 = .ok (.getfield 211, 3) := by decide +kernel
theorem dX12_draw_8 : decode cX12_draw 8 = .ok (.i2l, 1) := by decide +kernel
theorem dX12_draw_9 : decode cX12_draw 9 = .ok (.lmul, 1) := by decide +kernel
theorem dX12_draw_10 : decode cX12_draw 10 = .ok (.ldc2_w 449, 3) := by decide +kernel
theorem dX12_draw_13 : decode cX12_draw 13 = .ok (.ladd, 1) := by decide +kernel
theorem dX12_draw_14 : decode cX12_draw 14 = .ok (.ldc2_w 451, 3) := by decide +kernel
theorem dX12_draw_17 : decode cX12_draw 17 = .ok (.lrem, 1) := by decide +kernel
theorem dX12_draw_18 : decode cX12_draw 18 = .ok (.l2i, 1) := by decide +kernel
theorem dX12_draw_19 : decode cX12_draw 19 = .ok (.putfield 211, 3) := by decide +kernel
theorem dX12_draw_22 : decode cX12_draw 22 = .ok (.aload_n 0, 1) := by decide +kernel
theorem dX12_draw_23 : decode cX12_draw 23 = .ok (.getfield 211, 3) := by decide +kernel
theorem dX12_draw_26 : decode cX12_draw 26 = .ok (.bipush 64, 2) := by decide +kernel
theorem dX12_draw_28 : decode cX12_draw 28 = .ok (.idiv, 1) := by decide +kernel
theorem dX12_draw_29 : decode cX12_draw 29 = .ok (.iload_n 1, 1) := by decide +kernel
theorem dX12_draw_30 : decode cX12_draw 30 = .ok (.irem, 1) := by decide +kernel
theorem dX12_draw_31 : decode cX12_draw 31 = .ok (.ireturn, 1) := by decide +kernel
theorem dX12_chance_0 : decode cX12_chance 0 = .ok (.aload_n 0, 1) := by decide +kernel
theorem dX12_chance_1 : decode cX12_chance 1 = .ok (.invokevirtual 324, 3) := by decide +kernel
theorem dX12_chance_4 : decode cX12_chance 4 = .ok (.aload_n 0, 1) := by decide +kernel
theorem dX12_chance_5 : decode cX12_chance 5 = .ok (.getfield 13, 3) := by decide +kernel
theorem dX12_chance_8 : decode cX12_chance 8 = .ok (.ifCond .eq 29, 3) := by decide +kernel
theorem dX12_chance_11 : decode cX12_chance 11 = .ok (.iload_n 1, 1) := by decide +kernel
theorem dX12_chance_12 : decode cX12_chance 12 = .ok (.iconst 1, 1) := by decide +kernel
theorem dX12_chance_13 : decode cX12_chance 13 = .ok (.bipush 40, 2) := by decide +kernel
theorem dX12_chance_15 : decode cX12_chance 15 = .ok (.invokestatic 262, 3) := by decide +kernel
theorem dX12_chance_18 : decode cX12_chance 18 = .ok (.ifCond .eq 19, 3) := by decide +kernel
theorem dX12_chance_21 : decode cX12_chance 21 = .ok (.aload_n 0, 1) := by decide +kernel
theorem dX12_chance_22 : decode cX12_chance 22 = .ok (.iconst 0, 1) := by decide +kernel
theorem dX12_chance_23 : decode cX12_chance 23 = .ok (.invokevirtual 321, 3) := by decide +kernel
theorem dX12_chance_26 : decode cX12_chance 26 = .ok (.bipush 7, 2) := by decide +kernel
theorem dX12_chance_28 : decode cX12_chance 28 = .ok (.iload_n 1, 1) := by decide +kernel
theorem dX12_chance_29 : decode cX12_chance 29 = .ok (.imul, 1) := by decide +kernel
theorem dX12_chance_30 : decode cX12_chance 30 = .ok (.iadd, 1) := by decide +kernel
theorem dX12_chance_31 : decode cX12_chance 31 = .ok (.sipush 9999, 3) := by decide +kernel
theorem dX12_chance_34 : decode cX12_chance 34 = .ok (.if_icmp .le 9, 3) := by decide +kernel
theorem dX12_chance_37 : decode cX12_chance 37 = .ok (.aload_n 0, 1) := by decide +kernel
theorem dX12_chance_38 : decode cX12_chance 38 = .ok (.iconst 2, 1) := by decide +kernel
theorem dX12_chance_39 : decode cX12_chance 39 = .ok (.invokevirtual 220, 3) := by decide +kernel
theorem dX12_chance_42 : decode cX12_chance 42 = .ok (.ireturn, 1) := by decide +kernel
theorem dX12_chance_43 : decode cX12_chance 43 = .ok (.aload_n 0, 1) := by decide +kernel
theorem dX12_chance_44 : decode cX12_chance 44 = .ok (.invokevirtual 441, 3) := by decide +kernel
theorem dX12_chance_47 : decode cX12_chance 47 = .ok (.iconst 0, 1) := by decide +kernel
theorem dX12_chance_48 : decode cX12_chance 48 = .ok (.istore_n 2, 1) := by decide +kernel
theorem dX12_chance_49 : decode cX12_chance 49 = .ok (.iload_n 2, 1) := by decide +kernel
theorem dX12_chance_50 : decode cX12_chance 50 = .ok (.iload_n 1, 1) := by decide +kernel
theorem dX12_chance_51 : decode cX12_chance 51 = .ok (.if_icmp .ge 71, 3) := by decide +kernel
theorem dX12_chance_54 : decode cX12_chance 54 = .ok (.aload_n 0, 1) := by decide +kernel
theorem dX12_chance_55 : decode cX12_chance 55 = .ok (.aload_n 0, 1) := by decide +kernel
theorem dX12_chance_56 : decode cX12_chance 56 = .ok (.getfield 13, 3) := by decide +kernel
theorem dX12_chance_59 : decode cX12_chance 59 = .ok (.invokevirtual 453, 3) := by decide +kernel
theorem dX12_chance_62 : decode cX12_chance 62 = .ok (.istore_n 3, 1) := by decide +kernel
theorem dX12_chance_63 : decode cX12_chance 63 = .ok (.aload_n 0, 1) := by decide +kernel
theorem dX12_chance_64 : decode cX12_chance 64 = .ok (.aload_n 0, 1) := by decide +kernel
theorem dX12_chance_65 : decode cX12_chance 65 = .ok (.getfield 17, 3) := by decide +kernel
theorem dX12_chance_68 : decode cX12_chance 68 = .ok (.invokevirtual 453, 3) := by decide +kernel
theorem dX12_chance_71 : decode cX12_chance 71 = .ok (.istore 4, 2) := by decide +kernel
theorem dX12_chance_73 : decode cX12_chance 73 = .ok (.aload_n 0, 1) := by decide +kernel
theorem dX12_chance_74 : decode cX12_chance 74 = .ok (.bipush 16, 2) := by decide +kernel
theorem dX12_chance_76 : decode cX12_chance 76 = .ok (.invokevirtual 453, 3) := by decide +kernel
theorem dX12_chance_79 : decode cX12_chance 79 = .ok (.iconst 1, 1) := by decide +kernel
theorem dX12_chance_80 : decode cX12_chance 80 = .ok (.iadd, 1) := by decide +kernel
theorem dX12_chance_81 : decode cX12_chance 81 = .ok (.istore 5, 2) := by decide +kernel
theorem dX12_chance_83 : decode cX12_chance 83 = .ok (.aload_n 0, 1) := by decide +kernel
theorem dX12_chance_84 : decode cX12_chance 84 = .ok (.iload_n 3, 1) := by decide +kernel
theorem dX12_chance_85 : decode cX12_chance 85 = .ok (.iload 4, 2) := by decide +kernel
theorem dX12_chance_87 : decode cX12_chance 87 = .ok (.iload 5, 2) := by decide +kernel
theorem dX12_chance_89 : decode cX12_chance 89 = .ok (.invokevirtual 444, 3) := by decide +kernel
theorem dX12_chance_92 : decode cX12_chance 92 = .ok (.ifCond .eq 14, 3) := by decide +kernel
theorem dX12_chance_95 : decode cX12_chance 95 = .ok (.aload_n 0, 1) := by decide +kernel
theorem dX12_chance_96 : decode cX12_chance 96 = .ok (.iload_n 3, 1) := by decide +kernel
theorem dX12_chance_97 : decode cX12_chance 97 = .ok (.iload 4, 2) := by decide +kernel
theorem dX12_chance_99 : decode cX12_chance 99 = .ok (.iload 5, 2) := by decide +kernel
theorem dX12_chance_101 : decode cX12_chance 101 = .ok (.iconst 1, 1) := by decide +kernel
theorem dX12_chance_102 : decode cX12_chance 102 = .ok (.iconst 0, 1) := by decide +kernel
theorem dX12_chance_103 : decode cX12_chance 103 = .ok (.invokevirtual 361, 3) := by decide +kernel
theorem dX12_chance_106 : decode cX12_chance 106 = .ok (.aload_n 0, 1) := by decide +kernel
theorem dX12_chance_107 : decode cX12_chance 107 = .ok (.aload_n 0, 1) := by decide +kernel
theorem dX12_chance_108 : decode cX12_chance 108 = .ok (.bipush 8, 2) := by decide +kernel
theorem dX12_chance_110 : decode cX12_chance 110 = .ok (.invokevirtual 453, 3) := by decide +kernel
theorem dX12_chance_113 : decode cX12_chance 113 = .ok (.invokevirtual 428, 3) := by decide +kernel
theorem dX12_chance_116 : decode cX12_chance 116 = .ok (.iinc 2 1, 3) := by decide +kernel
theorem dX12_chance_119 : decode cX12_chance 119 = .ok (.goto (-70), 3) := by decide +kernel
theorem dX12_chance_122 : decode cX12_chance 122 = .ok (.aload_n 0, 1) := by decide +kernel
theorem dX12_chance_123 : decode cX12_chance 123 = .ok (.iconst 0, 1) := by decide +kernel
theorem dX12_chance_124 : decode cX12_chance 124 = .ok (.invokevirtual 321, 3) := by decide +kernel
theorem dX12_chance_127 : decode cX12_chance 127 = .ok (.ireturn, 1) := by decide +kernel
theorem dX12_undo_0 : decode cX12_undo 0 = .ok (.aload_n 0, 1) := by decide +kernel
theorem dX12_undo_1 : decode cX12_undo 1 = .ok (.getfield 178, 3) := by decide +kernel
theorem dX12_undo_4 : decode cX12_undo 4 = .ok (.ifCond .ne 9, 3) := by decide +kernel
theorem dX12_undo_7 : decode cX12_undo 7 = .ok (.aload_n 0, 1) := by decide +kernel
theorem dX12_undo_8 : decode cX12_undo 8 = .ok (.iconst 4, 1) := by decide +kernel
theorem dX12_undo_9 : decode cX12_undo 9 = .ok (.invokevirtual 228, 3) := by decide +kernel
theorem dX12_undo_12 : decode cX12_undo 12 = .ok (.ireturn, 1) := by decide +kernel
theorem dX12_undo_13 : decode cX12_undo 13 = .ok (.aload_n 0, 1) := by decide +kernel
theorem dX12_undo_14 : decode cX12_undo 14 = .ok (.dup, 1) := by decide +kernel
theorem dX12_undo_15 : decode cX12_undo 15 = .ok (.getfield 178, 3) := by decide +kernel
theorem dX12_undo_18 : decode cX12_undo 18 = .ok (.iconst 1, 1) := by decide +kernel
theorem dX12_undo_19 : decode cX12_undo 19 = .ok (.isub, 1) := by decide +kernel
theorem dX12_undo_20 : decode cX12_undo 20 = .ok (.putfield 178, 3) := by decide +kernel
theorem dX12_undo_23 : decode cX12_undo 23 = .ok (.iconst 0, 1) := by decide +kernel
theorem dX12_undo_24 : decode cX12_undo 24 = .ok (.istore_n 1, 1) := by decide +kernel
theorem dX12_undo_25 : decode cX12_undo 25 = .ok (.iload_n 1, 1) := by decide +kernel
theorem dX12_undo_26 : decode cX12_undo 26 = .ok (.sipush 758, 3) := by decide +kernel
theorem dX12_undo_29 : decode cX12_undo 29 = .ok (.if_icmp .ge 30, 3) := by decide +kernel
theorem dX12_undo_32 : decode cX12_undo 32 = .ok (.aload_n 0, 1) := by decide +kernel
theorem dX12_undo_33 : decode cX12_undo 33 = .ok (.getfield 159, 3) := by decide +kernel
theorem dX12_undo_36 : decode cX12_undo 36 = .ok (.iload_n 1, 1) := by decide +kernel
theorem dX12_undo_37 : decode cX12_undo 37 = .ok (.aload_n 0, 1) := by decide +kernel
theorem dX12_undo_38 : decode cX12_undo 38 = .ok (.getfield 166, 3) := by decide +kernel
theorem dX12_undo_41 : decode cX12_undo 41 = .ok (.sipush 758, 3) := by decide +kernel
theorem dX12_undo_44 : decode cX12_undo 44 = .ok (.aload_n 0, 1) := by decide +kernel
theorem dX12_undo_45 : decode cX12_undo 45 = .ok (.getfield 178, 3) := by decide +kernel
theorem dX12_undo_48 : decode cX12_undo 48 = .ok (.imul, 1) := by decide +kernel
theorem dX12_undo_49 : decode cX12_undo 49 = .ok (.iload_n 1, 1) := by decide +kernel
theorem dX12_undo_50 : decode cX12_undo 50 = .ok (.iadd, 1) := by decide +kernel
theorem dX12_undo_51 : decode cX12_undo 51 = .ok (.iaload, 1) := by decide +kernel
theorem dX12_undo_52 : decode cX12_undo 52 = .ok (.iastore, 1) := by decide +kernel
theorem dX12_undo_53 : decode cX12_undo 53 = .ok (.iinc 1 1, 3) := by decide +kernel
theorem dX12_undo_56 : decode cX12_undo 56 = .ok (.goto (-31), 3) := by decide +kernel
theorem dX12_undo_59 : decode cX12_undo 59 = .ok (.iconst 0, 1) := by decide +kernel
theorem dX12_undo_60 : decode cX12_undo 60 = .ok (.istore_n 1, 1) := by decide +kernel
theorem dX12_undo_61 : decode cX12_undo 61 = .ok (.iload_n 1, 1) := by decide +kernel
theorem dX12_undo_62 : decode cX12_undo 62 = .ok (.bipush 20, 2) := by decide +kernel
theorem dX12_undo_64 : decode cX12_undo 64 = .ok (.if_icmp .ge 29, 3) := by decide +kernel
theorem dX12_undo_67 : decode cX12_undo 67 = .ok (.aload_n 0, 1) := by decide +kernel
theorem dX12_undo_68 : decode cX12_undo 68 = .ok (.getfield 162, 3) := by decide +kernel
theorem dX12_undo_71 : decode cX12_undo 71 = .ok (.iload_n 1, 1) := by decide +kernel
theorem dX12_undo_72 : decode cX12_undo 72 = .ok (.aload_n 0, 1) := by decide +kernel
theorem dX12_undo_73 : decode cX12_undo 73 = .ok (.getfield 169, 3) := by decide +kernel
theorem dX12_undo_76 : decode cX12_undo 76 = .ok (.bipush 20, 2) := by decide +kernel
theorem dX12_undo_78 : decode cX12_undo 78 = .ok (.aload_n 0, 1) := by decide +kernel
theorem dX12_undo_79 : decode cX12_undo 79 = .ok (.getfield 178, 3) := by decide +kernel
theorem dX12_undo_82 : decode cX12_undo 82 = .ok (.imul, 1) := by decide +kernel
theorem dX12_undo_83 : decode cX12_undo 83 = .ok (.iload_n 1, 1) := by decide +kernel
theorem dX12_undo_84 : decode cX12_undo 84 = .ok (.iadd, 1) := by decide +kernel
theorem dX12_undo_85 : decode cX12_undo 85 = .ok (.faload, 1) := by decide +kernel
theorem dX12_undo_86 : decode cX12_undo 86 = .ok (.fastore, 1) := by decide +kernel
theorem dX12_undo_87 : decode cX12_undo 87 = .ok (.iinc 1 1, 3) := by decide +kernel
theorem dX12_undo_90 : decode cX12_undo 90 = .ok (.goto (-29), 3) := by decide +kernel
theorem dX12_undo_93 : decode cX12_undo 93 = .ok (.iconst 1, 1) := by decide +kernel
theorem dX12_undo_94 : decode cX12_undo 94 = .ok (.ireturn, 1) := by decide +kernel
theorem dX12_seed_0 : decode cX12_seed 0 = .ok (.iload_n 1, 1) := by decide +kernel
theorem dX12_seed_1 : decode cX12_seed 1 = .ok (.ifCond .ge 9, 3) := by decide +kernel
theorem dX12_seed_4 : decode cX12_seed 4 = .ok (.aload_n 0, 1) := by decide +kernel
theorem dX12_seed_5 : decode cX12_seed 5 = .ok (.iconst 5, 1) := by decide +kernel
theorem dX12_seed_6 : decode cX12_seed 6 = .ok (.invokevirtual 228, 3) := by decide +kernel
theorem dX12_seed_9 : decode cX12_seed 9 = .ok (.ireturn, 1) := by decide +kernel
theorem dX12_seed_10 : decode cX12_seed 10 = .ok (.aload_n 0, 1) := by decide +kernel
theorem dX12_seed_11 : decode cX12_seed 11 = .ok (.iload_n 1, 1) := by decide +kernel
theorem dX12_seed_12 : decode cX12_seed 12 = .ok (.putfield 211, 3) := by decide +kernel
theorem dX12_seed_15 : decode cX12_seed 15 = .ok (.iconst 1, 1) := by decide +kernel
theorem dX12_seed_16 : decode cX12_seed 16 = .ok (.ireturn, 1) := by decide +kernel
theorem dX12_says_0 : decode cX12_says 0 = .ok (.aload_n 0, 1) := by decide +kernel
theorem dX12_says_1 : decode cX12_says 1 = .ok (.getfield 214, 3) := by decide +kernel
theorem dX12_says_4 : decode cX12_says 4 = .ok (.aload_n 0, 1) := by decide +kernel
theorem dX12_says_5 : decode cX12_says 5 = .ok (.getfield 217, 3) := by decide +kernel
theorem dX12_says_8 : decode cX12_says 8 = .ok (.iload_n 1, 1) := by decide +kernel
theorem dX12_says_9 : decode cX12_says 9 = .ok (.iastore, 1) := by decide +kernel
theorem dX12_says_10 : decode cX12_says 10 = .ok (.aload_n 0, 1) := by decide +kernel
theorem dX12_says_11 : decode cX12_says 11 = .ok (.dup, 1) := by decide +kernel
theorem dX12_says_12 : decode cX12_says 12 = .ok (.getfield 217, 3) := by decide +kernel
theorem dX12_says_15 : decode cX12_says 15 = .ok (.iconst 1, 1) := by decide +kernel
theorem dX12_says_16 : decode cX12_says 16 = .ok (.iadd, 1) := by decide +kernel
theorem dX12_says_17 : decode cX12_says 17 = .ok (.putfield 217, 3) := by decide +kernel
theorem dX12_says_20 : decode cX12_says 20 = .ok (.return_, 1) := by decide +kernel
theorem dX12_image_0 : decode cX12_image 0 = .ok (.aload_n 0, 1) := by decide +kernel
theorem dX12_image_1 : decode cX12_image 1 = .ok (.invokevirtual 324, 3) := by decide +kernel
theorem dX12_image_4 : decode cX12_image 4 = .ok (.aload_n 0, 1) := by decide +kernel
theorem dX12_image_5 : decode cX12_image 5 = .ok (.iconst 0, 1) := by decide +kernel
theorem dX12_image_6 : decode cX12_image 6 = .ok (.putfield 217, 3) := by decide +kernel
theorem dX12_image_9 : decode cX12_image 9 = .ok (.aload_n 0, 1) := by decide +kernel
theorem dX12_image_10 : decode cX12_image 10 = .ok (.aload_n 0, 1) := by decide +kernel
theorem dX12_image_11 : decode cX12_image 11 = .ok (.bipush 6, 2) := by decide +kernel
theorem dX12_image_13 : decode cX12_image 13 = .ok (.invokevirtual 321, 3) := by decide +kernel
theorem dX12_image_16 : decode cX12_image 16 = .ok (.invokevirtual 456, 3) := by decide +kernel
theorem dX12_image_19 : decode cX12_image 19 = .ok (.aload_n 0, 1) := by decide +kernel
theorem dX12_image_20 : decode cX12_image 20 = .ok (.aload_n 0, 1) := by decide +kernel
theorem dX12_image_21 : decode cX12_image 21 = .ok (.bipush 7, 2) := by decide +kernel
theorem dX12_image_23 : decode cX12_image 23 = .ok (.invokevirtual 321, 3) := by decide +kernel
theorem dX12_image_26 : decode cX12_image 26 = .ok (.invokevirtual 456, 3) := by decide +kernel
theorem dX12_image_29 : decode cX12_image 29 = .ok (.iconst 0, 1) := by decide +kernel
theorem dX12_image_30 : decode cX12_image 30 = .ok (.istore_n 1, 1) := by decide +kernel
theorem dX12_image_31 : decode cX12_image 31 = .ok (.iload_n 1, 1) := by decide +kernel
theorem dX12_image_32 : decode cX12_image 32 = .ok (.aload_n 0, 1) := by decide +kernel
theorem dX12_image_33 : decode cX12_image 33 = .ok (.getfield 13, 3) := by decide +kernel
theorem dX12_image_36 : decode cX12_image 36 = .ok (.if_icmp .ge 30, 3) := by decide +kernel
theorem dX12_image_39 : decode cX12_image 39 = .ok (.aload_n 0, 1) := by decide +kernel
theorem dX12_image_40 : decode cX12_image 40 = .ok (.aload_n 0, 1) := by decide +kernel
theorem dX12_image_41 : decode cX12_image 41 = .ok (.iload_n 1, 1) := by decide +kernel
theorem dX12_image_42 : decode cX12_image 42 = .ok (.iconst 0, 1) := by decide +kernel
theorem dX12_image_43 : decode cX12_image 43 = .ok (.invokevirtual 337, 3) := by decide +kernel
theorem dX12_image_46 : decode cX12_image 46 = .ok (.invokevirtual 456, 3) := by decide +kernel
theorem dX12_image_49 : decode cX12_image 49 = .ok (.aload_n 0, 1) := by decide +kernel
theorem dX12_image_50 : decode cX12_image 50 = .ok (.aload_n 0, 1) := by decide +kernel
theorem dX12_image_51 : decode cX12_image 51 = .ok (.iload_n 1, 1) := by decide +kernel
theorem dX12_image_52 : decode cX12_image 52 = .ok (.bipush 8, 2) := by decide +kernel
theorem dX12_image_54 : decode cX12_image 54 = .ok (.invokevirtual 337, 3) := by decide +kernel
theorem dX12_image_57 : decode cX12_image 57 = .ok (.invokevirtual 456, 3) := by decide +kernel
theorem dX12_image_60 : decode cX12_image 60 = .ok (.iinc 1 1, 3) := by decide +kernel
theorem dX12_image_63 : decode cX12_image 63 = .ok (.goto (-32), 3) := by decide +kernel
theorem dX12_image_66 : decode cX12_image 66 = .ok (.sipush 163, 3) := by decide +kernel
theorem dX12_image_69 : decode cX12_image 69 = .ok (.istore_n 1, 1) := by decide +kernel
theorem dX12_image_70 : decode cX12_image 70 = .ok (.iconst 0, 1) := by decide +kernel
theorem dX12_image_71 : decode cX12_image 71 = .ok (.istore_n 2, 1) := by decide +kernel
theorem dX12_image_72 : decode cX12_image 72 = .ok (.iload_n 2, 1) := by decide +kernel
theorem dX12_image_73 : decode cX12_image 73 = .ok (.aload_n 0, 1) := by decide +kernel
theorem dX12_image_74 : decode cX12_image 74 = .ok (.getfield 217, 3) := by decide +kernel
theorem dX12_image_77 : decode cX12_image 77 = .ok (.if_icmp .ge 24, 3) := by decide +kernel
theorem dX12_image_80 : decode cX12_image 80 = .ok (.iconst 3, 1) := by decide +kernel
theorem dX12_image_81 : decode cX12_image 81 = .ok (.iload_n 1, 1) := by decide +kernel
theorem dX12_image_82 : decode cX12_image 82 = .ok (.imul, 1) := by decide +kernel
theorem dX12_image_83 : decode cX12_image 83 = .ok (.aload_n 0, 1) := by decide +kernel
theorem dX12_image_84 : decode cX12_image 84 = .ok (.getfield 214, 3) := by decide +kernel
theorem dX12_image_87 : decode cX12_image 87 = .ok (.iload_n 2, 1) := by decide +kernel
theorem dX12_image_88 : decode cX12_image 88 = .ok (.iaload, 1) := by decide +kernel
theorem dX12_image_89 : decode cX12_image 89 = .ok (.iadd, 1) := by decide +kernel
theorem dX12_image_90 : decode cX12_image 90 = .ok (.sipush 251, 3) := by decide +kernel
theorem dX12_image_93 : decode cX12_image 93 = .ok (.irem, 1) := by decide +kernel
theorem dX12_image_94 : decode cX12_image 94 = .ok (.istore_n 1, 1) := by decide +kernel
theorem dX12_image_95 : decode cX12_image 95 = .ok (.iinc 2 1, 3) := by decide +kernel
theorem dX12_image_98 : decode cX12_image 98 = .ok (.goto (-26), 3) := by decide +kernel
theorem dX12_image_101 : decode cX12_image 101 = .ok (.aload_n 0, 1) := by decide +kernel
theorem dX12_image_102 : decode cX12_image 102 = .ok (.iload_n 1, 1) := by decide +kernel
theorem dX12_image_103 : decode cX12_image 103 = .ok (.invokevirtual 456, 3) := by decide +kernel
theorem dX12_image_106 : decode cX12_image 106 = .ok (.aload_n 0, 1) := by decide +kernel
theorem dX12_image_107 : decode cX12_image 107 = .ok (.getfield 217, 3) := by decide +kernel
theorem dX12_image_110 : decode cX12_image 110 = .ok (.ireturn, 1) := by decide +kernel
theorem dX12_octet_0 : decode cX12_octet 0 = .ok (.iload_n 1, 1) := by decide +kernel
theorem dX12_octet_1 : decode cX12_octet 1 = .ok (.iconst 0, 1) := by decide +kernel
theorem dX12_octet_2 : decode cX12_octet 2 = .ok (.aload_n 0, 1) := by decide +kernel
theorem dX12_octet_3 : decode cX12_octet 3 = .ok (.getfield 217, 3) := by decide +kernel
theorem dX12_octet_6 : decode cX12_octet 6 = .ok (.iconst 1, 1) := by decide +kernel
theorem dX12_octet_7 : decode cX12_octet 7 = .ok (.isub, 1) := by decide +kernel
theorem dX12_octet_8 : decode cX12_octet 8 = .ok (.invokestatic 262, 3) := by decide +kernel
theorem dX12_octet_11 : decode cX12_octet 11 = .ok (.ifCond .eq 12, 3) := by decide +kernel
theorem dX12_octet_14 : decode cX12_octet 14 = .ok (.aload_n 0, 1) := by decide +kernel
theorem dX12_octet_15 : decode cX12_octet 15 = .ok (.getfield 214, 3) := by decide +kernel
theorem dX12_octet_18 : decode cX12_octet 18 = .ok (.iload_n 1, 1) := by decide +kernel
theorem dX12_octet_19 : decode cX12_octet 19 = .ok (.iaload, 1) := by decide +kernel
theorem dX12_octet_20 : decode cX12_octet 20 = .ok (.goto 4, 3) := by decide +kernel
theorem dX12_octet_23 : decode cX12_octet 23 = .ok (.iconst (-1), 1) := by decide +kernel
theorem dX12_octet_24 : decode cX12_octet 24 = .ok (.ireturn, 1) := by decide +kernel
theorem dX12_isImage_0 : decode cX12_isImage 0 = .ok (.aload_n 0, 1) := by decide +kernel
theorem dX12_isImage_1 : decode cX12_isImage 1 = .ok (.getfield 7, 3) := by decide +kernel
theorem dX12_isImage_4 : decode cX12_isImage 4 = .ok (.ifCond .eq 15, 3) := by decide +kernel
theorem dX12_isImage_7 : decode cX12_isImage 7 = .ok (.iload_n 1, 1) := by decide +kernel
theorem dX12_isImage_8 : decode cX12_isImage 8 = .ok (.iconst 3, 1) := by decide +kernel
theorem dX12_isImage_9 : decode cX12_isImage 9 = .ok (.iconst 2, 1) := by decide +kernel
theorem dX12_isImage_10 : decode cX12_isImage 10 = .ok (.aload_n 0, 1) := by decide +kernel
theorem dX12_isImage_11 : decode cX12_isImage 11 = .ok (.getfield 13, 3) := by decide +kernel
theorem dX12_isImage_14 : decode cX12_isImage 14 = .ok (.imul, 1) := by decide +kernel
theorem dX12_isImage_15 : decode cX12_isImage 15 = .ok (.iadd, 1) := by decide +kernel
theorem dX12_isImage_16 : decode cX12_isImage 16 = .ok (.if_icmp .eq 5, 3) := by decide +kernel
theorem dX12_isImage_19 : decode cX12_isImage 19 = .ok (.iconst 0, 1) := by decide +kernel
theorem dX12_isImage_20 : decode cX12_isImage 20 = .ok (.ireturn, 1) := by decide +kernel
theorem dX12_isImage_21 : decode cX12_isImage 21 = .ok (.sipush 163, 3) := by decide +kernel
theorem dX12_isImage_24 : decode cX12_isImage 24 = .ok (.istore_n 2, 1) := by decide +kernel
theorem dX12_isImage_25 : decode cX12_isImage 25 = .ok (.iconst 0, 1) := by decide +kernel
theorem dX12_isImage_26 : decode cX12_isImage 26 = .ok (.istore_n 3, 1) := by decide +kernel
theorem dX12_isImage_27 : decode cX12_isImage 27 = .ok (.iload_n 3, 1) := by decide +kernel
theorem dX12_isImage_28 : decode cX12_isImage 28 = .ok (.iload_n 1, 1) := by decide +kernel
theorem dX12_isImage_29 : decode cX12_isImage 29 = .ok (.iconst 1, 1) := by decide +kernel
theorem dX12_isImage_30 : decode cX12_isImage 30 = .ok (.isub, 1) := by decide +kernel
theorem dX12_isImage_31 : decode cX12_isImage 31 = .ok (.if_icmp .ge 24, 3) := by decide +kernel
theorem dX12_isImage_34 : decode cX12_isImage 34 = .ok (.iconst 3, 1) := by decide +kernel
theorem dX12_isImage_35 : decode cX12_isImage 35 = .ok (.iload_n 2, 1) := by decide +kernel
theorem dX12_isImage_36 : decode cX12_isImage 36 = .ok (.imul, 1) := by decide +kernel
theorem dX12_isImage_37 : decode cX12_isImage 37 = .ok (.aload_n 0, 1) := by decide +kernel
theorem dX12_isImage_38 : decode cX12_isImage 38 = .ok (.getfield 126, 3) := by decide +kernel
theorem dX12_isImage_41 : decode cX12_isImage 41 = .ok (.iload_n 3, 1) := by decide +kernel
theorem dX12_isImage_42 : decode cX12_isImage 42 = .ok (.iaload, 1) := by decide +kernel
theorem dX12_isImage_43 : decode cX12_isImage 43 = .ok (.iadd, 1) := by decide +kernel
theorem dX12_isImage_44 : decode cX12_isImage 44 = .ok (.sipush 251, 3) := by decide +kernel
theorem dX12_isImage_47 : decode cX12_isImage 47 = .ok (.irem, 1) := by decide +kernel
theorem dX12_isImage_48 : decode cX12_isImage 48 = .ok (.istore_n 2, 1) := by decide +kernel
theorem dX12_isImage_49 : decode cX12_isImage 49 = .ok (.iinc 3 1, 3) := by decide +kernel
theorem dX12_isImage_52 : decode cX12_isImage 52 = .ok (.goto (-25), 3) := by decide +kernel
theorem dX12_isImage_55 : decode cX12_isImage 55 = .ok (.aload_n 0, 1) := by decide +kernel
theorem dX12_isImage_56 : decode cX12_isImage 56 = .ok (.getfield 126, 3) := by decide +kernel
theorem dX12_isImage_59 : decode cX12_isImage 59 = .ok (.iload_n 1, 1) := by decide +kernel
theorem dX12_isImage_60 : decode cX12_isImage 60 = .ok (.iconst 1, 1) := by decide +kernel
theorem dX12_isImage_61 : decode cX12_isImage 61 = .ok (.isub, 1) := by decide +kernel
theorem dX12_isImage_62 : decode cX12_isImage 62 = .ok (.iaload, 1) := by decide +kernel
theorem dX12_isImage_63 : decode cX12_isImage 63 = .ok (.iload_n 2, 1) := by decide +kernel
theorem dX12_isImage_64 : decode cX12_isImage 64 = .ok (.if_icmp .ne 34, 3) := by decide +kernel
theorem dX12_isImage_67 : decode cX12_isImage 67 = .ok (.aload_n 0, 1) := by decide +kernel
theorem dX12_isImage_68 : decode cX12_isImage 68 = .ok (.getfield 126, 3) := by decide +kernel
theorem dX12_isImage_71 : decode cX12_isImage 71 = .ok (.iconst 0, 1) := by decide +kernel
theorem dX12_isImage_72 : decode cX12_isImage 72 = .ok (.iaload, 1) := by decide +kernel
theorem dX12_isImage_73 : decode cX12_isImage 73 = .ok (.bipush 20, 2) := by decide +kernel
theorem dX12_isImage_75 : decode cX12_isImage 75 = .ok (.if_icmp .gt 23, 3) := by decide +kernel
theorem dX12_isImage_78 : decode cX12_isImage 78 = .ok (.aload_n 0, 1) := by decide +kernel
theorem dX12_isImage_79 : decode cX12_isImage 79 = .ok (.getfield 126, 3) := by decide +kernel
theorem dX12_isImage_82 : decode cX12_isImage 82 = .ok (.iconst 1, 1) := by decide +kernel
theorem dX12_isImage_83 : decode cX12_isImage 83 = .ok (.iaload, 1) := by decide +kernel
theorem dX12_isImage_84 : decode cX12_isImage 84 = .ok (.iconst 1, 1) := by decide +kernel
theorem dX12_isImage_85 : decode cX12_isImage 85 = .ok (.sipush 200, 3) := by decide +kernel
theorem dX12_isImage_88 : decode cX12_isImage 88 = .ok (.invokestatic 262, 3) := by decide +kernel
theorem dX12_isImage_91 : decode cX12_isImage 91 = .ok (.ifCond .eq 7, 3) := by decide +kernel
theorem dX12_isImage_94 : decode cX12_isImage 94 = .ok (.iconst 1, 1) := by decide +kernel
theorem dX12_isImage_95 : decode cX12_isImage 95 = .ok (.goto 4, 3) := by decide +kernel
theorem dX12_isImage_98 : decode cX12_isImage 98 = .ok (.iconst 0, 1) := by decide +kernel
theorem dX12_isImage_99 : decode cX12_isImage 99 = .ok (.istore_n 3, 1) := by decide +kernel
theorem dX12_isImage_100 : decode cX12_isImage 100 = .ok (.iconst 0, 1) := by decide +kernel
theorem dX12_isImage_101 : decode cX12_isImage 101 = .ok (.istore 4, 2) := by decide +kernel
theorem dX12_isImage_103 : decode cX12_isImage 103 = .ok (.iload_n 3, 1) := by decide +kernel
theorem dX12_isImage_104 : decode cX12_isImage 104 = .ok (.ifCond .eq 59, 3) := by decide +kernel
theorem dX12_isImage_107 : decode cX12_isImage 107 = .ok (.iload 4, 2) := by decide +kernel
theorem dX12_isImage_109 : decode cX12_isImage 109 = .ok (.aload_n 0, 1) := by decide +kernel
theorem dX12_isImage_110 : decode cX12_isImage 110 = .ok (.getfield 13, 3) := by decide +kernel
theorem dX12_isImage_113 : decode cX12_isImage 113 = .ok (.if_icmp .ge 50, 3) := by decide +kernel
theorem dX12_isImage_116 : decode cX12_isImage 116 = .ok (.aload_n 0, 1) := by decide +kernel
theorem dX12_isImage_117 : decode cX12_isImage 117 = .ok (.getfield 126, 3) := by decide +kernel
theorem dX12_isImage_120 : decode cX12_isImage 120 = .ok (.iconst 2, 1) := by decide +kernel
theorem dX12_isImage_121 : decode cX12_isImage 121 = .ok (.iconst 2, 1) := by decide +kernel
theorem dX12_isImage_122 : decode cX12_isImage 122 = .ok (.iload 4, 2) := by decide +kernel
theorem dX12_isImage_124 : decode cX12_isImage 124 = .ok (.imul, 1) := by decide +kernel
theorem dX12_isImage_125 : decode cX12_isImage 125 = .ok (.iadd, 1) := by decide +kernel
theorem dX12_isImage_126 : decode cX12_isImage 126 = .ok (.iaload, 1) := by decide +kernel
theorem dX12_isImage_127 : decode cX12_isImage 127 = .ok (.iconst 1, 1) := by decide +kernel
theorem dX12_isImage_128 : decode cX12_isImage 128 = .ok (.bipush 100, 2) := by decide +kernel
theorem dX12_isImage_130 : decode cX12_isImage 130 = .ok (.invokestatic 262, 3) := by decide +kernel
theorem dX12_isImage_133 : decode cX12_isImage 133 = .ok (.ifCond .eq 22, 3) := by decide +kernel
theorem dX12_isImage_136 : decode cX12_isImage 136 = .ok (.aload_n 0, 1) := by decide +kernel
theorem dX12_isImage_137 : decode cX12_isImage 137 = .ok (.getfield 126, 3) := by decide +kernel
theorem dX12_isImage_140 : decode cX12_isImage 140 = .ok (.iconst 3, 1) := by decide +kernel
theorem dX12_isImage_141 : decode cX12_isImage 141 = .ok (.iconst 2, 1) := by decide +kernel
theorem dX12_isImage_142 : decode cX12_isImage 142 = .ok (.iload 4, 2) := by decide +kernel
theorem dX12_isImage_144 : decode cX12_isImage 144 = .ok (.imul, 1) := by decide +kernel
theorem dX12_isImage_145 : decode cX12_isImage 145 = .ok (.iadd, 1) := by decide +kernel
theorem dX12_isImage_146 : decode cX12_isImage 146 = .ok (.iaload, 1) := by decide +kernel
theorem dX12_isImage_147 : decode cX12_isImage 147 = .ok (.iconst 1, 1) := by decide +kernel
theorem dX12_isImage_148 : decode cX12_isImage 148 = .ok (.if_icmp .gt 7, 3) := by decide +kernel
theorem dX12_isImage_151 : decode cX12_isImage 151 = .ok (.iconst 1, 1) := by decide +kernel
theorem dX12_isImage_152 : decode cX12_isImage 152 = .ok (.goto 4, 3) := by decide +kernel
theorem dX12_isImage_155 : decode cX12_isImage 155 = .ok (.iconst 0, 1) := by decide +kernel
theorem dX12_isImage_156 : decode cX12_isImage 156 = .ok (.istore_n 3, 1) := by decide +kernel
theorem dX12_isImage_157 : decode cX12_isImage 157 = .ok (.iinc 4 1, 3) := by decide +kernel
theorem dX12_isImage_160 : decode cX12_isImage 160 = .ok (.goto (-57), 3) := by decide +kernel
theorem dX12_isImage_163 : decode cX12_isImage 163 = .ok (.iload_n 3, 1) := by decide +kernel
theorem dX12_isImage_164 : decode cX12_isImage 164 = .ok (.ireturn, 1) := by decide +kernel
theorem dX12_take_0 : decode cX12_take 0 = .ok (.aload_n 0, 1) := by decide +kernel
theorem dX12_take_1 : decode cX12_take 1 = .ok (.invokevirtual 302, 3) := by decide +kernel
theorem dX12_take_4 : decode cX12_take 4 = .ok (.istore_n 1, 1) := by decide +kernel
theorem dX12_take_5 : decode cX12_take 5 = .ok (.aload_n 0, 1) := by decide +kernel
theorem dX12_take_6 : decode cX12_take 6 = .ok (.iload_n 1, 1) := by decide +kernel
theorem dX12_take_7 : decode cX12_take 7 = .ok (.invokevirtual 459, 3) := by decide +kernel
theorem dX12_take_10 : decode cX12_take 10 = .ok (.ifCond .ne 9, 3) := by decide +kernel
theorem dX12_take_13 : decode cX12_take 13 = .ok (.aload_n 0, 1) := by decide +kernel
theorem dX12_take_14 : decode cX12_take 14 = .ok (.iconst 5, 1) := by decide +kernel
theorem dX12_take_15 : decode cX12_take 15 = .ok (.invokevirtual 228, 3) := by decide +kernel
theorem dX12_take_18 : decode cX12_take 18 = .ok (.ireturn, 1) := by decide +kernel
theorem dX12_take_19 : decode cX12_take 19 = .ok (.aload_n 0, 1) := by decide +kernel
theorem dX12_take_20 : decode cX12_take 20 = .ok (.invokevirtual 311, 3) := by decide +kernel
theorem dX12_take_23 : decode cX12_take 23 = .ok (.aload_n 0, 1) := by decide +kernel
theorem dX12_take_24 : decode cX12_take 24 = .ok (.bipush 6, 2) := by decide +kernel
theorem dX12_take_26 : decode cX12_take 26 = .ok (.aload_n 0, 1) := by decide +kernel
theorem dX12_take_27 : decode cX12_take 27 = .ok (.getfield 126, 3) := by decide +kernel
theorem dX12_take_30 : decode cX12_take 30 = .ok (.iconst 0, 1) := by decide +kernel
theorem dX12_take_31 : decode cX12_take 31 = .ok (.iaload, 1) := by decide +kernel
theorem dX12_take_32 : decode cX12_take 32 = .ok (.invokevirtual 318, 3) := by decide +kernel
theorem dX12_take_35 : decode cX12_take 35 = .ok (.aload_n 0, 1) := by decide +kernel
theorem dX12_take_36 : decode cX12_take 36 = .ok (.bipush 7, 2) := by decide +kernel
theorem dX12_take_38 : decode cX12_take 38 = .ok (.aload_n 0, 1) := by decide +kernel
theorem dX12_take_39 : decode cX12_take 39 = .ok (.getfield 126, 3) := by decide +kernel
theorem dX12_take_42 : decode cX12_take 42 = .ok (.iconst 1, 1) := by decide +kernel
theorem dX12_take_43 : decode cX12_take 43 = .ok (.iaload, 1) := by decide +kernel
theorem dX12_take_44 : decode cX12_take 44 = .ok (.invokevirtual 318, 3) := by decide +kernel
theorem dX12_take_47 : decode cX12_take 47 = .ok (.iconst 0, 1) := by decide +kernel
theorem dX12_take_48 : decode cX12_take 48 = .ok (.istore_n 2, 1) := by decide +kernel
theorem dX12_take_49 : decode cX12_take 49 = .ok (.iload_n 2, 1) := by decide +kernel
theorem dX12_take_50 : decode cX12_take 50 = .ok (.aload_n 0, 1) := by decide +kernel
theorem dX12_take_51 : decode cX12_take 51 = .ok (.getfield 13, 3) := by decide +kernel
theorem dX12_take_54 : decode cX12_take 54 = .ok (.if_icmp .ge 42, 3) := by decide +kernel
theorem dX12_take_57 : decode cX12_take 57 = .ok (.aload_n 0, 1) := by decide +kernel
theorem dX12_take_58 : decode cX12_take 58 = .ok (.iload_n 2, 1) := by decide +kernel
theorem dX12_take_59 : decode cX12_take 59 = .ok (.iconst 0, 1) := by decide +kernel
theorem dX12_take_60 : decode cX12_take 60 = .ok (.aload_n 0, 1) := by decide +kernel
theorem dX12_take_61 : decode cX12_take 61 = .ok (.getfield 126, 3) := by decide +kernel
theorem dX12_take_64 : decode cX12_take 64 = .ok (.iconst 2, 1) := by decide +kernel
theorem dX12_take_65 : decode cX12_take 65 = .ok (.iconst 2, 1) := by decide +kernel
theorem dX12_take_66 : decode cX12_take 66 = .ok (.iload_n 2, 1) := by decide +kernel
theorem dX12_take_67 : decode cX12_take 67 = .ok (.imul, 1) := by decide +kernel
theorem dX12_take_68 : decode cX12_take 68 = .ok (.iadd, 1) := by decide +kernel
theorem dX12_take_69 : decode cX12_take 69 = .ok (.iaload, 1) := by decide +kernel
theorem dX12_take_70 : decode cX12_take 70 = .ok (.invokevirtual 314, 3) := by decide +kernel
theorem dX12_take_73 : decode cX12_take 73 = .ok (.aload_n 0, 1) := by decide +kernel
theorem dX12_take_74 : decode cX12_take 74 = .ok (.iload_n 2, 1) := by decide +kernel
theorem dX12_take_75 : decode cX12_take 75 = .ok (.bipush 8, 2) := by decide +kernel
theorem dX12_take_77 : decode cX12_take 77 = .ok (.aload_n 0, 1) := by decide +kernel
theorem dX12_take_78 : decode cX12_take 78 = .ok (.getfield 126, 3) := by decide +kernel
theorem dX12_take_81 : decode cX12_take 81 = .ok (.iconst 3, 1) := by decide +kernel
theorem dX12_take_82 : decode cX12_take 82 = .ok (.iconst 2, 1) := by decide +kernel
theorem dX12_take_83 : decode cX12_take 83 = .ok (.iload_n 2, 1) := by decide +kernel
theorem dX12_take_84 : decode cX12_take 84 = .ok (.imul, 1) := by decide +kernel
theorem dX12_take_85 : decode cX12_take 85 = .ok (.iadd, 1) := by decide +kernel
theorem dX12_take_86 : decode cX12_take 86 = .ok (.iaload, 1) := by decide +kernel
theorem dX12_take_87 : decode cX12_take 87 = .ok (.invokevirtual 314, 3) := by decide +kernel
theorem dX12_take_90 : decode cX12_take 90 = .ok (.iinc 2 1, 3) := by decide +kernel
theorem dX12_take_93 : decode cX12_take 93 = .ok (.goto (-44), 3) := by decide +kernel
theorem dX12_take_96 : decode cX12_take 96 = .ok (.aload_n 0, 1) := by decide +kernel
theorem dX12_take_97 : decode cX12_take 97 = .ok (.iconst 0, 1) := by decide +kernel
theorem dX12_take_98 : decode cX12_take 98 = .ok (.putfield 178, 3) := by decide +kernel
theorem dX12_take_101 : decode cX12_take 101 = .ok (.iconst 1, 1) := by decide +kernel
theorem dX12_take_102 : decode cX12_take 102 = .ok (.ireturn, 1) := by decide +kernel
theorem dX12_status_0 : decode cX12_status 0 = .ok (.iload_n 1, 1) := by decide +kernel
theorem dX12_status_1 : decode cX12_status 1 = .ok (.iconst 0, 1) := by decide +kernel
theorem dX12_status_2 : decode cX12_status 2 = .ok (.iconst 5, 1) := by decide +kernel
theorem dX12_status_3 : decode cX12_status 3 = .ok (.invokestatic 262, 3) := by decide +kernel
theorem dX12_status_6 : decode cX12_status 6 = .ok (.ifCond .eq 12, 3) := by decide +kernel
theorem dX12_status_9 : decode cX12_status 9 = .ok (.aload_n 0, 1) := by decide +kernel
theorem dX12_status_10 : decode cX12_status 10 = .ok (.getfield 132, 3) := by decide +kernel
theorem dX12_status_13 : decode cX12_status 13 = .ok (.iload_n 1, 1) := by decide +kernel
theorem dX12_status_14 : decode cX12_status 14 = .ok (.iaload, 1) := by decide +kernel
theorem dX12_status_15 : decode cX12_status 15 = .ok (.goto 4, 3) := by decide +kernel
theorem dX12_status_18 : decode cX12_status 18 = .ok (.iconst (-1), 1) := by decide +kernel
theorem dX12_status_19 : decode cX12_status 19 = .ok (.ireturn, 1) := by decide +kernel
theorem dJxe99ae_isNaN_b9ae7_0 : decode cJxe99ae_isNaN_b9ae7 0 = .ok (.dload_n 0, 1) := by decide +kernel
theorem dJxe99ae_isNaN_b9ae7_1 : decode cJxe99ae_isNaN_b9ae7 1 = .ok (.dload_n 0, 1) := by decide +kernel
theorem dJxe99ae_isNaN_b9ae7_2 : decode cJxe99ae_isNaN_b9ae7 2 = .ok (.dcmp .l, 1) := by decide +kernel
theorem dJxe99ae_isNaN_b9ae7_3 : decode cJxe99ae_isNaN_b9ae7 3 = .ok (.ifCond .eq 7, 3) := by decide +kernel
theorem dJxe99ae_isNaN_b9ae7_6 : decode cJxe99ae_isNaN_b9ae7 6 = .ok (.iconst 1, 1) := by decide +kernel
theorem dJxe99ae_isNaN_b9ae7_7 : decode cJxe99ae_isNaN_b9ae7 7 = .ok (.goto 4, 3) := by decide +kernel
theorem dJxe99ae_isNaN_b9ae7_10 : decode cJxe99ae_isNaN_b9ae7 10 = .ok (.iconst 0, 1) := by decide +kernel
theorem dJxe99ae_isNaN_b9ae7_11 : decode cJxe99ae_isNaN_b9ae7 11 = .ok (.ireturn, 1) := by decide +kernel
theorem dJxe99ae_doubleToLongBits_ccdee_0 : decode cJxe99ae_doubleToLongBits_ccdee 0 = .ok (.dload_n 0, 1) := by decide +kernel
theorem dJxe99ae_doubleToLongBits_ccdee_1 : decode cJxe99ae_doubleToLongBits_ccdee 1 = .ok (.invokestatic 122, 3) := by decide +kernel
theorem dJxe99ae_doubleToLongBits_ccdee_4 : decode cJxe99ae_doubleToLongBits_ccdee 4 = .ok (.ifCond .ne 8, 3) := by decide +kernel
theorem dJxe99ae_doubleToLongBits_ccdee_7 : decode cJxe99ae_doubleToLongBits_ccdee 7 = .ok (.dload_n 0, 1) := by decide +kernel
theorem dJxe99ae_doubleToLongBits_ccdee_8 : decode cJxe99ae_doubleToLongBits_ccdee 8 = .ok (.invokestatic 134, 3) := by decide +kernel
theorem dJxe99ae_doubleToLongBits_ccdee_11 : decode cJxe99ae_doubleToLongBits_ccdee 11 = .ok (.lreturn, 1) := by decide +kernel
theorem dJxe99ae_doubleToLongBits_ccdee_12 : decode cJxe99ae_doubleToLongBits_ccdee 12 = .ok (.ldc2_w 137, 3) := by decide +kernel
theorem dJxe99ae_doubleToLongBits_ccdee_15 : decode cJxe99ae_doubleToLongBits_ccdee 15 = .ok (.lreturn, 1) := by decide +kernel
theorem dJxf58ca_isNaN_12338_0 : decode cJxf58ca_isNaN_12338 0 = .ok (.fload_n 0, 1) := by decide +kernel
theorem dJxf58ca_isNaN_12338_1 : decode cJxf58ca_isNaN_12338 1 = .ok (.fload_n 0, 1) := by decide +kernel
theorem dJxf58ca_isNaN_12338_2 : decode cJxf58ca_isNaN_12338 2 = .ok (.fcmp .l, 1) := by decide +kernel
theorem dJxf58ca_isNaN_12338_3 : decode cJxf58ca_isNaN_12338 3 = .ok (.ifCond .eq 7, 3) := by decide +kernel
theorem dJxf58ca_isNaN_12338_6 : decode cJxf58ca_isNaN_12338 6 = .ok (.iconst 1, 1) := by decide +kernel
theorem dJxf58ca_isNaN_12338_7 : decode cJxf58ca_isNaN_12338 7 = .ok (.goto 4, 3) := by decide +kernel
theorem dJxf58ca_isNaN_12338_10 : decode cJxf58ca_isNaN_12338 10 = .ok (.iconst 0, 1) := by decide +kernel
theorem dJxf58ca_isNaN_12338_11 : decode cJxf58ca_isNaN_12338 11 = .ok (.ireturn, 1) := by decide +kernel
theorem dJxf58ca_floatToIntBits_5c35a_0 : decode cJxf58ca_floatToIntBits_5c35a 0 = .ok (.fload_n 0, 1) := by decide +kernel
theorem dJxf58ca_floatToIntBits_5c35a_1 : decode cJxf58ca_floatToIntBits_5c35a 1 = .ok (.invokestatic 59, 3) := by decide +kernel
theorem dJxf58ca_floatToIntBits_5c35a_4 : decode cJxf58ca_floatToIntBits_5c35a 4 = .ok (.ifCond .ne 8, 3) := by decide +kernel
theorem dJxf58ca_floatToIntBits_5c35a_7 : decode cJxf58ca_floatToIntBits_5c35a 7 = .ok (.fload_n 0, 1) := by decide +kernel
theorem dJxf58ca_floatToIntBits_5c35a_8 : decode cJxf58ca_floatToIntBits_5c35a 8 = .ok (.invokestatic 74, 3) := by decide +kernel
theorem dJxf58ca_floatToIntBits_5c35a_11 : decode cJxf58ca_floatToIntBits_5c35a 11 = .ok (.ireturn, 1) := by decide +kernel
theorem dJxf58ca_floatToIntBits_5c35a_12 : decode cJxf58ca_floatToIntBits_5c35a 12 = .ok (.ldc 77, 2) := by decide +kernel
theorem dJxf58ca_floatToIntBits_5c35a_14 : decode cJxf58ca_floatToIntBits_5c35a 14 = .ok (.ireturn, 1) := by decide +kernel
theorem dJ6_bitCount_0f7a4_0 : decode cJ6_bitCount_0f7a4 0 = .ok (.iload_n 0, 1) := by decide +kernel
theorem dJ6_bitCount_0f7a4_1 : decode cJ6_bitCount_0f7a4 1 = .ok (.iload_n 0, 1) := by decide +kernel
theorem dJ6_bitCount_0f7a4_2 : decode cJ6_bitCount_0f7a4 2 = .ok (.iconst 1, 1) := by decide +kernel
theorem dJ6_bitCount_0f7a4_3 : decode cJ6_bitCount_0f7a4 3 = .ok (.iushr, 1) := by decide +kernel
theorem dJ6_bitCount_0f7a4_4 : decode cJ6_bitCount_0f7a4 4 = .ok (.ldc_w 265, 3) := by decide +kernel
theorem dJ6_bitCount_0f7a4_7 : decode cJ6_bitCount_0f7a4 7 = .ok (.iand, 1) := by decide +kernel
theorem dJ6_bitCount_0f7a4_8 : decode cJ6_bitCount_0f7a4 8 = .ok (.isub, 1) := by decide +kernel
theorem dJ6_bitCount_0f7a4_9 : decode cJ6_bitCount_0f7a4 9 = .ok (.istore_n 0, 1) := by decide +kernel
theorem dJ6_bitCount_0f7a4_10 : decode cJ6_bitCount_0f7a4 10 = .ok (.iload_n 0, 1) := by decide +kernel
theorem dJ6_bitCount_0f7a4_11 : decode cJ6_bitCount_0f7a4 11 = .ok (.ldc_w 266, 3) := by decide +kernel
theorem dJ6_bitCount_0f7a4_14 : decode cJ6_bitCount_0f7a4 14 = .ok (.iand, 1) := by decide +kernel
theorem dJ6_bitCount_0f7a4_15 : decode cJ6_bitCount_0f7a4 15 = .ok (.iload_n 0, 1) := by decide +kernel
theorem dJ6_bitCount_0f7a4_16 : decode cJ6_bitCount_0f7a4 16 = .ok (.iconst 2, 1) := by decide +kernel
theorem dJ6_bitCount_0f7a4_17 : decode cJ6_bitCount_0f7a4 17 = .ok (.iushr, 1) := by decide +kernel
theorem dJ6_bitCount_0f7a4_18 : decode cJ6_bitCount_0f7a4 18 = .ok (.ldc_w 266, 3) := by decide +kernel
theorem dJ6_bitCount_0f7a4_21 : decode cJ6_bitCount_0f7a4 21 = .ok (.iand, 1) := by decide +kernel
theorem dJ6_bitCount_0f7a4_22 : decode cJ6_bitCount_0f7a4 22 = .ok (.iadd, 1) := by decide +kernel
theorem dJ6_bitCount_0f7a4_23 : decode cJ6_bitCount_0f7a4 23 = .ok (.istore_n 0, 1) := by decide +kernel
theorem dJ6_bitCount_0f7a4_24 : decode cJ6_bitCount_0f7a4 24 = .ok (.iload_n 0, 1) := by decide +kernel
theorem dJ6_bitCount_0f7a4_25 : decode cJ6_bitCount_0f7a4 25 = .ok (.iload_n 0, 1) := by decide +kernel
theorem dJ6_bitCount_0f7a4_26 : decode cJ6_bitCount_0f7a4 26 = .ok (.iconst 4, 1) := by decide +kernel
theorem dJ6_bitCount_0f7a4_27 : decode cJ6_bitCount_0f7a4 27 = .ok (.iushr, 1) := by decide +kernel
theorem dJ6_bitCount_0f7a4_28 : decode cJ6_bitCount_0f7a4 28 = .ok (.iadd, 1) := by decide +kernel
theorem dJ6_bitCount_0f7a4_29 : decode cJ6_bitCount_0f7a4 29 = .ok (.ldc_w 267, 3) := by decide +kernel
theorem dJ6_bitCount_0f7a4_32 : decode cJ6_bitCount_0f7a4 32 = .ok (.iand, 1) := by decide +kernel
theorem dJ6_bitCount_0f7a4_33 : decode cJ6_bitCount_0f7a4 33 = .ok (.istore_n 0, 1) := by decide +kernel
theorem dJ6_bitCount_0f7a4_34 : decode cJ6_bitCount_0f7a4 34 = .ok (.iload_n 0, 1) := by decide +kernel
theorem dJ6_bitCount_0f7a4_35 : decode cJ6_bitCount_0f7a4 35 = .ok (.iload_n 0, 1) := by decide +kernel
theorem dJ6_bitCount_0f7a4_36 : decode cJ6_bitCount_0f7a4 36 = .ok (.bipush 8, 2) := by decide +kernel
theorem dJ6_bitCount_0f7a4_38 : decode cJ6_bitCount_0f7a4 38 = .ok (.iushr, 1) := by decide +kernel
theorem dJ6_bitCount_0f7a4_39 : decode cJ6_bitCount_0f7a4 39 = .ok (.iadd, 1) := by decide +kernel
theorem dJ6_bitCount_0f7a4_40 : decode cJ6_bitCount_0f7a4 40 = .ok (.istore_n 0, 1) := by decide +kernel
theorem dJ6_bitCount_0f7a4_41 : decode cJ6_bitCount_0f7a4 41 = .ok (.iload_n 0, 1) := by decide +kernel
theorem dJ6_bitCount_0f7a4_42 : decode cJ6_bitCount_0f7a4 42 = .ok (.iload_n 0, 1) := by decide +kernel
theorem dJ6_bitCount_0f7a4_43 : decode cJ6_bitCount_0f7a4 43 = .ok (.bipush 16, 2) := by decide +kernel
theorem dJ6_bitCount_0f7a4_45 : decode cJ6_bitCount_0f7a4 45 = .ok (.iushr, 1) := by decide +kernel
theorem dJ6_bitCount_0f7a4_46 : decode cJ6_bitCount_0f7a4 46 = .ok (.iadd, 1) := by decide +kernel
theorem dJ6_bitCount_0f7a4_47 : decode cJ6_bitCount_0f7a4 47 = .ok (.istore_n 0, 1) := by decide +kernel
theorem dJ6_bitCount_0f7a4_48 : decode cJ6_bitCount_0f7a4 48 = .ok (.iload_n 0, 1) := by decide +kernel
theorem dJ6_bitCount_0f7a4_49 : decode cJ6_bitCount_0f7a4 49 = .ok (.bipush 63, 2) := by decide +kernel
theorem dJ6_bitCount_0f7a4_51 : decode cJ6_bitCount_0f7a4 51 = .ok (.iand, 1) := by decide +kernel
theorem dJ6_bitCount_0f7a4_52 : decode cJ6_bitCount_0f7a4 52 = .ok (.ireturn, 1) := by decide +kernel
theorem dJ9_abs_0f7a4_0 : decode cJ9_abs_0f7a4 0 = .ok (.iload_n 0, 1) := by decide +kernel
theorem dJ9_abs_0f7a4_1 : decode cJ9_abs_0f7a4 1 = .ok (.ifCond .ge 8, 3) := by decide +kernel
theorem dJ9_abs_0f7a4_4 : decode cJ9_abs_0f7a4 4 = .ok (.iload_n 0, 1) := by decide +kernel
theorem dJ9_abs_0f7a4_5 : decode cJ9_abs_0f7a4 5 = .ok (.ineg, 1) := by decide +kernel
theorem dJ9_abs_0f7a4_6 : decode cJ9_abs_0f7a4 6 = .ok (.goto 4, 3) := by decide +kernel
theorem dJ9_abs_0f7a4_9 : decode cJ9_abs_0f7a4 9 = .ok (.iload_n 0, 1) := by decide +kernel
theorem dJ9_abs_0f7a4_10 : decode cJ9_abs_0f7a4 10 = .ok (.ireturn, 1) := by decide +kernel
theorem dJ9_max_7cf53_0 : decode cJ9_max_7cf53 0 = .ok (.iload_n 0, 1) := by decide +kernel
theorem dJ9_max_7cf53_1 : decode cJ9_max_7cf53 1 = .ok (.iload_n 1, 1) := by decide +kernel
theorem dJ9_max_7cf53_2 : decode cJ9_max_7cf53 2 = .ok (.if_icmp .lt 7, 3) := by decide +kernel
theorem dJ9_max_7cf53_5 : decode cJ9_max_7cf53 5 = .ok (.iload_n 0, 1) := by decide +kernel
theorem dJ9_max_7cf53_6 : decode cJ9_max_7cf53 6 = .ok (.goto 4, 3) := by decide +kernel
theorem dJ9_max_7cf53_9 : decode cJ9_max_7cf53 9 = .ok (.iload_n 1, 1) := by decide +kernel
theorem dJ9_max_7cf53_10 : decode cJ9_max_7cf53 10 = .ok (.ireturn, 1) := by decide +kernel
theorem dJ9_min_7cf53_0 : decode cJ9_min_7cf53 0 = .ok (.iload_n 0, 1) := by decide +kernel
theorem dJ9_min_7cf53_1 : decode cJ9_min_7cf53 1 = .ok (.iload_n 1, 1) := by decide +kernel
theorem dJ9_min_7cf53_2 : decode cJ9_min_7cf53 2 = .ok (.if_icmp .gt 7, 3) := by decide +kernel
theorem dJ9_min_7cf53_5 : decode cJ9_min_7cf53 5 = .ok (.iload_n 0, 1) := by decide +kernel
theorem dJ9_min_7cf53_6 : decode cJ9_min_7cf53 6 = .ok (.goto 4, 3) := by decide +kernel
theorem dJ9_min_7cf53_9 : decode cJ9_min_7cf53 9 = .ok (.iload_n 1, 1) := by decide +kernel
theorem dJ9_min_7cf53_10 : decode cJ9_min_7cf53 10 = .ok (.ireturn, 1) := by decide +kernel
theorem dJ0_length_8abf5_0 : decode cJ0_length_8abf5 0 = .ok (.aload_n 0, 1) := by decide +kernel
theorem dJ0_length_8abf5_1 : decode cJ0_length_8abf5 1 = .ok (.getfield 9, 3) := by decide +kernel
theorem dJ0_length_8abf5_4 : decode cJ0_length_8abf5 4 = .ok (.arraylength, 1) := by decide +kernel
theorem dJ0_length_8abf5_5 : decode cJ0_length_8abf5 5 = .ok (.aload_n 0, 1) := by decide +kernel
theorem dJ0_length_8abf5_6 : decode cJ0_length_8abf5 6 = .ok (.invokevirtual 335, 3) := by decide +kernel
theorem dJ0_length_8abf5_9 : decode cJ0_length_8abf5 9 = .ok (.ishr, 1) := by decide +kernel
theorem dJ0_length_8abf5_10 : decode cJ0_length_8abf5 10 = .ok (.ireturn, 1) := by decide +kernel
theorem dJ0_charAt_5068e_0 : decode cJ0_charAt_5068e 0 = .ok (.aload_n 0, 1) := by decide +kernel
theorem dJ0_charAt_5068e_1 : decode cJ0_charAt_5068e 1 = .ok (.invokevirtual 492, 3) := by decide +kernel
theorem dJ0_charAt_5068e_4 : decode cJ0_charAt_5068e 4 = .ok (.ifCond .eq 12, 3) := by decide +kernel
theorem dJ0_charAt_5068e_7 : decode cJ0_charAt_5068e 7 = .ok (.aload_n 0, 1) := by decide +kernel
theorem dJ0_charAt_5068e_8 : decode cJ0_charAt_5068e 8 = .ok (.getfield 9, 3) := by decide +kernel
theorem dJ0_charAt_5068e_11 : decode cJ0_charAt_5068e 11 = .ok (.iload_n 1, 1) := by decide +kernel
theorem dJ0_charAt_5068e_12 : decode cJ0_charAt_5068e 12 = .ok (.invokestatic 495, 3) := by decide +kernel
theorem dJ0_charAt_5068e_15 : decode cJ0_charAt_5068e 15 = .ok (.ireturn, 1) := by decide +kernel
theorem dJ0_charAt_5068e_16 : decode cJ0_charAt_5068e 16 = .ok (.aload_n 0, 1) := by decide +kernel
theorem dJ0_charAt_5068e_17 : decode cJ0_charAt_5068e 17 = .ok (.getfield 9, 3) := by decide +kernel
theorem dJ0_charAt_5068e_20 : decode cJ0_charAt_5068e 20 = .ok (.iload_n 1, 1) := by decide +kernel
theorem dJ0_charAt_5068e_21 : decode cJ0_charAt_5068e 21 = .ok (.invokestatic 498, 3) := by decide +kernel
theorem dJ0_charAt_5068e_24 : decode cJ0_charAt_5068e 24 = .ok (.ireturn, 1) := by decide +kernel
theorem dJ0_coder_7d493_0 : decode cJ0_coder_7d493 0 = .ok (.getstatic 38, 3) := by decide +kernel
theorem dJ0_coder_7d493_3 : decode cJ0_coder_7d493 3 = .ok (.ifCond .eq 10, 3) := by decide +kernel
theorem dJ0_coder_7d493_6 : decode cJ0_coder_7d493 6 = .ok (.aload_n 0, 1) := by decide +kernel
theorem dJ0_coder_7d493_7 : decode cJ0_coder_7d493 7 = .ok (.getfield 15, 3) := by decide +kernel
theorem dJ0_coder_7d493_10 : decode cJ0_coder_7d493 10 = .ok (.goto 4, 3) := by decide +kernel
theorem dJ0_coder_7d493_13 : decode cJ0_coder_7d493 13 = .ok (.iconst 1, 1) := by decide +kernel
theorem dJ0_coder_7d493_14 : decode cJ0_coder_7d493 14 = .ok (.ireturn, 1) := by decide +kernel
theorem dJ0_isLatin1_aae02_0 : decode cJ0_isLatin1_aae02 0 = .ok (.getstatic 38, 3) := by decide +kernel
theorem dJ0_isLatin1_aae02_3 : decode cJ0_isLatin1_aae02 3 = .ok (.ifCond .eq 14, 3) := by decide +kernel
theorem dJ0_isLatin1_aae02_6 : decode cJ0_isLatin1_aae02 6 = .ok (.aload_n 0, 1) := by decide +kernel
theorem dJ0_isLatin1_aae02_7 : decode cJ0_isLatin1_aae02 7 = .ok (.getfield 15, 3) := by decide +kernel
theorem dJ0_isLatin1_aae02_10 : decode cJ0_isLatin1_aae02 10 = .ok (.ifCond .ne 7, 3) := by decide +kernel
theorem dJ0_isLatin1_aae02_13 : decode cJ0_isLatin1_aae02 13 = .ok (.iconst 1, 1) := by decide +kernel
theorem dJ0_isLatin1_aae02_14 : decode cJ0_isLatin1_aae02 14 = .ok (.goto 4, 3) := by decide +kernel
theorem dJ0_isLatin1_aae02_17 : decode cJ0_isLatin1_aae02 17 = .ok (.iconst 0, 1) := by decide +kernel
theorem dJ0_isLatin1_aae02_18 : decode cJ0_isLatin1_aae02 18 = .ok (.ireturn, 1) := by decide +kernel
theorem dJ0_checkIndex_df160_0 : decode cJ0_checkIndex_df160 0 = .ok (.iload_n 0, 1) := by decide +kernel
theorem dJ0_checkIndex_df160_1 : decode cJ0_checkIndex_df160 1 = .ok (.iload_n 1, 1) := by decide +kernel
theorem dJ0_checkIndex_df160_2 : decode cJ0_checkIndex_df160 2 = .ok (.getstatic 1053, 3) := by decide +kernel
theorem dJ0_checkIndex_df160_5 : decode cJ0_checkIndex_df160 5 = .ok (.invokestatic 1059, 3) := by decide +kernel
theorem dJ0_checkIndex_df160_8 : decode cJ0_checkIndex_df160 8 = .ok (.pop, 1) := by decide +kernel
theorem dJ0_checkIndex_df160_9 : decode cJ0_checkIndex_df160 9 = .ok (.return_, 1) := by decide +kernel
theorem dJ1_charAt_3b067_0 : decode cJ1_charAt_3b067 0 = .ok (.iload_n 1, 1) := by decide +kernel
theorem dJ1_charAt_3b067_1 : decode cJ1_charAt_3b067 1 = .ok (.aload_n 0, 1) := by decide +kernel
theorem dJ1_charAt_3b067_2 : decode cJ1_charAt_3b067 2 = .ok (.arraylength, 1) := by decide +kernel
theorem dJ1_charAt_3b067_3 : decode cJ1_charAt_3b067 3 = .ok (.invokestatic 9, 3) := by decide +kernel
theorem dJ1_charAt_3b067_6 : decode cJ1_charAt_3b067 6 = .ok (.aload_n 0, 1) := by decide +kernel
theorem dJ1_charAt_3b067_7 : decode cJ1_charAt_3b067 7 = .ok (.iload_n 1, 1) := by decide +kernel
theorem dJ1_charAt_3b067_8 : decode cJ1_charAt_3b067 8 = .ok (.baload, 1) := by decide +kernel
theorem dJ1_charAt_3b067_9 : decode cJ1_charAt_3b067 9 = .ok (.sipush 255, 3) := by decide +kernel
theorem dJ1_charAt_3b067_12 : decode cJ1_charAt_3b067 12 = .ok (.iand, 1) := by decide +kernel
theorem dJ1_charAt_3b067_13 : decode cJ1_charAt_3b067 13 = .ok (.i2c, 1) := by decide +kernel
theorem dJ1_charAt_3b067_14 : decode cJ1_charAt_3b067 14 = .ok (.ireturn, 1) := by decide +kernel
theorem dJ2_getChar_3b067_0 : decode cJ2_getChar_3b067 0 = .ok (.getstatic 44, 3) := by decide +kernel
theorem dJ2_getChar_3b067_3 : decode cJ2_getChar_3b067 3 = .ok (.ifCond .ne 25, 3) := by decide +kernel
theorem dJ2_getChar_3b067_6 : decode cJ2_getChar_3b067 6 = .ok (.iload_n 1, 1) := by decide +kernel
theorem dJ2_getChar_3b067_7 : decode cJ2_getChar_3b067 7 = .ok (.ifCond .lt 11, 3) := by decide +kernel
theorem dJ2_getChar_3b067_10 : decode cJ2_getChar_3b067 10 = .ok (.iload_n 1, 1) := by decide +kernel
theorem dJ2_getChar_3b067_11 : decode cJ2_getChar_3b067 11 = .ok (.aload_n 0, 1) := by decide +kernel
theorem dJ2_getChar_3b067_12 : decode cJ2_getChar_3b067 12 = .ok (.invokestatic 48, 3) := by decide +kernel
theorem dJ2_getChar_3b067_15 : decode cJ2_getChar_3b067 15 = .ok (.if_icmp .lt 13, 3) := by decide +kernel
theorem dJ2_getChar_3b067_18 : decode cJ2_getChar_3b067 18 = .ok (.new 52, 3) := by decide +kernel
theorem dJ2_getChar_3b067_21 : decode cJ2_getChar_3b067 21 = .ok (.dup, 1) := by decide +kernel
theorem dJ2_getChar_3b067_22 : decode cJ2_getChar_3b067 22 = .ok (.ldc 54, 2) := by decide +kernel
theorem dJ2_getChar_3b067_24 : decode cJ2_getChar_3b067 24 = .ok (.invokespecial 56, 3) := by decide +kernel
theorem dJ2_getChar_3b067_27 : decode cJ2_getChar_3b067 27 = .ok (.athrow, 1) := by decide +kernel
theorem dJ2_getChar_3b067_28 : decode cJ2_getChar_3b067 28 = .ok (.iload_n 1, 1) := by decide +kernel
theorem dJ2_getChar_3b067_29 : decode cJ2_getChar_3b067 29 = .ok (.iconst 1, 1) := by decide +kernel
theorem dJ2_getChar_3b067_30 : decode cJ2_getChar_3b067 30 = .ok (.ishl, 1) := by decide +kernel
theorem dJ2_getChar_3b067_31 : decode cJ2_getChar_3b067 31 = .ok (.istore_n 1, 1) := by decide +kernel
theorem dJ2_getChar_3b067_32 : decode cJ2_getChar_3b067 32 = .ok (.aload_n 0, 1) := by decide +kernel
theorem dJ2_getChar_3b067_33 : decode cJ2_getChar_3b067 33 = .ok (.iload_n 1, 1) := by decide +kernel
theorem dJ2_getChar_3b067_34 : decode cJ2_getChar_3b067 34 = .ok (.iinc 1 1, 3) := by decide +kernel
theorem dJ2_getChar_3b067_37 : decode cJ2_getChar_3b067 37 = .ok (.baload, 1) := by decide +kernel
theorem dJ2_getChar_3b067_38 : decode cJ2_getChar_3b067 38 = .ok (.sipush 255, 3) := by decide +kernel
theorem dJ2_getChar_3b067_41 : decode cJ2_getChar_3b067 41 = .ok (.iand, 1) := by decide +kernel
theorem dJ2_getChar_3b067_42 : decode cJ2_getChar_3b067 42 = .ok (.getstatic 59, 3) := by decide +kernel
theorem dJ2_getChar_3b067_45 : decode cJ2_getChar_3b067 45 = .ok (.ishl, 1) := by decide +kernel
theorem dJ2_getChar_3b067_46 : decode cJ2_getChar_3b067 46 = .ok (.aload_n 0, 1) := by decide +kernel
theorem dJ2_getChar_3b067_47 : decode cJ2_getChar_3b067 47 = .ok (.iload_n 1, 1) := by decide +kernel
theorem dJ2_getChar_3b067_48 : decode cJ2_getChar_3b067 48 = .ok (.baload, 1) := by decide +kernel
theorem dJ2_getChar_3b067_49 : decode cJ2_getChar_3b067 49 = .ok (.sipush 255, 3) := by decide +kernel
theorem dJ2_getChar_3b067_52 : decode cJ2_getChar_3b067 52 = .ok (.iand, 1) := by decide +kernel
theorem dJ2_getChar_3b067_53 : decode cJ2_getChar_3b067 53 = .ok (.getstatic 63, 3) := by decide +kernel
theorem dJ2_getChar_3b067_56 : decode cJ2_getChar_3b067 56 = .ok (.ishl, 1) := by decide +kernel
theorem dJ2_getChar_3b067_57 : decode cJ2_getChar_3b067 57 = .ok (.ior, 1) := by decide +kernel
theorem dJ2_getChar_3b067_58 : decode cJ2_getChar_3b067 58 = .ok (.i2c, 1) := by decide +kernel
theorem dJ2_getChar_3b067_59 : decode cJ2_getChar_3b067 59 = .ok (.ireturn, 1) := by decide +kernel
theorem dJ2_length_9d52b_0 : decode cJ2_length_9d52b 0 = .ok (.aload_n 0, 1) := by decide +kernel
theorem dJ2_length_9d52b_1 : decode cJ2_length_9d52b 1 = .ok (.arraylength, 1) := by decide +kernel
theorem dJ2_length_9d52b_2 : decode cJ2_length_9d52b 2 = .ok (.iconst 1, 1) := by decide +kernel
theorem dJ2_length_9d52b_3 : decode cJ2_length_9d52b 3 = .ok (.ishr, 1) := by decide +kernel
theorem dJ2_length_9d52b_4 : decode cJ2_length_9d52b 4 = .ok (.ireturn, 1) := by decide +kernel
theorem dJ2_charAt_3b067_0 : decode cJ2_charAt_3b067 0 = .ok (.iload_n 1, 1) := by decide +kernel
theorem dJ2_charAt_3b067_1 : decode cJ2_charAt_3b067 1 = .ok (.aload_n 0, 1) := by decide +kernel
theorem dJ2_charAt_3b067_2 : decode cJ2_charAt_3b067 2 = .ok (.invokestatic 67, 3) := by decide +kernel
theorem dJ2_charAt_3b067_5 : decode cJ2_charAt_3b067 5 = .ok (.aload_n 0, 1) := by decide +kernel
theorem dJ2_charAt_3b067_6 : decode cJ2_charAt_3b067 6 = .ok (.iload_n 1, 1) := by decide +kernel
theorem dJ2_charAt_3b067_7 : decode cJ2_charAt_3b067 7 = .ok (.invokestatic 71, 3) := by decide +kernel
theorem dJ2_charAt_3b067_10 : decode cJ2_charAt_3b067 10 = .ok (.ireturn, 1) := by decide +kernel
theorem dJ2_checkIndex_2214a_0 : decode cJ2_checkIndex_2214a 0 = .ok (.iload_n 0, 1) := by decide +kernel
theorem dJ2_checkIndex_2214a_1 : decode cJ2_checkIndex_2214a 1 = .ok (.aload_n 1, 1) := by decide +kernel
theorem dJ2_checkIndex_2214a_2 : decode cJ2_checkIndex_2214a 2 = .ok (.invokestatic 48, 3) := by decide +kernel
theorem dJ2_checkIndex_2214a_5 : decode cJ2_checkIndex_2214a 5 = .ok (.invokestatic 414, 3) := by decide +kernel
theorem dJ2_checkIndex_2214a_8 : decode cJ2_checkIndex_2214a 8 = .ok (.return_, 1) := by decide +kernel
theorem dJ3_checkIndex_8e157_0 : decode cJ3_checkIndex_8e157 0 = .ok (.iload_n 0, 1) := by decide +kernel
theorem dJ3_checkIndex_8e157_1 : decode cJ3_checkIndex_8e157 1 = .ok (.ifCond .lt 8, 3) := by decide +kernel
theorem dJ3_checkIndex_8e157_4 : decode cJ3_checkIndex_8e157 4 = .ok (.iload_n 0, 1) := by decide +kernel
theorem dJ3_checkIndex_8e157_5 : decode cJ3_checkIndex_8e157 5 = .ok (.iload_n 1, 1) := by decide +kernel
theorem dJ3_checkIndex_8e157_6 : decode cJ3_checkIndex_8e157 6 = .ok (.if_icmp .lt 10, 3) := by decide +kernel
theorem dJ3_checkIndex_8e157_9 : decode cJ3_checkIndex_8e157 9 = .ok (.aload_n 2, 1) := by decide +kernel
theorem dJ3_checkIndex_8e157_10 : decode cJ3_checkIndex_8e157 10 = .ok (.iload_n 0, 1) := by decide +kernel
theorem dJ3_checkIndex_8e157_11 : decode cJ3_checkIndex_8e157 11 = .ok (.iload_n 1, 1) := by decide +kernel
theorem dJ3_checkIndex_8e157_12 : decode cJ3_checkIndex_8e157 12 = .ok (.invokestatic 95, 3) := by decide +kernel
theorem dJ3_checkIndex_8e157_15 : decode cJ3_checkIndex_8e157 15 = .ok (.athrow, 1) := by decide +kernel
theorem dJ3_checkIndex_8e157_16 : decode cJ3_checkIndex_8e157 16 = .ok (.iload_n 0, 1) := by decide +kernel
theorem dJ3_checkIndex_8e157_17 : decode cJ3_checkIndex_8e157 17 = .ok (.ireturn, 1) := by decide +kernel
