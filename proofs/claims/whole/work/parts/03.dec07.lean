theorem dX9_init_0 : decode cX9_init 0 = .ok (.aload_n 0, 1) := by decide +kernel
theorem dX9_init_1 : decode cX9_init 1 = .ok (.invokespecial 3, 3) := by decide +kernel
theorem dX9_init_4 : decode cX9_init 4 = .ok (.aload_n 0, 1) := by decide +kernel
theorem dX9_init_5 : decode cX9_init 5 = .ok (.sipush 1600, 3) := by decide +kernel
theorem dX9_init_8 : decode cX9_init 8 = .ok (.newarray .int, 2) := by decide +kernel
theorem dX9_init_10 : decode cX9_init 10 = .ok (.putfield 9, 3) := by decide +kernel
theorem dX9_init_13 : decode cX9_init 13 = .ok (.aload_n 0, 1) := by decide +kernel
theorem dX9_init_14 : decode cX9_init 14 = .ok (.iconst 0, 1) := by decide +kernel
theorem dX9_init_15 : decode cX9_init 15 = .ok (.putfield 15, 3) := by decide +kernel
theorem dX9_init_18 : decode cX9_init 18 = .ok (.return_, 1) := by decide +kernel
theorem dX9_addNumber_0 : decode cX9_addNumber 0 = .ok (.bipush 24, 2) := by decide +kernel
theorem dX9_addNumber_2 : decode cX9_addNumber 2 = .ok (.istore_n 2, 1) := by decide +kernel
theorem dX9_addNumber_3 : decode cX9_addNumber 3 = .ok (.iload_n 2, 1) := by decide +kernel
theorem dX9_addNumber_4 : decode cX9_addNumber 4 = .ok (.ifCond .lt 45, 3) := by decide +kernel
theorem dX9_addNumber_7 : decode cX9_addNumber 7 = .ok (.aload_n 0, 1) := by decide +kernel
theorem dX9_addNumber_8 : decode cX9_addNumber 8 = .ok (.getfield 15, 3) := by decide +kernel
theorem dX9_addNumber_11 : decode cX9_addNumber 11 = .ok (.sipush 1600, 3) := by decide +kernel
theorem dX9_addNumber_14 : decode cX9_addNumber 14 = .ok (.if_icmp .ge 29, 3) := by decide +kernel
theorem dX9_addNumber_17 : decode cX9_addNumber 17 = .ok (.aload_n 0, 1) := by decide +kernel
theorem dX9_addNumber_18 : decode cX9_addNumber 18 = .ok (.getfield 9, 3) := by decide +kernel
theorem dX9_addNumber_21 : decode cX9_addNumber 21 = .ok (.aload_n 0, 1) := by decide +kernel
theorem dX9_addNumber_22 : decode cX9_addNumber 22 = .ok (.getfield 15, 3) := by decide +kernel
theorem dX9_addNumber_25 : decode cX9_addNumber 25 = .ok (.iload_n 1, 1) := by decide +kernel
theorem dX9_addNumber_26 : decode cX9_addNumber 26 = .ok (.iload_n 2, 1) := by decide +kernel
theorem dX9_addNumber_27 : decode cX9_addNumber 27 = .ok (.iushr, 1) := by decide +kernel
theorem dX9_addNumber_28 : decode cX9_addNumber 28 = .ok (.sipush 255, 3) := by decide +kernel
theorem dX9_addNumber_31 : decode cX9_addNumber 31 = .ok (.iand, 1) := by decide +kernel
theorem dX9_addNumber_32 : decode cX9_addNumber 32 = .ok (.iastore, 1) := by decide +kernel
theorem dX9_addNumber_33 : decode cX9_addNumber 33 = .ok (.aload_n 0, 1) := by decide +kernel
theorem dX9_addNumber_34 : decode cX9_addNumber 34 = .ok (.dup, 1) := by decide +kernel
theorem dX9_addNumber_35 : decode cX9_addNumber 35 = .ok (.getfield 15, 3) := by decide +kernel
theorem dX9_addNumber_38 : decode cX9_addNumber 38 = .ok (.iconst 1, 1) := by decide +kernel
theorem dX9_addNumber_39 : decode cX9_addNumber 39 = .ok (.iadd, 1) := by decide +kernel
theorem dX9_addNumber_40 : decode cX9_addNumber 40 = .ok (.putfield 15, 3) := by decide +kernel
theorem dX9_addNumber_43 : decode cX9_addNumber 43 = .ok (.iinc 2 (-8), 3) := by decide +kernel
theorem dX9_addNumber_46 : decode cX9_addNumber 46 = .ok (.goto (-43), 3) := by decide +kernel
theorem dX9_addNumber_49 : decode cX9_addNumber 49 = .ok (.return_, 1) := by decide +kernel
theorem dX9_byteAt_0 : decode cX9_byteAt 0 = .ok (.iload_n 1, 1) := by decide +kernel
theorem dX9_byteAt_1 : decode cX9_byteAt 1 = .ok (.ifCond .lt 11, 3) := by decide +kernel
theorem dX9_byteAt_4 : decode cX9_byteAt 4 = .ok (.iload_n 1, 1) := by decide +kernel
theorem dX9_byteAt_5 : decode cX9_byteAt 5 = .ok (.aload_n 0, 1) := by decide +kernel
theorem dX9_byteAt_6 : decode cX9_byteAt 6 = .ok (.getfield 15, 3) := by decide +kernel
theorem dX9_byteAt_9 : decode cX9_byteAt 9 = .ok (.if_icmp .lt 7, 3) := by decide +kernel
theorem dX9_byteAt_12 : decode cX9_byteAt 12 = .ok (.iconst (-1), 1) := by decide +kernel
theorem dX9_byteAt_13 : decode cX9_byteAt 13 = .ok (.goto 9, 3) := by decide +kernel
theorem dX9_byteAt_16 : decode cX9_byteAt 16 = .ok (.aload_n 0, 1) := by decide +kernel
theorem dX9_byteAt_17 : decode cX9_byteAt 17 = .ok (.getfield 9, 3) := by decide +kernel
theorem dX9_byteAt_20 : decode cX9_byteAt 20 = .ok (.iload_n 1, 1) := by decide +kernel
theorem dX9_byteAt_21 : decode cX9_byteAt 21 = .ok (.iaload, 1) := by decide +kernel
theorem dX9_byteAt_22 : decode cX9_byteAt 22 = .ok (.ireturn, 1) := by decide +kernel
theorem dX9_isLetter_0 : decode cX9_isLetter 0 = .ok (.aload_n 0, 1) := by decide +kernel
theorem dX9_isLetter_1 : decode cX9_isLetter 1 = .ok (.iload_n 1, 1) := by decide +kernel
theorem dX9_isLetter_2 : decode cX9_isLetter 2 = .ok (.invokevirtual 19, 3) := by decide +kernel
theorem dX9_isLetter_5 : decode cX9_isLetter 5 = .ok (.istore_n 2, 1) := by decide +kernel
theorem dX9_isLetter_6 : decode cX9_isLetter 6 = .ok (.iload_n 2, 1) := by decide +kernel
theorem dX9_isLetter_7 : decode cX9_isLetter 7 = .ok (.bipush 97, 2) := by decide +kernel
theorem dX9_isLetter_9 : decode cX9_isLetter 9 = .ok (.if_icmp .lt 13, 3) := by decide +kernel
theorem dX9_isLetter_12 : decode cX9_isLetter 12 = .ok (.iload_n 2, 1) := by decide +kernel
theorem dX9_isLetter_13 : decode cX9_isLetter 13 = .ok (.bipush 122, 2) := by decide +kernel
theorem dX9_isLetter_15 : decode cX9_isLetter 15 = .ok (.if_icmp .gt 7, 3) := by decide +kernel
theorem dX9_isLetter_18 : decode cX9_isLetter 18 = .ok (.iconst 1, 1) := by decide +kernel
theorem dX9_isLetter_19 : decode cX9_isLetter 19 = .ok (.goto 4, 3) := by decide +kernel
theorem dX9_isLetter_22 : decode cX9_isLetter 22 = .ok (.iconst 0, 1) := by decide +kernel
theorem dX9_isLetter_23 : decode cX9_isLetter 23 = .ok (.ireturn, 1) := by decide +kernel
theorem dX9_isDigit_0 : decode cX9_isDigit 0 = .ok (.aload_n 0, 1) := by decide +kernel
theorem dX9_isDigit_1 : decode cX9_isDigit 1 = .ok (.iload_n 1, 1) := by decide +kernel
theorem dX9_isDigit_2 : decode cX9_isDigit 2 = .ok (.invokevirtual 19, 3) := by decide +kernel
theorem dX9_isDigit_5 : decode cX9_isDigit 5 = .ok (.istore_n 2, 1) := by decide +kernel
theorem dX9_isDigit_6 : decode cX9_isDigit 6 = .ok (.iload_n 2, 1) := by decide +kernel
theorem dX9_isDigit_7 : decode cX9_isDigit 7 = .ok (.bipush 48, 2) := by decide +kernel
theorem dX9_isDigit_9 : decode cX9_isDigit 9 = .ok (.if_icmp .lt 13, 3) := by decide +kernel
theorem dX9_isDigit_12 : decode cX9_isDigit 12 = .ok (.iload_n 2, 1) := by decide +kernel
theorem dX9_isDigit_13 : decode cX9_isDigit 13 = .ok (.bipush 57, 2) := by decide +kernel
theorem dX9_isDigit_15 : decode cX9_isDigit 15 = .ok (.if_icmp .gt 7, 3) := by decide +kernel
theorem dX9_isDigit_18 : decode cX9_isDigit 18 = .ok (.iconst 1, 1) := by decide +kernel
theorem dX9_isDigit_19 : decode cX9_isDigit 19 = .ok (.goto 4, 3) := by decide +kernel
theorem dX9_isDigit_22 : decode cX9_isDigit 22 = .ok (.iconst 0, 1) := by decide +kernel
theorem dX9_isDigit_23 : decode cX9_isDigit 23 = .ok (.ireturn, 1) := by decide +kernel
theorem dX9_isBlank_0 : decode cX9_isBlank 0 = .ok (.aload_n 0, 1) := by decide +kernel
theorem dX9_isBlank_1 : decode cX9_isBlank 1 = .ok (.iload_n 1, 1) := by decide +kernel
theorem dX9_isBlank_2 : decode cX9_isBlank 2 = .ok (.invokevirtual 19, 3) := by decide +kernel
theorem dX9_isBlank_5 : decode cX9_isBlank 5 = .ok (.istore_n 2, 1) := by decide +kernel
theorem dX9_isBlank_6 : decode cX9_isBlank 6 = .ok (.iload_n 2, 1) := by decide +kernel
theorem dX9_isBlank_7 : decode cX9_isBlank 7 = .ok (.bipush 10, 2) := by decide +kernel
theorem dX9_isBlank_9 : decode cX9_isBlank 9 = .ok (.if_icmp .eq 9, 3) := by decide +kernel
theorem dX9_isBlank_12 : decode cX9_isBlank 12 = .ok (.iload_n 2, 1) := by decide +kernel
theorem dX9_isBlank_13 : decode cX9_isBlank 13 = .ok (.bipush 32, 2) := by decide +kernel
theorem dX9_isBlank_15 : decode cX9_isBlank 15 = .ok (.if_icmp .ne 7, 3) := by decide +kernel
theorem dX9_isBlank_18 : decode cX9_isBlank 18 = .ok (.iconst 1, 1) := by decide +kernel
theorem dX9_isBlank_19 : decode cX9_isBlank 19 = .ok (.goto 4, 3) := by decide +kernel
theorem dX9_isBlank_22 : decode cX9_isBlank 22 = .ok (.iconst 0, 1) := by decide +kernel
theorem dX9_isBlank_23 : decode cX9_isBlank 23 = .ok (.ireturn, 1) := by decide +kernel
theorem dX9_letterCount_0 : decode cX9_letterCount 0 = .ok (.iconst 0, 1) := by decide +kernel
theorem dX9_letterCount_1 : decode cX9_letterCount 1 = .ok (.istore_n 2, 1) := by decide +kernel
theorem dX9_letterCount_2 : decode cX9_letterCount 2 = .ok (.iload_n 1, 1) := by decide +kernel
theorem dX9_letterCount_3 : decode cX9_letterCount 3 = .ok (.iload_n 2, 1) := by decide +kernel
theorem dX9_letterCount_4 : decode cX9_letterCount 4 = .ok (.iadd, 1) := by decide +kernel
theorem dX9_letterCount_5 : decode cX9_letterCount 5 = .ok (.aload_n 0, 1) := by decide +kernel
theorem dX9_letterCount_6 : decode cX9_letterCount 6 = .ok (.getfield 15, 3) := by decide +kernel
theorem dX9_letterCount_9 : decode cX9_letterCount 9 = .ok (.if_icmp .ge 19, 3) := by decide +kernel
theorem dX9_letterCount_12 : decode cX9_letterCount 12 = .ok (.aload_n 0, 1) := by decide +kernel
theorem dX9_letterCount_13 : decode cX9_letterCount 13 = .ok (.iload_n 1, 1) := by decide +kernel
theorem dX9_letterCount_14 : decode cX9_letterCount 14 = .ok (.iload_n 2, 1) := by decide +kernel
theorem dX9_letterCount_15 : decode cX9_letterCount 15 = .ok (.iadd, 1) := by decide +kernel
theorem dX9_letterCount_16 : decode cX9_letterCount 16 = .ok (.invokevirtual 23, 3) := by decide +kernel
theorem dX9_letterCount_19 : decode cX9_letterCount 19 = .ok (.ifCond .eq 9, 3) := by decide +kernel
theorem dX9_letterCount_22 : decode cX9_letterCount 22 = .ok (.iinc 2 1, 3) := by decide +kernel
theorem dX9_letterCount_25 : decode cX9_letterCount 25 = .ok (.goto (-23), 3) := by decide +kernel
theorem dX9_letterCount_28 : decode cX9_letterCount 28 = .ok (.iload_n 2, 1) := by decide +kernel
theorem dX9_letterCount_29 : decode cX9_letterCount 29 = .ok (.ireturn, 1) := by decide +kernel
theorem dX9_digitCount_0 : decode cX9_digitCount 0 = .ok (.iconst 0, 1) := by decide +kernel
theorem dX9_digitCount_1 : decode cX9_digitCount 1 = .ok (.istore_n 2, 1) := by decide +kernel
theorem dX9_digitCount_2 : decode cX9_digitCount 2 = .ok (.iload_n 1, 1) := by decide +kernel
theorem dX9_digitCount_3 : decode cX9_digitCount 3 = .ok (.iload_n 2, 1) := by decide +kernel
theorem dX9_digitCount_4 : decode cX9_digitCount 4 = .ok (.iadd, 1) := by decide +kernel
theorem dX9_digitCount_5 : decode cX9_digitCount 5 = .ok (.aload_n 0, 1) := by decide +kernel
theorem dX9_digitCount_6 : decode cX9_digitCount 6 = .ok (.getfield 15, 3) := by decide +kernel
theorem dX9_digitCount_9 : decode cX9_digitCount 9 = .ok (.if_icmp .ge 19, 3) := by decide +kernel
theorem dX9_digitCount_12 : decode cX9_digitCount 12 = .ok (.aload_n 0, 1) := by decide +kernel
theorem dX9_digitCount_13 : decode cX9_digitCount 13 = .ok (.iload_n 1, 1) := by decide +kernel
theorem dX9_digitCount_14 : decode cX9_digitCount 14 = .ok (.iload_n 2, 1) := by decide +kernel
theorem dX9_digitCount_15 : decode cX9_digitCount 15 = .ok (.iadd, 1) := by decide +kernel
theorem dX9_digitCount_16 : decode cX9_digitCount 16 = .ok (.invokevirtual 27, 3) := by decide +kernel
theorem dX9_digitCount_19 : decode cX9_digitCount 19 = .ok (.ifCond .eq 9, 3) := by decide +kernel
theorem dX9_digitCount_22 : decode cX9_digitCount 22 = .ok (.iinc 2 1, 3) := by decide +kernel
theorem dX9_digitCount_25 : decode cX9_digitCount 25 = .ok (.goto (-23), 3) := by decide +kernel
theorem dX9_digitCount_28 : decode cX9_digitCount 28 = .ok (.iload_n 2, 1) := by decide +kernel
theorem dX9_digitCount_29 : decode cX9_digitCount 29 = .ok (.ireturn, 1) := by decide +kernel
theorem dX10_stands_0 : decode cX10_stands 0 = .ok (.aload_n 0, 1) := by decide +kernel
theorem dX10_stands_1 : decode cX10_stands 1 = .ok (.getfield 83, 3) := by decide +kernel
theorem dX10_stands_4 : decode cX10_stands 4 = .ok (.invokevirtual 91, 3) := by decide +kernel
theorem dX10_stands_7 : decode cX10_stands 7 = .ok (.iload_n 3, 1) := by decide +kernel
theorem dX10_stands_8 : decode cX10_stands 8 = .ok (.if_icmp .eq 5, 3) := by decide +kernel
theorem dX10_stands_11 : decode cX10_stands 11 = .ok (.iconst 0, 1) := by decide +kernel
theorem dX10_stands_12 : decode cX10_stands 12 = .ok (.ireturn, 1) := by decide +kernel
theorem dX10_stands_13 : decode cX10_stands 13 = .ok (.iconst 0, 1) := by decide +kernel
theorem dX10_stands_14 : decode cX10_stands 14 = .ok (.istore 4, 2) := by decide +kernel
theorem dX10_stands_16 : decode cX10_stands 16 = .ok (.iload 4, 2) := by decide +kernel
theorem dX10_stands_18 : decode cX10_stands 18 = .ok (.iload_n 3, 1) := by decide +kernel
theorem dX10_stands_19 : decode cX10_stands 19 = .ok (.if_icmp .ge 31, 3) := by decide +kernel
theorem dX10_stands_22 : decode cX10_stands 22 = .ok (.aload_n 1, 1) := by decide +kernel
theorem dX10_stands_23 : decode cX10_stands 23 = .ok (.iload_n 2, 1) := by decide +kernel
theorem dX10_stands_24 : decode cX10_stands 24 = .ok (.iload 4, 2) := by decide +kernel
theorem dX10_stands_26 : decode cX10_stands 26 = .ok (.iadd, 1) := by decide +kernel
theorem dX10_stands_27 : decode cX10_stands 27 = .ok (.invokevirtual 97, 3) := by decide +kernel
theorem dX10_stands_30 : decode cX10_stands 30 = .ok (.aload_n 0, 1) := by decide +kernel
theorem dX10_stands_31 : decode cX10_stands 31 = .ok (.getfield 83, 3) := by decide +kernel
theorem dX10_stands_34 : decode cX10_stands 34 = .ok (.iload 4, 2) := by decide +kernel
theorem dX10_stands_36 : decode cX10_stands 36 = .ok (.invokevirtual 103, 3) := by decide +kernel
theorem dX10_stands_39 : decode cX10_stands 39 = .ok (.if_icmp .eq 5, 3) := by decide +kernel
theorem dX10_stands_42 : decode cX10_stands 42 = .ok (.iconst 0, 1) := by decide +kernel
theorem dX10_stands_43 : decode cX10_stands 43 = .ok (.ireturn, 1) := by decide +kernel
theorem dX10_stands_44 : decode cX10_stands 44 = .ok (.iinc 4 1, 3) := by decide +kernel
theorem dX10_stands_47 : decode cX10_stands 47 = .ok (.goto (-31), 3) := by decide +kernel
theorem dX10_stands_50 : decode cX10_stands 50 = .ok (.iconst 1, 1) := by decide +kernel
theorem dX10_stands_51 : decode cX10_stands 51 = .ok (.ireturn, 1) := by decide +kernel
theorem dX10_find_0 : decode cX10_find 0 = .ok (.iconst 0, 1) := by decide +kernel
theorem dX10_find_1 : decode cX10_find 1 = .ok (.istore_n 3, 1) := by decide +kernel
theorem dX10_find_2 : decode cX10_find 2 = .ok (.iload_n 3, 1) := by decide +kernel
theorem dX10_find_3 : decode cX10_find 3 = .ok (.getstatic 107, 3) := by decide +kernel
theorem dX10_find_6 : decode cX10_find 6 = .ok (.arraylength, 1) := by decide +kernel
theorem dX10_find_7 : decode cX10_find 7 = .ok (.if_icmp .ge 29, 3) := by decide +kernel
theorem dX10_find_10 : decode cX10_find 10 = .ok (.getstatic 107, 3) := by decide +kernel
theorem dX10_find_13 : decode cX10_find 13 = .ok (.iload_n 3, 1) := by decide +kernel
theorem dX10_find_14 : decode cX10_find 14 = .ok (.aaload, 1) := by decide +kernel
theorem dX10_find_15 : decode cX10_find 15 = .ok (.aload_n 0, 1) := by decide +kernel
theorem dX10_find_16 : decode cX10_find 16 = .ok (.iload_n 1, 1) := by decide +kernel
theorem dX10_find_17 : decode cX10_find 17 = .ok (.iload_n 2, 1) := by decide +kernel
theorem dX10_find_18 : decode cX10_find 18 = .ok (.invokevirtual 110, 3) := by decide +kernel
theorem dX10_find_21 : decode cX10_find 21 = .ok (.ifCond .eq 9, 3) := by decide +kernel
theorem dX10_find_24 : decode cX10_find 24 = .ok (.getstatic 107, 3) := by decide +kernel
theorem dX10_find_27 : decode cX10_find 27 = .ok (.iload_n 3, 1) := by decide +kernel
theorem dX10_find_28 : decode cX10_find 28 = .ok (.aaload, 1) := by decide +kernel
theorem dX10_find_29 : decode cX10_find 29 = .ok (.areturn, 1) := by decide +kernel
theorem dX10_find_30 : decode cX10_find 30 = .ok (.iinc 3 1, 3) := by decide +kernel
theorem dX10_find_33 : decode cX10_find 33 = .ok (.goto (-31), 3) := by decide +kernel
theorem dX10_find_36 : decode cX10_find 36 = .ok (.aconst_null, 1) := by decide +kernel
theorem dX10_find_37 : decode cX10_find 37 = .ok (.areturn, 1) := by decide +kernel
theorem dX11_octet_20 : decode cX11_octet 20 = .ok (.getfield 68, 3) := by decide +kernel
theorem dX11_octet_23 : decode cX11_octet 23 = .ok (.getfield 390, 3) := by decide +kernel
theorem dX11_octet_26 : decode cX11_octet 26 = .ok (.iload_n 1, 1) := by decide +kernel
theorem dX11_octet_27 : decode cX11_octet 27 = .ok (.iaload, 1) := by decide +kernel
theorem dX11_octet_28 : decode cX11_octet 28 = .ok (.ireturn, 1) := by decide +kernel
theorem dX11_take_0 : decode cX11_take 0 = .ok (.aload_n 0, 1) := by decide +kernel
theorem dX11_take_1 : decode cX11_take 1 = .ok (.invokevirtual 269, 3) := by decide +kernel
theorem dX11_take_4 : decode cX11_take 4 = .ok (.ifCond .eq 24, 3) := by decide +kernel
theorem dX11_take_7 : decode cX11_take 7 = .ok (.aload_n 0, 1) := by decide +kernel
theorem dX11_take_8 : decode cX11_take 8 = .ok (.getfield 22, 3) := by decide +kernel
theorem dX11_take_11 : decode cX11_take 11 = .ok (.aload_n 0, 1) := by decide +kernel
theorem dX11_take_12 : decode cX11_take 12 = .ok (.getfield 10, 3) := by decide +kernel
theorem dX11_take_15 : decode cX11_take 15 = .ok (.getfield 125, 3) := by decide +kernel
theorem dX11_take_18 : decode cX11_take 18 = .ok (.invokestatic 393, 3) := by decide +kernel
theorem dX11_take_21 : decode cX11_take 21 = .ok (.ifCond .eq 7, 3) := by decide +kernel
theorem dX11_take_24 : decode cX11_take 24 = .ok (.iconst 1, 1) := by decide +kernel
theorem dX11_take_25 : decode cX11_take 25 = .ok (.goto 4, 3) := by decide +kernel
theorem dX11_take_28 : decode cX11_take 28 = .ok (.iconst 0, 1) := by decide +kernel
theorem dX11_take_29 : decode cX11_take 29 = .ok (.istore_n 1, 1) := by decide +kernel
theorem dX11_take_30 : decode cX11_take 30 = .ok (.iload_n 1, 1) := by decide +kernel
theorem dX11_take_31 : decode cX11_take 31 = .ok (.ifCond .eq 40, 3) := by decide +kernel
theorem dX11_take_34 : decode cX11_take 34 = .ok (.aload_n 0, 1) := by decide +kernel
theorem dX11_take_35 : decode cX11_take 35 = .ok (.getfield 40, 3) := by decide +kernel
theorem dX11_take_38 : decode cX11_take 38 = .ok (.aload_n 0, 1) := by decide +kernel
theorem dX11_take_39 : decode cX11_take 39 = .ok (.getfield 10, 3) := by decide +kernel
theorem dX11_take_42 : decode cX11_take 42 = .ok (.invokevirtual 113, 3) := by decide +kernel
theorem dX11_take_45 : decode cX11_take 45 = .ok (.aload_n 0, 1) := by decide +kernel
theorem dX11_take_46 : decode cX11_take 46 = .ok (.getfield 22, 3) := by decide +kernel
theorem dX11_take_49 : decode cX11_take 49 = .ok (.aload_n 0, 1) := by decide +kernel
theorem dX11_take_50 : decode cX11_take 50 = .ok (.getfield 40, 3) := by decide +kernel
theorem dX11_take_53 : decode cX11_take 53 = .ok (.aload_n 0, 1) := by decide +kernel
theorem dX11_take_54 : decode cX11_take 54 = .ok (.getfield 10, 3) := by decide +kernel
theorem dX11_take_57 : decode cX11_take 57 = .ok (.getfield 125, 3) := by decide +kernel
theorem dX11_take_60 : decode cX11_take 60 = .ok (.invokestatic 396, 3) := by decide +kernel
theorem dX11_take_63 : decode cX11_take 63 = .ok (.aload_n 0, 1) := by decide +kernel
theorem dX11_take_64 : decode cX11_take 64 = .ok (.iconst 0, 1) := by decide +kernel
theorem dX11_take_65 : decode cX11_take 65 = .ok (.putfield 55, 3) := by decide +kernel
theorem dX11_take_68 : decode cX11_take 68 = .ok (.goto 9, 3) := by decide +kernel
theorem dX11_take_71 : decode cX11_take 71 = .ok (.aload_n 0, 1) := by decide +kernel
theorem dX11_take_72 : decode cX11_take 72 = .ok (.iconst 5, 1) := by decide +kernel
theorem dX11_take_73 : decode cX11_take 73 = .ok (.invokevirtual 92, 3) := by decide +kernel
theorem dX11_take_76 : decode cX11_take 76 = .ok (.pop, 1) := by decide +kernel
theorem dX11_take_77 : decode cX11_take 77 = .ok (.aload_n 0, 1) := by decide +kernel
theorem dX11_take_78 : decode cX11_take 78 = .ok (.getfield 22, 3) := by decide +kernel
theorem dX11_take_81 : decode cX11_take 81 = .ok (.iconst 0, 1) := by decide +kernel
theorem dX11_take_82 : decode cX11_take 82 = .ok (.putfield 89, 3) := by decide +kernel
theorem dX11_take_85 : decode cX11_take 85 = .ok (.iload_n 1, 1) := by decide +kernel
theorem dX11_take_86 : decode cX11_take 86 = .ok (.ireturn, 1) := by decide +kernel
theorem dX11_status_0 : decode cX11_status 0 = .ok (.iload_n 1, 1) := by decide +kernel
theorem dX11_status_1 : decode cX11_status 1 = .ok (.iconst 0, 1) := by decide +kernel
theorem dX11_status_2 : decode cX11_status 2 = .ok (.iconst 5, 1) := by decide +kernel
theorem dX11_status_3 : decode cX11_status 3 = .ok (.invokestatic 306, 3) := by decide +kernel
theorem dX11_status_6 : decode cX11_status 6 = .ok (.ifCond .eq 12, 3) := by decide +kernel
theorem dX11_status_9 : decode cX11_status 9 = .ok (.aload_n 0, 1) := by decide +kernel
theorem dX11_status_10 : decode cX11_status 10 = .ok (.getfield 72, 3) := by decide +kernel
theorem dX11_status_13 : decode cX11_status 13 = .ok (.iload_n 1, 1) := by decide +kernel
theorem dX11_status_14 : decode cX11_status 14 = .ok (.iaload, 1) := by decide +kernel
theorem dX11_status_15 : decode cX11_status 15 = .ok (.goto 4, 3) := by decide +kernel
theorem dX11_status_18 : decode cX11_status 18 = .ok (.iconst (-1), 1) := by decide +kernel
theorem dX11_status_19 : decode cX11_status 19 = .ok (.ireturn, 1) := by decide +kernel
theorem dX11_refuse_0 : decode cX11_refuse 0 = .ok (.aload_n 0, 1) := by decide +kernel
theorem dX11_refuse_1 : decode cX11_refuse 1 = .ok (.getfield 72, 3) := by decide +kernel
theorem dX11_refuse_4 : decode cX11_refuse 4 = .ok (.iload_n 1, 1) := by decide +kernel
theorem dX11_refuse_5 : decode cX11_refuse 5 = .ok (.dup2, 1) := by decide +kernel
theorem dX11_refuse_6 : decode cX11_refuse 6 = .ok (.iaload, 1) := by decide +kernel
theorem dX11_refuse_7 : decode cX11_refuse 7 = .ok (.iconst 1, 1) := by decide +kernel
theorem dX11_refuse_8 : decode cX11_refuse 8 = .ok (.iadd, 1) := by decide +kernel
theorem dX11_refuse_9 : decode cX11_refuse 9 = .ok (.iastore, 1) := by decide +kernel
theorem dX11_refuse_10 : decode cX11_refuse 10 = .ok (.iconst (-1), 1) := by decide +kernel
theorem dX11_refuse_11 : decode cX11_refuse 11 = .ok (.ireturn, 1) := by decide +kernel
theorem dX11_hasDisk_0 : decode cX11_hasDisk 0 = .ok (.aload_n 0, 1) := by decide +kernel
theorem dX11_hasDisk_1 : decode cX11_hasDisk 1 = .ok (.getfield 10, 3) := by decide +kernel
theorem dX11_hasDisk_4 : decode cX11_hasDisk 4 = .ok (.getfield 122, 3) := by decide +kernel
theorem dX11_hasDisk_7 : decode cX11_hasDisk 7 = .ok (.ifCond .le 7, 3) := by decide +kernel
theorem dX11_hasDisk_10 : decode cX11_hasDisk 10 = .ok (.iconst 1, 1) := by decide +kernel
theorem dX11_hasDisk_11 : decode cX11_hasDisk 11 = .ok (.goto 4, 3) := by decide +kernel
theorem dX11_hasDisk_14 : decode cX11_hasDisk 14 = .ok (.iconst 0, 1) := by decide +kernel
theorem dX11_hasDisk_15 : decode cX11_hasDisk 15 = .ok (.ireturn, 1) := by decide +kernel
theorem dX11_isProcess_0 : decode cX11_isProcess 0 = .ok (.iload_n 1, 1) := by decide +kernel
theorem dX11_isProcess_1 : decode cX11_isProcess 1 = .ok (.ifCond .lt 18, 3) := by decide +kernel
theorem dX11_isProcess_4 : decode cX11_isProcess 4 = .ok (.iload_n 1, 1) := by decide +kernel
theorem dX11_isProcess_5 : decode cX11_isProcess 5 = .ok (.aload_n 0, 1) := by decide +kernel
theorem dX11_isProcess_6 : decode cX11_isProcess 6 = .ok (.getfield 10, 3) := by decide +kernel
theorem dX11_isProcess_9 : decode cX11_isProcess 9 = .ok (.getfield 125, 3) := by decide +kernel
theorem dX11_isProcess_12 : decode cX11_isProcess 12 = .ok (.if_icmp .ge 7, 3) := by decide +kernel
theorem dX11_isProcess_15 : decode cX11_isProcess 15 = .ok (.iconst 1, 1) := by decide +kernel
theorem dX11_isProcess_16 : decode cX11_isProcess 16 = .ok (.goto 4, 3) := by decide +kernel
theorem dX11_isProcess_19 : decode cX11_isProcess 19 = .ok (.iconst 0, 1) := by decide +kernel
theorem dX11_isProcess_20 : decode cX11_isProcess 20 = .ok (.ireturn, 1) := by decide +kernel
theorem dX11_isWithin_0 : decode cX11_isWithin 0 = .ok (.iload_n 0, 1) := by decide +kernel
theorem dX11_isWithin_1 : decode cX11_isWithin 1 = .ok (.iload_n 1, 1) := by decide +kernel
theorem dX11_isWithin_2 : decode cX11_isWithin 2 = .ok (.if_icmp .lt 12, 3) := by decide +kernel
theorem dX11_isWithin_5 : decode cX11_isWithin 5 = .ok (.iload_n 0, 1) := by decide +kernel
theorem dX11_isWithin_6 : decode cX11_isWithin 6 = .ok (.iload_n 2, 1) := by decide +kernel
theorem dX11_isWithin_7 : decode cX11_isWithin 7 = .ok (.if_icmp .gt 7, 3) := by decide +kernel
theorem dX11_isWithin_10 : decode cX11_isWithin 10 = .ok (.iconst 1, 1) := by decide +kernel
theorem dX11_isWithin_11 : decode cX11_isWithin 11 = .ok (.goto 4, 3) := by decide +kernel
theorem dX11_isWithin_14 : decode cX11_isWithin 14 = .ok (.iconst 0, 1) := by decide +kernel
theorem dX11_isWithin_15 : decode cX11_isWithin 15 = .ok (.ireturn, 1) := by decide +kernel
theorem dX11_keepPast_0 : decode cX11_keepPast 0 = .ok (.aload_n 0, 1) := by decide +kernel
theorem dX11_keepPast_1 : decode cX11_keepPast 1 = .ok (.aload_n 0, 1) := by decide +kernel
theorem dX11_keepPast_2 : decode cX11_keepPast 2 = .ok (.getfield 51, 3) := by decide +kernel
theorem dX11_keepPast_5 : decode cX11_keepPast 5 = .ok (.iconst 1, 1) := by decide +kernel
theorem dX11_keepPast_6 : decode cX11_keepPast 6 = .ok (.iadd, 1) := by decide +kernel
theorem dX11_keepPast_7 : decode cX11_keepPast 7 = .ok (.bipush 20, 2) := by decide +kernel
theorem dX11_keepPast_9 : decode cX11_keepPast 9 = .ok (.irem, 1) := by decide +kernel
theorem dX11_keepPast_10 : decode cX11_keepPast 10 = .ok (.putfield 51, 3) := by decide +kernel
theorem dX11_keepPast_13 : decode cX11_keepPast 13 = .ok (.aload_n 0, 1) := by decide +kernel
theorem dX11_keepPast_14 : decode cX11_keepPast 14 = .ok (.getfield 47, 3) := by decide +kernel
theorem dX11_keepPast_17 : decode cX11_keepPast 17 = .ok (.aload_n 0, 1) := by decide +kernel
theorem dX11_keepPast_18 : decode cX11_keepPast 18 = .ok (.getfield 51, 3) := by decide +kernel
theorem dX11_keepPast_21 : decode cX11_keepPast 21 = .ok (.aaload, 1) := by decide +kernel
theorem dX11_keepPast_22 : decode cX11_keepPast 22 = .ok (.aload_n 0, 1) := by decide +kernel
theorem dX11_keepPast_23 : decode cX11_keepPast 23 = .ok (.getfield 40, 3) := by decide +kernel
theorem dX11_keepPast_26 : decode cX11_keepPast 26 = .ok (.invokevirtual 400, 3) := by decide +kernel
theorem dX11_keepPast_29 : decode cX11_keepPast 29 = .ok (.aload_n 0, 1) := by decide +kernel
theorem dX11_keepPast_30 : decode cX11_keepPast 30 = .ok (.aload_n 0, 1) := by decide +kernel
theorem dX11_keepPast_31 : decode cX11_keepPast 31 = .ok (.getfield 55, 3) := by decide +kernel
theorem dX11_keepPast_34 : decode cX11_keepPast 34 = .ok (.iconst 1, 1) := by decide +kernel
theorem dX11_keepPast_35 : decode cX11_keepPast 35 = .ok (.iadd, 1) := by decide +kernel
theorem dX11_keepPast_36 : decode cX11_keepPast 36 = .ok (.bipush 20, 2) := by decide +kernel
theorem dX11_keepPast_38 : decode cX11_keepPast 38 = .ok (.invokestatic 404, 3) := by decide +kernel
theorem dX11_keepPast_41 : decode cX11_keepPast 41 = .ok (.putfield 55, 3) := by decide +kernel
theorem dX11_keepPast_44 : decode cX11_keepPast 44 = .ok (.return_, 1) := by decide +kernel
theorem dX11_restorePast_0 : decode cX11_restorePast 0 = .ok (.aload_n 0, 1) := by decide +kernel
theorem dX11_restorePast_1 : decode cX11_restorePast 1 = .ok (.getfield 40, 3) := by decide +kernel
theorem dX11_restorePast_4 : decode cX11_restorePast 4 = .ok (.aload_n 0, 1) := by decide +kernel
theorem dX11_restorePast_5 : decode cX11_restorePast 5 = .ok (.getfield 47, 3) := by decide +kernel
theorem dX11_restorePast_8 : decode cX11_restorePast 8 = .ok (.aload_n 0, 1) := by decide +kernel
theorem dX11_restorePast_9 : decode cX11_restorePast 9 = .ok (.getfield 51, 3) := by decide +kernel
theorem dX11_restorePast_12 : decode cX11_restorePast 12 = .ok (.aaload, 1) := by decide +kernel
theorem dX11_restorePast_13 : decode cX11_restorePast 13 = .ok (.invokevirtual 400, 3) := by decide +kernel
theorem dX11_restorePast_16 : decode cX11_restorePast 16 = .ok (.aload_n 0, 1) := by decide +kernel
theorem dX11_restorePast_17 : decode cX11_restorePast 17 = .ok (.aload_n 0, 1) := by decide +kernel
theorem dX11_restorePast_18 : decode cX11_restorePast 18 = .ok (.getfield 51, 3) := by decide +kernel
theorem dX11_restorePast_21 : decode cX11_restorePast 21 = .ok (.bipush 20, 2) := by decide +kernel
theorem dX11_restorePast_23 : decode cX11_restorePast 23 = .ok (.iadd, 1) := by decide +kernel
theorem dX11_restorePast_24 : decode cX11_restorePast 24 = .ok (.iconst 1, 1) := by decide +kernel
theorem dX11_restorePast_25 : decode cX11_restorePast 25 = .ok (.isub, 1) := by decide +kernel
theorem dX11_restorePast_26 : decode cX11_restorePast 26 = .ok (.bipush 20, 2) := by decide +kernel
theorem dX11_restorePast_28 : decode cX11_restorePast 28 = .ok (.irem, 1) := by decide +kernel
theorem dX11_restorePast_29 : decode cX11_restorePast 29 = .ok (.putfield 51, 3) := by decide +kernel
theorem dX11_restorePast_32 : decode cX11_restorePast 32 = .ok (.aload_n 0, 1) := by decide +kernel
theorem dX11_restorePast_33 : decode cX11_restorePast 33 = .ok (.dup, 1) := by decide +kernel
theorem dX11_restorePast_34 : decode cX11_restorePast 34 = .ok (.getfield 55, 3) := by decide +kernel
theorem dX11_restorePast_37 : decode cX11_restorePast 37 = .ok (.iconst 1, 1) := by decide +kernel
theorem dX11_restorePast_38 : decode cX11_restorePast 38 = .ok (.isub, 1) := by decide +kernel
theorem dX11_restorePast_39 : decode cX11_restorePast 39 = .ok (.putfield 55, 3) := by decide +kernel
theorem dX11_restorePast_42 : decode cX11_restorePast 42 = .ok (.return_, 1) := by decide +kernel
theorem dX11_startAhead_0 : decode cX11_startAhead 0 = .ok (.aload_n 0, 1) := by decide +kernel
theorem dX11_startAhead_1 : decode cX11_startAhead 1 = .ok (.getfield 44, 3) := by decide +kernel
theorem dX11_startAhead_4 : decode cX11_startAhead 4 = .ok (.aload_n 0, 1) := by decide +kernel
theorem dX11_startAhead_5 : decode cX11_startAhead 5 = .ok (.getfield 40, 3) := by decide +kernel
theorem dX11_startAhead_8 : decode cX11_startAhead 8 = .ok (.invokevirtual 409, 3) := by decide +kernel
theorem dX11_startAhead_11 : decode cX11_startAhead 11 = .ok (.aload_n 0, 1) := by decide +kernel
theorem dX11_startAhead_12 : decode cX11_startAhead 12 = .ok (.getfield 44, 3) := by decide +kernel
theorem dX11_startAhead_15 : decode cX11_startAhead 15 = .ok (.areturn, 1) := by decide +kernel
theorem dX11_runAhead_0 : decode cX11_runAhead 0 = .ok (.aload_n 0, 1) := by decide +kernel
theorem dX11_runAhead_1 : decode cX11_runAhead 1 = .ok (.invokevirtual 317, 3) := by decide +kernel
theorem dX11_runAhead_4 : decode cX11_runAhead 4 = .ok (.astore_n 2, 1) := by decide +kernel
theorem dX11_runAhead_5 : decode cX11_runAhead 5 = .ok (.aload_n 2, 1) := by decide +kernel
theorem dX11_runAhead_6 : decode cX11_runAhead 6 = .ok (.iload_n 1, 1) := by decide +kernel
theorem dX11_runAhead_7 : decode cX11_runAhead 7 = .ok (.invokevirtual 321, 3) := by decide +kernel
theorem dX11_runAhead_10 : decode cX11_runAhead 10 = .ok (.aload_n 2, 1) := by decide +kernel
theorem dX11_runAhead_11 : decode cX11_runAhead 11 = .ok (.areturn, 1) := by decide +kernel
theorem dX11_runAboveAhead_0 : decode cX11_runAboveAhead 0 = .ok (.aload_n 0, 1) := by decide +kernel
theorem dX11_runAboveAhead_1 : decode cX11_runAboveAhead 1 = .ok (.invokevirtual 317, 3) := by decide +kernel
theorem dX11_runAboveAhead_4 : decode cX11_runAboveAhead 4 = .ok (.astore_n 3, 1) := by decide +kernel
theorem dX11_runAboveAhead_5 : decode cX11_runAboveAhead 5 = .ok (.aload_n 3, 1) := by decide +kernel
theorem dX11_runAboveAhead_6 : decode cX11_runAboveAhead 6 = .ok (.iload_n 2, 1) := by decide +kernel
theorem dX11_runAboveAhead_7 : decode cX11_runAboveAhead 7 = .ok (.putfield 412, 3) := by decide +kernel
theorem dX11_runAboveAhead_10 : decode cX11_runAboveAhead 10 = .ok (.aload_n 3, 1) := by decide +kernel
theorem dX11_runAboveAhead_11 : decode cX11_runAboveAhead 11 = .ok (.iload_n 1, 1) := by decide +kernel
theorem dX11_runAboveAhead_12 : decode cX11_runAboveAhead 12 = .ok (.invokevirtual 321, 3) := by decide +kernel
theorem dX11_runAboveAhead_15 : decode cX11_runAboveAhead 15 = .ok (.aload_n 3, 1) := by decide +kernel
theorem dX11_runAboveAhead_16 : decode cX11_runAboveAhead 16 = .ok (.areturn, 1) := by decide +kernel
theorem dX11_sectorsByIdle_0 : decode cX11_sectorsByIdle 0 = .ok (.aload_n 0, 1) := by decide +kernel
theorem dX11_sectorsByIdle_1 : decode cX11_sectorsByIdle 1 = .ok (.invokevirtual 317, 3) := by decide +kernel
theorem dX11_sectorsByIdle_4 : decode cX11_sectorsByIdle 4 = .ok (.astore_n 3, 1) := by decide +kernel
theorem dX11_sectorsByIdle_5 : decode cX11_sectorsByIdle 5 = .ok (.aload_n 3, 1) := by decide +kernel
theorem dX11_sectorsByIdle_6 : decode cX11_sectorsByIdle 6 = .ok (.iload_n 2, 1) := by decide +kernel
theorem dX11_sectorsByIdle_7 : decode cX11_sectorsByIdle 7 = .ok (.putfield 145, 3) := by decide +kernel
theorem dX11_sectorsByIdle_10 : decode cX11_sectorsByIdle 10 = .ok (.aload_n 3, 1) := by decide +kernel
theorem dX11_sectorsByIdle_11 : decode cX11_sectorsByIdle 11 = .ok (.iload_n 1, 1) := by decide +kernel
theorem dX11_sectorsByIdle_12 : decode cX11_sectorsByIdle 12 = .ok (.invokevirtual 321, 3) := by decide +kernel
theorem dX11_sectorsByIdle_15 : decode cX11_sectorsByIdle 15 = .ok (.aload_n 3, 1) := by decide +kernel
theorem dX11_sectorsByIdle_16 : decode cX11_sectorsByIdle 16 = .ok (.invokevirtual 314, 3) := by decide +kernel
theorem dX11_sectorsByIdle_19 : decode cX11_sectorsByIdle 19 = .ok (.ireturn, 1) := by decide +kernel
theorem dX11_reaches_0 : decode cX11_reaches 0 = .ok (.aload_n 0, 1) := by decide +kernel
theorem dX11_reaches_1 : decode cX11_reaches 1 = .ok (.getfield 171, 3) := by decide +kernel
theorem dX11_reaches_4 : decode cX11_reaches 4 = .ok (.iload_n 2, 1) := by decide +kernel
theorem dX11_reaches_5 : decode cX11_reaches 5 = .ok (.aaload, 1) := by decide +kernel
theorem dX11_reaches_6 : decode cX11_reaches 6 = .ok (.astore 4, 2) := by decide +kernel
theorem dX11_reaches_8 : decode cX11_reaches 8 = .ok (.iconst 0, 1) := by decide +kernel
theorem dX11_reaches_9 : decode cX11_reaches 9 = .ok (.istore 5, 2) := by decide +kernel
theorem dX11_reaches_11 : decode cX11_reaches 11 = .ok (.iload 5, 2) := by decide +kernel
theorem dX11_reaches_13 : decode cX11_reaches 13 = .ok (.iload_n 1, 1) := by decide +kernel
theorem dX11_reaches_14 : decode cX11_reaches 14 = .ok (.if_icmp .ge 23, 3) := by decide +kernel
theorem dX11_reaches_17 : decode cX11_reaches 17 = .ok (.aload 4, 2) := by decide +kernel
theorem dX11_reaches_19 : decode cX11_reaches 19 = .ok (.getfield 206, 3) := by decide +kernel
theorem dX11_reaches_22 : decode cX11_reaches 22 = .ok (.iload_n 3, 1) := by decide +kernel
theorem dX11_reaches_23 : decode cX11_reaches 23 = .ok (.if_icmp .ge 14, 3) := by decide +kernel
theorem dX11_reaches_26 : decode cX11_reaches 26 = .ok (.aload_n 0, 1) := by decide +kernel
theorem dX11_reaches_27 : decode cX11_reaches 27 = .ok (.iconst 1, 1) := by decide +kernel
theorem dX11_reaches_28 : decode cX11_reaches 28 = .ok (.invokevirtual 321, 3) := by decide +kernel
theorem dX11_reaches_31 : decode cX11_reaches 31 = .ok (.iinc 5 1, 3) := by decide +kernel
theorem dX11_reaches_34 : decode cX11_reaches 34 = .ok (.goto (-23), 3) := by decide +kernel
theorem dX11_reaches_37 : decode cX11_reaches 37 = .ok (.aload 4, 2) := by decide +kernel
theorem dX11_reaches_39 : decode cX11_reaches 39 = .ok (.getfield 206, 3) := by decide +kernel
theorem dX11_reaches_42 : decode cX11_reaches 42 = .ok (.iload_n 3, 1) := by decide +kernel
theorem dX11_reaches_43 : decode cX11_reaches 43 = .ok (.if_icmp .lt 7, 3) := by decide +kernel
theorem dX11_reaches_46 : decode cX11_reaches 46 = .ok (.iconst 1, 1) := by decide +kernel
theorem dX11_reaches_47 : decode cX11_reaches 47 = .ok (.goto 4, 3) := by decide +kernel
theorem dX11_reaches_50 : decode cX11_reaches 50 = .ok (.iconst 0, 1) := by decide +kernel
theorem dX11_reaches_51 : decode cX11_reaches 51 = .ok (.ireturn, 1) := by decide +kernel
theorem dX11_greatestBySlice_0 : decode cX11_greatestBySlice 0 = .ok (.aload_n 0, 1) := by decide +kernel
theorem dX11_greatestBySlice_1 : decode cX11_greatestBySlice 1 = .ok (.invokevirtual 317, 3) := by decide +kernel
theorem dX11_greatestBySlice_4 : decode cX11_greatestBySlice 4 = .ok (.astore 4, 2) := by decide +kernel
theorem dX11_greatestBySlice_6 : decode cX11_greatestBySlice 6 = .ok (.aload 4, 2) := by decide +kernel
theorem dX11_greatestBySlice_8 : decode cX11_greatestBySlice 8 = .ok (.iload_n 2, 1) := by decide +kernel
theorem dX11_greatestBySlice_9 : decode cX11_greatestBySlice 9 = .ok (.putfield 148, 3) := by decide +kernel
theorem dX11_greatestBySlice_12 : decode cX11_greatestBySlice 12 = .ok (.iconst 0, 1) := by decide +kernel
theorem dX11_greatestBySlice_13 : decode cX11_greatestBySlice 13 = .ok (.istore 5, 2) := by decide +kernel
theorem dX11_greatestBySlice_15 : decode cX11_greatestBySlice 15 = .ok (.iload 5, 2) := by decide +kernel
theorem dX11_greatestBySlice_17 : decode cX11_greatestBySlice 17 = .ok (.iload_n 1, 1) := by decide +kernel
theorem dX11_greatestBySlice_18 : decode cX11_greatestBySlice 18 = .ok (.if_icmp .ge 24, 3) := by decide +kernel
theorem dX11_greatestBySlice_21 : decode cX11_greatestBySlice 21 = .ok (.aload 4, 2) := by decide +kernel
theorem dX11_greatestBySlice_23 : decode cX11_greatestBySlice 23 = .ok (.getfield 415, 3) := by decide +kernel
theorem dX11_greatestBySlice_26 : decode cX11_greatestBySlice 26 = .ok (.iload_n 3, 1) := by decide +kernel
theorem dX11_greatestBySlice_27 : decode cX11_greatestBySlice 27 = .ok (.if_icmp .ge 15, 3) := by decide +kernel
theorem dX11_greatestBySlice_30 : decode cX11_greatestBySlice 30 = .ok (.aload 4, 2) := by decide +kernel
theorem dX11_greatestBySlice_32 : decode cX11_greatestBySlice 32 = .ok (.iconst 1, 1) := by decide +kernel
theorem dX11_greatestBySlice_33 : decode cX11_greatestBySlice 33 = .ok (.invokevirtual 321, 3) := by decide +kernel
theorem dX11_greatestBySlice_36 : decode cX11_greatestBySlice 36 = .ok (.iinc 5 1, 3) := by decide +kernel
theorem dX11_greatestBySlice_39 : decode cX11_greatestBySlice 39 = .ok (.goto (-24), 3) := by decide +kernel
theorem dX11_greatestBySlice_42 : decode cX11_greatestBySlice 42 = .ok (.aload 4, 2) := by decide +kernel
theorem dX11_greatestBySlice_44 : decode cX11_greatestBySlice 44 = .ok (.getfield 415, 3) := by decide +kernel
theorem dX11_greatestBySlice_47 : decode cX11_greatestBySlice 47 = .ok (.ireturn, 1) := by decide +kernel
theorem dX11_fitting_0 : decode cX11_fitting 0 = .ok (.aload_n 0, 1) := by decide +kernel
theorem dX11_fitting_1 : decode cX11_fitting 1 = .ok (.getfield 61, 3) := by decide +kernel
theorem dX11_fitting_4 : decode cX11_fitting 4 = .ok (.invokevirtual 416, 3) := by decide +kernel
theorem dX11_fitting_7 : decode cX11_fitting 7 = .ok (.istore_n 1, 1) := by decide +kernel
theorem dX11_fitting_8 : decode cX11_fitting 8 = .ok (.iconst 0, 1) := by decide +kernel
theorem dX11_fitting_9 : decode cX11_fitting 9 = .ok (.istore_n 2, 1) := by decide +kernel
theorem dX11_fitting_10 : decode cX11_fitting 10 = .ok (.iconst 0, 1) := by decide +kernel
theorem dX11_fitting_11 : decode cX11_fitting 11 = .ok (.istore_n 3, 1) := by decide +kernel
theorem dX11_fitting_12 : decode cX11_fitting 12 = .ok (.iload_n 3, 1) := by decide +kernel
theorem dX11_fitting_13 : decode cX11_fitting 13 = .ok (.bipush 20, 2) := by decide +kernel
theorem dX11_fitting_15 : decode cX11_fitting 15 = .ok (.if_icmp .gt 84, 3) := by decide +kernel
theorem dX11_fitting_18 : decode cX11_fitting 18 = .ok (.aload_n 0, 1) := by decide +kernel
theorem dX11_fitting_19 : decode cX11_fitting 19 = .ok (.invokevirtual 317, 3) := by decide +kernel
theorem dX11_fitting_22 : decode cX11_fitting 22 = .ok (.astore 4, 2) := by decide +kernel
theorem dX11_fitting_24 : decode cX11_fitting 24 = .ok (.aload 4, 2) := by decide +kernel
theorem dX11_fitting_26 : decode cX11_fitting 26 = .ok (.iload_n 3, 1) := by decide +kernel
theorem dX11_fitting_27 : decode cX11_fitting 27 = .ok (.putfield 145, 3) := by decide +kernel
theorem dX11_fitting_30 : decode cX11_fitting 30 = .ok (.iconst 1, 1) := by decide +kernel
theorem dX11_fitting_31 : decode cX11_fitting 31 = .ok (.istore 5, 2) := by decide +kernel
theorem dX11_fitting_33 : decode cX11_fitting 33 = .ok (.iconst 1, 1) := by decide +kernel
theorem dX11_fitting_34 : decode cX11_fitting 34 = .ok (.istore 6, 2) := by decide +kernel
theorem dX11_fitting_36 : decode cX11_fitting 36 = .ok (.iload 6, 2) := by decide +kernel
theorem dX11_fitting_38 : decode cX11_fitting 38 = .ok (.iload_n 1, 1) := by decide +kernel
theorem dX11_fitting_39 : decode cX11_fitting 39 = .ok (.if_icmp .gt 39, 3) := by decide +kernel
theorem dX11_fitting_42 : decode cX11_fitting 42 = .ok (.iload 5, 2) := by decide +kernel
theorem dX11_fitting_44 : decode cX11_fitting 44 = .ok (.ifCond .eq 34, 3) := by decide +kernel
theorem dX11_fitting_47 : decode cX11_fitting 47 = .ok (.aload 4, 2) := by decide +kernel
theorem dX11_fitting_49 : decode cX11_fitting 49 = .ok (.iconst 1, 1) := by decide +kernel
theorem dX11_fitting_50 : decode cX11_fitting 50 = .ok (.invokevirtual 321, 3) := by decide +kernel
theorem dX11_fitting_53 : decode cX11_fitting 53 = .ok (.aload_n 0, 1) := by decide +kernel
theorem dX11_fitting_54 : decode cX11_fitting 54 = .ok (.getfield 61, 3) := by decide +kernel
theorem dX11_fitting_57 : decode cX11_fitting 57 = .ok (.iload 6, 2) := by decide +kernel
theorem dX11_fitting_59 : decode cX11_fitting 59 = .ok (.aload 4, 2) := by decide +kernel
theorem dX11_fitting_61 : decode cX11_fitting 61 = .ok (.getfield 119, 3) := by decide +kernel
theorem dX11_fitting_64 : decode cX11_fitting 64 = .ok (.invokestatic 419, 3) := by decide +kernel
theorem dX11_fitting_67 : decode cX11_fitting 67 = .ok (.invokevirtual 422, 3) := by decide +kernel
theorem dX11_fitting_70 : decode cX11_fitting 70 = .ok (.istore 5, 2) := by decide +kernel
theorem dX11_fitting_72 : decode cX11_fitting 72 = .ok (.iinc 6 1, 3) := by decide +kernel
theorem dX11_fitting_75 : decode cX11_fitting 75 = .ok (.goto (-39), 3) := by decide +kernel
theorem dX11_fitting_78 : decode cX11_fitting 78 = .ok (.iload_n 2, 1) := by decide +kernel
theorem dX11_fitting_79 : decode cX11_fitting 79 = .ok (.iload 5, 2) := by decide +kernel
theorem dX11_fitting_81 : decode cX11_fitting 81 = .ok (.ifCond .eq 9, 3) := by decide +kernel
theorem dX11_fitting_84 : decode cX11_fitting 84 = .ok (.iconst 1, 1) := by decide +kernel
theorem dX11_fitting_85 : decode cX11_fitting 85 = .ok (.iload_n 3, 1) := by decide +kernel
theorem dX11_fitting_86 : decode cX11_fitting 86 = .ok (.ishl, 1) := by decide +kernel
theorem dX11_fitting_87 : decode cX11_fitting 87 = .ok (.goto 4, 3) := by decide +kernel
theorem dX11_fitting_90 : decode cX11_fitting 90 = .ok (.iconst 0, 1) := by decide +kernel
theorem dX11_fitting_91 : decode cX11_fitting 91 = .ok (.ior, 1) := by decide +kernel
theorem dX11_fitting_92 : decode cX11_fitting 92 = .ok (.istore_n 2, 1) := by decide +kernel
theorem dX11_fitting_93 : decode cX11_fitting 93 = .ok (.iinc 3 1, 3) := by decide +kernel
theorem dX11_fitting_96 : decode cX11_fitting 96 = .ok (.goto (-84), 3) := by decide +kernel
theorem dX11_fitting_99 : decode cX11_fitting 99 = .ok (.iload_n 2, 1) := by decide +kernel
theorem dX11_fitting_100 : decode cX11_fitting 100 = .ok (.ireturn, 1) := by decide +kernel
theorem dX11_kindOf_0 : decode cX11_kindOf 0 = .ok (.iload_n 0, 1) := by decide +kernel
theorem dX11_kindOf_1 : decode cX11_kindOf 1 = .ok (.iconst 0, 1) := by decide +kernel
theorem dX11_kindOf_2 : decode cX11_kindOf 2 = .ok (.iconst 5, 1) := by decide +kernel
theorem dX11_kindOf_3 : decode cX11_kindOf 3 = .ok (.invokestatic 306, 3) := by decide +kernel
theorem dX11_kindOf_6 : decode cX11_kindOf 6 = .ok (.ifCond .eq 7, 3) := by decide +kernel
theorem dX11_kindOf_9 : decode cX11_kindOf 9 = .ok (.iload_n 0, 1) := by decide +kernel
theorem dX11_kindOf_10 : decode cX11_kindOf 10 = .ok (.goto 5, 3) := by decide +kernel
theorem dX11_kindOf_13 : decode cX11_kindOf 13 = .ok (.bipush 6, 2) := by decide +kernel
theorem dX11_kindOf_15 : decode cX11_kindOf 15 = .ok (.ireturn, 1) := by decide +kernel
theorem dX11_groupByTick_0 : decode cX11_groupByTick 0 = .ok (.iconst 0, 1) := by decide +kernel
theorem dX11_groupByTick_1 : decode cX11_groupByTick 1 = .ok (.istore_n 2, 1) := by decide +kernel
theorem dX11_groupByTick_2 : decode cX11_groupByTick 2 = .ok (.iload_n 2, 1) := by decide +kernel
theorem dX11_groupByTick_3 : decode cX11_groupByTick 3 = .ok (.aload_n 0, 1) := by decide +kernel
theorem dX11_groupByTick_4 : decode cX11_groupByTick 4 = .ok (.getfield 76, 3) := by decide +kernel
theorem dX11_groupByTick_7 : decode cX11_groupByTick 7 = .ok (.arraylength, 1) := by decide +kernel
theorem dX11_groupByTick_8 : decode cX11_groupByTick 8 = .ok (.if_icmp .ge 16, 3) := by decide +kernel
theorem dX11_groupByTick_11 : decode cX11_groupByTick 11 = .ok (.aload_n 0, 1) := by decide +kernel
theorem dX11_groupByTick_12 : decode cX11_groupByTick 12 = .ok (.getfield 76, 3) := by decide +kernel
theorem dX11_groupByTick_15 : decode cX11_groupByTick 15 = .ok (.iload_n 2, 1) := by decide +kernel
theorem dX11_groupByTick_16 : decode cX11_groupByTick 16 = .ok (.iconst 0, 1) := by decide +kernel
theorem dX11_groupByTick_17 : decode cX11_groupByTick 17 = .ok (.iastore, 1) := by decide +kernel
theorem dX11_groupByTick_18 : decode cX11_groupByTick 18 = .ok (.iinc 2 1, 3) := by decide +kernel
theorem dX11_groupByTick_21 : decode cX11_groupByTick 21 = .ok (.goto (-19), 3) := by decide +kernel
theorem dX11_groupByTick_24 : decode cX11_groupByTick 24 = .ok (.iconst 0, 1) := by decide +kernel
theorem dX11_groupByTick_25 : decode cX11_groupByTick 25 = .ok (.istore_n 2, 1) := by decide +kernel
theorem dX11_groupByTick_26 : decode cX11_groupByTick 26 = .ok (.iload_n 2, 1) := by decide +kernel
theorem dX11_groupByTick_27 : decode cX11_groupByTick 27 = .ok (.bipush 20, 2) := by decide +kernel
theorem dX11_groupByTick_29 : decode cX11_groupByTick 29 = .ok (.if_icmp .gt 71, 3) := by decide +kernel
theorem dX11_groupByTick_32 : decode cX11_groupByTick 32 = .ok (.iload_n 1, 1) := by decide +kernel
theorem dX11_groupByTick_33 : decode cX11_groupByTick 33 = .ok (.iload_n 2, 1) := by decide +kernel
theorem dX11_groupByTick_34 : decode cX11_groupByTick 34 = .ok (.ishr, 1) := by decide +kernel
theorem dX11_groupByTick_35 : decode cX11_groupByTick 35 = .ok (.iconst 1, 1) := by decide +kernel
theorem dX11_groupByTick_36 : decode cX11_groupByTick 36 = .ok (.iand, 1) := by decide +kernel
theorem dX11_groupByTick_37 : decode cX11_groupByTick 37 = .ok (.iconst 1, 1) := by decide +kernel
theorem dX11_groupByTick_38 : decode cX11_groupByTick 38 = .ok (.if_icmp .ne 56, 3) := by decide +kernel
theorem dX11_groupByTick_41 : decode cX11_groupByTick 41 = .ok (.aload_n 0, 1) := by decide +kernel
theorem dX11_groupByTick_42 : decode cX11_groupByTick 42 = .ok (.invokevirtual 317, 3) := by decide +kernel
theorem dX11_groupByTick_45 : decode cX11_groupByTick 45 = .ok (.astore_n 3, 1) := by decide +kernel
theorem dX11_groupByTick_46 : decode cX11_groupByTick 46 = .ok (.aload_n 3, 1) := by decide +kernel
theorem dX11_groupByTick_47 : decode cX11_groupByTick 47 = .ok (.iload_n 2, 1) := by decide +kernel
theorem dX11_groupByTick_48 : decode cX11_groupByTick 48 = .ok (.putfield 145, 3) := by decide +kernel
theorem dX11_groupByTick_51 : decode cX11_groupByTick 51 = .ok (.iconst 1, 1) := by decide +kernel
theorem dX11_groupByTick_52 : decode cX11_groupByTick 52 = .ok (.istore 4, 2) := by decide +kernel
theorem dX11_groupByTick_54 : decode cX11_groupByTick 54 = .ok (.iload 4, 2) := by decide +kernel
theorem dX11_groupByTick_56 : decode cX11_groupByTick 56 = .ok (.bipush 60, 2) := by decide +kernel
theorem dX11_groupByTick_58 : decode cX11_groupByTick 58 = .ok (.if_icmp .gt 36, 3) := by decide +kernel
theorem dX11_groupByTick_61 : decode cX11_groupByTick 61 = .ok (.aload_n 3, 1) := by decide +kernel
theorem dX11_groupByTick_62 : decode cX11_groupByTick 62 = .ok (.iconst 1, 1) := by decide +kernel
theorem dX11_groupByTick_63 : decode cX11_groupByTick 63 = .ok (.invokevirtual 321, 3) := by decide +kernel
theorem dX11_groupByTick_66 : decode cX11_groupByTick 66 = .ok (.aload_n 0, 1) := by decide +kernel
theorem dX11_groupByTick_67 : decode cX11_groupByTick 67 = .ok (.getfield 76, 3) := by decide +kernel
theorem dX11_groupByTick_70 : decode cX11_groupByTick 70 = .ok (.iload 4, 2) := by decide +kernel
theorem dX11_groupByTick_72 : decode cX11_groupByTick 72 = .ok (.bipush 7, 2) := by decide +kernel
theorem dX11_groupByTick_74 : decode cX11_groupByTick 74 = .ok (.imul, 1) := by decide +kernel
theorem dX11_groupByTick_75 : decode cX11_groupByTick 75 = .ok (.aload_n 3, 1) := by decide +kernel
theorem dX11_groupByTick_76 : decode cX11_groupByTick 76 = .ok (.getfield 119, 3) := by decide +kernel
theorem dX11_groupByTick_79 : decode cX11_groupByTick 79 = .ok (.invokestatic 419, 3) := by decide +kernel
theorem dX11_groupByTick_82 : decode cX11_groupByTick 82 = .ok (.iadd, 1) := by decide +kernel
theorem dX11_groupByTick_83 : decode cX11_groupByTick 83 = .ok (.dup2, 1) := by decide +kernel
theorem dX11_groupByTick_84 : decode cX11_groupByTick 84 = .ok (.iaload, 1) := by decide +kernel
theorem dX11_groupByTick_85 : decode cX11_groupByTick 85 = .ok (.iconst 1, 1) := by decide +kernel
theorem dX11_groupByTick_86 : decode cX11_groupByTick 86 = .ok (.iadd, 1) := by decide +kernel
theorem dX11_groupByTick_87 : decode cX11_groupByTick 87 = .ok (.iastore, 1) := by decide +kernel
theorem dX11_groupByTick_88 : decode cX11_groupByTick 88 = .ok (.iinc 4 1, 3) := by decide +kernel
theorem dX11_groupByTick_91 : decode cX11_groupByTick 91 = .ok (.goto (-37), 3) := by decide +kernel
theorem dX11_groupByTick_94 : decode cX11_groupByTick 94 = .ok (.iinc 2 1, 3) := by decide +kernel
theorem dX11_groupByTick_97 : decode cX11_groupByTick 97 = .ok (.goto (-71), 3) := by decide +kernel
theorem dX11_groupByTick_100 : decode cX11_groupByTick 100 = .ok (.return_, 1) := by decide +kernel
theorem dX11_mostLeftAt_0 : decode cX11_mostLeftAt 0 = .ok (.iconst 0, 1) := by decide +kernel
theorem dX11_mostLeftAt_1 : decode cX11_mostLeftAt 1 = .ok (.istore_n 2, 1) := by decide +kernel
theorem dX11_mostLeftAt_2 : decode cX11_mostLeftAt 2 = .ok (.iconst 0, 1) := by decide +kernel
theorem dX11_mostLeftAt_3 : decode cX11_mostLeftAt 3 = .ok (.istore_n 3, 1) := by decide +kernel
theorem dX11_mostLeftAt_4 : decode cX11_mostLeftAt 4 = .ok (.iload_n 3, 1) := by decide +kernel
theorem dX11_mostLeftAt_5 : decode cX11_mostLeftAt 5 = .ok (.bipush 7, 2) := by decide +kernel
theorem dX11_mostLeftAt_7 : decode cX11_mostLeftAt 7 = .ok (.if_icmp .ge 25, 3) := by decide +kernel
theorem dX11_mostLeftAt_10 : decode cX11_mostLeftAt 10 = .ok (.iload_n 2, 1) := by decide +kernel
theorem dX11_mostLeftAt_11 : decode cX11_mostLeftAt 11 = .ok (.aload_n 0, 1) := by decide +kernel
theorem dX11_mostLeftAt_12 : decode cX11_mostLeftAt 12 = .ok (.getfield 76, 3) := by decide +kernel
theorem dX11_mostLeftAt_15 : decode cX11_mostLeftAt 15 = .ok (.iload_n 1, 1) := by decide +kernel
theorem dX11_mostLeftAt_16 : decode cX11_mostLeftAt 16 = .ok (.bipush 7, 2) := by decide +kernel
theorem dX11_mostLeftAt_18 : decode cX11_mostLeftAt 18 = .ok (.imul, 1) := by decide +kernel
theorem dX11_mostLeftAt_19 : decode cX11_mostLeftAt 19 = .ok (.iload_n 3, 1) := by decide +kernel
theorem dX11_mostLeftAt_20 : decode cX11_mostLeftAt 20 = .ok (.iadd, 1) := by decide +kernel
theorem dX11_mostLeftAt_21 : decode cX11_mostLeftAt 21 = .ok (.iaload, 1) := by decide +kernel
theorem dX11_mostLeftAt_22 : decode cX11_mostLeftAt 22 = .ok (.invokestatic 426, 3) := by decide +kernel
theorem dX11_mostLeftAt_25 : decode cX11_mostLeftAt 25 = .ok (.istore_n 2, 1) := by decide +kernel
theorem dX11_mostLeftAt_26 : decode cX11_mostLeftAt 26 = .ok (.iinc 3 1, 3) := by decide +kernel
theorem dX11_mostLeftAt_29 : decode cX11_mostLeftAt 29 = .ok (.goto (-25), 3) := by decide +kernel
theorem dX11_mostLeftAt_32 : decode cX11_mostLeftAt 32 = .ok (.iload_n 2, 1) := by decide +kernel
theorem dX11_mostLeftAt_33 : decode cX11_mostLeftAt 33 = .ok (.ireturn, 1) := by decide +kernel
theorem dX11_draw_0 : decode cX11_draw 0 = .ok (.aload_n 0, 1) := by decide +kernel
theorem dX11_draw_1 : decode cX11_draw 1 = .ok (.ldc2_w 429, 3) := by decide +kernel
theorem dX11_draw_4 : decode cX11_draw 4 = .ok (.aload_n 0, 1) := by decide +kernel
theorem dX11_draw_5 : decode cX11_draw 5 = .ok (.getfield 85, 3) := by decide +kernel
theorem dX11_draw_8 : decode cX11_draw 8 = .ok (.lmul, 1) := by decide +kernel
theorem dX11_draw_9 : decode cX11_draw 9 = .ok (.ldc2_w 431, 3) := by decide +kernel
theorem dX11_draw_12 : decode cX11_draw 12 = .ok (.ladd, 1) := by decide +kernel
theorem dX11_draw_13 : decode cX11_draw 13 = .ok (.ldc2_w 433, 3) := by decide +kernel
theorem dX11_draw_16 : decode cX11_draw 16 = .ok (.lrem, 1) := by decide +kernel
theorem dX11_draw_17 : decode cX11_draw 17 = .ok (.putfield 85, 3) := by decide +kernel
theorem dX11_draw_20 : decode cX11_draw 20 = .ok (.iload_n 1, 1) := by decide +kernel
theorem dX11_draw_21 : decode cX11_draw 21 = .ok (.ifCond .gt 7, 3) := by decide +kernel
theorem dX11_draw_24 : decode cX11_draw 24 = .ok (.iconst 0, 1) := by decide +kernel
theorem dX11_draw_25 : decode cX11_draw 25 = .ok (.goto 15, 3) := by decide +kernel
theorem dX11_draw_28 : decode cX11_draw 28 = .ok (.aload_n 0, 1) := by decide +kernel
theorem dX11_draw_29 : decode cX11_draw 29 = .ok (.getfield 85, 3) := by decide +kernel
theorem dX11_draw_32 : decode cX11_draw 32 = .ok (.ldc2_w 435, 3) := by decide +kernel
theorem dX11_draw_35 : decode cX11_draw 35 = .ok (.ldiv, 1) := by decide +kernel
theorem dX11_draw_36 : decode cX11_draw 36 = .ok (.iload_n 1, 1) := by decide +kernel
theorem dX11_draw_37 : decode cX11_draw 37 = .ok (.i2l, 1) := by decide +kernel
theorem dX11_draw_38 : decode cX11_draw 38 = .ok (.lrem, 1) := by decide +kernel
theorem dX11_draw_39 : decode cX11_draw 39 = .ok (.l2i, 1) := by decide +kernel
theorem dX11_draw_40 : decode cX11_draw 40 = .ok (.ireturn, 1) := by decide +kernel
theorem dX11_askByChance_0 : decode cX11_askByChance 0 = .ok (.aload_n 0, 1) := by decide +kernel
theorem dX11_askByChance_1 : decode cX11_askByChance 1 = .ok (.aload_n 0, 1) := by decide +kernel
theorem dX11_askByChance_2 : decode cX11_askByChance 2 = .ok (.getfield 10, 3) := by decide +kernel
theorem dX11_askByChance_5 : decode cX11_askByChance 5 = .ok (.getfield 125, 3) := by decide +kernel
theorem dX11_askByChance_8 : decode cX11_askByChance 8 = .ok (.invokevirtual 379, 3) := by decide +kernel
theorem dX11_askByChance_11 : decode cX11_askByChance 11 = .ok (.istore_n 1, 1) := by decide +kernel
theorem dX11_askByChance_12 : decode cX11_askByChance 12 = .ok (.aload_n 0, 1) := by decide +kernel
theorem dX11_askByChance_13 : decode cX11_askByChance 13 = .ok (.aload_n 0, 1) := by decide +kernel
theorem dX11_askByChance_14 : decode cX11_askByChance 14 = .ok (.getfield 10, 3) := by decide +kernel
theorem dX11_askByChance_17 : decode cX11_askByChance 17 = .ok (.getfield 122, 3) := by decide +kernel
theorem dX11_askByChance_20 : decode cX11_askByChance 20 = .ok (.invokevirtual 379, 3) := by decide +kernel
theorem dX11_askByChance_23 : decode cX11_askByChance 23 = .ok (.istore_n 2, 1) := by decide +kernel
theorem dX11_askByChance_24 : decode cX11_askByChance 24 = .ok (.aload_n 0, 1) := by decide +kernel
theorem dX11_askByChance_25 : decode cX11_askByChance 25 = .ok (.bipush 16, 2) := by decide +kernel
theorem dX11_askByChance_27 : decode cX11_askByChance 27 = .ok (.invokevirtual 379, 3) := by decide +kernel
theorem dX11_askByChance_30 : decode cX11_askByChance 30 = .ok (.iconst 1, 1) := by decide +kernel
theorem dX11_askByChance_31 : decode cX11_askByChance 31 = .ok (.iadd, 1) := by decide +kernel
theorem dX11_askByChance_32 : decode cX11_askByChance 32 = .ok (.istore_n 3, 1) := by decide +kernel
theorem dX11_askByChance_33 : decode cX11_askByChance 33 = .ok (.aload_n 0, 1) := by decide +kernel
theorem dX11_askByChance_34 : decode cX11_askByChance 34 = .ok (.getfield 40, 3) := by decide +kernel
theorem dX11_askByChance_37 : decode cX11_askByChance 37 = .ok (.iload_n 1, 1) := by decide +kernel
theorem dX11_askByChance_38 : decode cX11_askByChance 38 = .ok (.iload_n 2, 1) := by decide +kernel
theorem dX11_askByChance_39 : decode cX11_askByChance 39 = .ok (.iload_n 3, 1) := by decide +kernel
theorem dX11_askByChance_40 : decode cX11_askByChance 40 = .ok (.invokevirtual 369, 3) := by decide +kernel
theorem dX11_askByChance_43 : decode cX11_askByChance 43 = .ok (.ifCond .eq 15, 3) := by decide +kernel
theorem dX11_askByChance_46 : decode cX11_askByChance 46 = .ok (.aload_n 0, 1) := by decide +kernel
theorem dX11_askByChance_47 : decode cX11_askByChance 47 = .ok (.getfield 40, 3) := by decide +kernel
theorem dX11_askByChance_50 : decode cX11_askByChance 50 = .ok (.iload_n 1, 1) := by decide +kernel
theorem dX11_askByChance_51 : decode cX11_askByChance 51 = .ok (.iload_n 2, 1) := by decide +kernel
theorem dX11_askByChance_52 : decode cX11_askByChance 52 = .ok (.iload_n 3, 1) := by decide +kernel
theorem dX11_askByChance_53 : decode cX11_askByChance 53 = .ok (.iconst (-1), 1) := by decide +kernel
theorem dX11_askByChance_54 : decode cX11_askByChance 54 = .ok (.invokevirtual 372, 3) := by decide +kernel
theorem dX11_askByChance_57 : decode cX11_askByChance 57 = .ok (.pop, 1) := by decide +kernel
theorem dX11_askByChance_58 : decode cX11_askByChance 58 = .ok (.return_, 1) := by decide +kernel
theorem dX11_bitsOfFloat_0 : decode cX11_bitsOfFloat 0 = .ok (.fload_n 0, 1) := by decide +kernel
theorem dX11_bitsOfFloat_1 : decode cX11_bitsOfFloat 1 = .ok (.fconst 0, 1) := by decide +kernel
theorem dX11_bitsOfFloat_2 : decode cX11_bitsOfFloat 2 = .ok (.fcmp .g, 1) := by decide +kernel
theorem dX11_bitsOfFloat_3 : decode cX11_bitsOfFloat 3 = .ok (.ifCond .ge 16, 3) := by decide +kernel
theorem dX11_bitsOfFloat_6 : decode cX11_bitsOfFloat 6 = .ok (.ldc_w 437, 3) := by decide +kernel
theorem dX11_bitsOfFloat_9 : decode cX11_bitsOfFloat 9 = .ok (.fconst 0, 1) := by decide +kernel
theorem dX11_bitsOfFloat_10 : decode cX11_bitsOfFloat 10 = .ok (.fload_n 0, 1) := by decide +kernel
theorem dX11_bitsOfFloat_11 : decode cX11_bitsOfFloat 11 = .ok (.fsub, 1) := by decide +kernel
theorem dX11_bitsOfFloat_12 : decode cX11_bitsOfFloat 12 = .ok (.invokestatic 438, 3) := by decide +kernel
theorem dX11_bitsOfFloat_15 : decode cX11_bitsOfFloat 15 = .ok (.ior, 1) := by decide +kernel
theorem dX11_bitsOfFloat_16 : decode cX11_bitsOfFloat 16 = .ok (.goto 7, 3) := by decide +kernel
theorem dX11_bitsOfFloat_19 : decode cX11_bitsOfFloat 19 = .ok (.fload_n 0, 1) := by decide +kernel
theorem dX11_bitsOfFloat_20 : decode cX11_bitsOfFloat 20 = .ok (.invokestatic 438, 3) := by decide +kernel
theorem dX11_bitsOfFloat_23 : decode cX11_bitsOfFloat 23 = .ok (.ireturn, 1) := by decide +kernel
theorem dX11_bitsOfPositive_0 : decode cX11_bitsOfPositive 0 = .ok (.fload_n 0, 1) := by decide +kernel
theorem dX11_bitsOfPositive_1 : decode cX11_bitsOfPositive 1 = .ok (.fconst 0, 1) := by decide +kernel
theorem dX11_bitsOfPositive_2 : decode cX11_bitsOfPositive 2 = .ok (.fcmp .l, 1) := by decide +kernel
theorem dX11_bitsOfPositive_3 : decode cX11_bitsOfPositive 3 = .ok (.ifCond .ne 5, 3) := by decide +kernel
theorem dX11_bitsOfPositive_6 : decode cX11_bitsOfPositive 6 = .ok (.iconst 0, 1) := by decide +kernel
theorem dX11_bitsOfPositive_7 : decode cX11_bitsOfPositive 7 = .ok (.ireturn, 1) := by decide +kernel
theorem dX11_bitsOfPositive_8 : decode cX11_bitsOfPositive 8 = .ok (.fload_n 0, 1) := by decide +kernel
theorem dX11_bitsOfPositive_9 : decode cX11_bitsOfPositive 9 = .ok (.fstore_n 1, 1) := by decide +kernel
theorem dX11_bitsOfPositive_10 : decode cX11_bitsOfPositive 10 = .ok (.bipush 127, 2) := by decide +kernel
theorem dX11_bitsOfPositive_12 : decode cX11_bitsOfPositive 12 = .ok (.istore_n 2, 1) := by decide +kernel
theorem dX11_bitsOfPositive_13 : decode cX11_bitsOfPositive 13 = .ok (.fload_n 1, 1) := by decide +kernel
theorem dX11_bitsOfPositive_14 : decode cX11_bitsOfPositive 14 = .ok (.fconst 2, 1) := by decide +kernel
theorem dX11_bitsOfPositive_15 : decode cX11_bitsOfPositive 15 = .ok (.fcmp .l, 1) := by decide +kernel
theorem dX11_bitsOfPositive_16 : decode cX11_bitsOfPositive 16 = .ok (.ifCond .lt 20, 3) := by decide +kernel
theorem dX11_bitsOfPositive_19 : decode cX11_bitsOfPositive 19 = .ok (.iload_n 2, 1) := by decide +kernel
theorem dX11_bitsOfPositive_20 : decode cX11_bitsOfPositive 20 = .ok (.sipush 254, 3) := by decide +kernel
theorem dX11_bitsOfPositive_23 : decode cX11_bitsOfPositive 23 = .ok (.if_icmp .ge 13, 3) := by decide +kernel
theorem dX11_bitsOfPositive_26 : decode cX11_bitsOfPositive 26 = .ok (.fload_n 1, 1) := by decide +kernel
theorem dX11_bitsOfPositive_27 : decode cX11_bitsOfPositive 27 = .ok (.fconst 2, 1) := by decide +kernel
theorem dX11_bitsOfPositive_28 : decode cX11_bitsOfPositive 28 = .ok (.fdiv, 1) := by decide +kernel
theorem dX11_bitsOfPositive_29 : decode cX11_bitsOfPositive 29 = .ok (.fstore_n 1, 1) := by decide +kernel
theorem dX11_bitsOfPositive_30 : decode cX11_bitsOfPositive 30 = .ok (.iinc 2 1, 3) := by decide +kernel
theorem dX11_bitsOfPositive_33 : decode cX11_bitsOfPositive 33 = .ok (.goto (-20), 3) := by decide +kernel
theorem dX11_bitsOfPositive_36 : decode cX11_bitsOfPositive 36 = .ok (.fload_n 1, 1) := by decide +kernel
theorem dX11_bitsOfPositive_37 : decode cX11_bitsOfPositive 37 = .ok (.fconst 1, 1) := by decide +kernel
theorem dX11_bitsOfPositive_38 : decode cX11_bitsOfPositive 38 = .ok (.fcmp .g, 1) := by decide +kernel
theorem dX11_bitsOfPositive_39 : decode cX11_bitsOfPositive 39 = .ok (.ifCond .ge 18, 3) := by decide +kernel
theorem dX11_bitsOfPositive_42 : decode cX11_bitsOfPositive 42 = .ok (.iload_n 2, 1) := by decide +kernel
theorem dX11_bitsOfPositive_43 : decode cX11_bitsOfPositive 43 = .ok (.iconst 1, 1) := by decide +kernel
theorem dX11_bitsOfPositive_44 : decode cX11_bitsOfPositive 44 = .ok (.if_icmp .le 13, 3) := by decide +kernel
theorem dX11_bitsOfPositive_47 : decode cX11_bitsOfPositive 47 = .ok (.fload_n 1, 1) := by decide +kernel
theorem dX11_bitsOfPositive_48 : decode cX11_bitsOfPositive 48 = .ok (.fconst 2, 1) := by decide +kernel
theorem dX11_bitsOfPositive_49 : decode cX11_bitsOfPositive 49 = .ok (.fmul, 1) := by decide +kernel
theorem dX11_bitsOfPositive_50 : decode cX11_bitsOfPositive 50 = .ok (.fstore_n 1, 1) := by decide +kernel
theorem dX11_bitsOfPositive_51 : decode cX11_bitsOfPositive 51 = .ok (.iinc 2 (-1), 3) := by decide +kernel
theorem dX11_bitsOfPositive_54 : decode cX11_bitsOfPositive 54 = .ok (.goto (-18), 3) := by decide +kernel
theorem dX11_bitsOfPositive_57 : decode cX11_bitsOfPositive 57 = .ok (.fload_n 1, 1) := by decide +kernel
theorem dX11_bitsOfPositive_58 : decode cX11_bitsOfPositive 58 = .ok (.ldc_w 441, 3) := by decide +kernel
theorem dX11_bitsOfPositive_61 : decode cX11_bitsOfPositive 61 = .ok (.fmul, 1) := by decide +kernel
theorem dX11_bitsOfPositive_62 : decode cX11_bitsOfPositive 62 = .ok (.f2i, 1) := by decide +kernel
theorem dX11_bitsOfPositive_63 : decode cX11_bitsOfPositive 63 = .ok (.istore_n 3, 1) := by decide +kernel
theorem dX11_bitsOfPositive_64 : decode cX11_bitsOfPositive 64 = .ok (.fload_n 1, 1) := by decide +kernel
theorem dX11_bitsOfPositive_65 : decode cX11_bitsOfPositive 65 = .ok (.fconst 1, 1) := by decide +kernel
theorem dX11_bitsOfPositive_66 : decode cX11_bitsOfPositive 66 = .ok (.fcmp .g, 1) := by decide +kernel
theorem dX11_bitsOfPositive_67 : decode cX11_bitsOfPositive 67 = .ok (.ifCond .ge 7, 3) := by decide +kernel
theorem dX11_bitsOfPositive_70 : decode cX11_bitsOfPositive 70 = .ok (.iload_n 3, 1) := by decide +kernel
theorem dX11_bitsOfPositive_71 : decode cX11_bitsOfPositive 71 = .ok (.goto 13, 3) := by decide +kernel
theorem dX11_bitsOfPositive_74 : decode cX11_bitsOfPositive 74 = .ok (.iload_n 2, 1) := by decide +kernel
theorem dX11_bitsOfPositive_75 : decode cX11_bitsOfPositive 75 = .ok (.bipush 23, 2) := by decide +kernel
theorem dX11_bitsOfPositive_77 : decode cX11_bitsOfPositive 77 = .ok (.ishl, 1) := by decide +kernel
theorem dX11_bitsOfPositive_78 : decode cX11_bitsOfPositive 78 = .ok (.iload_n 3, 1) := by decide +kernel
theorem dX11_bitsOfPositive_79 : decode cX11_bitsOfPositive 79 = .ok (.iadd, 1) := by decide +kernel
theorem dX11_bitsOfPositive_80 : decode cX11_bitsOfPositive 80 = .ok (.ldc_w 442, 3) := by decide +kernel
theorem dX11_bitsOfPositive_83 : decode cX11_bitsOfPositive 83 = .ok (.isub, 1) := by decide +kernel
theorem dX11_bitsOfPositive_84 : decode cX11_bitsOfPositive 84 = .ok (.ireturn, 1) := by decide +kernel
theorem dX11_bitsOfDouble_0 : decode cX11_bitsOfDouble 0 = .ok (.dload_n 0, 1) := by decide +kernel
theorem dX11_bitsOfDouble_1 : decode cX11_bitsOfDouble 1 = .ok (.dstore_n 2, 1) := by decide +kernel
theorem dX11_bitsOfDouble_2 : decode cX11_bitsOfDouble 2 = .ok (.ldc2_w 443, 3) := by decide +kernel
theorem dX11_bitsOfDouble_5 : decode cX11_bitsOfDouble 5 = .ok (.lstore 4, 2) := by decide +kernel
theorem dX11_bitsOfDouble_7 : decode cX11_bitsOfDouble 7 = .ok (.dload_n 2, 1) := by decide +kernel
theorem dX11_bitsOfDouble_8 : decode cX11_bitsOfDouble 8 = .ok (.ldc2_w 445, 3) := by decide +kernel
theorem dX11_bitsOfDouble_11 : decode cX11_bitsOfDouble 11 = .ok (.dcmp .l, 1) := by decide +kernel
theorem dX11_bitsOfDouble_12 : decode cX11_bitsOfDouble 12 = .ok (.ifCond .lt 27, 3) := by decide +kernel
theorem dX11_bitsOfDouble_15 : decode cX11_bitsOfDouble 15 = .ok (.lload 4, 2) := by decide +kernel
theorem dX11_bitsOfDouble_17 : decode cX11_bitsOfDouble 17 = .ok (.ldc2_w 447, 3) := by decide +kernel
theorem dX11_bitsOfDouble_20 : decode cX11_bitsOfDouble 20 = .ok (.lcmp, 1) := by decide +kernel
theorem dX11_bitsOfDouble_21 : decode cX11_bitsOfDouble 21 = .ok (.ifCond .ge 18, 3) := by decide +kernel
theorem dX11_bitsOfDouble_24 : decode cX11_bitsOfDouble 24 = .ok (.dload_n 2, 1) := by decide +kernel
theorem dX11_bitsOfDouble_25 : decode cX11_bitsOfDouble 25 = .ok (.ldc2_w 445, 3) := by decide +kernel
theorem dX11_bitsOfDouble_28 : decode cX11_bitsOfDouble 28 = .ok (.ddiv, 1) := by decide +kernel
theorem dX11_bitsOfDouble_29 : decode cX11_bitsOfDouble 29 = .ok (.dstore_n 2, 1) := by decide +kernel
theorem dX11_bitsOfDouble_30 : decode cX11_bitsOfDouble 30 = .ok (.lload 4, 2) := by decide +kernel
theorem dX11_bitsOfDouble_32 : decode cX11_bitsOfDouble 32 = .ok (.lconst 1, 1) := by decide +kernel
theorem dX11_bitsOfDouble_33 : decode cX11_bitsOfDouble 33 = .ok (.ladd, 1) := by decide +kernel
theorem dX11_bitsOfDouble_34 : decode cX11_bitsOfDouble 34 = .ok (.lstore 4, 2) := by decide +kernel
theorem dX11_bitsOfDouble_36 : decode cX11_bitsOfDouble 36 = .ok (.goto (-29), 3) := by decide +kernel
theorem dX11_bitsOfDouble_39 : decode cX11_bitsOfDouble 39 = .ok (.dload_n 2, 1) := by decide +kernel
theorem dX11_bitsOfDouble_40 : decode cX11_bitsOfDouble 40 = .ok (.ldc2_w 449, 3) := by decide +kernel
theorem dX11_bitsOfDouble_43 : decode cX11_bitsOfDouble 43 = .ok (.dmul, 1) := by decide +kernel
theorem dX11_bitsOfDouble_44 : decode cX11_bitsOfDouble 44 = .ok (.d2l, 1) := by decide +kernel
theorem dX11_bitsOfDouble_45 : decode cX11_bitsOfDouble 45 = .ok (.lstore 6, 2) := by decide +kernel
theorem dX11_bitsOfDouble_47 : decode cX11_bitsOfDouble 47 = .ok (.lload 4, 2) := by decide +kernel
theorem dX11_bitsOfDouble_49 : decode cX11_bitsOfDouble 49 = .ok (.bipush 52, 2) := by decide +kernel
theorem dX11_bitsOfDouble_51 : decode cX11_bitsOfDouble 51 = .ok (.lshl, 1) := by decide +kernel
theorem dX11_bitsOfDouble_52 : decode cX11_bitsOfDouble 52 = .ok (.lload 6, 2) := by decide +kernel
theorem dX11_bitsOfDouble_54 : decode cX11_bitsOfDouble 54 = .ok (.ladd, 1) := by decide +kernel
theorem dX11_bitsOfDouble_55 : decode cX11_bitsOfDouble 55 = .ok (.ldc2_w 451, 3) := by decide +kernel
theorem dX11_bitsOfDouble_58 : decode cX11_bitsOfDouble 58 = .ok (.lsub, 1) := by decide +kernel
theorem dX11_bitsOfDouble_59 : decode cX11_bitsOfDouble 59 = .ok (.lreturn, 1) := by decide +kernel
