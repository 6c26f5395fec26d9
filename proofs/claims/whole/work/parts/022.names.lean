theorem dX10_next_114 : decode cX10_next 114 = .ok (.goto 29, 3) := by decide +kernel
theorem dX10_next_117 : decode cX10_next 117 = .ok (.aload_n 0, 1) := by decide +kernel
theorem dX10_next_118 : decode cX10_next 118 = .ok (.iload_n 1, 1) := by decide +kernel
theorem dX10_next_119 : decode cX10_next 119 = .ok (.invokestatic 58, 3) := by decide +kernel
theorem dX10_next_122 : decode cX10_next 122 = .ok (.ifCond .eq 7, 3) := by decide +kernel
theorem dX10_next_125 : decode cX10_next 125 = .ok (.iload_n 1, 1) := by decide +kernel
theorem dX10_next_126 : decode cX10_next 126 = .ok (.goto 4, 3) := by decide +kernel
theorem dX10_next_129 : decode cX10_next 129 = .ok (.iconst 3, 1) := by decide +kernel
theorem dX10_next_130 : decode cX10_next 130 = .ok (.putfield 36, 3) := by decide +kernel
theorem dX10_next_133 : decode cX10_next 133 = .ok (.aload_n 0, 1) := by decide +kernel
theorem dX10_next_134 : decode cX10_next 134 = .ok (.aload_n 0, 1) := by decide +kernel
theorem dX10_next_135 : decode cX10_next 135 = .ok (.getfield 33, 3) := by decide +kernel
theorem dX10_next_138 : decode cX10_next 138 = .ok (.iconst 1, 1) := by decide +kernel
theorem dX10_next_139 : decode cX10_next 139 = .ok (.iadd, 1) := by decide +kernel
theorem dX10_next_140 : decode cX10_next 140 = .ok (.putfield 23, 3) := by decide +kernel
theorem dX10_next_143 : decode cX10_next 143 = .ok (.return_, 1) := by decide +kernel
theorem dX10_isWord_0 : decode cX10_isWord 0 = .ok (.aload_n 0, 1) := by decide +kernel
theorem dX10_isWord_1 : decode cX10_isWord 1 = .ok (.getfield 36, 3) := by decide +kernel
theorem dX10_isWord_4 : decode cX10_isWord 4 = .ok (.iconst 1, 1) := by decide +kernel
theorem dX10_isWord_5 : decode cX10_isWord 5 = .ok (.if_icmp .ne 19, 3) := by decide +kernel
theorem dX10_isWord_8 : decode cX10_isWord 8 = .ok (.aload_n 0, 1) := by decide +kernel
theorem dX10_isWord_9 : decode cX10_isWord 9 = .ok (.getfield 23, 3) := by decide +kernel
theorem dX10_isWord_12 : decode cX10_isWord 12 = .ok (.aload_n 0, 1) := by decide +kernel
theorem dX10_isWord_13 : decode cX10_isWord 13 = .ok (.getfield 33, 3) := by decide +kernel
theorem dX10_isWord_16 : decode cX10_isWord 16 = .ok (.isub, 1) := by decide +kernel
theorem dX10_isWord_17 : decode cX10_isWord 17 = .ok (.aload_n 1, 1) := by decide +kernel
theorem dX10_isWord_18 : decode cX10_isWord 18 = .ok (.invokevirtual 61, 3) := by decide +kernel
theorem dX10_isWord_21 : decode cX10_isWord 21 = .ok (.if_icmp .eq 5, 3) := by decide +kernel
theorem dX10_isWord_24 : decode cX10_isWord 24 = .ok (.iconst 0, 1) := by decide +kernel
theorem dX10_isWord_25 : decode cX10_isWord 25 = .ok (.ireturn, 1) := by decide +kernel
theorem dX10_isWord_26 : decode cX10_isWord 26 = .ok (.iconst 0, 1) := by decide +kernel
theorem dX10_isWord_27 : decode cX10_isWord 27 = .ok (.istore_n 2, 1) := by decide +kernel
theorem dX10_isWord_28 : decode cX10_isWord 28 = .ok (.iload_n 2, 1) := by decide +kernel
theorem dX10_isWord_29 : decode cX10_isWord 29 = .ok (.aload_n 1, 1) := by decide +kernel
theorem dX10_isWord_30 : decode cX10_isWord 30 = .ok (.invokevirtual 61, 3) := by decide +kernel
theorem dX10_isWord_33 : decode cX10_isWord 33 = .ok (.if_icmp .ge 30, 3) := by decide +kernel
theorem dX10_isWord_36 : decode cX10_isWord 36 = .ok (.aload_n 1, 1) := by decide +kernel
theorem dX10_isWord_37 : decode cX10_isWord 37 = .ok (.iload_n 2, 1) := by decide +kernel
theorem dX10_isWord_38 : decode cX10_isWord 38 = .ok (.invokevirtual 66, 3) := by decide +kernel
theorem dX10_isWord_41 : decode cX10_isWord 41 = .ok (.aload_n 0, 1) := by decide +kernel
theorem dX10_isWord_42 : decode cX10_isWord 42 = .ok (.getfield 7, 3) := by decide +kernel
theorem dX10_isWord_45 : decode cX10_isWord 45 = .ok (.aload_n 0, 1) := by decide +kernel
theorem dX10_isWord_46 : decode cX10_isWord 46 = .ok (.getfield 33, 3) := by decide +kernel
theorem dX10_isWord_49 : decode cX10_isWord 49 = .ok (.iload_n 2, 1) := by decide +kernel
theorem dX10_isWord_50 : decode cX10_isWord 50 = .ok (.iadd, 1) := by decide +kernel
theorem dX10_isWord_51 : decode cX10_isWord 51 = .ok (.iaload, 1) := by decide +kernel
theorem dX10_isWord_52 : decode cX10_isWord 52 = .ok (.if_icmp .eq 5, 3) := by decide +kernel
theorem dX10_isWord_55 : decode cX10_isWord 55 = .ok (.iconst 0, 1) := by decide +kernel
theorem dX10_isWord_56 : decode cX10_isWord 56 = .ok (.ireturn, 1) := by decide +kernel
theorem dX10_isWord_57 : decode cX10_isWord 57 = .ok (.iinc 2 1, 3) := by decide +kernel
theorem dX10_isWord_60 : decode cX10_isWord 60 = .ok (.goto (-32), 3) := by decide +kernel
theorem dX10_isWord_63 : decode cX10_isWord 63 = .ok (.iconst 1, 1) := by decide +kernel
theorem dX10_isWord_64 : decode cX10_isWord 64 = .ok (.ireturn, 1) := by decide +kernel
theorem dX10_blanksEnd_0 : decode cX10_blanksEnd 0 = .ok (.iload_n 1, 1) := by decide +kernel
theorem dX10_blanksEnd_1 : decode cX10_blanksEnd 1 = .ok (.istore_n 2, 1) := by decide +kernel
theorem dX10_blanksEnd_2 : decode cX10_blanksEnd 2 = .ok (.iload_n 2, 1) := by decide +kernel
theorem dX10_blanksEnd_3 : decode cX10_blanksEnd 3 = .ok (.aload_n 0, 1) := by decide +kernel
theorem dX10_blanksEnd_4 : decode cX10_blanksEnd 4 = .ok (.getfield 19, 3) := by decide +kernel
theorem dX10_blanksEnd_7 : decode cX10_blanksEnd 7 = .ok (.if_icmp .ge 31, 3) := by decide +kernel
theorem dX10_blanksEnd_10 : decode cX10_blanksEnd 10 = .ok (.aload_n 0, 1) := by decide +kernel
theorem dX10_blanksEnd_11 : decode cX10_blanksEnd 11 = .ok (.getfield 7, 3) := by decide +kernel
theorem dX10_blanksEnd_14 : decode cX10_blanksEnd 14 = .ok (.iload_n 2, 1) := by decide +kernel
theorem dX10_blanksEnd_15 : decode cX10_blanksEnd 15 = .ok (.iaload, 1) := by decide +kernel
theorem dX10_blanksEnd_16 : decode cX10_blanksEnd 16 = .ok (.bipush 32, 2) := by decide +kernel
theorem dX10_blanksEnd_18 : decode cX10_blanksEnd 18 = .ok (.if_icmp .eq 14, 3) := by decide +kernel
theorem dX10_blanksEnd_21 : decode cX10_blanksEnd 21 = .ok (.aload_n 0, 1) := by decide +kernel
theorem dX10_blanksEnd_22 : decode cX10_blanksEnd 22 = .ok (.getfield 7, 3) := by decide +kernel
theorem dX10_blanksEnd_25 : decode cX10_blanksEnd 25 = .ok (.iload_n 2, 1) := by decide +kernel
theorem dX10_blanksEnd_26 : decode cX10_blanksEnd 26 = .ok (.iaload, 1) := by decide +kernel
theorem dX10_blanksEnd_27 : decode cX10_blanksEnd 27 = .ok (.bipush 10, 2) := by decide +kernel
theorem dX10_blanksEnd_29 : decode cX10_blanksEnd 29 = .ok (.if_icmp .ne 9, 3) := by decide +kernel
theorem dX10_blanksEnd_32 : decode cX10_blanksEnd 32 = .ok (.iinc 2 1, 3) := by decide +kernel
theorem dX10_blanksEnd_35 : decode cX10_blanksEnd 35 = .ok (.goto (-33), 3) := by decide +kernel
theorem dX10_blanksEnd_38 : decode cX10_blanksEnd 38 = .ok (.iload_n 2, 1) := by decide +kernel
theorem dX10_blanksEnd_39 : decode cX10_blanksEnd 39 = .ok (.ireturn, 1) := by decide +kernel
theorem dX10_lettersEnd_0 : decode cX10_lettersEnd 0 = .ok (.iload_n 1, 1) := by decide +kernel
theorem dX10_lettersEnd_1 : decode cX10_lettersEnd 1 = .ok (.istore_n 2, 1) := by decide +kernel
theorem dX10_lettersEnd_2 : decode cX10_lettersEnd 2 = .ok (.iload_n 2, 1) := by decide +kernel
theorem dX10_lettersEnd_3 : decode cX10_lettersEnd 3 = .ok (.aload_n 0, 1) := by decide +kernel
theorem dX10_lettersEnd_4 : decode cX10_lettersEnd 4 = .ok (.getfield 19, 3) := by decide +kernel
theorem dX10_lettersEnd_7 : decode cX10_lettersEnd 7 = .ok (.if_icmp .ge 21, 3) := by decide +kernel
theorem dX10_lettersEnd_10 : decode cX10_lettersEnd 10 = .ok (.aload_n 0, 1) := by decide +kernel
theorem dX10_lettersEnd_11 : decode cX10_lettersEnd 11 = .ok (.getfield 7, 3) := by decide +kernel
theorem dX10_lettersEnd_14 : decode cX10_lettersEnd 14 = .ok (.iload_n 2, 1) := by decide +kernel
theorem dX10_lettersEnd_15 : decode cX10_lettersEnd 15 = .ok (.iaload, 1) := by decide +kernel
theorem dX10_lettersEnd_16 : decode cX10_lettersEnd 16 = .ok (.invokestatic 39, 3) := by decide +kernel
theorem dX10_lettersEnd_19 : decode cX10_lettersEnd 19 = .ok (.ifCond .eq 9, 3) := by decide +kernel
theorem dX10_lettersEnd_22 : decode cX10_lettersEnd 22 = .ok (.iinc 2 1, 3) := by decide +kernel
theorem dX10_lettersEnd_25 : decode cX10_lettersEnd 25 = .ok (.goto (-23), 3) := by decide +kernel
theorem dX10_lettersEnd_28 : decode cX10_lettersEnd 28 = .ok (.iload_n 2, 1) := by decide +kernel
theorem dX10_lettersEnd_29 : decode cX10_lettersEnd 29 = .ok (.ireturn, 1) := by decide +kernel
theorem dX10_digitsEnd_0 : decode cX10_digitsEnd 0 = .ok (.iload_n 1, 1) := by decide +kernel
theorem dX10_digitsEnd_1 : decode cX10_digitsEnd 1 = .ok (.istore_n 2, 1) := by decide +kernel
theorem dX10_digitsEnd_2 : decode cX10_digitsEnd 2 = .ok (.iload_n 2, 1) := by decide +kernel
theorem dX10_digitsEnd_3 : decode cX10_digitsEnd 3 = .ok (.aload_n 0, 1) := by decide +kernel
theorem dX10_digitsEnd_4 : decode cX10_digitsEnd 4 = .ok (.getfield 19, 3) := by decide +kernel
theorem dX10_digitsEnd_7 : decode cX10_digitsEnd 7 = .ok (.if_icmp .ge 21, 3) := by decide +kernel
theorem dX10_digitsEnd_10 : decode cX10_digitsEnd 10 = .ok (.aload_n 0, 1) := by decide +kernel
theorem dX10_digitsEnd_11 : decode cX10_digitsEnd 11 = .ok (.getfield 7, 3) := by decide +kernel
theorem dX10_digitsEnd_14 : decode cX10_digitsEnd 14 = .ok (.iload_n 2, 1) := by decide +kernel
theorem dX10_digitsEnd_15 : decode cX10_digitsEnd 15 = .ok (.iaload, 1) := by decide +kernel
theorem dX10_digitsEnd_16 : decode cX10_digitsEnd 16 = .ok (.invokestatic 46, 3) := by decide +kernel
theorem dX10_digitsEnd_19 : decode cX10_digitsEnd 19 = .ok (.ifCond .eq 9, 3) := by decide +kernel
theorem dX10_digitsEnd_22 : decode cX10_digitsEnd 22 = .ok (.iinc 2 1, 3) := by decide +kernel
theorem dX10_digitsEnd_25 : decode cX10_digitsEnd 25 = .ok (.goto (-23), 3) := by decide +kernel
theorem dX10_digitsEnd_28 : decode cX10_digitsEnd 28 = .ok (.iload_n 2, 1) := by decide +kernel
theorem dX10_digitsEnd_29 : decode cX10_digitsEnd 29 = .ok (.ireturn, 1) := by decide +kernel
theorem dX10_valueOf_0 : decode cX10_valueOf 0 = .ok (.iload_n 2, 1) := by decide +kernel
theorem dX10_valueOf_1 : decode cX10_valueOf 1 = .ok (.iload_n 1, 1) := by decide +kernel
theorem dX10_valueOf_2 : decode cX10_valueOf 2 = .ok (.isub, 1) := by decide +kernel
theorem dX10_valueOf_3 : decode cX10_valueOf 3 = .ok (.iconst 4, 1) := by decide +kernel
theorem dX10_valueOf_4 : decode cX10_valueOf 4 = .ok (.if_icmp .le 7, 3) := by decide +kernel
theorem dX10_valueOf_7 : decode cX10_valueOf 7 = .ok (.sipush 10000, 3) := by decide +kernel
theorem dX10_valueOf_10 : decode cX10_valueOf 10 = .ok (.ireturn, 1) := by decide +kernel
theorem dX10_valueOf_11 : decode cX10_valueOf 11 = .ok (.iconst 0, 1) := by decide +kernel
theorem dX10_valueOf_12 : decode cX10_valueOf 12 = .ok (.istore_n 3, 1) := by decide +kernel
theorem dX10_valueOf_13 : decode cX10_valueOf 13 = .ok (.iload_n 1, 1) := by decide +kernel
theorem dX10_valueOf_14 : decode cX10_valueOf 14 = .ok (.istore 4, 2) := by decide +kernel
theorem dX10_valueOf_16 : decode cX10_valueOf 16 = .ok (.iload 4, 2) := by decide +kernel
theorem dX10_valueOf_18 : decode cX10_valueOf 18 = .ok (.iload_n 2, 1) := by decide +kernel
theorem dX10_valueOf_19 : decode cX10_valueOf 19 = .ok (.if_icmp .ge 25, 3) := by decide +kernel
theorem dX10_valueOf_22 : decode cX10_valueOf 22 = .ok (.iload_n 3, 1) := by decide +kernel
theorem dX10_valueOf_23 : decode cX10_valueOf 23 = .ok (.bipush 10, 2) := by decide +kernel
theorem dX10_valueOf_25 : decode cX10_valueOf 25 = .ok (.imul, 1) := by decide +kernel
theorem dX10_valueOf_26 : decode cX10_valueOf 26 = .ok (.aload_n 0, 1) := by decide +kernel
theorem dX10_valueOf_27 : decode cX10_valueOf 27 = .ok (.getfield 7, 3) := by decide +kernel
theorem dX10_valueOf_30 : decode cX10_valueOf 30 = .ok (.iload 4, 2) := by decide +kernel
theorem dX10_valueOf_32 : decode cX10_valueOf 32 = .ok (.iaload, 1) := by decide +kernel
theorem dX10_valueOf_33 : decode cX10_valueOf 33 = .ok (.iadd, 1) := by decide +kernel
theorem dX10_valueOf_34 : decode cX10_valueOf 34 = .ok (.bipush 48, 2) := by decide +kernel
theorem dX10_valueOf_36 : decode cX10_valueOf 36 = .ok (.isub, 1) := by decide +kernel
theorem dX10_valueOf_37 : decode cX10_valueOf 37 = .ok (.istore_n 3, 1) := by decide +kernel
theorem dX10_valueOf_38 : decode cX10_valueOf 38 = .ok (.iinc 4 1, 3) := by decide +kernel
theorem dX10_valueOf_41 : decode cX10_valueOf 41 = .ok (.goto (-25), 3) := by decide +kernel
theorem dX10_valueOf_44 : decode cX10_valueOf 44 = .ok (.iload_n 3, 1) := by decide +kernel
theorem dX10_valueOf_45 : decode cX10_valueOf 45 = .ok (.ireturn, 1) := by decide +kernel
theorem dX10_isLetter_0 : decode cX10_isLetter 0 = .ok (.iload_n 0, 1) := by decide +kernel
theorem dX10_isLetter_1 : decode cX10_isLetter 1 = .ok (.bipush 97, 2) := by decide +kernel
theorem dX10_isLetter_3 : decode cX10_isLetter 3 = .ok (.if_icmp .lt 13, 3) := by decide +kernel
theorem dX10_isLetter_6 : decode cX10_isLetter 6 = .ok (.iload_n 0, 1) := by decide +kernel
theorem dX10_isLetter_7 : decode cX10_isLetter 7 = .ok (.bipush 122, 2) := by decide +kernel
theorem dX10_isLetter_9 : decode cX10_isLetter 9 = .ok (.if_icmp .gt 7, 3) := by decide +kernel
theorem dX10_isLetter_12 : decode cX10_isLetter 12 = .ok (.iconst 1, 1) := by decide +kernel
theorem dX10_isLetter_13 : decode cX10_isLetter 13 = .ok (.goto 4, 3) := by decide +kernel
theorem dX10_isLetter_16 : decode cX10_isLetter 16 = .ok (.iconst 0, 1) := by decide +kernel
theorem dX10_isLetter_17 : decode cX10_isLetter 17 = .ok (.ireturn, 1) := by decide +kernel
theorem dX10_isDigit_0 : decode cX10_isDigit 0 = .ok (.iload_n 0, 1) := by decide +kernel
theorem dX10_isDigit_1 : decode cX10_isDigit 1 = .ok (.bipush 48, 2) := by decide +kernel
theorem dX10_isDigit_3 : decode cX10_isDigit 3 = .ok (.if_icmp .lt 13, 3) := by decide +kernel
theorem dX10_isDigit_6 : decode cX10_isDigit 6 = .ok (.iload_n 0, 1) := by decide +kernel
theorem dX10_isDigit_7 : decode cX10_isDigit 7 = .ok (.bipush 57, 2) := by decide +kernel
theorem dX10_isDigit_9 : decode cX10_isDigit 9 = .ok (.if_icmp .gt 7, 3) := by decide +kernel
theorem dX10_isDigit_12 : decode cX10_isDigit 12 = .ok (.iconst 1, 1) := by decide +kernel
theorem dX10_isDigit_13 : decode cX10_isDigit 13 = .ok (.goto 4, 3) := by decide +kernel
theorem dX10_isDigit_16 : decode cX10_isDigit 16 = .ok (.iconst 0, 1) := by decide +kernel
theorem dX10_isDigit_17 : decode cX10_isDigit 17 = .ok (.ireturn, 1) := by decide +kernel
theorem dX10_isSign_0 : decode cX10_isSign 0 = .ok (.iload_n 0, 1) := by decide +kernel
theorem dX10_isSign_1 : decode cX10_isSign 1 = .ok (.ifCond .le 24, 3) := by decide +kernel
theorem dX10_isSign_4 : decode cX10_isSign 4 = .ok (.iload_n 0, 1) := by decide +kernel
theorem dX10_isSign_5 : decode cX10_isSign 5 = .ok (.sipush 128, 3) := by decide +kernel
theorem dX10_isSign_8 : decode cX10_isSign 8 = .ok (.if_icmp .ge 17, 3) := by decide +kernel
theorem dX10_isSign_11 : decode cX10_isSign 11 = .ok (.ldc 70, 2) := by decide +kernel
theorem dX10_isSign_13 : decode cX10_isSign 13 = .ok (.iload_n 0, 1) := by decide +kernel
theorem dX10_isSign_14 : decode cX10_isSign 14 = .ok (.i2c, 1) := by decide +kernel
theorem dX10_isSign_15 : decode cX10_isSign 15 = .ok (.invokevirtual 72, 3) := by decide +kernel
theorem dX10_isSign_18 : decode cX10_isSign 18 = .ok (.ifCond .lt 7, 3) := by decide +kernel
theorem dX10_isSign_21 : decode cX10_isSign 21 = .ok (.iconst 1, 1) := by decide +kernel
theorem dX10_isSign_22 : decode cX10_isSign 22 = .ok (.goto 4, 3) := by decide +kernel
theorem dX10_isSign_25 : decode cX10_isSign 25 = .ok (.iconst 0, 1) := by decide +kernel
theorem dX10_isSign_26 : decode cX10_isSign 26 = .ok (.ireturn, 1) := by decide +kernel
theorem dX11_init_0 : decode cX11_init 0 = .ok (.aload_n 0, 1) := by decide +kernel
theorem dX11_init_1 : decode cX11_init 1 = .ok (.invokespecial 3, 3) := by decide +kernel
theorem dX11_init_4 : decode cX11_init 4 = .ok (.aload_n 0, 1) := by decide +kernel
theorem dX11_init_5 : decode cX11_init 5 = .ok (.sipush 700, 3) := by decide +kernel
theorem dX11_init_8 : decode cX11_init 8 = .ok (.newarray .int, 2) := by decide +kernel
theorem dX11_init_10 : decode cX11_init 10 = .ok (.putfield 9, 3) := by decide +kernel
theorem dX11_init_13 : decode cX11_init 13 = .ok (.aload_n 0, 1) := by decide +kernel
theorem dX11_init_14 : decode cX11_init 14 = .ok (.iconst (-1), 1) := by decide +kernel
theorem dX11_init_15 : decode cX11_init 15 = .ok (.putfield 13, 3) := by decide +kernel
theorem dX11_init_18 : decode cX11_init 18 = .ok (.aload_n 0, 1) := by decide +kernel
theorem dX11_init_19 : decode cX11_init 19 = .ok (.new 17, 3) := by decide +kernel
theorem dX11_init_22 : decode cX11_init 22 = .ok (.dup, 1) := by decide +kernel
theorem dX11_init_23 : decode cX11_init 23 = .ok (.invokespecial 19, 3) := by decide +kernel
theorem dX11_init_26 : decode cX11_init 26 = .ok (.putfield 20, 3) := by decide +kernel
theorem dX11_init_29 : decode cX11_init 29 = .ok (.aload_n 0, 1) := by decide +kernel
theorem dX11_init_30 : decode cX11_init 30 = .ok (.new 17, 3) := by decide +kernel
theorem dX11_init_33 : decode cX11_init 33 = .ok (.dup, 1) := by decide +kernel
theorem dX11_init_34 : decode cX11_init 34 = .ok (.invokespecial 19, 3) := by decide +kernel
theorem dX11_init_37 : decode cX11_init 37 = .ok (.putfield 24, 3) := by decide +kernel
theorem dX11_init_40 : decode cX11_init 40 = .ok (.aload_n 0, 1) := by decide +kernel
theorem dX11_init_41 : decode cX11_init 41 = .ok (.new 27, 3) := by decide +kernel
theorem dX11_init_44 : decode cX11_init 44 = .ok (.dup, 1) := by decide +kernel
theorem dX11_init_45 : decode cX11_init 45 = .ok (.new 29, 3) := by decide +kernel
theorem dX11_init_48 : decode cX11_init 48 = .ok (.dup, 1) := by decide +kernel
theorem dX11_init_49 : decode cX11_init 49 = .ok (.aload_n 0, 1) := by decide +kernel
theorem dX11_init_50 : decode cX11_init 50 = .ok (.getfield 9, 3) := by decide +kernel
theorem dX11_init_53 : decode cX11_init 53 = .ok (.invokespecial 31, 3) := by decide +kernel
theorem dX11_init_56 : decode cX11_init 56 = .ok (.aload_n 0, 1) := by decide +kernel
theorem dX11_init_57 : decode cX11_init 57 = .ok (.getfield 24, 3) := by decide +kernel
theorem dX11_init_60 : decode cX11_init 60 = .ok (.invokespecial 34, 3) := by decide +kernel
theorem dX11_init_63 : decode cX11_init 63 = .ok (.putfield 37, 3) := by decide +kernel
theorem dX11_init_66 : decode cX11_init 66 = .ok (.aload_n 0, 1) := by decide +kernel
theorem dX11_init_67 : decode cX11_init 67 = .ok (.new 41, 3) := by decide +kernel
theorem dX11_init_70 : decode cX11_init 70 = .ok (.dup, 1) := by decide +kernel
theorem dX11_init_71 : decode cX11_init 71 = .ok (.aload_n 0, 1) := by decide +kernel
theorem dX11_init_72 : decode cX11_init 72 = .ok (.getfield 20, 3) := by decide +kernel
theorem dX11_init_75 : decode cX11_init 75 = .ok (.invokespecial 43, 3) := by decide +kernel
theorem dX11_init_78 : decode cX11_init 78 = .ok (.putfield 46, 3) := by decide +kernel
theorem dX11_init_81 : decode cX11_init 81 = .ok (.aload_n 0, 1) := by decide +kernel
theorem dX11_init_82 : decode cX11_init 82 = .ok (.new 41, 3) := by decide +kernel
theorem dX11_init_85 : decode cX11_init 85 = .ok (.dup, 1) := by decide +kernel
theorem dX11_init_86 : decode cX11_init 86 = .ok (.aload_n 0, 1) := by decide +kernel
theorem dX11_init_87 : decode cX11_init 87 = .ok (.getfield 20, 3) := by decide +kernel
theorem dX11_init_90 : decode cX11_init 90 = .ok (.invokespecial 43, 3) := by decide +kernel
theorem dX11_init_93 : decode cX11_init 93 = .ok (.putfield 50, 3) := by decide +kernel
theorem dX11_init_96 : decode cX11_init 96 = .ok (.new 53, 3) := by decide +kernel
theorem dX11_init_99 : decode cX11_init 99 = .ok (.dup, 1) := by decide +kernel
theorem dX11_init_100 : decode cX11_init 100 = .ok (.aload_n 0, 1) := by decide +kernel
theorem dX11_init_101 : decode cX11_init 101 = .ok (.getfield 20, 3) := by decide +kernel
theorem dX11_init_104 : decode cX11_init 104 = .ok (.invokespecial 55, 3) := by decide +kernel
theorem dX11_init_107 : decode cX11_init 107 = .ok (.astore_n 1, 1) := by decide +kernel
theorem dX11_init_108 : decode cX11_init 108 = .ok (.aload_n 0, 1) := by decide +kernel
theorem dX11_init_109 : decode cX11_init 109 = .ok (.new 56, 3) := by decide +kernel
theorem dX11_init_112 : decode cX11_init 112 = .ok (.dup, 1) := by decide +kernel
theorem dX11_init_113 : decode cX11_init 113 = .ok (.aload_n 0, 1) := by decide +kernel
theorem dX11_init_114 : decode cX11_init 114 = .ok (.getfield 46, 3) := by decide +kernel
theorem dX11_init_117 : decode cX11_init 117 = .ok (.getfield 58, 3) := by decide +kernel
theorem dX11_init_120 : decode cX11_init 120 = .ok (.aload_n 1, 1) := by decide +kernel
theorem dX11_init_121 : decode cX11_init 121 = .ok (.invokespecial 62, 3) := by decide +kernel
theorem dX11_init_124 : decode cX11_init 124 = .ok (.putfield 65, 3) := by decide +kernel
theorem dX11_init_127 : decode cX11_init 127 = .ok (.aload_n 0, 1) := by decide +kernel
theorem dX11_init_128 : decode cX11_init 128 = .ok (.new 69, 3) := by decide +kernel
theorem dX11_init_131 : decode cX11_init 131 = .ok (.dup, 1) := by decide +kernel
theorem dX11_init_132 : decode cX11_init 132 = .ok (.aload_n 0, 1) := by decide +kernel
theorem dX11_init_133 : decode cX11_init 133 = .ok (.getfield 46, 3) := by decide +kernel
theorem dX11_init_136 : decode cX11_init 136 = .ok (.getfield 58, 3) := by decide +kernel
theorem dX11_init_139 : decode cX11_init 139 = .ok (.invokespecial 71, 3) := by decide +kernel
theorem dX11_init_142 : decode cX11_init 142 = .ok (.putfield 74, 3) := by decide +kernel
theorem dX11_init_145 : decode cX11_init 145 = .ok (.aload_n 0, 1) := by decide +kernel
theorem dX11_init_146 : decode cX11_init 146 = .ok (.new 78, 3) := by decide +kernel
theorem dX11_init_149 : decode cX11_init 149 = .ok (.dup, 1) := by decide +kernel
theorem dX11_init_150 : decode cX11_init 150 = .ok (.aload_n 0, 1) := by decide +kernel
theorem dX11_init_151 : decode cX11_init 151 = .ok (.getfield 46, 3) := by decide +kernel
theorem dX11_init_154 : decode cX11_init 154 = .ok (.getfield 58, 3) := by decide +kernel
theorem dX11_init_157 : decode cX11_init 157 = .ok (.aload_n 0, 1) := by decide +kernel
theorem dX11_init_158 : decode cX11_init 158 = .ok (.getfield 46, 3) := by decide +kernel
theorem dX11_init_161 : decode cX11_init 161 = .ok (.getfield 80, 3) := by decide +kernel
theorem dX11_init_164 : decode cX11_init 164 = .ok (.aload_n 1, 1) := by decide +kernel
theorem dX11_init_165 : decode cX11_init 165 = .ok (.invokespecial 84, 3) := by decide +kernel
theorem dX11_init_168 : decode cX11_init 168 = .ok (.putfield 87, 3) := by decide +kernel
theorem dX11_init_171 : decode cX11_init 171 = .ok (.aload_n 0, 1) := by decide +kernel
theorem dX11_init_172 : decode cX11_init 172 = .ok (.new 91, 3) := by decide +kernel
theorem dX11_init_175 : decode cX11_init 175 = .ok (.dup, 1) := by decide +kernel
theorem dX11_init_176 : decode cX11_init 176 = .ok (.aload_n 0, 1) := by decide +kernel
theorem dX11_init_177 : decode cX11_init 177 = .ok (.getfield 46, 3) := by decide +kernel
theorem dX11_init_180 : decode cX11_init 180 = .ok (.getfield 58, 3) := by decide +kernel
theorem dX11_init_183 : decode cX11_init 183 = .ok (.getfield 93, 3) := by decide +kernel
theorem dX11_init_186 : decode cX11_init 186 = .ok (.invokespecial 96, 3) := by decide +kernel
theorem dX11_init_189 : decode cX11_init 189 = .ok (.putfield 97, 3) := by decide +kernel
theorem dX11_init_192 : decode cX11_init 192 = .ok (.return_, 1) := by decide +kernel
theorem dX11_feed_0 : decode cX11_feed 0 = .ok (.aload_n 0, 1) := by decide +kernel
theorem dX11_feed_1 : decode cX11_feed 1 = .ok (.getfield 101, 3) := by decide +kernel
theorem dX11_feed_4 : decode cX11_feed 4 = .ok (.sipush 680, 3) := by decide +kernel
theorem dX11_feed_7 : decode cX11_feed 7 = .ok (.if_icmp .le 5, 3) := by decide +kernel
theorem dX11_feed_10 : decode cX11_feed 10 = .ok (.iconst (-1), 1) := by decide +kernel
theorem dX11_feed_11 : decode cX11_feed 11 = .ok (.ireturn, 1) := by decide +kernel
theorem dX11_feed_12 : decode cX11_feed 12 = .ok (.aload_n 0, 1) := by decide +kernel
theorem dX11_feed_13 : decode cX11_feed 13 = .ok (.iload_n 1, 1) := by decide +kernel
theorem dX11_feed_14 : decode cX11_feed 14 = .ok (.invokevirtual 104, 3) := by decide +kernel
theorem dX11_feed_17 : decode cX11_feed 17 = .ok (.aload_n 0, 1) := by decide +kernel
theorem dX11_feed_18 : decode cX11_feed 18 = .ok (.iload_n 2, 1) := by decide +kernel
theorem dX11_feed_19 : decode cX11_feed 19 = .ok (.invokevirtual 104, 3) := by decide +kernel
theorem dX11_feed_22 : decode cX11_feed 22 = .ok (.aload_n 0, 1) := by decide +kernel
theorem dX11_feed_23 : decode cX11_feed 23 = .ok (.iload_n 3, 1) := by decide +kernel
theorem dX11_feed_24 : decode cX11_feed 24 = .ok (.invokevirtual 104, 3) := by decide +kernel
theorem dX11_feed_27 : decode cX11_feed 27 = .ok (.aload_n 0, 1) := by decide +kernel
theorem dX11_feed_28 : decode cX11_feed 28 = .ok (.iload 4, 2) := by decide +kernel
theorem dX11_feed_30 : decode cX11_feed 30 = .ok (.invokevirtual 104, 3) := by decide +kernel
theorem dX11_feed_33 : decode cX11_feed 33 = .ok (.aload_n 0, 1) := by decide +kernel
theorem dX11_feed_34 : decode cX11_feed 34 = .ok (.iload 5, 2) := by decide +kernel
theorem dX11_feed_36 : decode cX11_feed 36 = .ok (.invokevirtual 104, 3) := by decide +kernel
theorem dX11_feed_39 : decode cX11_feed 39 = .ok (.aload_n 0, 1) := by decide +kernel
theorem dX11_feed_40 : decode cX11_feed 40 = .ok (.getfield 101, 3) := by decide +kernel
theorem dX11_feed_43 : decode cX11_feed 43 = .ok (.ireturn, 1) := by decide +kernel
theorem dX11_feedNumber_0 : decode cX11_feedNumber 0 = .ok (.bipush 24, 2) := by decide +kernel
theorem dX11_feedNumber_2 : decode cX11_feedNumber 2 = .ok (.istore_n 2, 1) := by decide +kernel
theorem dX11_feedNumber_3 : decode cX11_feedNumber 3 = .ok (.iload_n 2, 1) := by decide +kernel
theorem dX11_feedNumber_4 : decode cX11_feedNumber 4 = .ok (.ifCond .lt 45, 3) := by decide +kernel
theorem dX11_feedNumber_7 : decode cX11_feedNumber 7 = .ok (.aload_n 0, 1) := by decide +kernel
theorem dX11_feedNumber_8 : decode cX11_feedNumber 8 = .ok (.getfield 101, 3) := by decide +kernel
theorem dX11_feedNumber_11 : decode cX11_feedNumber 11 = .ok (.sipush 700, 3) := by decide +kernel
theorem dX11_feedNumber_14 : decode cX11_feedNumber 14 = .ok (.if_icmp .ge 29, 3) := by decide +kernel
theorem dX11_feedNumber_17 : decode cX11_feedNumber 17 = .ok (.aload_n 0, 1) := by decide +kernel
theorem dX11_feedNumber_18 : decode cX11_feedNumber 18 = .ok (.getfield 9, 3) := by decide +kernel
theorem dX11_feedNumber_21 : decode cX11_feedNumber 21 = .ok (.aload_n 0, 1) := by decide +kernel
theorem dX11_feedNumber_22 : decode cX11_feedNumber 22 = .ok (.getfield 101, 3) := by decide +kernel
theorem dX11_feedNumber_25 : decode cX11_feedNumber 25 = .ok (.iload_n 1, 1) := by decide +kernel
theorem dX11_feedNumber_26 : decode cX11_feedNumber 26 = .ok (.iload_n 2, 1) := by decide +kernel
theorem dX11_feedNumber_27 : decode cX11_feedNumber 27 = .ok (.iushr, 1) := by decide +kernel
theorem dX11_feedNumber_28 : decode cX11_feedNumber 28 = .ok (.sipush 255, 3) := by decide +kernel
theorem dX11_feedNumber_31 : decode cX11_feedNumber 31 = .ok (.iand, 1) := by decide +kernel
theorem dX11_feedNumber_32 : decode cX11_feedNumber 32 = .ok (.iastore, 1) := by decide +kernel
theorem dX11_feedNumber_33 : decode cX11_feedNumber 33 = .ok (.aload_n 0, 1) := by decide +kernel
theorem dX11_feedNumber_34 : decode cX11_feedNumber 34 = .ok (.dup, 1) := by decide +kernel
theorem dX11_feedNumber_35 : decode cX11_feedNumber 35 = .ok (.getfield 101, 3) := by decide +kernel
theorem dX11_feedNumber_38 : decode cX11_feedNumber 38 = .ok (.iconst 1, 1) := by decide +kernel
theorem dX11_feedNumber_39 : decode cX11_feedNumber 39 = .ok (.iadd, 1) := by decide +kernel
theorem dX11_feedNumber_40 : decode cX11_feedNumber 40 = .ok (.putfield 101, 3) := by decide +kernel
theorem dX11_feedNumber_43 : decode cX11_feedNumber 43 = .ok (.iinc 2 (-8), 3) := by decide +kernel
theorem dX11_feedNumber_46 : decode cX11_feedNumber 46 = .ok (.goto (-43), 3) := by decide +kernel
theorem dX11_feedNumber_49 : decode cX11_feedNumber 49 = .ok (.return_, 1) := by decide +kernel
theorem dX11_city_0 : decode cX11_city 0 = .ok (.iload_n 1, 1) := by decide +kernel
theorem dX11_city_1 : decode cX11_city 1 = .ok (.ifCond .lt 11, 3) := by decide +kernel
theorem dX11_city_4 : decode cX11_city 4 = .ok (.iload_n 1, 1) := by decide +kernel
theorem dX11_city_5 : decode cX11_city 5 = .ok (.aload_n 0, 1) := by decide +kernel
theorem dX11_city_6 : decode cX11_city 6 = .ok (.getfield 101, 3) := by decide +kernel
theorem dX11_city_9 : decode cX11_city 9 = .ok (.if_icmp .le 11, 3) := by decide +kernel
theorem dX11_city_12 : decode cX11_city 12 = .ok (.new 108, 3) := by decide +kernel
theorem dX11_city_15 : decode cX11_city 15 = .ok (.dup, 1) := by decide +kernel
theorem dX11_city_16 : decode cX11_city 16 = .ok (.invokespecial 110, 3) := by decide +kernel
theorem dX11_city_19 : decode cX11_city 19 = .ok (.athrow, 1) := by decide +kernel
theorem dX11_city_20 : decode cX11_city 20 = .ok (.aload_n 0, 1) := by decide +kernel
theorem dX11_city_21 : decode cX11_city 21 = .ok (.getfield 37, 3) := by decide +kernel
theorem dX11_city_24 : decode cX11_city 24 = .ok (.iload_n 1, 1) := by decide +kernel
theorem dX11_city_25 : decode cX11_city 25 = .ok (.aload_n 0, 1) := by decide +kernel
theorem dX11_city_26 : decode cX11_city 26 = .ok (.getfield 24, 3) := by decide +kernel
theorem dX11_city_29 : decode cX11_city 29 = .ok (.invokevirtual 111, 3) := by decide +kernel
theorem dX11_city_32 : decode cX11_city 32 = .ok (.istore_n 2, 1) := by decide +kernel
theorem dX11_city_33 : decode cX11_city 33 = .ok (.aload_n 0, 1) := by decide +kernel
theorem dX11_city_34 : decode cX11_city 34 = .ok (.iconst 0, 1) := by decide +kernel
theorem dX11_city_35 : decode cX11_city 35 = .ok (.putfield 101, 3) := by decide +kernel
theorem dX11_city_38 : decode cX11_city 38 = .ok (.iload_n 2, 1) := by decide +kernel
theorem dX11_city_39 : decode cX11_city 39 = .ok (.ifCond .eq 29, 3) := by decide +kernel
theorem dX11_city_42 : decode cX11_city 42 = .ok (.aload_n 0, 1) := by decide +kernel
theorem dX11_city_43 : decode cX11_city 43 = .ok (.aload_n 0, 1) := by decide +kernel
theorem dX11_city_44 : decode cX11_city 44 = .ok (.getfield 37, 3) := by decide +kernel
theorem dX11_city_47 : decode cX11_city 47 = .ok (.getfield 115, 3) := by decide +kernel
theorem dX11_city_50 : decode cX11_city 50 = .ok (.putfield 13, 3) := by decide +kernel
theorem dX11_city_53 : decode cX11_city 53 = .ok (.aload_n 0, 1) := by decide +kernel
theorem dX11_city_54 : decode cX11_city 54 = .ok (.getfield 46, 3) := by decide +kernel
theorem dX11_city_57 : decode cX11_city 57 = .ok (.getfield 118, 3) := by decide +kernel
theorem dX11_city_60 : decode cX11_city 60 = .ok (.iconst 0, 1) := by decide +kernel
theorem dX11_city_61 : decode cX11_city 61 = .ok (.dup2, 1) := by decide +kernel
theorem dX11_city_62 : decode cX11_city 62 = .ok (.iaload, 1) := by decide +kernel
theorem dX11_city_63 : decode cX11_city 63 = .ok (.iconst 1, 1) := by decide +kernel
theorem dX11_city_64 : decode cX11_city 64 = .ok (.iadd, 1) := by decide +kernel
theorem dX11_city_65 : decode cX11_city 65 = .ok (.iastore, 1) := by decide +kernel
theorem dX11_city_66 : decode cX11_city 66 = .ok (.iload_n 2, 1) := by decide +kernel
theorem dX11_city_67 : decode cX11_city 67 = .ok (.ireturn, 1) := by decide +kernel
theorem dX11_city_68 : decode cX11_city 68 = .ok (.aload_n 0, 1) := by decide +kernel
theorem dX11_city_69 : decode cX11_city 69 = .ok (.iconst (-1), 1) := by decide +kernel
theorem dX11_city_70 : decode cX11_city 70 = .ok (.putfield 13, 3) := by decide +kernel
theorem dX11_city_73 : decode cX11_city 73 = .ok (.aload_n 0, 1) := by decide +kernel
theorem dX11_city_74 : decode cX11_city 74 = .ok (.getfield 24, 3) := by decide +kernel
theorem dX11_city_77 : decode cX11_city 77 = .ok (.astore_n 3, 1) := by decide +kernel
theorem dX11_city_78 : decode cX11_city 78 = .ok (.aload_n 0, 1) := by decide +kernel
theorem dX11_city_79 : decode cX11_city 79 = .ok (.aload_n 0, 1) := by decide +kernel
theorem dX11_city_80 : decode cX11_city 80 = .ok (.getfield 20, 3) := by decide +kernel
theorem dX11_city_83 : decode cX11_city 83 = .ok (.putfield 24, 3) := by decide +kernel
theorem dX11_city_86 : decode cX11_city 86 = .ok (.aload_n 0, 1) := by decide +kernel
theorem dX11_city_87 : decode cX11_city 87 = .ok (.aload_n 3, 1) := by decide +kernel
theorem dX11_city_88 : decode cX11_city 88 = .ok (.putfield 20, 3) := by decide +kernel
theorem dX11_city_91 : decode cX11_city 91 = .ok (.aload_n 0, 1) := by decide +kernel
theorem dX11_city_92 : decode cX11_city 92 = .ok (.getfield 46, 3) := by decide +kernel
theorem dX11_city_95 : decode cX11_city 95 = .ok (.aload_n 3, 1) := by decide +kernel
theorem dX11_city_96 : decode cX11_city 96 = .ok (.invokevirtual 121, 3) := by decide +kernel
theorem dX11_city_99 : decode cX11_city 99 = .ok (.aload_n 0, 1) := by decide +kernel
theorem dX11_city_100 : decode cX11_city 100 = .ok (.iconst 0, 1) := by decide +kernel
theorem dX11_city_101 : decode cX11_city 101 = .ok (.putfield 124, 3) := by decide +kernel
theorem dX11_city_104 : decode cX11_city 104 = .ok (.iconst 0, 1) := by decide +kernel
theorem dX11_city_105 : decode cX11_city 105 = .ok (.ireturn, 1) := by decide +kernel
theorem dX11_fault_0 : decode cX11_fault 0 = .ok (.aload_n 0, 1) := by decide +kernel
theorem dX11_fault_1 : decode cX11_fault 1 = .ok (.getfield 13, 3) := by decide +kernel
theorem dX11_fault_4 : decode cX11_fault 4 = .ok (.ireturn, 1) := by decide +kernel
theorem dX11_count_0 : decode cX11_count 0 = .ok (.iload_n 1, 1) := by decide +kernel
theorem dX11_count_1 : decode cX11_count 1 = .ok (.tableswitch 222 0 14 #[75, 83, 91, 99, 107, 121, 132, 143, 154, 168, 176, 187, 192, 202, 212], 75) := by decide +kernel
theorem dX11_count_76 : decode cX11_count 76 = .ok (.aload_n 0, 1) := by decide +kernel
theorem dX11_count_77 : decode cX11_count 77 = .ok (.getfield 97, 3) := by decide +kernel
theorem dX11_count_80 : decode cX11_count 80 = .ok (.invokevirtual 128, 3) := by decide +kernel
theorem dX11_count_83 : decode cX11_count 83 = .ok (.ireturn, 1) := by decide +kernel
theorem dX11_count_84 : decode cX11_count 84 = .ok (.aload_n 0, 1) := by decide +kernel
theorem dX11_count_85 : decode cX11_count 85 = .ok (.getfield 20, 3) := by decide +kernel
theorem dX11_count_88 : decode cX11_count 88 = .ok (.getfield 132, 3) := by decide +kernel
theorem dX11_count_91 : decode cX11_count 91 = .ok (.ireturn, 1) := by decide +kernel
theorem dX11_count_92 : decode cX11_count 92 = .ok (.aload_n 0, 1) := by decide +kernel
theorem dX11_count_93 : decode cX11_count 93 = .ok (.getfield 20, 3) := by decide +kernel
theorem dX11_count_96 : decode cX11_count 96 = .ok (.getfield 135, 3) := by decide +kernel
theorem dX11_count_99 : decode cX11_count 99 = .ok (.ireturn, 1) := by decide +kernel
theorem dX11_count_100 : decode cX11_count 100 = .ok (.aload_n 0, 1) := by decide +kernel
theorem dX11_count_101 : decode cX11_count 101 = .ok (.getfield 20, 3) := by decide +kernel
theorem dX11_count_104 : decode cX11_count 104 = .ok (.getfield 138, 3) := by decide +kernel
theorem dX11_count_107 : decode cX11_count 107 = .ok (.ireturn, 1) := by decide +kernel
theorem dX11_count_108 : decode cX11_count 108 = .ok (.aload_n 0, 1) := by decide +kernel
theorem dX11_count_109 : decode cX11_count 109 = .ok (.getfield 46, 3) := by decide +kernel
theorem dX11_count_112 : decode cX11_count 112 = .ok (.getfield 58, 3) := by decide +kernel
theorem dX11_count_115 : decode cX11_count 115 = .ok (.getfield 93, 3) := by decide +kernel
theorem dX11_count_118 : decode cX11_count 118 = .ok (.bipush 47, 2) := by decide +kernel
theorem dX11_count_120 : decode cX11_count 120 = .ok (.iaload, 1) := by decide +kernel
theorem dX11_count_121 : decode cX11_count 121 = .ok (.ireturn, 1) := by decide +kernel
theorem dX11_count_122 : decode cX11_count 122 = .ok (.aload_n 0, 1) := by decide +kernel
theorem dX11_count_123 : decode cX11_count 123 = .ok (.getfield 46, 3) := by decide +kernel
theorem dX11_count_126 : decode cX11_count 126 = .ok (.getfield 58, 3) := by decide +kernel
theorem dX11_count_129 : decode cX11_count 129 = .ok (.invokevirtual 141, 3) := by decide +kernel
theorem dX11_count_132 : decode cX11_count 132 = .ok (.ireturn, 1) := by decide +kernel
theorem dX11_count_133 : decode cX11_count 133 = .ok (.aload_n 0, 1) := by decide +kernel
theorem dX11_count_134 : decode cX11_count 134 = .ok (.getfield 46, 3) := by decide +kernel
theorem dX11_count_137 : decode cX11_count 137 = .ok (.getfield 58, 3) := by decide +kernel
theorem dX11_count_140 : decode cX11_count 140 = .ok (.invokevirtual 144, 3) := by decide +kernel
theorem dX11_count_143 : decode cX11_count 143 = .ok (.ireturn, 1) := by decide +kernel
theorem dX11_count_144 : decode cX11_count 144 = .ok (.aload_n 0, 1) := by decide +kernel
theorem dX11_count_145 : decode cX11_count 145 = .ok (.getfield 46, 3) := by decide +kernel
theorem dX11_count_148 : decode cX11_count 148 = .ok (.getfield 58, 3) := by decide +kernel
theorem dX11_count_151 : decode cX11_count 151 = .ok (.invokevirtual 147, 3) := by decide +kernel
theorem dX11_count_154 : decode cX11_count 154 = .ok (.ireturn, 1) := by decide +kernel
theorem dX11_count_155 : decode cX11_count 155 = .ok (.aload_n 0, 1) := by decide +kernel
theorem dX11_count_156 : decode cX11_count 156 = .ok (.getfield 46, 3) := by decide +kernel
theorem dX11_count_159 : decode cX11_count 159 = .ok (.getfield 58, 3) := by decide +kernel
theorem dX11_count_162 : decode cX11_count 162 = .ok (.getfield 93, 3) := by decide +kernel
theorem dX11_count_165 : decode cX11_count 165 = .ok (.bipush 48, 2) := by decide +kernel
theorem dX11_count_167 : decode cX11_count 167 = .ok (.iaload, 1) := by decide +kernel
theorem dX11_count_168 : decode cX11_count 168 = .ok (.ireturn, 1) := by decide +kernel
theorem dX11_count_169 : decode cX11_count 169 = .ok (.aload_n 0, 1) := by decide +kernel
theorem dX11_count_170 : decode cX11_count 170 = .ok (.getfield 46, 3) := by decide +kernel
theorem dX11_count_173 : decode cX11_count 173 = .ok (.getfield 150, 3) := by decide +kernel
theorem dX11_count_176 : decode cX11_count 176 = .ok (.ireturn, 1) := by decide +kernel
theorem dX11_count_177 : decode cX11_count 177 = .ok (.aload_n 0, 1) := by decide +kernel
theorem dX11_count_178 : decode cX11_count 178 = .ok (.getfield 46, 3) := by decide +kernel
theorem dX11_count_181 : decode cX11_count 181 = .ok (.getfield 80, 3) := by decide +kernel
theorem dX11_count_184 : decode cX11_count 184 = .ok (.getfield 153, 3) := by decide +kernel
theorem dX11_count_187 : decode cX11_count 187 = .ok (.ireturn, 1) := by decide +kernel
theorem dX11_count_188 : decode cX11_count 188 = .ok (.aload_n 0, 1) := by decide +kernel
theorem dX11_count_189 : decode cX11_count 189 = .ok (.getfield 101, 3) := by decide +kernel
theorem dX11_count_192 : decode cX11_count 192 = .ok (.ireturn, 1) := by decide +kernel
theorem dX11_count_193 : decode cX11_count 193 = .ok (.aload_n 0, 1) := by decide +kernel
theorem dX11_count_194 : decode cX11_count 194 = .ok (.getfield 46, 3) := by decide +kernel
theorem dX11_count_197 : decode cX11_count 197 = .ok (.getfield 118, 3) := by decide +kernel
theorem dX11_count_200 : decode cX11_count 200 = .ok (.iconst 0, 1) := by decide +kernel
theorem dX11_count_201 : decode cX11_count 201 = .ok (.iaload, 1) := by decide +kernel
theorem dX11_count_202 : decode cX11_count 202 = .ok (.ireturn, 1) := by decide +kernel
theorem dX11_count_203 : decode cX11_count 203 = .ok (.aload_n 0, 1) := by decide +kernel
theorem dX11_count_204 : decode cX11_count 204 = .ok (.getfield 46, 3) := by decide +kernel
theorem dX11_count_207 : decode cX11_count 207 = .ok (.getfield 118, 3) := by decide +kernel
theorem dX11_count_210 : decode cX11_count 210 = .ok (.iconst 1, 1) := by decide +kernel
theorem dX11_count_211 : decode cX11_count 211 = .ok (.iaload, 1) := by decide +kernel
theorem dX11_count_212 : decode cX11_count 212 = .ok (.ireturn, 1) := by decide +kernel
theorem dX11_count_213 : decode cX11_count 213 = .ok (.aload_n 0, 1) := by decide +kernel
theorem dX11_count_214 : decode cX11_count 214 = .ok (.getfield 46, 3) := by decide +kernel
theorem dX11_count_217 : decode cX11_count 217 = .ok (.getfield 118, 3) := by decide +kernel
theorem dX11_count_220 : decode cX11_count 220 = .ok (.iconst 2, 1) := by decide +kernel
theorem dX11_count_221 : decode cX11_count 221 = .ok (.iaload, 1) := by decide +kernel
theorem dX11_count_222 : decode cX11_count 222 = .ok (.ireturn, 1) := by decide +kernel
theorem dX11_count_223 : decode cX11_count 223 = .ok (.new 158, 3) := by decide +kernel
theorem dX11_count_226 : decode cX11_count 226 = .ok (.dup, 1) := by decide +kernel
theorem dX11_count_227 : decode cX11_count 227 = .ok (.invokespecial 160, 3) := by decide +kernel
theorem dX11_count_230 : decode cX11_count 230 = .ok (.athrow, 1) := by decide +kernel
theorem dX11_blade_0 : decode cX11_blade 0 = .ok (.aload_n 0, 1) := by decide +kernel
theorem dX11_blade_1 : decode cX11_blade 1 = .ok (.iload_n 1, 1) := by decide +kernel
theorem dX11_blade_2 : decode cX11_blade 2 = .ok (.invokevirtual 161, 3) := by decide +kernel
theorem dX11_blade_5 : decode cX11_blade 5 = .ok (.aload_n 0, 1) := by decide +kernel
theorem dX11_blade_6 : decode cX11_blade 6 = .ok (.getfield 46, 3) := by decide +kernel
theorem dX11_blade_9 : decode cX11_blade 9 = .ok (.getfield 58, 3) := by decide +kernel
theorem dX11_blade_12 : decode cX11_blade 12 = .ok (.astore_n 3, 1) := by decide +kernel
theorem dX11_blade_13 : decode cX11_blade 13 = .ok (.iload_n 2, 1) := by decide +kernel
theorem dX11_blade_14 : decode cX11_blade 14 = .ok (.tableswitch 93 0 6 #[42, 52, 62, 69, 75, 81, 87], 42) := by decide +kernel
theorem dX11_blade_56 : decode cX11_blade 56 = .ok (.aload_n 0, 1) := by decide +kernel
theorem dX11_blade_57 : decode cX11_blade 57 = .ok (.getfield 20, 3) := by decide +kernel
theorem dX11_blade_60 : decode cX11_blade 60 = .ok (.getfield 164, 3) := by decide +kernel
theorem dX11_blade_63 : decode cX11_blade 63 = .ok (.iload_n 1, 1) := by decide +kernel
theorem dX11_blade_64 : decode cX11_blade 64 = .ok (.iaload, 1) := by decide +kernel
theorem dX11_blade_65 : decode cX11_blade 65 = .ok (.ireturn, 1) := by decide +kernel
theorem dX11_blade_66 : decode cX11_blade 66 = .ok (.aload_n 0, 1) := by decide +kernel
theorem dX11_blade_67 : decode cX11_blade 67 = .ok (.getfield 20, 3) := by decide +kernel
theorem dX11_blade_70 : decode cX11_blade 70 = .ok (.getfield 167, 3) := by decide +kernel
theorem dX11_blade_73 : decode cX11_blade 73 = .ok (.iload_n 1, 1) := by decide +kernel
theorem dX11_blade_74 : decode cX11_blade 74 = .ok (.iaload, 1) := by decide +kernel
theorem dX11_blade_75 : decode cX11_blade 75 = .ok (.ireturn, 1) := by decide +kernel
theorem dX11_blade_76 : decode cX11_blade 76 = .ok (.aload_n 3, 1) := by decide +kernel
theorem dX11_blade_77 : decode cX11_blade 77 = .ok (.getfield 93, 3) := by decide +kernel
theorem dX11_blade_80 : decode cX11_blade 80 = .ok (.iload_n 1, 1) := by decide +kernel
theorem dX11_blade_81 : decode cX11_blade 81 = .ok (.iaload, 1) := by decide +kernel
theorem dX11_blade_82 : decode cX11_blade 82 = .ok (.ireturn, 1) := by decide +kernel
theorem dX11_blade_83 : decode cX11_blade 83 = .ok (.aload_n 3, 1) := by decide +kernel
theorem dX11_blade_84 : decode cX11_blade 84 = .ok (.iload_n 1, 1) := by decide +kernel
theorem dX11_blade_85 : decode cX11_blade 85 = .ok (.invokevirtual 170, 3) := by decide +kernel
theorem dX11_blade_88 : decode cX11_blade 88 = .ok (.ireturn, 1) := by decide +kernel
theorem dX11_blade_89 : decode cX11_blade 89 = .ok (.aload_n 3, 1) := by decide +kernel
theorem dX11_blade_90 : decode cX11_blade 90 = .ok (.iload_n 1, 1) := by decide +kernel
theorem dX11_blade_91 : decode cX11_blade 91 = .ok (.invokevirtual 174, 3) := by decide +kernel
theorem dX11_blade_94 : decode cX11_blade 94 = .ok (.ireturn, 1) := by decide +kernel
theorem dX11_blade_95 : decode cX11_blade 95 = .ok (.aload_n 3, 1) := by decide +kernel
theorem dX11_blade_96 : decode cX11_blade 96 = .ok (.iload_n 1, 1) := by decide +kernel
theorem dX11_blade_97 : decode cX11_blade 97 = .ok (.invokevirtual 177, 3) := by decide +kernel
theorem dX11_blade_100 : decode cX11_blade 100 = .ok (.ireturn, 1) := by decide +kernel
theorem dX11_blade_101 : decode cX11_blade 101 = .ok (.aload_n 3, 1) := by decide +kernel
theorem dX11_blade_102 : decode cX11_blade 102 = .ok (.iload_n 1, 1) := by decide +kernel
theorem dX11_blade_103 : decode cX11_blade 103 = .ok (.invokevirtual 180, 3) := by decide +kernel
theorem dX11_blade_106 : decode cX11_blade 106 = .ok (.ireturn, 1) := by decide +kernel
theorem dX11_blade_107 : decode cX11_blade 107 = .ok (.new 158, 3) := by decide +kernel
theorem dX11_blade_110 : decode cX11_blade 110 = .ok (.dup, 1) := by decide +kernel
theorem dX11_blade_111 : decode cX11_blade 111 = .ok (.invokespecial 160, 3) := by decide +kernel
theorem dX11_blade_114 : decode cX11_blade 114 = .ok (.athrow, 1) := by decide +kernel
theorem dX11_throat_0 : decode cX11_throat 0 = .ok (.aload_n 0, 1) := by decide +kernel
theorem dX11_throat_1 : decode cX11_throat 1 = .ok (.iload_n 1, 1) := by decide +kernel
theorem dX11_throat_2 : decode cX11_throat 2 = .ok (.invokevirtual 183, 3) := by decide +kernel
theorem dX11_throat_5 : decode cX11_throat 5 = .ok (.aload_n 0, 1) := by decide +kernel
theorem dX11_throat_6 : decode cX11_throat 6 = .ok (.getfield 46, 3) := by decide +kernel
theorem dX11_throat_9 : decode cX11_throat 9 = .ok (.getfield 58, 3) := by decide +kernel
theorem dX11_throat_12 : decode cX11_throat 12 = .ok (.astore_n 3, 1) := by decide +kernel
theorem dX11_throat_13 : decode cX11_throat 13 = .ok (.iload_n 2, 1) := by decide +kernel
theorem dX11_throat_14 : decode cX11_throat 14 = .ok (.tableswitch 77 0 4 #[34, 44, 54, 60, 71], 34) := by decide +kernel
theorem dX11_throat_48 : decode cX11_throat 48 = .ok (.aload_n 3, 1) := by decide +kernel
theorem dX11_throat_49 : decode cX11_throat 49 = .ok (.getfield 93, 3) := by decide +kernel
theorem dX11_throat_52 : decode cX11_throat 52 = .ok (.bipush 30, 2) := by decide +kernel
theorem dX11_throat_54 : decode cX11_throat 54 = .ok (.iload_n 1, 1) := by decide +kernel
theorem dX11_throat_55 : decode cX11_throat 55 = .ok (.iadd, 1) := by decide +kernel
theorem dX11_throat_56 : decode cX11_throat 56 = .ok (.iaload, 1) := by decide +kernel
theorem dX11_throat_57 : decode cX11_throat 57 = .ok (.ireturn, 1) := by decide +kernel
theorem dX11_throat_58 : decode cX11_throat 58 = .ok (.aload_n 0, 1) := by decide +kernel
theorem dX11_throat_59 : decode cX11_throat 59 = .ok (.getfield 20, 3) := by decide +kernel
theorem dX11_throat_62 : decode cX11_throat 62 = .ok (.getfield 186, 3) := by decide +kernel
theorem dX11_throat_65 : decode cX11_throat 65 = .ok (.iload_n 1, 1) := by decide +kernel
theorem dX11_throat_66 : decode cX11_throat 66 = .ok (.iaload, 1) := by decide +kernel
theorem dX11_throat_67 : decode cX11_throat 67 = .ok (.ireturn, 1) := by decide +kernel
theorem dX11_throat_68 : decode cX11_throat 68 = .ok (.aload_n 3, 1) := by decide +kernel
theorem dX11_throat_69 : decode cX11_throat 69 = .ok (.iload_n 1, 1) := by decide +kernel
theorem dX11_throat_70 : decode cX11_throat 70 = .ok (.invokevirtual 189, 3) := by decide +kernel
theorem dX11_throat_73 : decode cX11_throat 73 = .ok (.ireturn, 1) := by decide +kernel
theorem dX11_throat_74 : decode cX11_throat 74 = .ok (.aload_n 3, 1) := by decide +kernel
theorem dX11_throat_75 : decode cX11_throat 75 = .ok (.iload_n 1, 1) := by decide +kernel
theorem dX11_throat_76 : decode cX11_throat 76 = .ok (.iconst 1, 1) := by decide +kernel
theorem dX11_throat_77 : decode cX11_throat 77 = .ok (.iadd, 1) := by decide +kernel
theorem dX11_throat_78 : decode cX11_throat 78 = .ok (.invokevirtual 192, 3) := by decide +kernel
theorem dX11_throat_81 : decode cX11_throat 81 = .ok (.invokestatic 195, 3) := by decide +kernel
theorem dX11_throat_84 : decode cX11_throat 84 = .ok (.ireturn, 1) := by decide +kernel
theorem dX11_throat_85 : decode cX11_throat 85 = .ok (.aload_n 3, 1) := by decide +kernel
theorem dX11_throat_86 : decode cX11_throat 86 = .ok (.iload_n 1, 1) := by decide +kernel
theorem dX11_throat_87 : decode cX11_throat 87 = .ok (.invokevirtual 200, 3) := by decide +kernel
theorem dX11_throat_90 : decode cX11_throat 90 = .ok (.ireturn, 1) := by decide +kernel
theorem dX11_throat_91 : decode cX11_throat 91 = .ok (.new 158, 3) := by decide +kernel
theorem dX11_throat_94 : decode cX11_throat 94 = .ok (.dup, 1) := by decide +kernel
theorem dX11_throat_95 : decode cX11_throat 95 = .ok (.invokespecial 160, 3) := by decide +kernel
theorem dX11_throat_98 : decode cX11_throat 98 = .ok (.athrow, 1) := by decide +kernel
theorem dX11_feud_0 : decode cX11_feud 0 = .ok (.aload_n 0, 1) := by decide +kernel
theorem dX11_feud_1 : decode cX11_feud 1 = .ok (.iload_n 1, 1) := by decide +kernel
theorem dX11_feud_2 : decode cX11_feud 2 = .ok (.invokevirtual 203, 3) := by decide +kernel
theorem dX11_feud_5 : decode cX11_feud 5 = .ok (.aload_n 0, 1) := by decide +kernel
theorem dX11_feud_6 : decode cX11_feud 6 = .ok (.iload_n 2, 1) := by decide +kernel
theorem dX11_feud_7 : decode cX11_feud 7 = .ok (.invokevirtual 203, 3) := by decide +kernel
theorem dX11_feud_10 : decode cX11_feud 10 = .ok (.aload_n 0, 1) := by decide +kernel
theorem dX11_feud_11 : decode cX11_feud 11 = .ok (.getfield 97, 3) := by decide +kernel
theorem dX11_feud_14 : decode cX11_feud 14 = .ok (.iload_n 1, 1) := by decide +kernel
theorem dX11_feud_15 : decode cX11_feud 15 = .ok (.iload_n 2, 1) := by decide +kernel
theorem dX11_feud_16 : decode cX11_feud 16 = .ok (.invokevirtual 206, 3) := by decide +kernel
theorem dX11_feud_19 : decode cX11_feud 19 = .ok (.ireturn, 1) := by decide +kernel
theorem dX11_days_0 : decode cX11_days 0 = .ok (.aload_n 0, 1) := by decide +kernel
theorem dX11_days_1 : decode cX11_days 1 = .ok (.getfield 46, 3) := by decide +kernel
theorem dX11_days_4 : decode cX11_days 4 = .ok (.getfield 58, 3) := by decide +kernel
theorem dX11_days_7 : decode cX11_days 7 = .ok (.astore_n 2, 1) := by decide +kernel
theorem dX11_days_8 : decode cX11_days 8 = .ok (.iload_n 1, 1) := by decide +kernel
theorem dX11_days_9 : decode cX11_days 9 = .ok (.iconst 1, 1) := by decide +kernel
theorem dX11_days_10 : decode cX11_days 10 = .ok (.if_icmp .lt 24, 3) := by decide +kernel
theorem dX11_days_13 : decode cX11_days 13 = .ok (.iload_n 1, 1) := by decide +kernel
theorem dX11_days_14 : decode cX11_days 14 = .ok (.bipush 20, 2) := by decide +kernel
theorem dX11_days_16 : decode cX11_days 16 = .ok (.if_icmp .gt 18, 3) := by decide +kernel
theorem dX11_days_19 : decode cX11_days 19 = .ok (.aload_n 2, 1) := by decide +kernel
theorem dX11_days_20 : decode cX11_days 20 = .ok (.getfield 93, 3) := by decide +kernel
theorem dX11_days_23 : decode cX11_days 23 = .ok (.bipush 47, 2) := by decide +kernel
theorem dX11_days_25 : decode cX11_days 25 = .ok (.iaload, 1) := by decide +kernel
theorem dX11_days_26 : decode cX11_days 26 = .ok (.iload_n 1, 1) := by decide +kernel
theorem dX11_days_27 : decode cX11_days 27 = .ok (.iadd, 1) := by decide +kernel
theorem dX11_days_28 : decode cX11_days 28 = .ok (.sipush 999, 3) := by decide +kernel
theorem dX11_days_31 : decode cX11_days 31 = .ok (.if_icmp .le 9, 3) := by decide +kernel
theorem dX11_days_34 : decode cX11_days 34 = .ok (.aload_n 0, 1) := by decide +kernel
theorem dX11_days_35 : decode cX11_days 35 = .ok (.iconst 1, 1) := by decide +kernel
theorem dX11_days_36 : decode cX11_days 36 = .ok (.invokevirtual 210, 3) := by decide +kernel
theorem dX11_days_39 : decode cX11_days 39 = .ok (.ireturn, 1) := by decide +kernel
theorem dX11_days_40 : decode cX11_days 40 = .ok (.aload_n 0, 1) := by decide +kernel
theorem dX11_days_41 : decode cX11_days 41 = .ok (.getfield 46, 3) := by decide +kernel
theorem dX11_days_44 : decode cX11_days 44 = .ok (.invokevirtual 213, 3) := by decide +kernel
theorem dX11_days_47 : decode cX11_days 47 = .ok (.aload_n 2, 1) := by decide +kernel
theorem dX11_days_48 : decode cX11_days 48 = .ok (.iload_n 1, 1) := by decide +kernel
theorem dX11_days_49 : decode cX11_days 49 = .ok (.invokevirtual 216, 3) := by decide +kernel
theorem dX11_days_52 : decode cX11_days 52 = .ok (.aload_n 2, 1) := by decide +kernel
theorem dX11_days_53 : decode cX11_days 53 = .ok (.getfield 93, 3) := by decide +kernel
theorem dX11_days_56 : decode cX11_days 56 = .ok (.bipush 47, 2) := by decide +kernel
theorem dX11_days_58 : decode cX11_days 58 = .ok (.iaload, 1) := by decide +kernel
theorem dX11_days_59 : decode cX11_days 59 = .ok (.ireturn, 1) := by decide +kernel
theorem dX11_swallow_0 : decode cX11_swallow 0 = .ok (.aload_n 0, 1) := by decide +kernel
theorem dX11_swallow_1 : decode cX11_swallow 1 = .ok (.iload_n 1, 1) := by decide +kernel
theorem dX11_swallow_2 : decode cX11_swallow 2 = .ok (.invokevirtual 161, 3) := by decide +kernel
theorem dX11_swallow_5 : decode cX11_swallow 5 = .ok (.aload_n 0, 1) := by decide +kernel
theorem dX11_swallow_6 : decode cX11_swallow 6 = .ok (.iload_n 2, 1) := by decide +kernel
theorem dX11_swallow_7 : decode cX11_swallow 7 = .ok (.invokevirtual 183, 3) := by decide +kernel
theorem dX11_swallow_10 : decode cX11_swallow 10 = .ok (.aload_n 0, 1) := by decide +kernel
theorem dX11_swallow_11 : decode cX11_swallow 11 = .ok (.getfield 46, 3) := by decide +kernel
theorem dX11_swallow_14 : decode cX11_swallow 14 = .ok (.getfield 58, 3) := by decide +kernel
theorem dX11_swallow_17 : decode cX11_swallow 17 = .ok (.astore_n 3, 1) := by decide +kernel
theorem dX11_swallow_18 : decode cX11_swallow 18 = .ok (.aload_n 3, 1) := by decide +kernel
theorem dX11_swallow_19 : decode cX11_swallow 19 = .ok (.iload_n 1, 1) := by decide +kernel
theorem dX11_swallow_20 : decode cX11_swallow 20 = .ok (.invokevirtual 219, 3) := by decide +kernel
theorem dX11_swallow_23 : decode cX11_swallow 23 = .ok (.ifCond .eq 12, 3) := by decide +kernel
theorem dX11_swallow_26 : decode cX11_swallow 26 = .ok (.aload_n 3, 1) := by decide +kernel
theorem dX11_swallow_27 : decode cX11_swallow 27 = .ok (.iload_n 2, 1) := by decide +kernel
theorem dX11_swallow_28 : decode cX11_swallow 28 = .ok (.iload_n 1, 1) := by decide +kernel
theorem dX11_swallow_29 : decode cX11_swallow 29 = .ok (.invokevirtual 223, 3) := by decide +kernel
theorem dX11_swallow_32 : decode cX11_swallow 32 = .ok (.ifCond .ne 9, 3) := by decide +kernel
theorem dX11_swallow_35 : decode cX11_swallow 35 = .ok (.aload_n 0, 1) := by decide +kernel
theorem dX11_swallow_36 : decode cX11_swallow 36 = .ok (.iconst 1, 1) := by decide +kernel
theorem dX11_swallow_37 : decode cX11_swallow 37 = .ok (.invokevirtual 210, 3) := by decide +kernel
theorem dX11_swallow_40 : decode cX11_swallow 40 = .ok (.ireturn, 1) := by decide +kernel
theorem dX11_swallow_41 : decode cX11_swallow 41 = .ok (.aload_n 0, 1) := by decide +kernel
theorem dX11_swallow_42 : decode cX11_swallow 42 = .ok (.getfield 46, 3) := by decide +kernel
theorem dX11_swallow_45 : decode cX11_swallow 45 = .ok (.invokevirtual 213, 3) := by decide +kernel
theorem dX11_swallow_48 : decode cX11_swallow 48 = .ok (.aload_n 3, 1) := by decide +kernel
theorem dX11_swallow_49 : decode cX11_swallow 49 = .ok (.iload_n 1, 1) := by decide +kernel
theorem dX11_swallow_50 : decode cX11_swallow 50 = .ok (.iload_n 2, 1) := by decide +kernel
theorem dX11_swallow_51 : decode cX11_swallow 51 = .ok (.invokevirtual 226, 3) := by decide +kernel
theorem dX11_swallow_54 : decode cX11_swallow 54 = .ok (.aload_n 3, 1) := by decide +kernel
theorem dX11_swallow_55 : decode cX11_swallow 55 = .ok (.iload_n 2, 1) := by decide +kernel
theorem dX11_swallow_56 : decode cX11_swallow 56 = .ok (.invokevirtual 189, 3) := by decide +kernel
theorem dX11_swallow_59 : decode cX11_swallow 59 = .ok (.ireturn, 1) := by decide +kernel
theorem dX11_draw_0 : decode cX11_draw 0 = .ok (.aload_n 0, 1) := by decide +kernel
theorem dX11_draw_1 : decode cX11_draw 1 = .ok (.iload_n 1, 1) := by decide +kernel
theorem dX11_draw_2 : decode cX11_draw 2 = .ok (.invokevirtual 183, 3) := by decide +kernel
theorem dX11_draw_5 : decode cX11_draw 5 = .ok (.aload_n 0, 1) := by decide +kernel
theorem dX11_draw_6 : decode cX11_draw 6 = .ok (.getfield 46, 3) := by decide +kernel
theorem dX11_draw_9 : decode cX11_draw 9 = .ok (.getfield 58, 3) := by decide +kernel
theorem dX11_draw_12 : decode cX11_draw 12 = .ok (.iload_n 1, 1) := by decide +kernel
theorem dX11_draw_13 : decode cX11_draw 13 = .ok (.invokevirtual 200, 3) := by decide +kernel
theorem dX11_draw_16 : decode cX11_draw 16 = .ok (.istore_n 2, 1) := by decide +kernel
theorem dX11_draw_17 : decode cX11_draw 17 = .ok (.iload_n 2, 1) := by decide +kernel
theorem dX11_draw_18 : decode cX11_draw 18 = .ok (.iconst (-1), 1) := by decide +kernel
theorem dX11_draw_19 : decode cX11_draw 19 = .ok (.if_icmp .ne 9, 3) := by decide +kernel
theorem dX11_draw_22 : decode cX11_draw 22 = .ok (.aload_n 0, 1) := by decide +kernel
theorem dX11_draw_23 : decode cX11_draw 23 = .ok (.iconst 1, 1) := by decide +kernel
theorem dX11_draw_24 : decode cX11_draw 24 = .ok (.invokevirtual 210, 3) := by decide +kernel
theorem dX11_draw_27 : decode cX11_draw 27 = .ok (.ireturn, 1) := by decide +kernel
theorem dX11_draw_28 : decode cX11_draw 28 = .ok (.aload_n 0, 1) := by decide +kernel
theorem dX11_draw_29 : decode cX11_draw 29 = .ok (.getfield 46, 3) := by decide +kernel
theorem dX11_draw_32 : decode cX11_draw 32 = .ok (.invokevirtual 213, 3) := by decide +kernel
theorem dX11_draw_35 : decode cX11_draw 35 = .ok (.aload_n 0, 1) := by decide +kernel
theorem dX11_draw_36 : decode cX11_draw 36 = .ok (.getfield 46, 3) := by decide +kernel
theorem dX11_draw_39 : decode cX11_draw 39 = .ok (.getfield 58, 3) := by decide +kernel
theorem dX11_draw_42 : decode cX11_draw 42 = .ok (.iload_n 1, 1) := by decide +kernel
theorem dX11_draw_43 : decode cX11_draw 43 = .ok (.invokevirtual 230, 3) := by decide +kernel
theorem dX11_draw_46 : decode cX11_draw 46 = .ok (.iload_n 2, 1) := by decide +kernel
theorem dX11_draw_47 : decode cX11_draw 47 = .ok (.ireturn, 1) := by decide +kernel
theorem dX11_broth_0 : decode cX11_broth 0 = .ok (.aload_n 0, 1) := by decide +kernel
theorem dX11_broth_1 : decode cX11_broth 1 = .ok (.iload_n 1, 1) := by decide +kernel
theorem dX11_broth_2 : decode cX11_broth 2 = .ok (.invokevirtual 183, 3) := by decide +kernel
theorem dX11_broth_5 : decode cX11_broth 5 = .ok (.iload_n 2, 1) := by decide +kernel
theorem dX11_broth_6 : decode cX11_broth 6 = .ok (.iconst 1, 1) := by decide +kernel
theorem dX11_broth_7 : decode cX11_broth 7 = .ok (.if_icmp .lt 9, 3) := by decide +kernel
theorem dX11_broth_10 : decode cX11_broth 10 = .ok (.iload_n 2, 1) := by decide +kernel
theorem dX11_broth_11 : decode cX11_broth 11 = .ok (.bipush 20, 2) := by decide +kernel
theorem dX11_broth_13 : decode cX11_broth 13 = .ok (.if_icmp .le 9, 3) := by decide +kernel
theorem dX11_broth_16 : decode cX11_broth 16 = .ok (.aload_n 0, 1) := by decide +kernel
theorem dX11_broth_17 : decode cX11_broth 17 = .ok (.iconst 1, 1) := by decide +kernel
theorem dX11_broth_18 : decode cX11_broth 18 = .ok (.invokevirtual 210, 3) := by decide +kernel
theorem dX11_broth_21 : decode cX11_broth 21 = .ok (.ireturn, 1) := by decide +kernel
theorem dX11_broth_22 : decode cX11_broth 22 = .ok (.aload_n 0, 1) := by decide +kernel
theorem dX11_broth_23 : decode cX11_broth 23 = .ok (.getfield 46, 3) := by decide +kernel
theorem dX11_broth_26 : decode cX11_broth 26 = .ok (.invokevirtual 213, 3) := by decide +kernel
theorem dX11_broth_29 : decode cX11_broth 29 = .ok (.aload_n 0, 1) := by decide +kernel
theorem dX11_broth_30 : decode cX11_broth 30 = .ok (.getfield 46, 3) := by decide +kernel
theorem dX11_broth_33 : decode cX11_broth 33 = .ok (.getfield 58, 3) := by decide +kernel
theorem dX11_broth_36 : decode cX11_broth 36 = .ok (.getfield 93, 3) := by decide +kernel
theorem dX11_broth_39 : decode cX11_broth 39 = .ok (.astore_n 3, 1) := by decide +kernel
theorem dX11_broth_40 : decode cX11_broth 40 = .ok (.bipush 99, 2) := by decide +kernel
theorem dX11_broth_42 : decode cX11_broth 42 = .ok (.aload_n 3, 1) := by decide +kernel
theorem dX11_broth_43 : decode cX11_broth 43 = .ok (.bipush 30, 2) := by decide +kernel
theorem dX11_broth_45 : decode cX11_broth 45 = .ok (.iload_n 1, 1) := by decide +kernel
theorem dX11_broth_46 : decode cX11_broth 46 = .ok (.iadd, 1) := by decide +kernel
theorem dX11_broth_47 : decode cX11_broth 47 = .ok (.iaload, 1) := by decide +kernel
theorem dX11_broth_48 : decode cX11_broth 48 = .ok (.iload_n 2, 1) := by decide +kernel
theorem dX11_broth_49 : decode cX11_broth 49 = .ok (.iadd, 1) := by decide +kernel
theorem dX11_broth_50 : decode cX11_broth 50 = .ok (.invokestatic 233, 3) := by decide +kernel
theorem dX11_broth_53 : decode cX11_broth 53 = .ok (.istore 4, 2) := by decide +kernel
theorem dX11_broth_55 : decode cX11_broth 55 = .ok (.aload_n 3, 1) := by decide +kernel
theorem dX11_broth_56 : decode cX11_broth 56 = .ok (.bipush 30, 2) := by decide +kernel
theorem dX11_broth_58 : decode cX11_broth 58 = .ok (.iload_n 1, 1) := by decide +kernel
theorem dX11_broth_59 : decode cX11_broth 59 = .ok (.iadd, 1) := by decide +kernel
theorem dX11_broth_60 : decode cX11_broth 60 = .ok (.iload 4, 2) := by decide +kernel
theorem dX11_broth_62 : decode cX11_broth 62 = .ok (.iastore, 1) := by decide +kernel
theorem dX11_broth_63 : decode cX11_broth 63 = .ok (.iload 4, 2) := by decide +kernel
theorem dX11_broth_65 : decode cX11_broth 65 = .ok (.ireturn, 1) := by decide +kernel
theorem dX11_make_0 : decode cX11_make 0 = .ok (.aload_n 0, 1) := by decide +kernel
theorem dX11_make_1 : decode cX11_make 1 = .ok (.iload_n 1, 1) := by decide +kernel
theorem dX11_make_2 : decode cX11_make 2 = .ok (.invokevirtual 203, 3) := by decide +kernel
theorem dX11_make_5 : decode cX11_make 5 = .ok (.aload_n 0, 1) := by decide +kernel
theorem dX11_make_6 : decode cX11_make 6 = .ok (.iload_n 2, 1) := by decide +kernel
theorem dX11_make_7 : decode cX11_make 7 = .ok (.invokevirtual 203, 3) := by decide +kernel
theorem dX11_make_10 : decode cX11_make 10 = .ok (.iload_n 1, 1) := by decide +kernel
theorem dX11_make_11 : decode cX11_make 11 = .ok (.iload_n 2, 1) := by decide +kernel
theorem dX11_make_12 : decode cX11_make 12 = .ok (.if_icmp .eq 16, 3) := by decide +kernel
theorem dX11_make_15 : decode cX11_make 15 = .ok (.aload_n 0, 1) := by decide +kernel
theorem dX11_make_16 : decode cX11_make 16 = .ok (.getfield 97, 3) := by decide +kernel
theorem dX11_make_19 : decode cX11_make 19 = .ok (.iload_n 1, 1) := by decide +kernel
theorem dX11_make_20 : decode cX11_make 20 = .ok (.iload_n 2, 1) := by decide +kernel
theorem dX11_make_21 : decode cX11_make 21 = .ok (.invokevirtual 206, 3) := by decide +kernel
theorem dX11_make_24 : decode cX11_make 24 = .ok (.iload_n 3, 1) := by decide +kernel
theorem dX11_make_25 : decode cX11_make 25 = .ok (.if_icmp .ne 11, 3) := by decide +kernel
theorem dX11_make_28 : decode cX11_make 28 = .ok (.aload_n 0, 1) := by decide +kernel
theorem dX11_make_29 : decode cX11_make 29 = .ok (.iconst 1, 1) := by decide +kernel
theorem dX11_make_30 : decode cX11_make 30 = .ok (.invokevirtual 210, 3) := by decide +kernel
theorem dX11_make_33 : decode cX11_make 33 = .ok (.pop, 1) := by decide +kernel
theorem dX11_make_34 : decode cX11_make 34 = .ok (.iconst 0, 1) := by decide +kernel
theorem dX11_make_35 : decode cX11_make 35 = .ok (.ireturn, 1) := by decide +kernel
theorem dX11_make_36 : decode cX11_make 36 = .ok (.aload_n 0, 1) := by decide +kernel
theorem dX11_make_37 : decode cX11_make 37 = .ok (.getfield 46, 3) := by decide +kernel
theorem dX11_make_40 : decode cX11_make 40 = .ok (.invokevirtual 213, 3) := by decide +kernel
theorem dX11_make_43 : decode cX11_make 43 = .ok (.aload_n 0, 1) := by decide +kernel
theorem dX11_make_44 : decode cX11_make 44 = .ok (.getfield 46, 3) := by decide +kernel
theorem dX11_make_47 : decode cX11_make 47 = .ok (.getfield 58, 3) := by decide +kernel
theorem dX11_make_50 : decode cX11_make 50 = .ok (.iload_n 1, 1) := by decide +kernel
theorem dX11_make_51 : decode cX11_make 51 = .ok (.iload_n 2, 1) := by decide +kernel
theorem dX11_make_52 : decode cX11_make 52 = .ok (.invokevirtual 239, 3) := by decide +kernel
theorem dX11_make_55 : decode cX11_make 55 = .ok (.iconst 1, 1) := by decide +kernel
theorem dX11_make_56 : decode cX11_make 56 = .ok (.ireturn, 1) := by decide +kernel
theorem dX11_undo_0 : decode cX11_undo 0 = .ok (.aload_n 0, 1) := by decide +kernel
theorem dX11_undo_1 : decode cX11_undo 1 = .ok (.getfield 46, 3) := by decide +kernel
theorem dX11_undo_4 : decode cX11_undo 4 = .ok (.getfield 150, 3) := by decide +kernel
theorem dX11_undo_7 : decode cX11_undo 7 = .ok (.ifCond .ne 5, 3) := by decide +kernel
theorem dX11_undo_10 : decode cX11_undo 10 = .ok (.iconst (-1), 1) := by decide +kernel
theorem dX11_undo_11 : decode cX11_undo 11 = .ok (.ireturn, 1) := by decide +kernel
theorem dX11_undo_12 : decode cX11_undo 12 = .ok (.aload_n 0, 1) := by decide +kernel
theorem dX11_undo_13 : decode cX11_undo 13 = .ok (.getfield 46, 3) := by decide +kernel
theorem dX11_undo_16 : decode cX11_undo 16 = .ok (.invokevirtual 242, 3) := by decide +kernel
theorem dX11_undo_19 : decode cX11_undo 19 = .ok (.aload_n 0, 1) := by decide +kernel
theorem dX11_undo_20 : decode cX11_undo 20 = .ok (.getfield 46, 3) := by decide +kernel
theorem dX11_undo_23 : decode cX11_undo 23 = .ok (.getfield 150, 3) := by decide +kernel
theorem dX11_undo_26 : decode cX11_undo 26 = .ok (.ireturn, 1) := by decide +kernel
theorem dX11_then_0 : decode cX11_then 0 = .ok (.aload_n 0, 1) := by decide +kernel
theorem dX11_then_1 : decode cX11_then 1 = .ok (.iload_n 1, 1) := by decide +kernel
theorem dX11_then_2 : decode cX11_then 2 = .ok (.invokevirtual 161, 3) := by decide +kernel
theorem dX11_then_5 : decode cX11_then 5 = .ok (.aload_n 0, 1) := by decide +kernel
theorem dX11_then_6 : decode cX11_then 6 = .ok (.iload_n 3, 1) := by decide +kernel
theorem dX11_then_7 : decode cX11_then 7 = .ok (.iconst 1, 1) := by decide +kernel
theorem dX11_then_8 : decode cX11_then 8 = .ok (.invokevirtual 245, 3) := by decide +kernel
theorem dX11_then_11 : decode cX11_then 11 = .ok (.aload_n 0, 1) := by decide +kernel
theorem dX11_then_12 : decode cX11_then 12 = .ok (.iload_n 2, 1) := by decide +kernel
theorem dX11_then_13 : decode cX11_then 13 = .ok (.invokevirtual 248, 3) := by decide +kernel
theorem dX11_then_16 : decode cX11_then 16 = .ok (.aload_n 0, 1) := by decide +kernel
theorem dX11_then_17 : decode cX11_then 17 = .ok (.getfield 65, 3) := by decide +kernel
theorem dX11_then_20 : decode cX11_then 20 = .ok (.iload_n 2, 1) := by decide +kernel
theorem dX11_then_21 : decode cX11_then 21 = .ok (.invokevirtual 251, 3) := by decide +kernel
theorem dX11_then_24 : decode cX11_then 24 = .ok (.astore 4, 2) := by decide +kernel
theorem dX11_then_26 : decode cX11_then 26 = .ok (.iload_n 3, 1) := by decide +kernel
theorem dX11_then_27 : decode cX11_then 27 = .ok (.ifCond .ne 13, 3) := by decide +kernel
theorem dX11_then_30 : decode cX11_then 30 = .ok (.aload 4, 2) := by decide +kernel
theorem dX11_then_32 : decode cX11_then 32 = .ok (.getfield 93, 3) := by decide +kernel
theorem dX11_then_35 : decode cX11_then 35 = .ok (.iload_n 1, 1) := by decide +kernel
theorem dX11_then_36 : decode cX11_then 36 = .ok (.iaload, 1) := by decide +kernel
theorem dX11_then_37 : decode cX11_then 37 = .ok (.goto 9, 3) := by decide +kernel
theorem dX11_then_40 : decode cX11_then 40 = .ok (.aload 4, 2) := by decide +kernel
theorem dX11_then_42 : decode cX11_then 42 = .ok (.iload_n 1, 1) := by decide +kernel
theorem dX11_then_43 : decode cX11_then 43 = .ok (.invokevirtual 170, 3) := by decide +kernel
theorem dX11_then_46 : decode cX11_then 46 = .ok (.ireturn, 1) := by decide +kernel
theorem dX11_peace_0 : decode cX11_peace 0 = .ok (.aload_n 0, 1) := by decide +kernel
theorem dX11_peace_1 : decode cX11_peace 1 = .ok (.getfield 65, 3) := by decide +kernel
theorem dX11_peace_4 : decode cX11_peace 4 = .ok (.invokevirtual 255, 3) := by decide +kernel
theorem dX11_peace_7 : decode cX11_peace 7 = .ok (.ireturn, 1) := by decide +kernel
theorem dX11_fights_0 : decode cX11_fights 0 = .ok (.aload_n 0, 1) := by decide +kernel
theorem dX11_fights_1 : decode cX11_fights 1 = .ok (.iload_n 1, 1) := by decide +kernel
theorem dX11_fights_2 : decode cX11_fights 2 = .ok (.invokevirtual 248, 3) := by decide +kernel
theorem dX11_fights_5 : decode cX11_fights 5 = .ok (.aload_n 0, 1) := by decide +kernel
theorem dX11_fights_6 : decode cX11_fights 6 = .ok (.getfield 65, 3) := by decide +kernel
theorem dX11_fights_9 : decode cX11_fights 9 = .ok (.iload_n 1, 1) := by decide +kernel
theorem dX11_fights_10 : decode cX11_fights 10 = .ok (.invokevirtual 251, 3) := by decide +kernel
theorem dX11_fights_13 : decode cX11_fights 13 = .ok (.pop, 1) := by decide +kernel
theorem dX11_fights_14 : decode cX11_fights 14 = .ok (.aload_n 0, 1) := by decide +kernel
theorem dX11_fights_15 : decode cX11_fights 15 = .ok (.getfield 65, 3) := by decide +kernel
theorem dX11_fights_18 : decode cX11_fights 18 = .ok (.invokevirtual 258, 3) := by decide +kernel
theorem dX11_fights_21 : decode cX11_fights 21 = .ok (.ireturn, 1) := by decide +kernel
theorem dX11_rests_0 : decode cX11_rests 0 = .ok (.aload_n 0, 1) := by decide +kernel
theorem dX11_rests_1 : decode cX11_rests 1 = .ok (.iload_n 1, 1) := by decide +kernel
theorem dX11_rests_2 : decode cX11_rests 2 = .ok (.invokevirtual 161, 3) := by decide +kernel
theorem dX11_rests_5 : decode cX11_rests 5 = .ok (.aload_n 0, 1) := by decide +kernel
theorem dX11_rests_6 : decode cX11_rests 6 = .ok (.getfield 65, 3) := by decide +kernel
theorem dX11_rests_9 : decode cX11_rests 9 = .ok (.iload_n 1, 1) := by decide +kernel
theorem dX11_rests_10 : decode cX11_rests 10 = .ok (.invokevirtual 261, 3) := by decide +kernel
theorem dX11_rests_13 : decode cX11_rests 13 = .ok (.ireturn, 1) := by decide +kernel
theorem dX11_worst_0 : decode cX11_worst 0 = .ok (.aload_n 0, 1) := by decide +kernel
theorem dX11_worst_1 : decode cX11_worst 1 = .ok (.iload_n 1, 1) := by decide +kernel
theorem dX11_worst_2 : decode cX11_worst 2 = .ok (.invokevirtual 248, 3) := by decide +kernel
theorem dX11_worst_5 : decode cX11_worst 5 = .ok (.aload_n 0, 1) := by decide +kernel
theorem dX11_worst_6 : decode cX11_worst 6 = .ok (.getfield 65, 3) := by decide +kernel
theorem dX11_worst_9 : decode cX11_worst 9 = .ok (.iload_n 1, 1) := by decide +kernel
theorem dX11_worst_10 : decode cX11_worst 10 = .ok (.invokevirtual 264, 3) := by decide +kernel
theorem dX11_worst_13 : decode cX11_worst 13 = .ok (.ireturn, 1) := by decide +kernel
theorem dX11_takeIn_0 : decode cX11_takeIn 0 = .ok (.iload_n 1, 1) := by decide +kernel
theorem dX11_takeIn_1 : decode cX11_takeIn 1 = .ok (.iconst (-1), 1) := by decide +kernel
theorem dX11_takeIn_2 : decode cX11_takeIn 2 = .ok (.if_icmp .eq 8, 3) := by decide +kernel
theorem dX11_takeIn_5 : decode cX11_takeIn 5 = .ok (.aload_n 0, 1) := by decide +kernel
theorem dX11_takeIn_6 : decode cX11_takeIn 6 = .ok (.iload_n 1, 1) := by decide +kernel
theorem dX11_takeIn_7 : decode cX11_takeIn 7 = .ok (.invokevirtual 161, 3) := by decide +kernel
theorem dX11_takeIn_10 : decode cX11_takeIn 10 = .ok (.iload_n 1, 1) := by decide +kernel
theorem dX11_takeIn_11 : decode cX11_takeIn 11 = .ok (.iconst (-1), 1) := by decide +kernel
theorem dX11_takeIn_12 : decode cX11_takeIn 12 = .ok (.if_icmp .ne 13, 3) := by decide +kernel
theorem dX11_takeIn_15 : decode cX11_takeIn 15 = .ok (.aload_n 0, 1) := by decide +kernel
theorem dX11_takeIn_16 : decode cX11_takeIn 16 = .ok (.getfield 74, 3) := by decide +kernel
theorem dX11_takeIn_19 : decode cX11_takeIn 19 = .ok (.invokevirtual 267, 3) := by decide +kernel
theorem dX11_takeIn_22 : decode cX11_takeIn 22 = .ok (.goto 11, 3) := by decide +kernel
theorem dX11_takeIn_25 : decode cX11_takeIn 25 = .ok (.aload_n 0, 1) := by decide +kernel
theorem dX11_takeIn_26 : decode cX11_takeIn 26 = .ok (.getfield 74, 3) := by decide +kernel
theorem dX11_takeIn_29 : decode cX11_takeIn 29 = .ok (.iload_n 1, 1) := by decide +kernel
theorem dX11_takeIn_30 : decode cX11_takeIn 30 = .ok (.invokevirtual 270, 3) := by decide +kernel
theorem dX11_takeIn_33 : decode cX11_takeIn 33 = .ok (.ireturn, 1) := by decide +kernel
theorem dX11_throats_0 : decode cX11_throats 0 = .ok (.aload_n 0, 1) := by decide +kernel
theorem dX11_throats_1 : decode cX11_throats 1 = .ok (.getfield 74, 3) := by decide +kernel
theorem dX11_throats_4 : decode cX11_throats 4 = .ok (.invokevirtual 273, 3) := by decide +kernel
theorem dX11_throats_7 : decode cX11_throats 7 = .ok (.ireturn, 1) := by decide +kernel
theorem dX11_toDraw_0 : decode cX11_toDraw 0 = .ok (.aload_n 0, 1) := by decide +kernel
theorem dX11_toDraw_1 : decode cX11_toDraw 1 = .ok (.iload_n 1, 1) := by decide +kernel
theorem dX11_toDraw_2 : decode cX11_toDraw 2 = .ok (.invokevirtual 161, 3) := by decide +kernel
theorem dX11_toDraw_5 : decode cX11_toDraw 5 = .ok (.aload_n 0, 1) := by decide +kernel
theorem dX11_toDraw_6 : decode cX11_toDraw 6 = .ok (.getfield 46, 3) := by decide +kernel
theorem dX11_toDraw_9 : decode cX11_toDraw 9 = .ok (.getfield 58, 3) := by decide +kernel
theorem dX11_toDraw_12 : decode cX11_toDraw 12 = .ok (.astore_n 2, 1) := by decide +kernel
theorem dX11_toDraw_13 : decode cX11_toDraw 13 = .ok (.aload_n 2, 1) := by decide +kernel
theorem dX11_toDraw_14 : decode cX11_toDraw 14 = .ok (.iload_n 1, 1) := by decide +kernel
theorem dX11_toDraw_15 : decode cX11_toDraw 15 = .ok (.invokevirtual 276, 3) := by decide +kernel
theorem dX11_toDraw_18 : decode cX11_toDraw 18 = .ok (.ifCond .eq 15, 3) := by decide +kernel
theorem dX11_toDraw_21 : decode cX11_toDraw 21 = .ok (.aload_n 2, 1) := by decide +kernel
theorem dX11_toDraw_22 : decode cX11_toDraw 22 = .ok (.iload_n 1, 1) := by decide +kernel
theorem dX11_toDraw_23 : decode cX11_toDraw 23 = .ok (.invokevirtual 279, 3) := by decide +kernel
theorem dX11_toDraw_26 : decode cX11_toDraw 26 = .ok (.iconst 1, 1) := by decide +kernel
theorem dX11_toDraw_27 : decode cX11_toDraw 27 = .ok (.iload_n 1, 1) := by decide +kernel
theorem dX11_toDraw_28 : decode cX11_toDraw 28 = .ok (.ishl, 1) := by decide +kernel
theorem dX11_toDraw_29 : decode cX11_toDraw 29 = .ok (.ior, 1) := by decide +kernel
theorem dX11_toDraw_30 : decode cX11_toDraw 30 = .ok (.goto 4, 3) := by decide +kernel
theorem dX11_toDraw_33 : decode cX11_toDraw 33 = .ok (.iconst 0, 1) := by decide +kernel
theorem dX11_toDraw_34 : decode cX11_toDraw 34 = .ok (.ireturn, 1) := by decide +kernel
theorem dX11_toSwallow_0 : decode cX11_toSwallow 0 = .ok (.aload_n 0, 1) := by decide +kernel
theorem dX11_toSwallow_1 : decode cX11_toSwallow 1 = .ok (.iload_n 1, 1) := by decide +kernel
theorem dX11_toSwallow_2 : decode cX11_toSwallow 2 = .ok (.iconst 1, 1) := by decide +kernel
theorem dX11_toSwallow_3 : decode cX11_toSwallow 3 = .ok (.invokevirtual 245, 3) := by decide +kernel
theorem dX11_toSwallow_6 : decode cX11_toSwallow 6 = .ok (.aload_n 0, 1) := by decide +kernel
theorem dX11_toSwallow_7 : decode cX11_toSwallow 7 = .ok (.getfield 65, 3) := by decide +kernel
theorem dX11_toSwallow_10 : decode cX11_toSwallow 10 = .ok (.invokevirtual 282, 3) := by decide +kernel
theorem dX11_toSwallow_13 : decode cX11_toSwallow 13 = .ok (.iload_n 1, 1) := by decide +kernel
theorem dX11_toSwallow_14 : decode cX11_toSwallow 14 = .ok (.ifCond .ne 13, 3) := by decide +kernel
theorem dX11_toSwallow_17 : decode cX11_toSwallow 17 = .ok (.aload_n 0, 1) := by decide +kernel
theorem dX11_toSwallow_18 : decode cX11_toSwallow 18 = .ok (.getfield 65, 3) := by decide +kernel
theorem dX11_toSwallow_21 : decode cX11_toSwallow 21 = .ok (.getfield 285, 3) := by decide +kernel
theorem dX11_toSwallow_24 : decode cX11_toSwallow 24 = .ok (.goto 10, 3) := by decide +kernel
theorem dX11_toSwallow_27 : decode cX11_toSwallow 27 = .ok (.aload_n 0, 1) := by decide +kernel
theorem dX11_toSwallow_28 : decode cX11_toSwallow 28 = .ok (.getfield 65, 3) := by decide +kernel
theorem dX11_toSwallow_31 : decode cX11_toSwallow 31 = .ok (.getfield 288, 3) := by decide +kernel
theorem dX11_toSwallow_34 : decode cX11_toSwallow 34 = .ok (.ireturn, 1) := by decide +kernel
theorem dX11_camps_0 : decode cX11_camps 0 = .ok (.aload_n 0, 1) := by decide +kernel
theorem dX11_camps_1 : decode cX11_camps 1 = .ok (.getfield 97, 3) := by decide +kernel
theorem dX11_camps_4 : decode cX11_camps 4 = .ok (.invokevirtual 291, 3) := by decide +kernel
theorem dX11_camps_7 : decode cX11_camps 7 = .ok (.ireturn, 1) := by decide +kernel
theorem dX11_couples_0 : decode cX11_couples 0 = .ok (.aload_n 0, 1) := by decide +kernel
theorem dX11_couples_1 : decode cX11_couples 1 = .ok (.getfield 97, 3) := by decide +kernel
theorem dX11_couples_4 : decode cX11_couples 4 = .ok (.invokevirtual 294, 3) := by decide +kernel
theorem dX11_couples_7 : decode cX11_couples 7 = .ok (.ireturn, 1) := by decide +kernel
theorem dX11_grudge_0 : decode cX11_grudge 0 = .ok (.aload_n 0, 1) := by decide +kernel
theorem dX11_grudge_1 : decode cX11_grudge 1 = .ok (.iload_n 1, 1) := by decide +kernel
theorem dX11_grudge_2 : decode cX11_grudge 2 = .ok (.invokevirtual 203, 3) := by decide +kernel
theorem dX11_grudge_5 : decode cX11_grudge 5 = .ok (.iconst 0, 1) := by decide +kernel
theorem dX11_grudge_6 : decode cX11_grudge 6 = .ok (.istore_n 2, 1) := by decide +kernel
theorem dX11_grudge_7 : decode cX11_grudge 7 = .ok (.iconst 0, 1) := by decide +kernel
theorem dX11_grudge_8 : decode cX11_grudge 8 = .ok (.istore_n 3, 1) := by decide +kernel
theorem dX11_grudge_9 : decode cX11_grudge 9 = .ok (.iload_n 3, 1) := by decide +kernel
theorem dX11_grudge_10 : decode cX11_grudge 10 = .ok (.aload_n 0, 1) := by decide +kernel
theorem dX11_grudge_11 : decode cX11_grudge 11 = .ok (.getfield 20, 3) := by decide +kernel
theorem dX11_grudge_14 : decode cX11_grudge 14 = .ok (.getfield 135, 3) := by decide +kernel
theorem dX11_grudge_17 : decode cX11_grudge 17 = .ok (.if_icmp .ge 37, 3) := by decide +kernel
theorem dX11_grudge_20 : decode cX11_grudge 20 = .ok (.aload_n 0, 1) := by decide +kernel
theorem dX11_grudge_21 : decode cX11_grudge 21 = .ok (.getfield 20, 3) := by decide +kernel
theorem dX11_grudge_24 : decode cX11_grudge 24 = .ok (.getfield 164, 3) := by decide +kernel
theorem dX11_grudge_27 : decode cX11_grudge 27 = .ok (.iload_n 3, 1) := by decide +kernel
theorem dX11_grudge_28 : decode cX11_grudge 28 = .ok (.iaload, 1) := by decide +kernel
theorem dX11_grudge_29 : decode cX11_grudge 29 = .ok (.iload_n 1, 1) := by decide +kernel
theorem dX11_grudge_30 : decode cX11_grudge 30 = .ok (.if_icmp .ne 18, 3) := by decide +kernel
theorem dX11_grudge_33 : decode cX11_grudge 33 = .ok (.iload_n 2, 1) := by decide +kernel
theorem dX11_grudge_34 : decode cX11_grudge 34 = .ok (.aload_n 0, 1) := by decide +kernel
theorem dX11_grudge_35 : decode cX11_grudge 35 = .ok (.getfield 46, 3) := by decide +kernel
theorem dX11_grudge_38 : decode cX11_grudge 38 = .ok (.getfield 58, 3) := by decide +kernel
theorem dX11_grudge_41 : decode cX11_grudge 41 = .ok (.getfield 93, 3) := by decide +kernel
theorem dX11_grudge_44 : decode cX11_grudge 44 = .ok (.iload_n 3, 1) := by decide +kernel
theorem dX11_grudge_45 : decode cX11_grudge 45 = .ok (.iaload, 1) := by decide +kernel
theorem dX11_grudge_46 : decode cX11_grudge 46 = .ok (.iadd, 1) := by decide +kernel
theorem dX11_grudge_47 : decode cX11_grudge 47 = .ok (.istore_n 2, 1) := by decide +kernel
theorem dX11_grudge_48 : decode cX11_grudge 48 = .ok (.iinc 3 1, 3) := by decide +kernel
theorem dX11_grudge_51 : decode cX11_grudge 51 = .ok (.goto (-42), 3) := by decide +kernel
theorem dX11_grudge_54 : decode cX11_grudge 54 = .ok (.iload_n 2, 1) := by decide +kernel
theorem dX11_grudge_55 : decode cX11_grudge 55 = .ok (.ireturn, 1) := by decide +kernel
theorem dX11_foes_0 : decode cX11_foes 0 = .ok (.aload_n 0, 1) := by decide +kernel
theorem dX11_foes_1 : decode cX11_foes 1 = .ok (.iload_n 1, 1) := by decide +kernel
theorem dX11_foes_2 : decode cX11_foes 2 = .ok (.invokevirtual 203, 3) := by decide +kernel
theorem dX11_foes_5 : decode cX11_foes 5 = .ok (.aload_n 0, 1) := by decide +kernel
theorem dX11_foes_6 : decode cX11_foes 6 = .ok (.iload_n 2, 1) := by decide +kernel
theorem dX11_foes_7 : decode cX11_foes 7 = .ok (.invokevirtual 203, 3) := by decide +kernel
theorem dX11_foes_10 : decode cX11_foes 10 = .ok (.aload_n 0, 1) := by decide +kernel
theorem dX11_foes_11 : decode cX11_foes 11 = .ok (.getfield 46, 3) := by decide +kernel
theorem dX11_foes_14 : decode cX11_foes 14 = .ok (.getfield 58, 3) := by decide +kernel
theorem dX11_foes_17 : decode cX11_foes 17 = .ok (.getfield 93, 3) := by decide +kernel
theorem dX11_foes_20 : decode cX11_foes 20 = .ok (.bipush 35, 2) := by decide +kernel
theorem dX11_foes_22 : decode cX11_foes 22 = .ok (.iload_n 1, 1) := by decide +kernel
theorem dX11_foes_23 : decode cX11_foes 23 = .ok (.iadd, 1) := by decide +kernel
theorem dX11_foes_24 : decode cX11_foes 24 = .ok (.iaload, 1) := by decide +kernel
theorem dX11_foes_25 : decode cX11_foes 25 = .ok (.aload_n 0, 1) := by decide +kernel
theorem dX11_foes_26 : decode cX11_foes 26 = .ok (.getfield 46, 3) := by decide +kernel
theorem dX11_foes_29 : decode cX11_foes 29 = .ok (.getfield 58, 3) := by decide +kernel
theorem dX11_foes_32 : decode cX11_foes 32 = .ok (.getfield 93, 3) := by decide +kernel
theorem dX11_foes_35 : decode cX11_foes 35 = .ok (.bipush 35, 2) := by decide +kernel
theorem dX11_foes_37 : decode cX11_foes 37 = .ok (.iload_n 2, 1) := by decide +kernel
theorem dX11_foes_38 : decode cX11_foes 38 = .ok (.iadd, 1) := by decide +kernel
theorem dX11_foes_39 : decode cX11_foes 39 = .ok (.iaload, 1) := by decide +kernel
theorem dX11_foes_40 : decode cX11_foes 40 = .ok (.iand, 1) := by decide +kernel
theorem dX11_foes_41 : decode cX11_foes 41 = .ok (.ireturn, 1) := by decide +kernel
theorem dX11_parts_0 : decode cX11_parts 0 = .ok (.aload_n 0, 1) := by decide +kernel
theorem dX11_parts_1 : decode cX11_parts 1 = .ok (.getfield 97, 3) := by decide +kernel
theorem dX11_parts_4 : decode cX11_parts 4 = .ok (.invokevirtual 297, 3) := by decide +kernel
theorem dX11_parts_7 : decode cX11_parts 7 = .ok (.ireturn, 1) := by decide +kernel
theorem dX11_calm_0 : decode cX11_calm 0 = .ok (.aload_n 0, 1) := by decide +kernel
theorem dX11_calm_1 : decode cX11_calm 1 = .ok (.iload_n 1, 1) := by decide +kernel
theorem dX11_calm_2 : decode cX11_calm 2 = .ok (.invokevirtual 248, 3) := by decide +kernel
theorem dX11_calm_5 : decode cX11_calm 5 = .ok (.aload_n 0, 1) := by decide +kernel
theorem dX11_calm_6 : decode cX11_calm 6 = .ok (.getfield 65, 3) := by decide +kernel
theorem dX11_calm_9 : decode cX11_calm 9 = .ok (.iload_n 1, 1) := by decide +kernel
theorem dX11_calm_10 : decode cX11_calm 10 = .ok (.invokevirtual 251, 3) := by decide +kernel
theorem dX11_calm_13 : decode cX11_calm 13 = .ok (.invokevirtual 147, 3) := by decide +kernel
theorem dX11_calm_16 : decode cX11_calm 16 = .ok (.ireturn, 1) := by decide +kernel
theorem dX11_lacks_0 : decode cX11_lacks 0 = .ok (.aload_n 0, 1) := by decide +kernel
theorem dX11_lacks_1 : decode cX11_lacks 1 = .ok (.iload_n 1, 1) := by decide +kernel
theorem dX11_lacks_2 : decode cX11_lacks 2 = .ok (.invokevirtual 161, 3) := by decide +kernel
theorem dX11_lacks_5 : decode cX11_lacks 5 = .ok (.aload_n 0, 1) := by decide +kernel
theorem dX11_lacks_6 : decode cX11_lacks 6 = .ok (.getfield 46, 3) := by decide +kernel
theorem dX11_lacks_9 : decode cX11_lacks 9 = .ok (.getfield 58, 3) := by decide +kernel
theorem dX11_lacks_12 : decode cX11_lacks 12 = .ok (.astore_n 2, 1) := by decide +kernel
theorem dX11_lacks_13 : decode cX11_lacks 13 = .ok (.aload_n 2, 1) := by decide +kernel
theorem dX11_lacks_14 : decode cX11_lacks 14 = .ok (.iload_n 1, 1) := by decide +kernel
theorem dX11_lacks_15 : decode cX11_lacks 15 = .ok (.invokevirtual 219, 3) := by decide +kernel
theorem dX11_lacks_18 : decode cX11_lacks 18 = .ok (.ifCond .eq 13, 3) := by decide +kernel
theorem dX11_lacks_21 : decode cX11_lacks 21 = .ok (.aload_n 0, 1) := by decide +kernel
theorem dX11_lacks_22 : decode cX11_lacks 22 = .ok (.getfield 20, 3) := by decide +kernel
theorem dX11_lacks_25 : decode cX11_lacks 25 = .ok (.getfield 132, 3) := by decide +kernel
theorem dX11_lacks_28 : decode cX11_lacks 28 = .ok (.ifCond .ne 5, 3) := by decide +kernel
theorem dX11_lacks_31 : decode cX11_lacks 31 = .ok (.iconst (-1), 1) := by decide +kernel
theorem dX11_lacks_32 : decode cX11_lacks 32 = .ok (.ireturn, 1) := by decide +kernel
theorem dX11_lacks_33 : decode cX11_lacks 33 = .ok (.iconst 0, 1) := by decide +kernel
theorem dX11_lacks_34 : decode cX11_lacks 34 = .ok (.istore_n 3, 1) := by decide +kernel
theorem dX11_lacks_35 : decode cX11_lacks 35 = .ok (.iconst 0, 1) := by decide +kernel
theorem dX11_lacks_36 : decode cX11_lacks 36 = .ok (.istore 4, 2) := by decide +kernel
theorem dX11_lacks_38 : decode cX11_lacks 38 = .ok (.iload 4, 2) := by decide +kernel
theorem dX11_lacks_40 : decode cX11_lacks 40 = .ok (.aload_n 0, 1) := by decide +kernel
theorem dX11_lacks_41 : decode cX11_lacks 41 = .ok (.getfield 20, 3) := by decide +kernel
theorem dX11_lacks_44 : decode cX11_lacks 44 = .ok (.getfield 132, 3) := by decide +kernel
theorem dX11_lacks_47 : decode cX11_lacks 47 = .ok (.if_icmp .ge 20, 3) := by decide +kernel
theorem dX11_lacks_50 : decode cX11_lacks 50 = .ok (.iload_n 3, 1) := by decide +kernel
theorem dX11_lacks_51 : decode cX11_lacks 51 = .ok (.aload_n 2, 1) := by decide +kernel
theorem dX11_lacks_52 : decode cX11_lacks 52 = .ok (.iload 4, 2) := by decide +kernel
theorem dX11_lacks_54 : decode cX11_lacks 54 = .ok (.invokevirtual 189, 3) := by decide +kernel
theorem dX11_lacks_57 : decode cX11_lacks 57 = .ok (.invokestatic 300, 3) := by decide +kernel
theorem dX11_lacks_60 : decode cX11_lacks 60 = .ok (.istore_n 3, 1) := by decide +kernel
theorem dX11_lacks_61 : decode cX11_lacks 61 = .ok (.iinc 4 1, 3) := by decide +kernel
theorem dX11_lacks_64 : decode cX11_lacks 64 = .ok (.goto (-26), 3) := by decide +kernel
theorem dX11_lacks_67 : decode cX11_lacks 67 = .ok (.iconst 0, 1) := by decide +kernel
theorem dX11_lacks_68 : decode cX11_lacks 68 = .ok (.aload_n 0, 1) := by decide +kernel
theorem dX11_lacks_69 : decode cX11_lacks 69 = .ok (.getfield 20, 3) := by decide +kernel
theorem dX11_lacks_72 : decode cX11_lacks 72 = .ok (.getfield 167, 3) := by decide +kernel
theorem dX11_lacks_75 : decode cX11_lacks 75 = .ok (.iload_n 1, 1) := by decide +kernel
theorem dX11_lacks_76 : decode cX11_lacks 76 = .ok (.iaload, 1) := by decide +kernel
theorem dX11_lacks_77 : decode cX11_lacks 77 = .ok (.iload_n 3, 1) := by decide +kernel
theorem dX11_lacks_78 : decode cX11_lacks 78 = .ok (.isub, 1) := by decide +kernel
theorem dX11_lacks_79 : decode cX11_lacks 79 = .ok (.invokestatic 300, 3) := by decide +kernel
theorem dX11_lacks_82 : decode cX11_lacks 82 = .ok (.ireturn, 1) := by decide +kernel
theorem dX11_above_0 : decode cX11_above 0 = .ok (.aload_n 0, 1) := by decide +kernel
theorem dX11_above_1 : decode cX11_above 1 = .ok (.iload_n 1, 1) := by decide +kernel
theorem dX11_above_2 : decode cX11_above 2 = .ok (.invokevirtual 161, 3) := by decide +kernel
theorem dX11_above_5 : decode cX11_above 5 = .ok (.aload_n 0, 1) := by decide +kernel
theorem dX11_above_6 : decode cX11_above 6 = .ok (.getfield 46, 3) := by decide +kernel
theorem dX11_above_9 : decode cX11_above 9 = .ok (.getfield 58, 3) := by decide +kernel
theorem dX11_above_12 : decode cX11_above 12 = .ok (.astore_n 2, 1) := by decide +kernel
theorem dX11_above_13 : decode cX11_above 13 = .ok (.aload_n 2, 1) := by decide +kernel
theorem dX11_above_14 : decode cX11_above 14 = .ok (.iload_n 1, 1) := by decide +kernel
theorem dX11_above_15 : decode cX11_above 15 = .ok (.invokevirtual 276, 3) := by decide +kernel
theorem dX11_above_18 : decode cX11_above 18 = .ok (.ifCond .eq 14, 3) := by decide +kernel
theorem dX11_above_21 : decode cX11_above 21 = .ok (.aload_n 2, 1) := by decide +kernel
theorem dX11_above_22 : decode cX11_above 22 = .ok (.iload_n 1, 1) := by decide +kernel
theorem dX11_above_23 : decode cX11_above 23 = .ok (.invokevirtual 279, 3) := by decide +kernel
theorem dX11_above_26 : decode cX11_above 26 = .ok (.invokestatic 195, 3) := by decide +kernel
theorem dX11_above_29 : decode cX11_above 29 = .ok (.goto 4, 3) := by decide +kernel
theorem dX11_above_32 : decode cX11_above 32 = .ok (.iconst (-1), 1) := by decide +kernel
theorem dX11_above_33 : decode cX11_above 33 = .ok (.ireturn, 1) := by decide +kernel
theorem dX11_hiccup_0 : decode cX11_hiccup 0 = .ok (.aload_n 0, 1) := by decide +kernel
theorem dX11_hiccup_1 : decode cX11_hiccup 1 = .ok (.iload_n 1, 1) := by decide +kernel
theorem dX11_hiccup_2 : decode cX11_hiccup 2 = .ok (.invokevirtual 183, 3) := by decide +kernel
theorem dX11_hiccup_5 : decode cX11_hiccup 5 = .ok (.aload_n 0, 1) := by decide +kernel
theorem dX11_hiccup_6 : decode cX11_hiccup 6 = .ok (.getfield 20, 3) := by decide +kernel
theorem dX11_hiccup_9 : decode cX11_hiccup 9 = .ok (.getfield 186, 3) := by decide +kernel
theorem dX11_hiccup_12 : decode cX11_hiccup 12 = .ok (.iload_n 1, 1) := by decide +kernel
theorem dX11_hiccup_13 : decode cX11_hiccup 13 = .ok (.iaload, 1) := by decide +kernel
theorem dX11_hiccup_14 : decode cX11_hiccup 14 = .ok (.istore_n 2, 1) := by decide +kernel
theorem dX11_hiccup_15 : decode cX11_hiccup 15 = .ok (.iload_n 2, 1) := by decide +kernel
theorem dX11_hiccup_16 : decode cX11_hiccup 16 = .ok (.ifCond .gt 5, 3) := by decide +kernel
theorem dX11_hiccup_19 : decode cX11_hiccup 19 = .ok (.iconst (-1), 1) := by decide +kernel
theorem dX11_hiccup_20 : decode cX11_hiccup 20 = .ok (.ireturn, 1) := by decide +kernel
theorem dX11_hiccup_21 : decode cX11_hiccup 21 = .ok (.iload_n 2, 1) := by decide +kernel
theorem dX11_hiccup_22 : decode cX11_hiccup 22 = .ok (.aload_n 0, 1) := by decide +kernel
theorem dX11_hiccup_23 : decode cX11_hiccup 23 = .ok (.getfield 46, 3) := by decide +kernel
theorem dX11_hiccup_26 : decode cX11_hiccup 26 = .ok (.getfield 58, 3) := by decide +kernel
theorem dX11_hiccup_29 : decode cX11_hiccup 29 = .ok (.getfield 93, 3) := by decide +kernel
theorem dX11_hiccup_32 : decode cX11_hiccup 32 = .ok (.bipush 47, 2) := by decide +kernel
theorem dX11_hiccup_34 : decode cX11_hiccup 34 = .ok (.iaload, 1) := by decide +kernel
theorem dX11_hiccup_35 : decode cX11_hiccup 35 = .ok (.iload_n 2, 1) := by decide +kernel
theorem dX11_hiccup_36 : decode cX11_hiccup 36 = .ok (.irem, 1) := by decide +kernel
theorem dX11_hiccup_37 : decode cX11_hiccup 37 = .ok (.isub, 1) := by decide +kernel
theorem dX11_hiccup_38 : decode cX11_hiccup 38 = .ok (.ireturn, 1) := by decide +kernel
theorem dX11_see_0 : decode cX11_see 0 = .ok (.aload_n 0, 1) := by decide +kernel
theorem dX11_see_1 : decode cX11_see 1 = .ok (.iload_n 1, 1) := by decide +kernel
theorem dX11_see_2 : decode cX11_see 2 = .ok (.invokevirtual 161, 3) := by decide +kernel
theorem dX11_see_5 : decode cX11_see 5 = .ok (.iload_n 2, 1) := by decide +kernel
theorem dX11_see_6 : decode cX11_see 6 = .ok (.ifCond .lt 23, 3) := by decide +kernel
theorem dX11_see_9 : decode cX11_see 9 = .ok (.iload_n 2, 1) := by decide +kernel
theorem dX11_see_10 : decode cX11_see 10 = .ok (.bipush 30, 2) := by decide +kernel
theorem dX11_see_12 : decode cX11_see 12 = .ok (.if_icmp .gt 17, 3) := by decide +kernel
theorem dX11_see_15 : decode cX11_see 15 = .ok (.iload_n 3, 1) := by decide +kernel
theorem dX11_see_16 : decode cX11_see 16 = .ok (.ifCond .lt 13, 3) := by decide +kernel
theorem dX11_see_19 : decode cX11_see 19 = .ok (.iload_n 3, 1) := by decide +kernel
theorem dX11_see_20 : decode cX11_see 20 = .ok (.bipush 99, 2) := by decide +kernel
theorem dX11_see_22 : decode cX11_see 22 = .ok (.if_icmp .gt 7, 3) := by decide +kernel
theorem dX11_see_25 : decode cX11_see 25 = .ok (.iconst 1, 1) := by decide +kernel
theorem dX11_see_26 : decode cX11_see 26 = .ok (.goto 4, 3) := by decide +kernel
theorem dX11_see_29 : decode cX11_see 29 = .ok (.iconst 0, 1) := by decide +kernel
theorem dX11_see_30 : decode cX11_see 30 = .ok (.istore 4, 2) := by decide +kernel
theorem dX11_see_32 : decode cX11_see 32 = .ok (.iload 4, 2) := by decide +kernel
theorem dX11_see_34 : decode cX11_see 34 = .ok (.ifCond .eq 18, 3) := by decide +kernel
theorem dX11_see_37 : decode cX11_see 37 = .ok (.aload_n 0, 1) := by decide +kernel
theorem dX11_see_38 : decode cX11_see 38 = .ok (.getfield 46, 3) := by decide +kernel
theorem dX11_see_41 : decode cX11_see 41 = .ok (.getfield 80, 3) := by decide +kernel
theorem dX11_see_44 : decode cX11_see 44 = .ok (.getfield 153, 3) := by decide +kernel
theorem dX11_see_47 : decode cX11_see 47 = .ok (.bipush 8, 2) := by decide +kernel
theorem dX11_see_49 : decode cX11_see 49 = .ok (.if_icmp .lt 9, 3) := by decide +kernel
theorem dX11_see_52 : decode cX11_see 52 = .ok (.aload_n 0, 1) := by decide +kernel
theorem dX11_see_53 : decode cX11_see 53 = .ok (.iconst 2, 1) := by decide +kernel
theorem dX11_see_54 : decode cX11_see 54 = .ok (.invokevirtual 210, 3) := by decide +kernel
theorem dX11_see_57 : decode cX11_see 57 = .ok (.ireturn, 1) := by decide +kernel
theorem dX11_see_58 : decode cX11_see 58 = .ok (.aload_n 0, 1) := by decide +kernel
theorem dX11_see_59 : decode cX11_see 59 = .ok (.getfield 46, 3) := by decide +kernel
theorem dX11_see_62 : decode cX11_see 62 = .ok (.getfield 80, 3) := by decide +kernel
theorem dX11_see_65 : decode cX11_see 65 = .ok (.iload_n 1, 1) := by decide +kernel
theorem dX11_see_66 : decode cX11_see 66 = .ok (.iload_n 2, 1) := by decide +kernel
theorem dX11_see_67 : decode cX11_see 67 = .ok (.iload_n 3, 1) := by decide +kernel
theorem dX11_see_68 : decode cX11_see 68 = .ok (.invokevirtual 303, 3) := by decide +kernel
theorem dX11_see_71 : decode cX11_see 71 = .ok (.aload_n 0, 1) := by decide +kernel
theorem dX11_see_72 : decode cX11_see 72 = .ok (.getfield 46, 3) := by decide +kernel
theorem dX11_see_75 : decode cX11_see 75 = .ok (.getfield 80, 3) := by decide +kernel
theorem dX11_see_78 : decode cX11_see 78 = .ok (.getfield 153, 3) := by decide +kernel
theorem dX11_see_81 : decode cX11_see 81 = .ok (.ireturn, 1) := by decide +kernel
theorem dX11_wrong_0 : decode cX11_wrong 0 = .ok (.aload_n 0, 1) := by decide +kernel
theorem dX11_wrong_1 : decode cX11_wrong 1 = .ok (.iload_n 1, 1) := by decide +kernel
theorem dX11_wrong_2 : decode cX11_wrong 2 = .ok (.iconst 2, 1) := by decide +kernel
theorem dX11_wrong_3 : decode cX11_wrong 3 = .ok (.invokevirtual 245, 3) := by decide +kernel
theorem dX11_wrong_6 : decode cX11_wrong 6 = .ok (.iload_n 1, 1) := by decide +kernel
theorem dX11_wrong_7 : decode cX11_wrong 7 = .ok (.iconst 2, 1) := by decide +kernel
theorem dX11_wrong_8 : decode cX11_wrong 8 = .ok (.if_icmp .ne 19, 3) := by decide +kernel
theorem dX11_wrong_11 : decode cX11_wrong 11 = .ok (.aload_n 0, 1) := by decide +kernel
theorem dX11_wrong_12 : decode cX11_wrong 12 = .ok (.getfield 87, 3) := by decide +kernel
theorem dX11_wrong_15 : decode cX11_wrong 15 = .ok (.invokevirtual 307, 3) := by decide +kernel
theorem dX11_wrong_18 : decode cX11_wrong 18 = .ok (.ifCond .eq 7, 3) := by decide +kernel
theorem dX11_wrong_21 : decode cX11_wrong 21 = .ok (.iconst 1, 1) := by decide +kernel
theorem dX11_wrong_22 : decode cX11_wrong 22 = .ok (.goto 4, 3) := by decide +kernel
theorem dX11_wrong_25 : decode cX11_wrong 25 = .ok (.iconst 0, 1) := by decide +kernel
theorem dX11_wrong_26 : decode cX11_wrong 26 = .ok (.ireturn, 1) := by decide +kernel
theorem dX11_wrong_27 : decode cX11_wrong 27 = .ok (.iload_n 1, 1) := by decide +kernel
theorem dX11_wrong_28 : decode cX11_wrong 28 = .ok (.ifCond .ne 13, 3) := by decide +kernel
theorem dX11_wrong_31 : decode cX11_wrong 31 = .ok (.aload_n 0, 1) := by decide +kernel
theorem dX11_wrong_32 : decode cX11_wrong 32 = .ok (.getfield 87, 3) := by decide +kernel
theorem dX11_wrong_35 : decode cX11_wrong 35 = .ok (.invokevirtual 311, 3) := by decide +kernel
theorem dX11_wrong_38 : decode cX11_wrong 38 = .ok (.goto 10, 3) := by decide +kernel
theorem dX11_wrong_41 : decode cX11_wrong 41 = .ok (.aload_n 0, 1) := by decide +kernel
theorem dX11_wrong_42 : decode cX11_wrong 42 = .ok (.getfield 87, 3) := by decide +kernel
theorem dX11_wrong_45 : decode cX11_wrong 45 = .ok (.invokevirtual 312, 3) := by decide +kernel
theorem dX11_wrong_48 : decode cX11_wrong 48 = .ok (.ireturn, 1) := by decide +kernel
theorem dX11_look_0 : decode cX11_look 0 = .ok (.aload_n 0, 1) := by decide +kernel
theorem dX11_look_1 : decode cX11_look 1 = .ok (.iload_n 1, 1) := by decide +kernel
theorem dX11_look_2 : decode cX11_look 2 = .ok (.iconst 1, 1) := by decide +kernel
theorem dX11_look_3 : decode cX11_look 3 = .ok (.invokevirtual 245, 3) := by decide +kernel
theorem dX11_look_6 : decode cX11_look 6 = .ok (.aload_n 0, 1) := by decide +kernel
theorem dX11_look_7 : decode cX11_look 7 = .ok (.getfield 87, 3) := by decide +kernel
theorem dX11_look_10 : decode cX11_look 10 = .ok (.invokevirtual 315, 3) := by decide +kernel
theorem dX11_look_13 : decode cX11_look 13 = .ok (.iload_n 1, 1) := by decide +kernel
theorem dX11_look_14 : decode cX11_look 14 = .ok (.ifCond .ne 13, 3) := by decide +kernel
theorem dX11_look_17 : decode cX11_look 17 = .ok (.aload_n 0, 1) := by decide +kernel
theorem dX11_look_18 : decode cX11_look 18 = .ok (.getfield 87, 3) := by decide +kernel
theorem dX11_look_21 : decode cX11_look 21 = .ok (.getfield 318, 3) := by decide +kernel
theorem dX11_look_24 : decode cX11_look 24 = .ok (.goto 10, 3) := by decide +kernel
theorem dX11_look_27 : decode cX11_look 27 = .ok (.aload_n 0, 1) := by decide +kernel
theorem dX11_look_28 : decode cX11_look 28 = .ok (.getfield 87, 3) := by decide +kernel
theorem dX11_look_31 : decode cX11_look 31 = .ok (.getfield 321, 3) := by decide +kernel
theorem dX11_look_34 : decode cX11_look 34 = .ok (.ireturn, 1) := by decide +kernel
theorem dX11_forget_0 : decode cX11_forget 0 = .ok (.aload_n 0, 1) := by decide +kernel
theorem dX11_forget_1 : decode cX11_forget 1 = .ok (.getfield 46, 3) := by decide +kernel
theorem dX11_forget_4 : decode cX11_forget 4 = .ok (.getfield 80, 3) := by decide +kernel
theorem dX11_forget_7 : decode cX11_forget 7 = .ok (.iconst 0, 1) := by decide +kernel
theorem dX11_forget_8 : decode cX11_forget 8 = .ok (.putfield 153, 3) := by decide +kernel
theorem dX11_forget_11 : decode cX11_forget 11 = .ok (.return_, 1) := by decide +kernel
theorem dX11_game_0 : decode cX11_game 0 = .ok (.aload_n 0, 1) := by decide +kernel
theorem dX11_game_1 : decode cX11_game 1 = .ok (.iload_n 1, 1) := by decide +kernel
theorem dX11_game_2 : decode cX11_game 2 = .ok (.invokevirtual 203, 3) := by decide +kernel
theorem dX11_game_5 : decode cX11_game 5 = .ok (.aload_n 0, 1) := by decide +kernel
theorem dX11_game_6 : decode cX11_game 6 = .ok (.iload_n 2, 1) := by decide +kernel
theorem dX11_game_7 : decode cX11_game 7 = .ok (.invokevirtual 203, 3) := by decide +kernel
theorem dX11_game_10 : decode cX11_game 10 = .ok (.aload_n 0, 1) := by decide +kernel
theorem dX11_game_11 : decode cX11_game 11 = .ok (.iload_n 3, 1) := by decide +kernel
theorem dX11_game_12 : decode cX11_game 12 = .ok (.iconst 1, 1) := by decide +kernel
theorem dX11_game_13 : decode cX11_game 13 = .ok (.invokevirtual 245, 3) := by decide +kernel
theorem dX11_game_16 : decode cX11_game 16 = .ok (.aload_n 0, 1) := by decide +kernel
theorem dX11_game_17 : decode cX11_game 17 = .ok (.getfield 97, 3) := by decide +kernel
theorem dX11_game_20 : decode cX11_game 20 = .ok (.iload_n 1, 1) := by decide +kernel
theorem dX11_game_21 : decode cX11_game 21 = .ok (.iload_n 2, 1) := by decide +kernel
theorem dX11_game_22 : decode cX11_game 22 = .ok (.invokevirtual 206, 3) := by decide +kernel
theorem dX11_game_25 : decode cX11_game 25 = .ok (.ifCond .ne 11, 3) := by decide +kernel
theorem dX11_game_28 : decode cX11_game 28 = .ok (.new 108, 3) := by decide +kernel
theorem dX11_game_31 : decode cX11_game 31 = .ok (.dup, 1) := by decide +kernel
theorem dX11_game_32 : decode cX11_game 32 = .ok (.invokespecial 110, 3) := by decide +kernel
theorem dX11_game_35 : decode cX11_game 35 = .ok (.athrow, 1) := by decide +kernel
theorem dX11_game_36 : decode cX11_game 36 = .ok (.aload_n 0, 1) := by decide +kernel
theorem dX11_game_37 : decode cX11_game 37 = .ok (.getfield 65, 3) := by decide +kernel
theorem dX11_game_40 : decode cX11_game 40 = .ok (.iload_n 1, 1) := by decide +kernel
theorem dX11_game_41 : decode cX11_game 41 = .ok (.iload_n 2, 1) := by decide +kernel
theorem dX11_game_42 : decode cX11_game 42 = .ok (.invokevirtual 324, 3) := by decide +kernel
theorem dX11_game_45 : decode cX11_game 45 = .ok (.iload_n 3, 1) := by decide +kernel
theorem dX11_game_46 : decode cX11_game 46 = .ok (.ifCond .ne 13, 3) := by decide +kernel
theorem dX11_game_49 : decode cX11_game 49 = .ok (.aload_n 0, 1) := by decide +kernel
theorem dX11_game_50 : decode cX11_game 50 = .ok (.getfield 65, 3) := by decide +kernel
theorem dX11_game_53 : decode cX11_game 53 = .ok (.getfield 327, 3) := by decide +kernel
theorem dX11_game_56 : decode cX11_game 56 = .ok (.goto 10, 3) := by decide +kernel
theorem dX11_game_59 : decode cX11_game 59 = .ok (.aload_n 0, 1) := by decide +kernel
theorem dX11_game_60 : decode cX11_game 60 = .ok (.getfield 65, 3) := by decide +kernel
theorem dX11_game_63 : decode cX11_game 63 = .ok (.getfield 330, 3) := by decide +kernel
theorem dX11_game_66 : decode cX11_game 66 = .ok (.ireturn, 1) := by decide +kernel
theorem dX11_summer_0 : decode cX11_summer 0 = .ok (.aload_n 0, 1) := by decide +kernel
theorem dX11_summer_1 : decode cX11_summer 1 = .ok (.iload_n 3, 1) := by decide +kernel
theorem dX11_summer_2 : decode cX11_summer 2 = .ok (.iconst 2, 1) := by decide +kernel
theorem dX11_summer_3 : decode cX11_summer 3 = .ok (.invokevirtual 245, 3) := by decide +kernel
theorem dX11_summer_6 : decode cX11_summer 6 = .ok (.aload_n 0, 1) := by decide +kernel
theorem dX11_summer_7 : decode cX11_summer 7 = .ok (.iload_n 2, 1) := by decide +kernel
theorem dX11_summer_8 : decode cX11_summer 8 = .ok (.invokevirtual 248, 3) := by decide +kernel
theorem dX11_summer_11 : decode cX11_summer 11 = .ok (.aload_n 0, 1) := by decide +kernel
theorem dX11_summer_12 : decode cX11_summer 12 = .ok (.getfield 65, 3) := by decide +kernel
theorem dX11_summer_15 : decode cX11_summer 15 = .ok (.iload_n 1, 1) := by decide +kernel
theorem dX11_summer_16 : decode cX11_summer 16 = .ok (.iload_n 2, 1) := by decide +kernel
theorem dX11_summer_17 : decode cX11_summer 17 = .ok (.invokevirtual 333, 3) := by decide +kernel
theorem dX11_summer_20 : decode cX11_summer 20 = .ok (.astore 4, 2) := by decide +kernel
theorem dX11_summer_22 : decode cX11_summer 22 = .ok (.iload_n 3, 1) := by decide +kernel
theorem dX11_summer_23 : decode cX11_summer 23 = .ok (.lookupswitch 42 #[(0, 25), (1, 33)], 25) := by decide +kernel
theorem dX11_summer_48 : decode cX11_summer 48 = .ok (.aload_n 0, 1) := by decide +kernel
theorem dX11_summer_49 : decode cX11_summer 49 = .ok (.getfield 65, 3) := by decide +kernel
theorem dX11_summer_52 : decode cX11_summer 52 = .ok (.invokevirtual 258, 3) := by decide +kernel
theorem dX11_summer_55 : decode cX11_summer 55 = .ok (.ireturn, 1) := by decide +kernel
theorem dX11_summer_56 : decode cX11_summer 56 = .ok (.aload 4, 2) := by decide +kernel
theorem dX11_summer_58 : decode cX11_summer 58 = .ok (.invokevirtual 147, 3) := by decide +kernel
theorem dX11_summer_61 : decode cX11_summer 61 = .ok (.invokestatic 195, 3) := by decide +kernel
theorem dX11_summer_64 : decode cX11_summer 64 = .ok (.ireturn, 1) := by decide +kernel
theorem dX11_summer_65 : decode cX11_summer 65 = .ok (.aload 4, 2) := by decide +kernel
theorem dX11_summer_67 : decode cX11_summer 67 = .ok (.invokevirtual 337, 3) := by decide +kernel
theorem dX11_summer_70 : decode cX11_summer 70 = .ok (.ireturn, 1) := by decide +kernel
theorem dX11_image_0 : decode cX11_image 0 = .ok (.aload_n 0, 1) := by decide +kernel
theorem dX11_image_1 : decode cX11_image 1 = .ok (.getfield 50, 3) := by decide +kernel
theorem dX11_image_4 : decode cX11_image 4 = .ok (.aload_n 0, 1) := by decide +kernel
theorem dX11_image_5 : decode cX11_image 5 = .ok (.getfield 46, 3) := by decide +kernel
theorem dX11_image_8 : decode cX11_image 8 = .ok (.invokevirtual 340, 3) := by decide +kernel
theorem dX11_image_11 : decode cX11_image 11 = .ok (.aload_n 0, 1) := by decide +kernel
theorem dX11_image_12 : decode cX11_image 12 = .ok (.iconst 1, 1) := by decide +kernel
theorem dX11_image_13 : decode cX11_image 13 = .ok (.putfield 124, 3) := by decide +kernel
theorem dX11_image_16 : decode cX11_image 16 = .ok (.return_, 1) := by decide +kernel
theorem dX11_restore_0 : decode cX11_restore 0 = .ok (.aload_n 0, 1) := by decide +kernel
theorem dX11_restore_1 : decode cX11_restore 1 = .ok (.getfield 124, 3) := by decide +kernel
theorem dX11_restore_4 : decode cX11_restore 4 = .ok (.ifCond .eq 14, 3) := by decide +kernel
theorem dX11_restore_7 : decode cX11_restore 7 = .ok (.aload_n 0, 1) := by decide +kernel
theorem dX11_restore_8 : decode cX11_restore 8 = .ok (.getfield 46, 3) := by decide +kernel
theorem dX11_restore_11 : decode cX11_restore 11 = .ok (.aload_n 0, 1) := by decide +kernel
theorem dX11_restore_12 : decode cX11_restore 12 = .ok (.getfield 50, 3) := by decide +kernel
theorem dX11_restore_15 : decode cX11_restore 15 = .ok (.invokevirtual 340, 3) := by decide +kernel
theorem dX11_restore_18 : decode cX11_restore 18 = .ok (.aload_n 0, 1) := by decide +kernel
theorem dX11_restore_19 : decode cX11_restore 19 = .ok (.getfield 124, 3) := by decide +kernel
theorem dX11_restore_22 : decode cX11_restore 22 = .ok (.ireturn, 1) := by decide +kernel
theorem dX11_refuse_0 : decode cX11_refuse 0 = .ok (.iload_n 1, 1) := by decide +kernel
theorem dX11_refuse_1 : decode cX11_refuse 1 = .ok (.ifCond .lt 28, 3) := by decide +kernel
theorem dX11_refuse_4 : decode cX11_refuse 4 = .ok (.iload_n 1, 1) := by decide +kernel
theorem dX11_refuse_5 : decode cX11_refuse 5 = .ok (.aload_n 0, 1) := by decide +kernel
theorem dX11_refuse_6 : decode cX11_refuse 6 = .ok (.getfield 46, 3) := by decide +kernel
theorem dX11_refuse_9 : decode cX11_refuse 9 = .ok (.getfield 118, 3) := by decide +kernel
theorem dX11_refuse_12 : decode cX11_refuse 12 = .ok (.arraylength, 1) := by decide +kernel
theorem dX11_refuse_13 : decode cX11_refuse 13 = .ok (.if_icmp .ge 16, 3) := by decide +kernel
theorem dX11_refuse_16 : decode cX11_refuse 16 = .ok (.aload_n 0, 1) := by decide +kernel
theorem dX11_refuse_17 : decode cX11_refuse 17 = .ok (.getfield 46, 3) := by decide +kernel
theorem dX11_refuse_20 : decode cX11_refuse 20 = .ok (.getfield 118, 3) := by decide +kernel
theorem dX11_refuse_23 : decode cX11_refuse 23 = .ok (.iload_n 1, 1) := by decide +kernel
theorem dX11_refuse_24 : decode cX11_refuse 24 = .ok (.dup2, 1) := by decide +kernel
theorem dX11_refuse_25 : decode cX11_refuse 25 = .ok (.iaload, 1) := by decide +kernel
theorem dX11_refuse_26 : decode cX11_refuse 26 = .ok (.iconst 1, 1) := by decide +kernel
theorem dX11_refuse_27 : decode cX11_refuse 27 = .ok (.iadd, 1) := by decide +kernel
theorem dX11_refuse_28 : decode cX11_refuse 28 = .ok (.iastore, 1) := by decide +kernel
theorem dX11_refuse_29 : decode cX11_refuse 29 = .ok (.iconst (-1), 1) := by decide +kernel
theorem dX11_refuse_30 : decode cX11_refuse 30 = .ok (.ireturn, 1) := by decide +kernel
theorem dX11_needBlade_0 : decode cX11_needBlade 0 = .ok (.iload_n 1, 1) := by decide +kernel
theorem dX11_needBlade_1 : decode cX11_needBlade 1 = .ok (.ifCond .lt 14, 3) := by decide +kernel
theorem dX11_needBlade_4 : decode cX11_needBlade 4 = .ok (.iload_n 1, 1) := by decide +kernel
theorem dX11_needBlade_5 : decode cX11_needBlade 5 = .ok (.aload_n 0, 1) := by decide +kernel
theorem dX11_needBlade_6 : decode cX11_needBlade 6 = .ok (.getfield 20, 3) := by decide +kernel
theorem dX11_needBlade_9 : decode cX11_needBlade 9 = .ok (.getfield 135, 3) := by decide +kernel
theorem dX11_needBlade_12 : decode cX11_needBlade 12 = .ok (.if_icmp .lt 11, 3) := by decide +kernel
theorem dX11_needBlade_15 : decode cX11_needBlade 15 = .ok (.new 158, 3) := by decide +kernel
theorem dX11_needBlade_18 : decode cX11_needBlade 18 = .ok (.dup, 1) := by decide +kernel
theorem dX11_needBlade_19 : decode cX11_needBlade 19 = .ok (.invokespecial 160, 3) := by decide +kernel
theorem dX11_needBlade_22 : decode cX11_needBlade 22 = .ok (.athrow, 1) := by decide +kernel
theorem dX11_needBlade_23 : decode cX11_needBlade 23 = .ok (.return_, 1) := by decide +kernel
theorem dX11_needSwallower_0 : decode cX11_needSwallower 0 = .ok (.iload_n 1, 1) := by decide +kernel
theorem dX11_needSwallower_1 : decode cX11_needSwallower 1 = .ok (.ifCond .lt 14, 3) := by decide +kernel
theorem dX11_needSwallower_4 : decode cX11_needSwallower 4 = .ok (.iload_n 1, 1) := by decide +kernel
theorem dX11_needSwallower_5 : decode cX11_needSwallower 5 = .ok (.aload_n 0, 1) := by decide +kernel
theorem dX11_needSwallower_6 : decode cX11_needSwallower 6 = .ok (.getfield 20, 3) := by decide +kernel
theorem dX11_needSwallower_9 : decode cX11_needSwallower 9 = .ok (.getfield 132, 3) := by decide +kernel
theorem dX11_needSwallower_12 : decode cX11_needSwallower 12 = .ok (.if_icmp .lt 11, 3) := by decide +kernel
theorem dX11_needSwallower_15 : decode cX11_needSwallower 15 = .ok (.new 158, 3) := by decide +kernel
theorem dX11_needSwallower_18 : decode cX11_needSwallower 18 = .ok (.dup, 1) := by decide +kernel
theorem dX11_needSwallower_19 : decode cX11_needSwallower 19 = .ok (.invokespecial 160, 3) := by decide +kernel
theorem dX11_needSwallower_22 : decode cX11_needSwallower 22 = .ok (.athrow, 1) := by decide +kernel
theorem dX11_needSwallower_23 : decode cX11_needSwallower 23 = .ok (.return_, 1) := by decide +kernel
theorem dX11_needHouse_0 : decode cX11_needHouse 0 = .ok (.iload_n 1, 1) := by decide +kernel
theorem dX11_needHouse_1 : decode cX11_needHouse 1 = .ok (.ifCond .lt 9, 3) := by decide +kernel
theorem dX11_needHouse_4 : decode cX11_needHouse 4 = .ok (.iload_n 1, 1) := by decide +kernel
theorem dX11_needHouse_5 : decode cX11_needHouse 5 = .ok (.bipush 6, 2) := by decide +kernel
theorem dX11_needHouse_7 : decode cX11_needHouse 7 = .ok (.if_icmp .lt 11, 3) := by decide +kernel
theorem dX11_needHouse_10 : decode cX11_needHouse 10 = .ok (.new 158, 3) := by decide +kernel
theorem dX11_needHouse_13 : decode cX11_needHouse 13 = .ok (.dup, 1) := by decide +kernel
theorem dX11_needHouse_14 : decode cX11_needHouse 14 = .ok (.invokespecial 160, 3) := by decide +kernel
theorem dX11_needHouse_17 : decode cX11_needHouse 17 = .ok (.athrow, 1) := by decide +kernel
theorem dX11_needHouse_18 : decode cX11_needHouse 18 = .ok (.return_, 1) := by decide +kernel
theorem dX11_needWhat_0 : decode cX11_needWhat 0 = .ok (.iload_n 1, 1) := by decide +kernel
theorem dX11_needWhat_1 : decode cX11_needWhat 1 = .ok (.ifCond .lt 8, 3) := by decide +kernel
theorem dX11_needWhat_4 : decode cX11_needWhat 4 = .ok (.iload_n 1, 1) := by decide +kernel
theorem dX11_needWhat_5 : decode cX11_needWhat 5 = .ok (.iload_n 2, 1) := by decide +kernel
theorem dX11_needWhat_6 : decode cX11_needWhat 6 = .ok (.if_icmp .le 11, 3) := by decide +kernel
theorem dX11_needWhat_9 : decode cX11_needWhat 9 = .ok (.new 158, 3) := by decide +kernel
theorem dX11_needWhat_12 : decode cX11_needWhat 12 = .ok (.dup, 1) := by decide +kernel
theorem dX11_needWhat_13 : decode cX11_needWhat 13 = .ok (.invokespecial 160, 3) := by decide +kernel
theorem dX11_needWhat_16 : decode cX11_needWhat 16 = .ok (.athrow, 1) := by decide +kernel
theorem dX11_needWhat_17 : decode cX11_needWhat 17 = .ok (.return_, 1) := by decide +kernel
theorem dX11_needAhead_0 : decode cX11_needAhead 0 = .ok (.iload_n 1, 1) := by decide +kernel
theorem dX11_needAhead_1 : decode cX11_needAhead 1 = .ok (.ifCond .lt 9, 3) := by decide +kernel
theorem dX11_needAhead_4 : decode cX11_needAhead 4 = .ok (.iload_n 1, 1) := by decide +kernel
theorem dX11_needAhead_5 : decode cX11_needAhead 5 = .ok (.bipush 60, 2) := by decide +kernel
theorem dX11_needAhead_7 : decode cX11_needAhead 7 = .ok (.if_icmp .le 11, 3) := by decide +kernel
theorem dX11_needAhead_10 : decode cX11_needAhead 10 = .ok (.new 108, 3) := by decide +kernel
theorem dX11_needAhead_13 : decode cX11_needAhead 13 = .ok (.dup, 1) := by decide +kernel
theorem dX11_needAhead_14 : decode cX11_needAhead 14 = .ok (.invokespecial 110, 3) := by decide +kernel
theorem dX11_needAhead_17 : decode cX11_needAhead 17 = .ok (.athrow, 1) := by decide +kernel
theorem dX11_needAhead_18 : decode cX11_needAhead 18 = .ok (.return_, 1) := by decide +kernel
theorem dX12_init_0 : decode cX12_init 0 = .ok (.aload_n 0, 1) := by decide +kernel
theorem dX12_init_1 : decode cX12_init 1 = .ok (.invokespecial 3, 3) := by decide +kernel
theorem dX12_init_4 : decode cX12_init 4 = .ok (.aload_n 0, 1) := by decide +kernel
theorem dX12_init_5 : decode cX12_init 5 = .ok (.bipush 6, 2) := by decide +kernel
theorem dX12_init_7 : decode cX12_init 7 = .ok (.anewarray 9, 3) := by decide +kernel
theorem dX12_init_10 : decode cX12_init 10 = .ok (.dup, 1) := by decide +kernel
theorem dX12_init_11 : decode cX12_init 11 = .ok (.iconst 0, 1) := by decide +kernel
theorem dX12_init_12 : decode cX12_init 12 = .ok (.ldc 11, 2) := by decide +kernel
theorem dX12_init_14 : decode cX12_init 14 = .ok (.aastore, 1) := by decide +kernel
theorem dX12_init_15 : decode cX12_init 15 = .ok (.dup, 1) := by decide +kernel
theorem dX12_init_16 : decode cX12_init 16 = .ok (.iconst 1, 1) := by decide +kernel
theorem dX12_init_17 : decode cX12_init 17 = .ok (.ldc 13, 2) := by decide +kernel
theorem dX12_init_19 : decode cX12_init 19 = .ok (.aastore, 1) := by decide +kernel
theorem dX12_init_20 : decode cX12_init 20 = .ok (.dup, 1) := by decide +kernel
theorem dX12_init_21 : decode cX12_init 21 = .ok (.iconst 2, 1) := by decide +kernel
theorem dX12_init_22 : decode cX12_init 22 = .ok (.ldc 15, 2) := by decide +kernel
theorem dX12_init_24 : decode cX12_init 24 = .ok (.aastore, 1) := by decide +kernel
theorem dX12_init_25 : decode cX12_init 25 = .ok (.dup, 1) := by decide +kernel
theorem dX12_init_26 : decode cX12_init 26 = .ok (.iconst 3, 1) := by decide +kernel
theorem dX12_init_27 : decode cX12_init 27 = .ok (.ldc 17, 2) := by decide +kernel
theorem dX12_init_29 : decode cX12_init 29 = .ok (.aastore, 1) := by decide +kernel
theorem dX12_init_30 : decode cX12_init 30 = .ok (.dup, 1) := by decide +kernel
theorem dX12_init_31 : decode cX12_init 31 = .ok (.iconst 4, 1) := by decide +kernel
theorem dX12_init_32 : decode cX12_init 32 = .ok (.ldc 19, 2) := by decide +kernel
theorem dX12_init_34 : decode cX12_init 34 = .ok (.aastore, 1) := by decide +kernel
theorem dX12_init_35 : decode cX12_init 35 = .ok (.dup, 1) := by decide +kernel
theorem dX12_init_36 : decode cX12_init 36 = .ok (.iconst 5, 1) := by decide +kernel
theorem dX12_init_37 : decode cX12_init 37 = .ok (.ldc 21, 2) := by decide +kernel
theorem dX12_init_39 : decode cX12_init 39 = .ok (.aastore, 1) := by decide +kernel
theorem dX12_init_40 : decode cX12_init 40 = .ok (.putfield 23, 3) := by decide +kernel
theorem dX12_init_43 : decode cX12_init 43 = .ok (.aload_n 0, 1) := by decide +kernel
theorem dX12_init_44 : decode cX12_init 44 = .ok (.iconst 4, 1) := by decide +kernel
theorem dX12_init_45 : decode cX12_init 45 = .ok (.anewarray 9, 3) := by decide +kernel
theorem dX12_init_48 : decode cX12_init 48 = .ok (.dup, 1) := by decide +kernel
theorem dX12_init_49 : decode cX12_init 49 = .ok (.iconst 0, 1) := by decide +kernel
theorem dX12_init_50 : decode cX12_init 50 = .ok (.ldc 11, 2) := by decide +kernel
theorem dX12_init_52 : decode cX12_init 52 = .ok (.aastore, 1) := by decide +kernel
theorem dX12_init_53 : decode cX12_init 53 = .ok (.dup, 1) := by decide +kernel
theorem dX12_init_54 : decode cX12_init 54 = .ok (.iconst 1, 1) := by decide +kernel
theorem dX12_init_55 : decode cX12_init 55 = .ok (.ldc 13, 2) := by decide +kernel
theorem dX12_init_57 : decode cX12_init 57 = .ok (.aastore, 1) := by decide +kernel
theorem dX12_init_58 : decode cX12_init 58 = .ok (.dup, 1) := by decide +kernel
theorem dX12_init_59 : decode cX12_init 59 = .ok (.iconst 2, 1) := by decide +kernel
theorem dX12_init_60 : decode cX12_init 60 = .ok (.ldc 15, 2) := by decide +kernel
theorem dX12_init_62 : decode cX12_init 62 = .ok (.aastore, 1) := by decide +kernel
theorem dX12_init_63 : decode cX12_init 63 = .ok (.dup, 1) := by decide +kernel
theorem dX12_init_64 : decode cX12_init 64 = .ok (.iconst 3, 1) := by decide +kernel
theorem dX12_init_65 : decode cX12_init 65 = .ok (.ldc 17, 2) := by decide +kernel
theorem dX12_init_67 : decode cX12_init 67 = .ok (.aastore, 1) := by decide +kernel
theorem dX12_init_68 : decode cX12_init 68 = .ok (.putfield 27, 3) := by decide +kernel
theorem dX12_init_71 : decode cX12_init 71 = .ok (.aload_n 0, 1) := by decide +kernel
theorem dX12_init_72 : decode cX12_init 72 = .ok (.aload_n 0, 1) := by decide +kernel
theorem dX12_init_73 : decode cX12_init 73 = .ok (.getfield 23, 3) := by decide +kernel
theorem dX12_init_76 : decode cX12_init 76 = .ok (.putfield 30, 3) := by decide +kernel
theorem dX12_init_79 : decode cX12_init 79 = .ok (.aload_n 0, 1) := by decide +kernel
theorem dX12_init_80 : decode cX12_init 80 = .ok (.bipush 12, 2) := by decide +kernel
theorem dX12_init_82 : decode cX12_init 82 = .ok (.newarray .int, 2) := by decide +kernel
theorem dX12_init_84 : decode cX12_init 84 = .ok (.putfield 33, 3) := by decide +kernel
theorem dX12_init_87 : decode cX12_init 87 = .ok (.aload_n 0, 1) := by decide +kernel
theorem dX12_init_88 : decode cX12_init 88 = .ok (.bipush 12, 2) := by decide +kernel
theorem dX12_init_90 : decode cX12_init 90 = .ok (.newarray .int, 2) := by decide +kernel
theorem dX12_init_92 : decode cX12_init 92 = .ok (.putfield 37, 3) := by decide +kernel
theorem dX12_init_95 : decode cX12_init 95 = .ok (.aload_n 0, 1) := by decide +kernel
theorem dX12_init_96 : decode cX12_init 96 = .ok (.bipush 10, 2) := by decide +kernel
theorem dX12_init_98 : decode cX12_init 98 = .ok (.newarray .int, 2) := by decide +kernel
theorem dX12_init_100 : decode cX12_init 100 = .ok (.putfield 40, 3) := by decide +kernel
theorem dX12_init_103 : decode cX12_init 103 = .ok (.aload_n 0, 1) := by decide +kernel
theorem dX12_init_104 : decode cX12_init 104 = .ok (.bipush 10, 2) := by decide +kernel
theorem dX12_init_106 : decode cX12_init 106 = .ok (.newarray .int, 2) := by decide +kernel
theorem dX12_init_108 : decode cX12_init 108 = .ok (.putfield 43, 3) := by decide +kernel
theorem dX12_init_111 : decode cX12_init 111 = .ok (.aload_n 0, 1) := by decide +kernel
theorem dX12_init_112 : decode cX12_init 112 = .ok (.bipush 20, 2) := by decide +kernel
theorem dX12_init_114 : decode cX12_init 114 = .ok (.newarray .int, 2) := by decide +kernel
theorem dX12_init_116 : decode cX12_init 116 = .ok (.putfield 46, 3) := by decide +kernel
theorem dX12_init_119 : decode cX12_init 119 = .ok (.aload_n 0, 1) := by decide +kernel
theorem dX12_init_120 : decode cX12_init 120 = .ok (.bipush 20, 2) := by decide +kernel
theorem dX12_init_122 : decode cX12_init 122 = .ok (.newarray .int, 2) := by decide +kernel
theorem dX12_init_124 : decode cX12_init 124 = .ok (.putfield 49, 3) := by decide +kernel
theorem dX12_init_127 : decode cX12_init 127 = .ok (.aload_n 0, 1) := by decide +kernel
theorem dX12_init_128 : decode cX12_init 128 = .ok (.bipush 20, 2) := by decide +kernel
theorem dX12_init_130 : decode cX12_init 130 = .ok (.newarray .int, 2) := by decide +kernel
theorem dX12_init_132 : decode cX12_init 132 = .ok (.putfield 51, 3) := by decide +kernel
theorem dX12_init_135 : decode cX12_init 135 = .ok (.aload_n 0, 1) := by decide +kernel
theorem dX12_init_136 : decode cX12_init 136 = .ok (.sipush 1400, 3) := by decide +kernel
theorem dX12_init_139 : decode cX12_init 139 = .ok (.newarray .int, 2) := by decide +kernel
theorem dX12_init_141 : decode cX12_init 141 = .ok (.putfield 54, 3) := by decide +kernel
theorem dX12_init_144 : decode cX12_init 144 = .ok (.aload_n 0, 1) := by decide +kernel
theorem dX12_init_145 : decode cX12_init 145 = .ok (.sipush 1400, 3) := by decide +kernel
theorem dX12_init_148 : decode cX12_init 148 = .ok (.newarray .int, 2) := by decide +kernel
theorem dX12_init_150 : decode cX12_init 150 = .ok (.putfield 57, 3) := by decide +kernel
theorem dX12_init_153 : decode cX12_init 153 = .ok (.aload_n 0, 1) := by decide +kernel
theorem dX12_init_154 : decode cX12_init 154 = .ok (.iconst 3, 1) := by decide +kernel
theorem dX12_init_155 : decode cX12_init 155 = .ok (.newarray .int, 2) := by decide +kernel
theorem dX12_init_157 : decode cX12_init 157 = .ok (.putfield 60, 3) := by decide +kernel
theorem dX12_init_160 : decode cX12_init 160 = .ok (.aload_n 0, 1) := by decide +kernel
theorem dX12_init_161 : decode cX12_init 161 = .ok (.sipush 700, 3) := by decide +kernel
theorem dX12_init_164 : decode cX12_init 164 = .ok (.newarray .int, 2) := by decide +kernel
theorem dX12_init_166 : decode cX12_init 166 = .ok (.putfield 63, 3) := by decide +kernel
theorem dX12_init_169 : decode cX12_init 169 = .ok (.aload_n 0, 1) := by decide +kernel
theorem dX12_init_170 : decode cX12_init 170 = .ok (.iconst (-1), 1) := by decide +kernel
theorem dX12_init_171 : decode cX12_init 171 = .ok (.putfield 66, 3) := by decide +kernel
theorem dX12_init_174 : decode cX12_init 174 = .ok (.aload_n 0, 1) := by decide +kernel
theorem dX12_init_175 : decode cX12_init 175 = .ok (.bipush 10, 2) := by decide +kernel
theorem dX12_init_177 : decode cX12_init 177 = .ok (.newarray .int, 2) := by decide +kernel
theorem dX12_init_179 : decode cX12_init 179 = .ok (.putfield 70, 3) := by decide +kernel
theorem dX12_init_182 : decode cX12_init 182 = .ok (.aload_n 0, 1) := by decide +kernel
theorem dX12_init_183 : decode cX12_init 183 = .ok (.bipush 10, 2) := by decide +kernel
theorem dX12_init_185 : decode cX12_init 185 = .ok (.newarray .int, 2) := by decide +kernel
theorem dX12_init_187 : decode cX12_init 187 = .ok (.putfield 72, 3) := by decide +kernel
theorem dX12_init_190 : decode cX12_init 190 = .ok (.aload_n 0, 1) := by decide +kernel
theorem dX12_init_191 : decode cX12_init 191 = .ok (.iconst 5, 1) := by decide +kernel
theorem dX12_init_192 : decode cX12_init 192 = .ok (.newarray .int, 2) := by decide +kernel
theorem dX12_init_194 : decode cX12_init 194 = .ok (.putfield 75, 3) := by decide +kernel
theorem dX12_init_197 : decode cX12_init 197 = .ok (.aload_n 0, 1) := by decide +kernel
theorem dX12_init_198 : decode cX12_init 198 = .ok (.iconst 5, 1) := by decide +kernel
theorem dX12_init_199 : decode cX12_init 199 = .ok (.newarray .int, 2) := by decide +kernel
theorem dX12_init_201 : decode cX12_init 201 = .ok (.putfield 78, 3) := by decide +kernel
theorem dX12_init_204 : decode cX12_init 204 = .ok (.aload_n 0, 1) := by decide +kernel
theorem dX12_init_205 : decode cX12_init 205 = .ok (.bipush 50, 2) := by decide +kernel
theorem dX12_init_207 : decode cX12_init 207 = .ok (.newarray .int, 2) := by decide +kernel
theorem dX12_init_209 : decode cX12_init 209 = .ok (.putfield 81, 3) := by decide +kernel
theorem dX12_init_212 : decode cX12_init 212 = .ok (.aload_n 0, 1) := by decide +kernel
theorem dX12_init_213 : decode cX12_init 213 = .ok (.bipush 6, 2) := by decide +kernel
theorem dX12_init_215 : decode cX12_init 215 = .ok (.newarray .int, 2) := by decide +kernel
theorem dX12_init_217 : decode cX12_init 217 = .ok (.putfield 84, 3) := by decide +kernel
theorem dX12_init_220 : decode cX12_init 220 = .ok (.aload_n 0, 1) := by decide +kernel
theorem dX12_init_221 : decode cX12_init 221 = .ok (.sipush 3520, 3) := by decide +kernel
theorem dX12_init_224 : decode cX12_init 224 = .ok (.newarray .int, 2) := by decide +kernel
theorem dX12_init_226 : decode cX12_init 226 = .ok (.putfield 87, 3) := by decide +kernel
theorem dX12_init_229 : decode cX12_init 229 = .ok (.aload_n 0, 1) := by decide +kernel
theorem dX12_init_230 : decode cX12_init 230 = .ok (.bipush 6, 2) := by decide +kernel
theorem dX12_init_232 : decode cX12_init 232 = .ok (.newarray .int, 2) := by decide +kernel
theorem dX12_init_234 : decode cX12_init 234 = .ok (.putfield 90, 3) := by decide +kernel
theorem dX12_init_237 : decode cX12_init 237 = .ok (.aload_n 0, 1) := by decide +kernel
theorem dX12_init_238 : decode cX12_init 238 = .ok (.bipush 64, 2) := by decide +kernel
theorem dX12_init_240 : decode cX12_init 240 = .ok (.newarray .int, 2) := by decide +kernel
theorem dX12_init_242 : decode cX12_init 242 = .ok (.putfield 93, 3) := by decide +kernel
theorem dX12_init_245 : decode cX12_init 245 = .ok (.aload_n 0, 1) := by decide +kernel
theorem dX12_init_246 : decode cX12_init 246 = .ok (.bipush 10, 2) := by decide +kernel
theorem dX12_init_248 : decode cX12_init 248 = .ok (.newarray .int, 2) := by decide +kernel
theorem dX12_init_250 : decode cX12_init 250 = .ok (.putfield 96, 3) := by decide +kernel
theorem dX12_init_253 : decode cX12_init 253 = .ok (.aload_n 0, 1) := by decide +kernel
theorem dX12_init_254 : decode cX12_init 254 = .ok (.bipush 6, 2) := by decide +kernel
theorem dX12_init_256 : decode cX12_init 256 = .ok (.newarray .int, 2) := by decide +kernel
theorem dX12_init_258 : decode cX12_init 258 = .ok (.putfield 99, 3) := by decide +kernel
theorem dX12_init_261 : decode cX12_init 261 = .ok (.aload_n 0, 1) := by decide +kernel
theorem dX12_init_262 : decode cX12_init 262 = .ok (.bipush 88, 2) := by decide +kernel
theorem dX12_init_264 : decode cX12_init 264 = .ok (.newarray .int, 2) := by decide +kernel
theorem dX12_init_266 : decode cX12_init 266 = .ok (.putfield 102, 3) := by decide +kernel
theorem dX12_init_269 : decode cX12_init 269 = .ok (.aload_n 0, 1) := by decide +kernel
theorem dX12_init_270 : decode cX12_init 270 = .ok (.bipush 88, 2) := by decide +kernel
theorem dX12_init_272 : decode cX12_init 272 = .ok (.newarray .int, 2) := by decide +kernel
theorem dX12_init_274 : decode cX12_init 274 = .ok (.putfield 105, 3) := by decide +kernel
theorem dX12_init_277 : decode cX12_init 277 = .ok (.aload_n 0, 1) := by decide +kernel
theorem dX12_init_278 : decode cX12_init 278 = .ok (.sipush 6144, 3) := by decide +kernel
theorem dX12_init_281 : decode cX12_init 281 = .ok (.newarray .int, 2) := by decide +kernel
theorem dX12_init_283 : decode cX12_init 283 = .ok (.putfield 108, 3) := by decide +kernel
theorem dX12_init_286 : decode cX12_init 286 = .ok (.aload_n 0, 1) := by decide +kernel
theorem dX12_init_287 : decode cX12_init 287 = .ok (.ldc 111, 2) := by decide +kernel
theorem dX12_init_289 : decode cX12_init 289 = .ok (.newarray .boolean, 2) := by decide +kernel
theorem dX12_init_291 : decode cX12_init 291 = .ok (.putfield 112, 3) := by decide +kernel
theorem dX12_init_294 : decode cX12_init 294 = .ok (.aload_n 0, 1) := by decide +kernel
theorem dX12_init_295 : decode cX12_init 295 = .ok (.bipush 8, 2) := by decide +kernel
theorem dX12_init_297 : decode cX12_init 297 = .ok (.newarray .int, 2) := by decide +kernel
theorem dX12_init_299 : decode cX12_init 299 = .ok (.putfield 116, 3) := by decide +kernel
theorem dX12_init_302 : decode cX12_init 302 = .ok (.aload_n 0, 1) := by decide +kernel
theorem dX12_init_303 : decode cX12_init 303 = .ok (.bipush 8, 2) := by decide +kernel
theorem dX12_init_305 : decode cX12_init 305 = .ok (.newarray .int, 2) := by decide +kernel
theorem dX12_init_307 : decode cX12_init 307 = .ok (.putfield 119, 3) := by decide +kernel
theorem dX12_init_310 : decode cX12_init 310 = .ok (.aload_n 0, 1) := by decide +kernel
theorem dX12_init_311 : decode cX12_init 311 = .ok (.bipush 8, 2) := by decide +kernel
theorem dX12_init_313 : decode cX12_init 313 = .ok (.newarray .int, 2) := by decide +kernel
theorem dX12_init_315 : decode cX12_init 315 = .ok (.putfield 122, 3) := by decide +kernel
theorem dX12_init_318 : decode cX12_init 318 = .ok (.aload_n 0, 1) := by decide +kernel
theorem dX12_init_319 : decode cX12_init 319 = .ok (.bipush 88, 2) := by decide +kernel
theorem dX12_init_321 : decode cX12_init 321 = .ok (.newarray .int, 2) := by decide +kernel
theorem dX12_init_323 : decode cX12_init 323 = .ok (.putfield 125, 3) := by decide +kernel
theorem dX12_init_326 : decode cX12_init 326 = .ok (.aload_n 0, 1) := by decide +kernel
theorem dX12_init_327 : decode cX12_init 327 = .ok (.sipush 1000, 3) := by decide +kernel
theorem dX12_init_330 : decode cX12_init 330 = .ok (.newarray .int, 2) := by decide +kernel
theorem dX12_init_332 : decode cX12_init 332 = .ok (.putfield 128, 3) := by decide +kernel
theorem dX12_init_335 : decode cX12_init 335 = .ok (.aload_n 0, 1) := by decide +kernel
theorem dX12_init_336 : decode cX12_init 336 = .ok (.sipush 10000, 3) := by decide +kernel
theorem dX12_init_339 : decode cX12_init 339 = .ok (.newarray .int, 2) := by decide +kernel
theorem dX12_init_341 : decode cX12_init 341 = .ok (.putfield 131, 3) := by decide +kernel
theorem dX12_init_344 : decode cX12_init 344 = .ok (.aload_n 0, 1) := by decide +kernel
theorem dX12_init_345 : decode cX12_init 345 = .ok (.bipush 100, 2) := by decide +kernel
theorem dX12_init_347 : decode cX12_init 347 = .ok (.newarray .boolean, 2) := by decide +kernel
theorem dX12_init_349 : decode cX12_init 349 = .ok (.putfield 134, 3) := by decide +kernel
theorem dX12_init_352 : decode cX12_init 352 = .ok (.aload_n 0, 1) := by decide +kernel
theorem dX12_init_353 : decode cX12_init 353 = .ok (.bipush 8, 2) := by decide +kernel
theorem dX12_init_355 : decode cX12_init 355 = .ok (.newarray .int, 2) := by decide +kernel
theorem dX12_init_357 : decode cX12_init 357 = .ok (.putfield 137, 3) := by decide +kernel
theorem dX12_init_360 : decode cX12_init 360 = .ok (.aload_n 0, 1) := by decide +kernel
theorem dX12_init_361 : decode cX12_init 361 = .ok (.bipush 88, 2) := by decide +kernel
theorem dX12_init_363 : decode cX12_init 363 = .ok (.newarray .int, 2) := by decide +kernel
theorem dX12_init_365 : decode cX12_init 365 = .ok (.putfield 140, 3) := by decide +kernel
theorem dX12_init_368 : decode cX12_init 368 = .ok (.aload_n 0, 1) := by decide +kernel
theorem dX12_init_369 : decode cX12_init 369 = .ok (.sipush 3520, 3) := by decide +kernel
theorem dX12_init_372 : decode cX12_init 372 = .ok (.newarray .int, 2) := by decide +kernel
theorem dX12_init_374 : decode cX12_init 374 = .ok (.putfield 143, 3) := by decide +kernel
theorem dX12_init_377 : decode cX12_init 377 = .ok (.aload_n 0, 1) := by decide +kernel
theorem dX12_init_378 : decode cX12_init 378 = .ok (.bipush 8, 2) := by decide +kernel
theorem dX12_init_380 : decode cX12_init 380 = .ok (.newarray .int, 2) := by decide +kernel
theorem dX12_init_382 : decode cX12_init 382 = .ok (.putfield 146, 3) := by decide +kernel
theorem dX12_init_385 : decode cX12_init 385 = .ok (.aload_n 0, 1) := by decide +kernel
theorem dX12_init_386 : decode cX12_init 386 = .ok (.bipush 8, 2) := by decide +kernel
theorem dX12_init_388 : decode cX12_init 388 = .ok (.newarray .int, 2) := by decide +kernel
theorem dX12_init_390 : decode cX12_init 390 = .ok (.putfield 149, 3) := by decide +kernel
theorem dX12_init_393 : decode cX12_init 393 = .ok (.aload_n 0, 1) := by decide +kernel
theorem dX12_init_394 : decode cX12_init 394 = .ok (.bipush 8, 2) := by decide +kernel
theorem dX12_init_396 : decode cX12_init 396 = .ok (.newarray .int, 2) := by decide +kernel
theorem dX12_init_398 : decode cX12_init 398 = .ok (.putfield 152, 3) := by decide +kernel
theorem dX12_init_401 : decode cX12_init 401 = .ok (.aload_n 0, 1) := by decide +kernel
theorem dX12_init_402 : decode cX12_init 402 = .ok (.iconst 3, 1) := by decide +kernel
theorem dX12_init_403 : decode cX12_init 403 = .ok (.newarray .int, 2) := by decide +kernel
theorem dX12_init_405 : decode cX12_init 405 = .ok (.putfield 155, 3) := by decide +kernel
theorem dX12_init_408 : decode cX12_init 408 = .ok (.aload_n 0, 1) := by decide +kernel
theorem dX12_init_409 : decode cX12_init 409 = .ok (.getfield 33, 3) := by decide +kernel
theorem dX12_init_412 : decode cX12_init 412 = .ok (.iconst 3, 1) := by decide +kernel
theorem dX12_init_413 : decode cX12_init 413 = .ok (.bipush 50, 2) := by decide +kernel
theorem dX12_init_415 : decode cX12_init 415 = .ok (.iastore, 1) := by decide +kernel
theorem dX12_init_416 : decode cX12_init 416 = .ok (.return_, 1) := by decide +kernel
theorem dX12_thrown_0 : decode cX12_thrown 0 = .ok (.aload_n 0, 1) := by decide +kernel
theorem dX12_thrown_1 : decode cX12_thrown 1 = .ok (.getfield 158, 3) := by decide +kernel
theorem dX12_thrown_4 : decode cX12_thrown 4 = .ok (.ireturn, 1) := by decide +kernel
theorem dX12_fail_0 : decode cX12_fail 0 = .ok (.aload_n 0, 1) := by decide +kernel
theorem dX12_fail_1 : decode cX12_fail 1 = .ok (.iload_n 1, 1) := by decide +kernel
theorem dX12_fail_2 : decode cX12_fail 2 = .ok (.putfield 158, 3) := by decide +kernel
theorem dX12_fail_5 : decode cX12_fail 5 = .ok (.iconst 0, 1) := by decide +kernel
theorem dX12_fail_6 : decode cX12_fail 6 = .ok (.ireturn, 1) := by decide +kernel
theorem dX12_failing_0 : decode cX12_failing 0 = .ok (.aload_n 0, 1) := by decide +kernel
theorem dX12_failing_1 : decode cX12_failing 1 = .ok (.iload_n 1, 1) := by decide +kernel
theorem dX12_failing_2 : decode cX12_failing 2 = .ok (.putfield 158, 3) := by decide +kernel
theorem dX12_failing_5 : decode cX12_failing 5 = .ok (.iconst 0, 1) := by decide +kernel
theorem dX12_failing_6 : decode cX12_failing 6 = .ok (.ireturn, 1) := by decide +kernel
theorem dX12_isIn_0 : decode cX12_isIn 0 = .ok (.lload_n 0, 1) := by decide +kernel
theorem dX12_isIn_1 : decode cX12_isIn 1 = .ok (.lload_n 2, 1) := by decide +kernel
theorem dX12_isIn_2 : decode cX12_isIn 2 = .ok (.lcmp, 1) := by decide +kernel
theorem dX12_isIn_3 : decode cX12_isIn 3 = .ok (.ifCond .lt 14, 3) := by decide +kernel
theorem dX12_isIn_6 : decode cX12_isIn 6 = .ok (.lload_n 0, 1) := by decide +kernel
theorem dX12_isIn_7 : decode cX12_isIn 7 = .ok (.lload 4, 2) := by decide +kernel
theorem dX12_isIn_9 : decode cX12_isIn 9 = .ok (.lcmp, 1) := by decide +kernel
theorem dX12_isIn_10 : decode cX12_isIn 10 = .ok (.ifCond .gt 7, 3) := by decide +kernel
theorem dX12_isIn_13 : decode cX12_isIn 13 = .ok (.iconst 1, 1) := by decide +kernel
theorem dX12_isIn_14 : decode cX12_isIn 14 = .ok (.goto 4, 3) := by decide +kernel
theorem dX12_isIn_17 : decode cX12_isIn 17 = .ok (.iconst 0, 1) := by decide +kernel
theorem dX12_isIn_18 : decode cX12_isIn 18 = .ok (.ireturn, 1) := by decide +kernel
theorem dX12_isOf_0 : decode cX12_isOf 0 = .ok (.iload_n 0, 1) := by decide +kernel
theorem dX12_isOf_1 : decode cX12_isOf 1 = .ok (.iload_n 1, 1) := by decide +kernel
theorem dX12_isOf_2 : decode cX12_isOf 2 = .ok (.ishr, 1) := by decide +kernel
theorem dX12_isOf_3 : decode cX12_isOf 3 = .ok (.iconst 1, 1) := by decide +kernel
theorem dX12_isOf_4 : decode cX12_isOf 4 = .ok (.iand, 1) := by decide +kernel
theorem dX12_isOf_5 : decode cX12_isOf 5 = .ok (.iconst 1, 1) := by decide +kernel
theorem dX12_isOf_6 : decode cX12_isOf 6 = .ok (.if_icmp .ne 7, 3) := by decide +kernel
theorem dX12_isOf_9 : decode cX12_isOf 9 = .ok (.iconst 1, 1) := by decide +kernel
theorem dX12_isOf_10 : decode cX12_isOf 10 = .ok (.goto 4, 3) := by decide +kernel
theorem dX12_isOf_13 : decode cX12_isOf 13 = .ok (.iconst 0, 1) := by decide +kernel
theorem dX12_isOf_14 : decode cX12_isOf 14 = .ok (.ireturn, 1) := by decide +kernel
theorem dX12_bitsOf_0 : decode cX12_bitsOf 0 = .ok (.iconst 0, 1) := by decide +kernel
theorem dX12_bitsOf_1 : decode cX12_bitsOf 1 = .ok (.istore_n 1, 1) := by decide +kernel
theorem dX12_bitsOf_2 : decode cX12_bitsOf 2 = .ok (.iload_n 0, 1) := by decide +kernel
theorem dX12_bitsOf_3 : decode cX12_bitsOf 3 = .ok (.istore_n 2, 1) := by decide +kernel
theorem dX12_bitsOf_4 : decode cX12_bitsOf 4 = .ok (.iload_n 2, 1) := by decide +kernel
theorem dX12_bitsOf_5 : decode cX12_bitsOf 5 = .ok (.ifCond .eq 15, 3) := by decide +kernel
theorem dX12_bitsOf_8 : decode cX12_bitsOf 8 = .ok (.iinc 1 1, 3) := by decide +kernel
theorem dX12_bitsOf_11 : decode cX12_bitsOf 11 = .ok (.iload_n 2, 1) := by decide +kernel
theorem dX12_bitsOf_12 : decode cX12_bitsOf 12 = .ok (.iload_n 2, 1) := by decide +kernel
theorem dX12_bitsOf_13 : decode cX12_bitsOf 13 = .ok (.iconst 1, 1) := by decide +kernel
theorem dX12_bitsOf_14 : decode cX12_bitsOf 14 = .ok (.isub, 1) := by decide +kernel
theorem dX12_bitsOf_15 : decode cX12_bitsOf 15 = .ok (.iand, 1) := by decide +kernel
theorem dX12_bitsOf_16 : decode cX12_bitsOf 16 = .ok (.istore_n 2, 1) := by decide +kernel
theorem dX12_bitsOf_17 : decode cX12_bitsOf 17 = .ok (.goto (-13), 3) := by decide +kernel
theorem dX12_bitsOf_20 : decode cX12_bitsOf 20 = .ok (.iload_n 1, 1) := by decide +kernel
theorem dX12_bitsOf_21 : decode cX12_bitsOf 21 = .ok (.ireturn, 1) := by decide +kernel
theorem dX12_isBlade_0 : decode cX12_isBlade 0 = .ok (.iload_n 1, 1) := by decide +kernel
theorem dX12_isBlade_1 : decode cX12_isBlade 1 = .ok (.i2l, 1) := by decide +kernel
theorem dX12_isBlade_2 : decode cX12_isBlade 2 = .ok (.lconst 0, 1) := by decide +kernel
theorem dX12_isBlade_3 : decode cX12_isBlade 3 = .ok (.aload_n 0, 1) := by decide +kernel
theorem dX12_isBlade_4 : decode cX12_isBlade 4 = .ok (.getfield 33, 3) := by decide +kernel
theorem dX12_isBlade_7 : decode cX12_isBlade 7 = .ok (.iconst 2, 1) := by decide +kernel
theorem dX12_isBlade_8 : decode cX12_isBlade 8 = .ok (.iaload, 1) := by decide +kernel
theorem dX12_isBlade_9 : decode cX12_isBlade 9 = .ok (.iconst 1, 1) := by decide +kernel
theorem dX12_isBlade_10 : decode cX12_isBlade 10 = .ok (.isub, 1) := by decide +kernel
theorem dX12_isBlade_11 : decode cX12_isBlade 11 = .ok (.i2l, 1) := by decide +kernel
theorem dX12_isBlade_12 : decode cX12_isBlade 12 = .ok (.invokestatic 161, 3) := by decide +kernel
theorem dX12_isBlade_15 : decode cX12_isBlade 15 = .ok (.ireturn, 1) := by decide +kernel
theorem dX12_isThroat_0 : decode cX12_isThroat 0 = .ok (.iload_n 1, 1) := by decide +kernel
theorem dX12_isThroat_1 : decode cX12_isThroat 1 = .ok (.i2l, 1) := by decide +kernel
theorem dX12_isThroat_2 : decode cX12_isThroat 2 = .ok (.lconst 0, 1) := by decide +kernel
theorem dX12_isThroat_3 : decode cX12_isThroat 3 = .ok (.aload_n 0, 1) := by decide +kernel
theorem dX12_isThroat_4 : decode cX12_isThroat 4 = .ok (.getfield 33, 3) := by decide +kernel
theorem dX12_isThroat_7 : decode cX12_isThroat 7 = .ok (.iconst 1, 1) := by decide +kernel
theorem dX12_isThroat_8 : decode cX12_isThroat 8 = .ok (.iaload, 1) := by decide +kernel
theorem dX12_isThroat_9 : decode cX12_isThroat 9 = .ok (.iconst 1, 1) := by decide +kernel
theorem dX12_isThroat_10 : decode cX12_isThroat 10 = .ok (.isub, 1) := by decide +kernel
theorem dX12_isThroat_11 : decode cX12_isThroat 11 = .ok (.i2l, 1) := by decide +kernel
theorem dX12_isThroat_12 : decode cX12_isThroat 12 = .ok (.invokestatic 161, 3) := by decide +kernel
theorem dX12_isThroat_15 : decode cX12_isThroat 15 = .ok (.ireturn, 1) := by decide +kernel
theorem dX12_isHouse_0 : decode cX12_isHouse 0 = .ok (.iload_n 0, 1) := by decide +kernel
theorem dX12_isHouse_1 : decode cX12_isHouse 1 = .ok (.i2l, 1) := by decide +kernel
theorem dX12_isHouse_2 : decode cX12_isHouse 2 = .ok (.lconst 0, 1) := by decide +kernel
theorem dX12_isHouse_3 : decode cX12_isHouse 3 = .ok (.ldc2_w 165, 3) := by decide +kernel
theorem dX12_isHouse_6 : decode cX12_isHouse 6 = .ok (.invokestatic 161, 3) := by decide +kernel
theorem dX12_isHouse_9 : decode cX12_isHouse 9 = .ok (.ireturn, 1) := by decide +kernel
theorem dX12_feed_0 : decode cX12_feed 0 = .ok (.aload_n 0, 1) := by decide +kernel
theorem dX12_feed_1 : decode cX12_feed 1 = .ok (.iconst 0, 1) := by decide +kernel
theorem dX12_feed_2 : decode cX12_feed 2 = .ok (.putfield 158, 3) := by decide +kernel
theorem dX12_feed_5 : decode cX12_feed 5 = .ok (.aload_n 0, 1) := by decide +kernel
theorem dX12_feed_6 : decode cX12_feed 6 = .ok (.getfield 167, 3) := by decide +kernel
theorem dX12_feed_9 : decode cX12_feed 9 = .ok (.bipush 20, 2) := by decide +kernel
theorem dX12_feed_11 : decode cX12_feed 11 = .ok (.iadd, 1) := by decide +kernel
theorem dX12_feed_12 : decode cX12_feed 12 = .ok (.sipush 700, 3) := by decide +kernel
theorem dX12_feed_15 : decode cX12_feed 15 = .ok (.if_icmp .le 5, 3) := by decide +kernel
theorem dX12_feed_18 : decode cX12_feed 18 = .ok (.iconst (-1), 1) := by decide +kernel
theorem dX12_feed_19 : decode cX12_feed 19 = .ok (.ireturn, 1) := by decide +kernel
theorem dX12_feed_20 : decode cX12_feed 20 = .ok (.iconst 0, 1) := by decide +kernel
theorem dX12_feed_21 : decode cX12_feed 21 = .ok (.istore 6, 2) := by decide +kernel
theorem dX12_feed_23 : decode cX12_feed 23 = .ok (.iload 6, 2) := by decide +kernel
theorem dX12_feed_25 : decode cX12_feed 25 = .ok (.bipush 20, 2) := by decide +kernel
theorem dX12_feed_27 : decode cX12_feed 27 = .ok (.if_icmp .ge 93, 3) := by decide +kernel
theorem dX12_feed_30 : decode cX12_feed 30 = .ok (.iload 6, 2) := by decide +kernel
theorem dX12_feed_32 : decode cX12_feed 32 = .ok (.iconst 4, 1) := by decide +kernel
theorem dX12_feed_33 : decode cX12_feed 33 = .ok (.if_icmp .ge 7, 3) := by decide +kernel
theorem dX12_feed_36 : decode cX12_feed 36 = .ok (.iload_n 1, 1) := by decide +kernel
theorem dX12_feed_37 : decode cX12_feed 37 = .ok (.goto 39, 3) := by decide +kernel
theorem dX12_feed_40 : decode cX12_feed 40 = .ok (.iload 6, 2) := by decide +kernel
theorem dX12_feed_42 : decode cX12_feed 42 = .ok (.bipush 8, 2) := by decide +kernel
theorem dX12_feed_44 : decode cX12_feed 44 = .ok (.if_icmp .ge 7, 3) := by decide +kernel
theorem dX12_feed_47 : decode cX12_feed 47 = .ok (.iload_n 2, 1) := by decide +kernel
theorem dX12_feed_48 : decode cX12_feed 48 = .ok (.goto 28, 3) := by decide +kernel
theorem dX12_feed_51 : decode cX12_feed 51 = .ok (.iload 6, 2) := by decide +kernel
theorem dX12_feed_53 : decode cX12_feed 53 = .ok (.bipush 12, 2) := by decide +kernel
theorem dX12_feed_55 : decode cX12_feed 55 = .ok (.if_icmp .ge 7, 3) := by decide +kernel
theorem dX12_feed_58 : decode cX12_feed 58 = .ok (.iload_n 3, 1) := by decide +kernel
theorem dX12_feed_59 : decode cX12_feed 59 = .ok (.goto 17, 3) := by decide +kernel
theorem dX12_feed_62 : decode cX12_feed 62 = .ok (.iload 6, 2) := by decide +kernel
theorem dX12_feed_64 : decode cX12_feed 64 = .ok (.bipush 16, 2) := by decide +kernel
theorem dX12_feed_66 : decode cX12_feed 66 = .ok (.if_icmp .ge 8, 3) := by decide +kernel
theorem dX12_feed_69 : decode cX12_feed 69 = .ok (.iload 4, 2) := by decide +kernel
theorem dX12_feed_71 : decode cX12_feed 71 = .ok (.goto 5, 3) := by decide +kernel
theorem dX12_feed_74 : decode cX12_feed 74 = .ok (.iload 5, 2) := by decide +kernel
theorem dX12_feed_76 : decode cX12_feed 76 = .ok (.istore 7, 2) := by decide +kernel
theorem dX12_feed_78 : decode cX12_feed 78 = .ok (.aload_n 0, 1) := by decide +kernel
theorem dX12_feed_79 : decode cX12_feed 79 = .ok (.getfield 63, 3) := by decide +kernel
theorem dX12_feed_82 : decode cX12_feed 82 = .ok (.aload_n 0, 1) := by decide +kernel
theorem dX12_feed_83 : decode cX12_feed 83 = .ok (.getfield 167, 3) := by decide +kernel
theorem dX12_feed_86 : decode cX12_feed 86 = .ok (.iload 7, 2) := by decide +kernel
theorem dX12_feed_88 : decode cX12_feed 88 = .ok (.bipush 24, 2) := by decide +kernel
theorem dX12_feed_90 : decode cX12_feed 90 = .ok (.bipush 8, 2) := by decide +kernel
theorem dX12_feed_92 : decode cX12_feed 92 = .ok (.iload 6, 2) := by decide +kernel
theorem dX12_feed_94 : decode cX12_feed 94 = .ok (.iconst 4, 1) := by decide +kernel
theorem dX12_feed_95 : decode cX12_feed 95 = .ok (.irem, 1) := by decide +kernel
theorem dX12_feed_96 : decode cX12_feed 96 = .ok (.imul, 1) := by decide +kernel
theorem dX12_feed_97 : decode cX12_feed 97 = .ok (.isub, 1) := by decide +kernel
theorem dX12_feed_98 : decode cX12_feed 98 = .ok (.ishr, 1) := by decide +kernel
theorem dX12_feed_99 : decode cX12_feed 99 = .ok (.sipush 255, 3) := by decide +kernel
theorem dX12_feed_102 : decode cX12_feed 102 = .ok (.iand, 1) := by decide +kernel
theorem dX12_feed_103 : decode cX12_feed 103 = .ok (.iastore, 1) := by decide +kernel
theorem dX12_feed_104 : decode cX12_feed 104 = .ok (.aload_n 0, 1) := by decide +kernel
theorem dX12_feed_105 : decode cX12_feed 105 = .ok (.dup, 1) := by decide +kernel
theorem dX12_feed_106 : decode cX12_feed 106 = .ok (.getfield 167, 3) := by decide +kernel
theorem dX12_feed_109 : decode cX12_feed 109 = .ok (.iconst 1, 1) := by decide +kernel
theorem dX12_feed_110 : decode cX12_feed 110 = .ok (.iadd, 1) := by decide +kernel
theorem dX12_feed_111 : decode cX12_feed 111 = .ok (.putfield 167, 3) := by decide +kernel
theorem dX12_feed_114 : decode cX12_feed 114 = .ok (.iinc 6 1, 3) := by decide +kernel
theorem dX12_feed_117 : decode cX12_feed 117 = .ok (.goto (-94), 3) := by decide +kernel
theorem dX12_feed_120 : decode cX12_feed 120 = .ok (.aload_n 0, 1) := by decide +kernel
theorem dX12_feed_121 : decode cX12_feed 121 = .ok (.getfield 167, 3) := by decide +kernel
theorem dX12_feed_124 : decode cX12_feed 124 = .ok (.ireturn, 1) := by decide +kernel
theorem dX12_byteAt_0 : decode cX12_byteAt 0 = .ok (.iload_n 1, 1) := by decide +kernel
theorem dX12_byteAt_1 : decode cX12_byteAt 1 = .ok (.aload_n 0, 1) := by decide +kernel
theorem dX12_byteAt_2 : decode cX12_byteAt 2 = .ok (.getfield 170, 3) := by decide +kernel
theorem dX12_byteAt_5 : decode cX12_byteAt 5 = .ok (.if_icmp .ge 12, 3) := by decide +kernel
theorem dX12_byteAt_8 : decode cX12_byteAt 8 = .ok (.aload_n 0, 1) := by decide +kernel
theorem dX12_byteAt_9 : decode cX12_byteAt 9 = .ok (.getfield 63, 3) := by decide +kernel
theorem dX12_byteAt_12 : decode cX12_byteAt 12 = .ok (.iload_n 1, 1) := by decide +kernel
theorem dX12_byteAt_13 : decode cX12_byteAt 13 = .ok (.iaload, 1) := by decide +kernel
theorem dX12_byteAt_14 : decode cX12_byteAt 14 = .ok (.goto 4, 3) := by decide +kernel
theorem dX12_byteAt_17 : decode cX12_byteAt 17 = .ok (.iconst (-1), 1) := by decide +kernel
theorem dX12_byteAt_18 : decode cX12_byteAt 18 = .ok (.ireturn, 1) := by decide +kernel
theorem dX12_isLetter_0 : decode cX12_isLetter 0 = .ok (.iload_n 0, 1) := by decide +kernel
theorem dX12_isLetter_1 : decode cX12_isLetter 1 = .ok (.bipush 97, 2) := by decide +kernel
theorem dX12_isLetter_3 : decode cX12_isLetter 3 = .ok (.if_icmp .lt 13, 3) := by decide +kernel
theorem dX12_isLetter_6 : decode cX12_isLetter 6 = .ok (.iload_n 0, 1) := by decide +kernel
theorem dX12_isLetter_7 : decode cX12_isLetter 7 = .ok (.bipush 122, 2) := by decide +kernel
theorem dX12_isLetter_9 : decode cX12_isLetter 9 = .ok (.if_icmp .gt 7, 3) := by decide +kernel
theorem dX12_isLetter_12 : decode cX12_isLetter 12 = .ok (.iconst 1, 1) := by decide +kernel
theorem dX12_isLetter_13 : decode cX12_isLetter 13 = .ok (.goto 4, 3) := by decide +kernel
theorem dX12_isLetter_16 : decode cX12_isLetter 16 = .ok (.iconst 0, 1) := by decide +kernel
theorem dX12_isLetter_17 : decode cX12_isLetter 17 = .ok (.ireturn, 1) := by decide +kernel
theorem dX12_isDigit_0 : decode cX12_isDigit 0 = .ok (.iload_n 0, 1) := by decide +kernel
theorem dX12_isDigit_1 : decode cX12_isDigit 1 = .ok (.bipush 48, 2) := by decide +kernel
theorem dX12_isDigit_3 : decode cX12_isDigit 3 = .ok (.if_icmp .lt 13, 3) := by decide +kernel
theorem dX12_isDigit_6 : decode cX12_isDigit 6 = .ok (.iload_n 0, 1) := by decide +kernel
theorem dX12_isDigit_7 : decode cX12_isDigit 7 = .ok (.bipush 57, 2) := by decide +kernel
theorem dX12_isDigit_9 : decode cX12_isDigit 9 = .ok (.if_icmp .gt 7, 3) := by decide +kernel
theorem dX12_isDigit_12 : decode cX12_isDigit 12 = .ok (.iconst 1, 1) := by decide +kernel
theorem dX12_isDigit_13 : decode cX12_isDigit 13 = .ok (.goto 4, 3) := by decide +kernel
theorem dX12_isDigit_16 : decode cX12_isDigit 16 = .ok (.iconst 0, 1) := by decide +kernel
theorem dX12_isDigit_17 : decode cX12_isDigit 17 = .ok (.ireturn, 1) := by decide +kernel
theorem dX12_isMark_0 : decode cX12_isMark 0 = .ok (.iload_n 0, 1) := by decide +kernel
theorem dX12_isMark_1 : decode cX12_isMark 1 = .ok (.bipush 59, 2) := by decide +kernel
theorem dX12_isMark_3 : decode cX12_isMark 3 = .ok (.if_icmp .eq 51, 3) := by decide +kernel
theorem dX12_isMark_6 : decode cX12_isMark 6 = .ok (.iload_n 0, 1) := by decide +kernel
theorem dX12_isMark_7 : decode cX12_isMark 7 = .ok (.bipush 40, 2) := by decide +kernel
theorem dX12_isMark_9 : decode cX12_isMark 9 = .ok (.if_icmp .eq 45, 3) := by decide +kernel
theorem dX12_isMark_12 : decode cX12_isMark 12 = .ok (.iload_n 0, 1) := by decide +kernel
theorem dX12_isMark_13 : decode cX12_isMark 13 = .ok (.bipush 41, 2) := by decide +kernel
theorem dX12_isMark_15 : decode cX12_isMark 15 = .ok (.if_icmp .eq 39, 3) := by decide +kernel
theorem dX12_isMark_18 : decode cX12_isMark 18 = .ok (.iload_n 0, 1) := by decide +kernel
theorem dX12_isMark_19 : decode cX12_isMark 19 = .ok (.bipush 43, 2) := by decide +kernel
theorem dX12_isMark_21 : decode cX12_isMark 21 = .ok (.if_icmp .eq 33, 3) := by decide +kernel
theorem dX12_isMark_24 : decode cX12_isMark 24 = .ok (.iload_n 0, 1) := by decide +kernel
theorem dX12_isMark_25 : decode cX12_isMark 25 = .ok (.bipush 45, 2) := by decide +kernel
theorem dX12_isMark_27 : decode cX12_isMark 27 = .ok (.if_icmp .eq 27, 3) := by decide +kernel
theorem dX12_isMark_30 : decode cX12_isMark 30 = .ok (.iload_n 0, 1) := by decide +kernel
theorem dX12_isMark_31 : decode cX12_isMark 31 = .ok (.bipush 42, 2) := by decide +kernel
theorem dX12_isMark_33 : decode cX12_isMark 33 = .ok (.if_icmp .eq 21, 3) := by decide +kernel
theorem dX12_isMark_36 : decode cX12_isMark 36 = .ok (.iload_n 0, 1) := by decide +kernel
theorem dX12_isMark_37 : decode cX12_isMark 37 = .ok (.bipush 47, 2) := by decide +kernel
theorem dX12_isMark_39 : decode cX12_isMark 39 = .ok (.if_icmp .eq 15, 3) := by decide +kernel
theorem dX12_isMark_42 : decode cX12_isMark 42 = .ok (.iload_n 0, 1) := by decide +kernel
theorem dX12_isMark_43 : decode cX12_isMark 43 = .ok (.bipush 60, 2) := by decide +kernel
theorem dX12_isMark_45 : decode cX12_isMark 45 = .ok (.if_icmp .eq 9, 3) := by decide +kernel
theorem dX12_isMark_48 : decode cX12_isMark 48 = .ok (.iload_n 0, 1) := by decide +kernel
theorem dX12_isMark_49 : decode cX12_isMark 49 = .ok (.bipush 61, 2) := by decide +kernel
theorem dX12_isMark_51 : decode cX12_isMark 51 = .ok (.if_icmp .ne 7, 3) := by decide +kernel
theorem dX12_isMark_54 : decode cX12_isMark 54 = .ok (.iconst 1, 1) := by decide +kernel
theorem dX12_isMark_55 : decode cX12_isMark 55 = .ok (.goto 4, 3) := by decide +kernel
theorem dX12_isMark_58 : decode cX12_isMark 58 = .ok (.iconst 0, 1) := by decide +kernel
theorem dX12_isMark_59 : decode cX12_isMark 59 = .ok (.ireturn, 1) := by decide +kernel
theorem dX12_stepOn_0 : decode cX12_stepOn 0 = .ok (.aload_n 0, 1) := by decide +kernel
theorem dX12_stepOn_1 : decode cX12_stepOn 1 = .ok (.aload_n 0, 1) := by decide +kernel
theorem dX12_stepOn_2 : decode cX12_stepOn 2 = .ok (.getfield 173, 3) := by decide +kernel
theorem dX12_stepOn_5 : decode cX12_stepOn 5 = .ok (.invokevirtual 176, 3) := by decide +kernel
theorem dX12_stepOn_8 : decode cX12_stepOn 8 = .ok (.bipush 32, 2) := by decide +kernel
theorem dX12_stepOn_10 : decode cX12_stepOn 10 = .ok (.if_icmp .eq 16, 3) := by decide +kernel
theorem dX12_stepOn_13 : decode cX12_stepOn 13 = .ok (.aload_n 0, 1) := by decide +kernel
theorem dX12_stepOn_14 : decode cX12_stepOn 14 = .ok (.aload_n 0, 1) := by decide +kernel
theorem dX12_stepOn_15 : decode cX12_stepOn 15 = .ok (.getfield 173, 3) := by decide +kernel
theorem dX12_stepOn_18 : decode cX12_stepOn 18 = .ok (.invokevirtual 176, 3) := by decide +kernel
theorem dX12_stepOn_21 : decode cX12_stepOn 21 = .ok (.bipush 10, 2) := by decide +kernel
theorem dX12_stepOn_23 : decode cX12_stepOn 23 = .ok (.if_icmp .ne 16, 3) := by decide +kernel
theorem dX12_stepOn_26 : decode cX12_stepOn 26 = .ok (.aload_n 0, 1) := by decide +kernel
theorem dX12_stepOn_27 : decode cX12_stepOn 27 = .ok (.dup, 1) := by decide +kernel
theorem dX12_stepOn_28 : decode cX12_stepOn 28 = .ok (.getfield 173, 3) := by decide +kernel
theorem dX12_stepOn_31 : decode cX12_stepOn 31 = .ok (.iconst 1, 1) := by decide +kernel
theorem dX12_stepOn_32 : decode cX12_stepOn 32 = .ok (.iadd, 1) := by decide +kernel
theorem dX12_stepOn_33 : decode cX12_stepOn 33 = .ok (.putfield 173, 3) := by decide +kernel
theorem dX12_stepOn_36 : decode cX12_stepOn 36 = .ok (.goto (-36), 3) := by decide +kernel
theorem dX12_stepOn_39 : decode cX12_stepOn 39 = .ok (.aload_n 0, 1) := by decide +kernel
theorem dX12_stepOn_40 : decode cX12_stepOn 40 = .ok (.aload_n 0, 1) := by decide +kernel
theorem dX12_stepOn_41 : decode cX12_stepOn 41 = .ok (.getfield 173, 3) := by decide +kernel
theorem dX12_stepOn_44 : decode cX12_stepOn 44 = .ok (.putfield 180, 3) := by decide +kernel
theorem dX12_stepOn_47 : decode cX12_stepOn 47 = .ok (.aload_n 0, 1) := by decide +kernel
theorem dX12_stepOn_48 : decode cX12_stepOn 48 = .ok (.aload_n 0, 1) := by decide +kernel
theorem dX12_stepOn_49 : decode cX12_stepOn 49 = .ok (.getfield 173, 3) := by decide +kernel
theorem dX12_stepOn_52 : decode cX12_stepOn 52 = .ok (.invokevirtual 176, 3) := by decide +kernel
theorem dX12_stepOn_55 : decode cX12_stepOn 55 = .ok (.istore_n 1, 1) := by decide +kernel
theorem dX12_stepOn_56 : decode cX12_stepOn 56 = .ok (.iload_n 1, 1) := by decide +kernel
theorem dX12_stepOn_57 : decode cX12_stepOn 57 = .ok (.iconst (-1), 1) := by decide +kernel
theorem dX12_stepOn_58 : decode cX12_stepOn 58 = .ok (.if_icmp .ne 11, 3) := by decide +kernel
theorem dX12_stepOn_61 : decode cX12_stepOn 61 = .ok (.aload_n 0, 1) := by decide +kernel
theorem dX12_stepOn_62 : decode cX12_stepOn 62 = .ok (.iconst 0, 1) := by decide +kernel
theorem dX12_stepOn_63 : decode cX12_stepOn 63 = .ok (.putfield 183, 3) := by decide +kernel
theorem dX12_stepOn_66 : decode cX12_stepOn 66 = .ok (.goto 146, 3) := by decide +kernel
theorem dX12_stepOn_69 : decode cX12_stepOn 69 = .ok (.iload_n 1, 1) := by decide +kernel
theorem dX12_stepOn_70 : decode cX12_stepOn 70 = .ok (.invokestatic 186, 3) := by decide +kernel
theorem dX12_stepOn_73 : decode cX12_stepOn 73 = .ok (.ifCond .eq 38, 3) := by decide +kernel
theorem dX12_stepOn_76 : decode cX12_stepOn 76 = .ok (.aload_n 0, 1) := by decide +kernel
theorem dX12_stepOn_77 : decode cX12_stepOn 77 = .ok (.aload_n 0, 1) := by decide +kernel
theorem dX12_stepOn_78 : decode cX12_stepOn 78 = .ok (.getfield 173, 3) := by decide +kernel
theorem dX12_stepOn_81 : decode cX12_stepOn 81 = .ok (.invokevirtual 176, 3) := by decide +kernel
theorem dX12_stepOn_84 : decode cX12_stepOn 84 = .ok (.invokestatic 186, 3) := by decide +kernel
theorem dX12_stepOn_87 : decode cX12_stepOn 87 = .ok (.ifCond .eq 16, 3) := by decide +kernel
theorem dX12_stepOn_90 : decode cX12_stepOn 90 = .ok (.aload_n 0, 1) := by decide +kernel
theorem dX12_stepOn_91 : decode cX12_stepOn 91 = .ok (.dup, 1) := by decide +kernel
theorem dX12_stepOn_92 : decode cX12_stepOn 92 = .ok (.getfield 173, 3) := by decide +kernel
theorem dX12_stepOn_95 : decode cX12_stepOn 95 = .ok (.iconst 1, 1) := by decide +kernel
theorem dX12_stepOn_96 : decode cX12_stepOn 96 = .ok (.iadd, 1) := by decide +kernel
theorem dX12_stepOn_97 : decode cX12_stepOn 97 = .ok (.putfield 173, 3) := by decide +kernel
theorem dX12_stepOn_100 : decode cX12_stepOn 100 = .ok (.goto (-24), 3) := by decide +kernel
theorem dX12_stepOn_103 : decode cX12_stepOn 103 = .ok (.aload_n 0, 1) := by decide +kernel
theorem dX12_stepOn_104 : decode cX12_stepOn 104 = .ok (.iconst 1, 1) := by decide +kernel
theorem dX12_stepOn_105 : decode cX12_stepOn 105 = .ok (.putfield 183, 3) := by decide +kernel
theorem dX12_stepOn_108 : decode cX12_stepOn 108 = .ok (.goto 104, 3) := by decide +kernel
theorem dX12_stepOn_111 : decode cX12_stepOn 111 = .ok (.iload_n 1, 1) := by decide +kernel
theorem dX12_stepOn_112 : decode cX12_stepOn 112 = .ok (.invokestatic 190, 3) := by decide +kernel
theorem dX12_stepOn_115 : decode cX12_stepOn 115 = .ok (.ifCond .eq 71, 3) := by decide +kernel
theorem dX12_stepOn_118 : decode cX12_stepOn 118 = .ok (.aload_n 0, 1) := by decide +kernel
theorem dX12_stepOn_119 : decode cX12_stepOn 119 = .ok (.iconst 0, 1) := by decide +kernel
theorem dX12_stepOn_120 : decode cX12_stepOn 120 = .ok (.putfield 193, 3) := by decide +kernel
theorem dX12_stepOn_123 : decode cX12_stepOn 123 = .ok (.aload_n 0, 1) := by decide +kernel
theorem dX12_stepOn_124 : decode cX12_stepOn 124 = .ok (.aload_n 0, 1) := by decide +kernel
theorem dX12_stepOn_125 : decode cX12_stepOn 125 = .ok (.getfield 173, 3) := by decide +kernel
theorem dX12_stepOn_128 : decode cX12_stepOn 128 = .ok (.invokevirtual 176, 3) := by decide +kernel
theorem dX12_stepOn_131 : decode cX12_stepOn 131 = .ok (.invokestatic 190, 3) := by decide +kernel
theorem dX12_stepOn_134 : decode cX12_stepOn 134 = .ok (.ifCond .eq 44, 3) := by decide +kernel
theorem dX12_stepOn_137 : decode cX12_stepOn 137 = .ok (.aload_n 0, 1) := by decide +kernel
theorem dX12_stepOn_138 : decode cX12_stepOn 138 = .ok (.ldc 196, 2) := by decide +kernel
theorem dX12_stepOn_140 : decode cX12_stepOn 140 = .ok (.bipush 10, 2) := by decide +kernel
theorem dX12_stepOn_142 : decode cX12_stepOn 142 = .ok (.aload_n 0, 1) := by decide +kernel
theorem dX12_stepOn_143 : decode cX12_stepOn 143 = .ok (.getfield 193, 3) := by decide +kernel
theorem dX12_stepOn_146 : decode cX12_stepOn 146 = .ok (.imul, 1) := by decide +kernel
theorem dX12_stepOn_147 : decode cX12_stepOn 147 = .ok (.aload_n 0, 1) := by decide +kernel
theorem dX12_stepOn_148 : decode cX12_stepOn 148 = .ok (.aload_n 0, 1) := by decide +kernel
theorem dX12_stepOn_149 : decode cX12_stepOn 149 = .ok (.getfield 173, 3) := by decide +kernel
theorem dX12_stepOn_152 : decode cX12_stepOn 152 = .ok (.invokevirtual 176, 3) := by decide +kernel
theorem dX12_stepOn_155 : decode cX12_stepOn 155 = .ok (.iadd, 1) := by decide +kernel
theorem dX12_stepOn_156 : decode cX12_stepOn 156 = .ok (.bipush 48, 2) := by decide +kernel
theorem dX12_stepOn_158 : decode cX12_stepOn 158 = .ok (.isub, 1) := by decide +kernel
theorem dX12_stepOn_159 : decode cX12_stepOn 159 = .ok (.invokestatic 197, 3) := by decide +kernel
theorem dX12_stepOn_162 : decode cX12_stepOn 162 = .ok (.putfield 193, 3) := by decide +kernel
theorem dX12_stepOn_165 : decode cX12_stepOn 165 = .ok (.aload_n 0, 1) := by decide +kernel
theorem dX12_stepOn_166 : decode cX12_stepOn 166 = .ok (.dup, 1) := by decide +kernel
theorem dX12_stepOn_167 : decode cX12_stepOn 167 = .ok (.getfield 173, 3) := by decide +kernel
theorem dX12_stepOn_170 : decode cX12_stepOn 170 = .ok (.iconst 1, 1) := by decide +kernel
theorem dX12_stepOn_171 : decode cX12_stepOn 171 = .ok (.iadd, 1) := by decide +kernel
theorem dX12_stepOn_172 : decode cX12_stepOn 172 = .ok (.putfield 173, 3) := by decide +kernel
theorem dX12_stepOn_175 : decode cX12_stepOn 175 = .ok (.goto (-52), 3) := by decide +kernel
theorem dX12_stepOn_178 : decode cX12_stepOn 178 = .ok (.aload_n 0, 1) := by decide +kernel
theorem dX12_stepOn_179 : decode cX12_stepOn 179 = .ok (.iconst 2, 1) := by decide +kernel
theorem dX12_stepOn_180 : decode cX12_stepOn 180 = .ok (.putfield 183, 3) := by decide +kernel
theorem dX12_stepOn_183 : decode cX12_stepOn 183 = .ok (.goto 29, 3) := by decide +kernel
theorem dX12_stepOn_186 : decode cX12_stepOn 186 = .ok (.aload_n 0, 1) := by decide +kernel
theorem dX12_stepOn_187 : decode cX12_stepOn 187 = .ok (.dup, 1) := by decide +kernel
theorem dX12_stepOn_188 : decode cX12_stepOn 188 = .ok (.getfield 173, 3) := by decide +kernel
theorem dX12_stepOn_191 : decode cX12_stepOn 191 = .ok (.iconst 1, 1) := by decide +kernel
theorem dX12_stepOn_192 : decode cX12_stepOn 192 = .ok (.iadd, 1) := by decide +kernel
theorem dX12_stepOn_193 : decode cX12_stepOn 193 = .ok (.putfield 173, 3) := by decide +kernel
theorem dX12_stepOn_196 : decode cX12_stepOn 196 = .ok (.aload_n 0, 1) := by decide +kernel
theorem dX12_stepOn_197 : decode cX12_stepOn 197 = .ok (.iload_n 1, 1) := by decide +kernel
theorem dX12_stepOn_198 : decode cX12_stepOn 198 = .ok (.invokestatic 203, 3) := by decide +kernel
theorem dX12_stepOn_201 : decode cX12_stepOn 201 = .ok (.ifCond .eq 7, 3) := by decide +kernel
theorem dX12_stepOn_204 : decode cX12_stepOn 204 = .ok (.iconst 3, 1) := by decide +kernel
theorem dX12_stepOn_205 : decode cX12_stepOn 205 = .ok (.goto 4, 3) := by decide +kernel
theorem dX12_stepOn_208 : decode cX12_stepOn 208 = .ok (.iconst 4, 1) := by decide +kernel
theorem dX12_stepOn_209 : decode cX12_stepOn 209 = .ok (.putfield 183, 3) := by decide +kernel
theorem dX12_stepOn_212 : decode cX12_stepOn 212 = .ok (.aload_n 0, 1) := by decide +kernel
theorem dX12_stepOn_213 : decode cX12_stepOn 213 = .ok (.aload_n 0, 1) := by decide +kernel
theorem dX12_stepOn_214 : decode cX12_stepOn 214 = .ok (.getfield 173, 3) := by decide +kernel
theorem dX12_stepOn_217 : decode cX12_stepOn 217 = .ok (.putfield 206, 3) := by decide +kernel
theorem dX12_stepOn_220 : decode cX12_stepOn 220 = .ok (.return_, 1) := by decide +kernel
theorem dX12_amiss_0 : decode cX12_amiss 0 = .ok (.aload_n 0, 1) := by decide +kernel
theorem dX12_amiss_1 : decode cX12_amiss 1 = .ok (.getfield 209, 3) := by decide +kernel
theorem dX12_amiss_4 : decode cX12_amiss 4 = .ok (.ifCond .eq 4, 3) := by decide +kernel
theorem dX12_amiss_7 : decode cX12_amiss 7 = .ok (.return_, 1) := by decide +kernel
theorem dX12_amiss_8 : decode cX12_amiss 8 = .ok (.aload_n 0, 1) := by decide +kernel
theorem dX12_amiss_9 : decode cX12_amiss 9 = .ok (.iload_n 1, 1) := by decide +kernel
theorem dX12_amiss_10 : decode cX12_amiss 10 = .ok (.putfield 209, 3) := by decide +kernel
theorem dX12_amiss_13 : decode cX12_amiss 13 = .ok (.aload_n 0, 1) := by decide +kernel
theorem dX12_amiss_14 : decode cX12_amiss 14 = .ok (.aload_n 0, 1) := by decide +kernel
theorem dX12_amiss_15 : decode cX12_amiss 15 = .ok (.getfield 180, 3) := by decide +kernel
theorem dX12_amiss_18 : decode cX12_amiss 18 = .ok (.putfield 212, 3) := by decide +kernel
theorem dX12_amiss_21 : decode cX12_amiss 21 = .ok (.return_, 1) := by decide +kernel
theorem dX12_is_0 : decode cX12_is 0 = .ok (.aload_n 0, 1) := by decide +kernel
theorem dX12_is_1 : decode cX12_is 1 = .ok (.getfield 209, 3) := by decide +kernel
theorem dX12_is_4 : decode cX12_is 4 = .ok (.ifCond .ne 31, 3) := by decide +kernel
theorem dX12_is_7 : decode cX12_is 7 = .ok (.aload_n 0, 1) := by decide +kernel
theorem dX12_is_8 : decode cX12_is 8 = .ok (.getfield 183, 3) := by decide +kernel
theorem dX12_is_11 : decode cX12_is 11 = .ok (.iconst 1, 1) := by decide +kernel
theorem dX12_is_12 : decode cX12_is 12 = .ok (.if_icmp .ne 23, 3) := by decide +kernel
theorem dX12_is_15 : decode cX12_is 15 = .ok (.aload_n 1, 1) := by decide +kernel
theorem dX12_is_16 : decode cX12_is 16 = .ok (.invokevirtual 215, 3) := by decide +kernel
theorem dX12_is_19 : decode cX12_is 19 = .ok (.aload_n 0, 1) := by decide +kernel
theorem dX12_is_20 : decode cX12_is 20 = .ok (.getfield 206, 3) := by decide +kernel
theorem dX12_is_23 : decode cX12_is 23 = .ok (.aload_n 0, 1) := by decide +kernel
theorem dX12_is_24 : decode cX12_is 24 = .ok (.getfield 180, 3) := by decide +kernel
theorem dX12_is_27 : decode cX12_is 27 = .ok (.isub, 1) := by decide +kernel
theorem dX12_is_28 : decode cX12_is 28 = .ok (.if_icmp .ne 7, 3) := by decide +kernel
theorem dX12_is_31 : decode cX12_is 31 = .ok (.iconst 1, 1) := by decide +kernel
theorem dX12_is_32 : decode cX12_is 32 = .ok (.goto 4, 3) := by decide +kernel
theorem dX12_is_35 : decode cX12_is 35 = .ok (.iconst 0, 1) := by decide +kernel
theorem dX12_is_36 : decode cX12_is 36 = .ok (.istore_n 2, 1) := by decide +kernel
theorem dX12_is_37 : decode cX12_is 37 = .ok (.iconst 0, 1) := by decide +kernel
theorem dX12_is_38 : decode cX12_is 38 = .ok (.istore_n 3, 1) := by decide +kernel
theorem dX12_is_39 : decode cX12_is 39 = .ok (.iload_n 2, 1) := by decide +kernel
theorem dX12_is_40 : decode cX12_is 40 = .ok (.ifCond .eq 42, 3) := by decide +kernel
theorem dX12_is_43 : decode cX12_is 43 = .ok (.iload_n 3, 1) := by decide +kernel
theorem dX12_is_44 : decode cX12_is 44 = .ok (.aload_n 1, 1) := by decide +kernel
theorem dX12_is_45 : decode cX12_is 45 = .ok (.invokevirtual 215, 3) := by decide +kernel
theorem dX12_is_48 : decode cX12_is 48 = .ok (.if_icmp .ge 34, 3) := by decide +kernel
theorem dX12_is_51 : decode cX12_is 51 = .ok (.aload_n 1, 1) := by decide +kernel
theorem dX12_is_52 : decode cX12_is 52 = .ok (.iload_n 3, 1) := by decide +kernel
theorem dX12_is_53 : decode cX12_is 53 = .ok (.invokevirtual 218, 3) := by decide +kernel
theorem dX12_is_56 : decode cX12_is 56 = .ok (.aload_n 0, 1) := by decide +kernel
theorem dX12_is_57 : decode cX12_is 57 = .ok (.getfield 63, 3) := by decide +kernel
theorem dX12_is_60 : decode cX12_is 60 = .ok (.aload_n 0, 1) := by decide +kernel
theorem dX12_is_61 : decode cX12_is 61 = .ok (.getfield 180, 3) := by decide +kernel
theorem dX12_is_64 : decode cX12_is 64 = .ok (.iload_n 3, 1) := by decide +kernel
theorem dX12_is_65 : decode cX12_is 65 = .ok (.iadd, 1) := by decide +kernel
theorem dX12_is_66 : decode cX12_is 66 = .ok (.iaload, 1) := by decide +kernel
theorem dX12_is_67 : decode cX12_is 67 = .ok (.if_icmp .ne 7, 3) := by decide +kernel
theorem dX12_is_70 : decode cX12_is 70 = .ok (.iconst 1, 1) := by decide +kernel
theorem dX12_is_71 : decode cX12_is 71 = .ok (.goto 4, 3) := by decide +kernel
theorem dX12_is_74 : decode cX12_is 74 = .ok (.iconst 0, 1) := by decide +kernel
theorem dX12_is_75 : decode cX12_is 75 = .ok (.istore_n 2, 1) := by decide +kernel
theorem dX12_is_76 : decode cX12_is 76 = .ok (.iinc 3 1, 3) := by decide +kernel
theorem dX12_is_79 : decode cX12_is 79 = .ok (.goto (-40), 3) := by decide +kernel
theorem dX12_is_82 : decode cX12_is 82 = .ok (.iload_n 2, 1) := by decide +kernel
theorem dX12_is_83 : decode cX12_is 83 = .ok (.ireturn, 1) := by decide +kernel
theorem dX12_which_0 : decode cX12_which 0 = .ok (.iconst 0, 1) := by decide +kernel
theorem dX12_which_1 : decode cX12_which 1 = .ok (.istore_n 2, 1) := by decide +kernel
theorem dX12_which_2 : decode cX12_which 2 = .ok (.iload_n 2, 1) := by decide +kernel
theorem dX12_which_3 : decode cX12_which 3 = .ok (.aload_n 1, 1) := by decide +kernel
theorem dX12_which_4 : decode cX12_which 4 = .ok (.arraylength, 1) := by decide +kernel
theorem dX12_which_5 : decode cX12_which 5 = .ok (.if_icmp .ge 21, 3) := by decide +kernel
theorem dX12_which_8 : decode cX12_which 8 = .ok (.aload_n 0, 1) := by decide +kernel
theorem dX12_which_9 : decode cX12_which 9 = .ok (.aload_n 1, 1) := by decide +kernel
theorem dX12_which_10 : decode cX12_which 10 = .ok (.iload_n 2, 1) := by decide +kernel
theorem dX12_which_11 : decode cX12_which 11 = .ok (.aaload, 1) := by decide +kernel
theorem dX12_which_12 : decode cX12_which 12 = .ok (.invokevirtual 222, 3) := by decide +kernel
theorem dX12_which_15 : decode cX12_which 15 = .ok (.ifCond .eq 5, 3) := by decide +kernel
theorem dX12_which_18 : decode cX12_which 18 = .ok (.iload_n 2, 1) := by decide +kernel
theorem dX12_which_19 : decode cX12_which 19 = .ok (.ireturn, 1) := by decide +kernel
theorem dX12_which_20 : decode cX12_which 20 = .ok (.iinc 2 1, 3) := by decide +kernel
theorem dX12_which_23 : decode cX12_which 23 = .ok (.goto (-21), 3) := by decide +kernel
theorem dX12_which_26 : decode cX12_which 26 = .ok (.iconst (-1), 1) := by decide +kernel
theorem dX12_which_27 : decode cX12_which 27 = .ok (.ireturn, 1) := by decide +kernel
theorem dX12_isMarked_0 : decode cX12_isMarked 0 = .ok (.aload_n 0, 1) := by decide +kernel
theorem dX12_isMarked_1 : decode cX12_isMarked 1 = .ok (.getfield 209, 3) := by decide +kernel
theorem dX12_isMarked_4 : decode cX12_isMarked 4 = .ok (.ifCond .ne 28, 3) := by decide +kernel
theorem dX12_isMarked_7 : decode cX12_isMarked 7 = .ok (.aload_n 0, 1) := by decide +kernel
theorem dX12_isMarked_8 : decode cX12_isMarked 8 = .ok (.getfield 183, 3) := by decide +kernel
theorem dX12_isMarked_11 : decode cX12_isMarked 11 = .ok (.iconst 3, 1) := by decide +kernel
theorem dX12_isMarked_12 : decode cX12_isMarked 12 = .ok (.if_icmp .ne 20, 3) := by decide +kernel
theorem dX12_isMarked_15 : decode cX12_isMarked 15 = .ok (.aload_n 0, 1) := by decide +kernel
theorem dX12_isMarked_16 : decode cX12_isMarked 16 = .ok (.getfield 63, 3) := by decide +kernel
theorem dX12_isMarked_19 : decode cX12_isMarked 19 = .ok (.aload_n 0, 1) := by decide +kernel
theorem dX12_isMarked_20 : decode cX12_isMarked 20 = .ok (.getfield 180, 3) := by decide +kernel
theorem dX12_isMarked_23 : decode cX12_isMarked 23 = .ok (.iaload, 1) := by decide +kernel
theorem dX12_isMarked_24 : decode cX12_isMarked 24 = .ok (.iload_n 1, 1) := by decide +kernel
theorem dX12_isMarked_25 : decode cX12_isMarked 25 = .ok (.if_icmp .ne 7, 3) := by decide +kernel
theorem dX12_isMarked_28 : decode cX12_isMarked 28 = .ok (.iconst 1, 1) := by decide +kernel
theorem dX12_isMarked_29 : decode cX12_isMarked 29 = .ok (.goto 4, 3) := by decide +kernel
theorem dX12_isMarked_32 : decode cX12_isMarked 32 = .ok (.iconst 0, 1) := by decide +kernel
theorem dX12_isMarked_33 : decode cX12_isMarked 33 = .ok (.ireturn, 1) := by decide +kernel
theorem dX12_mark_0 : decode cX12_mark 0 = .ok (.aload_n 0, 1) := by decide +kernel
theorem dX12_mark_1 : decode cX12_mark 1 = .ok (.getfield 209, 3) := by decide +kernel
theorem dX12_mark_4 : decode cX12_mark 4 = .ok (.ifCond .ne 16, 3) := by decide +kernel
theorem dX12_mark_7 : decode cX12_mark 7 = .ok (.aload_n 0, 1) := by decide +kernel
theorem dX12_mark_8 : decode cX12_mark 8 = .ok (.iload_n 1, 1) := by decide +kernel
theorem dX12_mark_9 : decode cX12_mark 9 = .ok (.invokevirtual 226, 3) := by decide +kernel
theorem dX12_mark_12 : decode cX12_mark 12 = .ok (.ifCond .ne 8, 3) := by decide +kernel
theorem dX12_mark_15 : decode cX12_mark 15 = .ok (.aload_n 0, 1) := by decide +kernel
theorem dX12_mark_16 : decode cX12_mark 16 = .ok (.iconst 1, 1) := by decide +kernel
theorem dX12_mark_17 : decode cX12_mark 17 = .ok (.invokevirtual 229, 3) := by decide +kernel
theorem dX12_mark_20 : decode cX12_mark 20 = .ok (.aload_n 0, 1) := by decide +kernel
theorem dX12_mark_21 : decode cX12_mark 21 = .ok (.getfield 209, 3) := by decide +kernel
theorem dX12_mark_24 : decode cX12_mark 24 = .ok (.ifCond .ne 7, 3) := by decide +kernel
theorem dX12_mark_27 : decode cX12_mark 27 = .ok (.aload_n 0, 1) := by decide +kernel
theorem dX12_mark_28 : decode cX12_mark 28 = .ok (.invokevirtual 233, 3) := by decide +kernel
theorem dX12_mark_31 : decode cX12_mark 31 = .ok (.return_, 1) := by decide +kernel
theorem dX12_numberNow_0 : decode cX12_numberNow 0 = .ok (.aload_n 0, 1) := by decide +kernel
theorem dX12_numberNow_1 : decode cX12_numberNow 1 = .ok (.getfield 209, 3) := by decide +kernel
theorem dX12_numberNow_4 : decode cX12_numberNow 4 = .ok (.ifCond .eq 5, 3) := by decide +kernel
theorem dX12_numberNow_7 : decode cX12_numberNow 7 = .ok (.iconst 0, 1) := by decide +kernel
theorem dX12_numberNow_8 : decode cX12_numberNow 8 = .ok (.ireturn, 1) := by decide +kernel
theorem dX12_numberNow_9 : decode cX12_numberNow 9 = .ok (.aload_n 0, 1) := by decide +kernel
theorem dX12_numberNow_10 : decode cX12_numberNow 10 = .ok (.getfield 183, 3) := by decide +kernel
theorem dX12_numberNow_13 : decode cX12_numberNow 13 = .ok (.iconst 2, 1) := by decide +kernel
theorem dX12_numberNow_14 : decode cX12_numberNow 14 = .ok (.if_icmp .eq 11, 3) := by decide +kernel
theorem dX12_numberNow_17 : decode cX12_numberNow 17 = .ok (.aload_n 0, 1) := by decide +kernel
theorem dX12_numberNow_18 : decode cX12_numberNow 18 = .ok (.iconst 1, 1) := by decide +kernel
theorem dX12_numberNow_19 : decode cX12_numberNow 19 = .ok (.invokevirtual 229, 3) := by decide +kernel
theorem dX12_numberNow_22 : decode cX12_numberNow 22 = .ok (.goto 37, 3) := by decide +kernel
theorem dX12_numberNow_25 : decode cX12_numberNow 25 = .ok (.aload_n 0, 1) := by decide +kernel
theorem dX12_numberNow_26 : decode cX12_numberNow 26 = .ok (.getfield 206, 3) := by decide +kernel
theorem dX12_numberNow_29 : decode cX12_numberNow 29 = .ok (.aload_n 0, 1) := by decide +kernel
theorem dX12_numberNow_30 : decode cX12_numberNow 30 = .ok (.getfield 180, 3) := by decide +kernel
theorem dX12_numberNow_33 : decode cX12_numberNow 33 = .ok (.isub, 1) := by decide +kernel
theorem dX12_numberNow_34 : decode cX12_numberNow 34 = .ok (.iconst 4, 1) := by decide +kernel
theorem dX12_numberNow_35 : decode cX12_numberNow 35 = .ok (.if_icmp .gt 19, 3) := by decide +kernel
theorem dX12_numberNow_38 : decode cX12_numberNow 38 = .ok (.aload_n 0, 1) := by decide +kernel
theorem dX12_numberNow_39 : decode cX12_numberNow 39 = .ok (.getfield 193, 3) := by decide +kernel
theorem dX12_numberNow_42 : decode cX12_numberNow 42 = .ok (.iload_n 1, 1) := by decide +kernel
theorem dX12_numberNow_43 : decode cX12_numberNow 43 = .ok (.if_icmp .lt 11, 3) := by decide +kernel
theorem dX12_numberNow_46 : decode cX12_numberNow 46 = .ok (.aload_n 0, 1) := by decide +kernel
theorem dX12_numberNow_47 : decode cX12_numberNow 47 = .ok (.getfield 193, 3) := by decide +kernel
theorem dX12_numberNow_50 : decode cX12_numberNow 50 = .ok (.iload_n 2, 1) := by decide +kernel
theorem dX12_numberNow_51 : decode cX12_numberNow 51 = .ok (.if_icmp .le 8, 3) := by decide +kernel
theorem dX12_numberNow_54 : decode cX12_numberNow 54 = .ok (.aload_n 0, 1) := by decide +kernel
theorem dX12_numberNow_55 : decode cX12_numberNow 55 = .ok (.iconst 2, 1) := by decide +kernel
theorem dX12_numberNow_56 : decode cX12_numberNow 56 = .ok (.invokevirtual 229, 3) := by decide +kernel
theorem dX12_numberNow_59 : decode cX12_numberNow 59 = .ok (.aload_n 0, 1) := by decide +kernel
theorem dX12_numberNow_60 : decode cX12_numberNow 60 = .ok (.getfield 209, 3) := by decide +kernel
theorem dX12_numberNow_63 : decode cX12_numberNow 63 = .ok (.ifCond .ne 10, 3) := by decide +kernel
theorem dX12_numberNow_66 : decode cX12_numberNow 66 = .ok (.aload_n 0, 1) := by decide +kernel
theorem dX12_numberNow_67 : decode cX12_numberNow 67 = .ok (.getfield 193, 3) := by decide +kernel
theorem dX12_numberNow_70 : decode cX12_numberNow 70 = .ok (.goto 4, 3) := by decide +kernel
theorem dX12_numberNow_73 : decode cX12_numberNow 73 = .ok (.iconst 0, 1) := by decide +kernel
theorem dX12_numberNow_74 : decode cX12_numberNow 74 = .ok (.ireturn, 1) := by decide +kernel
theorem dX12_readNumber_0 : decode cX12_readNumber 0 = .ok (.aload_n 0, 1) := by decide +kernel
theorem dX12_readNumber_1 : decode cX12_readNumber 1 = .ok (.iload_n 1, 1) := by decide +kernel
theorem dX12_readNumber_2 : decode cX12_readNumber 2 = .ok (.iload_n 2, 1) := by decide +kernel
theorem dX12_readNumber_3 : decode cX12_readNumber 3 = .ok (.invokevirtual 236, 3) := by decide +kernel
theorem dX12_readNumber_6 : decode cX12_readNumber 6 = .ok (.istore_n 3, 1) := by decide +kernel
theorem dX12_readNumber_7 : decode cX12_readNumber 7 = .ok (.aload_n 0, 1) := by decide +kernel
theorem dX12_readNumber_8 : decode cX12_readNumber 8 = .ok (.getfield 209, 3) := by decide +kernel
theorem dX12_readNumber_11 : decode cX12_readNumber 11 = .ok (.ifCond .ne 7, 3) := by decide +kernel
theorem dX12_readNumber_14 : decode cX12_readNumber 14 = .ok (.aload_n 0, 1) := by decide +kernel
theorem dX12_readNumber_15 : decode cX12_readNumber 15 = .ok (.invokevirtual 233, 3) := by decide +kernel
theorem dX12_readNumber_18 : decode cX12_readNumber 18 = .ok (.iload_n 3, 1) := by decide +kernel
theorem dX12_readNumber_19 : decode cX12_readNumber 19 = .ok (.ireturn, 1) := by decide +kernel
theorem dX12_lay_0 : decode cX12_lay 0 = .ok (.aload_n 0, 1) := by decide +kernel
theorem dX12_lay_1 : decode cX12_lay 1 = .ok (.getfield 209, 3) := by decide +kernel
theorem dX12_lay_4 : decode cX12_lay 4 = .ok (.ifCond .eq 4, 3) := by decide +kernel
theorem dX12_lay_7 : decode cX12_lay 7 = .ok (.return_, 1) := by decide +kernel
theorem dX12_lay_8 : decode cX12_lay 8 = .ok (.bipush 6, 2) := by decide +kernel
theorem dX12_lay_10 : decode cX12_lay 10 = .ok (.aload_n 0, 1) := by decide +kernel
theorem dX12_lay_11 : decode cX12_lay 11 = .ok (.getfield 239, 3) := by decide +kernel
theorem dX12_lay_14 : decode cX12_lay 14 = .ok (.ifCond .eq 7, 3) := by decide +kernel
theorem dX12_lay_17 : decode cX12_lay 17 = .ok (.iconst 5, 1) := by decide +kernel
theorem dX12_lay_18 : decode cX12_lay 18 = .ok (.goto 4, 3) := by decide +kernel
theorem dX12_lay_21 : decode cX12_lay 21 = .ok (.iconst 4, 1) := by decide +kernel
theorem dX12_lay_22 : decode cX12_lay 22 = .ok (.iadd, 1) := by decide +kernel
theorem dX12_lay_23 : decode cX12_lay 23 = .ok (.istore_n 2, 1) := by decide +kernel
theorem dX12_lay_24 : decode cX12_lay 24 = .ok (.aload_n 0, 1) := by decide +kernel
theorem dX12_lay_25 : decode cX12_lay 25 = .ok (.getfield 239, 3) := by decide +kernel
theorem dX12_lay_28 : decode cX12_lay 28 = .ok (.ifCond .eq 10, 3) := by decide +kernel
theorem dX12_lay_31 : decode cX12_lay 31 = .ok (.aload_n 0, 1) := by decide +kernel
theorem dX12_lay_32 : decode cX12_lay 32 = .ok (.getfield 57, 3) := by decide +kernel
theorem dX12_lay_35 : decode cX12_lay 35 = .ok (.goto 7, 3) := by decide +kernel
theorem dX12_lay_38 : decode cX12_lay 38 = .ok (.aload_n 0, 1) := by decide +kernel
theorem dX12_lay_39 : decode cX12_lay 39 = .ok (.getfield 54, 3) := by decide +kernel
theorem dX12_lay_42 : decode cX12_lay 42 = .ok (.astore_n 3, 1) := by decide +kernel
theorem dX12_lay_43 : decode cX12_lay 43 = .ok (.aload_n 3, 1) := by decide +kernel
theorem dX12_lay_44 : decode cX12_lay 44 = .ok (.sipush 700, 3) := by decide +kernel
theorem dX12_lay_47 : decode cX12_lay 47 = .ok (.aload_n 0, 1) := by decide +kernel
theorem dX12_lay_48 : decode cX12_lay 48 = .ok (.getfield 33, 3) := by decide +kernel
theorem dX12_lay_51 : decode cX12_lay 51 = .ok (.iload_n 2, 1) := by decide +kernel
theorem dX12_lay_52 : decode cX12_lay 52 = .ok (.iaload, 1) := by decide +kernel
theorem dX12_lay_53 : decode cX12_lay 53 = .ok (.iadd, 1) := by decide +kernel
theorem dX12_lay_54 : decode cX12_lay 54 = .ok (.iload_n 1, 1) := by decide +kernel
theorem dX12_lay_55 : decode cX12_lay 55 = .ok (.iastore, 1) := by decide +kernel
theorem dX12_lay_56 : decode cX12_lay 56 = .ok (.aload_n 0, 1) := by decide +kernel
theorem dX12_lay_57 : decode cX12_lay 57 = .ok (.getfield 33, 3) := by decide +kernel
theorem dX12_lay_60 : decode cX12_lay 60 = .ok (.iload_n 2, 1) := by decide +kernel
theorem dX12_lay_61 : decode cX12_lay 61 = .ok (.dup2, 1) := by decide +kernel
theorem dX12_lay_62 : decode cX12_lay 62 = .ok (.iaload, 1) := by decide +kernel
theorem dX12_lay_63 : decode cX12_lay 63 = .ok (.iconst 1, 1) := by decide +kernel
theorem dX12_lay_64 : decode cX12_lay 64 = .ok (.iadd, 1) := by decide +kernel
theorem dX12_lay_65 : decode cX12_lay 65 = .ok (.iastore, 1) := by decide +kernel
theorem dX12_lay_66 : decode cX12_lay 66 = .ok (.return_, 1) := by decide +kernel
theorem dX12_readPart_0 : decode cX12_readPart 0 = .ok (.aload_n 0, 1) := by decide +kernel
theorem dX12_readPart_1 : decode cX12_readPart 1 = .ok (.getfield 209, 3) := by decide +kernel
theorem dX12_readPart_4 : decode cX12_readPart 4 = .ok (.ifCond .eq 4, 3) := by decide +kernel
theorem dX12_readPart_7 : decode cX12_readPart 7 = .ok (.return_, 1) := by decide +kernel
theorem dX12_readPart_8 : decode cX12_readPart 8 = .ok (.aload_n 0, 1) := by decide +kernel
theorem dX12_readPart_9 : decode cX12_readPart 9 = .ok (.getfield 183, 3) := by decide +kernel
theorem dX12_readPart_12 : decode cX12_readPart 12 = .ok (.iconst 2, 1) := by decide +kernel
theorem dX12_readPart_13 : decode cX12_readPart 13 = .ok (.if_icmp .ne 16, 3) := by decide +kernel
theorem dX12_readPart_16 : decode cX12_readPart 16 = .ok (.aload_n 0, 1) := by decide +kernel
theorem dX12_readPart_17 : decode cX12_readPart 17 = .ok (.aload_n 0, 1) := by decide +kernel
theorem dX12_readPart_18 : decode cX12_readPart 18 = .ok (.iconst 0, 1) := by decide +kernel
theorem dX12_readPart_19 : decode cX12_readPart 19 = .ok (.sipush 9999, 3) := by decide +kernel
theorem dX12_readPart_22 : decode cX12_readPart 22 = .ok (.invokevirtual 243, 3) := by decide +kernel
theorem dX12_readPart_25 : decode cX12_readPart 25 = .ok (.invokevirtual 246, 3) := by decide +kernel
theorem dX12_readPart_28 : decode cX12_readPart 28 = .ok (.return_, 1) := by decide +kernel
theorem dX12_readPart_29 : decode cX12_readPart 29 = .ok (.aload_n 0, 1) := by decide +kernel
theorem dX12_readPart_30 : decode cX12_readPart 30 = .ok (.getfield 183, 3) := by decide +kernel
theorem dX12_readPart_33 : decode cX12_readPart 33 = .ok (.iconst 1, 1) := by decide +kernel
theorem dX12_readPart_34 : decode cX12_readPart 34 = .ok (.if_icmp .ne 41, 3) := by decide +kernel
theorem dX12_readPart_37 : decode cX12_readPart 37 = .ok (.aload_n 0, 1) := by decide +kernel
theorem dX12_readPart_38 : decode cX12_readPart 38 = .ok (.aload_n 0, 1) := by decide +kernel
theorem dX12_readPart_39 : decode cX12_readPart 39 = .ok (.getfield 30, 3) := by decide +kernel
theorem dX12_readPart_42 : decode cX12_readPart 42 = .ok (.invokevirtual 249, 3) := by decide +kernel
theorem dX12_readPart_45 : decode cX12_readPart 45 = .ok (.istore_n 2, 1) := by decide +kernel
theorem dX12_readPart_46 : decode cX12_readPart 46 = .ok (.iload_n 2, 1) := by decide +kernel
theorem dX12_readPart_47 : decode cX12_readPart 47 = .ok (.iconst (-1), 1) := by decide +kernel
theorem dX12_readPart_48 : decode cX12_readPart 48 = .ok (.if_icmp .ne 8, 3) := by decide +kernel
theorem dX12_readPart_51 : decode cX12_readPart 51 = .ok (.aload_n 0, 1) := by decide +kernel
theorem dX12_readPart_52 : decode cX12_readPart 52 = .ok (.iconst 3, 1) := by decide +kernel
theorem dX12_readPart_53 : decode cX12_readPart 53 = .ok (.invokevirtual 229, 3) := by decide +kernel
theorem dX12_readPart_56 : decode cX12_readPart 56 = .ok (.aload_n 0, 1) := by decide +kernel
theorem dX12_readPart_57 : decode cX12_readPart 57 = .ok (.iconst (-1), 1) := by decide +kernel
theorem dX12_readPart_58 : decode cX12_readPart 58 = .ok (.iload_n 2, 1) := by decide +kernel
theorem dX12_readPart_59 : decode cX12_readPart 59 = .ok (.isub, 1) := by decide +kernel
theorem dX12_readPart_60 : decode cX12_readPart 60 = .ok (.invokevirtual 246, 3) := by decide +kernel
theorem dX12_readPart_63 : decode cX12_readPart 63 = .ok (.aload_n 0, 1) := by decide +kernel
theorem dX12_readPart_64 : decode cX12_readPart 64 = .ok (.getfield 209, 3) := by decide +kernel
theorem dX12_readPart_67 : decode cX12_readPart 67 = .ok (.ifCond .ne 7, 3) := by decide +kernel
theorem dX12_readPart_70 : decode cX12_readPart 70 = .ok (.aload_n 0, 1) := by decide +kernel
theorem dX12_readPart_71 : decode cX12_readPart 71 = .ok (.invokevirtual 233, 3) := by decide +kernel
theorem dX12_readPart_74 : decode cX12_readPart 74 = .ok (.return_, 1) := by decide +kernel
theorem dX12_readPart_75 : decode cX12_readPart 75 = .ok (.aload_n 0, 1) := by decide +kernel
theorem dX12_readPart_76 : decode cX12_readPart 76 = .ok (.bipush 40, 2) := by decide +kernel
theorem dX12_readPart_78 : decode cX12_readPart 78 = .ok (.invokevirtual 253, 3) := by decide +kernel
theorem dX12_readPart_81 : decode cX12_readPart 81 = .ok (.aload_n 0, 1) := by decide +kernel
theorem dX12_readPart_82 : decode cX12_readPart 82 = .ok (.iload_n 1, 1) := by decide +kernel
theorem dX12_readPart_83 : decode cX12_readPart 83 = .ok (.iconst 1, 1) := by decide +kernel
theorem dX12_readPart_84 : decode cX12_readPart 84 = .ok (.iadd, 1) := by decide +kernel
theorem dX12_readPart_85 : decode cX12_readPart 85 = .ok (.invokevirtual 256, 3) := by decide +kernel
theorem dX12_readPart_88 : decode cX12_readPart 88 = .ok (.aload_n 0, 1) := by decide +kernel
theorem dX12_readPart_89 : decode cX12_readPart 89 = .ok (.bipush 41, 2) := by decide +kernel
theorem dX12_readPart_91 : decode cX12_readPart 91 = .ok (.invokevirtual 253, 3) := by decide +kernel
theorem dX12_readPart_94 : decode cX12_readPart 94 = .ok (.return_, 1) := by decide +kernel
theorem dX12_readProduct_0 : decode cX12_readProduct 0 = .ok (.aload_n 0, 1) := by decide +kernel
theorem dX12_readProduct_1 : decode cX12_readProduct 1 = .ok (.iload_n 1, 1) := by decide +kernel
theorem dX12_readProduct_2 : decode cX12_readProduct 2 = .ok (.invokevirtual 259, 3) := by decide +kernel
theorem dX12_readProduct_5 : decode cX12_readProduct 5 = .ok (.aload_n 0, 1) := by decide +kernel
theorem dX12_readProduct_6 : decode cX12_readProduct 6 = .ok (.bipush 42, 2) := by decide +kernel
theorem dX12_readProduct_8 : decode cX12_readProduct 8 = .ok (.invokevirtual 226, 3) := by decide +kernel
theorem dX12_readProduct_11 : decode cX12_readProduct 11 = .ok (.ifCond .ne 12, 3) := by decide +kernel
theorem dX12_readProduct_14 : decode cX12_readProduct 14 = .ok (.aload_n 0, 1) := by decide +kernel
theorem dX12_readProduct_15 : decode cX12_readProduct 15 = .ok (.bipush 47, 2) := by decide +kernel
theorem dX12_readProduct_17 : decode cX12_readProduct 17 = .ok (.invokevirtual 226, 3) := by decide +kernel
theorem dX12_readProduct_20 : decode cX12_readProduct 20 = .ok (.ifCond .eq 37, 3) := by decide +kernel
theorem dX12_readProduct_23 : decode cX12_readProduct 23 = .ok (.aload_n 0, 1) := by decide +kernel
theorem dX12_readProduct_24 : decode cX12_readProduct 24 = .ok (.bipush 42, 2) := by decide +kernel
theorem dX12_readProduct_26 : decode cX12_readProduct 26 = .ok (.invokevirtual 226, 3) := by decide +kernel
theorem dX12_readProduct_29 : decode cX12_readProduct 29 = .ok (.ifCond .eq 8, 3) := by decide +kernel
theorem dX12_readProduct_32 : decode cX12_readProduct 32 = .ok (.bipush (-22), 2) := by decide +kernel
theorem dX12_readProduct_34 : decode cX12_readProduct 34 = .ok (.goto 5, 3) := by decide +kernel
theorem dX12_readProduct_37 : decode cX12_readProduct 37 = .ok (.bipush (-23), 2) := by decide +kernel
theorem dX12_readProduct_39 : decode cX12_readProduct 39 = .ok (.istore_n 2, 1) := by decide +kernel
theorem dX12_readProduct_40 : decode cX12_readProduct 40 = .ok (.aload_n 0, 1) := by decide +kernel
theorem dX12_readProduct_41 : decode cX12_readProduct 41 = .ok (.invokevirtual 233, 3) := by decide +kernel
theorem dX12_readProduct_44 : decode cX12_readProduct 44 = .ok (.aload_n 0, 1) := by decide +kernel
theorem dX12_readProduct_45 : decode cX12_readProduct 45 = .ok (.iload_n 1, 1) := by decide +kernel
theorem dX12_readProduct_46 : decode cX12_readProduct 46 = .ok (.invokevirtual 259, 3) := by decide +kernel
theorem dX12_readProduct_49 : decode cX12_readProduct 49 = .ok (.aload_n 0, 1) := by decide +kernel
theorem dX12_readProduct_50 : decode cX12_readProduct 50 = .ok (.iload_n 2, 1) := by decide +kernel
theorem dX12_readProduct_51 : decode cX12_readProduct 51 = .ok (.invokevirtual 246, 3) := by decide +kernel
theorem dX12_readProduct_54 : decode cX12_readProduct 54 = .ok (.goto (-49), 3) := by decide +kernel
theorem dX12_readProduct_57 : decode cX12_readProduct 57 = .ok (.return_, 1) := by decide +kernel
theorem dX12_readSum_0 : decode cX12_readSum 0 = .ok (.aload_n 0, 1) := by decide +kernel
theorem dX12_readSum_1 : decode cX12_readSum 1 = .ok (.iload_n 1, 1) := by decide +kernel
theorem dX12_readSum_2 : decode cX12_readSum 2 = .ok (.invokevirtual 262, 3) := by decide +kernel
theorem dX12_readSum_5 : decode cX12_readSum 5 = .ok (.aload_n 0, 1) := by decide +kernel
theorem dX12_readSum_6 : decode cX12_readSum 6 = .ok (.bipush 43, 2) := by decide +kernel
theorem dX12_readSum_8 : decode cX12_readSum 8 = .ok (.invokevirtual 226, 3) := by decide +kernel
theorem dX12_readSum_11 : decode cX12_readSum 11 = .ok (.ifCond .ne 12, 3) := by decide +kernel
theorem dX12_readSum_14 : decode cX12_readSum 14 = .ok (.aload_n 0, 1) := by decide +kernel
theorem dX12_readSum_15 : decode cX12_readSum 15 = .ok (.bipush 45, 2) := by decide +kernel
theorem dX12_readSum_17 : decode cX12_readSum 17 = .ok (.invokevirtual 226, 3) := by decide +kernel
theorem dX12_readSum_20 : decode cX12_readSum 20 = .ok (.ifCond .eq 37, 3) := by decide +kernel
theorem dX12_readSum_23 : decode cX12_readSum 23 = .ok (.aload_n 0, 1) := by decide +kernel
theorem dX12_readSum_24 : decode cX12_readSum 24 = .ok (.bipush 43, 2) := by decide +kernel
theorem dX12_readSum_26 : decode cX12_readSum 26 = .ok (.invokevirtual 226, 3) := by decide +kernel
theorem dX12_readSum_29 : decode cX12_readSum 29 = .ok (.ifCond .eq 8, 3) := by decide +kernel
theorem dX12_readSum_32 : decode cX12_readSum 32 = .ok (.bipush (-20), 2) := by decide +kernel
theorem dX12_readSum_34 : decode cX12_readSum 34 = .ok (.goto 5, 3) := by decide +kernel
theorem dX12_readSum_37 : decode cX12_readSum 37 = .ok (.bipush (-21), 2) := by decide +kernel
theorem dX12_readSum_39 : decode cX12_readSum 39 = .ok (.istore_n 2, 1) := by decide +kernel
theorem dX12_readSum_40 : decode cX12_readSum 40 = .ok (.aload_n 0, 1) := by decide +kernel
theorem dX12_readSum_41 : decode cX12_readSum 41 = .ok (.invokevirtual 233, 3) := by decide +kernel
theorem dX12_readSum_44 : decode cX12_readSum 44 = .ok (.aload_n 0, 1) := by decide +kernel
theorem dX12_readSum_45 : decode cX12_readSum 45 = .ok (.iload_n 1, 1) := by decide +kernel
theorem dX12_readSum_46 : decode cX12_readSum 46 = .ok (.invokevirtual 262, 3) := by decide +kernel
theorem dX12_readSum_49 : decode cX12_readSum 49 = .ok (.aload_n 0, 1) := by decide +kernel
theorem dX12_readSum_50 : decode cX12_readSum 50 = .ok (.iload_n 2, 1) := by decide +kernel
theorem dX12_readSum_51 : decode cX12_readSum 51 = .ok (.invokevirtual 246, 3) := by decide +kernel
theorem dX12_readSum_54 : decode cX12_readSum 54 = .ok (.goto (-49), 3) := by decide +kernel
theorem dX12_readSum_57 : decode cX12_readSum 57 = .ok (.return_, 1) := by decide +kernel
theorem dX12_readNot_0 : decode cX12_readNot 0 = .ok (.iconst 0, 1) := by decide +kernel
theorem dX12_readNot_1 : decode cX12_readNot 1 = .ok (.istore_n 2, 1) := by decide +kernel
theorem dX12_readNot_2 : decode cX12_readNot 2 = .ok (.aload_n 0, 1) := by decide +kernel
theorem dX12_readNot_3 : decode cX12_readNot 3 = .ok (.ldc_w 265, 3) := by decide +kernel
theorem dX12_readNot_6 : decode cX12_readNot 6 = .ok (.invokevirtual 222, 3) := by decide +kernel
theorem dX12_readNot_9 : decode cX12_readNot 9 = .ok (.ifCond .eq 31, 3) := by decide +kernel
theorem dX12_readNot_12 : decode cX12_readNot 12 = .ok (.iload_n 2, 1) := by decide +kernel
theorem dX12_readNot_13 : decode cX12_readNot 13 = .ok (.bipush 6, 2) := by decide +kernel
theorem dX12_readNot_15 : decode cX12_readNot 15 = .ok (.if_icmp .ne 8, 3) := by decide +kernel
theorem dX12_readNot_18 : decode cX12_readNot 18 = .ok (.aload_n 0, 1) := by decide +kernel
theorem dX12_readNot_19 : decode cX12_readNot 19 = .ok (.iconst 2, 1) := by decide +kernel
theorem dX12_readNot_20 : decode cX12_readNot 20 = .ok (.invokevirtual 229, 3) := by decide +kernel
theorem dX12_readNot_23 : decode cX12_readNot 23 = .ok (.iinc 2 1, 3) := by decide +kernel
theorem dX12_readNot_26 : decode cX12_readNot 26 = .ok (.aload_n 0, 1) := by decide +kernel
theorem dX12_readNot_27 : decode cX12_readNot 27 = .ok (.getfield 209, 3) := by decide +kernel
theorem dX12_readNot_30 : decode cX12_readNot 30 = .ok (.ifCond .ne (-28), 3) := by decide +kernel
theorem dX12_readNot_33 : decode cX12_readNot 33 = .ok (.aload_n 0, 1) := by decide +kernel
theorem dX12_readNot_34 : decode cX12_readNot 34 = .ok (.invokevirtual 233, 3) := by decide +kernel
theorem dX12_readNot_37 : decode cX12_readNot 37 = .ok (.goto (-35), 3) := by decide +kernel
theorem dX12_readNot_40 : decode cX12_readNot 40 = .ok (.aload_n 0, 1) := by decide +kernel
theorem dX12_readNot_41 : decode cX12_readNot 41 = .ok (.iload_n 1, 1) := by decide +kernel
theorem dX12_readNot_42 : decode cX12_readNot 42 = .ok (.invokevirtual 267, 3) := by decide +kernel
theorem dX12_readNot_45 : decode cX12_readNot 45 = .ok (.aload_n 0, 1) := by decide +kernel
theorem dX12_readNot_46 : decode cX12_readNot 46 = .ok (.bipush 60, 2) := by decide +kernel
theorem dX12_readNot_48 : decode cX12_readNot 48 = .ok (.invokevirtual 226, 3) := by decide +kernel
theorem dX12_readNot_51 : decode cX12_readNot 51 = .ok (.ifCond .ne 12, 3) := by decide +kernel
theorem dX12_readNot_54 : decode cX12_readNot 54 = .ok (.aload_n 0, 1) := by decide +kernel
theorem dX12_readNot_55 : decode cX12_readNot 55 = .ok (.bipush 61, 2) := by decide +kernel
theorem dX12_readNot_57 : decode cX12_readNot 57 = .ok (.invokevirtual 226, 3) := by decide +kernel
theorem dX12_readNot_60 : decode cX12_readNot 60 = .ok (.ifCond .eq 34, 3) := by decide +kernel
theorem dX12_readNot_63 : decode cX12_readNot 63 = .ok (.aload_n 0, 1) := by decide +kernel
theorem dX12_readNot_64 : decode cX12_readNot 64 = .ok (.bipush 60, 2) := by decide +kernel
theorem dX12_readNot_66 : decode cX12_readNot 66 = .ok (.invokevirtual 226, 3) := by decide +kernel
theorem dX12_readNot_69 : decode cX12_readNot 69 = .ok (.ifCond .eq 8, 3) := by decide +kernel
theorem dX12_readNot_72 : decode cX12_readNot 72 = .ok (.bipush (-24), 2) := by decide +kernel
theorem dX12_readNot_74 : decode cX12_readNot 74 = .ok (.goto 5, 3) := by decide +kernel
theorem dX12_readNot_77 : decode cX12_readNot 77 = .ok (.bipush (-25), 2) := by decide +kernel
theorem dX12_readNot_79 : decode cX12_readNot 79 = .ok (.istore_n 3, 1) := by decide +kernel
theorem dX12_readNot_80 : decode cX12_readNot 80 = .ok (.aload_n 0, 1) := by decide +kernel
theorem dX12_readNot_81 : decode cX12_readNot 81 = .ok (.invokevirtual 233, 3) := by decide +kernel
theorem dX12_readNot_84 : decode cX12_readNot 84 = .ok (.aload_n 0, 1) := by decide +kernel
theorem dX12_readNot_85 : decode cX12_readNot 85 = .ok (.iload_n 1, 1) := by decide +kernel
theorem dX12_readNot_86 : decode cX12_readNot 86 = .ok (.invokevirtual 267, 3) := by decide +kernel
theorem dX12_readNot_89 : decode cX12_readNot 89 = .ok (.aload_n 0, 1) := by decide +kernel
theorem dX12_readNot_90 : decode cX12_readNot 90 = .ok (.iload_n 3, 1) := by decide +kernel
theorem dX12_readNot_91 : decode cX12_readNot 91 = .ok (.invokevirtual 246, 3) := by decide +kernel
theorem dX12_readNot_94 : decode cX12_readNot 94 = .ok (.iconst 0, 1) := by decide +kernel
theorem dX12_readNot_95 : decode cX12_readNot 95 = .ok (.istore_n 3, 1) := by decide +kernel
theorem dX12_readNot_96 : decode cX12_readNot 96 = .ok (.iload_n 3, 1) := by decide +kernel
theorem dX12_readNot_97 : decode cX12_readNot 97 = .ok (.iload_n 2, 1) := by decide +kernel
theorem dX12_readNot_98 : decode cX12_readNot 98 = .ok (.if_icmp .ge 15, 3) := by decide +kernel
theorem dX12_readNot_101 : decode cX12_readNot 101 = .ok (.aload_n 0, 1) := by decide +kernel
theorem dX12_readNot_102 : decode cX12_readNot 102 = .ok (.bipush (-28), 2) := by decide +kernel
theorem dX12_readNot_104 : decode cX12_readNot 104 = .ok (.invokevirtual 246, 3) := by decide +kernel
theorem dX12_readNot_107 : decode cX12_readNot 107 = .ok (.iinc 3 1, 3) := by decide +kernel
theorem dX12_readNot_110 : decode cX12_readNot 110 = .ok (.goto (-14), 3) := by decide +kernel
theorem dX12_readNot_113 : decode cX12_readNot 113 = .ok (.return_, 1) := by decide +kernel
theorem dX12_readAnd_0 : decode cX12_readAnd 0 = .ok (.aload_n 0, 1) := by decide +kernel
theorem dX12_readAnd_1 : decode cX12_readAnd 1 = .ok (.iload_n 1, 1) := by decide +kernel
theorem dX12_readAnd_2 : decode cX12_readAnd 2 = .ok (.invokevirtual 270, 3) := by decide +kernel
theorem dX12_readAnd_5 : decode cX12_readAnd 5 = .ok (.aload_n 0, 1) := by decide +kernel
theorem dX12_readAnd_6 : decode cX12_readAnd 6 = .ok (.ldc_w 273, 3) := by decide +kernel
theorem dX12_readAnd_9 : decode cX12_readAnd 9 = .ok (.invokevirtual 222, 3) := by decide +kernel
theorem dX12_readAnd_12 : decode cX12_readAnd 12 = .ok (.ifCond .eq 21, 3) := by decide +kernel
theorem dX12_readAnd_15 : decode cX12_readAnd 15 = .ok (.aload_n 0, 1) := by decide +kernel
theorem dX12_readAnd_16 : decode cX12_readAnd 16 = .ok (.invokevirtual 233, 3) := by decide +kernel
theorem dX12_readAnd_19 : decode cX12_readAnd 19 = .ok (.aload_n 0, 1) := by decide +kernel
theorem dX12_readAnd_20 : decode cX12_readAnd 20 = .ok (.iload_n 1, 1) := by decide +kernel
theorem dX12_readAnd_21 : decode cX12_readAnd 21 = .ok (.invokevirtual 270, 3) := by decide +kernel
theorem dX12_readAnd_24 : decode cX12_readAnd 24 = .ok (.aload_n 0, 1) := by decide +kernel
theorem dX12_readAnd_25 : decode cX12_readAnd 25 = .ok (.bipush (-26), 2) := by decide +kernel
theorem dX12_readAnd_27 : decode cX12_readAnd 27 = .ok (.invokevirtual 246, 3) := by decide +kernel
theorem dX12_readAnd_30 : decode cX12_readAnd 30 = .ok (.goto (-25), 3) := by decide +kernel
theorem dX12_readAnd_33 : decode cX12_readAnd 33 = .ok (.return_, 1) := by decide +kernel
theorem dX12_readExpression_0 : decode cX12_readExpression 0 = .ok (.aload_n 0, 1) := by decide +kernel
theorem dX12_readExpression_1 : decode cX12_readExpression 1 = .ok (.getfield 209, 3) := by decide +kernel
theorem dX12_readExpression_4 : decode cX12_readExpression 4 = .ok (.ifCond .eq 4, 3) := by decide +kernel
theorem dX12_readExpression_7 : decode cX12_readExpression 7 = .ok (.return_, 1) := by decide +kernel
theorem dX12_readExpression_8 : decode cX12_readExpression 8 = .ok (.aload_n 0, 1) := by decide +kernel
theorem dX12_readExpression_9 : decode cX12_readExpression 9 = .ok (.getfield 183, 3) := by decide +kernel
theorem dX12_readExpression_12 : decode cX12_readExpression 12 = .ok (.iconst 2, 1) := by decide +kernel
theorem dX12_readExpression_13 : decode cX12_readExpression 13 = .ok (.if_icmp .eq 20, 3) := by decide +kernel
theorem dX12_readExpression_16 : decode cX12_readExpression 16 = .ok (.aload_n 0, 1) := by decide +kernel
theorem dX12_readExpression_17 : decode cX12_readExpression 17 = .ok (.getfield 183, 3) := by decide +kernel
theorem dX12_readExpression_20 : decode cX12_readExpression 20 = .ok (.iconst 1, 1) := by decide +kernel
theorem dX12_readExpression_21 : decode cX12_readExpression 21 = .ok (.if_icmp .eq 12, 3) := by decide +kernel
theorem dX12_readExpression_24 : decode cX12_readExpression 24 = .ok (.aload_n 0, 1) := by decide +kernel
theorem dX12_readExpression_25 : decode cX12_readExpression 25 = .ok (.bipush 40, 2) := by decide +kernel
theorem dX12_readExpression_27 : decode cX12_readExpression 27 = .ok (.invokevirtual 226, 3) := by decide +kernel
theorem dX12_readExpression_30 : decode cX12_readExpression 30 = .ok (.ifCond .eq 7, 3) := by decide +kernel
theorem dX12_readExpression_33 : decode cX12_readExpression 33 = .ok (.iconst 1, 1) := by decide +kernel
theorem dX12_readExpression_34 : decode cX12_readExpression 34 = .ok (.goto 4, 3) := by decide +kernel
theorem dX12_readExpression_37 : decode cX12_readExpression 37 = .ok (.iconst 0, 1) := by decide +kernel
theorem dX12_readExpression_38 : decode cX12_readExpression 38 = .ok (.istore_n 2, 1) := by decide +kernel
theorem dX12_readExpression_39 : decode cX12_readExpression 39 = .ok (.iload_n 2, 1) := by decide +kernel
theorem dX12_readExpression_40 : decode cX12_readExpression 40 = .ok (.ifCond .ne 11, 3) := by decide +kernel
theorem dX12_readExpression_43 : decode cX12_readExpression 43 = .ok (.aload_n 0, 1) := by decide +kernel
theorem dX12_readExpression_44 : decode cX12_readExpression 44 = .ok (.iconst 1, 1) := by decide +kernel
theorem dX12_readExpression_45 : decode cX12_readExpression 45 = .ok (.invokevirtual 229, 3) := by decide +kernel
theorem dX12_readExpression_48 : decode cX12_readExpression 48 = .ok (.goto 14, 3) := by decide +kernel
theorem dX12_readExpression_51 : decode cX12_readExpression 51 = .ok (.iload_n 1, 1) := by decide +kernel
theorem dX12_readExpression_52 : decode cX12_readExpression 52 = .ok (.bipush 6, 2) := by decide +kernel
theorem dX12_readExpression_54 : decode cX12_readExpression 54 = .ok (.if_icmp .ne 8, 3) := by decide +kernel
theorem dX12_readExpression_57 : decode cX12_readExpression 57 = .ok (.aload_n 0, 1) := by decide +kernel
theorem dX12_readExpression_58 : decode cX12_readExpression 58 = .ok (.iconst 2, 1) := by decide +kernel
theorem dX12_readExpression_59 : decode cX12_readExpression 59 = .ok (.invokevirtual 229, 3) := by decide +kernel
theorem dX12_readExpression_62 : decode cX12_readExpression 62 = .ok (.aload_n 0, 1) := by decide +kernel
theorem dX12_readExpression_63 : decode cX12_readExpression 63 = .ok (.iload_n 1, 1) := by decide +kernel
theorem dX12_readExpression_64 : decode cX12_readExpression 64 = .ok (.invokevirtual 275, 3) := by decide +kernel
theorem dX12_readExpression_67 : decode cX12_readExpression 67 = .ok (.aload_n 0, 1) := by decide +kernel
theorem dX12_readExpression_68 : decode cX12_readExpression 68 = .ok (.ldc_w 278, 3) := by decide +kernel
theorem dX12_readExpression_71 : decode cX12_readExpression 71 = .ok (.invokevirtual 222, 3) := by decide +kernel
theorem dX12_readExpression_74 : decode cX12_readExpression 74 = .ok (.ifCond .eq 21, 3) := by decide +kernel
theorem dX12_readExpression_77 : decode cX12_readExpression 77 = .ok (.aload_n 0, 1) := by decide +kernel
theorem dX12_readExpression_78 : decode cX12_readExpression 78 = .ok (.invokevirtual 233, 3) := by decide +kernel
theorem dX12_readExpression_81 : decode cX12_readExpression 81 = .ok (.aload_n 0, 1) := by decide +kernel
theorem dX12_readExpression_82 : decode cX12_readExpression 82 = .ok (.iload_n 1, 1) := by decide +kernel
theorem dX12_readExpression_83 : decode cX12_readExpression 83 = .ok (.invokevirtual 275, 3) := by decide +kernel
theorem dX12_readExpression_86 : decode cX12_readExpression 86 = .ok (.aload_n 0, 1) := by decide +kernel
theorem dX12_readExpression_87 : decode cX12_readExpression 87 = .ok (.bipush (-27), 2) := by decide +kernel
theorem dX12_readExpression_89 : decode cX12_readExpression 89 = .ok (.invokevirtual 246, 3) := by decide +kernel
theorem dX12_readExpression_92 : decode cX12_readExpression 92 = .ok (.goto (-25), 3) := by decide +kernel
theorem dX12_readExpression_95 : decode cX12_readExpression 95 = .ok (.return_, 1) := by decide +kernel
theorem dX12_another_0 : decode cX12_another 0 = .ok (.aload_n 0, 1) := by decide +kernel
theorem dX12_another_1 : decode cX12_another 1 = .ok (.getfield 33, 3) := by decide +kernel
theorem dX12_another_4 : decode cX12_another 4 = .ok (.bipush 6, 2) := by decide +kernel
theorem dX12_another_6 : decode cX12_another 6 = .ok (.iload_n 1, 1) := by decide +kernel
theorem dX12_another_7 : decode cX12_another 7 = .ok (.iadd, 1) := by decide +kernel
theorem dX12_another_8 : decode cX12_another 8 = .ok (.iaload, 1) := by decide +kernel
theorem dX12_another_9 : decode cX12_another 9 = .ok (.iload_n 2, 1) := by decide +kernel
theorem dX12_another_10 : decode cX12_another 10 = .ok (.if_icmp .ne 8, 3) := by decide +kernel
theorem dX12_another_13 : decode cX12_another 13 = .ok (.aload_n 0, 1) := by decide +kernel
theorem dX12_another_14 : decode cX12_another 14 = .ok (.iconst 2, 1) := by decide +kernel
theorem dX12_another_15 : decode cX12_another 15 = .ok (.invokevirtual 229, 3) := by decide +kernel
theorem dX12_another_18 : decode cX12_another 18 = .ok (.aload_n 0, 1) := by decide +kernel
theorem dX12_another_19 : decode cX12_another 19 = .ok (.getfield 209, 3) := by decide +kernel
theorem dX12_another_22 : decode cX12_another 22 = .ok (.ifCond .eq 5, 3) := by decide +kernel
theorem dX12_another_25 : decode cX12_another 25 = .ok (.iconst 0, 1) := by decide +kernel
theorem dX12_another_26 : decode cX12_another 26 = .ok (.ireturn, 1) := by decide +kernel
theorem dX12_another_27 : decode cX12_another 27 = .ok (.aload_n 0, 1) := by decide +kernel
theorem dX12_another_28 : decode cX12_another 28 = .ok (.invokevirtual 233, 3) := by decide +kernel
theorem dX12_another_31 : decode cX12_another 31 = .ok (.iconst 1, 1) := by decide +kernel
theorem dX12_another_32 : decode cX12_another 32 = .ok (.ireturn, 1) := by decide +kernel
theorem dX12_sayFeud_0 : decode cX12_sayFeud 0 = .ok (.aload_n 0, 1) := by decide +kernel
theorem dX12_sayFeud_1 : decode cX12_sayFeud 1 = .ok (.iconst 0, 1) := by decide +kernel
theorem dX12_sayFeud_2 : decode cX12_sayFeud 2 = .ok (.bipush 9, 2) := by decide +kernel
theorem dX12_sayFeud_4 : decode cX12_sayFeud 4 = .ok (.invokevirtual 280, 3) := by decide +kernel
theorem dX12_sayFeud_7 : decode cX12_sayFeud 7 = .ok (.ifCond .ne 4, 3) := by decide +kernel
theorem dX12_sayFeud_10 : decode cX12_sayFeud 10 = .ok (.return_, 1) := by decide +kernel
theorem dX12_sayFeud_11 : decode cX12_sayFeud 11 = .ok (.aload_n 0, 1) := by decide +kernel
theorem dX12_sayFeud_12 : decode cX12_sayFeud 12 = .ok (.iconst 0, 1) := by decide +kernel
theorem dX12_sayFeud_13 : decode cX12_sayFeud 13 = .ok (.iconst 5, 1) := by decide +kernel
theorem dX12_sayFeud_14 : decode cX12_sayFeud 14 = .ok (.invokevirtual 243, 3) := by decide +kernel
theorem dX12_sayFeud_17 : decode cX12_sayFeud 17 = .ok (.istore_n 1, 1) := by decide +kernel
theorem dX12_sayFeud_18 : decode cX12_sayFeud 18 = .ok (.aload_n 0, 1) := by decide +kernel
theorem dX12_sayFeud_19 : decode cX12_sayFeud 19 = .ok (.iconst 0, 1) := by decide +kernel
theorem dX12_sayFeud_20 : decode cX12_sayFeud 20 = .ok (.iconst 5, 1) := by decide +kernel
theorem dX12_sayFeud_21 : decode cX12_sayFeud 21 = .ok (.invokevirtual 236, 3) := by decide +kernel
theorem dX12_sayFeud_24 : decode cX12_sayFeud 24 = .ok (.istore_n 2, 1) := by decide +kernel
theorem dX12_sayFeud_25 : decode cX12_sayFeud 25 = .ok (.aload_n 0, 1) := by decide +kernel
theorem dX12_sayFeud_26 : decode cX12_sayFeud 26 = .ok (.getfield 209, 3) := by decide +kernel
theorem dX12_sayFeud_29 : decode cX12_sayFeud 29 = .ok (.ifCond .ne 29, 3) := by decide +kernel
theorem dX12_sayFeud_32 : decode cX12_sayFeud 32 = .ok (.iload_n 1, 1) := by decide +kernel
theorem dX12_sayFeud_33 : decode cX12_sayFeud 33 = .ok (.iload_n 2, 1) := by decide +kernel
theorem dX12_sayFeud_34 : decode cX12_sayFeud 34 = .ok (.if_icmp .eq 19, 3) := by decide +kernel
theorem dX12_sayFeud_37 : decode cX12_sayFeud 37 = .ok (.aload_n 0, 1) := by decide +kernel
theorem dX12_sayFeud_38 : decode cX12_sayFeud 38 = .ok (.getfield 37, 3) := by decide +kernel
theorem dX12_sayFeud_41 : decode cX12_sayFeud 41 = .ok (.bipush 6, 2) := by decide +kernel
theorem dX12_sayFeud_43 : decode cX12_sayFeud 43 = .ok (.iload_n 1, 1) := by decide +kernel
theorem dX12_sayFeud_44 : decode cX12_sayFeud 44 = .ok (.iadd, 1) := by decide +kernel
theorem dX12_sayFeud_45 : decode cX12_sayFeud 45 = .ok (.iaload, 1) := by decide +kernel
theorem dX12_sayFeud_46 : decode cX12_sayFeud 46 = .ok (.iload_n 2, 1) := by decide +kernel
theorem dX12_sayFeud_47 : decode cX12_sayFeud 47 = .ok (.invokestatic 284, 3) := by decide +kernel
theorem dX12_sayFeud_50 : decode cX12_sayFeud 50 = .ok (.ifCond .eq 8, 3) := by decide +kernel
theorem dX12_sayFeud_53 : decode cX12_sayFeud 53 = .ok (.aload_n 0, 1) := by decide +kernel
theorem dX12_sayFeud_54 : decode cX12_sayFeud 54 = .ok (.iconst 4, 1) := by decide +kernel
theorem dX12_sayFeud_55 : decode cX12_sayFeud 55 = .ok (.invokevirtual 229, 3) := by decide +kernel
theorem dX12_sayFeud_58 : decode cX12_sayFeud 58 = .ok (.aload_n 0, 1) := by decide +kernel
theorem dX12_sayFeud_59 : decode cX12_sayFeud 59 = .ok (.getfield 209, 3) := by decide +kernel
theorem dX12_sayFeud_62 : decode cX12_sayFeud 62 = .ok (.ifCond .eq 4, 3) := by decide +kernel
theorem dX12_sayFeud_65 : decode cX12_sayFeud 65 = .ok (.return_, 1) := by decide +kernel
theorem dX12_sayFeud_66 : decode cX12_sayFeud 66 = .ok (.aload_n 0, 1) := by decide +kernel
theorem dX12_sayFeud_67 : decode cX12_sayFeud 67 = .ok (.invokevirtual 233, 3) := by decide +kernel
theorem dX12_sayFeud_70 : decode cX12_sayFeud 70 = .ok (.aload_n 0, 1) := by decide +kernel
theorem dX12_sayFeud_71 : decode cX12_sayFeud 71 = .ok (.getfield 37, 3) := by decide +kernel
theorem dX12_sayFeud_74 : decode cX12_sayFeud 74 = .ok (.bipush 6, 2) := by decide +kernel
theorem dX12_sayFeud_76 : decode cX12_sayFeud 76 = .ok (.iload_n 1, 1) := by decide +kernel
theorem dX12_sayFeud_77 : decode cX12_sayFeud 77 = .ok (.iadd, 1) := by decide +kernel
theorem dX12_sayFeud_78 : decode cX12_sayFeud 78 = .ok (.dup2, 1) := by decide +kernel
theorem dX12_sayFeud_79 : decode cX12_sayFeud 79 = .ok (.iaload, 1) := by decide +kernel
theorem dX12_sayFeud_80 : decode cX12_sayFeud 80 = .ok (.iconst 1, 1) := by decide +kernel
theorem dX12_sayFeud_81 : decode cX12_sayFeud 81 = .ok (.iload_n 2, 1) := by decide +kernel
theorem dX12_sayFeud_82 : decode cX12_sayFeud 82 = .ok (.ishl, 1) := by decide +kernel
theorem dX12_sayFeud_83 : decode cX12_sayFeud 83 = .ok (.ior, 1) := by decide +kernel
theorem dX12_sayFeud_84 : decode cX12_sayFeud 84 = .ok (.iastore, 1) := by decide +kernel
theorem dX12_sayFeud_85 : decode cX12_sayFeud 85 = .ok (.aload_n 0, 1) := by decide +kernel
theorem dX12_sayFeud_86 : decode cX12_sayFeud 86 = .ok (.getfield 37, 3) := by decide +kernel
theorem dX12_sayFeud_89 : decode cX12_sayFeud 89 = .ok (.bipush 6, 2) := by decide +kernel
theorem dX12_sayFeud_91 : decode cX12_sayFeud 91 = .ok (.iload_n 2, 1) := by decide +kernel
theorem dX12_sayFeud_92 : decode cX12_sayFeud 92 = .ok (.iadd, 1) := by decide +kernel
theorem dX12_sayFeud_93 : decode cX12_sayFeud 93 = .ok (.dup2, 1) := by decide +kernel
theorem dX12_sayFeud_94 : decode cX12_sayFeud 94 = .ok (.iaload, 1) := by decide +kernel
theorem dX12_sayFeud_95 : decode cX12_sayFeud 95 = .ok (.iconst 1, 1) := by decide +kernel
theorem dX12_sayFeud_96 : decode cX12_sayFeud 96 = .ok (.iload_n 1, 1) := by decide +kernel
theorem dX12_sayFeud_97 : decode cX12_sayFeud 97 = .ok (.ishl, 1) := by decide +kernel
theorem dX12_sayFeud_98 : decode cX12_sayFeud 98 = .ok (.ior, 1) := by decide +kernel
theorem dX12_sayFeud_99 : decode cX12_sayFeud 99 = .ok (.iastore, 1) := by decide +kernel
theorem dX12_sayFeud_100 : decode cX12_sayFeud 100 = .ok (.aload_n 0, 1) := by decide +kernel
theorem dX12_sayFeud_101 : decode cX12_sayFeud 101 = .ok (.getfield 33, 3) := by decide +kernel
theorem dX12_sayFeud_104 : decode cX12_sayFeud 104 = .ok (.bipush 6, 2) := by decide +kernel
theorem dX12_sayFeud_106 : decode cX12_sayFeud 106 = .ok (.dup2, 1) := by decide +kernel
theorem dX12_sayFeud_107 : decode cX12_sayFeud 107 = .ok (.iaload, 1) := by decide +kernel
theorem dX12_sayFeud_108 : decode cX12_sayFeud 108 = .ok (.iconst 1, 1) := by decide +kernel
theorem dX12_sayFeud_109 : decode cX12_sayFeud 109 = .ok (.iadd, 1) := by decide +kernel
theorem dX12_sayFeud_110 : decode cX12_sayFeud 110 = .ok (.iastore, 1) := by decide +kernel
theorem dX12_sayFeud_111 : decode cX12_sayFeud 111 = .ok (.return_, 1) := by decide +kernel
theorem dX12_sayThroat_0 : decode cX12_sayThroat 0 = .ok (.aload_n 0, 1) := by decide +kernel
theorem dX12_sayThroat_1 : decode cX12_sayThroat 1 = .ok (.iconst 1, 1) := by decide +kernel
theorem dX12_sayThroat_2 : decode cX12_sayThroat 2 = .ok (.iconst 5, 1) := by decide +kernel
theorem dX12_sayThroat_3 : decode cX12_sayThroat 3 = .ok (.invokevirtual 280, 3) := by decide +kernel
theorem dX12_sayThroat_6 : decode cX12_sayThroat 6 = .ok (.ifCond .ne 4, 3) := by decide +kernel
theorem dX12_sayThroat_9 : decode cX12_sayThroat 9 = .ok (.return_, 1) := by decide +kernel
theorem dX12_sayThroat_10 : decode cX12_sayThroat 10 = .ok (.iconst 5, 1) := by decide +kernel
theorem dX12_sayThroat_11 : decode cX12_sayThroat 11 = .ok (.aload_n 0, 1) := by decide +kernel
theorem dX12_sayThroat_12 : decode cX12_sayThroat 12 = .ok (.getfield 33, 3) := by decide +kernel
theorem dX12_sayThroat_15 : decode cX12_sayThroat 15 = .ok (.bipush 7, 2) := by decide +kernel
theorem dX12_sayThroat_17 : decode cX12_sayThroat 17 = .ok (.iaload, 1) := by decide +kernel
theorem dX12_sayThroat_18 : decode cX12_sayThroat 18 = .ok (.iadd, 1) := by decide +kernel
theorem dX12_sayThroat_19 : decode cX12_sayThroat 19 = .ok (.istore_n 1, 1) := by decide +kernel
theorem dX12_sayThroat_20 : decode cX12_sayThroat 20 = .ok (.aload_n 0, 1) := by decide +kernel
theorem dX12_sayThroat_21 : decode cX12_sayThroat 21 = .ok (.getfield 40, 3) := by decide +kernel
theorem dX12_sayThroat_24 : decode cX12_sayThroat 24 = .ok (.iload_n 1, 1) := by decide +kernel
theorem dX12_sayThroat_25 : decode cX12_sayThroat 25 = .ok (.aload_n 0, 1) := by decide +kernel
theorem dX12_sayThroat_26 : decode cX12_sayThroat 26 = .ok (.iconst 1, 1) := by decide +kernel
theorem dX12_sayThroat_27 : decode cX12_sayThroat 27 = .ok (.bipush 99, 2) := by decide +kernel
theorem dX12_sayThroat_29 : decode cX12_sayThroat 29 = .ok (.invokevirtual 243, 3) := by decide +kernel
theorem dX12_sayThroat_32 : decode cX12_sayThroat 32 = .ok (.iastore, 1) := by decide +kernel
theorem dX12_sayThroat_33 : decode cX12_sayThroat 33 = .ok (.aload_n 0, 1) := by decide +kernel
theorem dX12_sayThroat_34 : decode cX12_sayThroat 34 = .ok (.getfield 43, 3) := by decide +kernel
theorem dX12_sayThroat_37 : decode cX12_sayThroat 37 = .ok (.iload_n 1, 1) := by decide +kernel
theorem dX12_sayThroat_38 : decode cX12_sayThroat 38 = .ok (.aload_n 0, 1) := by decide +kernel
theorem dX12_sayThroat_39 : decode cX12_sayThroat 39 = .ok (.iconst 0, 1) := by decide +kernel
theorem dX12_sayThroat_40 : decode cX12_sayThroat 40 = .ok (.bipush 30, 2) := by decide +kernel
theorem dX12_sayThroat_42 : decode cX12_sayThroat 42 = .ok (.invokevirtual 243, 3) := by decide +kernel
theorem dX12_sayThroat_45 : decode cX12_sayThroat 45 = .ok (.iastore, 1) := by decide +kernel
theorem dX12_sayThroat_46 : decode cX12_sayThroat 46 = .ok (.aload_n 0, 1) := by decide +kernel
theorem dX12_sayThroat_47 : decode cX12_sayThroat 47 = .ok (.getfield 33, 3) := by decide +kernel
theorem dX12_sayThroat_50 : decode cX12_sayThroat 50 = .ok (.bipush 7, 2) := by decide +kernel
theorem dX12_sayThroat_52 : decode cX12_sayThroat 52 = .ok (.dup2, 1) := by decide +kernel
theorem dX12_sayThroat_53 : decode cX12_sayThroat 53 = .ok (.iaload, 1) := by decide +kernel
theorem dX12_sayThroat_54 : decode cX12_sayThroat 54 = .ok (.iconst 1, 1) := by decide +kernel
theorem dX12_sayThroat_55 : decode cX12_sayThroat 55 = .ok (.iadd, 1) := by decide +kernel
theorem dX12_sayThroat_56 : decode cX12_sayThroat 56 = .ok (.iastore, 1) := by decide +kernel
theorem dX12_sayThroat_57 : decode cX12_sayThroat 57 = .ok (.return_, 1) := by decide +kernel
theorem dX12_sayBlade_0 : decode cX12_sayBlade 0 = .ok (.aload_n 0, 1) := by decide +kernel
theorem dX12_sayBlade_1 : decode cX12_sayBlade 1 = .ok (.iconst 2, 1) := by decide +kernel
theorem dX12_sayBlade_2 : decode cX12_sayBlade 2 = .ok (.bipush 10, 2) := by decide +kernel
theorem dX12_sayBlade_4 : decode cX12_sayBlade 4 = .ok (.invokevirtual 280, 3) := by decide +kernel
theorem dX12_sayBlade_7 : decode cX12_sayBlade 7 = .ok (.ifCond .ne 4, 3) := by decide +kernel
theorem dX12_sayBlade_10 : decode cX12_sayBlade 10 = .ok (.return_, 1) := by decide +kernel
theorem dX12_sayBlade_11 : decode cX12_sayBlade 11 = .ok (.bipush 10, 2) := by decide +kernel
theorem dX12_sayBlade_13 : decode cX12_sayBlade 13 = .ok (.aload_n 0, 1) := by decide +kernel
theorem dX12_sayBlade_14 : decode cX12_sayBlade 14 = .ok (.getfield 33, 3) := by decide +kernel
theorem dX12_sayBlade_17 : decode cX12_sayBlade 17 = .ok (.bipush 8, 2) := by decide +kernel
theorem dX12_sayBlade_19 : decode cX12_sayBlade 19 = .ok (.iaload, 1) := by decide +kernel
theorem dX12_sayBlade_20 : decode cX12_sayBlade 20 = .ok (.iadd, 1) := by decide +kernel
theorem dX12_sayBlade_21 : decode cX12_sayBlade 21 = .ok (.istore_n 1, 1) := by decide +kernel
theorem dX12_sayBlade_22 : decode cX12_sayBlade 22 = .ok (.aload_n 0, 1) := by decide +kernel
theorem dX12_sayBlade_23 : decode cX12_sayBlade 23 = .ok (.getfield 46, 3) := by decide +kernel
theorem dX12_sayBlade_26 : decode cX12_sayBlade 26 = .ok (.iload_n 1, 1) := by decide +kernel
theorem dX12_sayBlade_27 : decode cX12_sayBlade 27 = .ok (.aload_n 0, 1) := by decide +kernel
theorem dX12_sayBlade_28 : decode cX12_sayBlade 28 = .ok (.iconst 0, 1) := by decide +kernel
theorem dX12_sayBlade_29 : decode cX12_sayBlade 29 = .ok (.iconst 5, 1) := by decide +kernel
theorem dX12_sayBlade_30 : decode cX12_sayBlade 30 = .ok (.invokevirtual 243, 3) := by decide +kernel
theorem dX12_sayBlade_33 : decode cX12_sayBlade 33 = .ok (.iastore, 1) := by decide +kernel
theorem dX12_sayBlade_34 : decode cX12_sayBlade 34 = .ok (.aload_n 0, 1) := by decide +kernel
theorem dX12_sayBlade_35 : decode cX12_sayBlade 35 = .ok (.getfield 49, 3) := by decide +kernel
theorem dX12_sayBlade_38 : decode cX12_sayBlade 38 = .ok (.iload_n 1, 1) := by decide +kernel
theorem dX12_sayBlade_39 : decode cX12_sayBlade 39 = .ok (.aload_n 0, 1) := by decide +kernel
theorem dX12_sayBlade_40 : decode cX12_sayBlade 40 = .ok (.iconst 1, 1) := by decide +kernel
theorem dX12_sayBlade_41 : decode cX12_sayBlade 41 = .ok (.bipush 40, 2) := by decide +kernel
theorem dX12_sayBlade_43 : decode cX12_sayBlade 43 = .ok (.invokevirtual 243, 3) := by decide +kernel
theorem dX12_sayBlade_46 : decode cX12_sayBlade 46 = .ok (.iastore, 1) := by decide +kernel
theorem dX12_sayBlade_47 : decode cX12_sayBlade 47 = .ok (.aload_n 0, 1) := by decide +kernel
theorem dX12_sayBlade_48 : decode cX12_sayBlade 48 = .ok (.getfield 51, 3) := by decide +kernel
theorem dX12_sayBlade_51 : decode cX12_sayBlade 51 = .ok (.iload_n 1, 1) := by decide +kernel
theorem dX12_sayBlade_52 : decode cX12_sayBlade 52 = .ok (.aload_n 0, 1) := by decide +kernel
theorem dX12_sayBlade_53 : decode cX12_sayBlade 53 = .ok (.iconst 0, 1) := by decide +kernel
theorem dX12_sayBlade_54 : decode cX12_sayBlade 54 = .ok (.bipush 99, 2) := by decide +kernel
theorem dX12_sayBlade_56 : decode cX12_sayBlade 56 = .ok (.invokevirtual 243, 3) := by decide +kernel
theorem dX12_sayBlade_59 : decode cX12_sayBlade 59 = .ok (.iastore, 1) := by decide +kernel
theorem dX12_sayBlade_60 : decode cX12_sayBlade 60 = .ok (.aload_n 0, 1) := by decide +kernel
theorem dX12_sayBlade_61 : decode cX12_sayBlade 61 = .ok (.getfield 33, 3) := by decide +kernel
theorem dX12_sayBlade_64 : decode cX12_sayBlade 64 = .ok (.bipush 8, 2) := by decide +kernel
theorem dX12_sayBlade_66 : decode cX12_sayBlade 66 = .ok (.dup2, 1) := by decide +kernel
theorem dX12_sayBlade_67 : decode cX12_sayBlade 67 = .ok (.iaload, 1) := by decide +kernel
theorem dX12_sayBlade_68 : decode cX12_sayBlade 68 = .ok (.iconst 1, 1) := by decide +kernel
theorem dX12_sayBlade_69 : decode cX12_sayBlade 69 = .ok (.iadd, 1) := by decide +kernel
theorem dX12_sayBlade_70 : decode cX12_sayBlade 70 = .ok (.iastore, 1) := by decide +kernel
theorem dX12_sayBlade_71 : decode cX12_sayBlade 71 = .ok (.return_, 1) := by decide +kernel
theorem dX12_sayRule_0 : decode cX12_sayRule 0 = .ok (.aload_n 0, 1) := by decide +kernel
theorem dX12_sayRule_1 : decode cX12_sayRule 1 = .ok (.iload_n 1, 1) := by decide +kernel
theorem dX12_sayRule_2 : decode cX12_sayRule 2 = .ok (.putfield 239, 3) := by decide +kernel
theorem dX12_sayRule_5 : decode cX12_sayRule 5 = .ok (.aload_n 0, 1) := by decide +kernel
theorem dX12_sayRule_6 : decode cX12_sayRule 6 = .ok (.iload_n 1, 1) := by decide +kernel
theorem dX12_sayRule_7 : decode cX12_sayRule 7 = .ok (.ifCond .eq 10, 3) := by decide +kernel
theorem dX12_sayRule_10 : decode cX12_sayRule 10 = .ok (.aload_n 0, 1) := by decide +kernel
theorem dX12_sayRule_11 : decode cX12_sayRule 11 = .ok (.getfield 27, 3) := by decide +kernel
theorem dX12_sayRule_14 : decode cX12_sayRule 14 = .ok (.goto 7, 3) := by decide +kernel
theorem dX12_sayRule_17 : decode cX12_sayRule 17 = .ok (.aload_n 0, 1) := by decide +kernel
theorem dX12_sayRule_18 : decode cX12_sayRule 18 = .ok (.getfield 23, 3) := by decide +kernel
theorem dX12_sayRule_21 : decode cX12_sayRule 21 = .ok (.putfield 30, 3) := by decide +kernel
theorem dX12_sayRule_24 : decode cX12_sayRule 24 = .ok (.aload_n 0, 1) := by decide +kernel
theorem dX12_sayRule_25 : decode cX12_sayRule 25 = .ok (.iconst 0, 1) := by decide +kernel
theorem dX12_sayRule_26 : decode cX12_sayRule 26 = .ok (.invokevirtual 256, 3) := by decide +kernel
theorem dX12_sayRule_29 : decode cX12_sayRule 29 = .ok (.return_, 1) := by decide +kernel
theorem dX12_readLine_0 : decode cX12_readLine 0 = .ok (.aload_n 0, 1) := by decide +kernel
theorem dX12_readLine_1 : decode cX12_readLine 1 = .ok (.ldc_w 287, 3) := by decide +kernel
theorem dX12_readLine_4 : decode cX12_readLine 4 = .ok (.invokevirtual 222, 3) := by decide +kernel
theorem dX12_readLine_7 : decode cX12_readLine 7 = .ok (.ifCond .eq 7, 3) := by decide +kernel
theorem dX12_readLine_10 : decode cX12_readLine 10 = .ok (.iconst 1, 1) := by decide +kernel
theorem dX12_readLine_11 : decode cX12_readLine 11 = .ok (.goto 32, 3) := by decide +kernel
theorem dX12_readLine_14 : decode cX12_readLine 14 = .ok (.aload_n 0, 1) := by decide +kernel
theorem dX12_readLine_15 : decode cX12_readLine 15 = .ok (.ldc_w 289, 3) := by decide +kernel
theorem dX12_readLine_18 : decode cX12_readLine 18 = .ok (.invokevirtual 222, 3) := by decide +kernel
theorem dX12_readLine_21 : decode cX12_readLine 21 = .ok (.ifCond .eq 7, 3) := by decide +kernel
theorem dX12_readLine_24 : decode cX12_readLine 24 = .ok (.iconst 2, 1) := by decide +kernel
theorem dX12_readLine_25 : decode cX12_readLine 25 = .ok (.goto 18, 3) := by decide +kernel
theorem dX12_readLine_28 : decode cX12_readLine 28 = .ok (.aload_n 0, 1) := by decide +kernel
theorem dX12_readLine_29 : decode cX12_readLine 29 = .ok (.ldc_w 291, 3) := by decide +kernel
theorem dX12_readLine_32 : decode cX12_readLine 32 = .ok (.invokevirtual 222, 3) := by decide +kernel
theorem dX12_readLine_35 : decode cX12_readLine 35 = .ok (.ifCond .eq 7, 3) := by decide +kernel
theorem dX12_readLine_38 : decode cX12_readLine 38 = .ok (.iconst 4, 1) := by decide +kernel
theorem dX12_readLine_39 : decode cX12_readLine 39 = .ok (.goto 4, 3) := by decide +kernel
theorem dX12_readLine_42 : decode cX12_readLine 42 = .ok (.iconst 0, 1) := by decide +kernel
theorem dX12_readLine_43 : decode cX12_readLine 43 = .ok (.istore_n 2, 1) := by decide +kernel
theorem dX12_readLine_44 : decode cX12_readLine 44 = .ok (.iload_n 2, 1) := by decide +kernel
theorem dX12_readLine_45 : decode cX12_readLine 45 = .ok (.iload_n 1, 1) := by decide +kernel
theorem dX12_readLine_46 : decode cX12_readLine 46 = .ok (.iand, 1) := by decide +kernel
theorem dX12_readLine_47 : decode cX12_readLine 47 = .ok (.ifCond .eq 8, 3) := by decide +kernel
theorem dX12_readLine_50 : decode cX12_readLine 50 = .ok (.aload_n 0, 1) := by decide +kernel
theorem dX12_readLine_51 : decode cX12_readLine 51 = .ok (.iconst 5, 1) := by decide +kernel
theorem dX12_readLine_52 : decode cX12_readLine 52 = .ok (.invokevirtual 229, 3) := by decide +kernel
theorem dX12_readLine_55 : decode cX12_readLine 55 = .ok (.iload_n 2, 1) := by decide +kernel
theorem dX12_readLine_56 : decode cX12_readLine 56 = .ok (.ifCond .le 53, 3) := by decide +kernel
theorem dX12_readLine_59 : decode cX12_readLine 59 = .ok (.aload_n 0, 1) := by decide +kernel
theorem dX12_readLine_60 : decode cX12_readLine 60 = .ok (.getfield 209, 3) := by decide +kernel
theorem dX12_readLine_63 : decode cX12_readLine 63 = .ok (.ifCond .ne 7, 3) := by decide +kernel
theorem dX12_readLine_66 : decode cX12_readLine 66 = .ok (.aload_n 0, 1) := by decide +kernel
theorem dX12_readLine_67 : decode cX12_readLine 67 = .ok (.invokevirtual 233, 3) := by decide +kernel
theorem dX12_readLine_70 : decode cX12_readLine 70 = .ok (.iload_n 2, 1) := by decide +kernel
theorem dX12_readLine_71 : decode cX12_readLine 71 = .ok (.iconst 1, 1) := by decide +kernel
theorem dX12_readLine_72 : decode cX12_readLine 72 = .ok (.if_icmp .ne 20, 3) := by decide +kernel
theorem dX12_readLine_75 : decode cX12_readLine 75 = .ok (.aload_n 0, 1) := by decide +kernel
theorem dX12_readLine_76 : decode cX12_readLine 76 = .ok (.getfield 33, 3) := by decide +kernel
theorem dX12_readLine_79 : decode cX12_readLine 79 = .ok (.bipush 9, 2) := by decide +kernel
theorem dX12_readLine_81 : decode cX12_readLine 81 = .ok (.aload_n 0, 1) := by decide +kernel
theorem dX12_readLine_82 : decode cX12_readLine 82 = .ok (.iconst 1, 1) := by decide +kernel
theorem dX12_readLine_83 : decode cX12_readLine 83 = .ok (.bipush 99, 2) := by decide +kernel
theorem dX12_readLine_85 : decode cX12_readLine 85 = .ok (.invokevirtual 243, 3) := by decide +kernel
theorem dX12_readLine_88 : decode cX12_readLine 88 = .ok (.iastore, 1) := by decide +kernel
theorem dX12_readLine_89 : decode cX12_readLine 89 = .ok (.goto 76, 3) := by decide +kernel
theorem dX12_readLine_92 : decode cX12_readLine 92 = .ok (.aload_n 0, 1) := by decide +kernel
theorem dX12_readLine_93 : decode cX12_readLine 93 = .ok (.iload_n 2, 1) := by decide +kernel
theorem dX12_readLine_94 : decode cX12_readLine 94 = .ok (.iconst 4, 1) := by decide +kernel
theorem dX12_readLine_95 : decode cX12_readLine 95 = .ok (.if_icmp .ne 7, 3) := by decide +kernel
theorem dX12_readLine_98 : decode cX12_readLine 98 = .ok (.iconst 1, 1) := by decide +kernel
theorem dX12_readLine_99 : decode cX12_readLine 99 = .ok (.goto 4, 3) := by decide +kernel
theorem dX12_readLine_102 : decode cX12_readLine 102 = .ok (.iconst 0, 1) := by decide +kernel
theorem dX12_readLine_103 : decode cX12_readLine 103 = .ok (.invokevirtual 293, 3) := by decide +kernel
theorem dX12_readLine_106 : decode cX12_readLine 106 = .ok (.goto 59, 3) := by decide +kernel
theorem dX12_readLine_109 : decode cX12_readLine 109 = .ok (.aload_n 0, 1) := by decide +kernel
theorem dX12_readLine_110 : decode cX12_readLine 110 = .ok (.ldc_w 297, 3) := by decide +kernel
theorem dX12_readLine_113 : decode cX12_readLine 113 = .ok (.invokevirtual 222, 3) := by decide +kernel
theorem dX12_readLine_116 : decode cX12_readLine 116 = .ok (.ifCond .eq 10, 3) := by decide +kernel
theorem dX12_readLine_119 : decode cX12_readLine 119 = .ok (.aload_n 0, 1) := by decide +kernel
theorem dX12_readLine_120 : decode cX12_readLine 120 = .ok (.invokevirtual 299, 3) := by decide +kernel
theorem dX12_readLine_123 : decode cX12_readLine 123 = .ok (.goto 42, 3) := by decide +kernel
theorem dX12_readLine_126 : decode cX12_readLine 126 = .ok (.aload_n 0, 1) := by decide +kernel
theorem dX12_readLine_127 : decode cX12_readLine 127 = .ok (.ldc_w 302, 3) := by decide +kernel
theorem dX12_readLine_130 : decode cX12_readLine 130 = .ok (.invokevirtual 222, 3) := by decide +kernel
theorem dX12_readLine_133 : decode cX12_readLine 133 = .ok (.ifCond .eq 10, 3) := by decide +kernel
theorem dX12_readLine_136 : decode cX12_readLine 136 = .ok (.aload_n 0, 1) := by decide +kernel
theorem dX12_readLine_137 : decode cX12_readLine 137 = .ok (.invokevirtual 304, 3) := by decide +kernel
theorem dX12_readLine_140 : decode cX12_readLine 140 = .ok (.goto 25, 3) := by decide +kernel
theorem dX12_readLine_143 : decode cX12_readLine 143 = .ok (.aload_n 0, 1) := by decide +kernel
theorem dX12_readLine_144 : decode cX12_readLine 144 = .ok (.ldc_w 307, 3) := by decide +kernel
theorem dX12_readLine_147 : decode cX12_readLine 147 = .ok (.invokevirtual 222, 3) := by decide +kernel
theorem dX12_readLine_150 : decode cX12_readLine 150 = .ok (.ifCond .eq 10, 3) := by decide +kernel
theorem dX12_readLine_153 : decode cX12_readLine 153 = .ok (.aload_n 0, 1) := by decide +kernel
theorem dX12_readLine_154 : decode cX12_readLine 154 = .ok (.invokevirtual 309, 3) := by decide +kernel
theorem dX12_readLine_157 : decode cX12_readLine 157 = .ok (.goto 8, 3) := by decide +kernel
theorem dX12_readLine_160 : decode cX12_readLine 160 = .ok (.aload_n 0, 1) := by decide +kernel
theorem dX12_readLine_161 : decode cX12_readLine 161 = .ok (.iconst 1, 1) := by decide +kernel
theorem dX12_readLine_162 : decode cX12_readLine 162 = .ok (.invokevirtual 229, 3) := by decide +kernel
theorem dX12_readLine_165 : decode cX12_readLine 165 = .ok (.aload_n 0, 1) := by decide +kernel
theorem dX12_readLine_166 : decode cX12_readLine 166 = .ok (.bipush 59, 2) := by decide +kernel
theorem dX12_readLine_168 : decode cX12_readLine 168 = .ok (.invokevirtual 253, 3) := by decide +kernel
theorem dX12_readLine_171 : decode cX12_readLine 171 = .ok (.iload_n 1, 1) := by decide +kernel
theorem dX12_readLine_172 : decode cX12_readLine 172 = .ok (.iload_n 2, 1) := by decide +kernel
theorem dX12_readLine_173 : decode cX12_readLine 173 = .ok (.ior, 1) := by decide +kernel
theorem dX12_readLine_174 : decode cX12_readLine 174 = .ok (.ireturn, 1) := by decide +kernel
theorem dX12_city_0 : decode cX12_city 0 = .ok (.aload_n 0, 1) := by decide +kernel
theorem dX12_city_1 : decode cX12_city 1 = .ok (.iconst 0, 1) := by decide +kernel
theorem dX12_city_2 : decode cX12_city 2 = .ok (.putfield 158, 3) := by decide +kernel
theorem dX12_city_5 : decode cX12_city 5 = .ok (.iload_n 1, 1) := by decide +kernel
theorem dX12_city_6 : decode cX12_city 6 = .ok (.ifCond .lt 11, 3) := by decide +kernel
theorem dX12_city_9 : decode cX12_city 9 = .ok (.iload_n 1, 1) := by decide +kernel
theorem dX12_city_10 : decode cX12_city 10 = .ok (.aload_n 0, 1) := by decide +kernel
theorem dX12_city_11 : decode cX12_city 11 = .ok (.getfield 167, 3) := by decide +kernel
theorem dX12_city_14 : decode cX12_city 14 = .ok (.if_icmp .le 9, 3) := by decide +kernel
theorem dX12_city_17 : decode cX12_city 17 = .ok (.aload_n 0, 1) := by decide +kernel
theorem dX12_city_18 : decode cX12_city 18 = .ok (.iconst 1, 1) := by decide +kernel
theorem dX12_city_19 : decode cX12_city 19 = .ok (.invokevirtual 312, 3) := by decide +kernel
theorem dX12_city_22 : decode cX12_city 22 = .ok (.ireturn, 1) := by decide +kernel
theorem dX12_city_23 : decode cX12_city 23 = .ok (.aload_n 0, 1) := by decide +kernel
theorem dX12_city_24 : decode cX12_city 24 = .ok (.iconst 0, 1) := by decide +kernel
theorem dX12_city_25 : decode cX12_city 25 = .ok (.putfield 167, 3) := by decide +kernel
theorem dX12_city_28 : decode cX12_city 28 = .ok (.aload_n 0, 1) := by decide +kernel
theorem dX12_city_29 : decode cX12_city 29 = .ok (.iload_n 1, 1) := by decide +kernel
theorem dX12_city_30 : decode cX12_city 30 = .ok (.putfield 170, 3) := by decide +kernel
theorem dX12_city_33 : decode cX12_city 33 = .ok (.aload_n 0, 1) := by decide +kernel
theorem dX12_city_34 : decode cX12_city 34 = .ok (.iconst 0, 1) := by decide +kernel
theorem dX12_city_35 : decode cX12_city 35 = .ok (.putfield 173, 3) := by decide +kernel
theorem dX12_city_38 : decode cX12_city 38 = .ok (.aload_n 0, 1) := by decide +kernel
theorem dX12_city_39 : decode cX12_city 39 = .ok (.iconst 0, 1) := by decide +kernel
theorem dX12_city_40 : decode cX12_city 40 = .ok (.putfield 209, 3) := by decide +kernel
theorem dX12_city_43 : decode cX12_city 43 = .ok (.aload_n 0, 1) := by decide +kernel
theorem dX12_city_44 : decode cX12_city 44 = .ok (.iconst (-1), 1) := by decide +kernel
theorem dX12_city_45 : decode cX12_city 45 = .ok (.putfield 66, 3) := by decide +kernel
theorem dX12_city_48 : decode cX12_city 48 = .ok (.iconst 0, 1) := by decide +kernel
theorem dX12_city_49 : decode cX12_city 49 = .ok (.istore_n 2, 1) := by decide +kernel
theorem dX12_city_50 : decode cX12_city 50 = .ok (.iload_n 2, 1) := by decide +kernel
theorem dX12_city_51 : decode cX12_city 51 = .ok (.bipush 6, 2) := by decide +kernel
theorem dX12_city_53 : decode cX12_city 53 = .ok (.if_icmp .ge 29, 3) := by decide +kernel
theorem dX12_city_56 : decode cX12_city 56 = .ok (.aload_n 0, 1) := by decide +kernel
theorem dX12_city_57 : decode cX12_city 57 = .ok (.getfield 33, 3) := by decide +kernel
theorem dX12_city_60 : decode cX12_city 60 = .ok (.bipush 6, 2) := by decide +kernel
theorem dX12_city_62 : decode cX12_city 62 = .ok (.iload_n 2, 1) := by decide +kernel
theorem dX12_city_63 : decode cX12_city 63 = .ok (.iadd, 1) := by decide +kernel
theorem dX12_city_64 : decode cX12_city 64 = .ok (.iload_n 2, 1) := by decide +kernel
theorem dX12_city_65 : decode cX12_city 65 = .ok (.iconst 3, 1) := by decide +kernel
theorem dX12_city_66 : decode cX12_city 66 = .ok (.if_icmp .ne 8, 3) := by decide +kernel
theorem dX12_city_69 : decode cX12_city 69 = .ok (.bipush 50, 2) := by decide +kernel
theorem dX12_city_71 : decode cX12_city 71 = .ok (.goto 4, 3) := by decide +kernel
theorem dX12_city_74 : decode cX12_city 74 = .ok (.iconst 0, 1) := by decide +kernel
theorem dX12_city_75 : decode cX12_city 75 = .ok (.iastore, 1) := by decide +kernel
theorem dX12_city_76 : decode cX12_city 76 = .ok (.iinc 2 1, 3) := by decide +kernel
theorem dX12_city_79 : decode cX12_city 79 = .ok (.goto (-29), 3) := by decide +kernel
theorem dX12_city_82 : decode cX12_city 82 = .ok (.iconst 0, 1) := by decide +kernel
theorem dX12_city_83 : decode cX12_city 83 = .ok (.istore_n 2, 1) := by decide +kernel
theorem dX12_city_84 : decode cX12_city 84 = .ok (.iload_n 2, 1) := by decide +kernel
theorem dX12_city_85 : decode cX12_city 85 = .ok (.bipush 6, 2) := by decide +kernel
theorem dX12_city_87 : decode cX12_city 87 = .ok (.if_icmp .ge 19, 3) := by decide +kernel
theorem dX12_city_90 : decode cX12_city 90 = .ok (.aload_n 0, 1) := by decide +kernel
theorem dX12_city_91 : decode cX12_city 91 = .ok (.getfield 37, 3) := by decide +kernel
theorem dX12_city_94 : decode cX12_city 94 = .ok (.bipush 6, 2) := by decide +kernel
theorem dX12_city_96 : decode cX12_city 96 = .ok (.iload_n 2, 1) := by decide +kernel
theorem dX12_city_97 : decode cX12_city 97 = .ok (.iadd, 1) := by decide +kernel
theorem dX12_city_98 : decode cX12_city 98 = .ok (.iconst 0, 1) := by decide +kernel
theorem dX12_city_99 : decode cX12_city 99 = .ok (.iastore, 1) := by decide +kernel
theorem dX12_city_100 : decode cX12_city 100 = .ok (.iinc 2 1, 3) := by decide +kernel
theorem dX12_city_103 : decode cX12_city 103 = .ok (.goto (-19), 3) := by decide +kernel
theorem dX12_city_106 : decode cX12_city 106 = .ok (.aload_n 0, 1) := by decide +kernel
theorem dX12_city_107 : decode cX12_city 107 = .ok (.invokevirtual 233, 3) := by decide +kernel
theorem dX12_city_110 : decode cX12_city 110 = .ok (.iconst 0, 1) := by decide +kernel
theorem dX12_city_111 : decode cX12_city 111 = .ok (.istore_n 2, 1) := by decide +kernel
theorem dX12_city_112 : decode cX12_city 112 = .ok (.aload_n 0, 1) := by decide +kernel
theorem dX12_city_113 : decode cX12_city 113 = .ok (.getfield 209, 3) := by decide +kernel
theorem dX12_city_116 : decode cX12_city 116 = .ok (.ifCond .ne 19, 3) := by decide +kernel
theorem dX12_city_119 : decode cX12_city 119 = .ok (.aload_n 0, 1) := by decide +kernel
theorem dX12_city_120 : decode cX12_city 120 = .ok (.getfield 183, 3) := by decide +kernel
theorem dX12_city_123 : decode cX12_city 123 = .ok (.ifCond .eq 12, 3) := by decide +kernel
theorem dX12_city_126 : decode cX12_city 126 = .ok (.aload_n 0, 1) := by decide +kernel
theorem dX12_city_127 : decode cX12_city 127 = .ok (.iload_n 2, 1) := by decide +kernel
theorem dX12_city_128 : decode cX12_city 128 = .ok (.invokevirtual 315, 3) := by decide +kernel
theorem dX12_city_131 : decode cX12_city 131 = .ok (.istore_n 2, 1) := by decide +kernel
theorem dX12_city_132 : decode cX12_city 132 = .ok (.goto (-20), 3) := by decide +kernel
theorem dX12_city_135 : decode cX12_city 135 = .ok (.aload_n 0, 1) := by decide +kernel
theorem dX12_city_136 : decode cX12_city 136 = .ok (.getfield 209, 3) := by decide +kernel
theorem dX12_city_139 : decode cX12_city 139 = .ok (.ifCond .eq 26, 3) := by decide +kernel
theorem dX12_city_142 : decode cX12_city 142 = .ok (.aload_n 0, 1) := by decide +kernel
theorem dX12_city_143 : decode cX12_city 143 = .ok (.aload_n 0, 1) := by decide +kernel
theorem dX12_city_144 : decode cX12_city 144 = .ok (.getfield 212, 3) := by decide +kernel
theorem dX12_city_147 : decode cX12_city 147 = .ok (.putfield 66, 3) := by decide +kernel
theorem dX12_city_150 : decode cX12_city 150 = .ok (.aload_n 0, 1) := by decide +kernel
theorem dX12_city_151 : decode cX12_city 151 = .ok (.getfield 60, 3) := by decide +kernel
theorem dX12_city_154 : decode cX12_city 154 = .ok (.iconst 0, 1) := by decide +kernel
