theorem dX9_init_0 : decode cX9_init 0 = .ok (.aload_n 0, 1) := by decide +kernel
theorem dX9_init_1 : decode cX9_init 1 = .ok (.invokespecial 1, 3) := by decide +kernel
theorem dX9_init_4 : decode cX9_init 4 = .ok (.aload_n 0, 1) := by decide +kernel
theorem dX9_init_5 : decode cX9_init 5 = .ok (.bipush 96, 2) := by decide +kernel
theorem dX9_init_7 : decode cX9_init 7 = .ok (.newarray .int, 2) := by decide +kernel
theorem dX9_init_9 : decode cX9_init 9 = .ok (.putfield 7, 3) := by decide +kernel
theorem dX9_init_12 : decode cX9_init 12 = .ok (.aload_n 0, 1) := by decide +kernel
theorem dX9_init_13 : decode cX9_init 13 = .ok (.bipush 16, 2) := by decide +kernel
theorem dX9_init_15 : decode cX9_init 15 = .ok (.newarray .boolean, 2) := by decide +kernel
theorem dX9_init_17 : decode cX9_init 17 = .ok (.putfield 13, 3) := by decide +kernel
theorem dX9_init_20 : decode cX9_init 20 = .ok (.aload_n 0, 1) := by decide +kernel
theorem dX9_init_21 : decode cX9_init 21 = .ok (.sipush 130, 3) := by decide +kernel
theorem dX9_init_24 : decode cX9_init 24 = .ok (.newarray .int, 2) := by decide +kernel
theorem dX9_init_26 : decode cX9_init 26 = .ok (.putfield 17, 3) := by decide +kernel
theorem dX9_init_29 : decode cX9_init 29 = .ok (.aload_n 0, 1) := by decide +kernel
theorem dX9_init_30 : decode cX9_init 30 = .ok (.sipush 130, 3) := by decide +kernel
theorem dX9_init_33 : decode cX9_init 33 = .ok (.newarray .int, 2) := by decide +kernel
theorem dX9_init_35 : decode cX9_init 35 = .ok (.putfield 20, 3) := by decide +kernel
theorem dX9_init_38 : decode cX9_init 38 = .ok (.aload_n 0, 1) := by decide +kernel
theorem dX9_init_39 : decode cX9_init 39 = .ok (.bipush 6, 2) := by decide +kernel
theorem dX9_init_41 : decode cX9_init 41 = .ok (.newarray .int, 2) := by decide +kernel
theorem dX9_init_43 : decode cX9_init 43 = .ok (.putfield 23, 3) := by decide +kernel
theorem dX9_init_46 : decode cX9_init 46 = .ok (.aload_n 0, 1) := by decide +kernel
theorem dX9_init_47 : decode cX9_init 47 = .ok (.bipush 6, 2) := by decide +kernel
theorem dX9_init_49 : decode cX9_init 49 = .ok (.newarray .int, 2) := by decide +kernel
theorem dX9_init_51 : decode cX9_init 51 = .ok (.putfield 26, 3) := by decide +kernel
theorem dX9_init_54 : decode cX9_init 54 = .ok (.aload_n 0, 1) := by decide +kernel
theorem dX9_init_55 : decode cX9_init 55 = .ok (.bipush 6, 2) := by decide +kernel
theorem dX9_init_57 : decode cX9_init 57 = .ok (.newarray .int, 2) := by decide +kernel
theorem dX9_init_59 : decode cX9_init 59 = .ok (.putfield 29, 3) := by decide +kernel
theorem dX9_init_62 : decode cX9_init 62 = .ok (.aload_n 0, 1) := by decide +kernel
theorem dX9_init_63 : decode cX9_init 63 = .ok (.sipush 400, 3) := by decide +kernel
theorem dX9_init_66 : decode cX9_init 66 = .ok (.newarray .int, 2) := by decide +kernel
theorem dX9_init_68 : decode cX9_init 68 = .ok (.putfield 32, 3) := by decide +kernel
theorem dX9_init_71 : decode cX9_init 71 = .ok (.aload_n 0, 1) := by decide +kernel
theorem dX9_init_72 : decode cX9_init 72 = .ok (.sipush 600, 3) := by decide +kernel
theorem dX9_init_75 : decode cX9_init 75 = .ok (.newarray .int, 2) := by decide +kernel
theorem dX9_init_77 : decode cX9_init 77 = .ok (.putfield 35, 3) := by decide +kernel
theorem dX9_init_80 : decode cX9_init 80 = .ok (.aload_n 0, 1) := by decide +kernel
theorem dX9_init_81 : decode cX9_init 81 = .ok (.bipush 36, 2) := by decide +kernel
theorem dX9_init_83 : decode cX9_init 83 = .ok (.newarray .int, 2) := by decide +kernel
theorem dX9_init_85 : decode cX9_init 85 = .ok (.putfield 38, 3) := by decide +kernel
theorem dX9_init_88 : decode cX9_init 88 = .ok (.aload_n 0, 1) := by decide +kernel
theorem dX9_init_89 : decode cX9_init 89 = .ok (.bipush 36, 2) := by decide +kernel
theorem dX9_init_91 : decode cX9_init 91 = .ok (.newarray .long, 2) := by decide +kernel
theorem dX9_init_93 : decode cX9_init 93 = .ok (.putfield 41, 3) := by decide +kernel
theorem dX9_init_96 : decode cX9_init 96 = .ok (.aload_n 0, 1) := by decide +kernel
theorem dX9_init_97 : decode cX9_init 97 = .ok (.sipush 150, 3) := by decide +kernel
theorem dX9_init_100 : decode cX9_init 100 = .ok (.newarray .int, 2) := by decide +kernel
theorem dX9_init_102 : decode cX9_init 102 = .ok (.putfield 45, 3) := by decide +kernel
theorem dX9_init_105 : decode cX9_init 105 = .ok (.aload_n 0, 1) := by decide +kernel
theorem dX9_init_106 : decode cX9_init 106 = .ok (.sipush 150, 3) := by decide +kernel
theorem dX9_init_109 : decode cX9_init 109 = .ok (.newarray .int, 2) := by decide +kernel
theorem dX9_init_111 : decode cX9_init 111 = .ok (.putfield 48, 3) := by decide +kernel
theorem dX9_init_114 : decode cX9_init 114 = .ok (.aload_n 0, 1) := by decide +kernel
theorem dX9_init_115 : decode cX9_init 115 = .ok (.sipush 150, 3) := by decide +kernel
theorem dX9_init_118 : decode cX9_init 118 = .ok (.newarray .int, 2) := by decide +kernel
theorem dX9_init_120 : decode cX9_init 120 = .ok (.putfield 51, 3) := by decide +kernel
theorem dX9_init_123 : decode cX9_init 123 = .ok (.aload_n 0, 1) := by decide +kernel
theorem dX9_init_124 : decode cX9_init 124 = .ok (.bipush 25, 2) := by decide +kernel
theorem dX9_init_126 : decode cX9_init 126 = .ok (.newarray .int, 2) := by decide +kernel
theorem dX9_init_128 : decode cX9_init 128 = .ok (.putfield 54, 3) := by decide +kernel
theorem dX9_init_131 : decode cX9_init 131 = .ok (.aload_n 0, 1) := by decide +kernel
theorem dX9_init_132 : decode cX9_init 132 = .ok (.sipush 150, 3) := by decide +kernel
theorem dX9_init_135 : decode cX9_init 135 = .ok (.newarray .int, 2) := by decide +kernel
theorem dX9_init_137 : decode cX9_init 137 = .ok (.putfield 57, 3) := by decide +kernel
theorem dX9_init_140 : decode cX9_init 140 = .ok (.aload_n 0, 1) := by decide +kernel
theorem dX9_init_141 : decode cX9_init 141 = .ok (.bipush 6, 2) := by decide +kernel
theorem dX9_init_143 : decode cX9_init 143 = .ok (.newarray .int, 2) := by decide +kernel
theorem dX9_init_145 : decode cX9_init 145 = .ok (.putfield 60, 3) := by decide +kernel
theorem dX9_init_148 : decode cX9_init 148 = .ok (.aload_n 0, 1) := by decide +kernel
theorem dX9_init_149 : decode cX9_init 149 = .ok (.bipush 6, 2) := by decide +kernel
theorem dX9_init_151 : decode cX9_init 151 = .ok (.newarray .int, 2) := by decide +kernel
theorem dX9_init_153 : decode cX9_init 153 = .ok (.putfield 63, 3) := by decide +kernel
theorem dX9_init_156 : decode cX9_init 156 = .ok (.return_, 1) := by decide +kernel
theorem dX9_status_0 : decode cX9_status 0 = .ok (.aload_n 0, 1) := by decide +kernel
theorem dX9_status_1 : decode cX9_status 1 = .ok (.getfield 66, 3) := by decide +kernel
theorem dX9_status_4 : decode cX9_status 4 = .ok (.ireturn, 1) := by decide +kernel
theorem dX9_refuse_0 : decode cX9_refuse 0 = .ok (.aload_n 0, 1) := by decide +kernel
theorem dX9_refuse_1 : decode cX9_refuse 1 = .ok (.iload_n 1, 1) := by decide +kernel
theorem dX9_refuse_2 : decode cX9_refuse 2 = .ok (.putfield 66, 3) := by decide +kernel
theorem dX9_refuse_5 : decode cX9_refuse 5 = .ok (.iload_n 1, 1) := by decide +kernel
theorem dX9_refuse_6 : decode cX9_refuse 6 = .ok (.ifCond .ne 7, 3) := by decide +kernel
theorem dX9_refuse_9 : decode cX9_refuse 9 = .ok (.iconst 1, 1) := by decide +kernel
theorem dX9_refuse_10 : decode cX9_refuse 10 = .ok (.goto 4, 3) := by decide +kernel
theorem dX9_refuse_13 : decode cX9_refuse 13 = .ok (.iconst 0, 1) := by decide +kernel
theorem dX9_refuse_14 : decode cX9_refuse 14 = .ok (.ireturn, 1) := by decide +kernel
theorem dX9_none_0 : decode cX9_none 0 = .ok (.aload_n 0, 1) := by decide +kernel
theorem dX9_none_1 : decode cX9_none 1 = .ok (.iload_n 1, 1) := by decide +kernel
theorem dX9_none_2 : decode cX9_none 2 = .ok (.putfield 66, 3) := by decide +kernel
theorem dX9_none_5 : decode cX9_none 5 = .ok (.iconst (-1), 1) := by decide +kernel
theorem dX9_none_6 : decode cX9_none 6 = .ok (.ireturn, 1) := by decide +kernel
theorem dX9_prime_0 : decode cX9_prime 0 = .ok (.iload_n 0, 1) := by decide +kernel
theorem dX9_prime_1 : decode cX9_prime 1 = .ok (.ifCond .ne 7, 3) := by decide +kernel
theorem dX9_prime_4 : decode cX9_prime 4 = .ok (.iconst 2, 1) := by decide +kernel
theorem dX9_prime_5 : decode cX9_prime 5 = .ok (.goto 43, 3) := by decide +kernel
theorem dX9_prime_8 : decode cX9_prime 8 = .ok (.iload_n 0, 1) := by decide +kernel
theorem dX9_prime_9 : decode cX9_prime 9 = .ok (.iconst 1, 1) := by decide +kernel
theorem dX9_prime_10 : decode cX9_prime 10 = .ok (.if_icmp .ne 7, 3) := by decide +kernel
theorem dX9_prime_13 : decode cX9_prime 13 = .ok (.iconst 3, 1) := by decide +kernel
theorem dX9_prime_14 : decode cX9_prime 14 = .ok (.goto 34, 3) := by decide +kernel
theorem dX9_prime_17 : decode cX9_prime 17 = .ok (.iload_n 0, 1) := by decide +kernel
theorem dX9_prime_18 : decode cX9_prime 18 = .ok (.iconst 2, 1) := by decide +kernel
theorem dX9_prime_19 : decode cX9_prime 19 = .ok (.if_icmp .ne 7, 3) := by decide +kernel
theorem dX9_prime_22 : decode cX9_prime 22 = .ok (.iconst 5, 1) := by decide +kernel
theorem dX9_prime_23 : decode cX9_prime 23 = .ok (.goto 25, 3) := by decide +kernel
theorem dX9_prime_26 : decode cX9_prime 26 = .ok (.iload_n 0, 1) := by decide +kernel
theorem dX9_prime_27 : decode cX9_prime 27 = .ok (.iconst 3, 1) := by decide +kernel
theorem dX9_prime_28 : decode cX9_prime 28 = .ok (.if_icmp .ne 8, 3) := by decide +kernel
theorem dX9_prime_31 : decode cX9_prime 31 = .ok (.bipush 7, 2) := by decide +kernel
theorem dX9_prime_33 : decode cX9_prime 33 = .ok (.goto 15, 3) := by decide +kernel
theorem dX9_prime_36 : decode cX9_prime 36 = .ok (.iload_n 0, 1) := by decide +kernel
theorem dX9_prime_37 : decode cX9_prime 37 = .ok (.iconst 4, 1) := by decide +kernel
theorem dX9_prime_38 : decode cX9_prime 38 = .ok (.if_icmp .ne 8, 3) := by decide +kernel
theorem dX9_prime_41 : decode cX9_prime 41 = .ok (.bipush 11, 2) := by decide +kernel
theorem dX9_prime_43 : decode cX9_prime 43 = .ok (.goto 5, 3) := by decide +kernel
theorem dX9_prime_46 : decode cX9_prime 46 = .ok (.bipush 13, 2) := by decide +kernel
theorem dX9_prime_48 : decode cX9_prime 48 = .ok (.ireturn, 1) := by decide +kernel
theorem dX9_isShelf_0 : decode cX9_isShelf 0 = .ok (.iload_n 0, 1) := by decide +kernel
theorem dX9_isShelf_1 : decode cX9_isShelf 1 = .ok (.ifCond .lt 13, 3) := by decide +kernel
theorem dX9_isShelf_4 : decode cX9_isShelf 4 = .ok (.iload_n 0, 1) := by decide +kernel
theorem dX9_isShelf_5 : decode cX9_isShelf 5 = .ok (.bipush 16, 2) := by decide +kernel
theorem dX9_isShelf_7 : decode cX9_isShelf 7 = .ok (.if_icmp .ge 7, 3) := by decide +kernel
theorem dX9_isShelf_10 : decode cX9_isShelf 10 = .ok (.iconst 1, 1) := by decide +kernel
theorem dX9_isShelf_11 : decode cX9_isShelf 11 = .ok (.goto 4, 3) := by decide +kernel
theorem dX9_isShelf_14 : decode cX9_isShelf 14 = .ok (.iconst 0, 1) := by decide +kernel
theorem dX9_isShelf_15 : decode cX9_isShelf 15 = .ok (.ireturn, 1) := by decide +kernel
theorem dX9_multiply_0 : decode cX9_multiply 0 = .ok (.lconst 0, 1) := by decide +kernel
theorem dX9_multiply_1 : decode cX9_multiply 1 = .ok (.lstore_n 3, 1) := by decide +kernel
theorem dX9_multiply_2 : decode cX9_multiply 2 = .ok (.iconst 0, 1) := by decide +kernel
theorem dX9_multiply_3 : decode cX9_multiply 3 = .ok (.istore 5, 2) := by decide +kernel
theorem dX9_multiply_5 : decode cX9_multiply 5 = .ok (.iload 5, 2) := by decide +kernel
theorem dX9_multiply_7 : decode cX9_multiply 7 = .ok (.iload_n 1, 1) := by decide +kernel
theorem dX9_multiply_8 : decode cX9_multiply 8 = .ok (.if_icmp .ge 39, 3) := by decide +kernel
theorem dX9_multiply_11 : decode cX9_multiply 11 = .ok (.aload_n 0, 1) := by decide +kernel
theorem dX9_multiply_12 : decode cX9_multiply 12 = .ok (.iload 5, 2) := by decide +kernel
theorem dX9_multiply_14 : decode cX9_multiply 14 = .ok (.iaload, 1) := by decide +kernel
theorem dX9_multiply_15 : decode cX9_multiply 15 = .ok (.i2l, 1) := by decide +kernel
theorem dX9_multiply_16 : decode cX9_multiply 16 = .ok (.iload_n 2, 1) := by decide +kernel
theorem dX9_multiply_17 : decode cX9_multiply 17 = .ok (.i2l, 1) := by decide +kernel
theorem dX9_multiply_18 : decode cX9_multiply 18 = .ok (.lmul, 1) := by decide +kernel
theorem dX9_multiply_19 : decode cX9_multiply 19 = .ok (.lload_n 3, 1) := by decide +kernel
theorem dX9_multiply_20 : decode cX9_multiply 20 = .ok (.ladd, 1) := by decide +kernel
theorem dX9_multiply_21 : decode cX9_multiply 21 = .ok (.lstore 6, 2) := by decide +kernel
theorem dX9_multiply_23 : decode cX9_multiply 23 = .ok (.aload_n 0, 1) := by decide +kernel
theorem dX9_multiply_24 : decode cX9_multiply 24 = .ok (.iload 5, 2) := by decide +kernel
theorem dX9_multiply_26 : decode cX9_multiply 26 = .ok (.lload 6, 2) := by decide +kernel
theorem dX9_multiply_28 : decode cX9_multiply 28 = .ok (.ldc2_w 70, 3) := by decide +kernel
theorem dX9_multiply_31 : decode cX9_multiply 31 = .ok (.lrem, 1) := by decide +kernel
theorem dX9_multiply_32 : decode cX9_multiply 32 = .ok (.l2i, 1) := by decide +kernel
theorem dX9_multiply_33 : decode cX9_multiply 33 = .ok (.iastore, 1) := by decide +kernel
theorem dX9_multiply_34 : decode cX9_multiply 34 = .ok (.lload 6, 2) := by decide +kernel
theorem dX9_multiply_36 : decode cX9_multiply 36 = .ok (.ldc2_w 70, 3) := by decide +kernel
theorem dX9_multiply_39 : decode cX9_multiply 39 = .ok (.ldiv, 1) := by decide +kernel
theorem dX9_multiply_40 : decode cX9_multiply 40 = .ok (.lstore_n 3, 1) := by decide +kernel
theorem dX9_multiply_41 : decode cX9_multiply 41 = .ok (.iinc 5 1, 3) := by decide +kernel
theorem dX9_multiply_44 : decode cX9_multiply 44 = .ok (.goto (-39), 3) := by decide +kernel
theorem dX9_multiply_47 : decode cX9_multiply 47 = .ok (.lload_n 3, 1) := by decide +kernel
theorem dX9_multiply_48 : decode cX9_multiply 48 = .ok (.lconst 0, 1) := by decide +kernel
theorem dX9_multiply_49 : decode cX9_multiply 49 = .ok (.lcmp, 1) := by decide +kernel
theorem dX9_multiply_50 : decode cX9_multiply 50 = .ok (.ifCond .ne 5, 3) := by decide +kernel
theorem dX9_multiply_53 : decode cX9_multiply 53 = .ok (.iload_n 1, 1) := by decide +kernel
theorem dX9_multiply_54 : decode cX9_multiply 54 = .ok (.ireturn, 1) := by decide +kernel
theorem dX9_multiply_55 : decode cX9_multiply 55 = .ok (.aload_n 0, 1) := by decide +kernel
theorem dX9_multiply_56 : decode cX9_multiply 56 = .ok (.iload_n 1, 1) := by decide +kernel
theorem dX9_multiply_57 : decode cX9_multiply 57 = .ok (.lload_n 3, 1) := by decide +kernel
theorem dX9_multiply_58 : decode cX9_multiply 58 = .ok (.l2i, 1) := by decide +kernel
theorem dX9_multiply_59 : decode cX9_multiply 59 = .ok (.iastore, 1) := by decide +kernel
theorem dX9_multiply_60 : decode cX9_multiply 60 = .ok (.iload_n 1, 1) := by decide +kernel
theorem dX9_multiply_61 : decode cX9_multiply 61 = .ok (.iconst 1, 1) := by decide +kernel
theorem dX9_multiply_62 : decode cX9_multiply 62 = .ok (.iadd, 1) := by decide +kernel
theorem dX9_multiply_63 : decode cX9_multiply 63 = .ok (.ireturn, 1) := by decide +kernel
theorem dX9_products_0 : decode cX9_products 0 = .ok (.aload_n 0, 1) := by decide +kernel
theorem dX9_products_1 : decode cX9_products 1 = .ok (.getfield 17, 3) := by decide +kernel
theorem dX9_products_4 : decode cX9_products 4 = .ok (.iconst 0, 1) := by decide +kernel
theorem dX9_products_5 : decode cX9_products 5 = .ok (.iconst 1, 1) := by decide +kernel
theorem dX9_products_6 : decode cX9_products 6 = .ok (.iastore, 1) := by decide +kernel
theorem dX9_products_7 : decode cX9_products 7 = .ok (.aload_n 0, 1) := by decide +kernel
theorem dX9_products_8 : decode cX9_products 8 = .ok (.getfield 20, 3) := by decide +kernel
theorem dX9_products_11 : decode cX9_products 11 = .ok (.iconst 0, 1) := by decide +kernel
theorem dX9_products_12 : decode cX9_products 12 = .ok (.iconst 1, 1) := by decide +kernel
theorem dX9_products_13 : decode cX9_products 13 = .ok (.iastore, 1) := by decide +kernel
theorem dX9_products_14 : decode cX9_products 14 = .ok (.aload_n 0, 1) := by decide +kernel
theorem dX9_products_15 : decode cX9_products 15 = .ok (.iconst 1, 1) := by decide +kernel
theorem dX9_products_16 : decode cX9_products 16 = .ok (.putfield 72, 3) := by decide +kernel
theorem dX9_products_19 : decode cX9_products 19 = .ok (.aload_n 0, 1) := by decide +kernel
theorem dX9_products_20 : decode cX9_products 20 = .ok (.iconst 1, 1) := by decide +kernel
theorem dX9_products_21 : decode cX9_products 21 = .ok (.putfield 75, 3) := by decide +kernel
theorem dX9_products_24 : decode cX9_products 24 = .ok (.iconst 0, 1) := by decide +kernel
theorem dX9_products_25 : decode cX9_products 25 = .ok (.istore_n 1, 1) := by decide +kernel
theorem dX9_products_26 : decode cX9_products 26 = .ok (.iload_n 1, 1) := by decide +kernel
theorem dX9_products_27 : decode cX9_products 27 = .ok (.bipush 6, 2) := by decide +kernel
theorem dX9_products_29 : decode cX9_products 29 = .ok (.if_icmp .ge 83, 3) := by decide +kernel
theorem dX9_products_32 : decode cX9_products 32 = .ok (.iconst 0, 1) := by decide +kernel
theorem dX9_products_33 : decode cX9_products 33 = .ok (.istore_n 2, 1) := by decide +kernel
theorem dX9_products_34 : decode cX9_products 34 = .ok (.iload_n 2, 1) := by decide +kernel
theorem dX9_products_35 : decode cX9_products 35 = .ok (.aload_n 0, 1) := by decide +kernel
theorem dX9_products_36 : decode cX9_products 36 = .ok (.getfield 23, 3) := by decide +kernel
theorem dX9_products_39 : decode cX9_products 39 = .ok (.iload_n 1, 1) := by decide +kernel
theorem dX9_products_40 : decode cX9_products 40 = .ok (.iaload, 1) := by decide +kernel
theorem dX9_products_41 : decode cX9_products 41 = .ok (.if_icmp .ge 28, 3) := by decide +kernel
theorem dX9_products_44 : decode cX9_products 44 = .ok (.aload_n 0, 1) := by decide +kernel
theorem dX9_products_45 : decode cX9_products 45 = .ok (.aload_n 0, 1) := by decide +kernel
theorem dX9_products_46 : decode cX9_products 46 = .ok (.getfield 17, 3) := by decide +kernel
theorem dX9_products_49 : decode cX9_products 49 = .ok (.aload_n 0, 1) := by decide +kernel
theorem dX9_products_50 : decode cX9_products 50 = .ok (.getfield 72, 3) := by decide +kernel
theorem dX9_products_53 : decode cX9_products 53 = .ok (.iload_n 1, 1) := by decide +kernel
theorem dX9_products_54 : decode cX9_products 54 = .ok (.invokestatic 78, 3) := by decide +kernel
theorem dX9_products_57 : decode cX9_products 57 = .ok (.invokestatic 82, 3) := by decide +kernel
theorem dX9_products_60 : decode cX9_products 60 = .ok (.putfield 72, 3) := by decide +kernel
theorem dX9_products_63 : decode cX9_products 63 = .ok (.iinc 2 1, 3) := by decide +kernel
theorem dX9_products_66 : decode cX9_products 66 = .ok (.goto (-32), 3) := by decide +kernel
theorem dX9_products_69 : decode cX9_products 69 = .ok (.iconst 0, 1) := by decide +kernel
theorem dX9_products_70 : decode cX9_products 70 = .ok (.istore_n 2, 1) := by decide +kernel
theorem dX9_products_71 : decode cX9_products 71 = .ok (.iload_n 2, 1) := by decide +kernel
theorem dX9_products_72 : decode cX9_products 72 = .ok (.aload_n 0, 1) := by decide +kernel
theorem dX9_products_73 : decode cX9_products 73 = .ok (.getfield 23, 3) := by decide +kernel
theorem dX9_products_76 : decode cX9_products 76 = .ok (.iload_n 1, 1) := by decide +kernel
theorem dX9_products_77 : decode cX9_products 77 = .ok (.iaload, 1) := by decide +kernel
theorem dX9_products_78 : decode cX9_products 78 = .ok (.if_icmp .le 28, 3) := by decide +kernel
theorem dX9_products_81 : decode cX9_products 81 = .ok (.aload_n 0, 1) := by decide +kernel
theorem dX9_products_82 : decode cX9_products 82 = .ok (.aload_n 0, 1) := by decide +kernel
theorem dX9_products_83 : decode cX9_products 83 = .ok (.getfield 20, 3) := by decide +kernel
theorem dX9_products_86 : decode cX9_products 86 = .ok (.aload_n 0, 1) := by decide +kernel
theorem dX9_products_87 : decode cX9_products 87 = .ok (.getfield 75, 3) := by decide +kernel
theorem dX9_products_90 : decode cX9_products 90 = .ok (.iload_n 1, 1) := by decide +kernel
theorem dX9_products_91 : decode cX9_products 91 = .ok (.invokestatic 78, 3) := by decide +kernel
theorem dX9_products_94 : decode cX9_products 94 = .ok (.invokestatic 82, 3) := by decide +kernel
theorem dX9_products_97 : decode cX9_products 97 = .ok (.putfield 75, 3) := by decide +kernel
theorem dX9_products_100 : decode cX9_products 100 = .ok (.iinc 2 (-1), 3) := by decide +kernel
theorem dX9_products_103 : decode cX9_products 103 = .ok (.goto (-32), 3) := by decide +kernel
theorem dX9_products_106 : decode cX9_products 106 = .ok (.iinc 1 1, 3) := by decide +kernel
theorem dX9_products_109 : decode cX9_products 109 = .ok (.goto (-83), 3) := by decide +kernel
theorem dX9_products_112 : decode cX9_products 112 = .ok (.return_, 1) := by decide +kernel
theorem dX9_sign_0 : decode cX9_sign 0 = .ok (.iconst 1, 1) := by decide +kernel
theorem dX9_sign_1 : decode cX9_sign 1 = .ok (.istore_n 1, 1) := by decide +kernel
theorem dX9_sign_2 : decode cX9_sign 2 = .ok (.iconst 0, 1) := by decide +kernel
theorem dX9_sign_3 : decode cX9_sign 3 = .ok (.istore_n 2, 1) := by decide +kernel
theorem dX9_sign_4 : decode cX9_sign 4 = .ok (.iload_n 2, 1) := by decide +kernel
theorem dX9_sign_5 : decode cX9_sign 5 = .ok (.bipush 6, 2) := by decide +kernel
theorem dX9_sign_7 : decode cX9_sign 7 = .ok (.if_icmp .ge 28, 3) := by decide +kernel
theorem dX9_sign_10 : decode cX9_sign 10 = .ok (.iload_n 1, 1) := by decide +kernel
theorem dX9_sign_11 : decode cX9_sign 11 = .ok (.ifCond .eq 16, 3) := by decide +kernel
theorem dX9_sign_14 : decode cX9_sign 14 = .ok (.aload_n 0, 1) := by decide +kernel
theorem dX9_sign_15 : decode cX9_sign 15 = .ok (.getfield 23, 3) := by decide +kernel
theorem dX9_sign_18 : decode cX9_sign 18 = .ok (.iload_n 2, 1) := by decide +kernel
theorem dX9_sign_19 : decode cX9_sign 19 = .ok (.iaload, 1) := by decide +kernel
theorem dX9_sign_20 : decode cX9_sign 20 = .ok (.ifCond .ne 7, 3) := by decide +kernel
theorem dX9_sign_23 : decode cX9_sign 23 = .ok (.iconst 1, 1) := by decide +kernel
theorem dX9_sign_24 : decode cX9_sign 24 = .ok (.goto 4, 3) := by decide +kernel
theorem dX9_sign_27 : decode cX9_sign 27 = .ok (.iconst 0, 1) := by decide +kernel
theorem dX9_sign_28 : decode cX9_sign 28 = .ok (.istore_n 1, 1) := by decide +kernel
theorem dX9_sign_29 : decode cX9_sign 29 = .ok (.iinc 2 1, 3) := by decide +kernel
theorem dX9_sign_32 : decode cX9_sign 32 = .ok (.goto (-28), 3) := by decide +kernel
theorem dX9_sign_35 : decode cX9_sign 35 = .ok (.iload_n 1, 1) := by decide +kernel
theorem dX9_sign_36 : decode cX9_sign 36 = .ok (.ifCond .eq 5, 3) := by decide +kernel
theorem dX9_sign_39 : decode cX9_sign 39 = .ok (.iconst 0, 1) := by decide +kernel
theorem dX9_sign_40 : decode cX9_sign 40 = .ok (.ireturn, 1) := by decide +kernel
theorem dX9_sign_41 : decode cX9_sign 41 = .ok (.aload_n 0, 1) := by decide +kernel
theorem dX9_sign_42 : decode cX9_sign 42 = .ok (.invokevirtual 86, 3) := by decide +kernel
theorem dX9_sign_45 : decode cX9_sign 45 = .ok (.aload_n 0, 1) := by decide +kernel
theorem dX9_sign_46 : decode cX9_sign 46 = .ok (.getfield 72, 3) := by decide +kernel
theorem dX9_sign_49 : decode cX9_sign 49 = .ok (.aload_n 0, 1) := by decide +kernel
theorem dX9_sign_50 : decode cX9_sign 50 = .ok (.getfield 75, 3) := by decide +kernel
theorem dX9_sign_53 : decode cX9_sign 53 = .ok (.if_icmp .eq 20, 3) := by decide +kernel
theorem dX9_sign_56 : decode cX9_sign 56 = .ok (.aload_n 0, 1) := by decide +kernel
theorem dX9_sign_57 : decode cX9_sign 57 = .ok (.getfield 72, 3) := by decide +kernel
theorem dX9_sign_60 : decode cX9_sign 60 = .ok (.aload_n 0, 1) := by decide +kernel
theorem dX9_sign_61 : decode cX9_sign 61 = .ok (.getfield 75, 3) := by decide +kernel
theorem dX9_sign_64 : decode cX9_sign 64 = .ok (.if_icmp .le 7, 3) := by decide +kernel
theorem dX9_sign_67 : decode cX9_sign 67 = .ok (.iconst 1, 1) := by decide +kernel
theorem dX9_sign_68 : decode cX9_sign 68 = .ok (.goto 4, 3) := by decide +kernel
theorem dX9_sign_71 : decode cX9_sign 71 = .ok (.iconst (-1), 1) := by decide +kernel
theorem dX9_sign_72 : decode cX9_sign 72 = .ok (.ireturn, 1) := by decide +kernel
theorem dX9_sign_73 : decode cX9_sign 73 = .ok (.aload_n 0, 1) := by decide +kernel
theorem dX9_sign_74 : decode cX9_sign 74 = .ok (.getfield 72, 3) := by decide +kernel
theorem dX9_sign_77 : decode cX9_sign 77 = .ok (.iconst 1, 1) := by decide +kernel
theorem dX9_sign_78 : decode cX9_sign 78 = .ok (.isub, 1) := by decide +kernel
theorem dX9_sign_79 : decode cX9_sign 79 = .ok (.istore_n 2, 1) := by decide +kernel
theorem dX9_sign_80 : decode cX9_sign 80 = .ok (.iload_n 2, 1) := by decide +kernel
theorem dX9_sign_81 : decode cX9_sign 81 = .ok (.ifCond .lt 45, 3) := by decide +kernel
theorem dX9_sign_84 : decode cX9_sign 84 = .ok (.aload_n 0, 1) := by decide +kernel
theorem dX9_sign_85 : decode cX9_sign 85 = .ok (.getfield 17, 3) := by decide +kernel
theorem dX9_sign_88 : decode cX9_sign 88 = .ok (.iload_n 2, 1) := by decide +kernel
theorem dX9_sign_89 : decode cX9_sign 89 = .ok (.iaload, 1) := by decide +kernel
theorem dX9_sign_90 : decode cX9_sign 90 = .ok (.aload_n 0, 1) := by decide +kernel
theorem dX9_sign_91 : decode cX9_sign 91 = .ok (.getfield 20, 3) := by decide +kernel
theorem dX9_sign_94 : decode cX9_sign 94 = .ok (.iload_n 2, 1) := by decide +kernel
theorem dX9_sign_95 : decode cX9_sign 95 = .ok (.iaload, 1) := by decide +kernel
theorem dX9_sign_96 : decode cX9_sign 96 = .ok (.if_icmp .eq 24, 3) := by decide +kernel
theorem dX9_sign_99 : decode cX9_sign 99 = .ok (.aload_n 0, 1) := by decide +kernel
theorem dX9_sign_100 : decode cX9_sign 100 = .ok (.getfield 17, 3) := by decide +kernel
theorem dX9_sign_103 : decode cX9_sign 103 = .ok (.iload_n 2, 1) := by decide +kernel
theorem dX9_sign_104 : decode cX9_sign 104 = .ok (.iaload, 1) := by decide +kernel
theorem dX9_sign_105 : decode cX9_sign 105 = .ok (.aload_n 0, 1) := by decide +kernel
theorem dX9_sign_106 : decode cX9_sign 106 = .ok (.getfield 20, 3) := by decide +kernel
theorem dX9_sign_109 : decode cX9_sign 109 = .ok (.iload_n 2, 1) := by decide +kernel
theorem dX9_sign_110 : decode cX9_sign 110 = .ok (.iaload, 1) := by decide +kernel
theorem dX9_sign_111 : decode cX9_sign 111 = .ok (.if_icmp .le 7, 3) := by decide +kernel
theorem dX9_sign_114 : decode cX9_sign 114 = .ok (.iconst 1, 1) := by decide +kernel
theorem dX9_sign_115 : decode cX9_sign 115 = .ok (.goto 4, 3) := by decide +kernel
theorem dX9_sign_118 : decode cX9_sign 118 = .ok (.iconst (-1), 1) := by decide +kernel
theorem dX9_sign_119 : decode cX9_sign 119 = .ok (.ireturn, 1) := by decide +kernel
theorem dX9_sign_120 : decode cX9_sign 120 = .ok (.iinc 2 (-1), 3) := by decide +kernel
theorem dX9_sign_123 : decode cX9_sign 123 = .ok (.goto (-43), 3) := by decide +kernel
theorem dX9_sign_126 : decode cX9_sign 126 = .ok (.iconst 0, 1) := by decide +kernel
theorem dX9_sign_127 : decode cX9_sign 127 = .ok (.ireturn, 1) := by decide +kernel
theorem dX9_hold_0 : decode cX9_hold 0 = .ok (.iconst 0, 1) := by decide +kernel
theorem dX9_hold_1 : decode cX9_hold 1 = .ok (.istore_n 3, 1) := by decide +kernel
theorem dX9_hold_2 : decode cX9_hold 2 = .ok (.iload_n 3, 1) := by decide +kernel
theorem dX9_hold_3 : decode cX9_hold 3 = .ok (.bipush 6, 2) := by decide +kernel
theorem dX9_hold_5 : decode cX9_hold 5 = .ok (.if_icmp .ge 20, 3) := by decide +kernel
theorem dX9_hold_8 : decode cX9_hold 8 = .ok (.aload_n 0, 1) := by decide +kernel
theorem dX9_hold_9 : decode cX9_hold 9 = .ok (.getfield 23, 3) := by decide +kernel
theorem dX9_hold_12 : decode cX9_hold 12 = .ok (.iload_n 3, 1) := by decide +kernel
theorem dX9_hold_13 : decode cX9_hold 13 = .ok (.aload_n 1, 1) := by decide +kernel
theorem dX9_hold_14 : decode cX9_hold 14 = .ok (.iload_n 2, 1) := by decide +kernel
theorem dX9_hold_15 : decode cX9_hold 15 = .ok (.iload_n 3, 1) := by decide +kernel
theorem dX9_hold_16 : decode cX9_hold 16 = .ok (.iadd, 1) := by decide +kernel
theorem dX9_hold_17 : decode cX9_hold 17 = .ok (.iaload, 1) := by decide +kernel
theorem dX9_hold_18 : decode cX9_hold 18 = .ok (.iastore, 1) := by decide +kernel
theorem dX9_hold_19 : decode cX9_hold 19 = .ok (.iinc 3 1, 3) := by decide +kernel
theorem dX9_hold_22 : decode cX9_hold 22 = .ok (.goto (-20), 3) := by decide +kernel
theorem dX9_hold_25 : decode cX9_hold 25 = .ok (.return_, 1) := by decide +kernel
theorem dX9_give_0 : decode cX9_give 0 = .ok (.iconst 0, 1) := by decide +kernel
theorem dX9_give_1 : decode cX9_give 1 = .ok (.istore_n 3, 1) := by decide +kernel
theorem dX9_give_2 : decode cX9_give 2 = .ok (.iload_n 3, 1) := by decide +kernel
theorem dX9_give_3 : decode cX9_give 3 = .ok (.bipush 6, 2) := by decide +kernel
theorem dX9_give_5 : decode cX9_give 5 = .ok (.if_icmp .ge 20, 3) := by decide +kernel
theorem dX9_give_8 : decode cX9_give 8 = .ok (.aload_n 1, 1) := by decide +kernel
theorem dX9_give_9 : decode cX9_give 9 = .ok (.iload_n 2, 1) := by decide +kernel
theorem dX9_give_10 : decode cX9_give 10 = .ok (.iload_n 3, 1) := by decide +kernel
theorem dX9_give_11 : decode cX9_give 11 = .ok (.iadd, 1) := by decide +kernel
theorem dX9_give_12 : decode cX9_give 12 = .ok (.aload_n 0, 1) := by decide +kernel
theorem dX9_give_13 : decode cX9_give 13 = .ok (.getfield 23, 3) := by decide +kernel
theorem dX9_give_16 : decode cX9_give 16 = .ok (.iload_n 3, 1) := by decide +kernel
theorem dX9_give_17 : decode cX9_give 17 = .ok (.iaload, 1) := by decide +kernel
theorem dX9_give_18 : decode cX9_give 18 = .ok (.iastore, 1) := by decide +kernel
theorem dX9_give_19 : decode cX9_give 19 = .ok (.iinc 3 1, 3) := by decide +kernel
theorem dX9_give_22 : decode cX9_give 22 = .ok (.goto (-20), 3) := by decide +kernel
theorem dX9_give_25 : decode cX9_give 25 = .ok (.return_, 1) := by decide +kernel
theorem dX9_less_0 : decode cX9_less 0 = .ok (.iconst 0, 1) := by decide +kernel
theorem dX9_less_1 : decode cX9_less 1 = .ok (.istore_n 3, 1) := by decide +kernel
theorem dX9_less_2 : decode cX9_less 2 = .ok (.iload_n 3, 1) := by decide +kernel
theorem dX9_less_3 : decode cX9_less 3 = .ok (.bipush 6, 2) := by decide +kernel
theorem dX9_less_5 : decode cX9_less 5 = .ok (.if_icmp .ge 23, 3) := by decide +kernel
theorem dX9_less_8 : decode cX9_less 8 = .ok (.aload_n 0, 1) := by decide +kernel
theorem dX9_less_9 : decode cX9_less 9 = .ok (.getfield 23, 3) := by decide +kernel
theorem dX9_less_12 : decode cX9_less 12 = .ok (.iload_n 3, 1) := by decide +kernel
theorem dX9_less_13 : decode cX9_less 13 = .ok (.dup2, 1) := by decide +kernel
theorem dX9_less_14 : decode cX9_less 14 = .ok (.iaload, 1) := by decide +kernel
theorem dX9_less_15 : decode cX9_less 15 = .ok (.aload_n 1, 1) := by decide +kernel
theorem dX9_less_16 : decode cX9_less 16 = .ok (.iload_n 2, 1) := by decide +kernel
theorem dX9_less_17 : decode cX9_less 17 = .ok (.iload_n 3, 1) := by decide +kernel
theorem dX9_less_18 : decode cX9_less 18 = .ok (.iadd, 1) := by decide +kernel
theorem dX9_less_19 : decode cX9_less 19 = .ok (.iaload, 1) := by decide +kernel
theorem dX9_less_20 : decode cX9_less 20 = .ok (.isub, 1) := by decide +kernel
theorem dX9_less_21 : decode cX9_less 21 = .ok (.iastore, 1) := by decide +kernel
theorem dX9_less_22 : decode cX9_less 22 = .ok (.iinc 3 1, 3) := by decide +kernel
theorem dX9_less_25 : decode cX9_less 25 = .ok (.goto (-23), 3) := by decide +kernel
theorem dX9_less_28 : decode cX9_less 28 = .ok (.return_, 1) := by decide +kernel
theorem dX9_isFar_0 : decode cX9_isFar 0 = .ok (.iconst 0, 1) := by decide +kernel
theorem dX9_isFar_1 : decode cX9_isFar 1 = .ok (.istore_n 1, 1) := by decide +kernel
theorem dX9_isFar_2 : decode cX9_isFar 2 = .ok (.iconst 0, 1) := by decide +kernel
theorem dX9_isFar_3 : decode cX9_isFar 3 = .ok (.istore_n 2, 1) := by decide +kernel
theorem dX9_isFar_4 : decode cX9_isFar 4 = .ok (.iload_n 2, 1) := by decide +kernel
theorem dX9_isFar_5 : decode cX9_isFar 5 = .ok (.bipush 6, 2) := by decide +kernel
theorem dX9_isFar_7 : decode cX9_isFar 7 = .ok (.if_icmp .ge 41, 3) := by decide +kernel
theorem dX9_isFar_10 : decode cX9_isFar 10 = .ok (.iload_n 1, 1) := by decide +kernel
theorem dX9_isFar_11 : decode cX9_isFar 11 = .ok (.ifCond .ne 25, 3) := by decide +kernel
theorem dX9_isFar_14 : decode cX9_isFar 14 = .ok (.aload_n 0, 1) := by decide +kernel
theorem dX9_isFar_15 : decode cX9_isFar 15 = .ok (.getfield 23, 3) := by decide +kernel
theorem dX9_isFar_18 : decode cX9_isFar 18 = .ok (.iload_n 2, 1) := by decide +kernel
theorem dX9_isFar_19 : decode cX9_isFar 19 = .ok (.iaload, 1) := by decide +kernel
theorem dX9_isFar_20 : decode cX9_isFar 20 = .ok (.bipush (-24), 2) := by decide +kernel
theorem dX9_isFar_22 : decode cX9_isFar 22 = .ok (.if_icmp .lt 14, 3) := by decide +kernel
theorem dX9_isFar_25 : decode cX9_isFar 25 = .ok (.aload_n 0, 1) := by decide +kernel
theorem dX9_isFar_26 : decode cX9_isFar 26 = .ok (.getfield 23, 3) := by decide +kernel
theorem dX9_isFar_29 : decode cX9_isFar 29 = .ok (.iload_n 2, 1) := by decide +kernel
theorem dX9_isFar_30 : decode cX9_isFar 30 = .ok (.iaload, 1) := by decide +kernel
theorem dX9_isFar_31 : decode cX9_isFar 31 = .ok (.bipush 24, 2) := by decide +kernel
theorem dX9_isFar_33 : decode cX9_isFar 33 = .ok (.if_icmp .le 7, 3) := by decide +kernel
theorem dX9_isFar_36 : decode cX9_isFar 36 = .ok (.iconst 1, 1) := by decide +kernel
theorem dX9_isFar_37 : decode cX9_isFar 37 = .ok (.goto 4, 3) := by decide +kernel
theorem dX9_isFar_40 : decode cX9_isFar 40 = .ok (.iconst 0, 1) := by decide +kernel
theorem dX9_isFar_41 : decode cX9_isFar 41 = .ok (.istore_n 1, 1) := by decide +kernel
theorem dX9_isFar_42 : decode cX9_isFar 42 = .ok (.iinc 2 1, 3) := by decide +kernel
theorem dX9_isFar_45 : decode cX9_isFar 45 = .ok (.goto (-41), 3) := by decide +kernel
theorem dX9_isFar_48 : decode cX9_isFar 48 = .ok (.iload_n 1, 1) := by decide +kernel
theorem dX9_isFar_49 : decode cX9_isFar 49 = .ok (.ireturn, 1) := by decide +kernel
theorem dX9_compare_0 : decode cX9_compare 0 = .ok (.aload_n 0, 1) := by decide +kernel
theorem dX9_compare_1 : decode cX9_compare 1 = .ok (.aload_n 1, 1) := by decide +kernel
theorem dX9_compare_2 : decode cX9_compare 2 = .ok (.iload_n 2, 1) := by decide +kernel
theorem dX9_compare_3 : decode cX9_compare 3 = .ok (.invokevirtual 89, 3) := by decide +kernel
theorem dX9_compare_6 : decode cX9_compare 6 = .ok (.aload_n 0, 1) := by decide +kernel
theorem dX9_compare_7 : decode cX9_compare 7 = .ok (.aload_n 3, 1) := by decide +kernel
theorem dX9_compare_8 : decode cX9_compare 8 = .ok (.iload 4, 2) := by decide +kernel
theorem dX9_compare_10 : decode cX9_compare 10 = .ok (.invokevirtual 93, 3) := by decide +kernel
theorem dX9_compare_13 : decode cX9_compare 13 = .ok (.aload_n 0, 1) := by decide +kernel
theorem dX9_compare_14 : decode cX9_compare 14 = .ok (.invokevirtual 96, 3) := by decide +kernel
theorem dX9_compare_17 : decode cX9_compare 17 = .ok (.ireturn, 1) := by decide +kernel
theorem dX9_comes_0 : decode cX9_comes 0 = .ok (.aload_n 0, 1) := by decide +kernel
theorem dX9_comes_1 : decode cX9_comes 1 = .ok (.invokevirtual 100, 3) := by decide +kernel
theorem dX9_comes_4 : decode cX9_comes 4 = .ok (.ifCond .eq 9, 3) := by decide +kernel
theorem dX9_comes_7 : decode cX9_comes 7 = .ok (.aload_n 0, 1) := by decide +kernel
theorem dX9_comes_8 : decode cX9_comes 8 = .ok (.iconst 4, 1) := by decide +kernel
theorem dX9_comes_9 : decode cX9_comes 9 = .ok (.invokevirtual 104, 3) := by decide +kernel
theorem dX9_comes_12 : decode cX9_comes 12 = .ok (.ireturn, 1) := by decide +kernel
theorem dX9_comes_13 : decode cX9_comes 13 = .ok (.aload_n 0, 1) := by decide +kernel
theorem dX9_comes_14 : decode cX9_comes 14 = .ok (.aload_n 0, 1) := by decide +kernel
theorem dX9_comes_15 : decode cX9_comes 15 = .ok (.getfield 7, 3) := by decide +kernel
theorem dX9_comes_18 : decode cX9_comes 18 = .ok (.bipush 6, 2) := by decide +kernel
theorem dX9_comes_20 : decode cX9_comes 20 = .ok (.iload_n 1, 1) := by decide +kernel
theorem dX9_comes_21 : decode cX9_comes 21 = .ok (.imul, 1) := by decide +kernel
theorem dX9_comes_22 : decode cX9_comes 22 = .ok (.invokevirtual 108, 3) := by decide +kernel
theorem dX9_comes_25 : decode cX9_comes 25 = .ok (.aload_n 0, 1) := by decide +kernel
theorem dX9_comes_26 : decode cX9_comes 26 = .ok (.getfield 13, 3) := by decide +kernel
theorem dX9_comes_29 : decode cX9_comes 29 = .ok (.iload_n 1, 1) := by decide +kernel
theorem dX9_comes_30 : decode cX9_comes 30 = .ok (.iconst 1, 1) := by decide +kernel
theorem dX9_comes_31 : decode cX9_comes 31 = .ok (.bastore, 1) := by decide +kernel
theorem dX9_comes_32 : decode cX9_comes 32 = .ok (.aload_n 0, 1) := by decide +kernel
theorem dX9_comes_33 : decode cX9_comes 33 = .ok (.iconst 0, 1) := by decide +kernel
theorem dX9_comes_34 : decode cX9_comes 34 = .ok (.invokevirtual 104, 3) := by decide +kernel
theorem dX9_comes_37 : decode cX9_comes 37 = .ok (.ireturn, 1) := by decide +kernel
theorem dX9_set_0 : decode cX9_set 0 = .ok (.iload_n 1, 1) := by decide +kernel
theorem dX9_set_1 : decode cX9_set 1 = .ok (.invokestatic 111, 3) := by decide +kernel
theorem dX9_set_4 : decode cX9_set 4 = .ok (.ifCond .ne 9, 3) := by decide +kernel
theorem dX9_set_7 : decode cX9_set 7 = .ok (.aload_n 0, 1) := by decide +kernel
theorem dX9_set_8 : decode cX9_set 8 = .ok (.iconst 1, 1) := by decide +kernel
theorem dX9_set_9 : decode cX9_set 9 = .ok (.invokevirtual 104, 3) := by decide +kernel
theorem dX9_set_12 : decode cX9_set 12 = .ok (.ireturn, 1) := by decide +kernel
theorem dX9_set_13 : decode cX9_set 13 = .ok (.aload_n 0, 1) := by decide +kernel
theorem dX9_set_14 : decode cX9_set 14 = .ok (.getfield 23, 3) := by decide +kernel
theorem dX9_set_17 : decode cX9_set 17 = .ok (.iconst 0, 1) := by decide +kernel
theorem dX9_set_18 : decode cX9_set 18 = .ok (.iload_n 2, 1) := by decide +kernel
theorem dX9_set_19 : decode cX9_set 19 = .ok (.iastore, 1) := by decide +kernel
theorem dX9_set_20 : decode cX9_set 20 = .ok (.aload_n 0, 1) := by decide +kernel
theorem dX9_set_21 : decode cX9_set 21 = .ok (.getfield 23, 3) := by decide +kernel
theorem dX9_set_24 : decode cX9_set 24 = .ok (.iconst 1, 1) := by decide +kernel
theorem dX9_set_25 : decode cX9_set 25 = .ok (.iload_n 3, 1) := by decide +kernel
theorem dX9_set_26 : decode cX9_set 26 = .ok (.iastore, 1) := by decide +kernel
theorem dX9_set_27 : decode cX9_set 27 = .ok (.aload_n 0, 1) := by decide +kernel
theorem dX9_set_28 : decode cX9_set 28 = .ok (.getfield 23, 3) := by decide +kernel
theorem dX9_set_31 : decode cX9_set 31 = .ok (.iconst 2, 1) := by decide +kernel
theorem dX9_set_32 : decode cX9_set 32 = .ok (.iload 4, 2) := by decide +kernel
theorem dX9_set_34 : decode cX9_set 34 = .ok (.iastore, 1) := by decide +kernel
theorem dX9_set_35 : decode cX9_set 35 = .ok (.aload_n 0, 1) := by decide +kernel
theorem dX9_set_36 : decode cX9_set 36 = .ok (.getfield 23, 3) := by decide +kernel
theorem dX9_set_39 : decode cX9_set 39 = .ok (.iconst 3, 1) := by decide +kernel
theorem dX9_set_40 : decode cX9_set 40 = .ok (.iload 5, 2) := by decide +kernel
theorem dX9_set_42 : decode cX9_set 42 = .ok (.iastore, 1) := by decide +kernel
theorem dX9_set_43 : decode cX9_set 43 = .ok (.aload_n 0, 1) := by decide +kernel
theorem dX9_set_44 : decode cX9_set 44 = .ok (.getfield 23, 3) := by decide +kernel
theorem dX9_set_47 : decode cX9_set 47 = .ok (.iconst 4, 1) := by decide +kernel
theorem dX9_set_48 : decode cX9_set 48 = .ok (.iload 6, 2) := by decide +kernel
theorem dX9_set_50 : decode cX9_set 50 = .ok (.iastore, 1) := by decide +kernel
theorem dX9_set_51 : decode cX9_set 51 = .ok (.aload_n 0, 1) := by decide +kernel
theorem dX9_set_52 : decode cX9_set 52 = .ok (.getfield 23, 3) := by decide +kernel
theorem dX9_set_55 : decode cX9_set 55 = .ok (.iconst 5, 1) := by decide +kernel
theorem dX9_set_56 : decode cX9_set 56 = .ok (.iload 7, 2) := by decide +kernel
theorem dX9_set_58 : decode cX9_set 58 = .ok (.iastore, 1) := by decide +kernel
theorem dX9_set_59 : decode cX9_set 59 = .ok (.aload_n 0, 1) := by decide +kernel
theorem dX9_set_60 : decode cX9_set 60 = .ok (.iload_n 1, 1) := by decide +kernel
theorem dX9_set_61 : decode cX9_set 61 = .ok (.invokevirtual 114, 3) := by decide +kernel
theorem dX9_set_64 : decode cX9_set 64 = .ok (.ireturn, 1) := by decide +kernel
theorem dX9_ratio_0 : decode cX9_ratio 0 = .ok (.iload_n 1, 1) := by decide +kernel
theorem dX9_ratio_1 : decode cX9_ratio 1 = .ok (.invokestatic 111, 3) := by decide +kernel
theorem dX9_ratio_4 : decode cX9_ratio 4 = .ok (.ifCond .ne 9, 3) := by decide +kernel
theorem dX9_ratio_7 : decode cX9_ratio 7 = .ok (.aload_n 0, 1) := by decide +kernel
theorem dX9_ratio_8 : decode cX9_ratio 8 = .ok (.iconst 1, 1) := by decide +kernel
theorem dX9_ratio_9 : decode cX9_ratio 9 = .ok (.invokevirtual 104, 3) := by decide +kernel
theorem dX9_ratio_12 : decode cX9_ratio 12 = .ok (.ireturn, 1) := by decide +kernel
theorem dX9_ratio_13 : decode cX9_ratio 13 = .ok (.iload_n 2, 1) := by decide +kernel
theorem dX9_ratio_14 : decode cX9_ratio 14 = .ok (.iconst 1, 1) := by decide +kernel
theorem dX9_ratio_15 : decode cX9_ratio 15 = .ok (.if_icmp .lt 20, 3) := by decide +kernel
theorem dX9_ratio_18 : decode cX9_ratio 18 = .ok (.iload_n 2, 1) := by decide +kernel
theorem dX9_ratio_19 : decode cX9_ratio 19 = .ok (.ldc 117, 2) := by decide +kernel
theorem dX9_ratio_21 : decode cX9_ratio 21 = .ok (.if_icmp .gt 14, 3) := by decide +kernel
theorem dX9_ratio_24 : decode cX9_ratio 24 = .ok (.iload_n 3, 1) := by decide +kernel
theorem dX9_ratio_25 : decode cX9_ratio 25 = .ok (.iconst 1, 1) := by decide +kernel
theorem dX9_ratio_26 : decode cX9_ratio 26 = .ok (.if_icmp .lt 9, 3) := by decide +kernel
theorem dX9_ratio_29 : decode cX9_ratio 29 = .ok (.iload_n 3, 1) := by decide +kernel
theorem dX9_ratio_30 : decode cX9_ratio 30 = .ok (.ldc 117, 2) := by decide +kernel
theorem dX9_ratio_32 : decode cX9_ratio 32 = .ok (.if_icmp .le 9, 3) := by decide +kernel
theorem dX9_ratio_35 : decode cX9_ratio 35 = .ok (.aload_n 0, 1) := by decide +kernel
theorem dX9_ratio_36 : decode cX9_ratio 36 = .ok (.iconst 3, 1) := by decide +kernel
theorem dX9_ratio_37 : decode cX9_ratio 37 = .ok (.invokevirtual 104, 3) := by decide +kernel
theorem dX9_ratio_40 : decode cX9_ratio 40 = .ok (.ireturn, 1) := by decide +kernel
theorem dX9_ratio_41 : decode cX9_ratio 41 = .ok (.iload_n 2, 1) := by decide +kernel
theorem dX9_ratio_42 : decode cX9_ratio 42 = .ok (.istore 4, 2) := by decide +kernel
theorem dX9_ratio_44 : decode cX9_ratio 44 = .ok (.iload_n 3, 1) := by decide +kernel
theorem dX9_ratio_45 : decode cX9_ratio 45 = .ok (.istore 5, 2) := by decide +kernel
theorem dX9_ratio_47 : decode cX9_ratio 47 = .ok (.iload 5, 2) := by decide +kernel
theorem dX9_ratio_49 : decode cX9_ratio 49 = .ok (.ifCond .eq 21, 3) := by decide +kernel
theorem dX9_ratio_52 : decode cX9_ratio 52 = .ok (.iload 4, 2) := by decide +kernel
theorem dX9_ratio_54 : decode cX9_ratio 54 = .ok (.iload 5, 2) := by decide +kernel
theorem dX9_ratio_56 : decode cX9_ratio 56 = .ok (.irem, 1) := by decide +kernel
theorem dX9_ratio_57 : decode cX9_ratio 57 = .ok (.istore 6, 2) := by decide +kernel
theorem dX9_ratio_59 : decode cX9_ratio 59 = .ok (.iload 5, 2) := by decide +kernel
theorem dX9_ratio_61 : decode cX9_ratio 61 = .ok (.istore 4, 2) := by decide +kernel
theorem dX9_ratio_63 : decode cX9_ratio 63 = .ok (.iload 6, 2) := by decide +kernel
theorem dX9_ratio_65 : decode cX9_ratio 65 = .ok (.istore 5, 2) := by decide +kernel
theorem dX9_ratio_67 : decode cX9_ratio 67 = .ok (.goto (-20), 3) := by decide +kernel
theorem dX9_ratio_70 : decode cX9_ratio 70 = .ok (.iload_n 2, 1) := by decide +kernel
theorem dX9_ratio_71 : decode cX9_ratio 71 = .ok (.iload 4, 2) := by decide +kernel
theorem dX9_ratio_73 : decode cX9_ratio 73 = .ok (.idiv, 1) := by decide +kernel
theorem dX9_ratio_74 : decode cX9_ratio 74 = .ok (.istore 6, 2) := by decide +kernel
theorem dX9_ratio_76 : decode cX9_ratio 76 = .ok (.iload_n 3, 1) := by decide +kernel
theorem dX9_ratio_77 : decode cX9_ratio 77 = .ok (.iload 4, 2) := by decide +kernel
theorem dX9_ratio_79 : decode cX9_ratio 79 = .ok (.idiv, 1) := by decide +kernel
theorem dX9_ratio_80 : decode cX9_ratio 80 = .ok (.istore 7, 2) := by decide +kernel
theorem dX9_ratio_82 : decode cX9_ratio 82 = .ok (.iconst 0, 1) := by decide +kernel
theorem dX9_ratio_83 : decode cX9_ratio 83 = .ok (.istore 8, 2) := by decide +kernel
theorem dX9_ratio_85 : decode cX9_ratio 85 = .ok (.iload 8, 2) := by decide +kernel
theorem dX9_ratio_87 : decode cX9_ratio 87 = .ok (.bipush 6, 2) := by decide +kernel
theorem dX9_ratio_89 : decode cX9_ratio 89 = .ok (.if_icmp .ge 87, 3) := by decide +kernel
theorem dX9_ratio_92 : decode cX9_ratio 92 = .ok (.aload_n 0, 1) := by decide +kernel
theorem dX9_ratio_93 : decode cX9_ratio 93 = .ok (.getfield 23, 3) := by decide +kernel
theorem dX9_ratio_96 : decode cX9_ratio 96 = .ok (.iload 8, 2) := by decide +kernel
theorem dX9_ratio_98 : decode cX9_ratio 98 = .ok (.iconst 0, 1) := by decide +kernel
theorem dX9_ratio_99 : decode cX9_ratio 99 = .ok (.iastore, 1) := by decide +kernel
theorem dX9_ratio_100 : decode cX9_ratio 100 = .ok (.iload 6, 2) := by decide +kernel
theorem dX9_ratio_102 : decode cX9_ratio 102 = .ok (.iload 8, 2) := by decide +kernel
theorem dX9_ratio_104 : decode cX9_ratio 104 = .ok (.invokestatic 78, 3) := by decide +kernel
theorem dX9_ratio_107 : decode cX9_ratio 107 = .ok (.irem, 1) := by decide +kernel
theorem dX9_ratio_108 : decode cX9_ratio 108 = .ok (.ifCond .ne 27, 3) := by decide +kernel
theorem dX9_ratio_111 : decode cX9_ratio 111 = .ok (.iload 6, 2) := by decide +kernel
theorem dX9_ratio_113 : decode cX9_ratio 113 = .ok (.iload 8, 2) := by decide +kernel
theorem dX9_ratio_115 : decode cX9_ratio 115 = .ok (.invokestatic 78, 3) := by decide +kernel
theorem dX9_ratio_118 : decode cX9_ratio 118 = .ok (.idiv, 1) := by decide +kernel
theorem dX9_ratio_119 : decode cX9_ratio 119 = .ok (.istore 6, 2) := by decide +kernel
theorem dX9_ratio_121 : decode cX9_ratio 121 = .ok (.aload_n 0, 1) := by decide +kernel
theorem dX9_ratio_122 : decode cX9_ratio 122 = .ok (.getfield 23, 3) := by decide +kernel
theorem dX9_ratio_125 : decode cX9_ratio 125 = .ok (.iload 8, 2) := by decide +kernel
theorem dX9_ratio_127 : decode cX9_ratio 127 = .ok (.dup2, 1) := by decide +kernel
theorem dX9_ratio_128 : decode cX9_ratio 128 = .ok (.iaload, 1) := by decide +kernel
theorem dX9_ratio_129 : decode cX9_ratio 129 = .ok (.iconst 1, 1) := by decide +kernel
theorem dX9_ratio_130 : decode cX9_ratio 130 = .ok (.iadd, 1) := by decide +kernel
theorem dX9_ratio_131 : decode cX9_ratio 131 = .ok (.iastore, 1) := by decide +kernel
theorem dX9_ratio_132 : decode cX9_ratio 132 = .ok (.goto (-32), 3) := by decide +kernel
theorem dX9_ratio_135 : decode cX9_ratio 135 = .ok (.iload 7, 2) := by decide +kernel
theorem dX9_ratio_137 : decode cX9_ratio 137 = .ok (.iload 8, 2) := by decide +kernel
theorem dX9_ratio_139 : decode cX9_ratio 139 = .ok (.invokestatic 78, 3) := by decide +kernel
theorem dX9_ratio_142 : decode cX9_ratio 142 = .ok (.irem, 1) := by decide +kernel
theorem dX9_ratio_143 : decode cX9_ratio 143 = .ok (.ifCond .ne 27, 3) := by decide +kernel
theorem dX9_ratio_146 : decode cX9_ratio 146 = .ok (.iload 7, 2) := by decide +kernel
theorem dX9_ratio_148 : decode cX9_ratio 148 = .ok (.iload 8, 2) := by decide +kernel
theorem dX9_ratio_150 : decode cX9_ratio 150 = .ok (.invokestatic 78, 3) := by decide +kernel
theorem dX9_ratio_153 : decode cX9_ratio 153 = .ok (.idiv, 1) := by decide +kernel
theorem dX9_ratio_154 : decode cX9_ratio 154 = .ok (.istore 7, 2) := by decide +kernel
theorem dX9_ratio_156 : decode cX9_ratio 156 = .ok (.aload_n 0, 1) := by decide +kernel
theorem dX9_ratio_157 : decode cX9_ratio 157 = .ok (.getfield 23, 3) := by decide +kernel
theorem dX9_ratio_160 : decode cX9_ratio 160 = .ok (.iload 8, 2) := by decide +kernel
theorem dX9_ratio_162 : decode cX9_ratio 162 = .ok (.dup2, 1) := by decide +kernel
theorem dX9_ratio_163 : decode cX9_ratio 163 = .ok (.iaload, 1) := by decide +kernel
theorem dX9_ratio_164 : decode cX9_ratio 164 = .ok (.iconst 1, 1) := by decide +kernel
theorem dX9_ratio_165 : decode cX9_ratio 165 = .ok (.isub, 1) := by decide +kernel
theorem dX9_ratio_166 : decode cX9_ratio 166 = .ok (.iastore, 1) := by decide +kernel
theorem dX9_ratio_167 : decode cX9_ratio 167 = .ok (.goto (-32), 3) := by decide +kernel
theorem dX9_ratio_170 : decode cX9_ratio 170 = .ok (.iinc 8 1, 3) := by decide +kernel
theorem dX9_ratio_173 : decode cX9_ratio 173 = .ok (.goto (-88), 3) := by decide +kernel
theorem dX9_ratio_176 : decode cX9_ratio 176 = .ok (.iload 6, 2) := by decide +kernel
theorem dX9_ratio_178 : decode cX9_ratio 178 = .ok (.iconst 1, 1) := by decide +kernel
theorem dX9_ratio_179 : decode cX9_ratio 179 = .ok (.if_icmp .gt 9, 3) := by decide +kernel
theorem dX9_ratio_182 : decode cX9_ratio 182 = .ok (.iload 7, 2) := by decide +kernel
theorem dX9_ratio_184 : decode cX9_ratio 184 = .ok (.iconst 1, 1) := by decide +kernel
theorem dX9_ratio_185 : decode cX9_ratio 185 = .ok (.if_icmp .le 11, 3) := by decide +kernel
theorem dX9_ratio_188 : decode cX9_ratio 188 = .ok (.aload_n 0, 1) := by decide +kernel
theorem dX9_ratio_189 : decode cX9_ratio 189 = .ok (.iconst 4, 1) := by decide +kernel
theorem dX9_ratio_190 : decode cX9_ratio 190 = .ok (.invokevirtual 104, 3) := by decide +kernel
theorem dX9_ratio_193 : decode cX9_ratio 193 = .ok (.goto 8, 3) := by decide +kernel
theorem dX9_ratio_196 : decode cX9_ratio 196 = .ok (.aload_n 0, 1) := by decide +kernel
theorem dX9_ratio_197 : decode cX9_ratio 197 = .ok (.iload_n 1, 1) := by decide +kernel
theorem dX9_ratio_198 : decode cX9_ratio 198 = .ok (.invokevirtual 114, 3) := by decide +kernel
theorem dX9_ratio_201 : decode cX9_ratio 201 = .ok (.ireturn, 1) := by decide +kernel
theorem dX9_times_0 : decode cX9_times 0 = .ok (.iload_n 1, 1) := by decide +kernel
theorem dX9_times_1 : decode cX9_times 1 = .ok (.invokestatic 111, 3) := by decide +kernel
theorem dX9_times_4 : decode cX9_times 4 = .ok (.ifCond .eq 18, 3) := by decide +kernel
theorem dX9_times_7 : decode cX9_times 7 = .ok (.iload_n 2, 1) := by decide +kernel
theorem dX9_times_8 : decode cX9_times 8 = .ok (.invokestatic 111, 3) := by decide +kernel
theorem dX9_times_11 : decode cX9_times 11 = .ok (.ifCond .eq 11, 3) := by decide +kernel
theorem dX9_times_14 : decode cX9_times 14 = .ok (.iload 4, 2) := by decide +kernel
theorem dX9_times_16 : decode cX9_times 16 = .ok (.invokestatic 111, 3) := by decide +kernel
theorem dX9_times_19 : decode cX9_times 19 = .ok (.ifCond .ne 9, 3) := by decide +kernel
theorem dX9_times_22 : decode cX9_times 22 = .ok (.aload_n 0, 1) := by decide +kernel
theorem dX9_times_23 : decode cX9_times 23 = .ok (.iconst 1, 1) := by decide +kernel
theorem dX9_times_24 : decode cX9_times 24 = .ok (.invokevirtual 104, 3) := by decide +kernel
theorem dX9_times_27 : decode cX9_times 27 = .ok (.ireturn, 1) := by decide +kernel
theorem dX9_times_28 : decode cX9_times 28 = .ok (.aload_n 0, 1) := by decide +kernel
theorem dX9_times_29 : decode cX9_times 29 = .ok (.getfield 13, 3) := by decide +kernel
theorem dX9_times_32 : decode cX9_times 32 = .ok (.iload_n 1, 1) := by decide +kernel
theorem dX9_times_33 : decode cX9_times 33 = .ok (.baload, 1) := by decide +kernel
theorem dX9_times_34 : decode cX9_times 34 = .ok (.ifCond .eq 12, 3) := by decide +kernel
theorem dX9_times_37 : decode cX9_times 37 = .ok (.aload_n 0, 1) := by decide +kernel
theorem dX9_times_38 : decode cX9_times 38 = .ok (.getfield 13, 3) := by decide +kernel
theorem dX9_times_41 : decode cX9_times 41 = .ok (.iload_n 2, 1) := by decide +kernel
theorem dX9_times_42 : decode cX9_times 42 = .ok (.baload, 1) := by decide +kernel
theorem dX9_times_43 : decode cX9_times 43 = .ok (.ifCond .ne 9, 3) := by decide +kernel
theorem dX9_times_46 : decode cX9_times 46 = .ok (.aload_n 0, 1) := by decide +kernel
theorem dX9_times_47 : decode cX9_times 47 = .ok (.iconst 2, 1) := by decide +kernel
theorem dX9_times_48 : decode cX9_times 48 = .ok (.invokevirtual 104, 3) := by decide +kernel
theorem dX9_times_51 : decode cX9_times 51 = .ok (.ireturn, 1) := by decide +kernel
theorem dX9_times_52 : decode cX9_times 52 = .ok (.iload_n 3, 1) := by decide +kernel
theorem dX9_times_53 : decode cX9_times 53 = .ok (.bipush (-24), 2) := by decide +kernel
theorem dX9_times_55 : decode cX9_times 55 = .ok (.if_icmp .lt 9, 3) := by decide +kernel
theorem dX9_times_58 : decode cX9_times 58 = .ok (.iload_n 3, 1) := by decide +kernel
theorem dX9_times_59 : decode cX9_times 59 = .ok (.bipush 24, 2) := by decide +kernel
theorem dX9_times_61 : decode cX9_times 61 = .ok (.if_icmp .le 9, 3) := by decide +kernel
theorem dX9_times_64 : decode cX9_times 64 = .ok (.aload_n 0, 1) := by decide +kernel
theorem dX9_times_65 : decode cX9_times 65 = .ok (.iconst 3, 1) := by decide +kernel
theorem dX9_times_66 : decode cX9_times 66 = .ok (.invokevirtual 104, 3) := by decide +kernel
theorem dX9_times_69 : decode cX9_times 69 = .ok (.ireturn, 1) := by decide +kernel
theorem dX9_times_70 : decode cX9_times 70 = .ok (.aload_n 0, 1) := by decide +kernel
theorem dX9_times_71 : decode cX9_times 71 = .ok (.aload_n 0, 1) := by decide +kernel
theorem dX9_times_72 : decode cX9_times 72 = .ok (.getfield 7, 3) := by decide +kernel
theorem dX9_times_75 : decode cX9_times 75 = .ok (.bipush 6, 2) := by decide +kernel
theorem dX9_times_77 : decode cX9_times 77 = .ok (.iload_n 1, 1) := by decide +kernel
theorem dX9_times_78 : decode cX9_times 78 = .ok (.imul, 1) := by decide +kernel
theorem dX9_times_79 : decode cX9_times 79 = .ok (.invokevirtual 89, 3) := by decide +kernel
theorem dX9_times_82 : decode cX9_times 82 = .ok (.iconst 0, 1) := by decide +kernel
theorem dX9_times_83 : decode cX9_times 83 = .ok (.istore 5, 2) := by decide +kernel
theorem dX9_times_85 : decode cX9_times 85 = .ok (.iload 5, 2) := by decide +kernel
theorem dX9_times_87 : decode cX9_times 87 = .ok (.bipush 6, 2) := by decide +kernel
theorem dX9_times_89 : decode cX9_times 89 = .ok (.if_icmp .ge 33, 3) := by decide +kernel
theorem dX9_times_92 : decode cX9_times 92 = .ok (.aload_n 0, 1) := by decide +kernel
theorem dX9_times_93 : decode cX9_times 93 = .ok (.getfield 23, 3) := by decide +kernel
theorem dX9_times_96 : decode cX9_times 96 = .ok (.iload 5, 2) := by decide +kernel
theorem dX9_times_98 : decode cX9_times 98 = .ok (.dup2, 1) := by decide +kernel
theorem dX9_times_99 : decode cX9_times 99 = .ok (.iaload, 1) := by decide +kernel
theorem dX9_times_100 : decode cX9_times 100 = .ok (.iload_n 3, 1) := by decide +kernel
theorem dX9_times_101 : decode cX9_times 101 = .ok (.aload_n 0, 1) := by decide +kernel
theorem dX9_times_102 : decode cX9_times 102 = .ok (.getfield 7, 3) := by decide +kernel
theorem dX9_times_105 : decode cX9_times 105 = .ok (.bipush 6, 2) := by decide +kernel
theorem dX9_times_107 : decode cX9_times 107 = .ok (.iload_n 2, 1) := by decide +kernel
theorem dX9_times_108 : decode cX9_times 108 = .ok (.imul, 1) := by decide +kernel
theorem dX9_times_109 : decode cX9_times 109 = .ok (.iload 5, 2) := by decide +kernel
theorem dX9_times_111 : decode cX9_times 111 = .ok (.iadd, 1) := by decide +kernel
theorem dX9_times_112 : decode cX9_times 112 = .ok (.iaload, 1) := by decide +kernel
theorem dX9_times_113 : decode cX9_times 113 = .ok (.imul, 1) := by decide +kernel
theorem dX9_times_114 : decode cX9_times 114 = .ok (.iadd, 1) := by decide +kernel
theorem dX9_times_115 : decode cX9_times 115 = .ok (.iastore, 1) := by decide +kernel
theorem dX9_times_116 : decode cX9_times 116 = .ok (.iinc 5 1, 3) := by decide +kernel
theorem dX9_times_119 : decode cX9_times 119 = .ok (.goto (-34), 3) := by decide +kernel
theorem dX9_times_122 : decode cX9_times 122 = .ok (.aload_n 0, 1) := by decide +kernel
theorem dX9_times_123 : decode cX9_times 123 = .ok (.iload 4, 2) := by decide +kernel
theorem dX9_times_125 : decode cX9_times 125 = .ok (.invokevirtual 114, 3) := by decide +kernel
theorem dX9_times_128 : decode cX9_times 128 = .ok (.ireturn, 1) := by decide +kernel
theorem dX9_down_0 : decode cX9_down 0 = .ok (.iload_n 0, 1) := by decide +kernel
theorem dX9_down_1 : decode cX9_down 1 = .ok (.ifCond .lt 9, 3) := by decide +kernel
theorem dX9_down_4 : decode cX9_down 4 = .ok (.iload_n 0, 1) := by decide +kernel
theorem dX9_down_5 : decode cX9_down 5 = .ok (.iload_n 1, 1) := by decide +kernel
theorem dX9_down_6 : decode cX9_down 6 = .ok (.idiv, 1) := by decide +kernel
theorem dX9_down_7 : decode cX9_down 7 = .ok (.goto 11, 3) := by decide +kernel
theorem dX9_down_10 : decode cX9_down 10 = .ok (.iload_n 1, 1) := by decide +kernel
theorem dX9_down_11 : decode cX9_down 11 = .ok (.iconst 1, 1) := by decide +kernel
theorem dX9_down_12 : decode cX9_down 12 = .ok (.isub, 1) := by decide +kernel
theorem dX9_down_13 : decode cX9_down 13 = .ok (.iload_n 0, 1) := by decide +kernel
theorem dX9_down_14 : decode cX9_down 14 = .ok (.isub, 1) := by decide +kernel
theorem dX9_down_15 : decode cX9_down 15 = .ok (.iload_n 1, 1) := by decide +kernel
theorem dX9_down_16 : decode cX9_down 16 = .ok (.idiv, 1) := by decide +kernel
theorem dX9_down_17 : decode cX9_down 17 = .ok (.ineg, 1) := by decide +kernel
theorem dX9_down_18 : decode cX9_down 18 = .ok (.ireturn, 1) := by decide +kernel
theorem dX9_folds_0 : decode cX9_folds 0 = .ok (.iconst 0, 1) := by decide +kernel
theorem dX9_folds_1 : decode cX9_folds 1 = .ok (.istore_n 1, 1) := by decide +kernel
theorem dX9_folds_2 : decode cX9_folds 2 = .ok (.aload_n 0, 1) := by decide +kernel
theorem dX9_folds_3 : decode cX9_folds 3 = .ok (.getfield 29, 3) := by decide +kernel
theorem dX9_folds_6 : decode cX9_folds 6 = .ok (.iload_n 1, 1) := by decide +kernel
theorem dX9_folds_7 : decode cX9_folds 7 = .ok (.iaload, 1) := by decide +kernel
theorem dX9_folds_8 : decode cX9_folds 8 = .ok (.ifCond .ne 9, 3) := by decide +kernel
theorem dX9_folds_11 : decode cX9_folds 11 = .ok (.iinc 1 1, 3) := by decide +kernel
theorem dX9_folds_14 : decode cX9_folds 14 = .ok (.goto (-12), 3) := by decide +kernel
theorem dX9_folds_17 : decode cX9_folds 17 = .ok (.aload_n 0, 1) := by decide +kernel
theorem dX9_folds_18 : decode cX9_folds 18 = .ok (.getfield 29, 3) := by decide +kernel
theorem dX9_folds_21 : decode cX9_folds 21 = .ok (.iload_n 1, 1) := by decide +kernel
theorem dX9_folds_22 : decode cX9_folds 22 = .ok (.iaload, 1) := by decide +kernel
theorem dX9_folds_23 : decode cX9_folds 23 = .ok (.istore_n 2, 1) := by decide +kernel
theorem dX9_folds_24 : decode cX9_folds 24 = .ok (.iload_n 2, 1) := by decide +kernel
theorem dX9_folds_25 : decode cX9_folds 25 = .ok (.ifCond .le 20, 3) := by decide +kernel
theorem dX9_folds_28 : decode cX9_folds 28 = .ok (.bipush 24, 2) := by decide +kernel
theorem dX9_folds_30 : decode cX9_folds 30 = .ok (.aload_n 0, 1) := by decide +kernel
theorem dX9_folds_31 : decode cX9_folds 31 = .ok (.getfield 26, 3) := by decide +kernel
theorem dX9_folds_34 : decode cX9_folds 34 = .ok (.iload_n 1, 1) := by decide +kernel
theorem dX9_folds_35 : decode cX9_folds 35 = .ok (.iaload, 1) := by decide +kernel
theorem dX9_folds_36 : decode cX9_folds 36 = .ok (.iadd, 1) := by decide +kernel
theorem dX9_folds_37 : decode cX9_folds 37 = .ok (.iload_n 2, 1) := by decide +kernel
theorem dX9_folds_38 : decode cX9_folds 38 = .ok (.invokestatic 118, 3) := by decide +kernel
theorem dX9_folds_41 : decode cX9_folds 41 = .ok (.ineg, 1) := by decide +kernel
theorem dX9_folds_42 : decode cX9_folds 42 = .ok (.goto 18, 3) := by decide +kernel
theorem dX9_folds_45 : decode cX9_folds 45 = .ok (.bipush 24, 2) := by decide +kernel
theorem dX9_folds_47 : decode cX9_folds 47 = .ok (.aload_n 0, 1) := by decide +kernel
theorem dX9_folds_48 : decode cX9_folds 48 = .ok (.getfield 26, 3) := by decide +kernel
theorem dX9_folds_51 : decode cX9_folds 51 = .ok (.iload_n 1, 1) := by decide +kernel
theorem dX9_folds_52 : decode cX9_folds 52 = .ok (.iaload, 1) := by decide +kernel
theorem dX9_folds_53 : decode cX9_folds 53 = .ok (.isub, 1) := by decide +kernel
theorem dX9_folds_54 : decode cX9_folds 54 = .ok (.iload_n 2, 1) := by decide +kernel
theorem dX9_folds_55 : decode cX9_folds 55 = .ok (.ineg, 1) := by decide +kernel
theorem dX9_folds_56 : decode cX9_folds 56 = .ok (.invokestatic 118, 3) := by decide +kernel
theorem dX9_folds_59 : decode cX9_folds 59 = .ok (.ineg, 1) := by decide +kernel
theorem dX9_folds_60 : decode cX9_folds 60 = .ok (.istore_n 3, 1) := by decide +kernel
theorem dX9_folds_61 : decode cX9_folds 61 = .ok (.iload_n 2, 1) := by decide +kernel
theorem dX9_folds_62 : decode cX9_folds 62 = .ok (.ifCond .le 19, 3) := by decide +kernel
theorem dX9_folds_65 : decode cX9_folds 65 = .ok (.bipush 24, 2) := by decide +kernel
theorem dX9_folds_67 : decode cX9_folds 67 = .ok (.aload_n 0, 1) := by decide +kernel
theorem dX9_folds_68 : decode cX9_folds 68 = .ok (.getfield 26, 3) := by decide +kernel
theorem dX9_folds_71 : decode cX9_folds 71 = .ok (.iload_n 1, 1) := by decide +kernel
theorem dX9_folds_72 : decode cX9_folds 72 = .ok (.iaload, 1) := by decide +kernel
theorem dX9_folds_73 : decode cX9_folds 73 = .ok (.isub, 1) := by decide +kernel
theorem dX9_folds_74 : decode cX9_folds 74 = .ok (.iload_n 2, 1) := by decide +kernel
theorem dX9_folds_75 : decode cX9_folds 75 = .ok (.invokestatic 118, 3) := by decide +kernel
theorem dX9_folds_78 : decode cX9_folds 78 = .ok (.goto 17, 3) := by decide +kernel
theorem dX9_folds_81 : decode cX9_folds 81 = .ok (.bipush 24, 2) := by decide +kernel
theorem dX9_folds_83 : decode cX9_folds 83 = .ok (.aload_n 0, 1) := by decide +kernel
theorem dX9_folds_84 : decode cX9_folds 84 = .ok (.getfield 26, 3) := by decide +kernel
theorem dX9_folds_87 : decode cX9_folds 87 = .ok (.iload_n 1, 1) := by decide +kernel
theorem dX9_folds_88 : decode cX9_folds 88 = .ok (.iaload, 1) := by decide +kernel
theorem dX9_folds_89 : decode cX9_folds 89 = .ok (.iadd, 1) := by decide +kernel
theorem dX9_folds_90 : decode cX9_folds 90 = .ok (.iload_n 2, 1) := by decide +kernel
theorem dX9_folds_91 : decode cX9_folds 91 = .ok (.ineg, 1) := by decide +kernel
theorem dX9_folds_92 : decode cX9_folds 92 = .ok (.invokestatic 118, 3) := by decide +kernel
theorem dX9_folds_95 : decode cX9_folds 95 = .ok (.istore 4, 2) := by decide +kernel
theorem dX9_folds_97 : decode cX9_folds 97 = .ok (.iload_n 3, 1) := by decide +kernel
theorem dX9_folds_98 : decode cX9_folds 98 = .ok (.istore 5, 2) := by decide +kernel
theorem dX9_folds_100 : decode cX9_folds 100 = .ok (.iload 5, 2) := by decide +kernel
theorem dX9_folds_102 : decode cX9_folds 102 = .ok (.iload 4, 2) := by decide +kernel
theorem dX9_folds_104 : decode cX9_folds 104 = .ok (.if_icmp .gt 59, 3) := by decide +kernel
theorem dX9_folds_107 : decode cX9_folds 107 = .ok (.aload_n 0, 1) := by decide +kernel
theorem dX9_folds_108 : decode cX9_folds 108 = .ok (.iload 5, 2) := by decide +kernel
theorem dX9_folds_110 : decode cX9_folds 110 = .ok (.invokevirtual 122, 3) := by decide +kernel
theorem dX9_folds_113 : decode cX9_folds 113 = .ok (.aload_n 0, 1) := by decide +kernel
theorem dX9_folds_114 : decode cX9_folds 114 = .ok (.invokevirtual 100, 3) := by decide +kernel
theorem dX9_folds_117 : decode cX9_folds 117 = .ok (.ifCond .ne 40, 3) := by decide +kernel
theorem dX9_folds_120 : decode cX9_folds 120 = .ok (.aload_n 0, 1) := by decide +kernel
theorem dX9_folds_121 : decode cX9_folds 121 = .ok (.invokevirtual 96, 3) := by decide +kernel
theorem dX9_folds_124 : decode cX9_folds 124 = .ok (.ifCond .ge 6, 3) := by decide +kernel
theorem dX9_folds_127 : decode cX9_folds 127 = .ok (.goto 30, 3) := by decide +kernel
theorem dX9_folds_130 : decode cX9_folds 130 = .ok (.aload_n 0, 1) := by decide +kernel
theorem dX9_folds_131 : decode cX9_folds 131 = .ok (.aload_n 0, 1) := by decide +kernel
theorem dX9_folds_132 : decode cX9_folds 132 = .ok (.getfield 29, 3) := by decide +kernel
theorem dX9_folds_135 : decode cX9_folds 135 = .ok (.iconst 0, 1) := by decide +kernel
theorem dX9_folds_136 : decode cX9_folds 136 = .ok (.invokevirtual 93, 3) := by decide +kernel
theorem dX9_folds_139 : decode cX9_folds 139 = .ok (.aload_n 0, 1) := by decide +kernel
theorem dX9_folds_140 : decode cX9_folds 140 = .ok (.invokevirtual 96, 3) := by decide +kernel
theorem dX9_folds_143 : decode cX9_folds 143 = .ok (.ifCond .lt 6, 3) := by decide +kernel
theorem dX9_folds_146 : decode cX9_folds 146 = .ok (.goto 11, 3) := by decide +kernel
theorem dX9_folds_149 : decode cX9_folds 149 = .ok (.aload_n 0, 1) := by decide +kernel
theorem dX9_folds_150 : decode cX9_folds 150 = .ok (.iload 5, 2) := by decide +kernel
theorem dX9_folds_152 : decode cX9_folds 152 = .ok (.invokevirtual 122, 3) := by decide +kernel
theorem dX9_folds_155 : decode cX9_folds 155 = .ok (.iconst 1, 1) := by decide +kernel
theorem dX9_folds_156 : decode cX9_folds 156 = .ok (.ireturn, 1) := by decide +kernel
theorem dX9_folds_157 : decode cX9_folds 157 = .ok (.iinc 5 1, 3) := by decide +kernel
theorem dX9_folds_160 : decode cX9_folds 160 = .ok (.goto (-60), 3) := by decide +kernel
theorem dX9_folds_163 : decode cX9_folds 163 = .ok (.iconst 0, 1) := by decide +kernel
theorem dX9_folds_164 : decode cX9_folds 164 = .ok (.ireturn, 1) := by decide +kernel
theorem dX9_powered_0 : decode cX9_powered 0 = .ok (.iconst 0, 1) := by decide +kernel
theorem dX9_powered_1 : decode cX9_powered 1 = .ok (.istore_n 2, 1) := by decide +kernel
theorem dX9_powered_2 : decode cX9_powered 2 = .ok (.iload_n 2, 1) := by decide +kernel
theorem dX9_powered_3 : decode cX9_powered 3 = .ok (.bipush 6, 2) := by decide +kernel
theorem dX9_powered_5 : decode cX9_powered 5 = .ok (.if_icmp .ge 30, 3) := by decide +kernel
theorem dX9_powered_8 : decode cX9_powered 8 = .ok (.aload_n 0, 1) := by decide +kernel
theorem dX9_powered_9 : decode cX9_powered 9 = .ok (.getfield 23, 3) := by decide +kernel
theorem dX9_powered_12 : decode cX9_powered 12 = .ok (.iload_n 2, 1) := by decide +kernel
theorem dX9_powered_13 : decode cX9_powered 13 = .ok (.aload_n 0, 1) := by decide +kernel
theorem dX9_powered_14 : decode cX9_powered 14 = .ok (.getfield 26, 3) := by decide +kernel
theorem dX9_powered_17 : decode cX9_powered 17 = .ok (.iload_n 2, 1) := by decide +kernel
theorem dX9_powered_18 : decode cX9_powered 18 = .ok (.iaload, 1) := by decide +kernel
theorem dX9_powered_19 : decode cX9_powered 19 = .ok (.iload_n 1, 1) := by decide +kernel
theorem dX9_powered_20 : decode cX9_powered 20 = .ok (.aload_n 0, 1) := by decide +kernel
theorem dX9_powered_21 : decode cX9_powered 21 = .ok (.getfield 29, 3) := by decide +kernel
theorem dX9_powered_24 : decode cX9_powered 24 = .ok (.iload_n 2, 1) := by decide +kernel
theorem dX9_powered_25 : decode cX9_powered 25 = .ok (.iaload, 1) := by decide +kernel
theorem dX9_powered_26 : decode cX9_powered 26 = .ok (.imul, 1) := by decide +kernel
theorem dX9_powered_27 : decode cX9_powered 27 = .ok (.iadd, 1) := by decide +kernel
theorem dX9_powered_28 : decode cX9_powered 28 = .ok (.iastore, 1) := by decide +kernel
theorem dX9_powered_29 : decode cX9_powered 29 = .ok (.iinc 2 1, 3) := by decide +kernel
theorem dX9_powered_32 : decode cX9_powered 32 = .ok (.goto (-30), 3) := by decide +kernel
theorem dX9_powered_35 : decode cX9_powered 35 = .ok (.return_, 1) := by decide +kernel
theorem dX9_isPeriod_0 : decode cX9_isPeriod 0 = .ok (.aload_n 0, 1) := by decide +kernel
theorem dX9_isPeriod_1 : decode cX9_isPeriod 1 = .ok (.aload_n 0, 1) := by decide +kernel
theorem dX9_isPeriod_2 : decode cX9_isPeriod 2 = .ok (.getfield 7, 3) := by decide +kernel
theorem dX9_isPeriod_5 : decode cX9_isPeriod 5 = .ok (.bipush 6, 2) := by decide +kernel
theorem dX9_isPeriod_7 : decode cX9_isPeriod 7 = .ok (.iload_n 1, 1) := by decide +kernel
theorem dX9_isPeriod_8 : decode cX9_isPeriod 8 = .ok (.imul, 1) := by decide +kernel
theorem dX9_isPeriod_9 : decode cX9_isPeriod 9 = .ok (.invokevirtual 89, 3) := by decide +kernel
theorem dX9_isPeriod_12 : decode cX9_isPeriod 12 = .ok (.aload_n 0, 1) := by decide +kernel
theorem dX9_isPeriod_13 : decode cX9_isPeriod 13 = .ok (.invokevirtual 96, 3) := by decide +kernel
theorem dX9_isPeriod_16 : decode cX9_isPeriod 16 = .ok (.ifCond .le 7, 3) := by decide +kernel
theorem dX9_isPeriod_19 : decode cX9_isPeriod 19 = .ok (.iconst 1, 1) := by decide +kernel
theorem dX9_isPeriod_20 : decode cX9_isPeriod 20 = .ok (.goto 4, 3) := by decide +kernel
theorem dX9_isPeriod_23 : decode cX9_isPeriod 23 = .ok (.iconst 0, 1) := by decide +kernel
theorem dX9_isPeriod_24 : decode cX9_isPeriod 24 = .ok (.ireturn, 1) := by decide +kernel
theorem dX9_set6_0 : decode cX9_set6 0 = .ok (.iconst 0, 1) := by decide +kernel
theorem dX9_set6_1 : decode cX9_set6 1 = .ok (.istore 4, 2) := by decide +kernel
theorem dX9_set6_3 : decode cX9_set6 3 = .ok (.iload 4, 2) := by decide +kernel
theorem dX9_set6_5 : decode cX9_set6 5 = .ok (.bipush 6, 2) := by decide +kernel
theorem dX9_set6_7 : decode cX9_set6 7 = .ok (.if_icmp .ge 19, 3) := by decide +kernel
theorem dX9_set6_10 : decode cX9_set6 10 = .ok (.aload_n 1, 1) := by decide +kernel
theorem dX9_set6_11 : decode cX9_set6 11 = .ok (.iload 4, 2) := by decide +kernel
theorem dX9_set6_13 : decode cX9_set6 13 = .ok (.aload_n 2, 1) := by decide +kernel
theorem dX9_set6_14 : decode cX9_set6 14 = .ok (.iload_n 3, 1) := by decide +kernel
theorem dX9_set6_15 : decode cX9_set6 15 = .ok (.iload 4, 2) := by decide +kernel
theorem dX9_set6_17 : decode cX9_set6 17 = .ok (.iadd, 1) := by decide +kernel
theorem dX9_set6_18 : decode cX9_set6 18 = .ok (.iaload, 1) := by decide +kernel
theorem dX9_set6_19 : decode cX9_set6 19 = .ok (.iastore, 1) := by decide +kernel
theorem dX9_set6_20 : decode cX9_set6 20 = .ok (.iinc 4 1, 3) := by decide +kernel
theorem dX9_set6_23 : decode cX9_set6 23 = .ok (.goto (-20), 3) := by decide +kernel
theorem dX9_set6_26 : decode cX9_set6 26 = .ok (.return_, 1) := by decide +kernel
theorem dX9_fold_0 : decode cX9_fold 0 = .ok (.iload_n 1, 1) := by decide +kernel
theorem dX9_fold_1 : decode cX9_fold 1 = .ok (.invokestatic 111, 3) := by decide +kernel
theorem dX9_fold_4 : decode cX9_fold 4 = .ok (.ifCond .eq 17, 3) := by decide +kernel
theorem dX9_fold_7 : decode cX9_fold 7 = .ok (.iload_n 2, 1) := by decide +kernel
theorem dX9_fold_8 : decode cX9_fold 8 = .ok (.invokestatic 111, 3) := by decide +kernel
theorem dX9_fold_11 : decode cX9_fold 11 = .ok (.ifCond .eq 10, 3) := by decide +kernel
theorem dX9_fold_14 : decode cX9_fold 14 = .ok (.iload_n 3, 1) := by decide +kernel
theorem dX9_fold_15 : decode cX9_fold 15 = .ok (.invokestatic 111, 3) := by decide +kernel
theorem dX9_fold_18 : decode cX9_fold 18 = .ok (.ifCond .ne 9, 3) := by decide +kernel
theorem dX9_fold_21 : decode cX9_fold 21 = .ok (.aload_n 0, 1) := by decide +kernel
theorem dX9_fold_22 : decode cX9_fold 22 = .ok (.iconst 1, 1) := by decide +kernel
theorem dX9_fold_23 : decode cX9_fold 23 = .ok (.invokevirtual 104, 3) := by decide +kernel
theorem dX9_fold_26 : decode cX9_fold 26 = .ok (.ireturn, 1) := by decide +kernel
theorem dX9_fold_27 : decode cX9_fold 27 = .ok (.aload_n 0, 1) := by decide +kernel
theorem dX9_fold_28 : decode cX9_fold 28 = .ok (.getfield 13, 3) := by decide +kernel
theorem dX9_fold_31 : decode cX9_fold 31 = .ok (.iload_n 1, 1) := by decide +kernel
theorem dX9_fold_32 : decode cX9_fold 32 = .ok (.baload, 1) := by decide +kernel
theorem dX9_fold_33 : decode cX9_fold 33 = .ok (.ifCond .eq 12, 3) := by decide +kernel
theorem dX9_fold_36 : decode cX9_fold 36 = .ok (.aload_n 0, 1) := by decide +kernel
theorem dX9_fold_37 : decode cX9_fold 37 = .ok (.getfield 13, 3) := by decide +kernel
theorem dX9_fold_40 : decode cX9_fold 40 = .ok (.iload_n 2, 1) := by decide +kernel
theorem dX9_fold_41 : decode cX9_fold 41 = .ok (.baload, 1) := by decide +kernel
theorem dX9_fold_42 : decode cX9_fold 42 = .ok (.ifCond .ne 9, 3) := by decide +kernel
theorem dX9_fold_45 : decode cX9_fold 45 = .ok (.aload_n 0, 1) := by decide +kernel
theorem dX9_fold_46 : decode cX9_fold 46 = .ok (.iconst 2, 1) := by decide +kernel
theorem dX9_fold_47 : decode cX9_fold 47 = .ok (.invokevirtual 104, 3) := by decide +kernel
theorem dX9_fold_50 : decode cX9_fold 50 = .ok (.ireturn, 1) := by decide +kernel
theorem dX9_fold_51 : decode cX9_fold 51 = .ok (.aload_n 0, 1) := by decide +kernel
theorem dX9_fold_52 : decode cX9_fold 52 = .ok (.iload_n 2, 1) := by decide +kernel
theorem dX9_fold_53 : decode cX9_fold 53 = .ok (.invokevirtual 126, 3) := by decide +kernel
theorem dX9_fold_56 : decode cX9_fold 56 = .ok (.ifCond .ne 9, 3) := by decide +kernel
theorem dX9_fold_59 : decode cX9_fold 59 = .ok (.aload_n 0, 1) := by decide +kernel
theorem dX9_fold_60 : decode cX9_fold 60 = .ok (.iconst 5, 1) := by decide +kernel
theorem dX9_fold_61 : decode cX9_fold 61 = .ok (.invokevirtual 104, 3) := by decide +kernel
theorem dX9_fold_64 : decode cX9_fold 64 = .ok (.ireturn, 1) := by decide +kernel
theorem dX9_fold_65 : decode cX9_fold 65 = .ok (.aload_n 0, 1) := by decide +kernel
theorem dX9_fold_66 : decode cX9_fold 66 = .ok (.aload_n 0, 1) := by decide +kernel
theorem dX9_fold_67 : decode cX9_fold 67 = .ok (.getfield 26, 3) := by decide +kernel
theorem dX9_fold_70 : decode cX9_fold 70 = .ok (.aload_n 0, 1) := by decide +kernel
theorem dX9_fold_71 : decode cX9_fold 71 = .ok (.getfield 7, 3) := by decide +kernel
theorem dX9_fold_74 : decode cX9_fold 74 = .ok (.bipush 6, 2) := by decide +kernel
theorem dX9_fold_76 : decode cX9_fold 76 = .ok (.iload_n 1, 1) := by decide +kernel
theorem dX9_fold_77 : decode cX9_fold 77 = .ok (.imul, 1) := by decide +kernel
theorem dX9_fold_78 : decode cX9_fold 78 = .ok (.invokevirtual 129, 3) := by decide +kernel
theorem dX9_fold_81 : decode cX9_fold 81 = .ok (.aload_n 0, 1) := by decide +kernel
theorem dX9_fold_82 : decode cX9_fold 82 = .ok (.aload_n 0, 1) := by decide +kernel
theorem dX9_fold_83 : decode cX9_fold 83 = .ok (.getfield 29, 3) := by decide +kernel
theorem dX9_fold_86 : decode cX9_fold 86 = .ok (.aload_n 0, 1) := by decide +kernel
theorem dX9_fold_87 : decode cX9_fold 87 = .ok (.getfield 7, 3) := by decide +kernel
theorem dX9_fold_90 : decode cX9_fold 90 = .ok (.bipush 6, 2) := by decide +kernel
theorem dX9_fold_92 : decode cX9_fold 92 = .ok (.iload_n 2, 1) := by decide +kernel
theorem dX9_fold_93 : decode cX9_fold 93 = .ok (.imul, 1) := by decide +kernel
theorem dX9_fold_94 : decode cX9_fold 94 = .ok (.invokevirtual 129, 3) := by decide +kernel
theorem dX9_fold_97 : decode cX9_fold 97 = .ok (.aload_n 0, 1) := by decide +kernel
theorem dX9_fold_98 : decode cX9_fold 98 = .ok (.invokevirtual 133, 3) := by decide +kernel
theorem dX9_fold_101 : decode cX9_fold 101 = .ok (.ifCond .eq 11, 3) := by decide +kernel
theorem dX9_fold_104 : decode cX9_fold 104 = .ok (.aload_n 0, 1) := by decide +kernel
theorem dX9_fold_105 : decode cX9_fold 105 = .ok (.iload_n 3, 1) := by decide +kernel
theorem dX9_fold_106 : decode cX9_fold 106 = .ok (.invokevirtual 114, 3) := by decide +kernel
theorem dX9_fold_109 : decode cX9_fold 109 = .ok (.goto 8, 3) := by decide +kernel
theorem dX9_fold_112 : decode cX9_fold 112 = .ok (.aload_n 0, 1) := by decide +kernel
theorem dX9_fold_113 : decode cX9_fold 113 = .ok (.iconst 4, 1) := by decide +kernel
theorem dX9_fold_114 : decode cX9_fold 114 = .ok (.invokevirtual 104, 3) := by decide +kernel
theorem dX9_fold_117 : decode cX9_fold 117 = .ok (.ireturn, 1) := by decide +kernel
theorem dX9_drop_0 : decode cX9_drop 0 = .ok (.iload_n 1, 1) := by decide +kernel
theorem dX9_drop_1 : decode cX9_drop 1 = .ok (.invokestatic 111, 3) := by decide +kernel
theorem dX9_drop_4 : decode cX9_drop 4 = .ok (.ifCond .ne 9, 3) := by decide +kernel
theorem dX9_drop_7 : decode cX9_drop 7 = .ok (.aload_n 0, 1) := by decide +kernel
theorem dX9_drop_8 : decode cX9_drop 8 = .ok (.iconst 1, 1) := by decide +kernel
theorem dX9_drop_9 : decode cX9_drop 9 = .ok (.invokevirtual 104, 3) := by decide +kernel
theorem dX9_drop_12 : decode cX9_drop 12 = .ok (.ireturn, 1) := by decide +kernel
theorem dX9_drop_13 : decode cX9_drop 13 = .ok (.aload_n 0, 1) := by decide +kernel
theorem dX9_drop_14 : decode cX9_drop 14 = .ok (.getfield 13, 3) := by decide +kernel
theorem dX9_drop_17 : decode cX9_drop 17 = .ok (.iload_n 1, 1) := by decide +kernel
theorem dX9_drop_18 : decode cX9_drop 18 = .ok (.baload, 1) := by decide +kernel
theorem dX9_drop_19 : decode cX9_drop 19 = .ok (.ifCond .ne 9, 3) := by decide +kernel
theorem dX9_drop_22 : decode cX9_drop 22 = .ok (.aload_n 0, 1) := by decide +kernel
theorem dX9_drop_23 : decode cX9_drop 23 = .ok (.iconst 2, 1) := by decide +kernel
theorem dX9_drop_24 : decode cX9_drop 24 = .ok (.invokevirtual 104, 3) := by decide +kernel
theorem dX9_drop_27 : decode cX9_drop 27 = .ok (.ireturn, 1) := by decide +kernel
theorem dX9_drop_28 : decode cX9_drop 28 = .ok (.aload_n 0, 1) := by decide +kernel
theorem dX9_drop_29 : decode cX9_drop 29 = .ok (.getfield 13, 3) := by decide +kernel
theorem dX9_drop_32 : decode cX9_drop 32 = .ok (.iload_n 1, 1) := by decide +kernel
theorem dX9_drop_33 : decode cX9_drop 33 = .ok (.iconst 0, 1) := by decide +kernel
theorem dX9_drop_34 : decode cX9_drop 34 = .ok (.bastore, 1) := by decide +kernel
theorem dX9_drop_35 : decode cX9_drop 35 = .ok (.aload_n 0, 1) := by decide +kernel
theorem dX9_drop_36 : decode cX9_drop 36 = .ok (.iconst 0, 1) := by decide +kernel
theorem dX9_drop_37 : decode cX9_drop 37 = .ok (.invokevirtual 104, 3) := by decide +kernel
theorem dX9_drop_40 : decode cX9_drop 40 = .ok (.ireturn, 1) := by decide +kernel
theorem dX9_exponent_0 : decode cX9_exponent 0 = .ok (.iload_n 1, 1) := by decide +kernel
theorem dX9_exponent_1 : decode cX9_exponent 1 = .ok (.invokestatic 111, 3) := by decide +kernel
theorem dX9_exponent_4 : decode cX9_exponent 4 = .ok (.ifCond .ne 9, 3) := by decide +kernel
theorem dX9_exponent_7 : decode cX9_exponent 7 = .ok (.aload_n 0, 1) := by decide +kernel
theorem dX9_exponent_8 : decode cX9_exponent 8 = .ok (.iconst 1, 1) := by decide +kernel
theorem dX9_exponent_9 : decode cX9_exponent 9 = .ok (.invokevirtual 136, 3) := by decide +kernel
theorem dX9_exponent_12 : decode cX9_exponent 12 = .ok (.ireturn, 1) := by decide +kernel
theorem dX9_exponent_13 : decode cX9_exponent 13 = .ok (.aload_n 0, 1) := by decide +kernel
theorem dX9_exponent_14 : decode cX9_exponent 14 = .ok (.getfield 13, 3) := by decide +kernel
theorem dX9_exponent_17 : decode cX9_exponent 17 = .ok (.iload_n 1, 1) := by decide +kernel
theorem dX9_exponent_18 : decode cX9_exponent 18 = .ok (.baload, 1) := by decide +kernel
theorem dX9_exponent_19 : decode cX9_exponent 19 = .ok (.ifCond .ne 9, 3) := by decide +kernel
theorem dX9_exponent_22 : decode cX9_exponent 22 = .ok (.aload_n 0, 1) := by decide +kernel
theorem dX9_exponent_23 : decode cX9_exponent 23 = .ok (.iconst 2, 1) := by decide +kernel
theorem dX9_exponent_24 : decode cX9_exponent 24 = .ok (.invokevirtual 136, 3) := by decide +kernel
theorem dX9_exponent_27 : decode cX9_exponent 27 = .ok (.ireturn, 1) := by decide +kernel
theorem dX9_exponent_28 : decode cX9_exponent 28 = .ok (.iload_n 2, 1) := by decide +kernel
theorem dX9_exponent_29 : decode cX9_exponent 29 = .ok (.ifCond .lt 8, 3) := by decide +kernel
theorem dX9_exponent_32 : decode cX9_exponent 32 = .ok (.iload_n 2, 1) := by decide +kernel
theorem dX9_exponent_33 : decode cX9_exponent 33 = .ok (.iconst 5, 1) := by decide +kernel
theorem dX9_exponent_34 : decode cX9_exponent 34 = .ok (.if_icmp .le 9, 3) := by decide +kernel
theorem dX9_exponent_37 : decode cX9_exponent 37 = .ok (.aload_n 0, 1) := by decide +kernel
theorem dX9_exponent_38 : decode cX9_exponent 38 = .ok (.iconst 3, 1) := by decide +kernel
theorem dX9_exponent_39 : decode cX9_exponent 39 = .ok (.invokevirtual 136, 3) := by decide +kernel
theorem dX9_exponent_42 : decode cX9_exponent 42 = .ok (.ireturn, 1) := by decide +kernel
theorem dX9_exponent_43 : decode cX9_exponent 43 = .ok (.aload_n 0, 1) := by decide +kernel
theorem dX9_exponent_44 : decode cX9_exponent 44 = .ok (.iconst 0, 1) := by decide +kernel
theorem dX9_exponent_45 : decode cX9_exponent 45 = .ok (.putfield 66, 3) := by decide +kernel
theorem dX9_exponent_48 : decode cX9_exponent 48 = .ok (.aload_n 0, 1) := by decide +kernel
theorem dX9_exponent_49 : decode cX9_exponent 49 = .ok (.getfield 7, 3) := by decide +kernel
theorem dX9_exponent_52 : decode cX9_exponent 52 = .ok (.bipush 6, 2) := by decide +kernel
theorem dX9_exponent_54 : decode cX9_exponent 54 = .ok (.iload_n 1, 1) := by decide +kernel
theorem dX9_exponent_55 : decode cX9_exponent 55 = .ok (.imul, 1) := by decide +kernel
theorem dX9_exponent_56 : decode cX9_exponent 56 = .ok (.iload_n 2, 1) := by decide +kernel
theorem dX9_exponent_57 : decode cX9_exponent 57 = .ok (.iadd, 1) := by decide +kernel
theorem dX9_exponent_58 : decode cX9_exponent 58 = .ok (.iaload, 1) := by decide +kernel
theorem dX9_exponent_59 : decode cX9_exponent 59 = .ok (.ireturn, 1) := by decide +kernel
theorem dX9_order_0 : decode cX9_order 0 = .ok (.iload_n 1, 1) := by decide +kernel
theorem dX9_order_1 : decode cX9_order 1 = .ok (.invokestatic 111, 3) := by decide +kernel
theorem dX9_order_4 : decode cX9_order 4 = .ok (.ifCond .eq 10, 3) := by decide +kernel
theorem dX9_order_7 : decode cX9_order 7 = .ok (.iload_n 2, 1) := by decide +kernel
theorem dX9_order_8 : decode cX9_order 8 = .ok (.invokestatic 111, 3) := by decide +kernel
theorem dX9_order_11 : decode cX9_order 11 = .ok (.ifCond .ne 9, 3) := by decide +kernel
theorem dX9_order_14 : decode cX9_order 14 = .ok (.aload_n 0, 1) := by decide +kernel
theorem dX9_order_15 : decode cX9_order 15 = .ok (.iconst 1, 1) := by decide +kernel
theorem dX9_order_16 : decode cX9_order 16 = .ok (.invokevirtual 136, 3) := by decide +kernel
theorem dX9_order_19 : decode cX9_order 19 = .ok (.ireturn, 1) := by decide +kernel
theorem dX9_order_20 : decode cX9_order 20 = .ok (.aload_n 0, 1) := by decide +kernel
theorem dX9_order_21 : decode cX9_order 21 = .ok (.getfield 13, 3) := by decide +kernel
theorem dX9_order_24 : decode cX9_order 24 = .ok (.iload_n 1, 1) := by decide +kernel
theorem dX9_order_25 : decode cX9_order 25 = .ok (.baload, 1) := by decide +kernel
theorem dX9_order_26 : decode cX9_order 26 = .ok (.ifCond .eq 12, 3) := by decide +kernel
theorem dX9_order_29 : decode cX9_order 29 = .ok (.aload_n 0, 1) := by decide +kernel
theorem dX9_order_30 : decode cX9_order 30 = .ok (.getfield 13, 3) := by decide +kernel
theorem dX9_order_33 : decode cX9_order 33 = .ok (.iload_n 2, 1) := by decide +kernel
theorem dX9_order_34 : decode cX9_order 34 = .ok (.baload, 1) := by decide +kernel
theorem dX9_order_35 : decode cX9_order 35 = .ok (.ifCond .ne 9, 3) := by decide +kernel
theorem dX9_order_38 : decode cX9_order 38 = .ok (.aload_n 0, 1) := by decide +kernel
theorem dX9_order_39 : decode cX9_order 39 = .ok (.iconst 2, 1) := by decide +kernel
theorem dX9_order_40 : decode cX9_order 40 = .ok (.invokevirtual 136, 3) := by decide +kernel
theorem dX9_order_43 : decode cX9_order 43 = .ok (.ireturn, 1) := by decide +kernel
theorem dX9_order_44 : decode cX9_order 44 = .ok (.aload_n 0, 1) := by decide +kernel
theorem dX9_order_45 : decode cX9_order 45 = .ok (.iconst 0, 1) := by decide +kernel
theorem dX9_order_46 : decode cX9_order 46 = .ok (.putfield 66, 3) := by decide +kernel
theorem dX9_order_49 : decode cX9_order 49 = .ok (.aload_n 0, 1) := by decide +kernel
theorem dX9_order_50 : decode cX9_order 50 = .ok (.aload_n 0, 1) := by decide +kernel
theorem dX9_order_51 : decode cX9_order 51 = .ok (.getfield 7, 3) := by decide +kernel
theorem dX9_order_54 : decode cX9_order 54 = .ok (.bipush 6, 2) := by decide +kernel
theorem dX9_order_56 : decode cX9_order 56 = .ok (.iload_n 1, 1) := by decide +kernel
theorem dX9_order_57 : decode cX9_order 57 = .ok (.imul, 1) := by decide +kernel
theorem dX9_order_58 : decode cX9_order 58 = .ok (.aload_n 0, 1) := by decide +kernel
theorem dX9_order_59 : decode cX9_order 59 = .ok (.getfield 7, 3) := by decide +kernel
theorem dX9_order_62 : decode cX9_order 62 = .ok (.bipush 6, 2) := by decide +kernel
theorem dX9_order_64 : decode cX9_order 64 = .ok (.iload_n 2, 1) := by decide +kernel
theorem dX9_order_65 : decode cX9_order 65 = .ok (.imul, 1) := by decide +kernel
theorem dX9_order_66 : decode cX9_order 66 = .ok (.invokevirtual 139, 3) := by decide +kernel
theorem dX9_order_69 : decode cX9_order 69 = .ok (.istore_n 3, 1) := by decide +kernel
theorem dX9_order_70 : decode cX9_order 70 = .ok (.iload_n 3, 1) := by decide +kernel
theorem dX9_order_71 : decode cX9_order 71 = .ok (.ifCond .ge 8, 3) := by decide +kernel
theorem dX9_order_74 : decode cX9_order 74 = .ok (.bipush (-2), 2) := by decide +kernel
theorem dX9_order_76 : decode cX9_order 76 = .ok (.goto 4, 3) := by decide +kernel
theorem dX9_order_79 : decode cX9_order 79 = .ok (.iload_n 3, 1) := by decide +kernel
theorem dX9_order_80 : decode cX9_order 80 = .ok (.ireturn, 1) := by decide +kernel
theorem dX9_tell_0 : decode cX9_tell 0 = .ok (.aload_n 0, 1) := by decide +kernel
theorem dX9_tell_1 : decode cX9_tell 1 = .ok (.getfield 32, 3) := by decide +kernel
theorem dX9_tell_4 : decode cX9_tell 4 = .ok (.aload_n 0, 1) := by decide +kernel
theorem dX9_tell_5 : decode cX9_tell 5 = .ok (.getfield 143, 3) := by decide +kernel
theorem dX9_tell_8 : decode cX9_tell 8 = .ok (.iload_n 1, 1) := by decide +kernel
theorem dX9_tell_9 : decode cX9_tell 9 = .ok (.iastore, 1) := by decide +kernel
theorem dX9_tell_10 : decode cX9_tell 10 = .ok (.aload_n 0, 1) := by decide +kernel
theorem dX9_tell_11 : decode cX9_tell 11 = .ok (.dup, 1) := by decide +kernel
theorem dX9_tell_12 : decode cX9_tell 12 = .ok (.getfield 143, 3) := by decide +kernel
theorem dX9_tell_15 : decode cX9_tell 15 = .ok (.iconst 1, 1) := by decide +kernel
theorem dX9_tell_16 : decode cX9_tell 16 = .ok (.iadd, 1) := by decide +kernel
theorem dX9_tell_17 : decode cX9_tell 17 = .ok (.putfield 143, 3) := by decide +kernel
theorem dX9_tell_20 : decode cX9_tell 20 = .ok (.return_, 1) := by decide +kernel
theorem dX9_tellNumber_0 : decode cX9_tellNumber 0 = .ok (.iload_n 2, 1) := by decide +kernel
theorem dX9_tellNumber_1 : decode cX9_tellNumber 1 = .ok (.iconst 1, 1) := by decide +kernel
theorem dX9_tellNumber_2 : decode cX9_tellNumber 2 = .ok (.isub, 1) := by decide +kernel
theorem dX9_tellNumber_3 : decode cX9_tellNumber 3 = .ok (.istore_n 3, 1) := by decide +kernel
theorem dX9_tellNumber_4 : decode cX9_tellNumber 4 = .ok (.iload_n 3, 1) := by decide +kernel
theorem dX9_tellNumber_5 : decode cX9_tellNumber 5 = .ok (.ifCond .lt 75, 3) := by decide +kernel
theorem dX9_tellNumber_8 : decode cX9_tellNumber 8 = .ok (.ldc 146, 2) := by decide +kernel
theorem dX9_tellNumber_10 : decode cX9_tellNumber 10 = .ok (.istore 4, 2) := by decide +kernel
theorem dX9_tellNumber_12 : decode cX9_tellNumber 12 = .ok (.iload_n 3, 1) := by decide +kernel
theorem dX9_tellNumber_13 : decode cX9_tellNumber 13 = .ok (.iload_n 2, 1) := by decide +kernel
theorem dX9_tellNumber_14 : decode cX9_tellNumber 14 = .ok (.iconst 1, 1) := by decide +kernel
theorem dX9_tellNumber_15 : decode cX9_tellNumber 15 = .ok (.isub, 1) := by decide +kernel
theorem dX9_tellNumber_16 : decode cX9_tellNumber 16 = .ok (.if_icmp .ne 27, 3) := by decide +kernel
theorem dX9_tellNumber_19 : decode cX9_tellNumber 19 = .ok (.iload 4, 2) := by decide +kernel
theorem dX9_tellNumber_21 : decode cX9_tellNumber 21 = .ok (.aload_n 1, 1) := by decide +kernel
theorem dX9_tellNumber_22 : decode cX9_tellNumber 22 = .ok (.iload_n 3, 1) := by decide +kernel
theorem dX9_tellNumber_23 : decode cX9_tellNumber 23 = .ok (.iaload, 1) := by decide +kernel
theorem dX9_tellNumber_24 : decode cX9_tellNumber 24 = .ok (.if_icmp .le 19, 3) := by decide +kernel
theorem dX9_tellNumber_27 : decode cX9_tellNumber 27 = .ok (.iload 4, 2) := by decide +kernel
theorem dX9_tellNumber_29 : decode cX9_tellNumber 29 = .ok (.iconst 1, 1) := by decide +kernel
theorem dX9_tellNumber_30 : decode cX9_tellNumber 30 = .ok (.if_icmp .le 13, 3) := by decide +kernel
theorem dX9_tellNumber_33 : decode cX9_tellNumber 33 = .ok (.iload 4, 2) := by decide +kernel
theorem dX9_tellNumber_35 : decode cX9_tellNumber 35 = .ok (.bipush 10, 2) := by decide +kernel
theorem dX9_tellNumber_37 : decode cX9_tellNumber 37 = .ok (.idiv, 1) := by decide +kernel
theorem dX9_tellNumber_38 : decode cX9_tellNumber 38 = .ok (.istore 4, 2) := by decide +kernel
theorem dX9_tellNumber_40 : decode cX9_tellNumber 40 = .ok (.goto (-21), 3) := by decide +kernel
theorem dX9_tellNumber_43 : decode cX9_tellNumber 43 = .ok (.iload 4, 2) := by decide +kernel
theorem dX9_tellNumber_45 : decode cX9_tellNumber 45 = .ok (.ifCond .le 29, 3) := by decide +kernel
theorem dX9_tellNumber_48 : decode cX9_tellNumber 48 = .ok (.aload_n 0, 1) := by decide +kernel
theorem dX9_tellNumber_49 : decode cX9_tellNumber 49 = .ok (.bipush 48, 2) := by decide +kernel
theorem dX9_tellNumber_51 : decode cX9_tellNumber 51 = .ok (.aload_n 1, 1) := by decide +kernel
theorem dX9_tellNumber_52 : decode cX9_tellNumber 52 = .ok (.iload_n 3, 1) := by decide +kernel
theorem dX9_tellNumber_53 : decode cX9_tellNumber 53 = .ok (.iaload, 1) := by decide +kernel
theorem dX9_tellNumber_54 : decode cX9_tellNumber 54 = .ok (.iload 4, 2) := by decide +kernel
theorem dX9_tellNumber_56 : decode cX9_tellNumber 56 = .ok (.idiv, 1) := by decide +kernel
theorem dX9_tellNumber_57 : decode cX9_tellNumber 57 = .ok (.bipush 10, 2) := by decide +kernel
theorem dX9_tellNumber_59 : decode cX9_tellNumber 59 = .ok (.irem, 1) := by decide +kernel
theorem dX9_tellNumber_60 : decode cX9_tellNumber 60 = .ok (.iadd, 1) := by decide +kernel
theorem dX9_tellNumber_61 : decode cX9_tellNumber 61 = .ok (.invokevirtual 147, 3) := by decide +kernel
theorem dX9_tellNumber_64 : decode cX9_tellNumber 64 = .ok (.iload 4, 2) := by decide +kernel
theorem dX9_tellNumber_66 : decode cX9_tellNumber 66 = .ok (.bipush 10, 2) := by decide +kernel
theorem dX9_tellNumber_68 : decode cX9_tellNumber 68 = .ok (.idiv, 1) := by decide +kernel
theorem dX9_tellNumber_69 : decode cX9_tellNumber 69 = .ok (.istore 4, 2) := by decide +kernel
theorem dX9_tellNumber_71 : decode cX9_tellNumber 71 = .ok (.goto (-28), 3) := by decide +kernel
theorem dX9_tellNumber_74 : decode cX9_tellNumber 74 = .ok (.iinc 3 (-1), 3) := by decide +kernel
theorem dX9_tellNumber_77 : decode cX9_tellNumber 77 = .ok (.goto (-73), 3) := by decide +kernel
theorem dX9_tellNumber_80 : decode cX9_tellNumber 80 = .ok (.return_, 1) := by decide +kernel
theorem dX9_show_0 : decode cX9_show 0 = .ok (.iload_n 1, 1) := by decide +kernel
theorem dX9_show_1 : decode cX9_show 1 = .ok (.invokestatic 111, 3) := by decide +kernel
theorem dX9_show_4 : decode cX9_show 4 = .ok (.ifCond .ne 9, 3) := by decide +kernel
theorem dX9_show_7 : decode cX9_show 7 = .ok (.aload_n 0, 1) := by decide +kernel
theorem dX9_show_8 : decode cX9_show 8 = .ok (.iconst 1, 1) := by decide +kernel
theorem dX9_show_9 : decode cX9_show 9 = .ok (.invokevirtual 136, 3) := by decide +kernel
theorem dX9_show_12 : decode cX9_show 12 = .ok (.ireturn, 1) := by decide +kernel
theorem dX9_show_13 : decode cX9_show 13 = .ok (.aload_n 0, 1) := by decide +kernel
theorem dX9_show_14 : decode cX9_show 14 = .ok (.getfield 13, 3) := by decide +kernel
theorem dX9_show_17 : decode cX9_show 17 = .ok (.iload_n 1, 1) := by decide +kernel
theorem dX9_show_18 : decode cX9_show 18 = .ok (.baload, 1) := by decide +kernel
theorem dX9_show_19 : decode cX9_show 19 = .ok (.ifCond .ne 9, 3) := by decide +kernel
theorem dX9_show_22 : decode cX9_show 22 = .ok (.aload_n 0, 1) := by decide +kernel
theorem dX9_show_23 : decode cX9_show 23 = .ok (.iconst 2, 1) := by decide +kernel
theorem dX9_show_24 : decode cX9_show 24 = .ok (.invokevirtual 136, 3) := by decide +kernel
theorem dX9_show_27 : decode cX9_show 27 = .ok (.ireturn, 1) := by decide +kernel
theorem dX9_show_28 : decode cX9_show 28 = .ok (.aload_n 0, 1) := by decide +kernel
theorem dX9_show_29 : decode cX9_show 29 = .ok (.iconst 0, 1) := by decide +kernel
theorem dX9_show_30 : decode cX9_show 30 = .ok (.putfield 66, 3) := by decide +kernel
theorem dX9_show_33 : decode cX9_show 33 = .ok (.aload_n 0, 1) := by decide +kernel
theorem dX9_show_34 : decode cX9_show 34 = .ok (.aload_n 0, 1) := by decide +kernel
theorem dX9_show_35 : decode cX9_show 35 = .ok (.getfield 7, 3) := by decide +kernel
theorem dX9_show_38 : decode cX9_show 38 = .ok (.bipush 6, 2) := by decide +kernel
theorem dX9_show_40 : decode cX9_show 40 = .ok (.iload_n 1, 1) := by decide +kernel
theorem dX9_show_41 : decode cX9_show 41 = .ok (.imul, 1) := by decide +kernel
theorem dX9_show_42 : decode cX9_show 42 = .ok (.invokevirtual 89, 3) := by decide +kernel
theorem dX9_show_45 : decode cX9_show 45 = .ok (.aload_n 0, 1) := by decide +kernel
theorem dX9_show_46 : decode cX9_show 46 = .ok (.invokevirtual 86, 3) := by decide +kernel
theorem dX9_show_49 : decode cX9_show 49 = .ok (.aload_n 0, 1) := by decide +kernel
theorem dX9_show_50 : decode cX9_show 50 = .ok (.iconst 0, 1) := by decide +kernel
theorem dX9_show_51 : decode cX9_show 51 = .ok (.putfield 143, 3) := by decide +kernel
theorem dX9_show_54 : decode cX9_show 54 = .ok (.aload_n 0, 1) := by decide +kernel
theorem dX9_show_55 : decode cX9_show 55 = .ok (.aload_n 0, 1) := by decide +kernel
theorem dX9_show_56 : decode cX9_show 56 = .ok (.getfield 17, 3) := by decide +kernel
theorem dX9_show_59 : decode cX9_show 59 = .ok (.aload_n 0, 1) := by decide +kernel
theorem dX9_show_60 : decode cX9_show 60 = .ok (.getfield 72, 3) := by decide +kernel
theorem dX9_show_63 : decode cX9_show 63 = .ok (.invokevirtual 150, 3) := by decide +kernel
theorem dX9_show_66 : decode cX9_show 66 = .ok (.aload_n 0, 1) := by decide +kernel
theorem dX9_show_67 : decode cX9_show 67 = .ok (.bipush 47, 2) := by decide +kernel
theorem dX9_show_69 : decode cX9_show 69 = .ok (.invokevirtual 147, 3) := by decide +kernel
theorem dX9_show_72 : decode cX9_show 72 = .ok (.aload_n 0, 1) := by decide +kernel
theorem dX9_show_73 : decode cX9_show 73 = .ok (.aload_n 0, 1) := by decide +kernel
theorem dX9_show_74 : decode cX9_show 74 = .ok (.getfield 20, 3) := by decide +kernel
theorem dX9_show_77 : decode cX9_show 77 = .ok (.aload_n 0, 1) := by decide +kernel
theorem dX9_show_78 : decode cX9_show 78 = .ok (.getfield 75, 3) := by decide +kernel
theorem dX9_show_81 : decode cX9_show 81 = .ok (.invokevirtual 150, 3) := by decide +kernel
theorem dX9_show_84 : decode cX9_show 84 = .ok (.aload_n 0, 1) := by decide +kernel
theorem dX9_show_85 : decode cX9_show 85 = .ok (.getfield 143, 3) := by decide +kernel
theorem dX9_show_88 : decode cX9_show 88 = .ok (.ireturn, 1) := by decide +kernel
theorem dX9_out_0 : decode cX9_out 0 = .ok (.iload_n 1, 1) := by decide +kernel
theorem dX9_out_1 : decode cX9_out 1 = .ok (.ifCond .lt 20, 3) := by decide +kernel
theorem dX9_out_4 : decode cX9_out 4 = .ok (.iload_n 1, 1) := by decide +kernel
theorem dX9_out_5 : decode cX9_out 5 = .ok (.aload_n 0, 1) := by decide +kernel
theorem dX9_out_6 : decode cX9_out 6 = .ok (.getfield 143, 3) := by decide +kernel
theorem dX9_out_9 : decode cX9_out 9 = .ok (.if_icmp .ge 12, 3) := by decide +kernel
theorem dX9_out_12 : decode cX9_out 12 = .ok (.aload_n 0, 1) := by decide +kernel
theorem dX9_out_13 : decode cX9_out 13 = .ok (.getfield 32, 3) := by decide +kernel
theorem dX9_out_16 : decode cX9_out 16 = .ok (.iload_n 1, 1) := by decide +kernel
theorem dX9_out_17 : decode cX9_out 17 = .ok (.iaload, 1) := by decide +kernel
theorem dX9_out_18 : decode cX9_out 18 = .ok (.goto 4, 3) := by decide +kernel
theorem dX9_out_21 : decode cX9_out 21 = .ok (.iconst (-1), 1) := by decide +kernel
theorem dX9_out_22 : decode cX9_out 22 = .ok (.ireturn, 1) := by decide +kernel
theorem dX9_mapOf_0 : decode cX9_mapOf 0 = .ok (.iload_n 2, 1) := by decide +kernel
theorem dX9_mapOf_1 : decode cX9_mapOf 1 = .ok (.ifCond .ne 5, 3) := by decide +kernel
theorem dX9_mapOf_4 : decode cX9_mapOf 4 = .ok (.iload_n 1, 1) := by decide +kernel
theorem dX9_mapOf_5 : decode cX9_mapOf 5 = .ok (.ireturn, 1) := by decide +kernel
theorem dX9_mapOf_6 : decode cX9_mapOf 6 = .ok (.aload_n 0, 1) := by decide +kernel
theorem dX9_mapOf_7 : decode cX9_mapOf 7 = .ok (.getfield 35, 3) := by decide +kernel
theorem dX9_mapOf_10 : decode cX9_mapOf 10 = .ok (.bipush 6, 2) := by decide +kernel
theorem dX9_mapOf_12 : decode cX9_mapOf 12 = .ok (.iload_n 1, 1) := by decide +kernel
theorem dX9_mapOf_13 : decode cX9_mapOf 13 = .ok (.imul, 1) := by decide +kernel
theorem dX9_mapOf_14 : decode cX9_mapOf 14 = .ok (.iload_n 2, 1) := by decide +kernel
theorem dX9_mapOf_15 : decode cX9_mapOf 15 = .ok (.iadd, 1) := by decide +kernel
theorem dX9_mapOf_16 : decode cX9_mapOf 16 = .ok (.iaload, 1) := by decide +kernel
theorem dX9_mapOf_17 : decode cX9_mapOf 17 = .ok (.ifCond .le 15, 3) := by decide +kernel
theorem dX9_mapOf_20 : decode cX9_mapOf 20 = .ok (.aload_n 0, 1) := by decide +kernel
theorem dX9_mapOf_21 : decode cX9_mapOf 21 = .ok (.getfield 35, 3) := by decide +kernel
theorem dX9_mapOf_24 : decode cX9_mapOf 24 = .ok (.bipush 6, 2) := by decide +kernel
theorem dX9_mapOf_26 : decode cX9_mapOf 26 = .ok (.iload_n 1, 1) := by decide +kernel
theorem dX9_mapOf_27 : decode cX9_mapOf 27 = .ok (.imul, 1) := by decide +kernel
theorem dX9_mapOf_28 : decode cX9_mapOf 28 = .ok (.iload_n 2, 1) := by decide +kernel
theorem dX9_mapOf_29 : decode cX9_mapOf 29 = .ok (.iadd, 1) := by decide +kernel
theorem dX9_mapOf_30 : decode cX9_mapOf 30 = .ok (.iaload, 1) := by decide +kernel
theorem dX9_mapOf_31 : decode cX9_mapOf 31 = .ok (.ireturn, 1) := by decide +kernel
theorem dX9_mapOf_32 : decode cX9_mapOf 32 = .ok (.iload_n 1, 1) := by decide +kernel
theorem dX9_mapOf_33 : decode cX9_mapOf 33 = .ok (.istore_n 3, 1) := by decide +kernel
theorem dX9_mapOf_34 : decode cX9_mapOf 34 = .ok (.iconst 4, 1) := by decide +kernel
theorem dX9_mapOf_35 : decode cX9_mapOf 35 = .ok (.iload_n 1, 1) := by decide +kernel
theorem dX9_mapOf_36 : decode cX9_mapOf 36 = .ok (.imul, 1) := by decide +kernel
theorem dX9_mapOf_37 : decode cX9_mapOf 37 = .ok (.istore 4, 2) := by decide +kernel
theorem dX9_mapOf_39 : decode cX9_mapOf 39 = .ok (.iload_n 3, 1) := by decide +kernel
theorem dX9_mapOf_40 : decode cX9_mapOf 40 = .ok (.iload 4, 2) := by decide +kernel
theorem dX9_mapOf_42 : decode cX9_mapOf 42 = .ok (.if_icmp .ge 79, 3) := by decide +kernel
theorem dX9_mapOf_45 : decode cX9_mapOf 45 = .ok (.iload_n 3, 1) := by decide +kernel
theorem dX9_mapOf_46 : decode cX9_mapOf 46 = .ok (.iload 4, 2) := by decide +kernel
theorem dX9_mapOf_48 : decode cX9_mapOf 48 = .ok (.iadd, 1) := by decide +kernel
theorem dX9_mapOf_49 : decode cX9_mapOf 49 = .ok (.iconst 2, 1) := by decide +kernel
theorem dX9_mapOf_50 : decode cX9_mapOf 50 = .ok (.idiv, 1) := by decide +kernel
theorem dX9_mapOf_51 : decode cX9_mapOf 51 = .ok (.istore 5, 2) := by decide +kernel
theorem dX9_mapOf_53 : decode cX9_mapOf 53 = .ok (.iconst 0, 1) := by decide +kernel
theorem dX9_mapOf_54 : decode cX9_mapOf 54 = .ok (.istore 6, 2) := by decide +kernel
theorem dX9_mapOf_56 : decode cX9_mapOf 56 = .ok (.iload 6, 2) := by decide +kernel
theorem dX9_mapOf_58 : decode cX9_mapOf 58 = .ok (.bipush 6, 2) := by decide +kernel
theorem dX9_mapOf_60 : decode cX9_mapOf 60 = .ok (.if_icmp .ge 17, 3) := by decide +kernel
theorem dX9_mapOf_63 : decode cX9_mapOf 63 = .ok (.aload_n 0, 1) := by decide +kernel
theorem dX9_mapOf_64 : decode cX9_mapOf 64 = .ok (.getfield 23, 3) := by decide +kernel
theorem dX9_mapOf_67 : decode cX9_mapOf 67 = .ok (.iload 6, 2) := by decide +kernel
theorem dX9_mapOf_69 : decode cX9_mapOf 69 = .ok (.iconst 0, 1) := by decide +kernel
theorem dX9_mapOf_70 : decode cX9_mapOf 70 = .ok (.iastore, 1) := by decide +kernel
theorem dX9_mapOf_71 : decode cX9_mapOf 71 = .ok (.iinc 6 1, 3) := by decide +kernel
theorem dX9_mapOf_74 : decode cX9_mapOf 74 = .ok (.goto (-18), 3) := by decide +kernel
theorem dX9_mapOf_77 : decode cX9_mapOf 77 = .ok (.aload_n 0, 1) := by decide +kernel
theorem dX9_mapOf_78 : decode cX9_mapOf 78 = .ok (.getfield 23, 3) := by decide +kernel
theorem dX9_mapOf_81 : decode cX9_mapOf 81 = .ok (.iload_n 2, 1) := by decide +kernel
theorem dX9_mapOf_82 : decode cX9_mapOf 82 = .ok (.iconst 2, 1) := by decide +kernel
theorem dX9_mapOf_83 : decode cX9_mapOf 83 = .ok (.iload_n 1, 1) := by decide +kernel
theorem dX9_mapOf_84 : decode cX9_mapOf 84 = .ok (.imul, 1) := by decide +kernel
theorem dX9_mapOf_85 : decode cX9_mapOf 85 = .ok (.iastore, 1) := by decide +kernel
theorem dX9_mapOf_86 : decode cX9_mapOf 86 = .ok (.aload_n 0, 1) := by decide +kernel
theorem dX9_mapOf_87 : decode cX9_mapOf 87 = .ok (.getfield 23, 3) := by decide +kernel
theorem dX9_mapOf_90 : decode cX9_mapOf 90 = .ok (.iconst 0, 1) := by decide +kernel
theorem dX9_mapOf_91 : decode cX9_mapOf 91 = .ok (.bipush (-2), 2) := by decide +kernel
theorem dX9_mapOf_93 : decode cX9_mapOf 93 = .ok (.iload 5, 2) := by decide +kernel
theorem dX9_mapOf_95 : decode cX9_mapOf 95 = .ok (.imul, 1) := by decide +kernel
theorem dX9_mapOf_96 : decode cX9_mapOf 96 = .ok (.iconst 1, 1) := by decide +kernel
theorem dX9_mapOf_97 : decode cX9_mapOf 97 = .ok (.isub, 1) := by decide +kernel
theorem dX9_mapOf_98 : decode cX9_mapOf 98 = .ok (.iastore, 1) := by decide +kernel
theorem dX9_mapOf_99 : decode cX9_mapOf 99 = .ok (.aload_n 0, 1) := by decide +kernel
theorem dX9_mapOf_100 : decode cX9_mapOf 100 = .ok (.invokevirtual 96, 3) := by decide +kernel
theorem dX9_mapOf_103 : decode cX9_mapOf 103 = .ok (.ifCond .ge 10, 3) := by decide +kernel
theorem dX9_mapOf_106 : decode cX9_mapOf 106 = .ok (.iload 5, 2) := by decide +kernel
theorem dX9_mapOf_108 : decode cX9_mapOf 108 = .ok (.istore 4, 2) := by decide +kernel
theorem dX9_mapOf_110 : decode cX9_mapOf 110 = .ok (.goto 8, 3) := by decide +kernel
theorem dX9_mapOf_113 : decode cX9_mapOf 113 = .ok (.iload 5, 2) := by decide +kernel
theorem dX9_mapOf_115 : decode cX9_mapOf 115 = .ok (.iconst 1, 1) := by decide +kernel
theorem dX9_mapOf_116 : decode cX9_mapOf 116 = .ok (.iadd, 1) := by decide +kernel
theorem dX9_mapOf_117 : decode cX9_mapOf 117 = .ok (.istore_n 3, 1) := by decide +kernel
theorem dX9_mapOf_118 : decode cX9_mapOf 118 = .ok (.goto (-79), 3) := by decide +kernel
theorem dX9_mapOf_121 : decode cX9_mapOf 121 = .ok (.aload_n 0, 1) := by decide +kernel
theorem dX9_mapOf_122 : decode cX9_mapOf 122 = .ok (.getfield 35, 3) := by decide +kernel
theorem dX9_mapOf_125 : decode cX9_mapOf 125 = .ok (.bipush 6, 2) := by decide +kernel
theorem dX9_mapOf_127 : decode cX9_mapOf 127 = .ok (.iload_n 1, 1) := by decide +kernel
theorem dX9_mapOf_128 : decode cX9_mapOf 128 = .ok (.imul, 1) := by decide +kernel
theorem dX9_mapOf_129 : decode cX9_mapOf 129 = .ok (.iload_n 2, 1) := by decide +kernel
theorem dX9_mapOf_130 : decode cX9_mapOf 130 = .ok (.iadd, 1) := by decide +kernel
theorem dX9_mapOf_131 : decode cX9_mapOf 131 = .ok (.iload_n 3, 1) := by decide +kernel
theorem dX9_mapOf_132 : decode cX9_mapOf 132 = .ok (.iastore, 1) := by decide +kernel
theorem dX9_mapOf_133 : decode cX9_mapOf 133 = .ok (.iload_n 3, 1) := by decide +kernel
theorem dX9_mapOf_134 : decode cX9_mapOf 134 = .ok (.ireturn, 1) := by decide +kernel
theorem dX9_isDivision_0 : decode cX9_isDivision 0 = .ok (.iload_n 0, 1) := by decide +kernel
theorem dX9_isDivision_1 : decode cX9_isDivision 1 = .ok (.iconst 1, 1) := by decide +kernel
theorem dX9_isDivision_2 : decode cX9_isDivision 2 = .ok (.if_icmp .lt 13, 3) := by decide +kernel
theorem dX9_isDivision_5 : decode cX9_isDivision 5 = .ok (.iload_n 0, 1) := by decide +kernel
theorem dX9_isDivision_6 : decode cX9_isDivision 6 = .ok (.bipush 99, 2) := by decide +kernel
theorem dX9_isDivision_8 : decode cX9_isDivision 8 = .ok (.if_icmp .gt 7, 3) := by decide +kernel
theorem dX9_isDivision_11 : decode cX9_isDivision 11 = .ok (.iconst 1, 1) := by decide +kernel
theorem dX9_isDivision_12 : decode cX9_isDivision 12 = .ok (.goto 4, 3) := by decide +kernel
theorem dX9_isDivision_15 : decode cX9_isDivision 15 = .ok (.iconst 0, 1) := by decide +kernel
theorem dX9_isDivision_16 : decode cX9_isDivision 16 = .ok (.ireturn, 1) := by decide +kernel
theorem dX9_map_0 : decode cX9_map 0 = .ok (.iload_n 1, 1) := by decide +kernel
theorem dX9_map_1 : decode cX9_map 1 = .ok (.invokestatic 153, 3) := by decide +kernel
theorem dX9_map_4 : decode cX9_map 4 = .ok (.ifCond .eq 12, 3) := by decide +kernel
theorem dX9_map_7 : decode cX9_map 7 = .ok (.iload_n 2, 1) := by decide +kernel
theorem dX9_map_8 : decode cX9_map 8 = .ok (.ifCond .lt 8, 3) := by decide +kernel
theorem dX9_map_11 : decode cX9_map 11 = .ok (.iload_n 2, 1) := by decide +kernel
theorem dX9_map_12 : decode cX9_map 12 = .ok (.iconst 5, 1) := by decide +kernel
theorem dX9_map_13 : decode cX9_map 13 = .ok (.if_icmp .le 9, 3) := by decide +kernel
theorem dX9_map_16 : decode cX9_map 16 = .ok (.aload_n 0, 1) := by decide +kernel
theorem dX9_map_17 : decode cX9_map 17 = .ok (.iconst 3, 1) := by decide +kernel
theorem dX9_map_18 : decode cX9_map 18 = .ok (.invokevirtual 136, 3) := by decide +kernel
theorem dX9_map_21 : decode cX9_map 21 = .ok (.ireturn, 1) := by decide +kernel
theorem dX9_map_22 : decode cX9_map 22 = .ok (.aload_n 0, 1) := by decide +kernel
theorem dX9_map_23 : decode cX9_map 23 = .ok (.iconst 0, 1) := by decide +kernel
theorem dX9_map_24 : decode cX9_map 24 = .ok (.putfield 66, 3) := by decide +kernel
theorem dX9_map_27 : decode cX9_map 27 = .ok (.aload_n 0, 1) := by decide +kernel
theorem dX9_map_28 : decode cX9_map 28 = .ok (.iload_n 1, 1) := by decide +kernel
theorem dX9_map_29 : decode cX9_map 29 = .ok (.iload_n 2, 1) := by decide +kernel
theorem dX9_map_30 : decode cX9_map 30 = .ok (.invokevirtual 156, 3) := by decide +kernel
theorem dX9_map_33 : decode cX9_map 33 = .ok (.ireturn, 1) := by decide +kernel
theorem dX9_stepsOf_0 : decode cX9_stepsOf 0 = .ok (.iconst 0, 1) := by decide +kernel
theorem dX9_stepsOf_1 : decode cX9_stepsOf 1 = .ok (.istore 4, 2) := by decide +kernel
theorem dX9_stepsOf_3 : decode cX9_stepsOf 3 = .ok (.iconst 0, 1) := by decide +kernel
theorem dX9_stepsOf_4 : decode cX9_stepsOf 4 = .ok (.istore 5, 2) := by decide +kernel
theorem dX9_stepsOf_6 : decode cX9_stepsOf 6 = .ok (.iload 5, 2) := by decide +kernel
theorem dX9_stepsOf_8 : decode cX9_stepsOf 8 = .ok (.bipush 6, 2) := by decide +kernel
theorem dX9_stepsOf_10 : decode cX9_stepsOf 10 = .ok (.if_icmp .ge 28, 3) := by decide +kernel
theorem dX9_stepsOf_13 : decode cX9_stepsOf 13 = .ok (.iload 4, 2) := by decide +kernel
theorem dX9_stepsOf_15 : decode cX9_stepsOf 15 = .ok (.aload_n 1, 1) := by decide +kernel
theorem dX9_stepsOf_16 : decode cX9_stepsOf 16 = .ok (.iload_n 2, 1) := by decide +kernel
theorem dX9_stepsOf_17 : decode cX9_stepsOf 17 = .ok (.iload 5, 2) := by decide +kernel
theorem dX9_stepsOf_19 : decode cX9_stepsOf 19 = .ok (.iadd, 1) := by decide +kernel
theorem dX9_stepsOf_20 : decode cX9_stepsOf 20 = .ok (.iaload, 1) := by decide +kernel
theorem dX9_stepsOf_21 : decode cX9_stepsOf 21 = .ok (.aload_n 0, 1) := by decide +kernel
theorem dX9_stepsOf_22 : decode cX9_stepsOf 22 = .ok (.iload_n 3, 1) := by decide +kernel
theorem dX9_stepsOf_23 : decode cX9_stepsOf 23 = .ok (.iload 5, 2) := by decide +kernel
theorem dX9_stepsOf_25 : decode cX9_stepsOf 25 = .ok (.invokevirtual 156, 3) := by decide +kernel
theorem dX9_stepsOf_28 : decode cX9_stepsOf 28 = .ok (.imul, 1) := by decide +kernel
theorem dX9_stepsOf_29 : decode cX9_stepsOf 29 = .ok (.iadd, 1) := by decide +kernel
theorem dX9_stepsOf_30 : decode cX9_stepsOf 30 = .ok (.istore 4, 2) := by decide +kernel
theorem dX9_stepsOf_32 : decode cX9_stepsOf 32 = .ok (.iinc 5 1, 3) := by decide +kernel
theorem dX9_stepsOf_35 : decode cX9_stepsOf 35 = .ok (.goto (-29), 3) := by decide +kernel
theorem dX9_stepsOf_38 : decode cX9_stepsOf 38 = .ok (.iload 4, 2) := by decide +kernel
theorem dX9_stepsOf_40 : decode cX9_stepsOf 40 = .ok (.ireturn, 1) := by decide +kernel
theorem dX9_steps_0 : decode cX9_steps 0 = .ok (.iload_n 1, 1) := by decide +kernel
theorem dX9_steps_1 : decode cX9_steps 1 = .ok (.invokestatic 111, 3) := by decide +kernel
theorem dX9_steps_4 : decode cX9_steps 4 = .ok (.ifCond .ne 9, 3) := by decide +kernel
theorem dX9_steps_7 : decode cX9_steps 7 = .ok (.aload_n 0, 1) := by decide +kernel
theorem dX9_steps_8 : decode cX9_steps 8 = .ok (.iconst 1, 1) := by decide +kernel
theorem dX9_steps_9 : decode cX9_steps 9 = .ok (.invokevirtual 136, 3) := by decide +kernel
theorem dX9_steps_12 : decode cX9_steps 12 = .ok (.ireturn, 1) := by decide +kernel
theorem dX9_steps_13 : decode cX9_steps 13 = .ok (.aload_n 0, 1) := by decide +kernel
theorem dX9_steps_14 : decode cX9_steps 14 = .ok (.getfield 13, 3) := by decide +kernel
theorem dX9_steps_17 : decode cX9_steps 17 = .ok (.iload_n 1, 1) := by decide +kernel
theorem dX9_steps_18 : decode cX9_steps 18 = .ok (.baload, 1) := by decide +kernel
theorem dX9_steps_19 : decode cX9_steps 19 = .ok (.ifCond .ne 9, 3) := by decide +kernel
theorem dX9_steps_22 : decode cX9_steps 22 = .ok (.aload_n 0, 1) := by decide +kernel
theorem dX9_steps_23 : decode cX9_steps 23 = .ok (.iconst 2, 1) := by decide +kernel
theorem dX9_steps_24 : decode cX9_steps 24 = .ok (.invokevirtual 136, 3) := by decide +kernel
theorem dX9_steps_27 : decode cX9_steps 27 = .ok (.ireturn, 1) := by decide +kernel
theorem dX9_steps_28 : decode cX9_steps 28 = .ok (.iload_n 2, 1) := by decide +kernel
theorem dX9_steps_29 : decode cX9_steps 29 = .ok (.invokestatic 153, 3) := by decide +kernel
theorem dX9_steps_32 : decode cX9_steps 32 = .ok (.ifCond .ne 9, 3) := by decide +kernel
theorem dX9_steps_35 : decode cX9_steps 35 = .ok (.aload_n 0, 1) := by decide +kernel
theorem dX9_steps_36 : decode cX9_steps 36 = .ok (.iconst 3, 1) := by decide +kernel
theorem dX9_steps_37 : decode cX9_steps 37 = .ok (.invokevirtual 136, 3) := by decide +kernel
theorem dX9_steps_40 : decode cX9_steps 40 = .ok (.ireturn, 1) := by decide +kernel
theorem dX9_steps_41 : decode cX9_steps 41 = .ok (.aload_n 0, 1) := by decide +kernel
theorem dX9_steps_42 : decode cX9_steps 42 = .ok (.iconst 0, 1) := by decide +kernel
theorem dX9_steps_43 : decode cX9_steps 43 = .ok (.putfield 66, 3) := by decide +kernel
theorem dX9_steps_46 : decode cX9_steps 46 = .ok (.aload_n 0, 1) := by decide +kernel
theorem dX9_steps_47 : decode cX9_steps 47 = .ok (.aload_n 0, 1) := by decide +kernel
theorem dX9_steps_48 : decode cX9_steps 48 = .ok (.getfield 7, 3) := by decide +kernel
theorem dX9_steps_51 : decode cX9_steps 51 = .ok (.bipush 6, 2) := by decide +kernel
theorem dX9_steps_53 : decode cX9_steps 53 = .ok (.iload_n 1, 1) := by decide +kernel
theorem dX9_steps_54 : decode cX9_steps 54 = .ok (.imul, 1) := by decide +kernel
theorem dX9_steps_55 : decode cX9_steps 55 = .ok (.iload_n 2, 1) := by decide +kernel
theorem dX9_steps_56 : decode cX9_steps 56 = .ok (.invokevirtual 159, 3) := by decide +kernel
theorem dX9_steps_59 : decode cX9_steps 59 = .ok (.ireturn, 1) := by decide +kernel
theorem dX9_comma_0 : decode cX9_comma 0 = .ok (.iload_n 1, 1) := by decide +kernel
theorem dX9_comma_1 : decode cX9_comma 1 = .ok (.invokestatic 111, 3) := by decide +kernel
theorem dX9_comma_4 : decode cX9_comma 4 = .ok (.ifCond .ne 9, 3) := by decide +kernel
theorem dX9_comma_7 : decode cX9_comma 7 = .ok (.aload_n 0, 1) := by decide +kernel
theorem dX9_comma_8 : decode cX9_comma 8 = .ok (.iconst 1, 1) := by decide +kernel
theorem dX9_comma_9 : decode cX9_comma 9 = .ok (.invokevirtual 136, 3) := by decide +kernel
theorem dX9_comma_12 : decode cX9_comma 12 = .ok (.ireturn, 1) := by decide +kernel
theorem dX9_comma_13 : decode cX9_comma 13 = .ok (.aload_n 0, 1) := by decide +kernel
theorem dX9_comma_14 : decode cX9_comma 14 = .ok (.getfield 13, 3) := by decide +kernel
theorem dX9_comma_17 : decode cX9_comma 17 = .ok (.iload_n 1, 1) := by decide +kernel
theorem dX9_comma_18 : decode cX9_comma 18 = .ok (.baload, 1) := by decide +kernel
theorem dX9_comma_19 : decode cX9_comma 19 = .ok (.ifCond .ne 9, 3) := by decide +kernel
theorem dX9_comma_22 : decode cX9_comma 22 = .ok (.aload_n 0, 1) := by decide +kernel
theorem dX9_comma_23 : decode cX9_comma 23 = .ok (.iconst 2, 1) := by decide +kernel
theorem dX9_comma_24 : decode cX9_comma 24 = .ok (.invokevirtual 136, 3) := by decide +kernel
theorem dX9_comma_27 : decode cX9_comma 27 = .ok (.ireturn, 1) := by decide +kernel
theorem dX9_comma_28 : decode cX9_comma 28 = .ok (.aload_n 0, 1) := by decide +kernel
theorem dX9_comma_29 : decode cX9_comma 29 = .ok (.aload_n 0, 1) := by decide +kernel
theorem dX9_comma_30 : decode cX9_comma 30 = .ok (.getfield 7, 3) := by decide +kernel
theorem dX9_comma_33 : decode cX9_comma 33 = .ok (.bipush 6, 2) := by decide +kernel
theorem dX9_comma_35 : decode cX9_comma 35 = .ok (.iload_n 1, 1) := by decide +kernel
theorem dX9_comma_36 : decode cX9_comma 36 = .ok (.imul, 1) := by decide +kernel
theorem dX9_comma_37 : decode cX9_comma 37 = .ok (.invokevirtual 89, 3) := by decide +kernel
theorem dX9_comma_40 : decode cX9_comma 40 = .ok (.aload_n 0, 1) := by decide +kernel
theorem dX9_comma_41 : decode cX9_comma 41 = .ok (.invokevirtual 96, 3) := by decide +kernel
theorem dX9_comma_44 : decode cX9_comma 44 = .ok (.ifCond .ne 9, 3) := by decide +kernel
theorem dX9_comma_47 : decode cX9_comma 47 = .ok (.aload_n 0, 1) := by decide +kernel
theorem dX9_comma_48 : decode cX9_comma 48 = .ok (.iconst 5, 1) := by decide +kernel
theorem dX9_comma_49 : decode cX9_comma 49 = .ok (.invokevirtual 136, 3) := by decide +kernel
theorem dX9_comma_52 : decode cX9_comma 52 = .ok (.ireturn, 1) := by decide +kernel
theorem dX9_comma_53 : decode cX9_comma 53 = .ok (.aload_n 0, 1) := by decide +kernel
theorem dX9_comma_54 : decode cX9_comma 54 = .ok (.getfield 162, 3) := by decide +kernel
theorem dX9_comma_57 : decode cX9_comma 57 = .ok (.iconst 5, 1) := by decide +kernel
theorem dX9_comma_58 : decode cX9_comma 58 = .ok (.if_icmp .ne 10, 3) := by decide +kernel
theorem dX9_comma_61 : decode cX9_comma 61 = .ok (.aload_n 0, 1) := by decide +kernel
theorem dX9_comma_62 : decode cX9_comma 62 = .ok (.bipush 6, 2) := by decide +kernel
theorem dX9_comma_64 : decode cX9_comma 64 = .ok (.invokevirtual 136, 3) := by decide +kernel
theorem dX9_comma_67 : decode cX9_comma 67 = .ok (.ireturn, 1) := by decide +kernel
theorem dX9_comma_68 : decode cX9_comma 68 = .ok (.aload_n 0, 1) := by decide +kernel
theorem dX9_comma_69 : decode cX9_comma 69 = .ok (.iconst 0, 1) := by decide +kernel
theorem dX9_comma_70 : decode cX9_comma 70 = .ok (.putfield 66, 3) := by decide +kernel
theorem dX9_comma_73 : decode cX9_comma 73 = .ok (.aload_n 0, 1) := by decide +kernel
theorem dX9_comma_74 : decode cX9_comma 74 = .ok (.aload_n 0, 1) := by decide +kernel
theorem dX9_comma_75 : decode cX9_comma 75 = .ok (.getfield 7, 3) := by decide +kernel
theorem dX9_comma_78 : decode cX9_comma 78 = .ok (.bipush 6, 2) := by decide +kernel
theorem dX9_comma_80 : decode cX9_comma 80 = .ok (.iload_n 1, 1) := by decide +kernel
theorem dX9_comma_81 : decode cX9_comma 81 = .ok (.imul, 1) := by decide +kernel
theorem dX9_comma_82 : decode cX9_comma 82 = .ok (.invokevirtual 89, 3) := by decide +kernel
theorem dX9_comma_85 : decode cX9_comma 85 = .ok (.aload_n 0, 1) := by decide +kernel
theorem dX9_comma_86 : decode cX9_comma 86 = .ok (.aload_n 0, 1) := by decide +kernel
theorem dX9_comma_87 : decode cX9_comma 87 = .ok (.getfield 38, 3) := by decide +kernel
theorem dX9_comma_90 : decode cX9_comma 90 = .ok (.bipush 6, 2) := by decide +kernel
theorem dX9_comma_92 : decode cX9_comma 92 = .ok (.aload_n 0, 1) := by decide +kernel
theorem dX9_comma_93 : decode cX9_comma 93 = .ok (.getfield 162, 3) := by decide +kernel
theorem dX9_comma_96 : decode cX9_comma 96 = .ok (.imul, 1) := by decide +kernel
theorem dX9_comma_97 : decode cX9_comma 97 = .ok (.invokevirtual 108, 3) := by decide +kernel
theorem dX9_comma_100 : decode cX9_comma 100 = .ok (.aload_n 0, 1) := by decide +kernel
theorem dX9_comma_101 : decode cX9_comma 101 = .ok (.dup, 1) := by decide +kernel
theorem dX9_comma_102 : decode cX9_comma 102 = .ok (.getfield 162, 3) := by decide +kernel
theorem dX9_comma_105 : decode cX9_comma 105 = .ok (.iconst 1, 1) := by decide +kernel
theorem dX9_comma_106 : decode cX9_comma 106 = .ok (.iadd, 1) := by decide +kernel
theorem dX9_comma_107 : decode cX9_comma 107 = .ok (.putfield 162, 3) := by decide +kernel
theorem dX9_comma_110 : decode cX9_comma 110 = .ok (.aload_n 0, 1) := by decide +kernel
theorem dX9_comma_111 : decode cX9_comma 111 = .ok (.getfield 162, 3) := by decide +kernel
theorem dX9_comma_114 : decode cX9_comma 114 = .ok (.ireturn, 1) := by decide +kernel
theorem dX9_clear_0 : decode cX9_clear 0 = .ok (.aload_n 0, 1) := by decide +kernel
theorem dX9_clear_1 : decode cX9_clear 1 = .ok (.iconst 0, 1) := by decide +kernel
theorem dX9_clear_2 : decode cX9_clear 2 = .ok (.putfield 66, 3) := by decide +kernel
theorem dX9_clear_5 : decode cX9_clear 5 = .ok (.aload_n 0, 1) := by decide +kernel
theorem dX9_clear_6 : decode cX9_clear 6 = .ok (.getfield 162, 3) := by decide +kernel
theorem dX9_clear_9 : decode cX9_clear 9 = .ok (.istore_n 1, 1) := by decide +kernel
theorem dX9_clear_10 : decode cX9_clear 10 = .ok (.aload_n 0, 1) := by decide +kernel
theorem dX9_clear_11 : decode cX9_clear 11 = .ok (.iconst 0, 1) := by decide +kernel
theorem dX9_clear_12 : decode cX9_clear 12 = .ok (.putfield 162, 3) := by decide +kernel
theorem dX9_clear_15 : decode cX9_clear 15 = .ok (.iload_n 1, 1) := by decide +kernel
theorem dX9_clear_16 : decode cX9_clear 16 = .ok (.ireturn, 1) := by decide +kernel
theorem dX9_change_0 : decode cX9_change 0 = .ok (.iconst 0, 1) := by decide +kernel
theorem dX9_change_1 : decode cX9_change 1 = .ok (.istore_n 3, 1) := by decide +kernel
theorem dX9_change_2 : decode cX9_change 2 = .ok (.iload_n 3, 1) := by decide +kernel
theorem dX9_change_3 : decode cX9_change 3 = .ok (.bipush 6, 2) := by decide +kernel
theorem dX9_change_5 : decode cX9_change 5 = .ok (.if_icmp .ge 57, 3) := by decide +kernel
theorem dX9_change_8 : decode cX9_change 8 = .ok (.aload_n 0, 1) := by decide +kernel
theorem dX9_change_9 : decode cX9_change 9 = .ok (.getfield 41, 3) := by decide +kernel
theorem dX9_change_12 : decode cX9_change 12 = .ok (.bipush 6, 2) := by decide +kernel
theorem dX9_change_14 : decode cX9_change 14 = .ok (.iload_n 1, 1) := by decide +kernel
theorem dX9_change_15 : decode cX9_change 15 = .ok (.imul, 1) := by decide +kernel
theorem dX9_change_16 : decode cX9_change 16 = .ok (.iload_n 3, 1) := by decide +kernel
theorem dX9_change_17 : decode cX9_change 17 = .ok (.iadd, 1) := by decide +kernel
theorem dX9_change_18 : decode cX9_change 18 = .ok (.laload, 1) := by decide +kernel
theorem dX9_change_19 : decode cX9_change 19 = .ok (.lstore 4, 2) := by decide +kernel
theorem dX9_change_21 : decode cX9_change 21 = .ok (.aload_n 0, 1) := by decide +kernel
theorem dX9_change_22 : decode cX9_change 22 = .ok (.getfield 41, 3) := by decide +kernel
theorem dX9_change_25 : decode cX9_change 25 = .ok (.bipush 6, 2) := by decide +kernel
theorem dX9_change_27 : decode cX9_change 27 = .ok (.iload_n 1, 1) := by decide +kernel
theorem dX9_change_28 : decode cX9_change 28 = .ok (.imul, 1) := by decide +kernel
theorem dX9_change_29 : decode cX9_change 29 = .ok (.iload_n 3, 1) := by decide +kernel
theorem dX9_change_30 : decode cX9_change 30 = .ok (.iadd, 1) := by decide +kernel
theorem dX9_change_31 : decode cX9_change 31 = .ok (.aload_n 0, 1) := by decide +kernel
theorem dX9_change_32 : decode cX9_change 32 = .ok (.getfield 41, 3) := by decide +kernel
theorem dX9_change_35 : decode cX9_change 35 = .ok (.bipush 6, 2) := by decide +kernel
theorem dX9_change_37 : decode cX9_change 37 = .ok (.iload_n 2, 1) := by decide +kernel
theorem dX9_change_38 : decode cX9_change 38 = .ok (.imul, 1) := by decide +kernel
theorem dX9_change_39 : decode cX9_change 39 = .ok (.iload_n 3, 1) := by decide +kernel
theorem dX9_change_40 : decode cX9_change 40 = .ok (.iadd, 1) := by decide +kernel
theorem dX9_change_41 : decode cX9_change 41 = .ok (.laload, 1) := by decide +kernel
theorem dX9_change_42 : decode cX9_change 42 = .ok (.lastore, 1) := by decide +kernel
theorem dX9_change_43 : decode cX9_change 43 = .ok (.aload_n 0, 1) := by decide +kernel
theorem dX9_change_44 : decode cX9_change 44 = .ok (.getfield 41, 3) := by decide +kernel
theorem dX9_change_47 : decode cX9_change 47 = .ok (.bipush 6, 2) := by decide +kernel
theorem dX9_change_49 : decode cX9_change 49 = .ok (.iload_n 2, 1) := by decide +kernel
theorem dX9_change_50 : decode cX9_change 50 = .ok (.imul, 1) := by decide +kernel
theorem dX9_change_51 : decode cX9_change 51 = .ok (.iload_n 3, 1) := by decide +kernel
theorem dX9_change_52 : decode cX9_change 52 = .ok (.iadd, 1) := by decide +kernel
theorem dX9_change_53 : decode cX9_change 53 = .ok (.lload 4, 2) := by decide +kernel
theorem dX9_change_55 : decode cX9_change 55 = .ok (.lastore, 1) := by decide +kernel
theorem dX9_change_56 : decode cX9_change 56 = .ok (.iinc 3 1, 3) := by decide +kernel
theorem dX9_change_59 : decode cX9_change 59 = .ok (.goto (-57), 3) := by decide +kernel
theorem dX9_change_62 : decode cX9_change 62 = .ok (.return_, 1) := by decide +kernel
theorem dX9_rankOf_0 : decode cX9_rankOf 0 = .ok (.lconst 1, 1) := by decide +kernel
theorem dX9_rankOf_1 : decode cX9_rankOf 1 = .ok (.lstore_n 2, 1) := by decide +kernel
theorem dX9_rankOf_2 : decode cX9_rankOf 2 = .ok (.iconst 0, 1) := by decide +kernel
theorem dX9_rankOf_3 : decode cX9_rankOf 3 = .ok (.istore 4, 2) := by decide +kernel
theorem dX9_rankOf_5 : decode cX9_rankOf 5 = .ok (.iconst 0, 1) := by decide +kernel
theorem dX9_rankOf_6 : decode cX9_rankOf 6 = .ok (.istore 5, 2) := by decide +kernel
theorem dX9_rankOf_8 : decode cX9_rankOf 8 = .ok (.iload 5, 2) := by decide +kernel
theorem dX9_rankOf_10 : decode cX9_rankOf 10 = .ok (.bipush 6, 2) := by decide +kernel
theorem dX9_rankOf_12 : decode cX9_rankOf 12 = .ok (.if_icmp .ge 184, 3) := by decide +kernel
theorem dX9_rankOf_15 : decode cX9_rankOf 15 = .ok (.iload 4, 2) := by decide +kernel
theorem dX9_rankOf_17 : decode cX9_rankOf 17 = .ok (.iload_n 1, 1) := by decide +kernel
theorem dX9_rankOf_18 : decode cX9_rankOf 18 = .ok (.if_icmp .ge 178, 3) := by decide +kernel
theorem dX9_rankOf_21 : decode cX9_rankOf 21 = .ok (.iload 4, 2) := by decide +kernel
theorem dX9_rankOf_23 : decode cX9_rankOf 23 = .ok (.istore 6, 2) := by decide +kernel
theorem dX9_rankOf_25 : decode cX9_rankOf 25 = .ok (.iload 6, 2) := by decide +kernel
theorem dX9_rankOf_27 : decode cX9_rankOf 27 = .ok (.iload_n 1, 1) := by decide +kernel
theorem dX9_rankOf_28 : decode cX9_rankOf 28 = .ok (.if_icmp .ge 27, 3) := by decide +kernel
theorem dX9_rankOf_31 : decode cX9_rankOf 31 = .ok (.aload_n 0, 1) := by decide +kernel
theorem dX9_rankOf_32 : decode cX9_rankOf 32 = .ok (.getfield 41, 3) := by decide +kernel
theorem dX9_rankOf_35 : decode cX9_rankOf 35 = .ok (.bipush 6, 2) := by decide +kernel
theorem dX9_rankOf_37 : decode cX9_rankOf 37 = .ok (.iload 6, 2) := by decide +kernel
theorem dX9_rankOf_39 : decode cX9_rankOf 39 = .ok (.imul, 1) := by decide +kernel
theorem dX9_rankOf_40 : decode cX9_rankOf 40 = .ok (.iload 5, 2) := by decide +kernel
theorem dX9_rankOf_42 : decode cX9_rankOf 42 = .ok (.iadd, 1) := by decide +kernel
theorem dX9_rankOf_43 : decode cX9_rankOf 43 = .ok (.laload, 1) := by decide +kernel
theorem dX9_rankOf_44 : decode cX9_rankOf 44 = .ok (.lconst 0, 1) := by decide +kernel
theorem dX9_rankOf_45 : decode cX9_rankOf 45 = .ok (.lcmp, 1) := by decide +kernel
theorem dX9_rankOf_46 : decode cX9_rankOf 46 = .ok (.ifCond .ne 9, 3) := by decide +kernel
theorem dX9_rankOf_49 : decode cX9_rankOf 49 = .ok (.iinc 6 1, 3) := by decide +kernel
theorem dX9_rankOf_52 : decode cX9_rankOf 52 = .ok (.goto (-27), 3) := by decide +kernel
theorem dX9_rankOf_55 : decode cX9_rankOf 55 = .ok (.iload 6, 2) := by decide +kernel
theorem dX9_rankOf_57 : decode cX9_rankOf 57 = .ok (.iload_n 1, 1) := by decide +kernel
theorem dX9_rankOf_58 : decode cX9_rankOf 58 = .ok (.if_icmp .ne 6, 3) := by decide +kernel
theorem dX9_rankOf_61 : decode cX9_rankOf 61 = .ok (.goto 129, 3) := by decide +kernel
theorem dX9_rankOf_64 : decode cX9_rankOf 64 = .ok (.aload_n 0, 1) := by decide +kernel
theorem dX9_rankOf_65 : decode cX9_rankOf 65 = .ok (.iload 6, 2) := by decide +kernel
theorem dX9_rankOf_67 : decode cX9_rankOf 67 = .ok (.iload 4, 2) := by decide +kernel
theorem dX9_rankOf_69 : decode cX9_rankOf 69 = .ok (.invokevirtual 165, 3) := by decide +kernel
theorem dX9_rankOf_72 : decode cX9_rankOf 72 = .ok (.aload_n 0, 1) := by decide +kernel
theorem dX9_rankOf_73 : decode cX9_rankOf 73 = .ok (.getfield 41, 3) := by decide +kernel
theorem dX9_rankOf_76 : decode cX9_rankOf 76 = .ok (.bipush 6, 2) := by decide +kernel
theorem dX9_rankOf_78 : decode cX9_rankOf 78 = .ok (.iload 4, 2) := by decide +kernel
theorem dX9_rankOf_80 : decode cX9_rankOf 80 = .ok (.imul, 1) := by decide +kernel
theorem dX9_rankOf_81 : decode cX9_rankOf 81 = .ok (.iload 5, 2) := by decide +kernel
theorem dX9_rankOf_83 : decode cX9_rankOf 83 = .ok (.iadd, 1) := by decide +kernel
theorem dX9_rankOf_84 : decode cX9_rankOf 84 = .ok (.laload, 1) := by decide +kernel
theorem dX9_rankOf_85 : decode cX9_rankOf 85 = .ok (.lstore 7, 2) := by decide +kernel
theorem dX9_rankOf_87 : decode cX9_rankOf 87 = .ok (.iload 4, 2) := by decide +kernel
theorem dX9_rankOf_89 : decode cX9_rankOf 89 = .ok (.iconst 1, 1) := by decide +kernel
theorem dX9_rankOf_90 : decode cX9_rankOf 90 = .ok (.iadd, 1) := by decide +kernel
theorem dX9_rankOf_91 : decode cX9_rankOf 91 = .ok (.istore 9, 2) := by decide +kernel
theorem dX9_rankOf_93 : decode cX9_rankOf 93 = .ok (.iload 9, 2) := by decide +kernel
theorem dX9_rankOf_95 : decode cX9_rankOf 95 = .ok (.iload_n 1, 1) := by decide +kernel
theorem dX9_rankOf_96 : decode cX9_rankOf 96 = .ok (.if_icmp .ge 88, 3) := by decide +kernel
theorem dX9_rankOf_99 : decode cX9_rankOf 99 = .ok (.aload_n 0, 1) := by decide +kernel
theorem dX9_rankOf_100 : decode cX9_rankOf 100 = .ok (.getfield 41, 3) := by decide +kernel
theorem dX9_rankOf_103 : decode cX9_rankOf 103 = .ok (.bipush 6, 2) := by decide +kernel
theorem dX9_rankOf_105 : decode cX9_rankOf 105 = .ok (.iload 9, 2) := by decide +kernel
theorem dX9_rankOf_107 : decode cX9_rankOf 107 = .ok (.imul, 1) := by decide +kernel
theorem dX9_rankOf_108 : decode cX9_rankOf 108 = .ok (.iload 5, 2) := by decide +kernel
theorem dX9_rankOf_110 : decode cX9_rankOf 110 = .ok (.iadd, 1) := by decide +kernel
theorem dX9_rankOf_111 : decode cX9_rankOf 111 = .ok (.laload, 1) := by decide +kernel
theorem dX9_rankOf_112 : decode cX9_rankOf 112 = .ok (.lstore 10, 2) := by decide +kernel
theorem dX9_rankOf_114 : decode cX9_rankOf 114 = .ok (.iconst 0, 1) := by decide +kernel
theorem dX9_rankOf_115 : decode cX9_rankOf 115 = .ok (.istore 12, 2) := by decide +kernel
theorem dX9_rankOf_117 : decode cX9_rankOf 117 = .ok (.iload 12, 2) := by decide +kernel
theorem dX9_rankOf_119 : decode cX9_rankOf 119 = .ok (.bipush 6, 2) := by decide +kernel
theorem dX9_rankOf_121 : decode cX9_rankOf 121 = .ok (.if_icmp .ge 57, 3) := by decide +kernel
theorem dX9_rankOf_124 : decode cX9_rankOf 124 = .ok (.aload_n 0, 1) := by decide +kernel
theorem dX9_rankOf_125 : decode cX9_rankOf 125 = .ok (.getfield 41, 3) := by decide +kernel
theorem dX9_rankOf_128 : decode cX9_rankOf 128 = .ok (.bipush 6, 2) := by decide +kernel
theorem dX9_rankOf_130 : decode cX9_rankOf 130 = .ok (.iload 9, 2) := by decide +kernel
theorem dX9_rankOf_132 : decode cX9_rankOf 132 = .ok (.imul, 1) := by decide +kernel
theorem dX9_rankOf_133 : decode cX9_rankOf 133 = .ok (.iload 12, 2) := by decide +kernel
theorem dX9_rankOf_135 : decode cX9_rankOf 135 = .ok (.iadd, 1) := by decide +kernel
theorem dX9_rankOf_136 : decode cX9_rankOf 136 = .ok (.aload_n 0, 1) := by decide +kernel
theorem dX9_rankOf_137 : decode cX9_rankOf 137 = .ok (.getfield 41, 3) := by decide +kernel
theorem dX9_rankOf_140 : decode cX9_rankOf 140 = .ok (.bipush 6, 2) := by decide +kernel
theorem dX9_rankOf_142 : decode cX9_rankOf 142 = .ok (.iload 9, 2) := by decide +kernel
theorem dX9_rankOf_144 : decode cX9_rankOf 144 = .ok (.imul, 1) := by decide +kernel
theorem dX9_rankOf_145 : decode cX9_rankOf 145 = .ok (.iload 12, 2) := by decide +kernel
theorem dX9_rankOf_147 : decode cX9_rankOf 147 = .ok (.iadd, 1) := by decide +kernel
theorem dX9_rankOf_148 : decode cX9_rankOf 148 = .ok (.laload, 1) := by decide +kernel
theorem dX9_rankOf_149 : decode cX9_rankOf 149 = .ok (.lload 7, 2) := by decide +kernel
theorem dX9_rankOf_151 : decode cX9_rankOf 151 = .ok (.lmul, 1) := by decide +kernel
theorem dX9_rankOf_152 : decode cX9_rankOf 152 = .ok (.aload_n 0, 1) := by decide +kernel
theorem dX9_rankOf_153 : decode cX9_rankOf 153 = .ok (.getfield 41, 3) := by decide +kernel
theorem dX9_rankOf_156 : decode cX9_rankOf 156 = .ok (.bipush 6, 2) := by decide +kernel
theorem dX9_rankOf_158 : decode cX9_rankOf 158 = .ok (.iload 4, 2) := by decide +kernel
theorem dX9_rankOf_160 : decode cX9_rankOf 160 = .ok (.imul, 1) := by decide +kernel
theorem dX9_rankOf_161 : decode cX9_rankOf 161 = .ok (.iload 12, 2) := by decide +kernel
theorem dX9_rankOf_163 : decode cX9_rankOf 163 = .ok (.iadd, 1) := by decide +kernel
theorem dX9_rankOf_164 : decode cX9_rankOf 164 = .ok (.laload, 1) := by decide +kernel
theorem dX9_rankOf_165 : decode cX9_rankOf 165 = .ok (.lload 10, 2) := by decide +kernel
theorem dX9_rankOf_167 : decode cX9_rankOf 167 = .ok (.lmul, 1) := by decide +kernel
theorem dX9_rankOf_168 : decode cX9_rankOf 168 = .ok (.lsub, 1) := by decide +kernel
theorem dX9_rankOf_169 : decode cX9_rankOf 169 = .ok (.lload_n 2, 1) := by decide +kernel
theorem dX9_rankOf_170 : decode cX9_rankOf 170 = .ok (.ldiv, 1) := by decide +kernel
theorem dX9_rankOf_171 : decode cX9_rankOf 171 = .ok (.lastore, 1) := by decide +kernel
theorem dX9_rankOf_172 : decode cX9_rankOf 172 = .ok (.iinc 12 1, 3) := by decide +kernel
theorem dX9_rankOf_175 : decode cX9_rankOf 175 = .ok (.goto (-58), 3) := by decide +kernel
theorem dX9_rankOf_178 : decode cX9_rankOf 178 = .ok (.iinc 9 1, 3) := by decide +kernel
theorem dX9_rankOf_181 : decode cX9_rankOf 181 = .ok (.goto (-88), 3) := by decide +kernel
theorem dX9_rankOf_184 : decode cX9_rankOf 184 = .ok (.lload 7, 2) := by decide +kernel
theorem dX9_rankOf_186 : decode cX9_rankOf 186 = .ok (.lstore_n 2, 1) := by decide +kernel
theorem dX9_rankOf_187 : decode cX9_rankOf 187 = .ok (.iinc 4 1, 3) := by decide +kernel
theorem dX9_rankOf_190 : decode cX9_rankOf 190 = .ok (.iinc 5 1, 3) := by decide +kernel
theorem dX9_rankOf_193 : decode cX9_rankOf 193 = .ok (.goto (-185), 3) := by decide +kernel
theorem dX9_rankOf_196 : decode cX9_rankOf 196 = .ok (.iload 4, 2) := by decide +kernel
theorem dX9_rankOf_198 : decode cX9_rankOf 198 = .ok (.ireturn, 1) := by decide +kernel
theorem dX9_commaRank_0 : decode cX9_commaRank 0 = .ok (.iconst 0, 1) := by decide +kernel
theorem dX9_commaRank_1 : decode cX9_commaRank 1 = .ok (.istore_n 1, 1) := by decide +kernel
theorem dX9_commaRank_2 : decode cX9_commaRank 2 = .ok (.iload_n 1, 1) := by decide +kernel
theorem dX9_commaRank_3 : decode cX9_commaRank 3 = .ok (.bipush 6, 2) := by decide +kernel
theorem dX9_commaRank_5 : decode cX9_commaRank 5 = .ok (.aload_n 0, 1) := by decide +kernel
theorem dX9_commaRank_6 : decode cX9_commaRank 6 = .ok (.getfield 162, 3) := by decide +kernel
theorem dX9_commaRank_9 : decode cX9_commaRank 9 = .ok (.imul, 1) := by decide +kernel
theorem dX9_commaRank_10 : decode cX9_commaRank 10 = .ok (.if_icmp .ge 22, 3) := by decide +kernel
theorem dX9_commaRank_13 : decode cX9_commaRank 13 = .ok (.aload_n 0, 1) := by decide +kernel
theorem dX9_commaRank_14 : decode cX9_commaRank 14 = .ok (.getfield 41, 3) := by decide +kernel
theorem dX9_commaRank_17 : decode cX9_commaRank 17 = .ok (.iload_n 1, 1) := by decide +kernel
theorem dX9_commaRank_18 : decode cX9_commaRank 18 = .ok (.aload_n 0, 1) := by decide +kernel
theorem dX9_commaRank_19 : decode cX9_commaRank 19 = .ok (.getfield 38, 3) := by decide +kernel
theorem dX9_commaRank_22 : decode cX9_commaRank 22 = .ok (.iload_n 1, 1) := by decide +kernel
theorem dX9_commaRank_23 : decode cX9_commaRank 23 = .ok (.iaload, 1) := by decide +kernel
theorem dX9_commaRank_24 : decode cX9_commaRank 24 = .ok (.i2l, 1) := by decide +kernel
theorem dX9_commaRank_25 : decode cX9_commaRank 25 = .ok (.lastore, 1) := by decide +kernel
theorem dX9_commaRank_26 : decode cX9_commaRank 26 = .ok (.iinc 1 1, 3) := by decide +kernel
theorem dX9_commaRank_29 : decode cX9_commaRank 29 = .ok (.goto (-27), 3) := by decide +kernel
theorem dX9_commaRank_32 : decode cX9_commaRank 32 = .ok (.aload_n 0, 1) := by decide +kernel
theorem dX9_commaRank_33 : decode cX9_commaRank 33 = .ok (.aload_n 0, 1) := by decide +kernel
theorem dX9_commaRank_34 : decode cX9_commaRank 34 = .ok (.getfield 162, 3) := by decide +kernel
theorem dX9_commaRank_37 : decode cX9_commaRank 37 = .ok (.invokevirtual 169, 3) := by decide +kernel
theorem dX9_commaRank_40 : decode cX9_commaRank 40 = .ok (.ireturn, 1) := by decide +kernel
theorem dX9_rank_0 : decode cX9_rank 0 = .ok (.aload_n 0, 1) := by decide +kernel
theorem dX9_rank_1 : decode cX9_rank 1 = .ok (.iconst 0, 1) := by decide +kernel
theorem dX9_rank_2 : decode cX9_rank 2 = .ok (.putfield 66, 3) := by decide +kernel
theorem dX9_rank_5 : decode cX9_rank 5 = .ok (.aload_n 0, 1) := by decide +kernel
theorem dX9_rank_6 : decode cX9_rank 6 = .ok (.invokevirtual 172, 3) := by decide +kernel
theorem dX9_rank_9 : decode cX9_rank 9 = .ok (.ireturn, 1) := by decide +kernel
theorem dX9_bits_0 : decode cX9_bits 0 = .ok (.iconst 0, 1) := by decide +kernel
theorem dX9_bits_1 : decode cX9_bits 1 = .ok (.istore_n 1, 1) := by decide +kernel
theorem dX9_bits_2 : decode cX9_bits 2 = .ok (.iload_n 0, 1) := by decide +kernel
theorem dX9_bits_3 : decode cX9_bits 3 = .ok (.istore_n 2, 1) := by decide +kernel
theorem dX9_bits_4 : decode cX9_bits 4 = .ok (.iload_n 2, 1) := by decide +kernel
theorem dX9_bits_5 : decode cX9_bits 5 = .ok (.ifCond .eq 15, 3) := by decide +kernel
theorem dX9_bits_8 : decode cX9_bits 8 = .ok (.iinc 1 1, 3) := by decide +kernel
theorem dX9_bits_11 : decode cX9_bits 11 = .ok (.iload_n 2, 1) := by decide +kernel
theorem dX9_bits_12 : decode cX9_bits 12 = .ok (.iload_n 2, 1) := by decide +kernel
theorem dX9_bits_13 : decode cX9_bits 13 = .ok (.iconst 1, 1) := by decide +kernel
theorem dX9_bits_14 : decode cX9_bits 14 = .ok (.isub, 1) := by decide +kernel
theorem dX9_bits_15 : decode cX9_bits 15 = .ok (.iand, 1) := by decide +kernel
theorem dX9_bits_16 : decode cX9_bits 16 = .ok (.istore_n 2, 1) := by decide +kernel
theorem dX9_bits_17 : decode cX9_bits 17 = .ok (.goto (-13), 3) := by decide +kernel
theorem dX9_bits_20 : decode cX9_bits 20 = .ok (.iload_n 1, 1) := by decide +kernel
theorem dX9_bits_21 : decode cX9_bits 21 = .ok (.ireturn, 1) := by decide +kernel
theorem dX9_minor_0 : decode cX9_minor 0 = .ok (.iconst 0, 1) := by decide +kernel
theorem dX9_minor_1 : decode cX9_minor 1 = .ok (.istore 4, 2) := by decide +kernel
theorem dX9_minor_3 : decode cX9_minor 3 = .ok (.iconst 0, 1) := by decide +kernel
theorem dX9_minor_4 : decode cX9_minor 4 = .ok (.istore 5, 2) := by decide +kernel
theorem dX9_minor_6 : decode cX9_minor 6 = .ok (.iload 5, 2) := by decide +kernel
theorem dX9_minor_8 : decode cX9_minor 8 = .ok (.iconst 5, 1) := by decide +kernel
theorem dX9_minor_9 : decode cX9_minor 9 = .ok (.if_icmp .ge 112, 3) := by decide +kernel
theorem dX9_minor_12 : decode cX9_minor 12 = .ok (.iload_n 1, 1) := by decide +kernel
theorem dX9_minor_13 : decode cX9_minor 13 = .ok (.iload 5, 2) := by decide +kernel
theorem dX9_minor_15 : decode cX9_minor 15 = .ok (.ishr, 1) := by decide +kernel
theorem dX9_minor_16 : decode cX9_minor 16 = .ok (.iconst 1, 1) := by decide +kernel
theorem dX9_minor_17 : decode cX9_minor 17 = .ok (.iand, 1) := by decide +kernel
theorem dX9_minor_18 : decode cX9_minor 18 = .ok (.ifCond .ne 6, 3) := by decide +kernel
theorem dX9_minor_21 : decode cX9_minor 21 = .ok (.goto 94, 3) := by decide +kernel
theorem dX9_minor_24 : decode cX9_minor 24 = .ok (.iconst 0, 1) := by decide +kernel
theorem dX9_minor_25 : decode cX9_minor 25 = .ok (.istore 6, 2) := by decide +kernel
theorem dX9_minor_27 : decode cX9_minor 27 = .ok (.iconst 0, 1) := by decide +kernel
theorem dX9_minor_28 : decode cX9_minor 28 = .ok (.istore 7, 2) := by decide +kernel
theorem dX9_minor_30 : decode cX9_minor 30 = .ok (.iload 7, 2) := by decide +kernel
theorem dX9_minor_32 : decode cX9_minor 32 = .ok (.bipush 6, 2) := by decide +kernel
theorem dX9_minor_34 : decode cX9_minor 34 = .ok (.if_icmp .ge 51, 3) := by decide +kernel
theorem dX9_minor_37 : decode cX9_minor 37 = .ok (.iload_n 2, 1) := by decide +kernel
theorem dX9_minor_38 : decode cX9_minor 38 = .ok (.iload 7, 2) := by decide +kernel
theorem dX9_minor_40 : decode cX9_minor 40 = .ok (.ishr, 1) := by decide +kernel
theorem dX9_minor_41 : decode cX9_minor 41 = .ok (.iconst 1, 1) := by decide +kernel
theorem dX9_minor_42 : decode cX9_minor 42 = .ok (.iand, 1) := by decide +kernel
theorem dX9_minor_43 : decode cX9_minor 43 = .ok (.ifCond .ne 6, 3) := by decide +kernel
theorem dX9_minor_46 : decode cX9_minor 46 = .ok (.goto 33, 3) := by decide +kernel
theorem dX9_minor_49 : decode cX9_minor 49 = .ok (.aload_n 0, 1) := by decide +kernel
theorem dX9_minor_50 : decode cX9_minor 50 = .ok (.getfield 41, 3) := by decide +kernel
theorem dX9_minor_53 : decode cX9_minor 53 = .ok (.bipush 6, 2) := by decide +kernel
theorem dX9_minor_55 : decode cX9_minor 55 = .ok (.iload 4, 2) := by decide +kernel
theorem dX9_minor_57 : decode cX9_minor 57 = .ok (.imul, 1) := by decide +kernel
theorem dX9_minor_58 : decode cX9_minor 58 = .ok (.iload 6, 2) := by decide +kernel
theorem dX9_minor_60 : decode cX9_minor 60 = .ok (.iadd, 1) := by decide +kernel
theorem dX9_minor_61 : decode cX9_minor 61 = .ok (.aload_n 0, 1) := by decide +kernel
theorem dX9_minor_62 : decode cX9_minor 62 = .ok (.getfield 38, 3) := by decide +kernel
theorem dX9_minor_65 : decode cX9_minor 65 = .ok (.bipush 6, 2) := by decide +kernel
theorem dX9_minor_67 : decode cX9_minor 67 = .ok (.iload 5, 2) := by decide +kernel
theorem dX9_minor_69 : decode cX9_minor 69 = .ok (.imul, 1) := by decide +kernel
theorem dX9_minor_70 : decode cX9_minor 70 = .ok (.iload 7, 2) := by decide +kernel
theorem dX9_minor_72 : decode cX9_minor 72 = .ok (.iadd, 1) := by decide +kernel
theorem dX9_minor_73 : decode cX9_minor 73 = .ok (.iaload, 1) := by decide +kernel
theorem dX9_minor_74 : decode cX9_minor 74 = .ok (.i2l, 1) := by decide +kernel
theorem dX9_minor_75 : decode cX9_minor 75 = .ok (.lastore, 1) := by decide +kernel
theorem dX9_minor_76 : decode cX9_minor 76 = .ok (.iinc 6 1, 3) := by decide +kernel
theorem dX9_minor_79 : decode cX9_minor 79 = .ok (.iinc 7 1, 3) := by decide +kernel
theorem dX9_minor_82 : decode cX9_minor 82 = .ok (.goto (-52), 3) := by decide +kernel
theorem dX9_minor_85 : decode cX9_minor 85 = .ok (.iload 6, 2) := by decide +kernel
theorem dX9_minor_87 : decode cX9_minor 87 = .ok (.bipush 6, 2) := by decide +kernel
theorem dX9_minor_89 : decode cX9_minor 89 = .ok (.if_icmp .ge 23, 3) := by decide +kernel
theorem dX9_minor_92 : decode cX9_minor 92 = .ok (.aload_n 0, 1) := by decide +kernel
theorem dX9_minor_93 : decode cX9_minor 93 = .ok (.getfield 41, 3) := by decide +kernel
theorem dX9_minor_96 : decode cX9_minor 96 = .ok (.bipush 6, 2) := by decide +kernel
theorem dX9_minor_98 : decode cX9_minor 98 = .ok (.iload 4, 2) := by decide +kernel
theorem dX9_minor_100 : decode cX9_minor 100 = .ok (.imul, 1) := by decide +kernel
theorem dX9_minor_101 : decode cX9_minor 101 = .ok (.iload 6, 2) := by decide +kernel
theorem dX9_minor_103 : decode cX9_minor 103 = .ok (.iadd, 1) := by decide +kernel
theorem dX9_minor_104 : decode cX9_minor 104 = .ok (.lconst 0, 1) := by decide +kernel
theorem dX9_minor_105 : decode cX9_minor 105 = .ok (.lastore, 1) := by decide +kernel
theorem dX9_minor_106 : decode cX9_minor 106 = .ok (.iinc 6 1, 3) := by decide +kernel
theorem dX9_minor_109 : decode cX9_minor 109 = .ok (.goto (-24), 3) := by decide +kernel
theorem dX9_minor_112 : decode cX9_minor 112 = .ok (.iinc 4 1, 3) := by decide +kernel
theorem dX9_minor_115 : decode cX9_minor 115 = .ok (.iinc 5 1, 3) := by decide +kernel
theorem dX9_minor_118 : decode cX9_minor 118 = .ok (.goto (-112), 3) := by decide +kernel
theorem dX9_minor_121 : decode cX9_minor 121 = .ok (.aload_n 0, 1) := by decide +kernel
theorem dX9_minor_122 : decode cX9_minor 122 = .ok (.iload_n 3, 1) := by decide +kernel
theorem dX9_minor_123 : decode cX9_minor 123 = .ok (.invokevirtual 169, 3) := by decide +kernel
theorem dX9_minor_126 : decode cX9_minor 126 = .ok (.iload_n 3, 1) := by decide +kernel
theorem dX9_minor_127 : decode cX9_minor 127 = .ok (.if_icmp .ge 5, 3) := by decide +kernel
theorem dX9_minor_130 : decode cX9_minor 130 = .ok (.lconst 0, 1) := by decide +kernel
theorem dX9_minor_131 : decode cX9_minor 131 = .ok (.lreturn, 1) := by decide +kernel
theorem dX9_minor_132 : decode cX9_minor 132 = .ok (.aload_n 0, 1) := by decide +kernel
theorem dX9_minor_133 : decode cX9_minor 133 = .ok (.getfield 41, 3) := by decide +kernel
theorem dX9_minor_136 : decode cX9_minor 136 = .ok (.bipush 6, 2) := by decide +kernel
theorem dX9_minor_138 : decode cX9_minor 138 = .ok (.iload_n 3, 1) := by decide +kernel
theorem dX9_minor_139 : decode cX9_minor 139 = .ok (.iconst 1, 1) := by decide +kernel
theorem dX9_minor_140 : decode cX9_minor 140 = .ok (.isub, 1) := by decide +kernel
theorem dX9_minor_141 : decode cX9_minor 141 = .ok (.imul, 1) := by decide +kernel
theorem dX9_minor_142 : decode cX9_minor 142 = .ok (.iload_n 3, 1) := by decide +kernel
theorem dX9_minor_143 : decode cX9_minor 143 = .ok (.iadd, 1) := by decide +kernel
theorem dX9_minor_144 : decode cX9_minor 144 = .ok (.iconst 1, 1) := by decide +kernel
theorem dX9_minor_145 : decode cX9_minor 145 = .ok (.isub, 1) := by decide +kernel
theorem dX9_minor_146 : decode cX9_minor 146 = .ok (.laload, 1) := by decide +kernel
theorem dX9_minor_147 : decode cX9_minor 147 = .ok (.lstore 5, 2) := by decide +kernel
theorem dX9_minor_149 : decode cX9_minor 149 = .ok (.lload 5, 2) := by decide +kernel
theorem dX9_minor_151 : decode cX9_minor 151 = .ok (.lconst 0, 1) := by decide +kernel
theorem dX9_minor_152 : decode cX9_minor 152 = .ok (.lcmp, 1) := by decide +kernel
theorem dX9_minor_153 : decode cX9_minor 153 = .ok (.ifCond .ge 9, 3) := by decide +kernel
theorem dX9_minor_156 : decode cX9_minor 156 = .ok (.lload 5, 2) := by decide +kernel
theorem dX9_minor_158 : decode cX9_minor 158 = .ok (.lneg, 1) := by decide +kernel
theorem dX9_minor_159 : decode cX9_minor 159 = .ok (.goto 5, 3) := by decide +kernel
theorem dX9_minor_162 : decode cX9_minor 162 = .ok (.lload 5, 2) := by decide +kernel
theorem dX9_minor_164 : decode cX9_minor 164 = .ok (.lreturn, 1) := by decide +kernel
theorem dX9_twist_0 : decode cX9_twist 0 = .ok (.aload_n 0, 1) := by decide +kernel
theorem dX9_twist_1 : decode cX9_twist 1 = .ok (.iconst 0, 1) := by decide +kernel
theorem dX9_twist_2 : decode cX9_twist 2 = .ok (.putfield 66, 3) := by decide +kernel
theorem dX9_twist_5 : decode cX9_twist 5 = .ok (.aload_n 0, 1) := by decide +kernel
theorem dX9_twist_6 : decode cX9_twist 6 = .ok (.invokevirtual 172, 3) := by decide +kernel
theorem dX9_twist_9 : decode cX9_twist 9 = .ok (.istore_n 1, 1) := by decide +kernel
theorem dX9_twist_10 : decode cX9_twist 10 = .ok (.iload_n 1, 1) := by decide +kernel
theorem dX9_twist_11 : decode cX9_twist 11 = .ok (.ifCond .ne 5, 3) := by decide +kernel
theorem dX9_twist_14 : decode cX9_twist 14 = .ok (.lconst 1, 1) := by decide +kernel
theorem dX9_twist_15 : decode cX9_twist 15 = .ok (.lreturn, 1) := by decide +kernel
theorem dX9_twist_16 : decode cX9_twist 16 = .ok (.lconst 0, 1) := by decide +kernel
theorem dX9_twist_17 : decode cX9_twist 17 = .ok (.lstore_n 2, 1) := by decide +kernel
theorem dX9_twist_18 : decode cX9_twist 18 = .ok (.iconst 0, 1) := by decide +kernel
theorem dX9_twist_19 : decode cX9_twist 19 = .ok (.istore 4, 2) := by decide +kernel
theorem dX9_twist_21 : decode cX9_twist 21 = .ok (.iload 4, 2) := by decide +kernel
theorem dX9_twist_23 : decode cX9_twist 23 = .ok (.iconst 1, 1) := by decide +kernel
theorem dX9_twist_24 : decode cX9_twist 24 = .ok (.aload_n 0, 1) := by decide +kernel
theorem dX9_twist_25 : decode cX9_twist 25 = .ok (.getfield 162, 3) := by decide +kernel
theorem dX9_twist_28 : decode cX9_twist 28 = .ok (.ishl, 1) := by decide +kernel
theorem dX9_twist_29 : decode cX9_twist 29 = .ok (.if_icmp .ge 83, 3) := by decide +kernel
theorem dX9_twist_32 : decode cX9_twist 32 = .ok (.iload 4, 2) := by decide +kernel
theorem dX9_twist_34 : decode cX9_twist 34 = .ok (.invokestatic 175, 3) := by decide +kernel
theorem dX9_twist_37 : decode cX9_twist 37 = .ok (.iload_n 1, 1) := by decide +kernel
theorem dX9_twist_38 : decode cX9_twist 38 = .ok (.if_icmp .eq 6, 3) := by decide +kernel
theorem dX9_twist_41 : decode cX9_twist 41 = .ok (.goto 65, 3) := by decide +kernel
theorem dX9_twist_44 : decode cX9_twist 44 = .ok (.iconst 0, 1) := by decide +kernel
theorem dX9_twist_45 : decode cX9_twist 45 = .ok (.istore 5, 2) := by decide +kernel
theorem dX9_twist_47 : decode cX9_twist 47 = .ok (.iload 5, 2) := by decide +kernel
theorem dX9_twist_49 : decode cX9_twist 49 = .ok (.bipush 64, 2) := by decide +kernel
theorem dX9_twist_51 : decode cX9_twist 51 = .ok (.if_icmp .ge 55, 3) := by decide +kernel
theorem dX9_twist_54 : decode cX9_twist 54 = .ok (.iload 5, 2) := by decide +kernel
theorem dX9_twist_56 : decode cX9_twist 56 = .ok (.invokestatic 175, 3) := by decide +kernel
theorem dX9_twist_59 : decode cX9_twist 59 = .ok (.iload_n 1, 1) := by decide +kernel
theorem dX9_twist_60 : decode cX9_twist 60 = .ok (.if_icmp .eq 6, 3) := by decide +kernel
theorem dX9_twist_63 : decode cX9_twist 63 = .ok (.goto 37, 3) := by decide +kernel
theorem dX9_twist_66 : decode cX9_twist 66 = .ok (.aload_n 0, 1) := by decide +kernel
theorem dX9_twist_67 : decode cX9_twist 67 = .ok (.iload 4, 2) := by decide +kernel
theorem dX9_twist_69 : decode cX9_twist 69 = .ok (.iload 5, 2) := by decide +kernel
theorem dX9_twist_71 : decode cX9_twist 71 = .ok (.iload_n 1, 1) := by decide +kernel
theorem dX9_twist_72 : decode cX9_twist 72 = .ok (.invokevirtual 178, 3) := by decide +kernel
theorem dX9_twist_75 : decode cX9_twist 75 = .ok (.lstore 6, 2) := by decide +kernel
theorem dX9_twist_77 : decode cX9_twist 77 = .ok (.lload 6, 2) := by decide +kernel
theorem dX9_twist_79 : decode cX9_twist 79 = .ok (.lconst 0, 1) := by decide +kernel
theorem dX9_twist_80 : decode cX9_twist 80 = .ok (.lcmp, 1) := by decide +kernel
theorem dX9_twist_81 : decode cX9_twist 81 = .ok (.ifCond .eq 19, 3) := by decide +kernel
theorem dX9_twist_84 : decode cX9_twist 84 = .ok (.lload_n 2, 1) := by decide +kernel
theorem dX9_twist_85 : decode cX9_twist 85 = .ok (.lload 6, 2) := by decide +kernel
theorem dX9_twist_87 : decode cX9_twist 87 = .ok (.lrem, 1) := by decide +kernel
theorem dX9_twist_88 : decode cX9_twist 88 = .ok (.lstore 8, 2) := by decide +kernel
theorem dX9_twist_90 : decode cX9_twist 90 = .ok (.lload 6, 2) := by decide +kernel
theorem dX9_twist_92 : decode cX9_twist 92 = .ok (.lstore_n 2, 1) := by decide +kernel
theorem dX9_twist_93 : decode cX9_twist 93 = .ok (.lload 8, 2) := by decide +kernel
theorem dX9_twist_95 : decode cX9_twist 95 = .ok (.lstore 6, 2) := by decide +kernel
theorem dX9_twist_97 : decode cX9_twist 97 = .ok (.goto (-20), 3) := by decide +kernel
theorem dX9_twist_100 : decode cX9_twist 100 = .ok (.iinc 5 1, 3) := by decide +kernel
theorem dX9_twist_103 : decode cX9_twist 103 = .ok (.goto (-56), 3) := by decide +kernel
theorem dX9_twist_106 : decode cX9_twist 106 = .ok (.iinc 4 1, 3) := by decide +kernel
theorem dX9_twist_109 : decode cX9_twist 109 = .ok (.goto (-88), 3) := by decide +kernel
theorem dX9_twist_112 : decode cX9_twist 112 = .ok (.lload_n 2, 1) := by decide +kernel
theorem dX9_twist_113 : decode cX9_twist 113 = .ok (.lreturn, 1) := by decide +kernel
theorem dX9_vanishes_0 : decode cX9_vanishes 0 = .ok (.iload_n 1, 1) := by decide +kernel
theorem dX9_vanishes_1 : decode cX9_vanishes 1 = .ok (.invokestatic 111, 3) := by decide +kernel
theorem dX9_vanishes_4 : decode cX9_vanishes 4 = .ok (.ifCond .ne 9, 3) := by decide +kernel
theorem dX9_vanishes_7 : decode cX9_vanishes 7 = .ok (.aload_n 0, 1) := by decide +kernel
theorem dX9_vanishes_8 : decode cX9_vanishes 8 = .ok (.iconst 1, 1) := by decide +kernel
theorem dX9_vanishes_9 : decode cX9_vanishes 9 = .ok (.invokevirtual 136, 3) := by decide +kernel
theorem dX9_vanishes_12 : decode cX9_vanishes 12 = .ok (.ireturn, 1) := by decide +kernel
theorem dX9_vanishes_13 : decode cX9_vanishes 13 = .ok (.aload_n 0, 1) := by decide +kernel
theorem dX9_vanishes_14 : decode cX9_vanishes 14 = .ok (.getfield 13, 3) := by decide +kernel
theorem dX9_vanishes_17 : decode cX9_vanishes 17 = .ok (.iload_n 1, 1) := by decide +kernel
theorem dX9_vanishes_18 : decode cX9_vanishes 18 = .ok (.baload, 1) := by decide +kernel
theorem dX9_vanishes_19 : decode cX9_vanishes 19 = .ok (.ifCond .ne 9, 3) := by decide +kernel
theorem dX9_vanishes_22 : decode cX9_vanishes 22 = .ok (.aload_n 0, 1) := by decide +kernel
theorem dX9_vanishes_23 : decode cX9_vanishes 23 = .ok (.iconst 2, 1) := by decide +kernel
theorem dX9_vanishes_24 : decode cX9_vanishes 24 = .ok (.invokevirtual 136, 3) := by decide +kernel
theorem dX9_vanishes_27 : decode cX9_vanishes 27 = .ok (.ireturn, 1) := by decide +kernel
theorem dX9_vanishes_28 : decode cX9_vanishes 28 = .ok (.aload_n 0, 1) := by decide +kernel
theorem dX9_vanishes_29 : decode cX9_vanishes 29 = .ok (.iconst 0, 1) := by decide +kernel
theorem dX9_vanishes_30 : decode cX9_vanishes 30 = .ok (.putfield 66, 3) := by decide +kernel
theorem dX9_vanishes_33 : decode cX9_vanishes 33 = .ok (.aload_n 0, 1) := by decide +kernel
theorem dX9_vanishes_34 : decode cX9_vanishes 34 = .ok (.invokevirtual 172, 3) := by decide +kernel
theorem dX9_vanishes_37 : decode cX9_vanishes 37 = .ok (.istore_n 2, 1) := by decide +kernel
theorem dX9_vanishes_38 : decode cX9_vanishes 38 = .ok (.iconst 0, 1) := by decide +kernel
theorem dX9_vanishes_39 : decode cX9_vanishes 39 = .ok (.istore_n 3, 1) := by decide +kernel
theorem dX9_vanishes_40 : decode cX9_vanishes 40 = .ok (.iload_n 3, 1) := by decide +kernel
theorem dX9_vanishes_41 : decode cX9_vanishes 41 = .ok (.bipush 6, 2) := by decide +kernel
theorem dX9_vanishes_43 : decode cX9_vanishes 43 = .ok (.aload_n 0, 1) := by decide +kernel
theorem dX9_vanishes_44 : decode cX9_vanishes 44 = .ok (.getfield 162, 3) := by decide +kernel
theorem dX9_vanishes_47 : decode cX9_vanishes 47 = .ok (.imul, 1) := by decide +kernel
theorem dX9_vanishes_48 : decode cX9_vanishes 48 = .ok (.if_icmp .ge 22, 3) := by decide +kernel
theorem dX9_vanishes_51 : decode cX9_vanishes 51 = .ok (.aload_n 0, 1) := by decide +kernel
theorem dX9_vanishes_52 : decode cX9_vanishes 52 = .ok (.getfield 41, 3) := by decide +kernel
theorem dX9_vanishes_55 : decode cX9_vanishes 55 = .ok (.iload_n 3, 1) := by decide +kernel
theorem dX9_vanishes_56 : decode cX9_vanishes 56 = .ok (.aload_n 0, 1) := by decide +kernel
theorem dX9_vanishes_57 : decode cX9_vanishes 57 = .ok (.getfield 38, 3) := by decide +kernel
theorem dX9_vanishes_60 : decode cX9_vanishes 60 = .ok (.iload_n 3, 1) := by decide +kernel
theorem dX9_vanishes_61 : decode cX9_vanishes 61 = .ok (.iaload, 1) := by decide +kernel
theorem dX9_vanishes_62 : decode cX9_vanishes 62 = .ok (.i2l, 1) := by decide +kernel
theorem dX9_vanishes_63 : decode cX9_vanishes 63 = .ok (.lastore, 1) := by decide +kernel
theorem dX9_vanishes_64 : decode cX9_vanishes 64 = .ok (.iinc 3 1, 3) := by decide +kernel
theorem dX9_vanishes_67 : decode cX9_vanishes 67 = .ok (.goto (-27), 3) := by decide +kernel
theorem dX9_vanishes_70 : decode cX9_vanishes 70 = .ok (.iconst 0, 1) := by decide +kernel
theorem dX9_vanishes_71 : decode cX9_vanishes 71 = .ok (.istore_n 3, 1) := by decide +kernel
theorem dX9_vanishes_72 : decode cX9_vanishes 72 = .ok (.iload_n 3, 1) := by decide +kernel
theorem dX9_vanishes_73 : decode cX9_vanishes 73 = .ok (.bipush 6, 2) := by decide +kernel
theorem dX9_vanishes_75 : decode cX9_vanishes 75 = .ok (.if_icmp .ge 35, 3) := by decide +kernel
theorem dX9_vanishes_78 : decode cX9_vanishes 78 = .ok (.aload_n 0, 1) := by decide +kernel
theorem dX9_vanishes_79 : decode cX9_vanishes 79 = .ok (.getfield 41, 3) := by decide +kernel
theorem dX9_vanishes_82 : decode cX9_vanishes 82 = .ok (.bipush 6, 2) := by decide +kernel
theorem dX9_vanishes_84 : decode cX9_vanishes 84 = .ok (.aload_n 0, 1) := by decide +kernel
theorem dX9_vanishes_85 : decode cX9_vanishes 85 = .ok (.getfield 162, 3) := by decide +kernel
theorem dX9_vanishes_88 : decode cX9_vanishes 88 = .ok (.imul, 1) := by decide +kernel
theorem dX9_vanishes_89 : decode cX9_vanishes 89 = .ok (.iload_n 3, 1) := by decide +kernel
theorem dX9_vanishes_90 : decode cX9_vanishes 90 = .ok (.iadd, 1) := by decide +kernel
theorem dX9_vanishes_91 : decode cX9_vanishes 91 = .ok (.aload_n 0, 1) := by decide +kernel
theorem dX9_vanishes_92 : decode cX9_vanishes 92 = .ok (.getfield 7, 3) := by decide +kernel
theorem dX9_vanishes_95 : decode cX9_vanishes 95 = .ok (.bipush 6, 2) := by decide +kernel
theorem dX9_vanishes_97 : decode cX9_vanishes 97 = .ok (.iload_n 1, 1) := by decide +kernel
theorem dX9_vanishes_98 : decode cX9_vanishes 98 = .ok (.imul, 1) := by decide +kernel
theorem dX9_vanishes_99 : decode cX9_vanishes 99 = .ok (.iload_n 3, 1) := by decide +kernel
theorem dX9_vanishes_100 : decode cX9_vanishes 100 = .ok (.iadd, 1) := by decide +kernel
theorem dX9_vanishes_101 : decode cX9_vanishes 101 = .ok (.iaload, 1) := by decide +kernel
theorem dX9_vanishes_102 : decode cX9_vanishes 102 = .ok (.i2l, 1) := by decide +kernel
theorem dX9_vanishes_103 : decode cX9_vanishes 103 = .ok (.lastore, 1) := by decide +kernel
theorem dX9_vanishes_104 : decode cX9_vanishes 104 = .ok (.iinc 3 1, 3) := by decide +kernel
theorem dX9_vanishes_107 : decode cX9_vanishes 107 = .ok (.goto (-35), 3) := by decide +kernel
theorem dX9_vanishes_110 : decode cX9_vanishes 110 = .ok (.aload_n 0, 1) := by decide +kernel
theorem dX9_vanishes_111 : decode cX9_vanishes 111 = .ok (.aload_n 0, 1) := by decide +kernel
theorem dX9_vanishes_112 : decode cX9_vanishes 112 = .ok (.getfield 162, 3) := by decide +kernel
theorem dX9_vanishes_115 : decode cX9_vanishes 115 = .ok (.iconst 1, 1) := by decide +kernel
theorem dX9_vanishes_116 : decode cX9_vanishes 116 = .ok (.iadd, 1) := by decide +kernel
theorem dX9_vanishes_117 : decode cX9_vanishes 117 = .ok (.invokevirtual 169, 3) := by decide +kernel
theorem dX9_vanishes_120 : decode cX9_vanishes 120 = .ok (.iload_n 2, 1) := by decide +kernel
theorem dX9_vanishes_121 : decode cX9_vanishes 121 = .ok (.if_icmp .ne 7, 3) := by decide +kernel
theorem dX9_vanishes_124 : decode cX9_vanishes 124 = .ok (.iconst 1, 1) := by decide +kernel
theorem dX9_vanishes_125 : decode cX9_vanishes 125 = .ok (.goto 4, 3) := by decide +kernel
theorem dX9_vanishes_128 : decode cX9_vanishes 128 = .ok (.iconst 0, 1) := by decide +kernel
theorem dX9_vanishes_129 : decode cX9_vanishes 129 = .ok (.ireturn, 1) := by decide +kernel
theorem dX9_supports_0 : decode cX9_supports 0 = .ok (.iload_n 1, 1) := by decide +kernel
theorem dX9_supports_1 : decode cX9_supports 1 = .ok (.invokestatic 153, 3) := by decide +kernel
theorem dX9_supports_4 : decode cX9_supports 4 = .ok (.ifCond .ne 9, 3) := by decide +kernel
theorem dX9_supports_7 : decode cX9_supports 7 = .ok (.aload_n 0, 1) := by decide +kernel
theorem dX9_supports_8 : decode cX9_supports 8 = .ok (.iconst 3, 1) := by decide +kernel
theorem dX9_supports_9 : decode cX9_supports 9 = .ok (.invokevirtual 136, 3) := by decide +kernel
theorem dX9_supports_12 : decode cX9_supports 12 = .ok (.ireturn, 1) := by decide +kernel
theorem dX9_supports_13 : decode cX9_supports 13 = .ok (.aload_n 0, 1) := by decide +kernel
theorem dX9_supports_14 : decode cX9_supports 14 = .ok (.iconst 0, 1) := by decide +kernel
theorem dX9_supports_15 : decode cX9_supports 15 = .ok (.putfield 66, 3) := by decide +kernel
theorem dX9_supports_18 : decode cX9_supports 18 = .ok (.iload_n 1, 1) := by decide +kernel
theorem dX9_supports_19 : decode cX9_supports 19 = .ok (.istore_n 2, 1) := by decide +kernel
theorem dX9_supports_20 : decode cX9_supports 20 = .ok (.iload_n 2, 1) := by decide +kernel
theorem dX9_supports_21 : decode cX9_supports 21 = .ok (.bipush 99, 2) := by decide +kernel
theorem dX9_supports_23 : decode cX9_supports 23 = .ok (.if_icmp .gt 62, 3) := by decide +kernel
theorem dX9_supports_26 : decode cX9_supports 26 = .ok (.iconst 1, 1) := by decide +kernel
theorem dX9_supports_27 : decode cX9_supports 27 = .ok (.istore_n 3, 1) := by decide +kernel
theorem dX9_supports_28 : decode cX9_supports 28 = .ok (.iconst 0, 1) := by decide +kernel
theorem dX9_supports_29 : decode cX9_supports 29 = .ok (.istore 4, 2) := by decide +kernel
theorem dX9_supports_31 : decode cX9_supports 31 = .ok (.iload 4, 2) := by decide +kernel
theorem dX9_supports_33 : decode cX9_supports 33 = .ok (.aload_n 0, 1) := by decide +kernel
theorem dX9_supports_34 : decode cX9_supports 34 = .ok (.getfield 162, 3) := by decide +kernel
theorem dX9_supports_37 : decode cX9_supports 37 = .ok (.if_icmp .ge 36, 3) := by decide +kernel
theorem dX9_supports_40 : decode cX9_supports 40 = .ok (.iload_n 3, 1) := by decide +kernel
theorem dX9_supports_41 : decode cX9_supports 41 = .ok (.ifCond .eq 32, 3) := by decide +kernel
theorem dX9_supports_44 : decode cX9_supports 44 = .ok (.aload_n 0, 1) := by decide +kernel
theorem dX9_supports_45 : decode cX9_supports 45 = .ok (.aload_n 0, 1) := by decide +kernel
theorem dX9_supports_46 : decode cX9_supports 46 = .ok (.getfield 38, 3) := by decide +kernel
theorem dX9_supports_49 : decode cX9_supports 49 = .ok (.bipush 6, 2) := by decide +kernel
theorem dX9_supports_51 : decode cX9_supports 51 = .ok (.iload 4, 2) := by decide +kernel
theorem dX9_supports_53 : decode cX9_supports 53 = .ok (.imul, 1) := by decide +kernel
theorem dX9_supports_54 : decode cX9_supports 54 = .ok (.iload_n 2, 1) := by decide +kernel
theorem dX9_supports_55 : decode cX9_supports 55 = .ok (.invokevirtual 159, 3) := by decide +kernel
theorem dX9_supports_58 : decode cX9_supports 58 = .ok (.ifCond .ne 7, 3) := by decide +kernel
theorem dX9_supports_61 : decode cX9_supports 61 = .ok (.iconst 1, 1) := by decide +kernel
theorem dX9_supports_62 : decode cX9_supports 62 = .ok (.goto 4, 3) := by decide +kernel
theorem dX9_supports_65 : decode cX9_supports 65 = .ok (.iconst 0, 1) := by decide +kernel
theorem dX9_supports_66 : decode cX9_supports 66 = .ok (.istore_n 3, 1) := by decide +kernel
theorem dX9_supports_67 : decode cX9_supports 67 = .ok (.iinc 4 1, 3) := by decide +kernel
theorem dX9_supports_70 : decode cX9_supports 70 = .ok (.goto (-39), 3) := by decide +kernel
theorem dX9_supports_73 : decode cX9_supports 73 = .ok (.iload_n 3, 1) := by decide +kernel
theorem dX9_supports_74 : decode cX9_supports 74 = .ok (.ifCond .eq 5, 3) := by decide +kernel
theorem dX9_supports_77 : decode cX9_supports 77 = .ok (.iload_n 2, 1) := by decide +kernel
theorem dX9_supports_78 : decode cX9_supports 78 = .ok (.ireturn, 1) := by decide +kernel
theorem dX9_supports_79 : decode cX9_supports 79 = .ok (.iinc 2 1, 3) := by decide +kernel
theorem dX9_supports_82 : decode cX9_supports 82 = .ok (.goto (-62), 3) := by decide +kernel
theorem dX9_supports_85 : decode cX9_supports 85 = .ok (.iconst 0, 1) := by decide +kernel
theorem dX9_supports_86 : decode cX9_supports 86 = .ok (.ireturn, 1) := by decide +kernel
theorem dX9_begin_0 : decode cX9_begin 0 = .ok (.iload_n 1, 1) := by decide +kernel
theorem dX9_begin_1 : decode cX9_begin 1 = .ok (.invokestatic 111, 3) := by decide +kernel
theorem dX9_begin_4 : decode cX9_begin 4 = .ok (.ifCond .ne 9, 3) := by decide +kernel
theorem dX9_begin_7 : decode cX9_begin 7 = .ok (.aload_n 0, 1) := by decide +kernel
theorem dX9_begin_8 : decode cX9_begin 8 = .ok (.iconst 1, 1) := by decide +kernel
theorem dX9_begin_9 : decode cX9_begin 9 = .ok (.invokevirtual 104, 3) := by decide +kernel
theorem dX9_begin_12 : decode cX9_begin 12 = .ok (.ireturn, 1) := by decide +kernel
theorem dX9_begin_13 : decode cX9_begin 13 = .ok (.aload_n 0, 1) := by decide +kernel
theorem dX9_begin_14 : decode cX9_begin 14 = .ok (.getfield 13, 3) := by decide +kernel
theorem dX9_begin_17 : decode cX9_begin 17 = .ok (.iload_n 1, 1) := by decide +kernel
theorem dX9_begin_18 : decode cX9_begin 18 = .ok (.baload, 1) := by decide +kernel
theorem dX9_begin_19 : decode cX9_begin 19 = .ok (.ifCond .ne 9, 3) := by decide +kernel
theorem dX9_begin_22 : decode cX9_begin 22 = .ok (.aload_n 0, 1) := by decide +kernel
theorem dX9_begin_23 : decode cX9_begin 23 = .ok (.iconst 2, 1) := by decide +kernel
theorem dX9_begin_24 : decode cX9_begin 24 = .ok (.invokevirtual 104, 3) := by decide +kernel
theorem dX9_begin_27 : decode cX9_begin 27 = .ok (.ireturn, 1) := by decide +kernel
theorem dX9_begin_28 : decode cX9_begin 28 = .ok (.aload_n 0, 1) := by decide +kernel
theorem dX9_begin_29 : decode cX9_begin 29 = .ok (.iload_n 1, 1) := by decide +kernel
theorem dX9_begin_30 : decode cX9_begin 30 = .ok (.invokevirtual 126, 3) := by decide +kernel
theorem dX9_begin_33 : decode cX9_begin 33 = .ok (.ifCond .ne 9, 3) := by decide +kernel
theorem dX9_begin_36 : decode cX9_begin 36 = .ok (.aload_n 0, 1) := by decide +kernel
theorem dX9_begin_37 : decode cX9_begin 37 = .ok (.iconst 5, 1) := by decide +kernel
theorem dX9_begin_38 : decode cX9_begin 38 = .ok (.invokevirtual 104, 3) := by decide +kernel
theorem dX9_begin_41 : decode cX9_begin 41 = .ok (.ireturn, 1) := by decide +kernel
theorem dX9_begin_42 : decode cX9_begin 42 = .ok (.iconst 0, 1) := by decide +kernel
theorem dX9_begin_43 : decode cX9_begin 43 = .ok (.istore_n 2, 1) := by decide +kernel
theorem dX9_begin_44 : decode cX9_begin 44 = .ok (.iload_n 2, 1) := by decide +kernel
theorem dX9_begin_45 : decode cX9_begin 45 = .ok (.bipush 6, 2) := by decide +kernel
theorem dX9_begin_47 : decode cX9_begin 47 = .ok (.if_icmp .ge 36, 3) := by decide +kernel
theorem dX9_begin_50 : decode cX9_begin 50 = .ok (.aload_n 0, 1) := by decide +kernel
theorem dX9_begin_51 : decode cX9_begin 51 = .ok (.getfield 45, 3) := by decide +kernel
theorem dX9_begin_54 : decode cX9_begin 54 = .ok (.iload_n 2, 1) := by decide +kernel
theorem dX9_begin_55 : decode cX9_begin 55 = .ok (.iconst 0, 1) := by decide +kernel
theorem dX9_begin_56 : decode cX9_begin 56 = .ok (.iastore, 1) := by decide +kernel
theorem dX9_begin_57 : decode cX9_begin 57 = .ok (.aload_n 0, 1) := by decide +kernel
theorem dX9_begin_58 : decode cX9_begin 58 = .ok (.getfield 45, 3) := by decide +kernel
theorem dX9_begin_61 : decode cX9_begin 61 = .ok (.bipush 6, 2) := by decide +kernel
theorem dX9_begin_63 : decode cX9_begin 63 = .ok (.iload_n 2, 1) := by decide +kernel
theorem dX9_begin_64 : decode cX9_begin 64 = .ok (.iadd, 1) := by decide +kernel
theorem dX9_begin_65 : decode cX9_begin 65 = .ok (.aload_n 0, 1) := by decide +kernel
theorem dX9_begin_66 : decode cX9_begin 66 = .ok (.getfield 7, 3) := by decide +kernel
theorem dX9_begin_69 : decode cX9_begin 69 = .ok (.bipush 6, 2) := by decide +kernel
theorem dX9_begin_71 : decode cX9_begin 71 = .ok (.iload_n 1, 1) := by decide +kernel
theorem dX9_begin_72 : decode cX9_begin 72 = .ok (.imul, 1) := by decide +kernel
theorem dX9_begin_73 : decode cX9_begin 73 = .ok (.iload_n 2, 1) := by decide +kernel
theorem dX9_begin_74 : decode cX9_begin 74 = .ok (.iadd, 1) := by decide +kernel
theorem dX9_begin_75 : decode cX9_begin 75 = .ok (.iaload, 1) := by decide +kernel
theorem dX9_begin_76 : decode cX9_begin 76 = .ok (.iastore, 1) := by decide +kernel
theorem dX9_begin_77 : decode cX9_begin 77 = .ok (.iinc 2 1, 3) := by decide +kernel
theorem dX9_begin_80 : decode cX9_begin 80 = .ok (.goto (-36), 3) := by decide +kernel
theorem dX9_begin_83 : decode cX9_begin 83 = .ok (.aload_n 0, 1) := by decide +kernel
theorem dX9_begin_84 : decode cX9_begin 84 = .ok (.iconst 1, 1) := by decide +kernel
theorem dX9_begin_85 : decode cX9_begin 85 = .ok (.putfield 182, 3) := by decide +kernel
theorem dX9_begin_88 : decode cX9_begin 88 = .ok (.aload_n 0, 1) := by decide +kernel
theorem dX9_begin_89 : decode cX9_begin 89 = .ok (.iconst 0, 1) := by decide +kernel
theorem dX9_begin_90 : decode cX9_begin 90 = .ok (.invokevirtual 104, 3) := by decide +kernel
theorem dX9_begin_93 : decode cX9_begin 93 = .ok (.ireturn, 1) := by decide +kernel
theorem dX9_placeIn_0 : decode cX9_placeIn 0 = .ok (.iconst 0, 1) := by decide +kernel
theorem dX9_placeIn_1 : decode cX9_placeIn 1 = .ok (.istore_n 3, 1) := by decide +kernel
theorem dX9_placeIn_2 : decode cX9_placeIn 2 = .ok (.iload_n 3, 1) := by decide +kernel
theorem dX9_placeIn_3 : decode cX9_placeIn 3 = .ok (.bipush 6, 2) := by decide +kernel
theorem dX9_placeIn_5 : decode cX9_placeIn 5 = .ok (.if_icmp .ge 21, 3) := by decide +kernel
theorem dX9_placeIn_8 : decode cX9_placeIn 8 = .ok (.aload_n 0, 1) := by decide +kernel
theorem dX9_placeIn_9 : decode cX9_placeIn 9 = .ok (.getfield 26, 3) := by decide +kernel
theorem dX9_placeIn_12 : decode cX9_placeIn 12 = .ok (.iload_n 3, 1) := by decide +kernel
theorem dX9_placeIn_13 : decode cX9_placeIn 13 = .ok (.aload_n 0, 1) := by decide +kernel
theorem dX9_placeIn_14 : decode cX9_placeIn 14 = .ok (.getfield 23, 3) := by decide +kernel
theorem dX9_placeIn_17 : decode cX9_placeIn 17 = .ok (.iload_n 3, 1) := by decide +kernel
theorem dX9_placeIn_18 : decode cX9_placeIn 18 = .ok (.iaload, 1) := by decide +kernel
theorem dX9_placeIn_19 : decode cX9_placeIn 19 = .ok (.iastore, 1) := by decide +kernel
theorem dX9_placeIn_20 : decode cX9_placeIn 20 = .ok (.iinc 3 1, 3) := by decide +kernel
theorem dX9_placeIn_23 : decode cX9_placeIn 23 = .ok (.goto (-21), 3) := by decide +kernel
theorem dX9_placeIn_26 : decode cX9_placeIn 26 = .ok (.iconst 0, 1) := by decide +kernel
theorem dX9_placeIn_27 : decode cX9_placeIn 27 = .ok (.istore_n 3, 1) := by decide +kernel
theorem dX9_placeIn_28 : decode cX9_placeIn 28 = .ok (.iload_n 3, 1) := by decide +kernel
theorem dX9_placeIn_29 : decode cX9_placeIn 29 = .ok (.iload_n 2, 1) := by decide +kernel
theorem dX9_placeIn_30 : decode cX9_placeIn 30 = .ok (.if_icmp .ge 42, 3) := by decide +kernel
theorem dX9_placeIn_33 : decode cX9_placeIn 33 = .ok (.aload_n 0, 1) := by decide +kernel
theorem dX9_placeIn_34 : decode cX9_placeIn 34 = .ok (.aload_n 0, 1) := by decide +kernel
theorem dX9_placeIn_35 : decode cX9_placeIn 35 = .ok (.getfield 26, 3) := by decide +kernel
theorem dX9_placeIn_38 : decode cX9_placeIn 38 = .ok (.iconst 0, 1) := by decide +kernel
theorem dX9_placeIn_39 : decode cX9_placeIn 39 = .ok (.aload_n 1, 1) := by decide +kernel
theorem dX9_placeIn_40 : decode cX9_placeIn 40 = .ok (.bipush 6, 2) := by decide +kernel
theorem dX9_placeIn_42 : decode cX9_placeIn 42 = .ok (.iload_n 3, 1) := by decide +kernel
theorem dX9_placeIn_43 : decode cX9_placeIn 43 = .ok (.imul, 1) := by decide +kernel
theorem dX9_placeIn_44 : decode cX9_placeIn 44 = .ok (.invokevirtual 139, 3) := by decide +kernel
theorem dX9_placeIn_47 : decode cX9_placeIn 47 = .ok (.istore 4, 2) := by decide +kernel
theorem dX9_placeIn_49 : decode cX9_placeIn 49 = .ok (.iload 4, 2) := by decide +kernel
theorem dX9_placeIn_51 : decode cX9_placeIn 51 = .ok (.ifCond .ne 8, 3) := by decide +kernel
theorem dX9_placeIn_54 : decode cX9_placeIn 54 = .ok (.bipush (-2), 2) := by decide +kernel
theorem dX9_placeIn_56 : decode cX9_placeIn 56 = .ok (.iload_n 3, 1) := by decide +kernel
theorem dX9_placeIn_57 : decode cX9_placeIn 57 = .ok (.isub, 1) := by decide +kernel
theorem dX9_placeIn_58 : decode cX9_placeIn 58 = .ok (.ireturn, 1) := by decide +kernel
theorem dX9_placeIn_59 : decode cX9_placeIn 59 = .ok (.iload 4, 2) := by decide +kernel
theorem dX9_placeIn_61 : decode cX9_placeIn 61 = .ok (.ifCond .ge 5, 3) := by decide +kernel
theorem dX9_placeIn_64 : decode cX9_placeIn 64 = .ok (.iload_n 3, 1) := by decide +kernel
theorem dX9_placeIn_65 : decode cX9_placeIn 65 = .ok (.ireturn, 1) := by decide +kernel
theorem dX9_placeIn_66 : decode cX9_placeIn 66 = .ok (.iinc 3 1, 3) := by decide +kernel
theorem dX9_placeIn_69 : decode cX9_placeIn 69 = .ok (.goto (-41), 3) := by decide +kernel
theorem dX9_placeIn_72 : decode cX9_placeIn 72 = .ok (.iload_n 2, 1) := by decide +kernel
theorem dX9_placeIn_73 : decode cX9_placeIn 73 = .ok (.ireturn, 1) := by decide +kernel
theorem dX9_insert_0 : decode cX9_insert 0 = .ok (.bipush 6, 2) := by decide +kernel
theorem dX9_insert_2 : decode cX9_insert 2 = .ok (.iload_n 2, 1) := by decide +kernel
theorem dX9_insert_3 : decode cX9_insert 3 = .ok (.imul, 1) := by decide +kernel
theorem dX9_insert_4 : decode cX9_insert 4 = .ok (.iconst 5, 1) := by decide +kernel
theorem dX9_insert_5 : decode cX9_insert 5 = .ok (.iadd, 1) := by decide +kernel
theorem dX9_insert_6 : decode cX9_insert 6 = .ok (.istore 4, 2) := by decide +kernel
theorem dX9_insert_8 : decode cX9_insert 8 = .ok (.iload 4, 2) := by decide +kernel
theorem dX9_insert_10 : decode cX9_insert 10 = .ok (.bipush 6, 2) := by decide +kernel
theorem dX9_insert_12 : decode cX9_insert 12 = .ok (.iload_n 3, 1) := by decide +kernel
theorem dX9_insert_13 : decode cX9_insert 13 = .ok (.imul, 1) := by decide +kernel
theorem dX9_insert_14 : decode cX9_insert 14 = .ok (.bipush 6, 2) := by decide +kernel
theorem dX9_insert_16 : decode cX9_insert 16 = .ok (.iadd, 1) := by decide +kernel
theorem dX9_insert_17 : decode cX9_insert 17 = .ok (.if_icmp .lt 20, 3) := by decide +kernel
theorem dX9_insert_20 : decode cX9_insert 20 = .ok (.aload_n 1, 1) := by decide +kernel
theorem dX9_insert_21 : decode cX9_insert 21 = .ok (.iload 4, 2) := by decide +kernel
theorem dX9_insert_23 : decode cX9_insert 23 = .ok (.aload_n 1, 1) := by decide +kernel
theorem dX9_insert_24 : decode cX9_insert 24 = .ok (.iload 4, 2) := by decide +kernel
theorem dX9_insert_26 : decode cX9_insert 26 = .ok (.bipush 6, 2) := by decide +kernel
theorem dX9_insert_28 : decode cX9_insert 28 = .ok (.isub, 1) := by decide +kernel
theorem dX9_insert_29 : decode cX9_insert 29 = .ok (.iaload, 1) := by decide +kernel
theorem dX9_insert_30 : decode cX9_insert 30 = .ok (.iastore, 1) := by decide +kernel
theorem dX9_insert_31 : decode cX9_insert 31 = .ok (.iinc 4 (-1), 3) := by decide +kernel
theorem dX9_insert_34 : decode cX9_insert 34 = .ok (.goto (-26), 3) := by decide +kernel
theorem dX9_insert_37 : decode cX9_insert 37 = .ok (.iconst 0, 1) := by decide +kernel
theorem dX9_insert_38 : decode cX9_insert 38 = .ok (.istore 4, 2) := by decide +kernel
theorem dX9_insert_40 : decode cX9_insert 40 = .ok (.iload 4, 2) := by decide +kernel
theorem dX9_insert_42 : decode cX9_insert 42 = .ok (.bipush 6, 2) := by decide +kernel
theorem dX9_insert_44 : decode cX9_insert 44 = .ok (.if_icmp .ge 25, 3) := by decide +kernel
theorem dX9_insert_47 : decode cX9_insert 47 = .ok (.aload_n 1, 1) := by decide +kernel
theorem dX9_insert_48 : decode cX9_insert 48 = .ok (.bipush 6, 2) := by decide +kernel
theorem dX9_insert_50 : decode cX9_insert 50 = .ok (.iload_n 3, 1) := by decide +kernel
theorem dX9_insert_51 : decode cX9_insert 51 = .ok (.imul, 1) := by decide +kernel
theorem dX9_insert_52 : decode cX9_insert 52 = .ok (.iload 4, 2) := by decide +kernel
theorem dX9_insert_54 : decode cX9_insert 54 = .ok (.iadd, 1) := by decide +kernel
theorem dX9_insert_55 : decode cX9_insert 55 = .ok (.aload_n 0, 1) := by decide +kernel
theorem dX9_insert_56 : decode cX9_insert 56 = .ok (.getfield 26, 3) := by decide +kernel
theorem dX9_insert_59 : decode cX9_insert 59 = .ok (.iload 4, 2) := by decide +kernel
theorem dX9_insert_61 : decode cX9_insert 61 = .ok (.iaload, 1) := by decide +kernel
theorem dX9_insert_62 : decode cX9_insert 62 = .ok (.iastore, 1) := by decide +kernel
theorem dX9_insert_63 : decode cX9_insert 63 = .ok (.iinc 4 1, 3) := by decide +kernel
theorem dX9_insert_66 : decode cX9_insert 66 = .ok (.goto (-26), 3) := by decide +kernel
theorem dX9_insert_69 : decode cX9_insert 69 = .ok (.return_, 1) := by decide +kernel
theorem dX9_note_0 : decode cX9_note 0 = .ok (.iload_n 1, 1) := by decide +kernel
theorem dX9_note_1 : decode cX9_note 1 = .ok (.invokestatic 111, 3) := by decide +kernel
theorem dX9_note_4 : decode cX9_note 4 = .ok (.ifCond .ne 9, 3) := by decide +kernel
theorem dX9_note_7 : decode cX9_note 7 = .ok (.aload_n 0, 1) := by decide +kernel
theorem dX9_note_8 : decode cX9_note 8 = .ok (.iconst 1, 1) := by decide +kernel
theorem dX9_note_9 : decode cX9_note 9 = .ok (.invokevirtual 136, 3) := by decide +kernel
theorem dX9_note_12 : decode cX9_note 12 = .ok (.ireturn, 1) := by decide +kernel
theorem dX9_note_13 : decode cX9_note 13 = .ok (.aload_n 0, 1) := by decide +kernel
theorem dX9_note_14 : decode cX9_note 14 = .ok (.getfield 13, 3) := by decide +kernel
theorem dX9_note_17 : decode cX9_note 17 = .ok (.iload_n 1, 1) := by decide +kernel
theorem dX9_note_18 : decode cX9_note 18 = .ok (.baload, 1) := by decide +kernel
theorem dX9_note_19 : decode cX9_note 19 = .ok (.ifCond .ne 9, 3) := by decide +kernel
theorem dX9_note_22 : decode cX9_note 22 = .ok (.aload_n 0, 1) := by decide +kernel
theorem dX9_note_23 : decode cX9_note 23 = .ok (.iconst 2, 1) := by decide +kernel
theorem dX9_note_24 : decode cX9_note 24 = .ok (.invokevirtual 136, 3) := by decide +kernel
theorem dX9_note_27 : decode cX9_note 27 = .ok (.ireturn, 1) := by decide +kernel
theorem dX9_note_28 : decode cX9_note 28 = .ok (.aload_n 0, 1) := by decide +kernel
theorem dX9_note_29 : decode cX9_note 29 = .ok (.getfield 182, 3) := by decide +kernel
theorem dX9_note_32 : decode cX9_note 32 = .ok (.ifCond .ne 10, 3) := by decide +kernel
theorem dX9_note_35 : decode cX9_note 35 = .ok (.aload_n 0, 1) := by decide +kernel
theorem dX9_note_36 : decode cX9_note 36 = .ok (.bipush 7, 2) := by decide +kernel
theorem dX9_note_38 : decode cX9_note 38 = .ok (.invokevirtual 136, 3) := by decide +kernel
theorem dX9_note_41 : decode cX9_note 41 = .ok (.ireturn, 1) := by decide +kernel
theorem dX9_note_42 : decode cX9_note 42 = .ok (.aload_n 0, 1) := by decide +kernel
theorem dX9_note_43 : decode cX9_note 43 = .ok (.aload_n 0, 1) := by decide +kernel
theorem dX9_note_44 : decode cX9_note 44 = .ok (.getfield 26, 3) := by decide +kernel
theorem dX9_note_47 : decode cX9_note 47 = .ok (.aload_n 0, 1) := by decide +kernel
theorem dX9_note_48 : decode cX9_note 48 = .ok (.getfield 7, 3) := by decide +kernel
theorem dX9_note_51 : decode cX9_note 51 = .ok (.bipush 6, 2) := by decide +kernel
theorem dX9_note_53 : decode cX9_note 53 = .ok (.iload_n 1, 1) := by decide +kernel
theorem dX9_note_54 : decode cX9_note 54 = .ok (.imul, 1) := by decide +kernel
theorem dX9_note_55 : decode cX9_note 55 = .ok (.invokevirtual 129, 3) := by decide +kernel
theorem dX9_note_58 : decode cX9_note 58 = .ok (.aload_n 0, 1) := by decide +kernel
theorem dX9_note_59 : decode cX9_note 59 = .ok (.aload_n 0, 1) := by decide +kernel
theorem dX9_note_60 : decode cX9_note 60 = .ok (.getfield 29, 3) := by decide +kernel
theorem dX9_note_63 : decode cX9_note 63 = .ok (.aload_n 0, 1) := by decide +kernel
theorem dX9_note_64 : decode cX9_note 64 = .ok (.getfield 45, 3) := by decide +kernel
theorem dX9_note_67 : decode cX9_note 67 = .ok (.bipush 6, 2) := by decide +kernel
theorem dX9_note_69 : decode cX9_note 69 = .ok (.aload_n 0, 1) := by decide +kernel
theorem dX9_note_70 : decode cX9_note 70 = .ok (.getfield 182, 3) := by decide +kernel
theorem dX9_note_73 : decode cX9_note 73 = .ok (.imul, 1) := by decide +kernel
theorem dX9_note_74 : decode cX9_note 74 = .ok (.invokevirtual 129, 3) := by decide +kernel
theorem dX9_note_77 : decode cX9_note 77 = .ok (.aload_n 0, 1) := by decide +kernel
theorem dX9_note_78 : decode cX9_note 78 = .ok (.invokevirtual 133, 3) := by decide +kernel
theorem dX9_note_81 : decode cX9_note 81 = .ok (.ifCond .ne 9, 3) := by decide +kernel
theorem dX9_note_84 : decode cX9_note 84 = .ok (.aload_n 0, 1) := by decide +kernel
theorem dX9_note_85 : decode cX9_note 85 = .ok (.iconst 4, 1) := by decide +kernel
theorem dX9_note_86 : decode cX9_note 86 = .ok (.invokevirtual 136, 3) := by decide +kernel
theorem dX9_note_89 : decode cX9_note 89 = .ok (.ireturn, 1) := by decide +kernel
theorem dX9_note_90 : decode cX9_note 90 = .ok (.aload_n 0, 1) := by decide +kernel
theorem dX9_note_91 : decode cX9_note 91 = .ok (.aload_n 0, 1) := by decide +kernel
theorem dX9_note_92 : decode cX9_note 92 = .ok (.getfield 45, 3) := by decide +kernel
theorem dX9_note_95 : decode cX9_note 95 = .ok (.aload_n 0, 1) := by decide +kernel
theorem dX9_note_96 : decode cX9_note 96 = .ok (.getfield 182, 3) := by decide +kernel
theorem dX9_note_99 : decode cX9_note 99 = .ok (.invokevirtual 185, 3) := by decide +kernel
theorem dX9_note_102 : decode cX9_note 102 = .ok (.istore_n 2, 1) := by decide +kernel
theorem dX9_note_103 : decode cX9_note 103 = .ok (.iload_n 2, 1) := by decide +kernel
theorem dX9_note_104 : decode cX9_note 104 = .ok (.ifCond .ge 10, 3) := by decide +kernel
theorem dX9_note_107 : decode cX9_note 107 = .ok (.aload_n 0, 1) := by decide +kernel
theorem dX9_note_108 : decode cX9_note 108 = .ok (.bipush 8, 2) := by decide +kernel
theorem dX9_note_110 : decode cX9_note 110 = .ok (.invokevirtual 136, 3) := by decide +kernel
theorem dX9_note_113 : decode cX9_note 113 = .ok (.ireturn, 1) := by decide +kernel
theorem dX9_note_114 : decode cX9_note 114 = .ok (.aload_n 0, 1) := by decide +kernel
theorem dX9_note_115 : decode cX9_note 115 = .ok (.getfield 182, 3) := by decide +kernel
theorem dX9_note_118 : decode cX9_note 118 = .ok (.bipush 24, 2) := by decide +kernel
theorem dX9_note_120 : decode cX9_note 120 = .ok (.if_icmp .ne 10, 3) := by decide +kernel
theorem dX9_note_123 : decode cX9_note 123 = .ok (.aload_n 0, 1) := by decide +kernel
theorem dX9_note_124 : decode cX9_note 124 = .ok (.bipush 6, 2) := by decide +kernel
theorem dX9_note_126 : decode cX9_note 126 = .ok (.invokevirtual 136, 3) := by decide +kernel
theorem dX9_note_129 : decode cX9_note 129 = .ok (.ireturn, 1) := by decide +kernel
theorem dX9_note_130 : decode cX9_note 130 = .ok (.aload_n 0, 1) := by decide +kernel
theorem dX9_note_131 : decode cX9_note 131 = .ok (.iconst 0, 1) := by decide +kernel
theorem dX9_note_132 : decode cX9_note 132 = .ok (.putfield 66, 3) := by decide +kernel
theorem dX9_note_135 : decode cX9_note 135 = .ok (.aload_n 0, 1) := by decide +kernel
theorem dX9_note_136 : decode cX9_note 136 = .ok (.aload_n 0, 1) := by decide +kernel
theorem dX9_note_137 : decode cX9_note 137 = .ok (.getfield 45, 3) := by decide +kernel
theorem dX9_note_140 : decode cX9_note 140 = .ok (.aload_n 0, 1) := by decide +kernel
theorem dX9_note_141 : decode cX9_note 141 = .ok (.getfield 182, 3) := by decide +kernel
theorem dX9_note_144 : decode cX9_note 144 = .ok (.iconst 1, 1) := by decide +kernel
theorem dX9_note_145 : decode cX9_note 145 = .ok (.iadd, 1) := by decide +kernel
theorem dX9_note_146 : decode cX9_note 146 = .ok (.iload_n 2, 1) := by decide +kernel
theorem dX9_note_147 : decode cX9_note 147 = .ok (.invokevirtual 189, 3) := by decide +kernel
theorem dX9_note_150 : decode cX9_note 150 = .ok (.aload_n 0, 1) := by decide +kernel
theorem dX9_note_151 : decode cX9_note 151 = .ok (.dup, 1) := by decide +kernel
theorem dX9_note_152 : decode cX9_note 152 = .ok (.getfield 182, 3) := by decide +kernel
theorem dX9_note_155 : decode cX9_note 155 = .ok (.iconst 1, 1) := by decide +kernel
theorem dX9_note_156 : decode cX9_note 156 = .ok (.iadd, 1) := by decide +kernel
theorem dX9_note_157 : decode cX9_note 157 = .ok (.putfield 182, 3) := by decide +kernel
theorem dX9_note_160 : decode cX9_note 160 = .ok (.iload_n 2, 1) := by decide +kernel
theorem dX9_note_161 : decode cX9_note 161 = .ok (.ireturn, 1) := by decide +kernel
theorem dX9_lay_0 : decode cX9_lay 0 = .ok (.iload_n 1, 1) := by decide +kernel
theorem dX9_lay_1 : decode cX9_lay 1 = .ok (.invokestatic 111, 3) := by decide +kernel
theorem dX9_lay_4 : decode cX9_lay 4 = .ok (.ifCond .eq 10, 3) := by decide +kernel
theorem dX9_lay_7 : decode cX9_lay 7 = .ok (.iload_n 2, 1) := by decide +kernel
theorem dX9_lay_8 : decode cX9_lay 8 = .ok (.invokestatic 111, 3) := by decide +kernel
theorem dX9_lay_11 : decode cX9_lay 11 = .ok (.ifCond .ne 9, 3) := by decide +kernel
theorem dX9_lay_14 : decode cX9_lay 14 = .ok (.aload_n 0, 1) := by decide +kernel
theorem dX9_lay_15 : decode cX9_lay 15 = .ok (.iconst 1, 1) := by decide +kernel
theorem dX9_lay_16 : decode cX9_lay 16 = .ok (.invokevirtual 104, 3) := by decide +kernel
theorem dX9_lay_19 : decode cX9_lay 19 = .ok (.ireturn, 1) := by decide +kernel
theorem dX9_lay_20 : decode cX9_lay 20 = .ok (.aload_n 0, 1) := by decide +kernel
theorem dX9_lay_21 : decode cX9_lay 21 = .ok (.getfield 13, 3) := by decide +kernel
theorem dX9_lay_24 : decode cX9_lay 24 = .ok (.iload_n 1, 1) := by decide +kernel
theorem dX9_lay_25 : decode cX9_lay 25 = .ok (.baload, 1) := by decide +kernel
theorem dX9_lay_26 : decode cX9_lay 26 = .ok (.ifCond .eq 12, 3) := by decide +kernel
theorem dX9_lay_29 : decode cX9_lay 29 = .ok (.aload_n 0, 1) := by decide +kernel
theorem dX9_lay_30 : decode cX9_lay 30 = .ok (.getfield 13, 3) := by decide +kernel
theorem dX9_lay_33 : decode cX9_lay 33 = .ok (.iload_n 2, 1) := by decide +kernel
theorem dX9_lay_34 : decode cX9_lay 34 = .ok (.baload, 1) := by decide +kernel
theorem dX9_lay_35 : decode cX9_lay 35 = .ok (.ifCond .ne 9, 3) := by decide +kernel
theorem dX9_lay_38 : decode cX9_lay 38 = .ok (.aload_n 0, 1) := by decide +kernel
theorem dX9_lay_39 : decode cX9_lay 39 = .ok (.iconst 2, 1) := by decide +kernel
theorem dX9_lay_40 : decode cX9_lay 40 = .ok (.invokevirtual 104, 3) := by decide +kernel
theorem dX9_lay_43 : decode cX9_lay 43 = .ok (.ireturn, 1) := by decide +kernel
theorem dX9_lay_44 : decode cX9_lay 44 = .ok (.iload_n 3, 1) := by decide +kernel
theorem dX9_lay_45 : decode cX9_lay 45 = .ok (.iconst 1, 1) := by decide +kernel
theorem dX9_lay_46 : decode cX9_lay 46 = .ok (.if_icmp .lt 9, 3) := by decide +kernel
theorem dX9_lay_49 : decode cX9_lay 49 = .ok (.iload_n 3, 1) := by decide +kernel
theorem dX9_lay_50 : decode cX9_lay 50 = .ok (.bipush 24, 2) := by decide +kernel
theorem dX9_lay_52 : decode cX9_lay 52 = .ok (.if_icmp .le 9, 3) := by decide +kernel
theorem dX9_lay_55 : decode cX9_lay 55 = .ok (.aload_n 0, 1) := by decide +kernel
theorem dX9_lay_56 : decode cX9_lay 56 = .ok (.iconst 3, 1) := by decide +kernel
theorem dX9_lay_57 : decode cX9_lay 57 = .ok (.invokevirtual 104, 3) := by decide +kernel
theorem dX9_lay_60 : decode cX9_lay 60 = .ok (.ireturn, 1) := by decide +kernel
theorem dX9_lay_61 : decode cX9_lay 61 = .ok (.aload_n 0, 1) := by decide +kernel
theorem dX9_lay_62 : decode cX9_lay 62 = .ok (.iload_n 1, 1) := by decide +kernel
theorem dX9_lay_63 : decode cX9_lay 63 = .ok (.invokevirtual 126, 3) := by decide +kernel
theorem dX9_lay_66 : decode cX9_lay 66 = .ok (.ifCond .ne 9, 3) := by decide +kernel
theorem dX9_lay_69 : decode cX9_lay 69 = .ok (.aload_n 0, 1) := by decide +kernel
theorem dX9_lay_70 : decode cX9_lay 70 = .ok (.iconst 5, 1) := by decide +kernel
theorem dX9_lay_71 : decode cX9_lay 71 = .ok (.invokevirtual 104, 3) := by decide +kernel
theorem dX9_lay_74 : decode cX9_lay 74 = .ok (.ireturn, 1) := by decide +kernel
theorem dX9_lay_75 : decode cX9_lay 75 = .ok (.iconst 0, 1) := by decide +kernel
theorem dX9_lay_76 : decode cX9_lay 76 = .ok (.istore 4, 2) := by decide +kernel
theorem dX9_lay_78 : decode cX9_lay 78 = .ok (.iconst 0, 1) := by decide +kernel
theorem dX9_lay_79 : decode cX9_lay 79 = .ok (.istore 5, 2) := by decide +kernel
theorem dX9_lay_81 : decode cX9_lay 81 = .ok (.iload 5, 2) := by decide +kernel
theorem dX9_lay_83 : decode cX9_lay 83 = .ok (.bipush 6, 2) := by decide +kernel
theorem dX9_lay_85 : decode cX9_lay 85 = .ok (.if_icmp .ge 17, 3) := by decide +kernel
theorem dX9_lay_88 : decode cX9_lay 88 = .ok (.aload_n 0, 1) := by decide +kernel
theorem dX9_lay_89 : decode cX9_lay 89 = .ok (.getfield 48, 3) := by decide +kernel
theorem dX9_lay_92 : decode cX9_lay 92 = .ok (.iload 5, 2) := by decide +kernel
theorem dX9_lay_94 : decode cX9_lay 94 = .ok (.iconst 0, 1) := by decide +kernel
theorem dX9_lay_95 : decode cX9_lay 95 = .ok (.iastore, 1) := by decide +kernel
theorem dX9_lay_96 : decode cX9_lay 96 = .ok (.iinc 5 1, 3) := by decide +kernel
theorem dX9_lay_99 : decode cX9_lay 99 = .ok (.goto (-18), 3) := by decide +kernel
theorem dX9_lay_102 : decode cX9_lay 102 = .ok (.iconst 1, 1) := by decide +kernel
theorem dX9_lay_103 : decode cX9_lay 103 = .ok (.istore 5, 2) := by decide +kernel
theorem dX9_lay_105 : decode cX9_lay 105 = .ok (.iconst 1, 1) := by decide +kernel
theorem dX9_lay_106 : decode cX9_lay 106 = .ok (.istore 6, 2) := by decide +kernel
theorem dX9_lay_108 : decode cX9_lay 108 = .ok (.iload 6, 2) := by decide +kernel
theorem dX9_lay_110 : decode cX9_lay 110 = .ok (.iload_n 3, 1) := by decide +kernel
theorem dX9_lay_111 : decode cX9_lay 111 = .ok (.if_icmp .ge 114, 3) := by decide +kernel
theorem dX9_lay_114 : decode cX9_lay 114 = .ok (.aload_n 0, 1) := by decide +kernel
theorem dX9_lay_115 : decode cX9_lay 115 = .ok (.aload_n 0, 1) := by decide +kernel
theorem dX9_lay_116 : decode cX9_lay 116 = .ok (.getfield 29, 3) := by decide +kernel
theorem dX9_lay_119 : decode cX9_lay 119 = .ok (.aload_n 0, 1) := by decide +kernel
theorem dX9_lay_120 : decode cX9_lay 120 = .ok (.getfield 7, 3) := by decide +kernel
theorem dX9_lay_123 : decode cX9_lay 123 = .ok (.bipush 6, 2) := by decide +kernel
theorem dX9_lay_125 : decode cX9_lay 125 = .ok (.iload_n 1, 1) := by decide +kernel
theorem dX9_lay_126 : decode cX9_lay 126 = .ok (.imul, 1) := by decide +kernel
theorem dX9_lay_127 : decode cX9_lay 127 = .ok (.invokevirtual 129, 3) := by decide +kernel
theorem dX9_lay_130 : decode cX9_lay 130 = .ok (.iconst 0, 1) := by decide +kernel
theorem dX9_lay_131 : decode cX9_lay 131 = .ok (.istore 7, 2) := by decide +kernel
theorem dX9_lay_133 : decode cX9_lay 133 = .ok (.iload 7, 2) := by decide +kernel
theorem dX9_lay_135 : decode cX9_lay 135 = .ok (.bipush 6, 2) := by decide +kernel
theorem dX9_lay_137 : decode cX9_lay 137 = .ok (.if_icmp .ge 31, 3) := by decide +kernel
theorem dX9_lay_140 : decode cX9_lay 140 = .ok (.aload_n 0, 1) := by decide +kernel
theorem dX9_lay_141 : decode cX9_lay 141 = .ok (.getfield 26, 3) := by decide +kernel
theorem dX9_lay_144 : decode cX9_lay 144 = .ok (.iload 7, 2) := by decide +kernel
theorem dX9_lay_146 : decode cX9_lay 146 = .ok (.iload 6, 2) := by decide +kernel
theorem dX9_lay_148 : decode cX9_lay 148 = .ok (.aload_n 0, 1) := by decide +kernel
theorem dX9_lay_149 : decode cX9_lay 149 = .ok (.getfield 7, 3) := by decide +kernel
theorem dX9_lay_152 : decode cX9_lay 152 = .ok (.bipush 6, 2) := by decide +kernel
theorem dX9_lay_154 : decode cX9_lay 154 = .ok (.iload_n 2, 1) := by decide +kernel
theorem dX9_lay_155 : decode cX9_lay 155 = .ok (.imul, 1) := by decide +kernel
theorem dX9_lay_156 : decode cX9_lay 156 = .ok (.iload 7, 2) := by decide +kernel
theorem dX9_lay_158 : decode cX9_lay 158 = .ok (.iadd, 1) := by decide +kernel
theorem dX9_lay_159 : decode cX9_lay 159 = .ok (.iaload, 1) := by decide +kernel
theorem dX9_lay_160 : decode cX9_lay 160 = .ok (.imul, 1) := by decide +kernel
theorem dX9_lay_161 : decode cX9_lay 161 = .ok (.iastore, 1) := by decide +kernel
theorem dX9_lay_162 : decode cX9_lay 162 = .ok (.iinc 7 1, 3) := by decide +kernel
theorem dX9_lay_165 : decode cX9_lay 165 = .ok (.goto (-32), 3) := by decide +kernel
theorem dX9_lay_168 : decode cX9_lay 168 = .ok (.aload_n 0, 1) := by decide +kernel
theorem dX9_lay_169 : decode cX9_lay 169 = .ok (.invokevirtual 133, 3) := by decide +kernel
theorem dX9_lay_172 : decode cX9_lay 172 = .ok (.ifCond .ne 9, 3) := by decide +kernel
theorem dX9_lay_175 : decode cX9_lay 175 = .ok (.aload_n 0, 1) := by decide +kernel
theorem dX9_lay_176 : decode cX9_lay 176 = .ok (.iconst 4, 1) := by decide +kernel
theorem dX9_lay_177 : decode cX9_lay 177 = .ok (.invokevirtual 104, 3) := by decide +kernel
theorem dX9_lay_180 : decode cX9_lay 180 = .ok (.ireturn, 1) := by decide +kernel
theorem dX9_lay_181 : decode cX9_lay 181 = .ok (.aload_n 0, 1) := by decide +kernel
theorem dX9_lay_182 : decode cX9_lay 182 = .ok (.aload_n 0, 1) := by decide +kernel
theorem dX9_lay_183 : decode cX9_lay 183 = .ok (.getfield 48, 3) := by decide +kernel
theorem dX9_lay_186 : decode cX9_lay 186 = .ok (.iload 5, 2) := by decide +kernel
theorem dX9_lay_188 : decode cX9_lay 188 = .ok (.invokevirtual 185, 3) := by decide +kernel
theorem dX9_lay_191 : decode cX9_lay 191 = .ok (.istore 7, 2) := by decide +kernel
theorem dX9_lay_193 : decode cX9_lay 193 = .ok (.iload 7, 2) := by decide +kernel
theorem dX9_lay_195 : decode cX9_lay 195 = .ok (.ifCond .ge 9, 3) := by decide +kernel
theorem dX9_lay_198 : decode cX9_lay 198 = .ok (.iconst 1, 1) := by decide +kernel
theorem dX9_lay_199 : decode cX9_lay 199 = .ok (.istore 4, 2) := by decide +kernel
theorem dX9_lay_201 : decode cX9_lay 201 = .ok (.goto 18, 3) := by decide +kernel
theorem dX9_lay_204 : decode cX9_lay 204 = .ok (.aload_n 0, 1) := by decide +kernel
theorem dX9_lay_205 : decode cX9_lay 205 = .ok (.aload_n 0, 1) := by decide +kernel
theorem dX9_lay_206 : decode cX9_lay 206 = .ok (.getfield 48, 3) := by decide +kernel
theorem dX9_lay_209 : decode cX9_lay 209 = .ok (.iload 5, 2) := by decide +kernel
theorem dX9_lay_211 : decode cX9_lay 211 = .ok (.iload 7, 2) := by decide +kernel
theorem dX9_lay_213 : decode cX9_lay 213 = .ok (.invokevirtual 189, 3) := by decide +kernel
theorem dX9_lay_216 : decode cX9_lay 216 = .ok (.iinc 5 1, 3) := by decide +kernel
theorem dX9_lay_219 : decode cX9_lay 219 = .ok (.iinc 6 1, 3) := by decide +kernel
theorem dX9_lay_222 : decode cX9_lay 222 = .ok (.goto (-114), 3) := by decide +kernel
theorem dX9_lay_225 : decode cX9_lay 225 = .ok (.iload 4, 2) := by decide +kernel
theorem dX9_lay_227 : decode cX9_lay 227 = .ok (.ifCond .eq 10, 3) := by decide +kernel
theorem dX9_lay_230 : decode cX9_lay 230 = .ok (.aload_n 0, 1) := by decide +kernel
theorem dX9_lay_231 : decode cX9_lay 231 = .ok (.bipush 8, 2) := by decide +kernel
theorem dX9_lay_233 : decode cX9_lay 233 = .ok (.invokevirtual 104, 3) := by decide +kernel
theorem dX9_lay_236 : decode cX9_lay 236 = .ok (.ireturn, 1) := by decide +kernel
theorem dX9_lay_237 : decode cX9_lay 237 = .ok (.iconst 0, 1) := by decide +kernel
theorem dX9_lay_238 : decode cX9_lay 238 = .ok (.istore 6, 2) := by decide +kernel
theorem dX9_lay_240 : decode cX9_lay 240 = .ok (.iload 6, 2) := by decide +kernel
theorem dX9_lay_242 : decode cX9_lay 242 = .ok (.bipush 6, 2) := by decide +kernel
theorem dX9_lay_244 : decode cX9_lay 244 = .ok (.iload 5, 2) := by decide +kernel
theorem dX9_lay_246 : decode cX9_lay 246 = .ok (.imul, 1) := by decide +kernel
theorem dX9_lay_247 : decode cX9_lay 247 = .ok (.if_icmp .ge 23, 3) := by decide +kernel
theorem dX9_lay_250 : decode cX9_lay 250 = .ok (.aload_n 0, 1) := by decide +kernel
theorem dX9_lay_251 : decode cX9_lay 251 = .ok (.getfield 45, 3) := by decide +kernel
theorem dX9_lay_254 : decode cX9_lay 254 = .ok (.iload 6, 2) := by decide +kernel
theorem dX9_lay_256 : decode cX9_lay 256 = .ok (.aload_n 0, 1) := by decide +kernel
theorem dX9_lay_257 : decode cX9_lay 257 = .ok (.getfield 48, 3) := by decide +kernel
theorem dX9_lay_260 : decode cX9_lay 260 = .ok (.iload 6, 2) := by decide +kernel
theorem dX9_lay_262 : decode cX9_lay 262 = .ok (.iaload, 1) := by decide +kernel
theorem dX9_lay_263 : decode cX9_lay 263 = .ok (.iastore, 1) := by decide +kernel
theorem dX9_lay_264 : decode cX9_lay 264 = .ok (.iinc 6 1, 3) := by decide +kernel
theorem dX9_lay_267 : decode cX9_lay 267 = .ok (.goto (-27), 3) := by decide +kernel
theorem dX9_lay_270 : decode cX9_lay 270 = .ok (.iconst 0, 1) := by decide +kernel
theorem dX9_lay_271 : decode cX9_lay 271 = .ok (.istore 6, 2) := by decide +kernel
theorem dX9_lay_273 : decode cX9_lay 273 = .ok (.iload 6, 2) := by decide +kernel
theorem dX9_lay_275 : decode cX9_lay 275 = .ok (.bipush 6, 2) := by decide +kernel
theorem dX9_lay_277 : decode cX9_lay 277 = .ok (.if_icmp .ge 34, 3) := by decide +kernel
theorem dX9_lay_280 : decode cX9_lay 280 = .ok (.aload_n 0, 1) := by decide +kernel
theorem dX9_lay_281 : decode cX9_lay 281 = .ok (.getfield 45, 3) := by decide +kernel
theorem dX9_lay_284 : decode cX9_lay 284 = .ok (.bipush 6, 2) := by decide +kernel
theorem dX9_lay_286 : decode cX9_lay 286 = .ok (.iload 5, 2) := by decide +kernel
theorem dX9_lay_288 : decode cX9_lay 288 = .ok (.imul, 1) := by decide +kernel
theorem dX9_lay_289 : decode cX9_lay 289 = .ok (.iload 6, 2) := by decide +kernel
theorem dX9_lay_291 : decode cX9_lay 291 = .ok (.iadd, 1) := by decide +kernel
theorem dX9_lay_292 : decode cX9_lay 292 = .ok (.aload_n 0, 1) := by decide +kernel
theorem dX9_lay_293 : decode cX9_lay 293 = .ok (.getfield 7, 3) := by decide +kernel
theorem dX9_lay_296 : decode cX9_lay 296 = .ok (.bipush 6, 2) := by decide +kernel
theorem dX9_lay_298 : decode cX9_lay 298 = .ok (.iload_n 1, 1) := by decide +kernel
theorem dX9_lay_299 : decode cX9_lay 299 = .ok (.imul, 1) := by decide +kernel
theorem dX9_lay_300 : decode cX9_lay 300 = .ok (.iload 6, 2) := by decide +kernel
theorem dX9_lay_302 : decode cX9_lay 302 = .ok (.iadd, 1) := by decide +kernel
theorem dX9_lay_303 : decode cX9_lay 303 = .ok (.iaload, 1) := by decide +kernel
theorem dX9_lay_304 : decode cX9_lay 304 = .ok (.iastore, 1) := by decide +kernel
theorem dX9_lay_305 : decode cX9_lay 305 = .ok (.iinc 6 1, 3) := by decide +kernel
theorem dX9_lay_308 : decode cX9_lay 308 = .ok (.goto (-35), 3) := by decide +kernel
theorem dX9_lay_311 : decode cX9_lay 311 = .ok (.aload_n 0, 1) := by decide +kernel
theorem dX9_lay_312 : decode cX9_lay 312 = .ok (.iload 5, 2) := by decide +kernel
theorem dX9_lay_314 : decode cX9_lay 314 = .ok (.putfield 182, 3) := by decide +kernel
theorem dX9_lay_317 : decode cX9_lay 317 = .ok (.aload_n 0, 1) := by decide +kernel
theorem dX9_lay_318 : decode cX9_lay 318 = .ok (.iconst 0, 1) := by decide +kernel
theorem dX9_lay_319 : decode cX9_lay 319 = .ok (.invokevirtual 104, 3) := by decide +kernel
theorem dX9_lay_322 : decode cX9_lay 322 = .ok (.ireturn, 1) := by decide +kernel
theorem dX9_noteAt_0 : decode cX9_noteAt 0 = .ok (.aload_n 0, 1) := by decide +kernel
theorem dX9_noteAt_1 : decode cX9_noteAt 1 = .ok (.aload_n 0, 1) := by decide +kernel
theorem dX9_noteAt_2 : decode cX9_noteAt 2 = .ok (.getfield 45, 3) := by decide +kernel
theorem dX9_noteAt_5 : decode cX9_noteAt 5 = .ok (.bipush 6, 2) := by decide +kernel
theorem dX9_noteAt_7 : decode cX9_noteAt 7 = .ok (.iload_n 1, 1) := by decide +kernel
theorem dX9_noteAt_8 : decode cX9_noteAt 8 = .ok (.aload_n 0, 1) := by decide +kernel
theorem dX9_noteAt_9 : decode cX9_noteAt 9 = .ok (.getfield 182, 3) := by decide +kernel
theorem dX9_noteAt_12 : decode cX9_noteAt 12 = .ok (.irem, 1) := by decide +kernel
theorem dX9_noteAt_13 : decode cX9_noteAt 13 = .ok (.imul, 1) := by decide +kernel
theorem dX9_noteAt_14 : decode cX9_noteAt 14 = .ok (.invokevirtual 89, 3) := by decide +kernel
theorem dX9_noteAt_17 : decode cX9_noteAt 17 = .ok (.iconst 0, 1) := by decide +kernel
theorem dX9_noteAt_18 : decode cX9_noteAt 18 = .ok (.istore_n 2, 1) := by decide +kernel
theorem dX9_noteAt_19 : decode cX9_noteAt 19 = .ok (.iload_n 2, 1) := by decide +kernel
theorem dX9_noteAt_20 : decode cX9_noteAt 20 = .ok (.bipush 6, 2) := by decide +kernel
theorem dX9_noteAt_22 : decode cX9_noteAt 22 = .ok (.if_icmp .ge 39, 3) := by decide +kernel
theorem dX9_noteAt_25 : decode cX9_noteAt 25 = .ok (.aload_n 0, 1) := by decide +kernel
theorem dX9_noteAt_26 : decode cX9_noteAt 26 = .ok (.getfield 23, 3) := by decide +kernel
theorem dX9_noteAt_29 : decode cX9_noteAt 29 = .ok (.iload_n 2, 1) := by decide +kernel
theorem dX9_noteAt_30 : decode cX9_noteAt 30 = .ok (.dup2, 1) := by decide +kernel
theorem dX9_noteAt_31 : decode cX9_noteAt 31 = .ok (.iaload, 1) := by decide +kernel
theorem dX9_noteAt_32 : decode cX9_noteAt 32 = .ok (.iload_n 1, 1) := by decide +kernel
theorem dX9_noteAt_33 : decode cX9_noteAt 33 = .ok (.aload_n 0, 1) := by decide +kernel
theorem dX9_noteAt_34 : decode cX9_noteAt 34 = .ok (.getfield 182, 3) := by decide +kernel
theorem dX9_noteAt_37 : decode cX9_noteAt 37 = .ok (.idiv, 1) := by decide +kernel
theorem dX9_noteAt_38 : decode cX9_noteAt 38 = .ok (.aload_n 0, 1) := by decide +kernel
theorem dX9_noteAt_39 : decode cX9_noteAt 39 = .ok (.getfield 45, 3) := by decide +kernel
theorem dX9_noteAt_42 : decode cX9_noteAt 42 = .ok (.bipush 6, 2) := by decide +kernel
theorem dX9_noteAt_44 : decode cX9_noteAt 44 = .ok (.aload_n 0, 1) := by decide +kernel
theorem dX9_noteAt_45 : decode cX9_noteAt 45 = .ok (.getfield 182, 3) := by decide +kernel
theorem dX9_noteAt_48 : decode cX9_noteAt 48 = .ok (.imul, 1) := by decide +kernel
theorem dX9_noteAt_49 : decode cX9_noteAt 49 = .ok (.iload_n 2, 1) := by decide +kernel
theorem dX9_noteAt_50 : decode cX9_noteAt 50 = .ok (.iadd, 1) := by decide +kernel
theorem dX9_noteAt_51 : decode cX9_noteAt 51 = .ok (.iaload, 1) := by decide +kernel
theorem dX9_noteAt_52 : decode cX9_noteAt 52 = .ok (.imul, 1) := by decide +kernel
theorem dX9_noteAt_53 : decode cX9_noteAt 53 = .ok (.iadd, 1) := by decide +kernel
theorem dX9_noteAt_54 : decode cX9_noteAt 54 = .ok (.iastore, 1) := by decide +kernel
theorem dX9_noteAt_55 : decode cX9_noteAt 55 = .ok (.iinc 2 1, 3) := by decide +kernel
theorem dX9_noteAt_58 : decode cX9_noteAt 58 = .ok (.goto (-39), 3) := by decide +kernel
theorem dX9_noteAt_61 : decode cX9_noteAt 61 = .ok (.return_, 1) := by decide +kernel
theorem dX9_take_0 : decode cX9_take 0 = .ok (.iload_n 2, 1) := by decide +kernel
theorem dX9_take_1 : decode cX9_take 1 = .ok (.invokestatic 111, 3) := by decide +kernel
theorem dX9_take_4 : decode cX9_take 4 = .ok (.ifCond .ne 9, 3) := by decide +kernel
theorem dX9_take_7 : decode cX9_take 7 = .ok (.aload_n 0, 1) := by decide +kernel
theorem dX9_take_8 : decode cX9_take 8 = .ok (.iconst 1, 1) := by decide +kernel
theorem dX9_take_9 : decode cX9_take 9 = .ok (.invokevirtual 104, 3) := by decide +kernel
theorem dX9_take_12 : decode cX9_take 12 = .ok (.ireturn, 1) := by decide +kernel
theorem dX9_take_13 : decode cX9_take 13 = .ok (.aload_n 0, 1) := by decide +kernel
theorem dX9_take_14 : decode cX9_take 14 = .ok (.getfield 182, 3) := by decide +kernel
theorem dX9_take_17 : decode cX9_take 17 = .ok (.ifCond .ne 10, 3) := by decide +kernel
theorem dX9_take_20 : decode cX9_take 20 = .ok (.aload_n 0, 1) := by decide +kernel
theorem dX9_take_21 : decode cX9_take 21 = .ok (.bipush 7, 2) := by decide +kernel
theorem dX9_take_23 : decode cX9_take 23 = .ok (.invokevirtual 104, 3) := by decide +kernel
theorem dX9_take_26 : decode cX9_take 26 = .ok (.ireturn, 1) := by decide +kernel
theorem dX9_take_27 : decode cX9_take 27 = .ok (.iload_n 1, 1) := by decide +kernel
theorem dX9_take_28 : decode cX9_take 28 = .ok (.ifCond .lt 11, 3) := by decide +kernel
theorem dX9_take_31 : decode cX9_take 31 = .ok (.iload_n 1, 1) := by decide +kernel
theorem dX9_take_32 : decode cX9_take 32 = .ok (.aload_n 0, 1) := by decide +kernel
theorem dX9_take_33 : decode cX9_take 33 = .ok (.getfield 182, 3) := by decide +kernel
theorem dX9_take_36 : decode cX9_take 36 = .ok (.if_icmp .le 9, 3) := by decide +kernel
theorem dX9_take_39 : decode cX9_take 39 = .ok (.aload_n 0, 1) := by decide +kernel
theorem dX9_take_40 : decode cX9_take 40 = .ok (.iconst 3, 1) := by decide +kernel
theorem dX9_take_41 : decode cX9_take 41 = .ok (.invokevirtual 104, 3) := by decide +kernel
theorem dX9_take_44 : decode cX9_take 44 = .ok (.ireturn, 1) := by decide +kernel
theorem dX9_take_45 : decode cX9_take 45 = .ok (.aload_n 0, 1) := by decide +kernel
theorem dX9_take_46 : decode cX9_take 46 = .ok (.iload_n 1, 1) := by decide +kernel
theorem dX9_take_47 : decode cX9_take 47 = .ok (.invokevirtual 193, 3) := by decide +kernel
theorem dX9_take_50 : decode cX9_take 50 = .ok (.aload_n 0, 1) := by decide +kernel
theorem dX9_take_51 : decode cX9_take 51 = .ok (.iload_n 2, 1) := by decide +kernel
theorem dX9_take_52 : decode cX9_take 52 = .ok (.invokevirtual 114, 3) := by decide +kernel
theorem dX9_take_55 : decode cX9_take 55 = .ok (.ireturn, 1) := by decide +kernel
theorem dX9_stepsBy_0 : decode cX9_stepsBy 0 = .ok (.aload_n 0, 1) := by decide +kernel
theorem dX9_stepsBy_1 : decode cX9_stepsBy 1 = .ok (.iconst 0, 1) := by decide +kernel
theorem dX9_stepsBy_2 : decode cX9_stepsBy 2 = .ok (.putfield 196, 3) := by decide +kernel
theorem dX9_stepsBy_5 : decode cX9_stepsBy 5 = .ok (.iconst 0, 1) := by decide +kernel
theorem dX9_stepsBy_6 : decode cX9_stepsBy 6 = .ok (.istore_n 2, 1) := by decide +kernel
theorem dX9_stepsBy_7 : decode cX9_stepsBy 7 = .ok (.iload_n 2, 1) := by decide +kernel
theorem dX9_stepsBy_8 : decode cX9_stepsBy 8 = .ok (.aload_n 0, 1) := by decide +kernel
theorem dX9_stepsBy_9 : decode cX9_stepsBy 9 = .ok (.getfield 182, 3) := by decide +kernel
theorem dX9_stepsBy_12 : decode cX9_stepsBy 12 = .ok (.if_icmp .ge 125, 3) := by decide +kernel
theorem dX9_stepsBy_15 : decode cX9_stepsBy 15 = .ok (.aload_n 0, 1) := by decide +kernel
theorem dX9_stepsBy_16 : decode cX9_stepsBy 16 = .ok (.iload_n 2, 1) := by decide +kernel
theorem dX9_stepsBy_17 : decode cX9_stepsBy 17 = .ok (.iload_n 1, 1) := by decide +kernel
theorem dX9_stepsBy_18 : decode cX9_stepsBy 18 = .ok (.iadd, 1) := by decide +kernel
theorem dX9_stepsBy_19 : decode cX9_stepsBy 19 = .ok (.invokevirtual 193, 3) := by decide +kernel
theorem dX9_stepsBy_22 : decode cX9_stepsBy 22 = .ok (.aload_n 0, 1) := by decide +kernel
theorem dX9_stepsBy_23 : decode cX9_stepsBy 23 = .ok (.aload_n 0, 1) := by decide +kernel
theorem dX9_stepsBy_24 : decode cX9_stepsBy 24 = .ok (.getfield 45, 3) := by decide +kernel
theorem dX9_stepsBy_27 : decode cX9_stepsBy 27 = .ok (.bipush 6, 2) := by decide +kernel
theorem dX9_stepsBy_29 : decode cX9_stepsBy 29 = .ok (.iload_n 2, 1) := by decide +kernel
theorem dX9_stepsBy_30 : decode cX9_stepsBy 30 = .ok (.imul, 1) := by decide +kernel
theorem dX9_stepsBy_31 : decode cX9_stepsBy 31 = .ok (.invokevirtual 93, 3) := by decide +kernel
theorem dX9_stepsBy_34 : decode cX9_stepsBy 34 = .ok (.aload_n 0, 1) := by decide +kernel
theorem dX9_stepsBy_35 : decode cX9_stepsBy 35 = .ok (.aload_n 0, 1) := by decide +kernel
theorem dX9_stepsBy_36 : decode cX9_stepsBy 36 = .ok (.getfield 51, 3) := by decide +kernel
theorem dX9_stepsBy_39 : decode cX9_stepsBy 39 = .ok (.aload_n 0, 1) := by decide +kernel
theorem dX9_stepsBy_40 : decode cX9_stepsBy 40 = .ok (.getfield 196, 3) := by decide +kernel
theorem dX9_stepsBy_43 : decode cX9_stepsBy 43 = .ok (.invokevirtual 185, 3) := by decide +kernel
theorem dX9_stepsBy_46 : decode cX9_stepsBy 46 = .ok (.istore_n 3, 1) := by decide +kernel
theorem dX9_stepsBy_47 : decode cX9_stepsBy 47 = .ok (.iload_n 3, 1) := by decide +kernel
theorem dX9_stepsBy_48 : decode cX9_stepsBy 48 = .ok (.ifCond .ge 19, 3) := by decide +kernel
theorem dX9_stepsBy_51 : decode cX9_stepsBy 51 = .ok (.aload_n 0, 1) := by decide +kernel
theorem dX9_stepsBy_52 : decode cX9_stepsBy 52 = .ok (.getfield 54, 3) := by decide +kernel
theorem dX9_stepsBy_55 : decode cX9_stepsBy 55 = .ok (.bipush (-2), 2) := by decide +kernel
theorem dX9_stepsBy_57 : decode cX9_stepsBy 57 = .ok (.iload_n 3, 1) := by decide +kernel
theorem dX9_stepsBy_58 : decode cX9_stepsBy 58 = .ok (.isub, 1) := by decide +kernel
theorem dX9_stepsBy_59 : decode cX9_stepsBy 59 = .ok (.dup2, 1) := by decide +kernel
theorem dX9_stepsBy_60 : decode cX9_stepsBy 60 = .ok (.iaload, 1) := by decide +kernel
theorem dX9_stepsBy_61 : decode cX9_stepsBy 61 = .ok (.iconst 1, 1) := by decide +kernel
theorem dX9_stepsBy_62 : decode cX9_stepsBy 62 = .ok (.iadd, 1) := by decide +kernel
theorem dX9_stepsBy_63 : decode cX9_stepsBy 63 = .ok (.iastore, 1) := by decide +kernel
theorem dX9_stepsBy_64 : decode cX9_stepsBy 64 = .ok (.goto 67, 3) := by decide +kernel
theorem dX9_stepsBy_67 : decode cX9_stepsBy 67 = .ok (.aload_n 0, 1) := by decide +kernel
theorem dX9_stepsBy_68 : decode cX9_stepsBy 68 = .ok (.aload_n 0, 1) := by decide +kernel
theorem dX9_stepsBy_69 : decode cX9_stepsBy 69 = .ok (.getfield 51, 3) := by decide +kernel
theorem dX9_stepsBy_72 : decode cX9_stepsBy 72 = .ok (.aload_n 0, 1) := by decide +kernel
theorem dX9_stepsBy_73 : decode cX9_stepsBy 73 = .ok (.getfield 196, 3) := by decide +kernel
theorem dX9_stepsBy_76 : decode cX9_stepsBy 76 = .ok (.iload_n 3, 1) := by decide +kernel
theorem dX9_stepsBy_77 : decode cX9_stepsBy 77 = .ok (.invokevirtual 189, 3) := by decide +kernel
theorem dX9_stepsBy_80 : decode cX9_stepsBy 80 = .ok (.aload_n 0, 1) := by decide +kernel
theorem dX9_stepsBy_81 : decode cX9_stepsBy 81 = .ok (.getfield 196, 3) := by decide +kernel
theorem dX9_stepsBy_84 : decode cX9_stepsBy 84 = .ok (.istore 4, 2) := by decide +kernel
theorem dX9_stepsBy_86 : decode cX9_stepsBy 86 = .ok (.iload 4, 2) := by decide +kernel
theorem dX9_stepsBy_88 : decode cX9_stepsBy 88 = .ok (.iload_n 3, 1) := by decide +kernel
theorem dX9_stepsBy_89 : decode cX9_stepsBy 89 = .ok (.if_icmp .le 25, 3) := by decide +kernel
theorem dX9_stepsBy_92 : decode cX9_stepsBy 92 = .ok (.aload_n 0, 1) := by decide +kernel
theorem dX9_stepsBy_93 : decode cX9_stepsBy 93 = .ok (.getfield 54, 3) := by decide +kernel
theorem dX9_stepsBy_96 : decode cX9_stepsBy 96 = .ok (.iload 4, 2) := by decide +kernel
theorem dX9_stepsBy_98 : decode cX9_stepsBy 98 = .ok (.aload_n 0, 1) := by decide +kernel
theorem dX9_stepsBy_99 : decode cX9_stepsBy 99 = .ok (.getfield 54, 3) := by decide +kernel
theorem dX9_stepsBy_102 : decode cX9_stepsBy 102 = .ok (.iload 4, 2) := by decide +kernel
theorem dX9_stepsBy_104 : decode cX9_stepsBy 104 = .ok (.iconst 1, 1) := by decide +kernel
theorem dX9_stepsBy_105 : decode cX9_stepsBy 105 = .ok (.isub, 1) := by decide +kernel
theorem dX9_stepsBy_106 : decode cX9_stepsBy 106 = .ok (.iaload, 1) := by decide +kernel
theorem dX9_stepsBy_107 : decode cX9_stepsBy 107 = .ok (.iastore, 1) := by decide +kernel
theorem dX9_stepsBy_108 : decode cX9_stepsBy 108 = .ok (.iinc 4 (-1), 3) := by decide +kernel
theorem dX9_stepsBy_111 : decode cX9_stepsBy 111 = .ok (.goto (-25), 3) := by decide +kernel
theorem dX9_stepsBy_114 : decode cX9_stepsBy 114 = .ok (.aload_n 0, 1) := by decide +kernel
theorem dX9_stepsBy_115 : decode cX9_stepsBy 115 = .ok (.getfield 54, 3) := by decide +kernel
theorem dX9_stepsBy_118 : decode cX9_stepsBy 118 = .ok (.iload_n 3, 1) := by decide +kernel
theorem dX9_stepsBy_119 : decode cX9_stepsBy 119 = .ok (.iconst 1, 1) := by decide +kernel
theorem dX9_stepsBy_120 : decode cX9_stepsBy 120 = .ok (.iastore, 1) := by decide +kernel
theorem dX9_stepsBy_121 : decode cX9_stepsBy 121 = .ok (.aload_n 0, 1) := by decide +kernel
theorem dX9_stepsBy_122 : decode cX9_stepsBy 122 = .ok (.dup, 1) := by decide +kernel
theorem dX9_stepsBy_123 : decode cX9_stepsBy 123 = .ok (.getfield 196, 3) := by decide +kernel
theorem dX9_stepsBy_126 : decode cX9_stepsBy 126 = .ok (.iconst 1, 1) := by decide +kernel
theorem dX9_stepsBy_127 : decode cX9_stepsBy 127 = .ok (.iadd, 1) := by decide +kernel
theorem dX9_stepsBy_128 : decode cX9_stepsBy 128 = .ok (.putfield 196, 3) := by decide +kernel
theorem dX9_stepsBy_131 : decode cX9_stepsBy 131 = .ok (.iinc 2 1, 3) := by decide +kernel
theorem dX9_stepsBy_134 : decode cX9_stepsBy 134 = .ok (.goto (-127), 3) := by decide +kernel
theorem dX9_stepsBy_137 : decode cX9_stepsBy 137 = .ok (.return_, 1) := by decide +kernel
theorem dX9_isProper_0 : decode cX9_isProper 0 = .ok (.iconst 1, 1) := by decide +kernel
theorem dX9_isProper_1 : decode cX9_isProper 1 = .ok (.istore_n 2, 1) := by decide +kernel
theorem dX9_isProper_2 : decode cX9_isProper 2 = .ok (.iload_n 2, 1) := by decide +kernel
theorem dX9_isProper_3 : decode cX9_isProper 3 = .ok (.aload_n 0, 1) := by decide +kernel
theorem dX9_isProper_4 : decode cX9_isProper 4 = .ok (.getfield 182, 3) := by decide +kernel
theorem dX9_isProper_7 : decode cX9_isProper 7 = .ok (.if_icmp .ge 86, 3) := by decide +kernel
theorem dX9_isProper_10 : decode cX9_isProper 10 = .ok (.aload_n 0, 1) := by decide +kernel
theorem dX9_isProper_11 : decode cX9_isProper 11 = .ok (.iload_n 2, 1) := by decide +kernel
theorem dX9_isProper_12 : decode cX9_isProper 12 = .ok (.invokevirtual 199, 3) := by decide +kernel
theorem dX9_isProper_15 : decode cX9_isProper 15 = .ok (.iconst 0, 1) := by decide +kernel
theorem dX9_isProper_16 : decode cX9_isProper 16 = .ok (.istore_n 3, 1) := by decide +kernel
theorem dX9_isProper_17 : decode cX9_isProper 17 = .ok (.iload_n 3, 1) := by decide +kernel
theorem dX9_isProper_18 : decode cX9_isProper 18 = .ok (.bipush 6, 2) := by decide +kernel
theorem dX9_isProper_20 : decode cX9_isProper 20 = .ok (.if_icmp .ge 31, 3) := by decide +kernel
theorem dX9_isProper_23 : decode cX9_isProper 23 = .ok (.aload_n 0, 1) := by decide +kernel
theorem dX9_isProper_24 : decode cX9_isProper 24 = .ok (.getfield 57, 3) := by decide +kernel
theorem dX9_isProper_27 : decode cX9_isProper 27 = .ok (.iload_n 3, 1) := by decide +kernel
theorem dX9_isProper_28 : decode cX9_isProper 28 = .ok (.aload_n 0, 1) := by decide +kernel
theorem dX9_isProper_29 : decode cX9_isProper 29 = .ok (.getfield 51, 3) := by decide +kernel
theorem dX9_isProper_32 : decode cX9_isProper 32 = .ok (.bipush 6, 2) := by decide +kernel
theorem dX9_isProper_34 : decode cX9_isProper 34 = .ok (.aload_n 0, 1) := by decide +kernel
theorem dX9_isProper_35 : decode cX9_isProper 35 = .ok (.getfield 196, 3) := by decide +kernel
theorem dX9_isProper_38 : decode cX9_isProper 38 = .ok (.iconst 1, 1) := by decide +kernel
theorem dX9_isProper_39 : decode cX9_isProper 39 = .ok (.isub, 1) := by decide +kernel
theorem dX9_isProper_40 : decode cX9_isProper 40 = .ok (.imul, 1) := by decide +kernel
theorem dX9_isProper_41 : decode cX9_isProper 41 = .ok (.iload_n 3, 1) := by decide +kernel
theorem dX9_isProper_42 : decode cX9_isProper 42 = .ok (.iadd, 1) := by decide +kernel
theorem dX9_isProper_43 : decode cX9_isProper 43 = .ok (.iaload, 1) := by decide +kernel
theorem dX9_isProper_44 : decode cX9_isProper 44 = .ok (.iastore, 1) := by decide +kernel
theorem dX9_isProper_45 : decode cX9_isProper 45 = .ok (.iinc 3 1, 3) := by decide +kernel
theorem dX9_isProper_48 : decode cX9_isProper 48 = .ok (.goto (-31), 3) := by decide +kernel
theorem dX9_isProper_51 : decode cX9_isProper 51 = .ok (.aload_n 0, 1) := by decide +kernel
theorem dX9_isProper_52 : decode cX9_isProper 52 = .ok (.iload_n 2, 1) := by decide +kernel
theorem dX9_isProper_53 : decode cX9_isProper 53 = .ok (.iconst 1, 1) := by decide +kernel
theorem dX9_isProper_54 : decode cX9_isProper 54 = .ok (.iadd, 1) := by decide +kernel
theorem dX9_isProper_55 : decode cX9_isProper 55 = .ok (.invokevirtual 199, 3) := by decide +kernel
theorem dX9_isProper_58 : decode cX9_isProper 58 = .ok (.aload_n 0, 1) := by decide +kernel
theorem dX9_isProper_59 : decode cX9_isProper 59 = .ok (.aload_n 0, 1) := by decide +kernel
theorem dX9_isProper_60 : decode cX9_isProper 60 = .ok (.getfield 57, 3) := by decide +kernel
theorem dX9_isProper_63 : decode cX9_isProper 63 = .ok (.iconst 0, 1) := by decide +kernel
theorem dX9_isProper_64 : decode cX9_isProper 64 = .ok (.aload_n 0, 1) := by decide +kernel
theorem dX9_isProper_65 : decode cX9_isProper 65 = .ok (.getfield 51, 3) := by decide +kernel
theorem dX9_isProper_68 : decode cX9_isProper 68 = .ok (.iconst 0, 1) := by decide +kernel
theorem dX9_isProper_69 : decode cX9_isProper 69 = .ok (.invokevirtual 139, 3) := by decide +kernel
theorem dX9_isProper_72 : decode cX9_isProper 72 = .ok (.istore_n 3, 1) := by decide +kernel
theorem dX9_isProper_73 : decode cX9_isProper 73 = .ok (.iload_n 3, 1) := by decide +kernel
theorem dX9_isProper_74 : decode cX9_isProper 74 = .ok (.ifCond .gt 11, 3) := by decide +kernel
theorem dX9_isProper_77 : decode cX9_isProper 77 = .ok (.iload_n 1, 1) := by decide +kernel
theorem dX9_isProper_78 : decode cX9_isProper 78 = .ok (.ifCond .eq 9, 3) := by decide +kernel
theorem dX9_isProper_81 : decode cX9_isProper 81 = .ok (.iload_n 3, 1) := by decide +kernel
theorem dX9_isProper_82 : decode cX9_isProper 82 = .ok (.ifCond .ne 5, 3) := by decide +kernel
theorem dX9_isProper_85 : decode cX9_isProper 85 = .ok (.iconst 0, 1) := by decide +kernel
theorem dX9_isProper_86 : decode cX9_isProper 86 = .ok (.ireturn, 1) := by decide +kernel
theorem dX9_isProper_87 : decode cX9_isProper 87 = .ok (.iinc 2 1, 3) := by decide +kernel
theorem dX9_isProper_90 : decode cX9_isProper 90 = .ok (.goto (-88), 3) := by decide +kernel
theorem dX9_isProper_93 : decode cX9_isProper 93 = .ok (.iconst 1, 1) := by decide +kernel
theorem dX9_isProper_94 : decode cX9_isProper 94 = .ok (.ireturn, 1) := by decide +kernel
theorem dX9_isMyth_0 : decode cX9_isMyth 0 = .ok (.aload_n 0, 1) := by decide +kernel
theorem dX9_isMyth_1 : decode cX9_isMyth 1 = .ok (.getfield 182, 3) := by decide +kernel
theorem dX9_isMyth_4 : decode cX9_isMyth 4 = .ok (.iconst 2, 1) := by decide +kernel
theorem dX9_isMyth_5 : decode cX9_isMyth 5 = .ok (.if_icmp .lt 7, 3) := by decide +kernel
theorem dX9_isMyth_8 : decode cX9_isMyth 8 = .ok (.iconst 1, 1) := by decide +kernel
theorem dX9_isMyth_9 : decode cX9_isMyth 9 = .ok (.goto 4, 3) := by decide +kernel
theorem dX9_isMyth_12 : decode cX9_isMyth 12 = .ok (.iconst 0, 1) := by decide +kernel
theorem dX9_isMyth_13 : decode cX9_isMyth 13 = .ok (.istore_n 1, 1) := by decide +kernel
theorem dX9_isMyth_14 : decode cX9_isMyth 14 = .ok (.iconst 1, 1) := by decide +kernel
theorem dX9_isMyth_15 : decode cX9_isMyth 15 = .ok (.istore_n 2, 1) := by decide +kernel
theorem dX9_isMyth_16 : decode cX9_isMyth 16 = .ok (.iload_n 2, 1) := by decide +kernel
theorem dX9_isMyth_17 : decode cX9_isMyth 17 = .ok (.aload_n 0, 1) := by decide +kernel
theorem dX9_isMyth_18 : decode cX9_isMyth 18 = .ok (.getfield 182, 3) := by decide +kernel
theorem dX9_isMyth_21 : decode cX9_isMyth 21 = .ok (.if_icmp .ge 32, 3) := by decide +kernel
theorem dX9_isMyth_24 : decode cX9_isMyth 24 = .ok (.iload_n 1, 1) := by decide +kernel
theorem dX9_isMyth_25 : decode cX9_isMyth 25 = .ok (.ifCond .eq 28, 3) := by decide +kernel
theorem dX9_isMyth_28 : decode cX9_isMyth 28 = .ok (.aload_n 0, 1) := by decide +kernel
theorem dX9_isMyth_29 : decode cX9_isMyth 29 = .ok (.iload_n 2, 1) := by decide +kernel
theorem dX9_isMyth_30 : decode cX9_isMyth 30 = .ok (.invokevirtual 199, 3) := by decide +kernel
theorem dX9_isMyth_33 : decode cX9_isMyth 33 = .ok (.aload_n 0, 1) := by decide +kernel
theorem dX9_isMyth_34 : decode cX9_isMyth 34 = .ok (.getfield 196, 3) := by decide +kernel
theorem dX9_isMyth_37 : decode cX9_isMyth 37 = .ok (.iconst 2, 1) := by decide +kernel
theorem dX9_isMyth_38 : decode cX9_isMyth 38 = .ok (.if_icmp .ne 7, 3) := by decide +kernel
theorem dX9_isMyth_41 : decode cX9_isMyth 41 = .ok (.iconst 1, 1) := by decide +kernel
theorem dX9_isMyth_42 : decode cX9_isMyth 42 = .ok (.goto 4, 3) := by decide +kernel
theorem dX9_isMyth_45 : decode cX9_isMyth 45 = .ok (.iconst 0, 1) := by decide +kernel
theorem dX9_isMyth_46 : decode cX9_isMyth 46 = .ok (.istore_n 1, 1) := by decide +kernel
theorem dX9_isMyth_47 : decode cX9_isMyth 47 = .ok (.iinc 2 1, 3) := by decide +kernel
theorem dX9_isMyth_50 : decode cX9_isMyth 50 = .ok (.goto (-34), 3) := by decide +kernel
theorem dX9_isMyth_53 : decode cX9_isMyth 53 = .ok (.iload_n 1, 1) := by decide +kernel
theorem dX9_isMyth_54 : decode cX9_isMyth 54 = .ok (.ireturn, 1) := by decide +kernel
theorem dX9_scale_0 : decode cX9_scale 0 = .ok (.aload_n 0, 1) := by decide +kernel
theorem dX9_scale_1 : decode cX9_scale 1 = .ok (.getfield 182, 3) := by decide +kernel
theorem dX9_scale_4 : decode cX9_scale 4 = .ok (.ifCond .ne 10, 3) := by decide +kernel
theorem dX9_scale_7 : decode cX9_scale 7 = .ok (.aload_n 0, 1) := by decide +kernel
theorem dX9_scale_8 : decode cX9_scale 8 = .ok (.bipush 7, 2) := by decide +kernel
theorem dX9_scale_10 : decode cX9_scale 10 = .ok (.invokevirtual 136, 3) := by decide +kernel
theorem dX9_scale_13 : decode cX9_scale 13 = .ok (.ireturn, 1) := by decide +kernel
theorem dX9_scale_14 : decode cX9_scale 14 = .ok (.iload_n 1, 1) := by decide +kernel
theorem dX9_scale_15 : decode cX9_scale 15 = .ok (.ifCond .lt 8, 3) := by decide +kernel
theorem dX9_scale_18 : decode cX9_scale 18 = .ok (.iload_n 1, 1) := by decide +kernel
theorem dX9_scale_19 : decode cX9_scale 19 = .ok (.iconst 4, 1) := by decide +kernel
theorem dX9_scale_20 : decode cX9_scale 20 = .ok (.if_icmp .le 9, 3) := by decide +kernel
theorem dX9_scale_23 : decode cX9_scale 23 = .ok (.aload_n 0, 1) := by decide +kernel
theorem dX9_scale_24 : decode cX9_scale 24 = .ok (.iconst 3, 1) := by decide +kernel
theorem dX9_scale_25 : decode cX9_scale 25 = .ok (.invokevirtual 136, 3) := by decide +kernel
theorem dX9_scale_28 : decode cX9_scale 28 = .ok (.ireturn, 1) := by decide +kernel
theorem dX9_scale_29 : decode cX9_scale 29 = .ok (.aload_n 0, 1) := by decide +kernel
theorem dX9_scale_30 : decode cX9_scale 30 = .ok (.iconst 0, 1) := by decide +kernel
theorem dX9_scale_31 : decode cX9_scale 31 = .ok (.putfield 66, 3) := by decide +kernel
theorem dX9_scale_34 : decode cX9_scale 34 = .ok (.iload_n 1, 1) := by decide +kernel
theorem dX9_scale_35 : decode cX9_scale 35 = .ok (.ifCond .ne 8, 3) := by decide +kernel
theorem dX9_scale_38 : decode cX9_scale 38 = .ok (.aload_n 0, 1) := by decide +kernel
theorem dX9_scale_39 : decode cX9_scale 39 = .ok (.getfield 182, 3) := by decide +kernel
theorem dX9_scale_42 : decode cX9_scale 42 = .ok (.ireturn, 1) := by decide +kernel
theorem dX9_scale_43 : decode cX9_scale 43 = .ok (.iload_n 1, 1) := by decide +kernel
theorem dX9_scale_44 : decode cX9_scale 44 = .ok (.iconst 2, 1) := by decide +kernel
theorem dX9_scale_45 : decode cX9_scale 45 = .ok (.if_icmp .ne 16, 3) := by decide +kernel
theorem dX9_scale_48 : decode cX9_scale 48 = .ok (.aload_n 0, 1) := by decide +kernel
theorem dX9_scale_49 : decode cX9_scale 49 = .ok (.invokevirtual 202, 3) := by decide +kernel
theorem dX9_scale_52 : decode cX9_scale 52 = .ok (.ifCond .eq 7, 3) := by decide +kernel
theorem dX9_scale_55 : decode cX9_scale 55 = .ok (.iconst 1, 1) := by decide +kernel
theorem dX9_scale_56 : decode cX9_scale 56 = .ok (.goto 4, 3) := by decide +kernel
theorem dX9_scale_59 : decode cX9_scale 59 = .ok (.iconst 0, 1) := by decide +kernel
theorem dX9_scale_60 : decode cX9_scale 60 = .ok (.ireturn, 1) := by decide +kernel
theorem dX9_scale_61 : decode cX9_scale 61 = .ok (.iload_n 1, 1) := by decide +kernel
theorem dX9_scale_62 : decode cX9_scale 62 = .ok (.iconst 2, 1) := by decide +kernel
theorem dX9_scale_63 : decode cX9_scale 63 = .ok (.if_icmp .le 26, 3) := by decide +kernel
theorem dX9_scale_66 : decode cX9_scale 66 = .ok (.aload_n 0, 1) := by decide +kernel
theorem dX9_scale_67 : decode cX9_scale 67 = .ok (.iload_n 1, 1) := by decide +kernel
theorem dX9_scale_68 : decode cX9_scale 68 = .ok (.iconst 4, 1) := by decide +kernel
theorem dX9_scale_69 : decode cX9_scale 69 = .ok (.if_icmp .ne 7, 3) := by decide +kernel
theorem dX9_scale_72 : decode cX9_scale 72 = .ok (.iconst 1, 1) := by decide +kernel
theorem dX9_scale_73 : decode cX9_scale 73 = .ok (.goto 4, 3) := by decide +kernel
theorem dX9_scale_76 : decode cX9_scale 76 = .ok (.iconst 0, 1) := by decide +kernel
theorem dX9_scale_77 : decode cX9_scale 77 = .ok (.invokevirtual 205, 3) := by decide +kernel
theorem dX9_scale_80 : decode cX9_scale 80 = .ok (.ifCond .eq 7, 3) := by decide +kernel
theorem dX9_scale_83 : decode cX9_scale 83 = .ok (.iconst 1, 1) := by decide +kernel
theorem dX9_scale_84 : decode cX9_scale 84 = .ok (.goto 4, 3) := by decide +kernel
theorem dX9_scale_87 : decode cX9_scale 87 = .ok (.iconst 0, 1) := by decide +kernel
theorem dX9_scale_88 : decode cX9_scale 88 = .ok (.ireturn, 1) := by decide +kernel
theorem dX9_scale_89 : decode cX9_scale 89 = .ok (.aload_n 0, 1) := by decide +kernel
theorem dX9_scale_90 : decode cX9_scale 90 = .ok (.iconst 1, 1) := by decide +kernel
theorem dX9_scale_91 : decode cX9_scale 91 = .ok (.invokevirtual 199, 3) := by decide +kernel
theorem dX9_scale_94 : decode cX9_scale 94 = .ok (.aload_n 0, 1) := by decide +kernel
theorem dX9_scale_95 : decode cX9_scale 95 = .ok (.getfield 196, 3) := by decide +kernel
theorem dX9_scale_98 : decode cX9_scale 98 = .ok (.iconst 2, 1) := by decide +kernel
theorem dX9_scale_99 : decode cX9_scale 99 = .ok (.if_icmp .gt 7, 3) := by decide +kernel
theorem dX9_scale_102 : decode cX9_scale 102 = .ok (.iconst 1, 1) := by decide +kernel
theorem dX9_scale_103 : decode cX9_scale 103 = .ok (.goto 4, 3) := by decide +kernel
theorem dX9_scale_106 : decode cX9_scale 106 = .ok (.iconst 0, 1) := by decide +kernel
theorem dX9_scale_107 : decode cX9_scale 107 = .ok (.ireturn, 1) := by decide +kernel
theorem dX9_kinds_0 : decode cX9_kinds 0 = .ok (.aload_n 0, 1) := by decide +kernel
theorem dX9_kinds_1 : decode cX9_kinds 1 = .ok (.getfield 182, 3) := by decide +kernel
theorem dX9_kinds_4 : decode cX9_kinds 4 = .ok (.ifCond .ne 10, 3) := by decide +kernel
theorem dX9_kinds_7 : decode cX9_kinds 7 = .ok (.aload_n 0, 1) := by decide +kernel
theorem dX9_kinds_8 : decode cX9_kinds 8 = .ok (.bipush 7, 2) := by decide +kernel
theorem dX9_kinds_10 : decode cX9_kinds 10 = .ok (.invokevirtual 136, 3) := by decide +kernel
theorem dX9_kinds_13 : decode cX9_kinds 13 = .ok (.ireturn, 1) := by decide +kernel
theorem dX9_kinds_14 : decode cX9_kinds 14 = .ok (.iload_n 1, 1) := by decide +kernel
theorem dX9_kinds_15 : decode cX9_kinds 15 = .ok (.iconst 1, 1) := by decide +kernel
theorem dX9_kinds_16 : decode cX9_kinds 16 = .ok (.if_icmp .lt 11, 3) := by decide +kernel
theorem dX9_kinds_19 : decode cX9_kinds 19 = .ok (.iload_n 1, 1) := by decide +kernel
theorem dX9_kinds_20 : decode cX9_kinds 20 = .ok (.aload_n 0, 1) := by decide +kernel
theorem dX9_kinds_21 : decode cX9_kinds 21 = .ok (.getfield 182, 3) := by decide +kernel
theorem dX9_kinds_24 : decode cX9_kinds 24 = .ok (.if_icmp .le 9, 3) := by decide +kernel
theorem dX9_kinds_27 : decode cX9_kinds 27 = .ok (.aload_n 0, 1) := by decide +kernel
theorem dX9_kinds_28 : decode cX9_kinds 28 = .ok (.iconst 3, 1) := by decide +kernel
theorem dX9_kinds_29 : decode cX9_kinds 29 = .ok (.invokevirtual 136, 3) := by decide +kernel
theorem dX9_kinds_32 : decode cX9_kinds 32 = .ok (.ireturn, 1) := by decide +kernel
theorem dX9_kinds_33 : decode cX9_kinds 33 = .ok (.aload_n 0, 1) := by decide +kernel
theorem dX9_kinds_34 : decode cX9_kinds 34 = .ok (.iconst 0, 1) := by decide +kernel
theorem dX9_kinds_35 : decode cX9_kinds 35 = .ok (.putfield 66, 3) := by decide +kernel
theorem dX9_kinds_38 : decode cX9_kinds 38 = .ok (.aload_n 0, 1) := by decide +kernel
theorem dX9_kinds_39 : decode cX9_kinds 39 = .ok (.iload_n 1, 1) := by decide +kernel
theorem dX9_kinds_40 : decode cX9_kinds 40 = .ok (.invokevirtual 199, 3) := by decide +kernel
theorem dX9_kinds_43 : decode cX9_kinds 43 = .ok (.aload_n 0, 1) := by decide +kernel
theorem dX9_kinds_44 : decode cX9_kinds 44 = .ok (.getfield 196, 3) := by decide +kernel
theorem dX9_kinds_47 : decode cX9_kinds 47 = .ok (.ireturn, 1) := by decide +kernel
theorem dX9_step_0 : decode cX9_step 0 = .ok (.iload_n 3, 1) := by decide +kernel
theorem dX9_step_1 : decode cX9_step 1 = .ok (.invokestatic 111, 3) := by decide +kernel
theorem dX9_step_4 : decode cX9_step 4 = .ok (.ifCond .ne 9, 3) := by decide +kernel
theorem dX9_step_7 : decode cX9_step 7 = .ok (.aload_n 0, 1) := by decide +kernel
theorem dX9_step_8 : decode cX9_step 8 = .ok (.iconst 1, 1) := by decide +kernel
theorem dX9_step_9 : decode cX9_step 9 = .ok (.invokevirtual 136, 3) := by decide +kernel
theorem dX9_step_12 : decode cX9_step 12 = .ok (.ireturn, 1) := by decide +kernel
theorem dX9_step_13 : decode cX9_step 13 = .ok (.aload_n 0, 1) := by decide +kernel
theorem dX9_step_14 : decode cX9_step 14 = .ok (.getfield 182, 3) := by decide +kernel
theorem dX9_step_17 : decode cX9_step 17 = .ok (.ifCond .ne 10, 3) := by decide +kernel
theorem dX9_step_20 : decode cX9_step 20 = .ok (.aload_n 0, 1) := by decide +kernel
theorem dX9_step_21 : decode cX9_step 21 = .ok (.bipush 7, 2) := by decide +kernel
theorem dX9_step_23 : decode cX9_step 23 = .ok (.invokevirtual 136, 3) := by decide +kernel
theorem dX9_step_26 : decode cX9_step 26 = .ok (.ireturn, 1) := by decide +kernel
theorem dX9_step_27 : decode cX9_step 27 = .ok (.iload_n 1, 1) := by decide +kernel
theorem dX9_step_28 : decode cX9_step 28 = .ok (.iconst 1, 1) := by decide +kernel
theorem dX9_step_29 : decode cX9_step 29 = .ok (.if_icmp .lt 11, 3) := by decide +kernel
theorem dX9_step_32 : decode cX9_step 32 = .ok (.iload_n 1, 1) := by decide +kernel
theorem dX9_step_33 : decode cX9_step 33 = .ok (.aload_n 0, 1) := by decide +kernel
theorem dX9_step_34 : decode cX9_step 34 = .ok (.getfield 182, 3) := by decide +kernel
theorem dX9_step_37 : decode cX9_step 37 = .ok (.if_icmp .le 9, 3) := by decide +kernel
theorem dX9_step_40 : decode cX9_step 40 = .ok (.aload_n 0, 1) := by decide +kernel
theorem dX9_step_41 : decode cX9_step 41 = .ok (.iconst 3, 1) := by decide +kernel
theorem dX9_step_42 : decode cX9_step 42 = .ok (.invokevirtual 136, 3) := by decide +kernel
theorem dX9_step_45 : decode cX9_step 45 = .ok (.ireturn, 1) := by decide +kernel
theorem dX9_step_46 : decode cX9_step 46 = .ok (.aload_n 0, 1) := by decide +kernel
theorem dX9_step_47 : decode cX9_step 47 = .ok (.iload_n 1, 1) := by decide +kernel
theorem dX9_step_48 : decode cX9_step 48 = .ok (.invokevirtual 199, 3) := by decide +kernel
theorem dX9_step_51 : decode cX9_step 51 = .ok (.iload_n 2, 1) := by decide +kernel
theorem dX9_step_52 : decode cX9_step 52 = .ok (.ifCond .lt 11, 3) := by decide +kernel
theorem dX9_step_55 : decode cX9_step 55 = .ok (.iload_n 2, 1) := by decide +kernel
theorem dX9_step_56 : decode cX9_step 56 = .ok (.aload_n 0, 1) := by decide +kernel
theorem dX9_step_57 : decode cX9_step 57 = .ok (.getfield 196, 3) := by decide +kernel
theorem dX9_step_60 : decode cX9_step 60 = .ok (.if_icmp .lt 9, 3) := by decide +kernel
theorem dX9_step_63 : decode cX9_step 63 = .ok (.aload_n 0, 1) := by decide +kernel
theorem dX9_step_64 : decode cX9_step 64 = .ok (.iconst 3, 1) := by decide +kernel
theorem dX9_step_65 : decode cX9_step 65 = .ok (.invokevirtual 136, 3) := by decide +kernel
theorem dX9_step_68 : decode cX9_step 68 = .ok (.ireturn, 1) := by decide +kernel
theorem dX9_step_69 : decode cX9_step 69 = .ok (.aload_n 0, 1) := by decide +kernel
theorem dX9_step_70 : decode cX9_step 70 = .ok (.aload_n 0, 1) := by decide +kernel
theorem dX9_step_71 : decode cX9_step 71 = .ok (.getfield 51, 3) := by decide +kernel
theorem dX9_step_74 : decode cX9_step 74 = .ok (.bipush 6, 2) := by decide +kernel
theorem dX9_step_76 : decode cX9_step 76 = .ok (.iload_n 2, 1) := by decide +kernel
theorem dX9_step_77 : decode cX9_step 77 = .ok (.imul, 1) := by decide +kernel
theorem dX9_step_78 : decode cX9_step 78 = .ok (.invokevirtual 89, 3) := by decide +kernel
theorem dX9_step_81 : decode cX9_step 81 = .ok (.aload_n 0, 1) := by decide +kernel
theorem dX9_step_82 : decode cX9_step 82 = .ok (.iload_n 3, 1) := by decide +kernel
theorem dX9_step_83 : decode cX9_step 83 = .ok (.invokevirtual 114, 3) := by decide +kernel
theorem dX9_step_86 : decode cX9_step 86 = .ok (.ifCond .eq 12, 3) := by decide +kernel
theorem dX9_step_89 : decode cX9_step 89 = .ok (.aload_n 0, 1) := by decide +kernel
theorem dX9_step_90 : decode cX9_step 90 = .ok (.getfield 54, 3) := by decide +kernel
theorem dX9_step_93 : decode cX9_step 93 = .ok (.iload_n 2, 1) := by decide +kernel
theorem dX9_step_94 : decode cX9_step 94 = .ok (.iaload, 1) := by decide +kernel
theorem dX9_step_95 : decode cX9_step 95 = .ok (.goto 4, 3) := by decide +kernel
theorem dX9_step_98 : decode cX9_step 98 = .ok (.iconst (-1), 1) := by decide +kernel
theorem dX9_step_99 : decode cX9_step 99 = .ok (.ireturn, 1) := by decide +kernel
theorem dX9_mode_0 : decode cX9_mode 0 = .ok (.aload_n 0, 1) := by decide +kernel
theorem dX9_mode_1 : decode cX9_mode 1 = .ok (.getfield 182, 3) := by decide +kernel
theorem dX9_mode_4 : decode cX9_mode 4 = .ok (.ifCond .ne 10, 3) := by decide +kernel
theorem dX9_mode_7 : decode cX9_mode 7 = .ok (.aload_n 0, 1) := by decide +kernel
theorem dX9_mode_8 : decode cX9_mode 8 = .ok (.bipush 7, 2) := by decide +kernel
theorem dX9_mode_10 : decode cX9_mode 10 = .ok (.invokevirtual 104, 3) := by decide +kernel
theorem dX9_mode_13 : decode cX9_mode 13 = .ok (.ireturn, 1) := by decide +kernel
theorem dX9_mode_14 : decode cX9_mode 14 = .ok (.iload_n 1, 1) := by decide +kernel
theorem dX9_mode_15 : decode cX9_mode 15 = .ok (.ifCond .lt 11, 3) := by decide +kernel
theorem dX9_mode_18 : decode cX9_mode 18 = .ok (.iload_n 1, 1) := by decide +kernel
theorem dX9_mode_19 : decode cX9_mode 19 = .ok (.aload_n 0, 1) := by decide +kernel
theorem dX9_mode_20 : decode cX9_mode 20 = .ok (.getfield 182, 3) := by decide +kernel
theorem dX9_mode_23 : decode cX9_mode 23 = .ok (.if_icmp .lt 9, 3) := by decide +kernel
theorem dX9_mode_26 : decode cX9_mode 26 = .ok (.aload_n 0, 1) := by decide +kernel
theorem dX9_mode_27 : decode cX9_mode 27 = .ok (.iconst 3, 1) := by decide +kernel
theorem dX9_mode_28 : decode cX9_mode 28 = .ok (.invokevirtual 104, 3) := by decide +kernel
theorem dX9_mode_31 : decode cX9_mode 31 = .ok (.ireturn, 1) := by decide +kernel
theorem dX9_mode_32 : decode cX9_mode 32 = .ok (.iconst 0, 1) := by decide +kernel
theorem dX9_mode_33 : decode cX9_mode 33 = .ok (.istore_n 2, 1) := by decide +kernel
theorem dX9_mode_34 : decode cX9_mode 34 = .ok (.iload_n 2, 1) := by decide +kernel
theorem dX9_mode_35 : decode cX9_mode 35 = .ok (.aload_n 0, 1) := by decide +kernel
theorem dX9_mode_36 : decode cX9_mode 36 = .ok (.getfield 182, 3) := by decide +kernel
theorem dX9_mode_39 : decode cX9_mode 39 = .ok (.if_icmp .ge 53, 3) := by decide +kernel
theorem dX9_mode_42 : decode cX9_mode 42 = .ok (.aload_n 0, 1) := by decide +kernel
theorem dX9_mode_43 : decode cX9_mode 43 = .ok (.iload_n 1, 1) := by decide +kernel
theorem dX9_mode_44 : decode cX9_mode 44 = .ok (.iload_n 2, 1) := by decide +kernel
theorem dX9_mode_45 : decode cX9_mode 45 = .ok (.iadd, 1) := by decide +kernel
theorem dX9_mode_46 : decode cX9_mode 46 = .ok (.invokevirtual 193, 3) := by decide +kernel
theorem dX9_mode_49 : decode cX9_mode 49 = .ok (.aload_n 0, 1) := by decide +kernel
theorem dX9_mode_50 : decode cX9_mode 50 = .ok (.aload_n 0, 1) := by decide +kernel
theorem dX9_mode_51 : decode cX9_mode 51 = .ok (.getfield 45, 3) := by decide +kernel
theorem dX9_mode_54 : decode cX9_mode 54 = .ok (.bipush 6, 2) := by decide +kernel
theorem dX9_mode_56 : decode cX9_mode 56 = .ok (.iload_n 1, 1) := by decide +kernel
theorem dX9_mode_57 : decode cX9_mode 57 = .ok (.imul, 1) := by decide +kernel
theorem dX9_mode_58 : decode cX9_mode 58 = .ok (.invokevirtual 93, 3) := by decide +kernel
theorem dX9_mode_61 : decode cX9_mode 61 = .ok (.aload_n 0, 1) := by decide +kernel
theorem dX9_mode_62 : decode cX9_mode 62 = .ok (.invokevirtual 100, 3) := by decide +kernel
theorem dX9_mode_65 : decode cX9_mode 65 = .ok (.ifCond .eq 9, 3) := by decide +kernel
theorem dX9_mode_68 : decode cX9_mode 68 = .ok (.aload_n 0, 1) := by decide +kernel
theorem dX9_mode_69 : decode cX9_mode 69 = .ok (.iconst 4, 1) := by decide +kernel
theorem dX9_mode_70 : decode cX9_mode 70 = .ok (.invokevirtual 104, 3) := by decide +kernel
theorem dX9_mode_73 : decode cX9_mode 73 = .ok (.ireturn, 1) := by decide +kernel
theorem dX9_mode_74 : decode cX9_mode 74 = .ok (.aload_n 0, 1) := by decide +kernel
theorem dX9_mode_75 : decode cX9_mode 75 = .ok (.aload_n 0, 1) := by decide +kernel
theorem dX9_mode_76 : decode cX9_mode 76 = .ok (.getfield 48, 3) := by decide +kernel
theorem dX9_mode_79 : decode cX9_mode 79 = .ok (.bipush 6, 2) := by decide +kernel
theorem dX9_mode_81 : decode cX9_mode 81 = .ok (.iload_n 2, 1) := by decide +kernel
theorem dX9_mode_82 : decode cX9_mode 82 = .ok (.imul, 1) := by decide +kernel
theorem dX9_mode_83 : decode cX9_mode 83 = .ok (.invokevirtual 108, 3) := by decide +kernel
theorem dX9_mode_86 : decode cX9_mode 86 = .ok (.iinc 2 1, 3) := by decide +kernel
theorem dX9_mode_89 : decode cX9_mode 89 = .ok (.goto (-55), 3) := by decide +kernel
theorem dX9_mode_92 : decode cX9_mode 92 = .ok (.iconst 0, 1) := by decide +kernel
theorem dX9_mode_93 : decode cX9_mode 93 = .ok (.istore_n 2, 1) := by decide +kernel
theorem dX9_mode_94 : decode cX9_mode 94 = .ok (.iload_n 2, 1) := by decide +kernel
theorem dX9_mode_95 : decode cX9_mode 95 = .ok (.bipush 6, 2) := by decide +kernel
theorem dX9_mode_97 : decode cX9_mode 97 = .ok (.aload_n 0, 1) := by decide +kernel
theorem dX9_mode_98 : decode cX9_mode 98 = .ok (.getfield 182, 3) := by decide +kernel
theorem dX9_mode_101 : decode cX9_mode 101 = .ok (.imul, 1) := by decide +kernel
theorem dX9_mode_102 : decode cX9_mode 102 = .ok (.if_icmp .ge 21, 3) := by decide +kernel
theorem dX9_mode_105 : decode cX9_mode 105 = .ok (.aload_n 0, 1) := by decide +kernel
theorem dX9_mode_106 : decode cX9_mode 106 = .ok (.getfield 45, 3) := by decide +kernel
theorem dX9_mode_109 : decode cX9_mode 109 = .ok (.iload_n 2, 1) := by decide +kernel
theorem dX9_mode_110 : decode cX9_mode 110 = .ok (.aload_n 0, 1) := by decide +kernel
theorem dX9_mode_111 : decode cX9_mode 111 = .ok (.getfield 48, 3) := by decide +kernel
theorem dX9_mode_114 : decode cX9_mode 114 = .ok (.iload_n 2, 1) := by decide +kernel
theorem dX9_mode_115 : decode cX9_mode 115 = .ok (.iaload, 1) := by decide +kernel
theorem dX9_mode_116 : decode cX9_mode 116 = .ok (.iastore, 1) := by decide +kernel
theorem dX9_mode_117 : decode cX9_mode 117 = .ok (.iinc 2 1, 3) := by decide +kernel
theorem dX9_mode_120 : decode cX9_mode 120 = .ok (.goto (-26), 3) := by decide +kernel
theorem dX9_mode_123 : decode cX9_mode 123 = .ok (.aload_n 0, 1) := by decide +kernel
theorem dX9_mode_124 : decode cX9_mode 124 = .ok (.iconst 0, 1) := by decide +kernel
theorem dX9_mode_125 : decode cX9_mode 125 = .ok (.invokevirtual 104, 3) := by decide +kernel
theorem dX9_mode_128 : decode cX9_mode 128 = .ok (.ireturn, 1) := by decide +kernel
theorem dX9_follows_0 : decode cX9_follows 0 = .ok (.aload_n 0, 1) := by decide +kernel
theorem dX9_follows_1 : decode cX9_follows 1 = .ok (.getfield 182, 3) := by decide +kernel
theorem dX9_follows_4 : decode cX9_follows 4 = .ok (.ifCond .ne 10, 3) := by decide +kernel
theorem dX9_follows_7 : decode cX9_follows 7 = .ok (.aload_n 0, 1) := by decide +kernel
theorem dX9_follows_8 : decode cX9_follows 8 = .ok (.bipush 7, 2) := by decide +kernel
theorem dX9_follows_10 : decode cX9_follows 10 = .ok (.invokevirtual 136, 3) := by decide +kernel
theorem dX9_follows_13 : decode cX9_follows 13 = .ok (.ireturn, 1) := by decide +kernel
theorem dX9_follows_14 : decode cX9_follows 14 = .ok (.iload_n 1, 1) := by decide +kernel
theorem dX9_follows_15 : decode cX9_follows 15 = .ok (.invokestatic 153, 3) := by decide +kernel
theorem dX9_follows_18 : decode cX9_follows 18 = .ok (.ifCond .ne 9, 3) := by decide +kernel
theorem dX9_follows_21 : decode cX9_follows 21 = .ok (.aload_n 0, 1) := by decide +kernel
theorem dX9_follows_22 : decode cX9_follows 22 = .ok (.iconst 3, 1) := by decide +kernel
theorem dX9_follows_23 : decode cX9_follows 23 = .ok (.invokevirtual 136, 3) := by decide +kernel
theorem dX9_follows_26 : decode cX9_follows 26 = .ok (.ireturn, 1) := by decide +kernel
theorem dX9_follows_27 : decode cX9_follows 27 = .ok (.aload_n 0, 1) := by decide +kernel
theorem dX9_follows_28 : decode cX9_follows 28 = .ok (.iconst 0, 1) := by decide +kernel
theorem dX9_follows_29 : decode cX9_follows 29 = .ok (.putfield 66, 3) := by decide +kernel
theorem dX9_follows_32 : decode cX9_follows 32 = .ok (.iconst 0, 1) := by decide +kernel
theorem dX9_follows_33 : decode cX9_follows 33 = .ok (.istore_n 2, 1) := by decide +kernel
theorem dX9_follows_34 : decode cX9_follows 34 = .ok (.iload_n 2, 1) := by decide +kernel
theorem dX9_follows_35 : decode cX9_follows 35 = .ok (.aload_n 0, 1) := by decide +kernel
theorem dX9_follows_36 : decode cX9_follows 36 = .ok (.getfield 182, 3) := by decide +kernel
theorem dX9_follows_39 : decode cX9_follows 39 = .ok (.if_icmp .gt 28, 3) := by decide +kernel
theorem dX9_follows_42 : decode cX9_follows 42 = .ok (.aload_n 0, 1) := by decide +kernel
theorem dX9_follows_43 : decode cX9_follows 43 = .ok (.aload_n 0, 1) := by decide +kernel
theorem dX9_follows_44 : decode cX9_follows 44 = .ok (.getfield 45, 3) := by decide +kernel
theorem dX9_follows_47 : decode cX9_follows 47 = .ok (.bipush 6, 2) := by decide +kernel
theorem dX9_follows_49 : decode cX9_follows 49 = .ok (.iload_n 2, 1) := by decide +kernel
theorem dX9_follows_50 : decode cX9_follows 50 = .ok (.imul, 1) := by decide +kernel
theorem dX9_follows_51 : decode cX9_follows 51 = .ok (.iload_n 1, 1) := by decide +kernel
theorem dX9_follows_52 : decode cX9_follows 52 = .ok (.invokevirtual 159, 3) := by decide +kernel
theorem dX9_follows_55 : decode cX9_follows 55 = .ok (.iload_n 2, 1) := by decide +kernel
theorem dX9_follows_56 : decode cX9_follows 56 = .ok (.if_icmp .eq 5, 3) := by decide +kernel
theorem dX9_follows_59 : decode cX9_follows 59 = .ok (.iconst 0, 1) := by decide +kernel
theorem dX9_follows_60 : decode cX9_follows 60 = .ok (.ireturn, 1) := by decide +kernel
theorem dX9_follows_61 : decode cX9_follows 61 = .ok (.iinc 2 1, 3) := by decide +kernel
theorem dX9_follows_64 : decode cX9_follows 64 = .ok (.goto (-30), 3) := by decide +kernel
theorem dX9_follows_67 : decode cX9_follows 67 = .ok (.iconst 1, 1) := by decide +kernel
theorem dX9_follows_68 : decode cX9_follows 68 = .ok (.ireturn, 1) := by decide +kernel
theorem dX9_isDim_0 : decode cX9_isDim 0 = .ok (.iconst 0, 1) := by decide +kernel
theorem dX9_isDim_1 : decode cX9_isDim 1 = .ok (.istore_n 1, 1) := by decide +kernel
theorem dX9_isDim_2 : decode cX9_isDim 2 = .ok (.iconst 0, 1) := by decide +kernel
theorem dX9_isDim_3 : decode cX9_isDim 3 = .ok (.istore_n 2, 1) := by decide +kernel
theorem dX9_isDim_4 : decode cX9_isDim 4 = .ok (.iload_n 2, 1) := by decide +kernel
theorem dX9_isDim_5 : decode cX9_isDim 5 = .ok (.bipush 6, 2) := by decide +kernel
theorem dX9_isDim_7 : decode cX9_isDim 7 = .ok (.if_icmp .ge 43, 3) := by decide +kernel
theorem dX9_isDim_10 : decode cX9_isDim 10 = .ok (.iload_n 1, 1) := by decide +kernel
theorem dX9_isDim_11 : decode cX9_isDim 11 = .ok (.ifCond .ne 27, 3) := by decide +kernel
theorem dX9_isDim_14 : decode cX9_isDim 14 = .ok (.aload_n 0, 1) := by decide +kernel
theorem dX9_isDim_15 : decode cX9_isDim 15 = .ok (.getfield 23, 3) := by decide +kernel
theorem dX9_isDim_18 : decode cX9_isDim 18 = .ok (.iload_n 2, 1) := by decide +kernel
theorem dX9_isDim_19 : decode cX9_isDim 19 = .ok (.iaload, 1) := by decide +kernel
theorem dX9_isDim_20 : decode cX9_isDim 20 = .ok (.sipush (-200), 3) := by decide +kernel
theorem dX9_isDim_23 : decode cX9_isDim 23 = .ok (.if_icmp .lt 15, 3) := by decide +kernel
theorem dX9_isDim_26 : decode cX9_isDim 26 = .ok (.aload_n 0, 1) := by decide +kernel
theorem dX9_isDim_27 : decode cX9_isDim 27 = .ok (.getfield 23, 3) := by decide +kernel
theorem dX9_isDim_30 : decode cX9_isDim 30 = .ok (.iload_n 2, 1) := by decide +kernel
theorem dX9_isDim_31 : decode cX9_isDim 31 = .ok (.iaload, 1) := by decide +kernel
theorem dX9_isDim_32 : decode cX9_isDim 32 = .ok (.sipush 200, 3) := by decide +kernel
theorem dX9_isDim_35 : decode cX9_isDim 35 = .ok (.if_icmp .le 7, 3) := by decide +kernel
theorem dX9_isDim_38 : decode cX9_isDim 38 = .ok (.iconst 1, 1) := by decide +kernel
theorem dX9_isDim_39 : decode cX9_isDim 39 = .ok (.goto 4, 3) := by decide +kernel
theorem dX9_isDim_42 : decode cX9_isDim 42 = .ok (.iconst 0, 1) := by decide +kernel
theorem dX9_isDim_43 : decode cX9_isDim 43 = .ok (.istore_n 1, 1) := by decide +kernel
theorem dX9_isDim_44 : decode cX9_isDim 44 = .ok (.iinc 2 1, 3) := by decide +kernel
theorem dX9_isDim_47 : decode cX9_isDim 47 = .ok (.goto (-43), 3) := by decide +kernel
theorem dX9_isDim_50 : decode cX9_isDim 50 = .ok (.iload_n 1, 1) := by decide +kernel
theorem dX9_isDim_51 : decode cX9_isDim 51 = .ok (.ireturn, 1) := by decide +kernel
theorem dX9_quotient_0 : decode cX9_quotient 0 = .ok (.iload_n 1, 1) := by decide +kernel
theorem dX9_quotient_1 : decode cX9_quotient 1 = .ok (.invokestatic 111, 3) := by decide +kernel
theorem dX9_quotient_4 : decode cX9_quotient 4 = .ok (.ifCond .eq 10, 3) := by decide +kernel
theorem dX9_quotient_7 : decode cX9_quotient 7 = .ok (.iload_n 2, 1) := by decide +kernel
theorem dX9_quotient_8 : decode cX9_quotient 8 = .ok (.invokestatic 111, 3) := by decide +kernel
theorem dX9_quotient_11 : decode cX9_quotient 11 = .ok (.ifCond .ne 9, 3) := by decide +kernel
theorem dX9_quotient_14 : decode cX9_quotient 14 = .ok (.aload_n 0, 1) := by decide +kernel
theorem dX9_quotient_15 : decode cX9_quotient 15 = .ok (.iconst 1, 1) := by decide +kernel
theorem dX9_quotient_16 : decode cX9_quotient 16 = .ok (.invokevirtual 136, 3) := by decide +kernel
theorem dX9_quotient_19 : decode cX9_quotient 19 = .ok (.ireturn, 1) := by decide +kernel
theorem dX9_quotient_20 : decode cX9_quotient 20 = .ok (.aload_n 0, 1) := by decide +kernel
theorem dX9_quotient_21 : decode cX9_quotient 21 = .ok (.getfield 13, 3) := by decide +kernel
theorem dX9_quotient_24 : decode cX9_quotient 24 = .ok (.iload_n 1, 1) := by decide +kernel
theorem dX9_quotient_25 : decode cX9_quotient 25 = .ok (.baload, 1) := by decide +kernel
theorem dX9_quotient_26 : decode cX9_quotient 26 = .ok (.ifCond .eq 12, 3) := by decide +kernel
theorem dX9_quotient_29 : decode cX9_quotient 29 = .ok (.aload_n 0, 1) := by decide +kernel
theorem dX9_quotient_30 : decode cX9_quotient 30 = .ok (.getfield 13, 3) := by decide +kernel
theorem dX9_quotient_33 : decode cX9_quotient 33 = .ok (.iload_n 2, 1) := by decide +kernel
theorem dX9_quotient_34 : decode cX9_quotient 34 = .ok (.baload, 1) := by decide +kernel
theorem dX9_quotient_35 : decode cX9_quotient 35 = .ok (.ifCond .ne 9, 3) := by decide +kernel
theorem dX9_quotient_38 : decode cX9_quotient 38 = .ok (.aload_n 0, 1) := by decide +kernel
theorem dX9_quotient_39 : decode cX9_quotient 39 = .ok (.iconst 2, 1) := by decide +kernel
theorem dX9_quotient_40 : decode cX9_quotient 40 = .ok (.invokevirtual 136, 3) := by decide +kernel
theorem dX9_quotient_43 : decode cX9_quotient 43 = .ok (.ireturn, 1) := by decide +kernel
theorem dX9_quotient_44 : decode cX9_quotient 44 = .ok (.iload_n 3, 1) := by decide +kernel
theorem dX9_quotient_45 : decode cX9_quotient 45 = .ok (.ifCond .lt 9, 3) := by decide +kernel
theorem dX9_quotient_48 : decode cX9_quotient 48 = .ok (.iload_n 3, 1) := by decide +kernel
theorem dX9_quotient_49 : decode cX9_quotient 49 = .ok (.bipush 19, 2) := by decide +kernel
theorem dX9_quotient_51 : decode cX9_quotient 51 = .ok (.if_icmp .le 9, 3) := by decide +kernel
theorem dX9_quotient_54 : decode cX9_quotient 54 = .ok (.aload_n 0, 1) := by decide +kernel
theorem dX9_quotient_55 : decode cX9_quotient 55 = .ok (.iconst 3, 1) := by decide +kernel
theorem dX9_quotient_56 : decode cX9_quotient 56 = .ok (.invokevirtual 136, 3) := by decide +kernel
theorem dX9_quotient_59 : decode cX9_quotient 59 = .ok (.ireturn, 1) := by decide +kernel
theorem dX9_quotient_60 : decode cX9_quotient 60 = .ok (.aload_n 0, 1) := by decide +kernel
theorem dX9_quotient_61 : decode cX9_quotient 61 = .ok (.iload_n 1, 1) := by decide +kernel
theorem dX9_quotient_62 : decode cX9_quotient 62 = .ok (.invokevirtual 126, 3) := by decide +kernel
theorem dX9_quotient_65 : decode cX9_quotient 65 = .ok (.ifCond .eq 11, 3) := by decide +kernel
theorem dX9_quotient_68 : decode cX9_quotient 68 = .ok (.aload_n 0, 1) := by decide +kernel
theorem dX9_quotient_69 : decode cX9_quotient 69 = .ok (.iload_n 2, 1) := by decide +kernel
theorem dX9_quotient_70 : decode cX9_quotient 70 = .ok (.invokevirtual 126, 3) := by decide +kernel
theorem dX9_quotient_73 : decode cX9_quotient 73 = .ok (.ifCond .ne 9, 3) := by decide +kernel
theorem dX9_quotient_76 : decode cX9_quotient 76 = .ok (.aload_n 0, 1) := by decide +kernel
theorem dX9_quotient_77 : decode cX9_quotient 77 = .ok (.iconst 5, 1) := by decide +kernel
theorem dX9_quotient_78 : decode cX9_quotient 78 = .ok (.invokevirtual 136, 3) := by decide +kernel
theorem dX9_quotient_81 : decode cX9_quotient 81 = .ok (.ireturn, 1) := by decide +kernel
theorem dX9_quotient_82 : decode cX9_quotient 82 = .ok (.aload_n 0, 1) := by decide +kernel
theorem dX9_quotient_83 : decode cX9_quotient 83 = .ok (.aload_n 0, 1) := by decide +kernel
theorem dX9_quotient_84 : decode cX9_quotient 84 = .ok (.getfield 60, 3) := by decide +kernel
theorem dX9_quotient_87 : decode cX9_quotient 87 = .ok (.aload_n 0, 1) := by decide +kernel
theorem dX9_quotient_88 : decode cX9_quotient 88 = .ok (.getfield 7, 3) := by decide +kernel
theorem dX9_quotient_91 : decode cX9_quotient 91 = .ok (.bipush 6, 2) := by decide +kernel
theorem dX9_quotient_93 : decode cX9_quotient 93 = .ok (.iload_n 1, 1) := by decide +kernel
theorem dX9_quotient_94 : decode cX9_quotient 94 = .ok (.imul, 1) := by decide +kernel
theorem dX9_quotient_95 : decode cX9_quotient 95 = .ok (.invokevirtual 129, 3) := by decide +kernel
theorem dX9_quotient_98 : decode cX9_quotient 98 = .ok (.aload_n 0, 1) := by decide +kernel
theorem dX9_quotient_99 : decode cX9_quotient 99 = .ok (.aload_n 0, 1) := by decide +kernel
theorem dX9_quotient_100 : decode cX9_quotient 100 = .ok (.getfield 63, 3) := by decide +kernel
theorem dX9_quotient_103 : decode cX9_quotient 103 = .ok (.aload_n 0, 1) := by decide +kernel
theorem dX9_quotient_104 : decode cX9_quotient 104 = .ok (.getfield 7, 3) := by decide +kernel
theorem dX9_quotient_107 : decode cX9_quotient 107 = .ok (.bipush 6, 2) := by decide +kernel
theorem dX9_quotient_109 : decode cX9_quotient 109 = .ok (.iload_n 2, 1) := by decide +kernel
theorem dX9_quotient_110 : decode cX9_quotient 110 = .ok (.imul, 1) := by decide +kernel
theorem dX9_quotient_111 : decode cX9_quotient 111 = .ok (.invokevirtual 129, 3) := by decide +kernel
theorem dX9_quotient_114 : decode cX9_quotient 114 = .ok (.aload_n 0, 1) := by decide +kernel
theorem dX9_quotient_115 : decode cX9_quotient 115 = .ok (.iconst 0, 1) := by decide +kernel
theorem dX9_quotient_116 : decode cX9_quotient 116 = .ok (.putfield 66, 3) := by decide +kernel
theorem dX9_quotient_119 : decode cX9_quotient 119 = .ok (.iconst 0, 1) := by decide +kernel
theorem dX9_quotient_120 : decode cX9_quotient 120 = .ok (.istore 4, 2) := by decide +kernel
theorem dX9_quotient_122 : decode cX9_quotient 122 = .ok (.iconst 0, 1) := by decide +kernel
theorem dX9_quotient_123 : decode cX9_quotient 123 = .ok (.istore 5, 2) := by decide +kernel
theorem dX9_quotient_125 : decode cX9_quotient 125 = .ok (.iconst 1, 1) := by decide +kernel
theorem dX9_quotient_126 : decode cX9_quotient 126 = .ok (.istore 6, 2) := by decide +kernel
theorem dX9_quotient_128 : decode cX9_quotient 128 = .ok (.iload 6, 2) := by decide +kernel
theorem dX9_quotient_130 : decode cX9_quotient 130 = .ok (.ifCond .lt 70, 3) := by decide +kernel
theorem dX9_quotient_133 : decode cX9_quotient 133 = .ok (.iconst 0, 1) := by decide +kernel
theorem dX9_quotient_134 : decode cX9_quotient 134 = .ok (.istore 7, 2) := by decide +kernel
theorem dX9_quotient_136 : decode cX9_quotient 136 = .ok (.iload 7, 2) := by decide +kernel
theorem dX9_quotient_138 : decode cX9_quotient 138 = .ok (.bipush 6, 2) := by decide +kernel
theorem dX9_quotient_140 : decode cX9_quotient 140 = .ok (.if_icmp .ge 34, 3) := by decide +kernel
theorem dX9_quotient_143 : decode cX9_quotient 143 = .ok (.aload_n 0, 1) := by decide +kernel
theorem dX9_quotient_144 : decode cX9_quotient 144 = .ok (.getfield 23, 3) := by decide +kernel
theorem dX9_quotient_147 : decode cX9_quotient 147 = .ok (.iload 7, 2) := by decide +kernel
theorem dX9_quotient_149 : decode cX9_quotient 149 = .ok (.aload_n 0, 1) := by decide +kernel
theorem dX9_quotient_150 : decode cX9_quotient 150 = .ok (.getfield 60, 3) := by decide +kernel
theorem dX9_quotient_153 : decode cX9_quotient 153 = .ok (.iload 7, 2) := by decide +kernel
theorem dX9_quotient_155 : decode cX9_quotient 155 = .ok (.iaload, 1) := by decide +kernel
theorem dX9_quotient_156 : decode cX9_quotient 156 = .ok (.iload 5, 2) := by decide +kernel
theorem dX9_quotient_158 : decode cX9_quotient 158 = .ok (.aload_n 0, 1) := by decide +kernel
theorem dX9_quotient_159 : decode cX9_quotient 159 = .ok (.getfield 63, 3) := by decide +kernel
theorem dX9_quotient_162 : decode cX9_quotient 162 = .ok (.iload 7, 2) := by decide +kernel
theorem dX9_quotient_164 : decode cX9_quotient 164 = .ok (.iaload, 1) := by decide +kernel
theorem dX9_quotient_165 : decode cX9_quotient 165 = .ok (.imul, 1) := by decide +kernel
theorem dX9_quotient_166 : decode cX9_quotient 166 = .ok (.isub, 1) := by decide +kernel
theorem dX9_quotient_167 : decode cX9_quotient 167 = .ok (.iastore, 1) := by decide +kernel
theorem dX9_quotient_168 : decode cX9_quotient 168 = .ok (.iinc 7 1, 3) := by decide +kernel
theorem dX9_quotient_171 : decode cX9_quotient 171 = .ok (.goto (-35), 3) := by decide +kernel
theorem dX9_quotient_174 : decode cX9_quotient 174 = .ok (.aload_n 0, 1) := by decide +kernel
theorem dX9_quotient_175 : decode cX9_quotient 175 = .ok (.invokevirtual 209, 3) := by decide +kernel
theorem dX9_quotient_178 : decode cX9_quotient 178 = .ok (.ifCond .eq 10, 3) := by decide +kernel
theorem dX9_quotient_181 : decode cX9_quotient 181 = .ok (.aload_n 0, 1) := by decide +kernel
theorem dX9_quotient_182 : decode cX9_quotient 182 = .ok (.bipush 9, 2) := by decide +kernel
theorem dX9_quotient_184 : decode cX9_quotient 184 = .ok (.invokevirtual 136, 3) := by decide +kernel
theorem dX9_quotient_187 : decode cX9_quotient 187 = .ok (.ireturn, 1) := by decide +kernel
theorem dX9_quotient_188 : decode cX9_quotient 188 = .ok (.aload_n 0, 1) := by decide +kernel
theorem dX9_quotient_189 : decode cX9_quotient 189 = .ok (.invokevirtual 96, 3) := by decide +kernel
theorem dX9_quotient_192 : decode cX9_quotient 192 = .ok (.istore 6, 2) := by decide +kernel
theorem dX9_quotient_194 : decode cX9_quotient 194 = .ok (.iinc 5 1, 3) := by decide +kernel
theorem dX9_quotient_197 : decode cX9_quotient 197 = .ok (.goto (-69), 3) := by decide +kernel
theorem dX9_quotient_200 : decode cX9_quotient 200 = .ok (.iinc 5 (-2), 3) := by decide +kernel
theorem dX9_quotient_203 : decode cX9_quotient 203 = .ok (.iload 4, 2) := by decide +kernel
theorem dX9_quotient_205 : decode cX9_quotient 205 = .ok (.iload_n 3, 1) := by decide +kernel
theorem dX9_quotient_206 : decode cX9_quotient 206 = .ok (.if_icmp .ne 6, 3) := by decide +kernel
theorem dX9_quotient_209 : decode cX9_quotient 209 = .ok (.iload 5, 2) := by decide +kernel
theorem dX9_quotient_211 : decode cX9_quotient 211 = .ok (.ireturn, 1) := by decide +kernel
theorem dX9_quotient_212 : decode cX9_quotient 212 = .ok (.iconst 1, 1) := by decide +kernel
theorem dX9_quotient_213 : decode cX9_quotient 213 = .ok (.istore 7, 2) := by decide +kernel
theorem dX9_quotient_215 : decode cX9_quotient 215 = .ok (.iconst 0, 1) := by decide +kernel
theorem dX9_quotient_216 : decode cX9_quotient 216 = .ok (.istore 8, 2) := by decide +kernel
theorem dX9_quotient_218 : decode cX9_quotient 218 = .ok (.iload 8, 2) := by decide +kernel
theorem dX9_quotient_220 : decode cX9_quotient 220 = .ok (.bipush 6, 2) := by decide +kernel
theorem dX9_quotient_222 : decode cX9_quotient 222 = .ok (.if_icmp .ge 69, 3) := by decide +kernel
theorem dX9_quotient_225 : decode cX9_quotient 225 = .ok (.aload_n 0, 1) := by decide +kernel
theorem dX9_quotient_226 : decode cX9_quotient 226 = .ok (.getfield 60, 3) := by decide +kernel
theorem dX9_quotient_229 : decode cX9_quotient 229 = .ok (.iload 8, 2) := by decide +kernel
theorem dX9_quotient_231 : decode cX9_quotient 231 = .ok (.iaload, 1) := by decide +kernel
theorem dX9_quotient_232 : decode cX9_quotient 232 = .ok (.iload 5, 2) := by decide +kernel
theorem dX9_quotient_234 : decode cX9_quotient 234 = .ok (.aload_n 0, 1) := by decide +kernel
theorem dX9_quotient_235 : decode cX9_quotient 235 = .ok (.getfield 63, 3) := by decide +kernel
theorem dX9_quotient_238 : decode cX9_quotient 238 = .ok (.iload 8, 2) := by decide +kernel
theorem dX9_quotient_240 : decode cX9_quotient 240 = .ok (.iaload, 1) := by decide +kernel
theorem dX9_quotient_241 : decode cX9_quotient 241 = .ok (.imul, 1) := by decide +kernel
theorem dX9_quotient_242 : decode cX9_quotient 242 = .ok (.isub, 1) := by decide +kernel
theorem dX9_quotient_243 : decode cX9_quotient 243 = .ok (.istore 9, 2) := by decide +kernel
theorem dX9_quotient_245 : decode cX9_quotient 245 = .ok (.aload_n 0, 1) := by decide +kernel
theorem dX9_quotient_246 : decode cX9_quotient 246 = .ok (.getfield 60, 3) := by decide +kernel
theorem dX9_quotient_249 : decode cX9_quotient 249 = .ok (.iload 8, 2) := by decide +kernel
theorem dX9_quotient_251 : decode cX9_quotient 251 = .ok (.aload_n 0, 1) := by decide +kernel
theorem dX9_quotient_252 : decode cX9_quotient 252 = .ok (.getfield 63, 3) := by decide +kernel
theorem dX9_quotient_255 : decode cX9_quotient 255 = .ok (.iload 8, 2) := by decide +kernel
theorem dX9_quotient_257 : decode cX9_quotient 257 = .ok (.iaload, 1) := by decide +kernel
theorem dX9_quotient_258 : decode cX9_quotient 258 = .ok (.iastore, 1) := by decide +kernel
theorem dX9_quotient_259 : decode cX9_quotient 259 = .ok (.aload_n 0, 1) := by decide +kernel
theorem dX9_quotient_260 : decode cX9_quotient 260 = .ok (.getfield 63, 3) := by decide +kernel
theorem dX9_quotient_263 : decode cX9_quotient 263 = .ok (.iload 8, 2) := by decide +kernel
theorem dX9_quotient_265 : decode cX9_quotient 265 = .ok (.iload 9, 2) := by decide +kernel
theorem dX9_quotient_267 : decode cX9_quotient 267 = .ok (.iastore, 1) := by decide +kernel
theorem dX9_quotient_268 : decode cX9_quotient 268 = .ok (.iload 7, 2) := by decide +kernel
theorem dX9_quotient_270 : decode cX9_quotient 270 = .ok (.ifCond .eq 12, 3) := by decide +kernel
theorem dX9_quotient_273 : decode cX9_quotient 273 = .ok (.iload 9, 2) := by decide +kernel
theorem dX9_quotient_275 : decode cX9_quotient 275 = .ok (.ifCond .ne 7, 3) := by decide +kernel
theorem dX9_quotient_278 : decode cX9_quotient 278 = .ok (.iconst 1, 1) := by decide +kernel
theorem dX9_quotient_279 : decode cX9_quotient 279 = .ok (.goto 4, 3) := by decide +kernel
theorem dX9_quotient_282 : decode cX9_quotient 282 = .ok (.iconst 0, 1) := by decide +kernel
theorem dX9_quotient_283 : decode cX9_quotient 283 = .ok (.istore 7, 2) := by decide +kernel
theorem dX9_quotient_285 : decode cX9_quotient 285 = .ok (.iinc 8 1, 3) := by decide +kernel
theorem dX9_quotient_288 : decode cX9_quotient 288 = .ok (.goto (-70), 3) := by decide +kernel
theorem dX9_quotient_291 : decode cX9_quotient 291 = .ok (.iload 7, 2) := by decide +kernel
theorem dX9_quotient_293 : decode cX9_quotient 293 = .ok (.ifCond .eq 6, 3) := by decide +kernel
theorem dX9_quotient_296 : decode cX9_quotient 296 = .ok (.bipush (-2), 2) := by decide +kernel
theorem dX9_quotient_298 : decode cX9_quotient 298 = .ok (.ireturn, 1) := by decide +kernel
theorem dX9_quotient_299 : decode cX9_quotient 299 = .ok (.iinc 4 1, 3) := by decide +kernel
theorem dX9_quotient_302 : decode cX9_quotient 302 = .ok (.goto (-180), 3) := by decide +kernel
