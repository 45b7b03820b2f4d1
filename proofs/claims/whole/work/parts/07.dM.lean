theorem dB_init_0 : decode cB_init 0 = .ok (.aload_n 0, 1) := by decide +kernel
theorem dB_init_1 : decode cB_init 1 = .ok (.invokespecial 1, 3) := by decide +kernel
theorem dB_init_4 : decode cB_init 4 = .ok (.aload_n 0, 1) := by decide +kernel
theorem dB_init_5 : decode cB_init 5 = .ok (.sipush 640, 3) := by decide +kernel
theorem dB_init_8 : decode cB_init 8 = .ok (.newarray .int, 2) := by decide +kernel
theorem dB_init_10 : decode cB_init 10 = .ok (.putfield 7, 3) := by decide +kernel
theorem dB_init_13 : decode cB_init 13 = .ok (.return_, 1) := by decide +kernel
theorem dB_set_0 : decode cB_set 0 = .ok (.aload_n 0, 1) := by decide +kernel
theorem dB_set_1 : decode cB_set 1 = .ok (.iconst 0, 1) := by decide +kernel
theorem dB_set_2 : decode cB_set 2 = .ok (.putfield 13, 3) := by decide +kernel
theorem dB_set_5 : decode cB_set 5 = .ok (.lload_n 1, 1) := by decide +kernel
theorem dB_set_6 : decode cB_set 6 = .ok (.lstore_n 3, 1) := by decide +kernel
theorem dB_set_7 : decode cB_set 7 = .ok (.lload_n 3, 1) := by decide +kernel
theorem dB_set_8 : decode cB_set 8 = .ok (.lconst 0, 1) := by decide +kernel
theorem dB_set_9 : decode cB_set 9 = .ok (.lcmp, 1) := by decide +kernel
theorem dB_set_10 : decode cB_set 10 = .ok (.ifCond .eq 36, 3) := by decide +kernel
theorem dB_set_13 : decode cB_set 13 = .ok (.aload_n 0, 1) := by decide +kernel
theorem dB_set_14 : decode cB_set 14 = .ok (.getfield 7, 3) := by decide +kernel
theorem dB_set_17 : decode cB_set 17 = .ok (.aload_n 0, 1) := by decide +kernel
theorem dB_set_18 : decode cB_set 18 = .ok (.getfield 13, 3) := by decide +kernel
theorem dB_set_21 : decode cB_set 21 = .ok (.lload_n 3, 1) := by decide +kernel
theorem dB_set_22 : decode cB_set 22 = .ok (.ldc2_w 17, 3) := by decide +kernel
theorem dB_set_25 : decode cB_set 25 = .ok (.land, 1) := by decide +kernel
theorem dB_set_26 : decode cB_set 26 = .ok (.l2i, 1) := by decide +kernel
theorem dB_set_27 : decode cB_set 27 = .ok (.iastore, 1) := by decide +kernel
theorem dB_set_28 : decode cB_set 28 = .ok (.aload_n 0, 1) := by decide +kernel
theorem dB_set_29 : decode cB_set 29 = .ok (.dup, 1) := by decide +kernel
theorem dB_set_30 : decode cB_set 30 = .ok (.getfield 13, 3) := by decide +kernel
theorem dB_set_33 : decode cB_set 33 = .ok (.iconst 1, 1) := by decide +kernel
theorem dB_set_34 : decode cB_set 34 = .ok (.iadd, 1) := by decide +kernel
theorem dB_set_35 : decode cB_set 35 = .ok (.putfield 13, 3) := by decide +kernel
theorem dB_set_38 : decode cB_set 38 = .ok (.lload_n 3, 1) := by decide +kernel
theorem dB_set_39 : decode cB_set 39 = .ok (.bipush 16, 2) := by decide +kernel
theorem dB_set_41 : decode cB_set 41 = .ok (.lushr, 1) := by decide +kernel
theorem dB_set_42 : decode cB_set 42 = .ok (.lstore_n 3, 1) := by decide +kernel
theorem dB_set_43 : decode cB_set 43 = .ok (.goto (-36), 3) := by decide +kernel
theorem dB_set_46 : decode cB_set 46 = .ok (.return_, 1) := by decide +kernel
theorem dB_copy_0 : decode cB_copy 0 = .ok (.aload_n 0, 1) := by decide +kernel
theorem dB_copy_1 : decode cB_copy 1 = .ok (.aload_n 1, 1) := by decide +kernel
theorem dB_copy_2 : decode cB_copy 2 = .ok (.getfield 13, 3) := by decide +kernel
theorem dB_copy_5 : decode cB_copy 5 = .ok (.putfield 13, 3) := by decide +kernel
theorem dB_copy_8 : decode cB_copy 8 = .ok (.iconst 0, 1) := by decide +kernel
theorem dB_copy_9 : decode cB_copy 9 = .ok (.istore_n 2, 1) := by decide +kernel
theorem dB_copy_10 : decode cB_copy 10 = .ok (.iload_n 2, 1) := by decide +kernel
theorem dB_copy_11 : decode cB_copy 11 = .ok (.aload_n 0, 1) := by decide +kernel
theorem dB_copy_12 : decode cB_copy 12 = .ok (.getfield 13, 3) := by decide +kernel
theorem dB_copy_15 : decode cB_copy 15 = .ok (.if_icmp .ge 21, 3) := by decide +kernel
theorem dB_copy_18 : decode cB_copy 18 = .ok (.aload_n 0, 1) := by decide +kernel
theorem dB_copy_19 : decode cB_copy 19 = .ok (.getfield 7, 3) := by decide +kernel
theorem dB_copy_22 : decode cB_copy 22 = .ok (.iload_n 2, 1) := by decide +kernel
theorem dB_copy_23 : decode cB_copy 23 = .ok (.aload_n 1, 1) := by decide +kernel
theorem dB_copy_24 : decode cB_copy 24 = .ok (.getfield 7, 3) := by decide +kernel
theorem dB_copy_27 : decode cB_copy 27 = .ok (.iload_n 2, 1) := by decide +kernel
theorem dB_copy_28 : decode cB_copy 28 = .ok (.iaload, 1) := by decide +kernel
theorem dB_copy_29 : decode cB_copy 29 = .ok (.iastore, 1) := by decide +kernel
theorem dB_copy_30 : decode cB_copy 30 = .ok (.iinc 2 1, 3) := by decide +kernel
theorem dB_copy_33 : decode cB_copy 33 = .ok (.goto (-23), 3) := by decide +kernel
theorem dB_copy_36 : decode cB_copy 36 = .ok (.return_, 1) := by decide +kernel
theorem dB_bits_0 : decode cB_bits 0 = .ok (.iconst 0, 1) := by decide +kernel
theorem dB_bits_1 : decode cB_bits 1 = .ok (.istore_n 1, 1) := by decide +kernel
theorem dB_bits_2 : decode cB_bits 2 = .ok (.aload_n 0, 1) := by decide +kernel
theorem dB_bits_3 : decode cB_bits 3 = .ok (.getfield 13, 3) := by decide +kernel
theorem dB_bits_6 : decode cB_bits 6 = .ok (.ifCond .le 25, 3) := by decide +kernel
theorem dB_bits_9 : decode cB_bits 9 = .ok (.aload_n 0, 1) := by decide +kernel
theorem dB_bits_10 : decode cB_bits 10 = .ok (.getfield 7, 3) := by decide +kernel
theorem dB_bits_13 : decode cB_bits 13 = .ok (.aload_n 0, 1) := by decide +kernel
theorem dB_bits_14 : decode cB_bits 14 = .ok (.getfield 13, 3) := by decide +kernel
theorem dB_bits_17 : decode cB_bits 17 = .ok (.iconst 1, 1) := by decide +kernel
theorem dB_bits_18 : decode cB_bits 18 = .ok (.isub, 1) := by decide +kernel
theorem dB_bits_19 : decode cB_bits 19 = .ok (.iaload, 1) := by decide +kernel
theorem dB_bits_20 : decode cB_bits 20 = .ok (.iload_n 1, 1) := by decide +kernel
theorem dB_bits_21 : decode cB_bits 21 = .ok (.ishr, 1) := by decide +kernel
theorem dB_bits_22 : decode cB_bits 22 = .ok (.ifCond .eq 9, 3) := by decide +kernel
theorem dB_bits_25 : decode cB_bits 25 = .ok (.iinc 1 1, 3) := by decide +kernel
theorem dB_bits_28 : decode cB_bits 28 = .ok (.goto (-26), 3) := by decide +kernel
theorem dB_bits_31 : decode cB_bits 31 = .ok (.aload_n 0, 1) := by decide +kernel
theorem dB_bits_32 : decode cB_bits 32 = .ok (.getfield 13, 3) := by decide +kernel
theorem dB_bits_35 : decode cB_bits 35 = .ok (.ifCond .ne 7, 3) := by decide +kernel
theorem dB_bits_38 : decode cB_bits 38 = .ok (.iconst 0, 1) := by decide +kernel
theorem dB_bits_39 : decode cB_bits 39 = .ok (.goto 14, 3) := by decide +kernel
theorem dB_bits_42 : decode cB_bits 42 = .ok (.bipush 16, 2) := by decide +kernel
theorem dB_bits_44 : decode cB_bits 44 = .ok (.aload_n 0, 1) := by decide +kernel
theorem dB_bits_45 : decode cB_bits 45 = .ok (.getfield 13, 3) := by decide +kernel
theorem dB_bits_48 : decode cB_bits 48 = .ok (.iconst 1, 1) := by decide +kernel
theorem dB_bits_49 : decode cB_bits 49 = .ok (.isub, 1) := by decide +kernel
theorem dB_bits_50 : decode cB_bits 50 = .ok (.imul, 1) := by decide +kernel
theorem dB_bits_51 : decode cB_bits 51 = .ok (.iload_n 1, 1) := by decide +kernel
theorem dB_bits_52 : decode cB_bits 52 = .ok (.iadd, 1) := by decide +kernel
theorem dB_bits_53 : decode cB_bits 53 = .ok (.ireturn, 1) := by decide +kernel
theorem dB_isOne_0 : decode cB_isOne 0 = .ok (.aload_n 0, 1) := by decide +kernel
theorem dB_isOne_1 : decode cB_isOne 1 = .ok (.getfield 13, 3) := by decide +kernel
theorem dB_isOne_4 : decode cB_isOne 4 = .ok (.iconst 1, 1) := by decide +kernel
theorem dB_isOne_5 : decode cB_isOne 5 = .ok (.if_icmp .ne 17, 3) := by decide +kernel
theorem dB_isOne_8 : decode cB_isOne 8 = .ok (.aload_n 0, 1) := by decide +kernel
theorem dB_isOne_9 : decode cB_isOne 9 = .ok (.getfield 7, 3) := by decide +kernel
theorem dB_isOne_12 : decode cB_isOne 12 = .ok (.iconst 0, 1) := by decide +kernel
theorem dB_isOne_13 : decode cB_isOne 13 = .ok (.iaload, 1) := by decide +kernel
theorem dB_isOne_14 : decode cB_isOne 14 = .ok (.iconst 1, 1) := by decide +kernel
theorem dB_isOne_15 : decode cB_isOne 15 = .ok (.if_icmp .ne 7, 3) := by decide +kernel
theorem dB_isOne_18 : decode cB_isOne 18 = .ok (.iconst 1, 1) := by decide +kernel
theorem dB_isOne_19 : decode cB_isOne 19 = .ok (.goto 4, 3) := by decide +kernel
theorem dB_isOne_22 : decode cB_isOne 22 = .ok (.iconst 0, 1) := by decide +kernel
theorem dB_isOne_23 : decode cB_isOne 23 = .ok (.ireturn, 1) := by decide +kernel
theorem dB_grow_0 : decode cB_grow 0 = .ok (.iload_n 2, 1) := by decide +kernel
theorem dB_grow_1 : decode cB_grow 1 = .ok (.i2l, 1) := by decide +kernel
theorem dB_grow_2 : decode cB_grow 2 = .ok (.lstore_n 3, 1) := by decide +kernel
theorem dB_grow_3 : decode cB_grow 3 = .ok (.iconst 0, 1) := by decide +kernel
theorem dB_grow_4 : decode cB_grow 4 = .ok (.istore 5, 2) := by decide +kernel
theorem dB_grow_6 : decode cB_grow 6 = .ok (.iload 5, 2) := by decide +kernel
theorem dB_grow_8 : decode cB_grow 8 = .ok (.aload_n 0, 1) := by decide +kernel
theorem dB_grow_9 : decode cB_grow 9 = .ok (.getfield 13, 3) := by decide +kernel
theorem dB_grow_12 : decode cB_grow 12 = .ok (.if_icmp .ge 44, 3) := by decide +kernel
theorem dB_grow_15 : decode cB_grow 15 = .ok (.aload_n 0, 1) := by decide +kernel
theorem dB_grow_16 : decode cB_grow 16 = .ok (.getfield 7, 3) := by decide +kernel
theorem dB_grow_19 : decode cB_grow 19 = .ok (.iload 5, 2) := by decide +kernel
theorem dB_grow_21 : decode cB_grow 21 = .ok (.iaload, 1) := by decide +kernel
theorem dB_grow_22 : decode cB_grow 22 = .ok (.i2l, 1) := by decide +kernel
theorem dB_grow_23 : decode cB_grow 23 = .ok (.iload_n 1, 1) := by decide +kernel
theorem dB_grow_24 : decode cB_grow 24 = .ok (.i2l, 1) := by decide +kernel
theorem dB_grow_25 : decode cB_grow 25 = .ok (.lmul, 1) := by decide +kernel
theorem dB_grow_26 : decode cB_grow 26 = .ok (.lload_n 3, 1) := by decide +kernel
theorem dB_grow_27 : decode cB_grow 27 = .ok (.ladd, 1) := by decide +kernel
theorem dB_grow_28 : decode cB_grow 28 = .ok (.lstore 6, 2) := by decide +kernel
theorem dB_grow_30 : decode cB_grow 30 = .ok (.aload_n 0, 1) := by decide +kernel
theorem dB_grow_31 : decode cB_grow 31 = .ok (.getfield 7, 3) := by decide +kernel
theorem dB_grow_34 : decode cB_grow 34 = .ok (.iload 5, 2) := by decide +kernel
theorem dB_grow_36 : decode cB_grow 36 = .ok (.lload 6, 2) := by decide +kernel
theorem dB_grow_38 : decode cB_grow 38 = .ok (.ldc2_w 17, 3) := by decide +kernel
theorem dB_grow_41 : decode cB_grow 41 = .ok (.land, 1) := by decide +kernel
theorem dB_grow_42 : decode cB_grow 42 = .ok (.l2i, 1) := by decide +kernel
theorem dB_grow_43 : decode cB_grow 43 = .ok (.iastore, 1) := by decide +kernel
theorem dB_grow_44 : decode cB_grow 44 = .ok (.lload 6, 2) := by decide +kernel
theorem dB_grow_46 : decode cB_grow 46 = .ok (.bipush 16, 2) := by decide +kernel
theorem dB_grow_48 : decode cB_grow 48 = .ok (.lshr, 1) := by decide +kernel
theorem dB_grow_49 : decode cB_grow 49 = .ok (.lstore_n 3, 1) := by decide +kernel
theorem dB_grow_50 : decode cB_grow 50 = .ok (.iinc 5 1, 3) := by decide +kernel
theorem dB_grow_53 : decode cB_grow 53 = .ok (.goto (-47), 3) := by decide +kernel
theorem dB_grow_56 : decode cB_grow 56 = .ok (.lload_n 3, 1) := by decide +kernel
theorem dB_grow_57 : decode cB_grow 57 = .ok (.lconst 0, 1) := by decide +kernel
theorem dB_grow_58 : decode cB_grow 58 = .ok (.lcmp, 1) := by decide +kernel
theorem dB_grow_59 : decode cB_grow 59 = .ok (.ifCond .le 36, 3) := by decide +kernel
theorem dB_grow_62 : decode cB_grow 62 = .ok (.aload_n 0, 1) := by decide +kernel
theorem dB_grow_63 : decode cB_grow 63 = .ok (.getfield 7, 3) := by decide +kernel
theorem dB_grow_66 : decode cB_grow 66 = .ok (.aload_n 0, 1) := by decide +kernel
theorem dB_grow_67 : decode cB_grow 67 = .ok (.getfield 13, 3) := by decide +kernel
theorem dB_grow_70 : decode cB_grow 70 = .ok (.lload_n 3, 1) := by decide +kernel
theorem dB_grow_71 : decode cB_grow 71 = .ok (.ldc2_w 17, 3) := by decide +kernel
theorem dB_grow_74 : decode cB_grow 74 = .ok (.land, 1) := by decide +kernel
theorem dB_grow_75 : decode cB_grow 75 = .ok (.l2i, 1) := by decide +kernel
theorem dB_grow_76 : decode cB_grow 76 = .ok (.iastore, 1) := by decide +kernel
theorem dB_grow_77 : decode cB_grow 77 = .ok (.aload_n 0, 1) := by decide +kernel
theorem dB_grow_78 : decode cB_grow 78 = .ok (.dup, 1) := by decide +kernel
theorem dB_grow_79 : decode cB_grow 79 = .ok (.getfield 13, 3) := by decide +kernel
theorem dB_grow_82 : decode cB_grow 82 = .ok (.iconst 1, 1) := by decide +kernel
theorem dB_grow_83 : decode cB_grow 83 = .ok (.iadd, 1) := by decide +kernel
theorem dB_grow_84 : decode cB_grow 84 = .ok (.putfield 13, 3) := by decide +kernel
theorem dB_grow_87 : decode cB_grow 87 = .ok (.lload_n 3, 1) := by decide +kernel
theorem dB_grow_88 : decode cB_grow 88 = .ok (.bipush 16, 2) := by decide +kernel
theorem dB_grow_90 : decode cB_grow 90 = .ok (.lshr, 1) := by decide +kernel
theorem dB_grow_91 : decode cB_grow 91 = .ok (.lstore_n 3, 1) := by decide +kernel
theorem dB_grow_92 : decode cB_grow 92 = .ok (.goto (-36), 3) := by decide +kernel
theorem dB_grow_95 : decode cB_grow 95 = .ok (.return_, 1) := by decide +kernel
theorem dB_product_0 : decode cB_product 0 = .ok (.aload_n 0, 1) := by decide +kernel
theorem dB_product_1 : decode cB_product 1 = .ok (.aload_n 1, 1) := by decide +kernel
theorem dB_product_2 : decode cB_product 2 = .ok (.getfield 13, 3) := by decide +kernel
theorem dB_product_5 : decode cB_product 5 = .ok (.ifCond .eq 10, 3) := by decide +kernel
theorem dB_product_8 : decode cB_product 8 = .ok (.aload_n 2, 1) := by decide +kernel
theorem dB_product_9 : decode cB_product 9 = .ok (.getfield 13, 3) := by decide +kernel
theorem dB_product_12 : decode cB_product 12 = .ok (.ifCond .ne 7, 3) := by decide +kernel
theorem dB_product_15 : decode cB_product 15 = .ok (.iconst 0, 1) := by decide +kernel
theorem dB_product_16 : decode cB_product 16 = .ok (.goto 12, 3) := by decide +kernel
theorem dB_product_19 : decode cB_product 19 = .ok (.aload_n 1, 1) := by decide +kernel
theorem dB_product_20 : decode cB_product 20 = .ok (.getfield 13, 3) := by decide +kernel
theorem dB_product_23 : decode cB_product 23 = .ok (.aload_n 2, 1) := by decide +kernel
theorem dB_product_24 : decode cB_product 24 = .ok (.getfield 13, 3) := by decide +kernel
theorem dB_product_27 : decode cB_product 27 = .ok (.iadd, 1) := by decide +kernel
theorem dB_product_28 : decode cB_product 28 = .ok (.putfield 13, 3) := by decide +kernel
theorem dB_product_31 : decode cB_product 31 = .ok (.iconst 0, 1) := by decide +kernel
theorem dB_product_32 : decode cB_product 32 = .ok (.istore_n 3, 1) := by decide +kernel
theorem dB_product_33 : decode cB_product 33 = .ok (.iload_n 3, 1) := by decide +kernel
theorem dB_product_34 : decode cB_product 34 = .ok (.aload_n 0, 1) := by decide +kernel
theorem dB_product_35 : decode cB_product 35 = .ok (.getfield 13, 3) := by decide +kernel
theorem dB_product_38 : decode cB_product 38 = .ok (.if_icmp .ge 16, 3) := by decide +kernel
theorem dB_product_41 : decode cB_product 41 = .ok (.aload_n 0, 1) := by decide +kernel
theorem dB_product_42 : decode cB_product 42 = .ok (.getfield 7, 3) := by decide +kernel
theorem dB_product_45 : decode cB_product 45 = .ok (.iload_n 3, 1) := by decide +kernel
theorem dB_product_46 : decode cB_product 46 = .ok (.iconst 0, 1) := by decide +kernel
theorem dB_product_47 : decode cB_product 47 = .ok (.iastore, 1) := by decide +kernel
theorem dB_product_48 : decode cB_product 48 = .ok (.iinc 3 1, 3) := by decide +kernel
theorem dB_product_51 : decode cB_product 51 = .ok (.goto (-18), 3) := by decide +kernel
theorem dB_product_54 : decode cB_product 54 = .ok (.iconst 0, 1) := by decide +kernel
theorem dB_product_55 : decode cB_product 55 = .ok (.istore_n 3, 1) := by decide +kernel
theorem dB_product_56 : decode cB_product 56 = .ok (.iload_n 3, 1) := by decide +kernel
theorem dB_product_57 : decode cB_product 57 = .ok (.aload_n 1, 1) := by decide +kernel
theorem dB_product_58 : decode cB_product 58 = .ok (.getfield 13, 3) := by decide +kernel
theorem dB_product_61 : decode cB_product 61 = .ok (.if_icmp .ge 106, 3) := by decide +kernel
theorem dB_product_64 : decode cB_product 64 = .ok (.aload_n 0, 1) := by decide +kernel
theorem dB_product_65 : decode cB_product 65 = .ok (.getfield 13, 3) := by decide +kernel
theorem dB_product_68 : decode cB_product 68 = .ok (.ifCond .le 99, 3) := by decide +kernel
theorem dB_product_71 : decode cB_product 71 = .ok (.lconst 0, 1) := by decide +kernel
theorem dB_product_72 : decode cB_product 72 = .ok (.lstore 4, 2) := by decide +kernel
theorem dB_product_74 : decode cB_product 74 = .ok (.iconst 0, 1) := by decide +kernel
theorem dB_product_75 : decode cB_product 75 = .ok (.istore 6, 2) := by decide +kernel
theorem dB_product_77 : decode cB_product 77 = .ok (.iload 6, 2) := by decide +kernel
theorem dB_product_79 : decode cB_product 79 = .ok (.aload_n 2, 1) := by decide +kernel
theorem dB_product_80 : decode cB_product 80 = .ok (.getfield 13, 3) := by decide +kernel
theorem dB_product_83 : decode cB_product 83 = .ok (.if_icmp .ge 64, 3) := by decide +kernel
theorem dB_product_86 : decode cB_product 86 = .ok (.aload_n 1, 1) := by decide +kernel
theorem dB_product_87 : decode cB_product 87 = .ok (.getfield 7, 3) := by decide +kernel
theorem dB_product_90 : decode cB_product 90 = .ok (.iload_n 3, 1) := by decide +kernel
theorem dB_product_91 : decode cB_product 91 = .ok (.iaload, 1) := by decide +kernel
theorem dB_product_92 : decode cB_product 92 = .ok (.i2l, 1) := by decide +kernel
theorem dB_product_93 : decode cB_product 93 = .ok (.aload_n 2, 1) := by decide +kernel
theorem dB_product_94 : decode cB_product 94 = .ok (.getfield 7, 3) := by decide +kernel
theorem dB_product_97 : decode cB_product 97 = .ok (.iload 6, 2) := by decide +kernel
theorem dB_product_99 : decode cB_product 99 = .ok (.iaload, 1) := by decide +kernel
theorem dB_product_100 : decode cB_product 100 = .ok (.i2l, 1) := by decide +kernel
theorem dB_product_101 : decode cB_product 101 = .ok (.lmul, 1) := by decide +kernel
theorem dB_product_102 : decode cB_product 102 = .ok (.aload_n 0, 1) := by decide +kernel
theorem dB_product_103 : decode cB_product 103 = .ok (.getfield 7, 3) := by decide +kernel
theorem dB_product_106 : decode cB_product 106 = .ok (.iload_n 3, 1) := by decide +kernel
theorem dB_product_107 : decode cB_product 107 = .ok (.iload 6, 2) := by decide +kernel
theorem dB_product_109 : decode cB_product 109 = .ok (.iadd, 1) := by decide +kernel
theorem dB_product_110 : decode cB_product 110 = .ok (.iaload, 1) := by decide +kernel
theorem dB_product_111 : decode cB_product 111 = .ok (.i2l, 1) := by decide +kernel
theorem dB_product_112 : decode cB_product 112 = .ok (.ladd, 1) := by decide +kernel
theorem dB_product_113 : decode cB_product 113 = .ok (.lload 4, 2) := by decide +kernel
theorem dB_product_115 : decode cB_product 115 = .ok (.ladd, 1) := by decide +kernel
theorem dB_product_116 : decode cB_product 116 = .ok (.lstore 7, 2) := by decide +kernel
theorem dB_product_118 : decode cB_product 118 = .ok (.aload_n 0, 1) := by decide +kernel
theorem dB_product_119 : decode cB_product 119 = .ok (.getfield 7, 3) := by decide +kernel
theorem dB_product_122 : decode cB_product 122 = .ok (.iload_n 3, 1) := by decide +kernel
theorem dB_product_123 : decode cB_product 123 = .ok (.iload 6, 2) := by decide +kernel
theorem dB_product_125 : decode cB_product 125 = .ok (.iadd, 1) := by decide +kernel
theorem dB_product_126 : decode cB_product 126 = .ok (.lload 7, 2) := by decide +kernel
theorem dB_product_128 : decode cB_product 128 = .ok (.ldc2_w 17, 3) := by decide +kernel
theorem dB_product_131 : decode cB_product 131 = .ok (.land, 1) := by decide +kernel
theorem dB_product_132 : decode cB_product 132 = .ok (.l2i, 1) := by decide +kernel
theorem dB_product_133 : decode cB_product 133 = .ok (.iastore, 1) := by decide +kernel
theorem dB_product_134 : decode cB_product 134 = .ok (.lload 7, 2) := by decide +kernel
theorem dB_product_136 : decode cB_product 136 = .ok (.bipush 16, 2) := by decide +kernel
theorem dB_product_138 : decode cB_product 138 = .ok (.lshr, 1) := by decide +kernel
theorem dB_product_139 : decode cB_product 139 = .ok (.lstore 4, 2) := by decide +kernel
theorem dB_product_141 : decode cB_product 141 = .ok (.iinc 6 1, 3) := by decide +kernel
theorem dB_product_144 : decode cB_product 144 = .ok (.goto (-67), 3) := by decide +kernel
theorem dB_product_147 : decode cB_product 147 = .ok (.aload_n 0, 1) := by decide +kernel
theorem dB_product_148 : decode cB_product 148 = .ok (.getfield 7, 3) := by decide +kernel
theorem dB_product_151 : decode cB_product 151 = .ok (.iload_n 3, 1) := by decide +kernel
theorem dB_product_152 : decode cB_product 152 = .ok (.aload_n 2, 1) := by decide +kernel
theorem dB_product_153 : decode cB_product 153 = .ok (.getfield 13, 3) := by decide +kernel
theorem dB_product_156 : decode cB_product 156 = .ok (.iadd, 1) := by decide +kernel
theorem dB_product_157 : decode cB_product 157 = .ok (.lload 4, 2) := by decide +kernel
theorem dB_product_159 : decode cB_product 159 = .ok (.l2i, 1) := by decide +kernel
theorem dB_product_160 : decode cB_product 160 = .ok (.iastore, 1) := by decide +kernel
theorem dB_product_161 : decode cB_product 161 = .ok (.iinc 3 1, 3) := by decide +kernel
theorem dB_product_164 : decode cB_product 164 = .ok (.goto (-108), 3) := by decide +kernel
theorem dB_product_167 : decode cB_product 167 = .ok (.aload_n 0, 1) := by decide +kernel
theorem dB_product_168 : decode cB_product 168 = .ok (.invokevirtual 19, 3) := by decide +kernel
theorem dB_product_171 : decode cB_product 171 = .ok (.return_, 1) := by decide +kernel
theorem dB_trim_0 : decode cB_trim 0 = .ok (.aload_n 0, 1) := by decide +kernel
theorem dB_trim_1 : decode cB_trim 1 = .ok (.getfield 13, 3) := by decide +kernel
theorem dB_trim_4 : decode cB_trim 4 = .ok (.ifCond .le 30, 3) := by decide +kernel
theorem dB_trim_7 : decode cB_trim 7 = .ok (.aload_n 0, 1) := by decide +kernel
theorem dB_trim_8 : decode cB_trim 8 = .ok (.getfield 7, 3) := by decide +kernel
theorem dB_trim_11 : decode cB_trim 11 = .ok (.aload_n 0, 1) := by decide +kernel
theorem dB_trim_12 : decode cB_trim 12 = .ok (.getfield 13, 3) := by decide +kernel
theorem dB_trim_15 : decode cB_trim 15 = .ok (.iconst 1, 1) := by decide +kernel
theorem dB_trim_16 : decode cB_trim 16 = .ok (.isub, 1) := by decide +kernel
theorem dB_trim_17 : decode cB_trim 17 = .ok (.iaload, 1) := by decide +kernel
theorem dB_trim_18 : decode cB_trim 18 = .ok (.ifCond .ne 16, 3) := by decide +kernel
theorem dB_trim_21 : decode cB_trim 21 = .ok (.aload_n 0, 1) := by decide +kernel
theorem dB_trim_22 : decode cB_trim 22 = .ok (.dup, 1) := by decide +kernel
theorem dB_trim_23 : decode cB_trim 23 = .ok (.getfield 13, 3) := by decide +kernel
theorem dB_trim_26 : decode cB_trim 26 = .ok (.iconst 1, 1) := by decide +kernel
theorem dB_trim_27 : decode cB_trim 27 = .ok (.isub, 1) := by decide +kernel
theorem dB_trim_28 : decode cB_trim 28 = .ok (.putfield 13, 3) := by decide +kernel
theorem dB_trim_31 : decode cB_trim 31 = .ok (.goto (-31), 3) := by decide +kernel
theorem dB_trim_34 : decode cB_trim 34 = .ok (.return_, 1) := by decide +kernel
theorem dB_shift_0 : decode cB_shift 0 = .ok (.iload_n 1, 1) := by decide +kernel
theorem dB_shift_1 : decode cB_shift 1 = .ok (.bipush 16, 2) := by decide +kernel
theorem dB_shift_3 : decode cB_shift 3 = .ok (.idiv, 1) := by decide +kernel
theorem dB_shift_4 : decode cB_shift 4 = .ok (.istore_n 2, 1) := by decide +kernel
theorem dB_shift_5 : decode cB_shift 5 = .ok (.iload_n 1, 1) := by decide +kernel
theorem dB_shift_6 : decode cB_shift 6 = .ok (.bipush 16, 2) := by decide +kernel
theorem dB_shift_8 : decode cB_shift 8 = .ok (.irem, 1) := by decide +kernel
theorem dB_shift_9 : decode cB_shift 9 = .ok (.istore_n 3, 1) := by decide +kernel
theorem dB_shift_10 : decode cB_shift 10 = .ok (.aload_n 0, 1) := by decide +kernel
theorem dB_shift_11 : decode cB_shift 11 = .ok (.getfield 13, 3) := by decide +kernel
theorem dB_shift_14 : decode cB_shift 14 = .ok (.ifCond .ne 4, 3) := by decide +kernel
theorem dB_shift_17 : decode cB_shift 17 = .ok (.return_, 1) := by decide +kernel
theorem dB_shift_18 : decode cB_shift 18 = .ok (.aload_n 0, 1) := by decide +kernel
theorem dB_shift_19 : decode cB_shift 19 = .ok (.getfield 13, 3) := by decide +kernel
theorem dB_shift_22 : decode cB_shift 22 = .ok (.iconst 1, 1) := by decide +kernel
theorem dB_shift_23 : decode cB_shift 23 = .ok (.isub, 1) := by decide +kernel
theorem dB_shift_24 : decode cB_shift 24 = .ok (.istore 4, 2) := by decide +kernel
theorem dB_shift_26 : decode cB_shift 26 = .ok (.iload 4, 2) := by decide +kernel
theorem dB_shift_28 : decode cB_shift 28 = .ok (.ifCond .lt 25, 3) := by decide +kernel
theorem dB_shift_31 : decode cB_shift 31 = .ok (.aload_n 0, 1) := by decide +kernel
theorem dB_shift_32 : decode cB_shift 32 = .ok (.getfield 7, 3) := by decide +kernel
theorem dB_shift_35 : decode cB_shift 35 = .ok (.iload 4, 2) := by decide +kernel
theorem dB_shift_37 : decode cB_shift 37 = .ok (.iload_n 2, 1) := by decide +kernel
theorem dB_shift_38 : decode cB_shift 38 = .ok (.iadd, 1) := by decide +kernel
theorem dB_shift_39 : decode cB_shift 39 = .ok (.aload_n 0, 1) := by decide +kernel
theorem dB_shift_40 : decode cB_shift 40 = .ok (.getfield 7, 3) := by decide +kernel
theorem dB_shift_43 : decode cB_shift 43 = .ok (.iload 4, 2) := by decide +kernel
theorem dB_shift_45 : decode cB_shift 45 = .ok (.iaload, 1) := by decide +kernel
theorem dB_shift_46 : decode cB_shift 46 = .ok (.iastore, 1) := by decide +kernel
theorem dB_shift_47 : decode cB_shift 47 = .ok (.iinc 4 (-1), 3) := by decide +kernel
theorem dB_shift_50 : decode cB_shift 50 = .ok (.goto (-24), 3) := by decide +kernel
theorem dB_shift_53 : decode cB_shift 53 = .ok (.iconst 0, 1) := by decide +kernel
theorem dB_shift_54 : decode cB_shift 54 = .ok (.istore 4, 2) := by decide +kernel
theorem dB_shift_56 : decode cB_shift 56 = .ok (.iload 4, 2) := by decide +kernel
theorem dB_shift_58 : decode cB_shift 58 = .ok (.iload_n 2, 1) := by decide +kernel
theorem dB_shift_59 : decode cB_shift 59 = .ok (.if_icmp .ge 17, 3) := by decide +kernel
theorem dB_shift_62 : decode cB_shift 62 = .ok (.aload_n 0, 1) := by decide +kernel
theorem dB_shift_63 : decode cB_shift 63 = .ok (.getfield 7, 3) := by decide +kernel
theorem dB_shift_66 : decode cB_shift 66 = .ok (.iload 4, 2) := by decide +kernel
theorem dB_shift_68 : decode cB_shift 68 = .ok (.iconst 0, 1) := by decide +kernel
theorem dB_shift_69 : decode cB_shift 69 = .ok (.iastore, 1) := by decide +kernel
theorem dB_shift_70 : decode cB_shift 70 = .ok (.iinc 4 1, 3) := by decide +kernel
theorem dB_shift_73 : decode cB_shift 73 = .ok (.goto (-17), 3) := by decide +kernel
theorem dB_shift_76 : decode cB_shift 76 = .ok (.aload_n 0, 1) := by decide +kernel
theorem dB_shift_77 : decode cB_shift 77 = .ok (.aload_n 0, 1) := by decide +kernel
theorem dB_shift_78 : decode cB_shift 78 = .ok (.getfield 13, 3) := by decide +kernel
theorem dB_shift_81 : decode cB_shift 81 = .ok (.iload_n 2, 1) := by decide +kernel
theorem dB_shift_82 : decode cB_shift 82 = .ok (.iadd, 1) := by decide +kernel
theorem dB_shift_83 : decode cB_shift 83 = .ok (.putfield 13, 3) := by decide +kernel
theorem dB_shift_86 : decode cB_shift 86 = .ok (.aload_n 0, 1) := by decide +kernel
theorem dB_shift_87 : decode cB_shift 87 = .ok (.iconst 1, 1) := by decide +kernel
theorem dB_shift_88 : decode cB_shift 88 = .ok (.iload_n 3, 1) := by decide +kernel
theorem dB_shift_89 : decode cB_shift 89 = .ok (.ishl, 1) := by decide +kernel
theorem dB_shift_90 : decode cB_shift 90 = .ok (.iconst 0, 1) := by decide +kernel
theorem dB_shift_91 : decode cB_shift 91 = .ok (.invokevirtual 22, 3) := by decide +kernel
theorem dB_shift_94 : decode cB_shift 94 = .ok (.return_, 1) := by decide +kernel
theorem dB_compare_0 : decode cB_compare 0 = .ok (.aload_n 0, 1) := by decide +kernel
theorem dB_compare_1 : decode cB_compare 1 = .ok (.getfield 13, 3) := by decide +kernel
theorem dB_compare_4 : decode cB_compare 4 = .ok (.aload_n 1, 1) := by decide +kernel
theorem dB_compare_5 : decode cB_compare 5 = .ok (.getfield 13, 3) := by decide +kernel
theorem dB_compare_8 : decode cB_compare 8 = .ok (.if_icmp .eq 20, 3) := by decide +kernel
theorem dB_compare_11 : decode cB_compare 11 = .ok (.aload_n 0, 1) := by decide +kernel
theorem dB_compare_12 : decode cB_compare 12 = .ok (.getfield 13, 3) := by decide +kernel
theorem dB_compare_15 : decode cB_compare 15 = .ok (.aload_n 1, 1) := by decide +kernel
theorem dB_compare_16 : decode cB_compare 16 = .ok (.getfield 13, 3) := by decide +kernel
theorem dB_compare_19 : decode cB_compare 19 = .ok (.if_icmp .ge 7, 3) := by decide +kernel
theorem dB_compare_22 : decode cB_compare 22 = .ok (.iconst (-1), 1) := by decide +kernel
theorem dB_compare_23 : decode cB_compare 23 = .ok (.goto 4, 3) := by decide +kernel
theorem dB_compare_26 : decode cB_compare 26 = .ok (.iconst 1, 1) := by decide +kernel
theorem dB_compare_27 : decode cB_compare 27 = .ok (.ireturn, 1) := by decide +kernel
theorem dB_compare_28 : decode cB_compare 28 = .ok (.aload_n 0, 1) := by decide +kernel
theorem dB_compare_29 : decode cB_compare 29 = .ok (.getfield 13, 3) := by decide +kernel
theorem dB_compare_32 : decode cB_compare 32 = .ok (.iconst 1, 1) := by decide +kernel
theorem dB_compare_33 : decode cB_compare 33 = .ok (.isub, 1) := by decide +kernel
theorem dB_compare_34 : decode cB_compare 34 = .ok (.istore_n 2, 1) := by decide +kernel
theorem dB_compare_35 : decode cB_compare 35 = .ok (.iload_n 2, 1) := by decide +kernel
theorem dB_compare_36 : decode cB_compare 36 = .ok (.ifCond .lt 45, 3) := by decide +kernel
theorem dB_compare_39 : decode cB_compare 39 = .ok (.aload_n 0, 1) := by decide +kernel
theorem dB_compare_40 : decode cB_compare 40 = .ok (.getfield 7, 3) := by decide +kernel
theorem dB_compare_43 : decode cB_compare 43 = .ok (.iload_n 2, 1) := by decide +kernel
theorem dB_compare_44 : decode cB_compare 44 = .ok (.iaload, 1) := by decide +kernel
theorem dB_compare_45 : decode cB_compare 45 = .ok (.aload_n 1, 1) := by decide +kernel
theorem dB_compare_46 : decode cB_compare 46 = .ok (.getfield 7, 3) := by decide +kernel
theorem dB_compare_49 : decode cB_compare 49 = .ok (.iload_n 2, 1) := by decide +kernel
theorem dB_compare_50 : decode cB_compare 50 = .ok (.iaload, 1) := by decide +kernel
theorem dB_compare_51 : decode cB_compare 51 = .ok (.if_icmp .eq 24, 3) := by decide +kernel
theorem dB_compare_54 : decode cB_compare 54 = .ok (.aload_n 0, 1) := by decide +kernel
theorem dB_compare_55 : decode cB_compare 55 = .ok (.getfield 7, 3) := by decide +kernel
theorem dB_compare_58 : decode cB_compare 58 = .ok (.iload_n 2, 1) := by decide +kernel
theorem dB_compare_59 : decode cB_compare 59 = .ok (.iaload, 1) := by decide +kernel
theorem dB_compare_60 : decode cB_compare 60 = .ok (.aload_n 1, 1) := by decide +kernel
theorem dB_compare_61 : decode cB_compare 61 = .ok (.getfield 7, 3) := by decide +kernel
theorem dB_compare_64 : decode cB_compare 64 = .ok (.iload_n 2, 1) := by decide +kernel
theorem dB_compare_65 : decode cB_compare 65 = .ok (.iaload, 1) := by decide +kernel
theorem dB_compare_66 : decode cB_compare 66 = .ok (.if_icmp .ge 7, 3) := by decide +kernel
theorem dB_compare_69 : decode cB_compare 69 = .ok (.iconst (-1), 1) := by decide +kernel
theorem dB_compare_70 : decode cB_compare 70 = .ok (.goto 4, 3) := by decide +kernel
theorem dB_compare_73 : decode cB_compare 73 = .ok (.iconst 1, 1) := by decide +kernel
theorem dB_compare_74 : decode cB_compare 74 = .ok (.ireturn, 1) := by decide +kernel
theorem dB_compare_75 : decode cB_compare 75 = .ok (.iinc 2 (-1), 3) := by decide +kernel
theorem dB_compare_78 : decode cB_compare 78 = .ok (.goto (-43), 3) := by decide +kernel
theorem dB_compare_81 : decode cB_compare 81 = .ok (.iconst 0, 1) := by decide +kernel
theorem dB_compare_82 : decode cB_compare 82 = .ok (.ireturn, 1) := by decide +kernel
theorem dB_add_0 : decode cB_add 0 = .ok (.iconst 0, 1) := by decide +kernel
theorem dB_add_1 : decode cB_add 1 = .ok (.istore_n 2, 1) := by decide +kernel
theorem dB_add_2 : decode cB_add 2 = .ok (.iconst 0, 1) := by decide +kernel
theorem dB_add_3 : decode cB_add 3 = .ok (.istore_n 3, 1) := by decide +kernel
theorem dB_add_4 : decode cB_add 4 = .ok (.iload_n 3, 1) := by decide +kernel
theorem dB_add_5 : decode cB_add 5 = .ok (.aload_n 1, 1) := by decide +kernel
theorem dB_add_6 : decode cB_add 6 = .ok (.getfield 13, 3) := by decide +kernel
theorem dB_add_9 : decode cB_add 9 = .ok (.if_icmp .lt 7, 3) := by decide +kernel
theorem dB_add_12 : decode cB_add 12 = .ok (.iload_n 2, 1) := by decide +kernel
theorem dB_add_13 : decode cB_add 13 = .ok (.ifCond .le 89, 3) := by decide +kernel
theorem dB_add_16 : decode cB_add 16 = .ok (.iload_n 3, 1) := by decide +kernel
theorem dB_add_17 : decode cB_add 17 = .ok (.aload_n 0, 1) := by decide +kernel
theorem dB_add_18 : decode cB_add 18 = .ok (.getfield 13, 3) := by decide +kernel
theorem dB_add_21 : decode cB_add 21 = .ok (.if_icmp .ge 12, 3) := by decide +kernel
theorem dB_add_24 : decode cB_add 24 = .ok (.aload_n 0, 1) := by decide +kernel
theorem dB_add_25 : decode cB_add 25 = .ok (.getfield 7, 3) := by decide +kernel
theorem dB_add_28 : decode cB_add 28 = .ok (.iload_n 3, 1) := by decide +kernel
theorem dB_add_29 : decode cB_add 29 = .ok (.iaload, 1) := by decide +kernel
theorem dB_add_30 : decode cB_add 30 = .ok (.goto 4, 3) := by decide +kernel
theorem dB_add_33 : decode cB_add 33 = .ok (.iconst 0, 1) := by decide +kernel
theorem dB_add_34 : decode cB_add 34 = .ok (.iload_n 3, 1) := by decide +kernel
theorem dB_add_35 : decode cB_add 35 = .ok (.aload_n 1, 1) := by decide +kernel
theorem dB_add_36 : decode cB_add 36 = .ok (.getfield 13, 3) := by decide +kernel
theorem dB_add_39 : decode cB_add 39 = .ok (.if_icmp .ge 12, 3) := by decide +kernel
theorem dB_add_42 : decode cB_add 42 = .ok (.aload_n 1, 1) := by decide +kernel
theorem dB_add_43 : decode cB_add 43 = .ok (.getfield 7, 3) := by decide +kernel
theorem dB_add_46 : decode cB_add 46 = .ok (.iload_n 3, 1) := by decide +kernel
theorem dB_add_47 : decode cB_add 47 = .ok (.iaload, 1) := by decide +kernel
theorem dB_add_48 : decode cB_add 48 = .ok (.goto 4, 3) := by decide +kernel
theorem dB_add_51 : decode cB_add 51 = .ok (.iconst 0, 1) := by decide +kernel
theorem dB_add_52 : decode cB_add 52 = .ok (.iadd, 1) := by decide +kernel
theorem dB_add_53 : decode cB_add 53 = .ok (.iload_n 2, 1) := by decide +kernel
theorem dB_add_54 : decode cB_add 54 = .ok (.iadd, 1) := by decide +kernel
theorem dB_add_55 : decode cB_add 55 = .ok (.istore 4, 2) := by decide +kernel
theorem dB_add_57 : decode cB_add 57 = .ok (.aload_n 0, 1) := by decide +kernel
theorem dB_add_58 : decode cB_add 58 = .ok (.iload_n 3, 1) := by decide +kernel
theorem dB_add_59 : decode cB_add 59 = .ok (.aload_n 0, 1) := by decide +kernel
theorem dB_add_60 : decode cB_add 60 = .ok (.getfield 13, 3) := by decide +kernel
theorem dB_add_63 : decode cB_add 63 = .ok (.if_icmp .ge 10, 3) := by decide +kernel
theorem dB_add_66 : decode cB_add 66 = .ok (.aload_n 0, 1) := by decide +kernel
theorem dB_add_67 : decode cB_add 67 = .ok (.getfield 13, 3) := by decide +kernel
theorem dB_add_70 : decode cB_add 70 = .ok (.goto 6, 3) := by decide +kernel
theorem dB_add_73 : decode cB_add 73 = .ok (.iload_n 3, 1) := by decide +kernel
theorem dB_add_74 : decode cB_add 74 = .ok (.iconst 1, 1) := by decide +kernel
theorem dB_add_75 : decode cB_add 75 = .ok (.iadd, 1) := by decide +kernel
theorem dB_add_76 : decode cB_add 76 = .ok (.putfield 13, 3) := by decide +kernel
theorem dB_add_79 : decode cB_add 79 = .ok (.aload_n 0, 1) := by decide +kernel
theorem dB_add_80 : decode cB_add 80 = .ok (.getfield 7, 3) := by decide +kernel
theorem dB_add_83 : decode cB_add 83 = .ok (.iload_n 3, 1) := by decide +kernel
theorem dB_add_84 : decode cB_add 84 = .ok (.iload 4, 2) := by decide +kernel
theorem dB_add_86 : decode cB_add 86 = .ok (.ldc 26, 2) := by decide +kernel
theorem dB_add_88 : decode cB_add 88 = .ok (.iand, 1) := by decide +kernel
theorem dB_add_89 : decode cB_add 89 = .ok (.iastore, 1) := by decide +kernel
theorem dB_add_90 : decode cB_add 90 = .ok (.iload 4, 2) := by decide +kernel
theorem dB_add_92 : decode cB_add 92 = .ok (.bipush 16, 2) := by decide +kernel
theorem dB_add_94 : decode cB_add 94 = .ok (.ishr, 1) := by decide +kernel
theorem dB_add_95 : decode cB_add 95 = .ok (.istore_n 2, 1) := by decide +kernel
theorem dB_add_96 : decode cB_add 96 = .ok (.iinc 3 1, 3) := by decide +kernel
theorem dB_add_99 : decode cB_add 99 = .ok (.goto (-95), 3) := by decide +kernel
theorem dB_add_102 : decode cB_add 102 = .ok (.return_, 1) := by decide +kernel
theorem dB_subtract_0 : decode cB_subtract 0 = .ok (.iconst 0, 1) := by decide +kernel
theorem dB_subtract_1 : decode cB_subtract 1 = .ok (.istore_n 2, 1) := by decide +kernel
theorem dB_subtract_2 : decode cB_subtract 2 = .ok (.iconst 0, 1) := by decide +kernel
theorem dB_subtract_3 : decode cB_subtract 3 = .ok (.istore_n 3, 1) := by decide +kernel
theorem dB_subtract_4 : decode cB_subtract 4 = .ok (.iload_n 3, 1) := by decide +kernel
theorem dB_subtract_5 : decode cB_subtract 5 = .ok (.aload_n 0, 1) := by decide +kernel
theorem dB_subtract_6 : decode cB_subtract 6 = .ok (.getfield 13, 3) := by decide +kernel
theorem dB_subtract_9 : decode cB_subtract 9 = .ok (.if_icmp .ge 60, 3) := by decide +kernel
theorem dB_subtract_12 : decode cB_subtract 12 = .ok (.aload_n 0, 1) := by decide +kernel
theorem dB_subtract_13 : decode cB_subtract 13 = .ok (.getfield 7, 3) := by decide +kernel
theorem dB_subtract_16 : decode cB_subtract 16 = .ok (.iload_n 3, 1) := by decide +kernel
theorem dB_subtract_17 : decode cB_subtract 17 = .ok (.iaload, 1) := by decide +kernel
theorem dB_subtract_18 : decode cB_subtract 18 = .ok (.iload_n 3, 1) := by decide +kernel
theorem dB_subtract_19 : decode cB_subtract 19 = .ok (.aload_n 1, 1) := by decide +kernel
theorem dB_subtract_20 : decode cB_subtract 20 = .ok (.getfield 13, 3) := by decide +kernel
theorem dB_subtract_23 : decode cB_subtract 23 = .ok (.if_icmp .ge 12, 3) := by decide +kernel
theorem dB_subtract_26 : decode cB_subtract 26 = .ok (.aload_n 1, 1) := by decide +kernel
theorem dB_subtract_27 : decode cB_subtract 27 = .ok (.getfield 7, 3) := by decide +kernel
theorem dB_subtract_30 : decode cB_subtract 30 = .ok (.iload_n 3, 1) := by decide +kernel
theorem dB_subtract_31 : decode cB_subtract 31 = .ok (.iaload, 1) := by decide +kernel
theorem dB_subtract_32 : decode cB_subtract 32 = .ok (.goto 4, 3) := by decide +kernel
theorem dB_subtract_35 : decode cB_subtract 35 = .ok (.iconst 0, 1) := by decide +kernel
theorem dB_subtract_36 : decode cB_subtract 36 = .ok (.isub, 1) := by decide +kernel
theorem dB_subtract_37 : decode cB_subtract 37 = .ok (.iload_n 2, 1) := by decide +kernel
theorem dB_subtract_38 : decode cB_subtract 38 = .ok (.isub, 1) := by decide +kernel
theorem dB_subtract_39 : decode cB_subtract 39 = .ok (.istore 4, 2) := by decide +kernel
theorem dB_subtract_41 : decode cB_subtract 41 = .ok (.aload_n 0, 1) := by decide +kernel
theorem dB_subtract_42 : decode cB_subtract 42 = .ok (.getfield 7, 3) := by decide +kernel
theorem dB_subtract_45 : decode cB_subtract 45 = .ok (.iload_n 3, 1) := by decide +kernel
theorem dB_subtract_46 : decode cB_subtract 46 = .ok (.iload 4, 2) := by decide +kernel
theorem dB_subtract_48 : decode cB_subtract 48 = .ok (.ldc 26, 2) := by decide +kernel
theorem dB_subtract_50 : decode cB_subtract 50 = .ok (.iand, 1) := by decide +kernel
theorem dB_subtract_51 : decode cB_subtract 51 = .ok (.iastore, 1) := by decide +kernel
theorem dB_subtract_52 : decode cB_subtract 52 = .ok (.iload 4, 2) := by decide +kernel
theorem dB_subtract_54 : decode cB_subtract 54 = .ok (.ifCond .ge 7, 3) := by decide +kernel
theorem dB_subtract_57 : decode cB_subtract 57 = .ok (.iconst 1, 1) := by decide +kernel
theorem dB_subtract_58 : decode cB_subtract 58 = .ok (.goto 4, 3) := by decide +kernel
theorem dB_subtract_61 : decode cB_subtract 61 = .ok (.iconst 0, 1) := by decide +kernel
theorem dB_subtract_62 : decode cB_subtract 62 = .ok (.istore_n 2, 1) := by decide +kernel
theorem dB_subtract_63 : decode cB_subtract 63 = .ok (.iinc 3 1, 3) := by decide +kernel
theorem dB_subtract_66 : decode cB_subtract 66 = .ok (.goto (-62), 3) := by decide +kernel
theorem dB_subtract_69 : decode cB_subtract 69 = .ok (.aload_n 0, 1) := by decide +kernel
theorem dB_subtract_70 : decode cB_subtract 70 = .ok (.invokevirtual 19, 3) := by decide +kernel
theorem dB_subtract_73 : decode cB_subtract 73 = .ok (.return_, 1) := by decide +kernel
theorem dU_init_0 : decode cU_init 0 = .ok (.aload_n 0, 1) := by decide +kernel
theorem dU_init_1 : decode cU_init 1 = .ok (.invokespecial 1, 3) := by decide +kernel
theorem dU_init_4 : decode cU_init 4 = .ok (.aload_n 0, 1) := by decide +kernel
theorem dU_init_5 : decode cU_init 5 = .ok (.new 7, 3) := by decide +kernel
theorem dU_init_8 : decode cU_init 8 = .ok (.dup, 1) := by decide +kernel
theorem dU_init_9 : decode cU_init 9 = .ok (.invokespecial 9, 3) := by decide +kernel
theorem dU_init_12 : decode cU_init 12 = .ok (.putfield 10, 3) := by decide +kernel
theorem dU_init_15 : decode cU_init 15 = .ok (.aload_n 0, 1) := by decide +kernel
theorem dU_init_16 : decode cU_init 16 = .ok (.new 7, 3) := by decide +kernel
theorem dU_init_19 : decode cU_init 19 = .ok (.dup, 1) := by decide +kernel
theorem dU_init_20 : decode cU_init 20 = .ok (.invokespecial 9, 3) := by decide +kernel
theorem dU_init_23 : decode cU_init 23 = .ok (.putfield 16, 3) := by decide +kernel
theorem dU_init_26 : decode cU_init 26 = .ok (.return_, 1) := by decide +kernel
theorem dU_set_0 : decode cU_set 0 = .ok (.aload_n 0, 1) := by decide +kernel
theorem dU_set_1 : decode cU_set 1 = .ok (.lload_n 1, 1) := by decide +kernel
theorem dU_set_2 : decode cU_set 2 = .ok (.lconst 0, 1) := by decide +kernel
theorem dU_set_3 : decode cU_set 3 = .ok (.lcmp, 1) := by decide +kernel
theorem dU_set_4 : decode cU_set 4 = .ok (.ifCond .ge 7, 3) := by decide +kernel
theorem dU_set_7 : decode cU_set 7 = .ok (.iconst 1, 1) := by decide +kernel
theorem dU_set_8 : decode cU_set 8 = .ok (.goto 4, 3) := by decide +kernel
theorem dU_set_11 : decode cU_set 11 = .ok (.iconst 0, 1) := by decide +kernel
theorem dU_set_12 : decode cU_set 12 = .ok (.putfield 19, 3) := by decide +kernel
theorem dU_set_15 : decode cU_set 15 = .ok (.aload_n 0, 1) := by decide +kernel
theorem dU_set_16 : decode cU_set 16 = .ok (.getfield 10, 3) := by decide +kernel
theorem dU_set_19 : decode cU_set 19 = .ok (.lload_n 1, 1) := by decide +kernel
theorem dU_set_20 : decode cU_set 20 = .ok (.lconst 0, 1) := by decide +kernel
theorem dU_set_21 : decode cU_set 21 = .ok (.lcmp, 1) := by decide +kernel
theorem dU_set_22 : decode cU_set 22 = .ok (.ifCond .ge 8, 3) := by decide +kernel
theorem dU_set_25 : decode cU_set 25 = .ok (.lload_n 1, 1) := by decide +kernel
theorem dU_set_26 : decode cU_set 26 = .ok (.lneg, 1) := by decide +kernel
theorem dU_set_27 : decode cU_set 27 = .ok (.goto 4, 3) := by decide +kernel
theorem dU_set_30 : decode cU_set 30 = .ok (.lload_n 1, 1) := by decide +kernel
theorem dU_set_31 : decode cU_set 31 = .ok (.invokevirtual 23, 3) := by decide +kernel
theorem dU_set_34 : decode cU_set 34 = .ok (.aload_n 0, 1) := by decide +kernel
theorem dU_set_35 : decode cU_set 35 = .ok (.getfield 16, 3) := by decide +kernel
theorem dU_set_38 : decode cU_set 38 = .ok (.lconst 1, 1) := by decide +kernel
theorem dU_set_39 : decode cU_set 39 = .ok (.invokevirtual 23, 3) := by decide +kernel
theorem dU_set_42 : decode cU_set 42 = .ok (.aload_n 0, 1) := by decide +kernel
theorem dU_set_43 : decode cU_set 43 = .ok (.iconst 0, 1) := by decide +kernel
theorem dU_set_44 : decode cU_set 44 = .ok (.putfield 27, 3) := by decide +kernel
theorem dU_set_47 : decode cU_set 47 = .ok (.return_, 1) := by decide +kernel
theorem dU_copy_0 : decode cU_copy 0 = .ok (.aload_n 0, 1) := by decide +kernel
theorem dU_copy_1 : decode cU_copy 1 = .ok (.aload_n 1, 1) := by decide +kernel
theorem dU_copy_2 : decode cU_copy 2 = .ok (.getfield 19, 3) := by decide +kernel
theorem dU_copy_5 : decode cU_copy 5 = .ok (.putfield 19, 3) := by decide +kernel
theorem dU_copy_8 : decode cU_copy 8 = .ok (.aload_n 0, 1) := by decide +kernel
theorem dU_copy_9 : decode cU_copy 9 = .ok (.getfield 10, 3) := by decide +kernel
theorem dU_copy_12 : decode cU_copy 12 = .ok (.aload_n 1, 1) := by decide +kernel
theorem dU_copy_13 : decode cU_copy 13 = .ok (.getfield 10, 3) := by decide +kernel
theorem dU_copy_16 : decode cU_copy 16 = .ok (.invokevirtual 31, 3) := by decide +kernel
theorem dU_copy_19 : decode cU_copy 19 = .ok (.aload_n 0, 1) := by decide +kernel
theorem dU_copy_20 : decode cU_copy 20 = .ok (.getfield 16, 3) := by decide +kernel
theorem dU_copy_23 : decode cU_copy 23 = .ok (.aload_n 1, 1) := by decide +kernel
theorem dU_copy_24 : decode cU_copy 24 = .ok (.getfield 16, 3) := by decide +kernel
theorem dU_copy_27 : decode cU_copy 27 = .ok (.invokevirtual 31, 3) := by decide +kernel
theorem dU_copy_30 : decode cU_copy 30 = .ok (.aload_n 0, 1) := by decide +kernel
theorem dU_copy_31 : decode cU_copy 31 = .ok (.aload_n 1, 1) := by decide +kernel
theorem dU_copy_32 : decode cU_copy 32 = .ok (.getfield 27, 3) := by decide +kernel
theorem dU_copy_35 : decode cU_copy 35 = .ok (.putfield 27, 3) := by decide +kernel
theorem dU_copy_38 : decode cU_copy 38 = .ok (.return_, 1) := by decide +kernel
theorem dU_sign_0 : decode cU_sign 0 = .ok (.aload_n 0, 1) := by decide +kernel
theorem dU_sign_1 : decode cU_sign 1 = .ok (.getfield 10, 3) := by decide +kernel
theorem dU_sign_4 : decode cU_sign 4 = .ok (.getfield 35, 3) := by decide +kernel
theorem dU_sign_7 : decode cU_sign 7 = .ok (.ifCond .ne 7, 3) := by decide +kernel
theorem dU_sign_10 : decode cU_sign 10 = .ok (.iconst 0, 1) := by decide +kernel
theorem dU_sign_11 : decode cU_sign 11 = .ok (.goto 15, 3) := by decide +kernel
theorem dU_sign_14 : decode cU_sign 14 = .ok (.aload_n 0, 1) := by decide +kernel
theorem dU_sign_15 : decode cU_sign 15 = .ok (.getfield 19, 3) := by decide +kernel
theorem dU_sign_18 : decode cU_sign 18 = .ok (.ifCond .eq 7, 3) := by decide +kernel
theorem dU_sign_21 : decode cU_sign 21 = .ok (.iconst (-1), 1) := by decide +kernel
theorem dU_sign_22 : decode cU_sign 22 = .ok (.goto 4, 3) := by decide +kernel
theorem dU_sign_25 : decode cU_sign 25 = .ok (.iconst 1, 1) := by decide +kernel
theorem dU_sign_26 : decode cU_sign 26 = .ok (.ireturn, 1) := by decide +kernel
theorem dU_setFloat_0 : decode cU_setFloat 0 = .ok (.lload_n 1, 1) := by decide +kernel
theorem dU_setFloat_1 : decode cU_setFloat 1 = .ok (.bipush 52, 2) := by decide +kernel
theorem dU_setFloat_3 : decode cU_setFloat 3 = .ok (.lushr, 1) := by decide +kernel
theorem dU_setFloat_4 : decode cU_setFloat 4 = .ok (.ldc2_w 38, 3) := by decide +kernel
theorem dU_setFloat_7 : decode cU_setFloat 7 = .ok (.land, 1) := by decide +kernel
theorem dU_setFloat_8 : decode cU_setFloat 8 = .ok (.lstore_n 3, 1) := by decide +kernel
theorem dU_setFloat_9 : decode cU_setFloat 9 = .ok (.lload_n 1, 1) := by decide +kernel
theorem dU_setFloat_10 : decode cU_setFloat 10 = .ok (.ldc2_w 40, 3) := by decide +kernel
theorem dU_setFloat_13 : decode cU_setFloat 13 = .ok (.land, 1) := by decide +kernel
theorem dU_setFloat_14 : decode cU_setFloat 14 = .ok (.lstore 5, 2) := by decide +kernel
theorem dU_setFloat_16 : decode cU_setFloat 16 = .ok (.aload_n 0, 1) := by decide +kernel
theorem dU_setFloat_17 : decode cU_setFloat 17 = .ok (.lload_n 1, 1) := by decide +kernel
theorem dU_setFloat_18 : decode cU_setFloat 18 = .ok (.lconst 0, 1) := by decide +kernel
theorem dU_setFloat_19 : decode cU_setFloat 19 = .ok (.lcmp, 1) := by decide +kernel
theorem dU_setFloat_20 : decode cU_setFloat 20 = .ok (.ifCond .ge 7, 3) := by decide +kernel
theorem dU_setFloat_23 : decode cU_setFloat 23 = .ok (.iconst 1, 1) := by decide +kernel
theorem dU_setFloat_24 : decode cU_setFloat 24 = .ok (.goto 4, 3) := by decide +kernel
theorem dU_setFloat_27 : decode cU_setFloat 27 = .ok (.iconst 0, 1) := by decide +kernel
theorem dU_setFloat_28 : decode cU_setFloat 28 = .ok (.putfield 19, 3) := by decide +kernel
theorem dU_setFloat_31 : decode cU_setFloat 31 = .ok (.aload_n 0, 1) := by decide +kernel
theorem dU_setFloat_32 : decode cU_setFloat 32 = .ok (.getfield 10, 3) := by decide +kernel
theorem dU_setFloat_35 : decode cU_setFloat 35 = .ok (.lload_n 3, 1) := by decide +kernel
theorem dU_setFloat_36 : decode cU_setFloat 36 = .ok (.lconst 0, 1) := by decide +kernel
theorem dU_setFloat_37 : decode cU_setFloat 37 = .ok (.lcmp, 1) := by decide +kernel
theorem dU_setFloat_38 : decode cU_setFloat 38 = .ok (.ifCond .ne 8, 3) := by decide +kernel
theorem dU_setFloat_41 : decode cU_setFloat 41 = .ok (.lload 5, 2) := by decide +kernel
theorem dU_setFloat_43 : decode cU_setFloat 43 = .ok (.goto 9, 3) := by decide +kernel
theorem dU_setFloat_46 : decode cU_setFloat 46 = .ok (.lload 5, 2) := by decide +kernel
theorem dU_setFloat_48 : decode cU_setFloat 48 = .ok (.ldc2_w 42, 3) := by decide +kernel
theorem dU_setFloat_51 : decode cU_setFloat 51 = .ok (.lor, 1) := by decide +kernel
theorem dU_setFloat_52 : decode cU_setFloat 52 = .ok (.invokevirtual 23, 3) := by decide +kernel
theorem dU_setFloat_55 : decode cU_setFloat 55 = .ok (.aload_n 0, 1) := by decide +kernel
theorem dU_setFloat_56 : decode cU_setFloat 56 = .ok (.getfield 16, 3) := by decide +kernel
theorem dU_setFloat_59 : decode cU_setFloat 59 = .ok (.lconst 1, 1) := by decide +kernel
theorem dU_setFloat_60 : decode cU_setFloat 60 = .ok (.invokevirtual 23, 3) := by decide +kernel
theorem dU_setFloat_63 : decode cU_setFloat 63 = .ok (.aload_n 0, 1) := by decide +kernel
theorem dU_setFloat_64 : decode cU_setFloat 64 = .ok (.lload_n 3, 1) := by decide +kernel
theorem dU_setFloat_65 : decode cU_setFloat 65 = .ok (.lconst 0, 1) := by decide +kernel
theorem dU_setFloat_66 : decode cU_setFloat 66 = .ok (.lcmp, 1) := by decide +kernel
theorem dU_setFloat_67 : decode cU_setFloat 67 = .ok (.ifCond .ne 9, 3) := by decide +kernel
theorem dU_setFloat_70 : decode cU_setFloat 70 = .ok (.sipush (-1074), 3) := by decide +kernel
theorem dU_setFloat_73 : decode cU_setFloat 73 = .ok (.goto 9, 3) := by decide +kernel
theorem dU_setFloat_76 : decode cU_setFloat 76 = .ok (.lload_n 3, 1) := by decide +kernel
theorem dU_setFloat_77 : decode cU_setFloat 77 = .ok (.l2i, 1) := by decide +kernel
theorem dU_setFloat_78 : decode cU_setFloat 78 = .ok (.sipush 1075, 3) := by decide +kernel
theorem dU_setFloat_81 : decode cU_setFloat 81 = .ok (.isub, 1) := by decide +kernel
theorem dU_setFloat_82 : decode cU_setFloat 82 = .ok (.putfield 27, 3) := by decide +kernel
theorem dU_setFloat_85 : decode cU_setFloat 85 = .ok (.return_, 1) := by decide +kernel
theorem dU_times_0 : decode cU_times 0 = .ok (.aload_n 0, 1) := by decide +kernel
theorem dU_times_1 : decode cU_times 1 = .ok (.aload_n 1, 1) := by decide +kernel
theorem dU_times_2 : decode cU_times 2 = .ok (.getfield 19, 3) := by decide +kernel
theorem dU_times_5 : decode cU_times 5 = .ok (.aload_n 2, 1) := by decide +kernel
theorem dU_times_6 : decode cU_times 6 = .ok (.getfield 19, 3) := by decide +kernel
theorem dU_times_9 : decode cU_times 9 = .ok (.if_icmp .eq 7, 3) := by decide +kernel
theorem dU_times_12 : decode cU_times 12 = .ok (.iconst 1, 1) := by decide +kernel
theorem dU_times_13 : decode cU_times 13 = .ok (.goto 4, 3) := by decide +kernel
theorem dU_times_16 : decode cU_times 16 = .ok (.iconst 0, 1) := by decide +kernel
theorem dU_times_17 : decode cU_times 17 = .ok (.putfield 19, 3) := by decide +kernel
theorem dU_times_20 : decode cU_times 20 = .ok (.aload_n 0, 1) := by decide +kernel
theorem dU_times_21 : decode cU_times 21 = .ok (.getfield 10, 3) := by decide +kernel
theorem dU_times_24 : decode cU_times 24 = .ok (.aload_n 1, 1) := by decide +kernel
theorem dU_times_25 : decode cU_times 25 = .ok (.getfield 10, 3) := by decide +kernel
theorem dU_times_28 : decode cU_times 28 = .ok (.aload_n 2, 1) := by decide +kernel
theorem dU_times_29 : decode cU_times 29 = .ok (.getfield 10, 3) := by decide +kernel
theorem dU_times_32 : decode cU_times 32 = .ok (.invokevirtual 44, 3) := by decide +kernel
theorem dU_times_35 : decode cU_times 35 = .ok (.aload_n 0, 1) := by decide +kernel
theorem dU_times_36 : decode cU_times 36 = .ok (.getfield 16, 3) := by decide +kernel
theorem dU_times_39 : decode cU_times 39 = .ok (.aload_n 1, 1) := by decide +kernel
theorem dU_times_40 : decode cU_times 40 = .ok (.getfield 16, 3) := by decide +kernel
theorem dU_times_43 : decode cU_times 43 = .ok (.aload_n 2, 1) := by decide +kernel
theorem dU_times_44 : decode cU_times 44 = .ok (.getfield 16, 3) := by decide +kernel
theorem dU_times_47 : decode cU_times 47 = .ok (.invokevirtual 44, 3) := by decide +kernel
theorem dU_times_50 : decode cU_times 50 = .ok (.aload_n 0, 1) := by decide +kernel
theorem dU_times_51 : decode cU_times 51 = .ok (.aload_n 1, 1) := by decide +kernel
theorem dU_times_52 : decode cU_times 52 = .ok (.getfield 27, 3) := by decide +kernel
theorem dU_times_55 : decode cU_times 55 = .ok (.aload_n 2, 1) := by decide +kernel
theorem dU_times_56 : decode cU_times 56 = .ok (.getfield 27, 3) := by decide +kernel
theorem dU_times_59 : decode cU_times 59 = .ok (.iadd, 1) := by decide +kernel
theorem dU_times_60 : decode cU_times 60 = .ok (.putfield 27, 3) := by decide +kernel
theorem dU_times_63 : decode cU_times 63 = .ok (.return_, 1) := by decide +kernel
theorem dU_over_0 : decode cU_over 0 = .ok (.aload_n 0, 1) := by decide +kernel
theorem dU_over_1 : decode cU_over 1 = .ok (.aload_n 1, 1) := by decide +kernel
theorem dU_over_2 : decode cU_over 2 = .ok (.getfield 19, 3) := by decide +kernel
theorem dU_over_5 : decode cU_over 5 = .ok (.aload_n 2, 1) := by decide +kernel
theorem dU_over_6 : decode cU_over 6 = .ok (.getfield 19, 3) := by decide +kernel
theorem dU_over_9 : decode cU_over 9 = .ok (.if_icmp .eq 7, 3) := by decide +kernel
theorem dU_over_12 : decode cU_over 12 = .ok (.iconst 1, 1) := by decide +kernel
theorem dU_over_13 : decode cU_over 13 = .ok (.goto 4, 3) := by decide +kernel
theorem dU_over_16 : decode cU_over 16 = .ok (.iconst 0, 1) := by decide +kernel
theorem dU_over_17 : decode cU_over 17 = .ok (.putfield 19, 3) := by decide +kernel
theorem dU_over_20 : decode cU_over 20 = .ok (.aload_n 0, 1) := by decide +kernel
theorem dU_over_21 : decode cU_over 21 = .ok (.getfield 10, 3) := by decide +kernel
theorem dU_over_24 : decode cU_over 24 = .ok (.aload_n 1, 1) := by decide +kernel
theorem dU_over_25 : decode cU_over 25 = .ok (.getfield 10, 3) := by decide +kernel
theorem dU_over_28 : decode cU_over 28 = .ok (.aload_n 2, 1) := by decide +kernel
theorem dU_over_29 : decode cU_over 29 = .ok (.getfield 16, 3) := by decide +kernel
theorem dU_over_32 : decode cU_over 32 = .ok (.invokevirtual 44, 3) := by decide +kernel
theorem dU_over_35 : decode cU_over 35 = .ok (.aload_n 0, 1) := by decide +kernel
theorem dU_over_36 : decode cU_over 36 = .ok (.getfield 16, 3) := by decide +kernel
theorem dU_over_39 : decode cU_over 39 = .ok (.aload_n 1, 1) := by decide +kernel
theorem dU_over_40 : decode cU_over 40 = .ok (.getfield 16, 3) := by decide +kernel
theorem dU_over_43 : decode cU_over 43 = .ok (.aload_n 2, 1) := by decide +kernel
theorem dU_over_44 : decode cU_over 44 = .ok (.getfield 10, 3) := by decide +kernel
theorem dU_over_47 : decode cU_over 47 = .ok (.invokevirtual 44, 3) := by decide +kernel
theorem dU_over_50 : decode cU_over 50 = .ok (.aload_n 0, 1) := by decide +kernel
theorem dU_over_51 : decode cU_over 51 = .ok (.aload_n 1, 1) := by decide +kernel
theorem dU_over_52 : decode cU_over 52 = .ok (.getfield 27, 3) := by decide +kernel
theorem dU_over_55 : decode cU_over 55 = .ok (.aload_n 2, 1) := by decide +kernel
theorem dU_over_56 : decode cU_over 56 = .ok (.getfield 27, 3) := by decide +kernel
theorem dU_over_59 : decode cU_over 59 = .ok (.isub, 1) := by decide +kernel
theorem dU_over_60 : decode cU_over 60 = .ok (.putfield 27, 3) := by decide +kernel
theorem dU_over_63 : decode cU_over 63 = .ok (.return_, 1) := by decide +kernel
theorem dU_plus_0 : decode cU_plus 0 = .ok (.aload_n 0, 1) := by decide +kernel
theorem dU_plus_1 : decode cU_plus 1 = .ok (.aload_n 1, 1) := by decide +kernel
theorem dU_plus_2 : decode cU_plus 2 = .ok (.invokevirtual 48, 3) := by decide +kernel
theorem dU_plus_5 : decode cU_plus 5 = .ok (.aload_n 1, 1) := by decide +kernel
theorem dU_plus_6 : decode cU_plus 6 = .ok (.getfield 27, 3) := by decide +kernel
theorem dU_plus_9 : decode cU_plus 9 = .ok (.aload_n 2, 1) := by decide +kernel
theorem dU_plus_10 : decode cU_plus 10 = .ok (.getfield 27, 3) := by decide +kernel
theorem dU_plus_13 : decode cU_plus 13 = .ok (.if_icmp .ge 10, 3) := by decide +kernel
theorem dU_plus_16 : decode cU_plus 16 = .ok (.aload_n 1, 1) := by decide +kernel
theorem dU_plus_17 : decode cU_plus 17 = .ok (.getfield 27, 3) := by decide +kernel
theorem dU_plus_20 : decode cU_plus 20 = .ok (.goto 7, 3) := by decide +kernel
theorem dU_plus_23 : decode cU_plus 23 = .ok (.aload_n 2, 1) := by decide +kernel
theorem dU_plus_24 : decode cU_plus 24 = .ok (.getfield 27, 3) := by decide +kernel
theorem dU_plus_27 : decode cU_plus 27 = .ok (.istore_n 3, 1) := by decide +kernel
theorem dU_plus_28 : decode cU_plus 28 = .ok (.aload_n 1, 1) := by decide +kernel
theorem dU_plus_29 : decode cU_plus 29 = .ok (.getfield 10, 3) := by decide +kernel
theorem dU_plus_32 : decode cU_plus 32 = .ok (.getfield 35, 3) := by decide +kernel
theorem dU_plus_35 : decode cU_plus 35 = .ok (.ifCond .eq 13, 3) := by decide +kernel
theorem dU_plus_38 : decode cU_plus 38 = .ok (.aload_n 2, 1) := by decide +kernel
theorem dU_plus_39 : decode cU_plus 39 = .ok (.getfield 10, 3) := by decide +kernel
theorem dU_plus_42 : decode cU_plus 42 = .ok (.getfield 35, 3) := by decide +kernel
theorem dU_plus_45 : decode cU_plus 45 = .ok (.ifCond .ne 19, 3) := by decide +kernel
theorem dU_plus_48 : decode cU_plus 48 = .ok (.aload_n 1, 1) := by decide +kernel
theorem dU_plus_49 : decode cU_plus 49 = .ok (.getfield 10, 3) := by decide +kernel
theorem dU_plus_52 : decode cU_plus 52 = .ok (.getfield 35, 3) := by decide +kernel
theorem dU_plus_55 : decode cU_plus 55 = .ok (.ifCond .ne 8, 3) := by decide +kernel
theorem dU_plus_58 : decode cU_plus 58 = .ok (.aload_n 0, 1) := by decide +kernel
theorem dU_plus_59 : decode cU_plus 59 = .ok (.aload_n 2, 1) := by decide +kernel
theorem dU_plus_60 : decode cU_plus 60 = .ok (.invokevirtual 48, 3) := by decide +kernel
theorem dU_plus_63 : decode cU_plus 63 = .ok (.return_, 1) := by decide +kernel
theorem dU_plus_64 : decode cU_plus 64 = .ok (.aload_n 0, 1) := by decide +kernel
theorem dU_plus_65 : decode cU_plus 65 = .ok (.getfield 10, 3) := by decide +kernel
theorem dU_plus_68 : decode cU_plus 68 = .ok (.aload_n 1, 1) := by decide +kernel
theorem dU_plus_69 : decode cU_plus 69 = .ok (.getfield 27, 3) := by decide +kernel
theorem dU_plus_72 : decode cU_plus 72 = .ok (.iload_n 3, 1) := by decide +kernel
theorem dU_plus_73 : decode cU_plus 73 = .ok (.isub, 1) := by decide +kernel
theorem dU_plus_74 : decode cU_plus 74 = .ok (.invokevirtual 51, 3) := by decide +kernel
theorem dU_plus_77 : decode cU_plus 77 = .ok (.aload_n 2, 1) := by decide +kernel
theorem dU_plus_78 : decode cU_plus 78 = .ok (.getfield 10, 3) := by decide +kernel
theorem dU_plus_81 : decode cU_plus 81 = .ok (.aload_n 2, 1) := by decide +kernel
theorem dU_plus_82 : decode cU_plus 82 = .ok (.getfield 27, 3) := by decide +kernel
theorem dU_plus_85 : decode cU_plus 85 = .ok (.iload_n 3, 1) := by decide +kernel
theorem dU_plus_86 : decode cU_plus 86 = .ok (.isub, 1) := by decide +kernel
theorem dU_plus_87 : decode cU_plus 87 = .ok (.invokevirtual 51, 3) := by decide +kernel
theorem dU_plus_90 : decode cU_plus 90 = .ok (.aload_n 0, 1) := by decide +kernel
theorem dU_plus_91 : decode cU_plus 91 = .ok (.iload_n 3, 1) := by decide +kernel
theorem dU_plus_92 : decode cU_plus 92 = .ok (.putfield 27, 3) := by decide +kernel
theorem dU_plus_95 : decode cU_plus 95 = .ok (.aload_n 0, 1) := by decide +kernel
theorem dU_plus_96 : decode cU_plus 96 = .ok (.getfield 19, 3) := by decide +kernel
theorem dU_plus_99 : decode cU_plus 99 = .ok (.aload_n 2, 1) := by decide +kernel
theorem dU_plus_100 : decode cU_plus 100 = .ok (.getfield 19, 3) := by decide +kernel
theorem dU_plus_103 : decode cU_plus 103 = .ok (.if_icmp .ne 17, 3) := by decide +kernel
theorem dU_plus_106 : decode cU_plus 106 = .ok (.aload_n 0, 1) := by decide +kernel
theorem dU_plus_107 : decode cU_plus 107 = .ok (.getfield 10, 3) := by decide +kernel
theorem dU_plus_110 : decode cU_plus 110 = .ok (.aload_n 2, 1) := by decide +kernel
theorem dU_plus_111 : decode cU_plus 111 = .ok (.getfield 10, 3) := by decide +kernel
theorem dU_plus_114 : decode cU_plus 114 = .ok (.invokevirtual 55, 3) := by decide +kernel
theorem dU_plus_117 : decode cU_plus 117 = .ok (.goto 61, 3) := by decide +kernel
theorem dU_plus_120 : decode cU_plus 120 = .ok (.aload_n 0, 1) := by decide +kernel
theorem dU_plus_121 : decode cU_plus 121 = .ok (.getfield 10, 3) := by decide +kernel
theorem dU_plus_124 : decode cU_plus 124 = .ok (.aload_n 2, 1) := by decide +kernel
theorem dU_plus_125 : decode cU_plus 125 = .ok (.getfield 10, 3) := by decide +kernel
theorem dU_plus_128 : decode cU_plus 128 = .ok (.invokevirtual 58, 3) := by decide +kernel
theorem dU_plus_131 : decode cU_plus 131 = .ok (.ifCond .lt 17, 3) := by decide +kernel
theorem dU_plus_134 : decode cU_plus 134 = .ok (.aload_n 0, 1) := by decide +kernel
theorem dU_plus_135 : decode cU_plus 135 = .ok (.getfield 10, 3) := by decide +kernel
theorem dU_plus_138 : decode cU_plus 138 = .ok (.aload_n 2, 1) := by decide +kernel
theorem dU_plus_139 : decode cU_plus 139 = .ok (.getfield 10, 3) := by decide +kernel
theorem dU_plus_142 : decode cU_plus 142 = .ok (.invokevirtual 62, 3) := by decide +kernel
theorem dU_plus_145 : decode cU_plus 145 = .ok (.goto 33, 3) := by decide +kernel
theorem dU_plus_148 : decode cU_plus 148 = .ok (.aload_n 2, 1) := by decide +kernel
theorem dU_plus_149 : decode cU_plus 149 = .ok (.getfield 10, 3) := by decide +kernel
theorem dU_plus_152 : decode cU_plus 152 = .ok (.aload_n 0, 1) := by decide +kernel
theorem dU_plus_153 : decode cU_plus 153 = .ok (.getfield 10, 3) := by decide +kernel
theorem dU_plus_156 : decode cU_plus 156 = .ok (.invokevirtual 62, 3) := by decide +kernel
theorem dU_plus_159 : decode cU_plus 159 = .ok (.aload_n 0, 1) := by decide +kernel
theorem dU_plus_160 : decode cU_plus 160 = .ok (.getfield 10, 3) := by decide +kernel
theorem dU_plus_163 : decode cU_plus 163 = .ok (.aload_n 2, 1) := by decide +kernel
theorem dU_plus_164 : decode cU_plus 164 = .ok (.getfield 10, 3) := by decide +kernel
theorem dU_plus_167 : decode cU_plus 167 = .ok (.invokevirtual 31, 3) := by decide +kernel
theorem dU_plus_170 : decode cU_plus 170 = .ok (.aload_n 0, 1) := by decide +kernel
theorem dU_plus_171 : decode cU_plus 171 = .ok (.aload_n 2, 1) := by decide +kernel
theorem dU_plus_172 : decode cU_plus 172 = .ok (.getfield 19, 3) := by decide +kernel
theorem dU_plus_175 : decode cU_plus 175 = .ok (.putfield 19, 3) := by decide +kernel
theorem dU_plus_178 : decode cU_plus 178 = .ok (.return_, 1) := by decide +kernel
