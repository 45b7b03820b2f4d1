theorem dN_init_0 : decode cN_init 0 = .ok (.aload_n 0, 1) := by decide +kernel
theorem dN_init_1 : decode cN_init 1 = .ok (.invokespecial 3, 3) := by decide +kernel
theorem dN_init_4 : decode cN_init 4 = .ok (.aload_n 0, 1) := by decide +kernel
theorem dN_init_5 : decode cN_init 5 = .ok (.bipush 72, 2) := by decide +kernel
theorem dN_init_7 : decode cN_init 7 = .ok (.newarray .int, 2) := by decide +kernel
theorem dN_init_9 : decode cN_init 9 = .ok (.putfield 9, 3) := by decide +kernel
theorem dN_init_12 : decode cN_init 12 = .ok (.return_, 1) := by decide +kernel
theorem dN_clear_0 : decode cN_clear 0 = .ok (.iconst 0, 1) := by decide +kernel
theorem dN_clear_1 : decode cN_clear 1 = .ok (.istore_n 1, 1) := by decide +kernel
theorem dN_clear_2 : decode cN_clear 2 = .ok (.iload_n 1, 1) := by decide +kernel
theorem dN_clear_3 : decode cN_clear 3 = .ok (.bipush 72, 2) := by decide +kernel
theorem dN_clear_5 : decode cN_clear 5 = .ok (.if_icmp .ge 16, 3) := by decide +kernel
theorem dN_clear_8 : decode cN_clear 8 = .ok (.aload_n 0, 1) := by decide +kernel
theorem dN_clear_9 : decode cN_clear 9 = .ok (.getfield 9, 3) := by decide +kernel
theorem dN_clear_12 : decode cN_clear 12 = .ok (.iload_n 1, 1) := by decide +kernel
theorem dN_clear_13 : decode cN_clear 13 = .ok (.iconst 0, 1) := by decide +kernel
theorem dN_clear_14 : decode cN_clear 14 = .ok (.iastore, 1) := by decide +kernel
theorem dN_clear_15 : decode cN_clear 15 = .ok (.iinc 1 1, 3) := by decide +kernel
theorem dN_clear_18 : decode cN_clear 18 = .ok (.goto (-16), 3) := by decide +kernel
theorem dN_clear_21 : decode cN_clear 21 = .ok (.aload_n 0, 1) := by decide +kernel
theorem dN_clear_22 : decode cN_clear 22 = .ok (.iconst 0, 1) := by decide +kernel
theorem dN_clear_23 : decode cN_clear 23 = .ok (.putfield 15, 3) := by decide +kernel
theorem dN_clear_26 : decode cN_clear 26 = .ok (.return_, 1) := by decide +kernel
theorem dN_setBit_0 : decode cN_setBit 0 = .ok (.aload_n 0, 1) := by decide +kernel
theorem dN_setBit_1 : decode cN_setBit 1 = .ok (.invokevirtual 19, 3) := by decide +kernel
theorem dN_setBit_4 : decode cN_setBit 4 = .ok (.iload_n 1, 1) := by decide +kernel
theorem dN_setBit_5 : decode cN_setBit 5 = .ok (.bipush 30, 2) := by decide +kernel
theorem dN_setBit_7 : decode cN_setBit 7 = .ok (.idiv, 1) := by decide +kernel
theorem dN_setBit_8 : decode cN_setBit 8 = .ok (.istore_n 2, 1) := by decide +kernel
theorem dN_setBit_9 : decode cN_setBit 9 = .ok (.iload_n 1, 1) := by decide +kernel
theorem dN_setBit_10 : decode cN_setBit 10 = .ok (.ifCond .lt 28, 3) := by decide +kernel
theorem dN_setBit_13 : decode cN_setBit 13 = .ok (.iload_n 2, 1) := by decide +kernel
theorem dN_setBit_14 : decode cN_setBit 14 = .ok (.bipush 72, 2) := by decide +kernel
theorem dN_setBit_16 : decode cN_setBit 16 = .ok (.if_icmp .ge 22, 3) := by decide +kernel
theorem dN_setBit_19 : decode cN_setBit 19 = .ok (.aload_n 0, 1) := by decide +kernel
theorem dN_setBit_20 : decode cN_setBit 20 = .ok (.getfield 9, 3) := by decide +kernel
theorem dN_setBit_23 : decode cN_setBit 23 = .ok (.iload_n 2, 1) := by decide +kernel
theorem dN_setBit_24 : decode cN_setBit 24 = .ok (.iconst 1, 1) := by decide +kernel
theorem dN_setBit_25 : decode cN_setBit 25 = .ok (.iload_n 1, 1) := by decide +kernel
theorem dN_setBit_26 : decode cN_setBit 26 = .ok (.bipush 30, 2) := by decide +kernel
theorem dN_setBit_28 : decode cN_setBit 28 = .ok (.irem, 1) := by decide +kernel
theorem dN_setBit_29 : decode cN_setBit 29 = .ok (.ishl, 1) := by decide +kernel
theorem dN_setBit_30 : decode cN_setBit 30 = .ok (.iastore, 1) := by decide +kernel
theorem dN_setBit_31 : decode cN_setBit 31 = .ok (.aload_n 0, 1) := by decide +kernel
theorem dN_setBit_32 : decode cN_setBit 32 = .ok (.iload_n 2, 1) := by decide +kernel
theorem dN_setBit_33 : decode cN_setBit 33 = .ok (.iconst 1, 1) := by decide +kernel
theorem dN_setBit_34 : decode cN_setBit 34 = .ok (.iadd, 1) := by decide +kernel
theorem dN_setBit_35 : decode cN_setBit 35 = .ok (.putfield 15, 3) := by decide +kernel
theorem dN_setBit_38 : decode cN_setBit 38 = .ok (.return_, 1) := by decide +kernel
theorem dN_setPower_0 : decode cN_setPower 0 = .ok (.aload_n 0, 1) := by decide +kernel
theorem dN_setPower_1 : decode cN_setPower 1 = .ok (.iconst 0, 1) := by decide +kernel
theorem dN_setPower_2 : decode cN_setPower 2 = .ok (.invokevirtual 22, 3) := by decide +kernel
theorem dN_setPower_5 : decode cN_setPower 5 = .ok (.iconst 0, 1) := by decide +kernel
theorem dN_setPower_6 : decode cN_setPower 6 = .ok (.istore 4, 2) := by decide +kernel
theorem dN_setPower_8 : decode cN_setPower 8 = .ok (.iload 4, 2) := by decide +kernel
theorem dN_setPower_10 : decode cN_setPower 10 = .ok (.iload_n 3, 1) := by decide +kernel
theorem dN_setPower_11 : decode cN_setPower 11 = .ok (.if_icmp .ge 14, 3) := by decide +kernel
theorem dN_setPower_14 : decode cN_setPower 14 = .ok (.aload_n 0, 1) := by decide +kernel
theorem dN_setPower_15 : decode cN_setPower 15 = .ok (.lload_n 1, 1) := by decide +kernel
theorem dN_setPower_16 : decode cN_setPower 16 = .ok (.invokevirtual 26, 3) := by decide +kernel
theorem dN_setPower_19 : decode cN_setPower 19 = .ok (.iinc 4 1, 3) := by decide +kernel
theorem dN_setPower_22 : decode cN_setPower 22 = .ok (.goto (-14), 3) := by decide +kernel
theorem dN_setPower_25 : decode cN_setPower 25 = .ok (.return_, 1) := by decide +kernel
theorem dN_scale_0 : decode cN_scale 0 = .ok (.lload_n 1, 1) := by decide +kernel
theorem dN_scale_1 : decode cN_scale 1 = .ok (.ldc2_w 30, 3) := by decide +kernel
theorem dN_scale_4 : decode cN_scale 4 = .ok (.land, 1) := by decide +kernel
theorem dN_scale_5 : decode cN_scale 5 = .ok (.lstore_n 3, 1) := by decide +kernel
theorem dN_scale_6 : decode cN_scale 6 = .ok (.lload_n 1, 1) := by decide +kernel
theorem dN_scale_7 : decode cN_scale 7 = .ok (.bipush 30, 2) := by decide +kernel
theorem dN_scale_9 : decode cN_scale 9 = .ok (.lushr, 1) := by decide +kernel
theorem dN_scale_10 : decode cN_scale 10 = .ok (.lstore 5, 2) := by decide +kernel
theorem dN_scale_12 : decode cN_scale 12 = .ok (.aload_n 0, 1) := by decide +kernel
theorem dN_scale_13 : decode cN_scale 13 = .ok (.getfield 15, 3) := by decide +kernel
theorem dN_scale_16 : decode cN_scale 16 = .ok (.iconst 2, 1) := by decide +kernel
theorem dN_scale_17 : decode cN_scale 17 = .ok (.iadd, 1) := by decide +kernel
theorem dN_scale_18 : decode cN_scale 18 = .ok (.bipush 72, 2) := by decide +kernel
theorem dN_scale_20 : decode cN_scale 20 = .ok (.invokestatic 32, 3) := by decide +kernel
theorem dN_scale_23 : decode cN_scale 23 = .ok (.istore 7, 2) := by decide +kernel
theorem dN_scale_25 : decode cN_scale 25 = .ok (.lconst 0, 1) := by decide +kernel
theorem dN_scale_26 : decode cN_scale 26 = .ok (.lstore 8, 2) := by decide +kernel
theorem dN_scale_28 : decode cN_scale 28 = .ok (.lconst 0, 1) := by decide +kernel
theorem dN_scale_29 : decode cN_scale 29 = .ok (.lstore 10, 2) := by decide +kernel
theorem dN_scale_31 : decode cN_scale 31 = .ok (.iconst 0, 1) := by decide +kernel
theorem dN_scale_32 : decode cN_scale 32 = .ok (.istore 12, 2) := by decide +kernel
theorem dN_scale_34 : decode cN_scale 34 = .ok (.iload 12, 2) := by decide +kernel
theorem dN_scale_36 : decode cN_scale 36 = .ok (.iload 7, 2) := by decide +kernel
theorem dN_scale_38 : decode cN_scale 38 = .ok (.if_icmp .ge 59, 3) := by decide +kernel
theorem dN_scale_41 : decode cN_scale 41 = .ok (.aload_n 0, 1) := by decide +kernel
theorem dN_scale_42 : decode cN_scale 42 = .ok (.getfield 9, 3) := by decide +kernel
theorem dN_scale_45 : decode cN_scale 45 = .ok (.iload 12, 2) := by decide +kernel
theorem dN_scale_47 : decode cN_scale 47 = .ok (.iaload, 1) := by decide +kernel
theorem dN_scale_48 : decode cN_scale 48 = .ok (.i2l, 1) := by decide +kernel
theorem dN_scale_49 : decode cN_scale 49 = .ok (.lstore 13, 2) := by decide +kernel
theorem dN_scale_51 : decode cN_scale 51 = .ok (.lload 13, 2) := by decide +kernel
theorem dN_scale_53 : decode cN_scale 53 = .ok (.lload_n 3, 1) := by decide +kernel
theorem dN_scale_54 : decode cN_scale 54 = .ok (.lmul, 1) := by decide +kernel
theorem dN_scale_55 : decode cN_scale 55 = .ok (.lload 8, 2) := by decide +kernel
theorem dN_scale_57 : decode cN_scale 57 = .ok (.lload 5, 2) := by decide +kernel
theorem dN_scale_59 : decode cN_scale 59 = .ok (.lmul, 1) := by decide +kernel
theorem dN_scale_60 : decode cN_scale 60 = .ok (.ladd, 1) := by decide +kernel
theorem dN_scale_61 : decode cN_scale 61 = .ok (.lload 10, 2) := by decide +kernel
theorem dN_scale_63 : decode cN_scale 63 = .ok (.ladd, 1) := by decide +kernel
theorem dN_scale_64 : decode cN_scale 64 = .ok (.lstore 15, 2) := by decide +kernel
theorem dN_scale_66 : decode cN_scale 66 = .ok (.aload_n 0, 1) := by decide +kernel
theorem dN_scale_67 : decode cN_scale 67 = .ok (.getfield 9, 3) := by decide +kernel
theorem dN_scale_70 : decode cN_scale 70 = .ok (.iload 12, 2) := by decide +kernel
theorem dN_scale_72 : decode cN_scale 72 = .ok (.lload 15, 2) := by decide +kernel
theorem dN_scale_74 : decode cN_scale 74 = .ok (.ldc2_w 30, 3) := by decide +kernel
theorem dN_scale_77 : decode cN_scale 77 = .ok (.land, 1) := by decide +kernel
theorem dN_scale_78 : decode cN_scale 78 = .ok (.l2i, 1) := by decide +kernel
theorem dN_scale_79 : decode cN_scale 79 = .ok (.iastore, 1) := by decide +kernel
theorem dN_scale_80 : decode cN_scale 80 = .ok (.lload 15, 2) := by decide +kernel
theorem dN_scale_82 : decode cN_scale 82 = .ok (.bipush 30, 2) := by decide +kernel
theorem dN_scale_84 : decode cN_scale 84 = .ok (.lushr, 1) := by decide +kernel
theorem dN_scale_85 : decode cN_scale 85 = .ok (.lstore 10, 2) := by decide +kernel
theorem dN_scale_87 : decode cN_scale 87 = .ok (.lload 13, 2) := by decide +kernel
theorem dN_scale_89 : decode cN_scale 89 = .ok (.lstore 8, 2) := by decide +kernel
theorem dN_scale_91 : decode cN_scale 91 = .ok (.iinc 12 1, 3) := by decide +kernel
theorem dN_scale_94 : decode cN_scale 94 = .ok (.goto (-60), 3) := by decide +kernel
theorem dN_scale_97 : decode cN_scale 97 = .ok (.aload_n 0, 1) := by decide +kernel
theorem dN_scale_98 : decode cN_scale 98 = .ok (.iload 7, 2) := by decide +kernel
theorem dN_scale_100 : decode cN_scale 100 = .ok (.putfield 15, 3) := by decide +kernel
theorem dN_scale_103 : decode cN_scale 103 = .ok (.aload_n 0, 1) := by decide +kernel
theorem dN_scale_104 : decode cN_scale 104 = .ok (.invokevirtual 38, 3) := by decide +kernel
theorem dN_scale_107 : decode cN_scale 107 = .ok (.return_, 1) := by decide +kernel
theorem dN_trim_0 : decode cN_trim 0 = .ok (.aload_n 0, 1) := by decide +kernel
theorem dN_trim_1 : decode cN_trim 1 = .ok (.getfield 15, 3) := by decide +kernel
theorem dN_trim_4 : decode cN_trim 4 = .ok (.ifCond .le 30, 3) := by decide +kernel
theorem dN_trim_7 : decode cN_trim 7 = .ok (.aload_n 0, 1) := by decide +kernel
theorem dN_trim_8 : decode cN_trim 8 = .ok (.getfield 9, 3) := by decide +kernel
theorem dN_trim_11 : decode cN_trim 11 = .ok (.aload_n 0, 1) := by decide +kernel
theorem dN_trim_12 : decode cN_trim 12 = .ok (.getfield 15, 3) := by decide +kernel
theorem dN_trim_15 : decode cN_trim 15 = .ok (.iconst 1, 1) := by decide +kernel
theorem dN_trim_16 : decode cN_trim 16 = .ok (.isub, 1) := by decide +kernel
theorem dN_trim_17 : decode cN_trim 17 = .ok (.iaload, 1) := by decide +kernel
theorem dN_trim_18 : decode cN_trim 18 = .ok (.ifCond .ne 16, 3) := by decide +kernel
theorem dN_trim_21 : decode cN_trim 21 = .ok (.aload_n 0, 1) := by decide +kernel
theorem dN_trim_22 : decode cN_trim 22 = .ok (.dup, 1) := by decide +kernel
theorem dN_trim_23 : decode cN_trim 23 = .ok (.getfield 15, 3) := by decide +kernel
theorem dN_trim_26 : decode cN_trim 26 = .ok (.iconst 1, 1) := by decide +kernel
theorem dN_trim_27 : decode cN_trim 27 = .ok (.isub, 1) := by decide +kernel
theorem dN_trim_28 : decode cN_trim 28 = .ok (.putfield 15, 3) := by decide +kernel
theorem dN_trim_31 : decode cN_trim 31 = .ok (.goto (-31), 3) := by decide +kernel
theorem dN_trim_34 : decode cN_trim 34 = .ok (.return_, 1) := by decide +kernel
theorem dN_length_0 : decode cN_length 0 = .ok (.aload_n 0, 1) := by decide +kernel
theorem dN_length_1 : decode cN_length 1 = .ok (.getfield 15, 3) := by decide +kernel
theorem dN_length_4 : decode cN_length 4 = .ok (.ifCond .ne 7, 3) := by decide +kernel
theorem dN_length_7 : decode cN_length 7 = .ok (.iconst 0, 1) := by decide +kernel
theorem dN_length_8 : decode cN_length 8 = .ok (.goto 28, 3) := by decide +kernel
theorem dN_length_11 : decode cN_length 11 = .ok (.aload_n 0, 1) := by decide +kernel
theorem dN_length_12 : decode cN_length 12 = .ok (.getfield 15, 3) := by decide +kernel
theorem dN_length_15 : decode cN_length 15 = .ok (.iconst 1, 1) := by decide +kernel
theorem dN_length_16 : decode cN_length 16 = .ok (.isub, 1) := by decide +kernel
theorem dN_length_17 : decode cN_length 17 = .ok (.bipush 30, 2) := by decide +kernel
theorem dN_length_19 : decode cN_length 19 = .ok (.imul, 1) := by decide +kernel
theorem dN_length_20 : decode cN_length 20 = .ok (.aload_n 0, 1) := by decide +kernel
theorem dN_length_21 : decode cN_length 21 = .ok (.getfield 9, 3) := by decide +kernel
theorem dN_length_24 : decode cN_length 24 = .ok (.aload_n 0, 1) := by decide +kernel
theorem dN_length_25 : decode cN_length 25 = .ok (.getfield 15, 3) := by decide +kernel
theorem dN_length_28 : decode cN_length 28 = .ok (.iconst 1, 1) := by decide +kernel
theorem dN_length_29 : decode cN_length 29 = .ok (.isub, 1) := by decide +kernel
theorem dN_length_30 : decode cN_length 30 = .ok (.iaload, 1) := by decide +kernel
theorem dN_length_31 : decode cN_length 31 = .ok (.i2l, 1) := by decide +kernel
theorem dN_length_32 : decode cN_length 32 = .ok (.invokestatic 41, 3) := by decide +kernel
theorem dN_length_35 : decode cN_length 35 = .ok (.iadd, 1) := by decide +kernel
theorem dN_length_36 : decode cN_length 36 = .ok (.ireturn, 1) := by decide +kernel
theorem dN_top_0 : decode cN_top 0 = .ok (.lconst 0, 1) := by decide +kernel
theorem dN_top_1 : decode cN_top 1 = .ok (.lstore_n 2, 1) := by decide +kernel
theorem dN_top_2 : decode cN_top 2 = .ok (.aload_n 0, 1) := by decide +kernel
theorem dN_top_3 : decode cN_top 3 = .ok (.invokevirtual 45, 3) := by decide +kernel
theorem dN_top_6 : decode cN_top 6 = .ok (.istore 4, 2) := by decide +kernel
theorem dN_top_8 : decode cN_top 8 = .ok (.iload 4, 2) := by decide +kernel
theorem dN_top_10 : decode cN_top 10 = .ok (.iconst 1, 1) := by decide +kernel
theorem dN_top_11 : decode cN_top 11 = .ok (.isub, 1) := by decide +kernel
theorem dN_top_12 : decode cN_top 12 = .ok (.istore 5, 2) := by decide +kernel
theorem dN_top_14 : decode cN_top 14 = .ok (.iload 5, 2) := by decide +kernel
theorem dN_top_16 : decode cN_top 16 = .ok (.iload 4, 2) := by decide +kernel
theorem dN_top_18 : decode cN_top 18 = .ok (.iload_n 1, 1) := by decide +kernel
theorem dN_top_19 : decode cN_top 19 = .ok (.isub, 1) := by decide +kernel
theorem dN_top_20 : decode cN_top 20 = .ok (.if_icmp .lt 21, 3) := by decide +kernel
theorem dN_top_23 : decode cN_top 23 = .ok (.lload_n 2, 1) := by decide +kernel
theorem dN_top_24 : decode cN_top 24 = .ok (.iconst 1, 1) := by decide +kernel
theorem dN_top_25 : decode cN_top 25 = .ok (.lshl, 1) := by decide +kernel
theorem dN_top_26 : decode cN_top 26 = .ok (.aload_n 0, 1) := by decide +kernel
theorem dN_top_27 : decode cN_top 27 = .ok (.iload 5, 2) := by decide +kernel
theorem dN_top_29 : decode cN_top 29 = .ok (.invokevirtual 49, 3) := by decide +kernel
theorem dN_top_32 : decode cN_top 32 = .ok (.i2l, 1) := by decide +kernel
theorem dN_top_33 : decode cN_top 33 = .ok (.lor, 1) := by decide +kernel
theorem dN_top_34 : decode cN_top 34 = .ok (.lstore_n 2, 1) := by decide +kernel
theorem dN_top_35 : decode cN_top 35 = .ok (.iinc 5 (-1), 3) := by decide +kernel
theorem dN_top_38 : decode cN_top 38 = .ok (.goto (-24), 3) := by decide +kernel
theorem dN_top_41 : decode cN_top 41 = .ok (.lload_n 2, 1) := by decide +kernel
theorem dN_top_42 : decode cN_top 42 = .ok (.lreturn, 1) := by decide +kernel
theorem dN_bitAt_0 : decode cN_bitAt 0 = .ok (.iload_n 1, 1) := by decide +kernel
theorem dN_bitAt_1 : decode cN_bitAt 1 = .ok (.bipush 30, 2) := by decide +kernel
theorem dN_bitAt_3 : decode cN_bitAt 3 = .ok (.idiv, 1) := by decide +kernel
theorem dN_bitAt_4 : decode cN_bitAt 4 = .ok (.istore_n 2, 1) := by decide +kernel
theorem dN_bitAt_5 : decode cN_bitAt 5 = .ok (.iload_n 1, 1) := by decide +kernel
theorem dN_bitAt_6 : decode cN_bitAt 6 = .ok (.ifCond .lt 9, 3) := by decide +kernel
theorem dN_bitAt_9 : decode cN_bitAt 9 = .ok (.iload_n 2, 1) := by decide +kernel
theorem dN_bitAt_10 : decode cN_bitAt 10 = .ok (.bipush 72, 2) := by decide +kernel
theorem dN_bitAt_12 : decode cN_bitAt 12 = .ok (.if_icmp .lt 7, 3) := by decide +kernel
theorem dN_bitAt_15 : decode cN_bitAt 15 = .ok (.iconst 0, 1) := by decide +kernel
theorem dN_bitAt_16 : decode cN_bitAt 16 = .ok (.goto 16, 3) := by decide +kernel
theorem dN_bitAt_19 : decode cN_bitAt 19 = .ok (.aload_n 0, 1) := by decide +kernel
theorem dN_bitAt_20 : decode cN_bitAt 20 = .ok (.getfield 9, 3) := by decide +kernel
theorem dN_bitAt_23 : decode cN_bitAt 23 = .ok (.iload_n 2, 1) := by decide +kernel
theorem dN_bitAt_24 : decode cN_bitAt 24 = .ok (.iaload, 1) := by decide +kernel
theorem dN_bitAt_25 : decode cN_bitAt 25 = .ok (.iload_n 1, 1) := by decide +kernel
theorem dN_bitAt_26 : decode cN_bitAt 26 = .ok (.bipush 30, 2) := by decide +kernel
theorem dN_bitAt_28 : decode cN_bitAt 28 = .ok (.irem, 1) := by decide +kernel
theorem dN_bitAt_29 : decode cN_bitAt 29 = .ok (.iushr, 1) := by decide +kernel
theorem dN_bitAt_30 : decode cN_bitAt 30 = .ok (.iconst 1, 1) := by decide +kernel
theorem dN_bitAt_31 : decode cN_bitAt 31 = .ok (.iand, 1) := by decide +kernel
theorem dN_bitAt_32 : decode cN_bitAt 32 = .ok (.ireturn, 1) := by decide +kernel
theorem dN_twice_0 : decode cN_twice 0 = .ok (.iconst 0, 1) := by decide +kernel
theorem dN_twice_1 : decode cN_twice 1 = .ok (.istore_n 1, 1) := by decide +kernel
theorem dN_twice_2 : decode cN_twice 2 = .ok (.iconst 0, 1) := by decide +kernel
theorem dN_twice_3 : decode cN_twice 3 = .ok (.istore_n 2, 1) := by decide +kernel
theorem dN_twice_4 : decode cN_twice 4 = .ok (.iload_n 2, 1) := by decide +kernel
theorem dN_twice_5 : decode cN_twice 5 = .ok (.aload_n 0, 1) := by decide +kernel
theorem dN_twice_6 : decode cN_twice 6 = .ok (.getfield 15, 3) := by decide +kernel
theorem dN_twice_9 : decode cN_twice 9 = .ok (.if_icmp .ge 35, 3) := by decide +kernel
theorem dN_twice_12 : decode cN_twice 12 = .ok (.aload_n 0, 1) := by decide +kernel
theorem dN_twice_13 : decode cN_twice 13 = .ok (.getfield 9, 3) := by decide +kernel
theorem dN_twice_16 : decode cN_twice 16 = .ok (.iload_n 2, 1) := by decide +kernel
theorem dN_twice_17 : decode cN_twice 17 = .ok (.iaload, 1) := by decide +kernel
theorem dN_twice_18 : decode cN_twice 18 = .ok (.iconst 1, 1) := by decide +kernel
theorem dN_twice_19 : decode cN_twice 19 = .ok (.ishl, 1) := by decide +kernel
theorem dN_twice_20 : decode cN_twice 20 = .ok (.iload_n 1, 1) := by decide +kernel
theorem dN_twice_21 : decode cN_twice 21 = .ok (.ior, 1) := by decide +kernel
theorem dN_twice_22 : decode cN_twice 22 = .ok (.istore_n 3, 1) := by decide +kernel
theorem dN_twice_23 : decode cN_twice 23 = .ok (.aload_n 0, 1) := by decide +kernel
theorem dN_twice_24 : decode cN_twice 24 = .ok (.getfield 9, 3) := by decide +kernel
theorem dN_twice_27 : decode cN_twice 27 = .ok (.iload_n 2, 1) := by decide +kernel
theorem dN_twice_28 : decode cN_twice 28 = .ok (.iload_n 3, 1) := by decide +kernel
theorem dN_twice_29 : decode cN_twice 29 = .ok (.ldc 53, 2) := by decide +kernel
theorem dN_twice_31 : decode cN_twice 31 = .ok (.iand, 1) := by decide +kernel
theorem dN_twice_32 : decode cN_twice 32 = .ok (.iastore, 1) := by decide +kernel
theorem dN_twice_33 : decode cN_twice 33 = .ok (.iload_n 3, 1) := by decide +kernel
theorem dN_twice_34 : decode cN_twice 34 = .ok (.bipush 30, 2) := by decide +kernel
theorem dN_twice_36 : decode cN_twice 36 = .ok (.iushr, 1) := by decide +kernel
theorem dN_twice_37 : decode cN_twice 37 = .ok (.istore_n 1, 1) := by decide +kernel
theorem dN_twice_38 : decode cN_twice 38 = .ok (.iinc 2 1, 3) := by decide +kernel
theorem dN_twice_41 : decode cN_twice 41 = .ok (.goto (-37), 3) := by decide +kernel
theorem dN_twice_44 : decode cN_twice 44 = .ok (.iload_n 1, 1) := by decide +kernel
theorem dN_twice_45 : decode cN_twice 45 = .ok (.ifCond .eq 32, 3) := by decide +kernel
theorem dN_twice_48 : decode cN_twice 48 = .ok (.aload_n 0, 1) := by decide +kernel
theorem dN_twice_49 : decode cN_twice 49 = .ok (.getfield 15, 3) := by decide +kernel
theorem dN_twice_52 : decode cN_twice 52 = .ok (.bipush 72, 2) := by decide +kernel
theorem dN_twice_54 : decode cN_twice 54 = .ok (.if_icmp .ge 23, 3) := by decide +kernel
theorem dN_twice_57 : decode cN_twice 57 = .ok (.aload_n 0, 1) := by decide +kernel
theorem dN_twice_58 : decode cN_twice 58 = .ok (.getfield 9, 3) := by decide +kernel
theorem dN_twice_61 : decode cN_twice 61 = .ok (.aload_n 0, 1) := by decide +kernel
theorem dN_twice_62 : decode cN_twice 62 = .ok (.getfield 15, 3) := by decide +kernel
theorem dN_twice_65 : decode cN_twice 65 = .ok (.iload_n 1, 1) := by decide +kernel
theorem dN_twice_66 : decode cN_twice 66 = .ok (.iastore, 1) := by decide +kernel
theorem dN_twice_67 : decode cN_twice 67 = .ok (.aload_n 0, 1) := by decide +kernel
theorem dN_twice_68 : decode cN_twice 68 = .ok (.dup, 1) := by decide +kernel
theorem dN_twice_69 : decode cN_twice 69 = .ok (.getfield 15, 3) := by decide +kernel
theorem dN_twice_72 : decode cN_twice 72 = .ok (.iconst 1, 1) := by decide +kernel
theorem dN_twice_73 : decode cN_twice 73 = .ok (.iadd, 1) := by decide +kernel
theorem dN_twice_74 : decode cN_twice 74 = .ok (.putfield 15, 3) := by decide +kernel
theorem dN_twice_77 : decode cN_twice 77 = .ok (.return_, 1) := by decide +kernel
theorem dN_isBelow_0 : decode cN_isBelow 0 = .ok (.aload_n 0, 1) := by decide +kernel
theorem dN_isBelow_1 : decode cN_isBelow 1 = .ok (.getfield 15, 3) := by decide +kernel
theorem dN_isBelow_4 : decode cN_isBelow 4 = .ok (.aload_n 1, 1) := by decide +kernel
theorem dN_isBelow_5 : decode cN_isBelow 5 = .ok (.getfield 15, 3) := by decide +kernel
theorem dN_isBelow_8 : decode cN_isBelow 8 = .ok (.invokestatic 54, 3) := by decide +kernel
theorem dN_isBelow_11 : decode cN_isBelow 11 = .ok (.iconst 1, 1) := by decide +kernel
theorem dN_isBelow_12 : decode cN_isBelow 12 = .ok (.isub, 1) := by decide +kernel
theorem dN_isBelow_13 : decode cN_isBelow 13 = .ok (.istore_n 2, 1) := by decide +kernel
theorem dN_isBelow_14 : decode cN_isBelow 14 = .ok (.iload_n 2, 1) := by decide +kernel
theorem dN_isBelow_15 : decode cN_isBelow 15 = .ok (.ifCond .lt 45, 3) := by decide +kernel
theorem dN_isBelow_18 : decode cN_isBelow 18 = .ok (.aload_n 0, 1) := by decide +kernel
theorem dN_isBelow_19 : decode cN_isBelow 19 = .ok (.getfield 9, 3) := by decide +kernel
theorem dN_isBelow_22 : decode cN_isBelow 22 = .ok (.iload_n 2, 1) := by decide +kernel
theorem dN_isBelow_23 : decode cN_isBelow 23 = .ok (.iaload, 1) := by decide +kernel
theorem dN_isBelow_24 : decode cN_isBelow 24 = .ok (.aload_n 1, 1) := by decide +kernel
theorem dN_isBelow_25 : decode cN_isBelow 25 = .ok (.getfield 9, 3) := by decide +kernel
theorem dN_isBelow_28 : decode cN_isBelow 28 = .ok (.iload_n 2, 1) := by decide +kernel
theorem dN_isBelow_29 : decode cN_isBelow 29 = .ok (.iaload, 1) := by decide +kernel
theorem dN_isBelow_30 : decode cN_isBelow 30 = .ok (.if_icmp .eq 24, 3) := by decide +kernel
theorem dN_isBelow_33 : decode cN_isBelow 33 = .ok (.aload_n 0, 1) := by decide +kernel
theorem dN_isBelow_34 : decode cN_isBelow 34 = .ok (.getfield 9, 3) := by decide +kernel
theorem dN_isBelow_37 : decode cN_isBelow 37 = .ok (.iload_n 2, 1) := by decide +kernel
theorem dN_isBelow_38 : decode cN_isBelow 38 = .ok (.iaload, 1) := by decide +kernel
theorem dN_isBelow_39 : decode cN_isBelow 39 = .ok (.aload_n 1, 1) := by decide +kernel
theorem dN_isBelow_40 : decode cN_isBelow 40 = .ok (.getfield 9, 3) := by decide +kernel
theorem dN_isBelow_43 : decode cN_isBelow 43 = .ok (.iload_n 2, 1) := by decide +kernel
theorem dN_isBelow_44 : decode cN_isBelow 44 = .ok (.iaload, 1) := by decide +kernel
theorem dN_isBelow_45 : decode cN_isBelow 45 = .ok (.if_icmp .ge 7, 3) := by decide +kernel
theorem dN_isBelow_48 : decode cN_isBelow 48 = .ok (.iconst 1, 1) := by decide +kernel
theorem dN_isBelow_49 : decode cN_isBelow 49 = .ok (.goto 4, 3) := by decide +kernel
theorem dN_isBelow_52 : decode cN_isBelow 52 = .ok (.iconst 0, 1) := by decide +kernel
theorem dN_isBelow_53 : decode cN_isBelow 53 = .ok (.ireturn, 1) := by decide +kernel
theorem dN_isBelow_54 : decode cN_isBelow 54 = .ok (.iinc 2 (-1), 3) := by decide +kernel
theorem dN_isBelow_57 : decode cN_isBelow 57 = .ok (.goto (-43), 3) := by decide +kernel
theorem dN_isBelow_60 : decode cN_isBelow 60 = .ok (.iconst 0, 1) := by decide +kernel
theorem dN_isBelow_61 : decode cN_isBelow 61 = .ok (.ireturn, 1) := by decide +kernel
theorem dN_take_0 : decode cN_take 0 = .ok (.iconst 0, 1) := by decide +kernel
theorem dN_take_1 : decode cN_take 1 = .ok (.istore_n 2, 1) := by decide +kernel
theorem dN_take_2 : decode cN_take 2 = .ok (.iconst 0, 1) := by decide +kernel
theorem dN_take_3 : decode cN_take 3 = .ok (.istore_n 3, 1) := by decide +kernel
theorem dN_take_4 : decode cN_take 4 = .ok (.iload_n 3, 1) := by decide +kernel
theorem dN_take_5 : decode cN_take 5 = .ok (.aload_n 0, 1) := by decide +kernel
theorem dN_take_6 : decode cN_take 6 = .ok (.getfield 15, 3) := by decide +kernel
theorem dN_take_9 : decode cN_take 9 = .ok (.if_icmp .ge 48, 3) := by decide +kernel
theorem dN_take_12 : decode cN_take 12 = .ok (.aload_n 0, 1) := by decide +kernel
theorem dN_take_13 : decode cN_take 13 = .ok (.getfield 9, 3) := by decide +kernel
theorem dN_take_16 : decode cN_take 16 = .ok (.iload_n 3, 1) := by decide +kernel
theorem dN_take_17 : decode cN_take 17 = .ok (.iaload, 1) := by decide +kernel
theorem dN_take_18 : decode cN_take 18 = .ok (.aload_n 1, 1) := by decide +kernel
theorem dN_take_19 : decode cN_take 19 = .ok (.getfield 9, 3) := by decide +kernel
theorem dN_take_22 : decode cN_take 22 = .ok (.iload_n 3, 1) := by decide +kernel
theorem dN_take_23 : decode cN_take 23 = .ok (.iaload, 1) := by decide +kernel
theorem dN_take_24 : decode cN_take 24 = .ok (.isub, 1) := by decide +kernel
theorem dN_take_25 : decode cN_take 25 = .ok (.iload_n 2, 1) := by decide +kernel
theorem dN_take_26 : decode cN_take 26 = .ok (.isub, 1) := by decide +kernel
theorem dN_take_27 : decode cN_take 27 = .ok (.istore 4, 2) := by decide +kernel
theorem dN_take_29 : decode cN_take 29 = .ok (.iload 4, 2) := by decide +kernel
theorem dN_take_31 : decode cN_take 31 = .ok (.ifCond .ge 7, 3) := by decide +kernel
theorem dN_take_34 : decode cN_take 34 = .ok (.iconst 1, 1) := by decide +kernel
theorem dN_take_35 : decode cN_take 35 = .ok (.goto 4, 3) := by decide +kernel
theorem dN_take_38 : decode cN_take 38 = .ok (.iconst 0, 1) := by decide +kernel
theorem dN_take_39 : decode cN_take 39 = .ok (.istore_n 2, 1) := by decide +kernel
theorem dN_take_40 : decode cN_take 40 = .ok (.aload_n 0, 1) := by decide +kernel
theorem dN_take_41 : decode cN_take 41 = .ok (.getfield 9, 3) := by decide +kernel
theorem dN_take_44 : decode cN_take 44 = .ok (.iload_n 3, 1) := by decide +kernel
theorem dN_take_45 : decode cN_take 45 = .ok (.iload 4, 2) := by decide +kernel
theorem dN_take_47 : decode cN_take 47 = .ok (.ldc 53, 2) := by decide +kernel
theorem dN_take_49 : decode cN_take 49 = .ok (.iand, 1) := by decide +kernel
theorem dN_take_50 : decode cN_take 50 = .ok (.iastore, 1) := by decide +kernel
theorem dN_take_51 : decode cN_take 51 = .ok (.iinc 3 1, 3) := by decide +kernel
theorem dN_take_54 : decode cN_take 54 = .ok (.goto (-50), 3) := by decide +kernel
theorem dN_take_57 : decode cN_take 57 = .ok (.aload_n 0, 1) := by decide +kernel
theorem dN_take_58 : decode cN_take 58 = .ok (.invokevirtual 38, 3) := by decide +kernel
theorem dN_take_61 : decode cN_take 61 = .ok (.return_, 1) := by decide +kernel
theorem dW_init_0 : decode cW_init 0 = .ok (.aload_n 0, 1) := by decide +kernel
theorem dW_init_1 : decode cW_init 1 = .ok (.invokespecial 3, 3) := by decide +kernel
theorem dW_init_4 : decode cW_init 4 = .ok (.return_, 1) := by decide +kernel
theorem dW_setProduct_0 : decode cW_setProduct 0 = .ok (.lload_n 1, 1) := by decide +kernel
theorem dW_setProduct_1 : decode cW_setProduct 1 = .ok (.invokestatic 9, 3) := by decide +kernel
theorem dW_setProduct_4 : decode cW_setProduct 4 = .ok (.lstore 5, 2) := by decide +kernel
theorem dW_setProduct_6 : decode cW_setProduct 6 = .ok (.lload_n 3, 1) := by decide +kernel
theorem dW_setProduct_7 : decode cW_setProduct 7 = .ok (.invokestatic 9, 3) := by decide +kernel
theorem dW_setProduct_10 : decode cW_setProduct 10 = .ok (.lstore 7, 2) := by decide +kernel
theorem dW_setProduct_12 : decode cW_setProduct 12 = .ok (.lload 5, 2) := by decide +kernel
theorem dW_setProduct_14 : decode cW_setProduct 14 = .ok (.ldc2_w 13, 3) := by decide +kernel
theorem dW_setProduct_17 : decode cW_setProduct 17 = .ok (.land, 1) := by decide +kernel
theorem dW_setProduct_18 : decode cW_setProduct 18 = .ok (.lload 7, 2) := by decide +kernel
theorem dW_setProduct_20 : decode cW_setProduct 20 = .ok (.ldc2_w 13, 3) := by decide +kernel
theorem dW_setProduct_23 : decode cW_setProduct 23 = .ok (.land, 1) := by decide +kernel
theorem dW_setProduct_24 : decode cW_setProduct 24 = .ok (.lmul, 1) := by decide +kernel
theorem dW_setProduct_25 : decode cW_setProduct 25 = .ok (.lstore 9, 2) := by decide +kernel
theorem dW_setProduct_27 : decode cW_setProduct 27 = .ok (.lload 5, 2) := by decide +kernel
theorem dW_setProduct_29 : decode cW_setProduct 29 = .ok (.bipush 32, 2) := by decide +kernel
theorem dW_setProduct_31 : decode cW_setProduct 31 = .ok (.lushr, 1) := by decide +kernel
theorem dW_setProduct_32 : decode cW_setProduct 32 = .ok (.lload 7, 2) := by decide +kernel
theorem dW_setProduct_34 : decode cW_setProduct 34 = .ok (.ldc2_w 13, 3) := by decide +kernel
theorem dW_setProduct_37 : decode cW_setProduct 37 = .ok (.land, 1) := by decide +kernel
theorem dW_setProduct_38 : decode cW_setProduct 38 = .ok (.lmul, 1) := by decide +kernel
theorem dW_setProduct_39 : decode cW_setProduct 39 = .ok (.lload 9, 2) := by decide +kernel
theorem dW_setProduct_41 : decode cW_setProduct 41 = .ok (.bipush 32, 2) := by decide +kernel
theorem dW_setProduct_43 : decode cW_setProduct 43 = .ok (.lushr, 1) := by decide +kernel
theorem dW_setProduct_44 : decode cW_setProduct 44 = .ok (.ladd, 1) := by decide +kernel
theorem dW_setProduct_45 : decode cW_setProduct 45 = .ok (.lstore 11, 2) := by decide +kernel
theorem dW_setProduct_47 : decode cW_setProduct 47 = .ok (.lload 5, 2) := by decide +kernel
theorem dW_setProduct_49 : decode cW_setProduct 49 = .ok (.ldc2_w 13, 3) := by decide +kernel
theorem dW_setProduct_52 : decode cW_setProduct 52 = .ok (.land, 1) := by decide +kernel
theorem dW_setProduct_53 : decode cW_setProduct 53 = .ok (.lload 7, 2) := by decide +kernel
theorem dW_setProduct_55 : decode cW_setProduct 55 = .ok (.bipush 32, 2) := by decide +kernel
theorem dW_setProduct_57 : decode cW_setProduct 57 = .ok (.lushr, 1) := by decide +kernel
theorem dW_setProduct_58 : decode cW_setProduct 58 = .ok (.lmul, 1) := by decide +kernel
theorem dW_setProduct_59 : decode cW_setProduct 59 = .ok (.lload 11, 2) := by decide +kernel
theorem dW_setProduct_61 : decode cW_setProduct 61 = .ok (.ldc2_w 13, 3) := by decide +kernel
theorem dW_setProduct_64 : decode cW_setProduct 64 = .ok (.land, 1) := by decide +kernel
theorem dW_setProduct_65 : decode cW_setProduct 65 = .ok (.ladd, 1) := by decide +kernel
theorem dW_setProduct_66 : decode cW_setProduct 66 = .ok (.lstore 13, 2) := by decide +kernel
theorem dW_setProduct_68 : decode cW_setProduct 68 = .ok (.aload_n 0, 1) := by decide +kernel
theorem dW_setProduct_69 : decode cW_setProduct 69 = .ok (.lload 5, 2) := by decide +kernel
theorem dW_setProduct_71 : decode cW_setProduct 71 = .ok (.bipush 32, 2) := by decide +kernel
theorem dW_setProduct_73 : decode cW_setProduct 73 = .ok (.lushr, 1) := by decide +kernel
theorem dW_setProduct_74 : decode cW_setProduct 74 = .ok (.lload 7, 2) := by decide +kernel
theorem dW_setProduct_76 : decode cW_setProduct 76 = .ok (.bipush 32, 2) := by decide +kernel
theorem dW_setProduct_78 : decode cW_setProduct 78 = .ok (.lushr, 1) := by decide +kernel
theorem dW_setProduct_79 : decode cW_setProduct 79 = .ok (.lmul, 1) := by decide +kernel
theorem dW_setProduct_80 : decode cW_setProduct 80 = .ok (.lload 11, 2) := by decide +kernel
theorem dW_setProduct_82 : decode cW_setProduct 82 = .ok (.bipush 32, 2) := by decide +kernel
theorem dW_setProduct_84 : decode cW_setProduct 84 = .ok (.lushr, 1) := by decide +kernel
theorem dW_setProduct_85 : decode cW_setProduct 85 = .ok (.ladd, 1) := by decide +kernel
theorem dW_setProduct_86 : decode cW_setProduct 86 = .ok (.lload 13, 2) := by decide +kernel
theorem dW_setProduct_88 : decode cW_setProduct 88 = .ok (.bipush 32, 2) := by decide +kernel
theorem dW_setProduct_90 : decode cW_setProduct 90 = .ok (.lushr, 1) := by decide +kernel
theorem dW_setProduct_91 : decode cW_setProduct 91 = .ok (.ladd, 1) := by decide +kernel
theorem dW_setProduct_92 : decode cW_setProduct 92 = .ok (.putfield 15, 3) := by decide +kernel
theorem dW_setProduct_95 : decode cW_setProduct 95 = .ok (.aload_n 0, 1) := by decide +kernel
theorem dW_setProduct_96 : decode cW_setProduct 96 = .ok (.lload 13, 2) := by decide +kernel
theorem dW_setProduct_98 : decode cW_setProduct 98 = .ok (.bipush 32, 2) := by decide +kernel
theorem dW_setProduct_100 : decode cW_setProduct 100 = .ok (.lshl, 1) := by decide +kernel
theorem dW_setProduct_101 : decode cW_setProduct 101 = .ok (.lload 9, 2) := by decide +kernel
theorem dW_setProduct_103 : decode cW_setProduct 103 = .ok (.ldc2_w 13, 3) := by decide +kernel
theorem dW_setProduct_106 : decode cW_setProduct 106 = .ok (.land, 1) := by decide +kernel
theorem dW_setProduct_107 : decode cW_setProduct 107 = .ok (.lor, 1) := by decide +kernel
theorem dW_setProduct_108 : decode cW_setProduct 108 = .ok (.putfield 21, 3) := by decide +kernel
theorem dW_setProduct_111 : decode cW_setProduct 111 = .ok (.aload_n 0, 1) := by decide +kernel
theorem dW_setProduct_112 : decode cW_setProduct 112 = .ok (.lload_n 1, 1) := by decide +kernel
theorem dW_setProduct_113 : decode cW_setProduct 113 = .ok (.invokestatic 24, 3) := by decide +kernel
theorem dW_setProduct_116 : decode cW_setProduct 116 = .ok (.lload_n 3, 1) := by decide +kernel
theorem dW_setProduct_117 : decode cW_setProduct 117 = .ok (.invokestatic 24, 3) := by decide +kernel
theorem dW_setProduct_120 : decode cW_setProduct 120 = .ok (.iadd, 1) := by decide +kernel
theorem dW_setProduct_121 : decode cW_setProduct 121 = .ok (.putfield 28, 3) := by decide +kernel
theorem dW_setProduct_124 : decode cW_setProduct 124 = .ok (.aload_n 0, 1) := by decide +kernel
theorem dW_setProduct_125 : decode cW_setProduct 125 = .ok (.lload_n 1, 1) := by decide +kernel
theorem dW_setProduct_126 : decode cW_setProduct 126 = .ok (.lload_n 3, 1) := by decide +kernel
theorem dW_setProduct_127 : decode cW_setProduct 127 = .ok (.lxor, 1) := by decide +kernel
theorem dW_setProduct_128 : decode cW_setProduct 128 = .ok (.lconst 0, 1) := by decide +kernel
theorem dW_setProduct_129 : decode cW_setProduct 129 = .ok (.lcmp, 1) := by decide +kernel
theorem dW_setProduct_130 : decode cW_setProduct 130 = .ok (.ifCond .ge 7, 3) := by decide +kernel
theorem dW_setProduct_133 : decode cW_setProduct 133 = .ok (.iconst 1, 1) := by decide +kernel
theorem dW_setProduct_134 : decode cW_setProduct 134 = .ok (.goto 4, 3) := by decide +kernel
theorem dW_setProduct_137 : decode cW_setProduct 137 = .ok (.iconst 0, 1) := by decide +kernel
theorem dW_setProduct_138 : decode cW_setProduct 138 = .ok (.putfield 32, 3) := by decide +kernel
theorem dW_setProduct_141 : decode cW_setProduct 141 = .ok (.aload_n 0, 1) := by decide +kernel
theorem dW_setProduct_142 : decode cW_setProduct 142 = .ok (.iconst 0, 1) := by decide +kernel
theorem dW_setProduct_143 : decode cW_setProduct 143 = .ok (.putfield 36, 3) := by decide +kernel
theorem dW_setProduct_146 : decode cW_setProduct 146 = .ok (.return_, 1) := by decide +kernel
theorem dW_copy_0 : decode cW_copy 0 = .ok (.aload_n 0, 1) := by decide +kernel
theorem dW_copy_1 : decode cW_copy 1 = .ok (.aload_n 1, 1) := by decide +kernel
theorem dW_copy_2 : decode cW_copy 2 = .ok (.getfield 15, 3) := by decide +kernel
theorem dW_copy_5 : decode cW_copy 5 = .ok (.putfield 15, 3) := by decide +kernel
theorem dW_copy_8 : decode cW_copy 8 = .ok (.aload_n 0, 1) := by decide +kernel
theorem dW_copy_9 : decode cW_copy 9 = .ok (.aload_n 1, 1) := by decide +kernel
theorem dW_copy_10 : decode cW_copy 10 = .ok (.getfield 21, 3) := by decide +kernel
theorem dW_copy_13 : decode cW_copy 13 = .ok (.putfield 21, 3) := by decide +kernel
theorem dW_copy_16 : decode cW_copy 16 = .ok (.aload_n 0, 1) := by decide +kernel
theorem dW_copy_17 : decode cW_copy 17 = .ok (.aload_n 1, 1) := by decide +kernel
theorem dW_copy_18 : decode cW_copy 18 = .ok (.getfield 28, 3) := by decide +kernel
theorem dW_copy_21 : decode cW_copy 21 = .ok (.putfield 28, 3) := by decide +kernel
theorem dW_copy_24 : decode cW_copy 24 = .ok (.aload_n 0, 1) := by decide +kernel
theorem dW_copy_25 : decode cW_copy 25 = .ok (.aload_n 1, 1) := by decide +kernel
theorem dW_copy_26 : decode cW_copy 26 = .ok (.getfield 32, 3) := by decide +kernel
theorem dW_copy_29 : decode cW_copy 29 = .ok (.putfield 32, 3) := by decide +kernel
theorem dW_copy_32 : decode cW_copy 32 = .ok (.aload_n 0, 1) := by decide +kernel
theorem dW_copy_33 : decode cW_copy 33 = .ok (.aload_n 1, 1) := by decide +kernel
theorem dW_copy_34 : decode cW_copy 34 = .ok (.getfield 36, 3) := by decide +kernel
theorem dW_copy_37 : decode cW_copy 37 = .ok (.putfield 36, 3) := by decide +kernel
theorem dW_copy_40 : decode cW_copy 40 = .ok (.return_, 1) := by decide +kernel
theorem dW_isNothing_0 : decode cW_isNothing 0 = .ok (.aload_n 0, 1) := by decide +kernel
theorem dW_isNothing_1 : decode cW_isNothing 1 = .ok (.getfield 15, 3) := by decide +kernel
theorem dW_isNothing_4 : decode cW_isNothing 4 = .ok (.lconst 0, 1) := by decide +kernel
theorem dW_isNothing_5 : decode cW_isNothing 5 = .ok (.lcmp, 1) := by decide +kernel
theorem dW_isNothing_6 : decode cW_isNothing 6 = .ok (.ifCond .ne 16, 3) := by decide +kernel
theorem dW_isNothing_9 : decode cW_isNothing 9 = .ok (.aload_n 0, 1) := by decide +kernel
theorem dW_isNothing_10 : decode cW_isNothing 10 = .ok (.getfield 21, 3) := by decide +kernel
theorem dW_isNothing_13 : decode cW_isNothing 13 = .ok (.lconst 0, 1) := by decide +kernel
theorem dW_isNothing_14 : decode cW_isNothing 14 = .ok (.lcmp, 1) := by decide +kernel
theorem dW_isNothing_15 : decode cW_isNothing 15 = .ok (.ifCond .ne 7, 3) := by decide +kernel
theorem dW_isNothing_18 : decode cW_isNothing 18 = .ok (.iconst 1, 1) := by decide +kernel
theorem dW_isNothing_19 : decode cW_isNothing 19 = .ok (.goto 4, 3) := by decide +kernel
theorem dW_isNothing_22 : decode cW_isNothing 22 = .ok (.iconst 0, 1) := by decide +kernel
theorem dW_isNothing_23 : decode cW_isNothing 23 = .ok (.ireturn, 1) := by decide +kernel
theorem dW_lift_0 : decode cW_lift 0 = .ok (.aload_n 0, 1) := by decide +kernel
theorem dW_lift_1 : decode cW_lift 1 = .ok (.getfield 15, 3) := by decide +kernel
theorem dW_lift_4 : decode cW_lift 4 = .ok (.lconst 0, 1) := by decide +kernel
theorem dW_lift_5 : decode cW_lift 5 = .ok (.lcmp, 1) := by decide +kernel
theorem dW_lift_6 : decode cW_lift 6 = .ok (.ifCond .eq 16, 3) := by decide +kernel
theorem dW_lift_9 : decode cW_lift 9 = .ok (.bipush 64, 2) := by decide +kernel
theorem dW_lift_11 : decode cW_lift 11 = .ok (.aload_n 0, 1) := by decide +kernel
theorem dW_lift_12 : decode cW_lift 12 = .ok (.getfield 15, 3) := by decide +kernel
theorem dW_lift_15 : decode cW_lift 15 = .ok (.invokestatic 39, 3) := by decide +kernel
theorem dW_lift_18 : decode cW_lift 18 = .ok (.iadd, 1) := by decide +kernel
theorem dW_lift_19 : decode cW_lift 19 = .ok (.goto 10, 3) := by decide +kernel
theorem dW_lift_22 : decode cW_lift 22 = .ok (.aload_n 0, 1) := by decide +kernel
theorem dW_lift_23 : decode cW_lift 23 = .ok (.getfield 21, 3) := by decide +kernel
theorem dW_lift_26 : decode cW_lift 26 = .ok (.invokestatic 39, 3) := by decide +kernel
theorem dW_lift_29 : decode cW_lift 29 = .ok (.istore_n 1, 1) := by decide +kernel
theorem dW_lift_30 : decode cW_lift 30 = .ok (.bipush 126, 2) := by decide +kernel
theorem dW_lift_32 : decode cW_lift 32 = .ok (.iload_n 1, 1) := by decide +kernel
theorem dW_lift_33 : decode cW_lift 33 = .ok (.isub, 1) := by decide +kernel
theorem dW_lift_34 : decode cW_lift 34 = .ok (.istore_n 2, 1) := by decide +kernel
theorem dW_lift_35 : decode cW_lift 35 = .ok (.iload_n 1, 1) := by decide +kernel
theorem dW_lift_36 : decode cW_lift 36 = .ok (.ifCond .eq 7, 3) := by decide +kernel
theorem dW_lift_39 : decode cW_lift 39 = .ok (.iload_n 2, 1) := by decide +kernel
theorem dW_lift_40 : decode cW_lift 40 = .ok (.ifCond .gt 4, 3) := by decide +kernel
theorem dW_lift_43 : decode cW_lift 43 = .ok (.return_, 1) := by decide +kernel
theorem dW_lift_44 : decode cW_lift 44 = .ok (.iload_n 2, 1) := by decide +kernel
theorem dW_lift_45 : decode cW_lift 45 = .ok (.bipush 64, 2) := by decide +kernel
theorem dW_lift_47 : decode cW_lift 47 = .ok (.if_icmp .lt 24, 3) := by decide +kernel
theorem dW_lift_50 : decode cW_lift 50 = .ok (.aload_n 0, 1) := by decide +kernel
theorem dW_lift_51 : decode cW_lift 51 = .ok (.aload_n 0, 1) := by decide +kernel
theorem dW_lift_52 : decode cW_lift 52 = .ok (.getfield 21, 3) := by decide +kernel
theorem dW_lift_55 : decode cW_lift 55 = .ok (.iload_n 2, 1) := by decide +kernel
theorem dW_lift_56 : decode cW_lift 56 = .ok (.bipush 64, 2) := by decide +kernel
theorem dW_lift_58 : decode cW_lift 58 = .ok (.isub, 1) := by decide +kernel
theorem dW_lift_59 : decode cW_lift 59 = .ok (.lshl, 1) := by decide +kernel
theorem dW_lift_60 : decode cW_lift 60 = .ok (.putfield 15, 3) := by decide +kernel
theorem dW_lift_63 : decode cW_lift 63 = .ok (.aload_n 0, 1) := by decide +kernel
theorem dW_lift_64 : decode cW_lift 64 = .ok (.lconst 0, 1) := by decide +kernel
theorem dW_lift_65 : decode cW_lift 65 = .ok (.putfield 21, 3) := by decide +kernel
theorem dW_lift_68 : decode cW_lift 68 = .ok (.goto 33, 3) := by decide +kernel
theorem dW_lift_71 : decode cW_lift 71 = .ok (.aload_n 0, 1) := by decide +kernel
theorem dW_lift_72 : decode cW_lift 72 = .ok (.aload_n 0, 1) := by decide +kernel
theorem dW_lift_73 : decode cW_lift 73 = .ok (.getfield 15, 3) := by decide +kernel
theorem dW_lift_76 : decode cW_lift 76 = .ok (.iload_n 2, 1) := by decide +kernel
theorem dW_lift_77 : decode cW_lift 77 = .ok (.lshl, 1) := by decide +kernel
theorem dW_lift_78 : decode cW_lift 78 = .ok (.aload_n 0, 1) := by decide +kernel
theorem dW_lift_79 : decode cW_lift 79 = .ok (.getfield 21, 3) := by decide +kernel
theorem dW_lift_82 : decode cW_lift 82 = .ok (.bipush 64, 2) := by decide +kernel
theorem dW_lift_84 : decode cW_lift 84 = .ok (.iload_n 2, 1) := by decide +kernel
theorem dW_lift_85 : decode cW_lift 85 = .ok (.isub, 1) := by decide +kernel
theorem dW_lift_86 : decode cW_lift 86 = .ok (.lushr, 1) := by decide +kernel
theorem dW_lift_87 : decode cW_lift 87 = .ok (.lor, 1) := by decide +kernel
theorem dW_lift_88 : decode cW_lift 88 = .ok (.putfield 15, 3) := by decide +kernel
theorem dW_lift_91 : decode cW_lift 91 = .ok (.aload_n 0, 1) := by decide +kernel
theorem dW_lift_92 : decode cW_lift 92 = .ok (.dup, 1) := by decide +kernel
theorem dW_lift_93 : decode cW_lift 93 = .ok (.getfield 21, 3) := by decide +kernel
theorem dW_lift_96 : decode cW_lift 96 = .ok (.iload_n 2, 1) := by decide +kernel
theorem dW_lift_97 : decode cW_lift 97 = .ok (.lshl, 1) := by decide +kernel
theorem dW_lift_98 : decode cW_lift 98 = .ok (.putfield 21, 3) := by decide +kernel
theorem dW_lift_101 : decode cW_lift 101 = .ok (.aload_n 0, 1) := by decide +kernel
theorem dW_lift_102 : decode cW_lift 102 = .ok (.dup, 1) := by decide +kernel
theorem dW_lift_103 : decode cW_lift 103 = .ok (.getfield 28, 3) := by decide +kernel
theorem dW_lift_106 : decode cW_lift 106 = .ok (.iload_n 2, 1) := by decide +kernel
theorem dW_lift_107 : decode cW_lift 107 = .ok (.isub, 1) := by decide +kernel
theorem dW_lift_108 : decode cW_lift 108 = .ok (.putfield 28, 3) := by decide +kernel
theorem dW_lift_111 : decode cW_lift 111 = .ok (.return_, 1) := by decide +kernel
theorem dW_sink_0 : decode cW_sink 0 = .ok (.iload_n 1, 1) := by decide +kernel
theorem dW_sink_1 : decode cW_sink 1 = .ok (.ifCond .gt 4, 3) := by decide +kernel
theorem dW_sink_4 : decode cW_sink 4 = .ok (.return_, 1) := by decide +kernel
theorem dW_sink_5 : decode cW_sink 5 = .ok (.aload_n 0, 1) := by decide +kernel
theorem dW_sink_6 : decode cW_sink 6 = .ok (.dup, 1) := by decide +kernel
theorem dW_sink_7 : decode cW_sink 7 = .ok (.getfield 28, 3) := by decide +kernel
theorem dW_sink_10 : decode cW_sink 10 = .ok (.iload_n 1, 1) := by decide +kernel
theorem dW_sink_11 : decode cW_sink 11 = .ok (.iadd, 1) := by decide +kernel
theorem dW_sink_12 : decode cW_sink 12 = .ok (.putfield 28, 3) := by decide +kernel
theorem dW_sink_15 : decode cW_sink 15 = .ok (.iload_n 1, 1) := by decide +kernel
theorem dW_sink_16 : decode cW_sink 16 = .ok (.sipush 128, 3) := by decide +kernel
theorem dW_sink_19 : decode cW_sink 19 = .ok (.if_icmp .lt 39, 3) := by decide +kernel
theorem dW_sink_22 : decode cW_sink 22 = .ok (.aload_n 0, 1) := by decide +kernel
theorem dW_sink_23 : decode cW_sink 23 = .ok (.aload_n 0, 1) := by decide +kernel
theorem dW_sink_24 : decode cW_sink 24 = .ok (.getfield 36, 3) := by decide +kernel
theorem dW_sink_27 : decode cW_sink 27 = .ok (.ifCond .ne 10, 3) := by decide +kernel
theorem dW_sink_30 : decode cW_sink 30 = .ok (.aload_n 0, 1) := by decide +kernel
theorem dW_sink_31 : decode cW_sink 31 = .ok (.invokevirtual 42, 3) := by decide +kernel
theorem dW_sink_34 : decode cW_sink 34 = .ok (.ifCond .ne 7, 3) := by decide +kernel
theorem dW_sink_37 : decode cW_sink 37 = .ok (.iconst 1, 1) := by decide +kernel
theorem dW_sink_38 : decode cW_sink 38 = .ok (.goto 4, 3) := by decide +kernel
theorem dW_sink_41 : decode cW_sink 41 = .ok (.iconst 0, 1) := by decide +kernel
theorem dW_sink_42 : decode cW_sink 42 = .ok (.putfield 36, 3) := by decide +kernel
theorem dW_sink_45 : decode cW_sink 45 = .ok (.aload_n 0, 1) := by decide +kernel
theorem dW_sink_46 : decode cW_sink 46 = .ok (.lconst 0, 1) := by decide +kernel
theorem dW_sink_47 : decode cW_sink 47 = .ok (.putfield 15, 3) := by decide +kernel
theorem dW_sink_50 : decode cW_sink 50 = .ok (.aload_n 0, 1) := by decide +kernel
theorem dW_sink_51 : decode cW_sink 51 = .ok (.lconst 0, 1) := by decide +kernel
theorem dW_sink_52 : decode cW_sink 52 = .ok (.putfield 21, 3) := by decide +kernel
theorem dW_sink_55 : decode cW_sink 55 = .ok (.goto 135, 3) := by decide +kernel
theorem dW_sink_58 : decode cW_sink 58 = .ok (.iload_n 1, 1) := by decide +kernel
theorem dW_sink_59 : decode cW_sink 59 = .ok (.bipush 64, 2) := by decide +kernel
theorem dW_sink_61 : decode cW_sink 61 = .ok (.if_icmp .lt 67, 3) := by decide +kernel
theorem dW_sink_64 : decode cW_sink 64 = .ok (.iload_n 1, 1) := by decide +kernel
theorem dW_sink_65 : decode cW_sink 65 = .ok (.bipush 64, 2) := by decide +kernel
theorem dW_sink_67 : decode cW_sink 67 = .ok (.isub, 1) := by decide +kernel
theorem dW_sink_68 : decode cW_sink 68 = .ok (.istore_n 2, 1) := by decide +kernel
theorem dW_sink_69 : decode cW_sink 69 = .ok (.aload_n 0, 1) := by decide +kernel
theorem dW_sink_70 : decode cW_sink 70 = .ok (.aload_n 0, 1) := by decide +kernel
theorem dW_sink_71 : decode cW_sink 71 = .ok (.getfield 36, 3) := by decide +kernel
theorem dW_sink_74 : decode cW_sink 74 = .ok (.ifCond .ne 28, 3) := by decide +kernel
theorem dW_sink_77 : decode cW_sink 77 = .ok (.aload_n 0, 1) := by decide +kernel
theorem dW_sink_78 : decode cW_sink 78 = .ok (.getfield 21, 3) := by decide +kernel
theorem dW_sink_81 : decode cW_sink 81 = .ok (.lconst 0, 1) := by decide +kernel
theorem dW_sink_82 : decode cW_sink 82 = .ok (.lcmp, 1) := by decide +kernel
theorem dW_sink_83 : decode cW_sink 83 = .ok (.ifCond .ne 19, 3) := by decide +kernel
theorem dW_sink_86 : decode cW_sink 86 = .ok (.aload_n 0, 1) := by decide +kernel
theorem dW_sink_87 : decode cW_sink 87 = .ok (.getfield 15, 3) := by decide +kernel
theorem dW_sink_90 : decode cW_sink 90 = .ok (.iload_n 2, 1) := by decide +kernel
theorem dW_sink_91 : decode cW_sink 91 = .ok (.lushr, 1) := by decide +kernel
theorem dW_sink_92 : decode cW_sink 92 = .ok (.iload_n 2, 1) := by decide +kernel
theorem dW_sink_93 : decode cW_sink 93 = .ok (.lshl, 1) := by decide +kernel
theorem dW_sink_94 : decode cW_sink 94 = .ok (.aload_n 0, 1) := by decide +kernel
theorem dW_sink_95 : decode cW_sink 95 = .ok (.getfield 15, 3) := by decide +kernel
theorem dW_sink_98 : decode cW_sink 98 = .ok (.lcmp, 1) := by decide +kernel
theorem dW_sink_99 : decode cW_sink 99 = .ok (.ifCond .eq 7, 3) := by decide +kernel
theorem dW_sink_102 : decode cW_sink 102 = .ok (.iconst 1, 1) := by decide +kernel
theorem dW_sink_103 : decode cW_sink 103 = .ok (.goto 4, 3) := by decide +kernel
theorem dW_sink_106 : decode cW_sink 106 = .ok (.iconst 0, 1) := by decide +kernel
theorem dW_sink_107 : decode cW_sink 107 = .ok (.putfield 36, 3) := by decide +kernel
theorem dW_sink_110 : decode cW_sink 110 = .ok (.aload_n 0, 1) := by decide +kernel
theorem dW_sink_111 : decode cW_sink 111 = .ok (.aload_n 0, 1) := by decide +kernel
theorem dW_sink_112 : decode cW_sink 112 = .ok (.getfield 15, 3) := by decide +kernel
theorem dW_sink_115 : decode cW_sink 115 = .ok (.iload_n 2, 1) := by decide +kernel
theorem dW_sink_116 : decode cW_sink 116 = .ok (.lushr, 1) := by decide +kernel
theorem dW_sink_117 : decode cW_sink 117 = .ok (.putfield 21, 3) := by decide +kernel
theorem dW_sink_120 : decode cW_sink 120 = .ok (.aload_n 0, 1) := by decide +kernel
theorem dW_sink_121 : decode cW_sink 121 = .ok (.lconst 0, 1) := by decide +kernel
theorem dW_sink_122 : decode cW_sink 122 = .ok (.putfield 15, 3) := by decide +kernel
theorem dW_sink_125 : decode cW_sink 125 = .ok (.goto 65, 3) := by decide +kernel
theorem dW_sink_128 : decode cW_sink 128 = .ok (.aload_n 0, 1) := by decide +kernel
theorem dW_sink_129 : decode cW_sink 129 = .ok (.aload_n 0, 1) := by decide +kernel
theorem dW_sink_130 : decode cW_sink 130 = .ok (.getfield 36, 3) := by decide +kernel
theorem dW_sink_133 : decode cW_sink 133 = .ok (.ifCond .ne 19, 3) := by decide +kernel
theorem dW_sink_136 : decode cW_sink 136 = .ok (.aload_n 0, 1) := by decide +kernel
theorem dW_sink_137 : decode cW_sink 137 = .ok (.getfield 21, 3) := by decide +kernel
theorem dW_sink_140 : decode cW_sink 140 = .ok (.iload_n 1, 1) := by decide +kernel
theorem dW_sink_141 : decode cW_sink 141 = .ok (.lushr, 1) := by decide +kernel
theorem dW_sink_142 : decode cW_sink 142 = .ok (.iload_n 1, 1) := by decide +kernel
theorem dW_sink_143 : decode cW_sink 143 = .ok (.lshl, 1) := by decide +kernel
theorem dW_sink_144 : decode cW_sink 144 = .ok (.aload_n 0, 1) := by decide +kernel
theorem dW_sink_145 : decode cW_sink 145 = .ok (.getfield 21, 3) := by decide +kernel
theorem dW_sink_148 : decode cW_sink 148 = .ok (.lcmp, 1) := by decide +kernel
theorem dW_sink_149 : decode cW_sink 149 = .ok (.ifCond .eq 7, 3) := by decide +kernel
theorem dW_sink_152 : decode cW_sink 152 = .ok (.iconst 1, 1) := by decide +kernel
theorem dW_sink_153 : decode cW_sink 153 = .ok (.goto 4, 3) := by decide +kernel
theorem dW_sink_156 : decode cW_sink 156 = .ok (.iconst 0, 1) := by decide +kernel
theorem dW_sink_157 : decode cW_sink 157 = .ok (.putfield 36, 3) := by decide +kernel
theorem dW_sink_160 : decode cW_sink 160 = .ok (.aload_n 0, 1) := by decide +kernel
theorem dW_sink_161 : decode cW_sink 161 = .ok (.aload_n 0, 1) := by decide +kernel
theorem dW_sink_162 : decode cW_sink 162 = .ok (.getfield 21, 3) := by decide +kernel
theorem dW_sink_165 : decode cW_sink 165 = .ok (.iload_n 1, 1) := by decide +kernel
theorem dW_sink_166 : decode cW_sink 166 = .ok (.lushr, 1) := by decide +kernel
theorem dW_sink_167 : decode cW_sink 167 = .ok (.aload_n 0, 1) := by decide +kernel
theorem dW_sink_168 : decode cW_sink 168 = .ok (.getfield 15, 3) := by decide +kernel
theorem dW_sink_171 : decode cW_sink 171 = .ok (.bipush 64, 2) := by decide +kernel
theorem dW_sink_173 : decode cW_sink 173 = .ok (.iload_n 1, 1) := by decide +kernel
theorem dW_sink_174 : decode cW_sink 174 = .ok (.isub, 1) := by decide +kernel
theorem dW_sink_175 : decode cW_sink 175 = .ok (.lshl, 1) := by decide +kernel
theorem dW_sink_176 : decode cW_sink 176 = .ok (.lor, 1) := by decide +kernel
theorem dW_sink_177 : decode cW_sink 177 = .ok (.putfield 21, 3) := by decide +kernel
theorem dW_sink_180 : decode cW_sink 180 = .ok (.aload_n 0, 1) := by decide +kernel
theorem dW_sink_181 : decode cW_sink 181 = .ok (.dup, 1) := by decide +kernel
theorem dW_sink_182 : decode cW_sink 182 = .ok (.getfield 15, 3) := by decide +kernel
theorem dW_sink_185 : decode cW_sink 185 = .ok (.iload_n 1, 1) := by decide +kernel
theorem dW_sink_186 : decode cW_sink 186 = .ok (.lushr, 1) := by decide +kernel
theorem dW_sink_187 : decode cW_sink 187 = .ok (.putfield 15, 3) := by decide +kernel
theorem dW_sink_190 : decode cW_sink 190 = .ok (.return_, 1) := by decide +kernel
theorem dW_join_0 : decode cW_join 0 = .ok (.aload_n 1, 1) := by decide +kernel
theorem dW_join_1 : decode cW_join 1 = .ok (.invokevirtual 42, 3) := by decide +kernel
theorem dW_join_4 : decode cW_join 4 = .ok (.ifCond .eq 4, 3) := by decide +kernel
theorem dW_join_7 : decode cW_join 7 = .ok (.return_, 1) := by decide +kernel
theorem dW_join_8 : decode cW_join 8 = .ok (.aload_n 0, 1) := by decide +kernel
theorem dW_join_9 : decode cW_join 9 = .ok (.invokevirtual 42, 3) := by decide +kernel
theorem dW_join_12 : decode cW_join 12 = .ok (.ifCond .eq 9, 3) := by decide +kernel
theorem dW_join_15 : decode cW_join 15 = .ok (.aload_n 0, 1) := by decide +kernel
theorem dW_join_16 : decode cW_join 16 = .ok (.aload_n 1, 1) := by decide +kernel
theorem dW_join_17 : decode cW_join 17 = .ok (.invokevirtual 46, 3) := by decide +kernel
theorem dW_join_20 : decode cW_join 20 = .ok (.return_, 1) := by decide +kernel
theorem dW_join_21 : decode cW_join 21 = .ok (.aload_n 0, 1) := by decide +kernel
theorem dW_join_22 : decode cW_join 22 = .ok (.invokevirtual 50, 3) := by decide +kernel
theorem dW_join_25 : decode cW_join 25 = .ok (.aload_n 1, 1) := by decide +kernel
theorem dW_join_26 : decode cW_join 26 = .ok (.invokevirtual 50, 3) := by decide +kernel
theorem dW_join_29 : decode cW_join 29 = .ok (.aload_n 0, 1) := by decide +kernel
theorem dW_join_30 : decode cW_join 30 = .ok (.getfield 28, 3) := by decide +kernel
theorem dW_join_33 : decode cW_join 33 = .ok (.aload_n 1, 1) := by decide +kernel
theorem dW_join_34 : decode cW_join 34 = .ok (.getfield 28, 3) := by decide +kernel
theorem dW_join_37 : decode cW_join 37 = .ok (.isub, 1) := by decide +kernel
theorem dW_join_38 : decode cW_join 38 = .ok (.istore_n 2, 1) := by decide +kernel
theorem dW_join_39 : decode cW_join 39 = .ok (.aload_n 1, 1) := by decide +kernel
theorem dW_join_40 : decode cW_join 40 = .ok (.iload_n 2, 1) := by decide +kernel
theorem dW_join_41 : decode cW_join 41 = .ok (.invokevirtual 53, 3) := by decide +kernel
theorem dW_join_44 : decode cW_join 44 = .ok (.aload_n 0, 1) := by decide +kernel
theorem dW_join_45 : decode cW_join 45 = .ok (.iload_n 2, 1) := by decide +kernel
theorem dW_join_46 : decode cW_join 46 = .ok (.ineg, 1) := by decide +kernel
theorem dW_join_47 : decode cW_join 47 = .ok (.invokevirtual 53, 3) := by decide +kernel
theorem dW_join_50 : decode cW_join 50 = .ok (.aload_n 0, 1) := by decide +kernel
theorem dW_join_51 : decode cW_join 51 = .ok (.getfield 32, 3) := by decide +kernel
theorem dW_join_54 : decode cW_join 54 = .ok (.aload_n 1, 1) := by decide +kernel
theorem dW_join_55 : decode cW_join 55 = .ok (.getfield 32, 3) := by decide +kernel
theorem dW_join_58 : decode cW_join 58 = .ok (.if_icmp .ne 11, 3) := by decide +kernel
theorem dW_join_61 : decode cW_join 61 = .ok (.aload_n 0, 1) := by decide +kernel
theorem dW_join_62 : decode cW_join 62 = .ok (.aload_n 1, 1) := by decide +kernel
theorem dW_join_63 : decode cW_join 63 = .ok (.invokevirtual 57, 3) := by decide +kernel
theorem dW_join_66 : decode cW_join 66 = .ok (.goto 29, 3) := by decide +kernel
theorem dW_join_69 : decode cW_join 69 = .ok (.aload_n 0, 1) := by decide +kernel
theorem dW_join_70 : decode cW_join 70 = .ok (.aload_n 1, 1) := by decide +kernel
theorem dW_join_71 : decode cW_join 71 = .ok (.invokevirtual 60, 3) := by decide +kernel
theorem dW_join_74 : decode cW_join 74 = .ok (.ifCond .eq 16, 3) := by decide +kernel
theorem dW_join_77 : decode cW_join 77 = .ok (.aload_n 1, 1) := by decide +kernel
theorem dW_join_78 : decode cW_join 78 = .ok (.aload_n 0, 1) := by decide +kernel
theorem dW_join_79 : decode cW_join 79 = .ok (.invokevirtual 64, 3) := by decide +kernel
theorem dW_join_82 : decode cW_join 82 = .ok (.aload_n 0, 1) := by decide +kernel
theorem dW_join_83 : decode cW_join 83 = .ok (.aload_n 1, 1) := by decide +kernel
theorem dW_join_84 : decode cW_join 84 = .ok (.invokevirtual 46, 3) := by decide +kernel
theorem dW_join_87 : decode cW_join 87 = .ok (.goto 8, 3) := by decide +kernel
theorem dW_join_90 : decode cW_join 90 = .ok (.aload_n 0, 1) := by decide +kernel
theorem dW_join_91 : decode cW_join 91 = .ok (.aload_n 1, 1) := by decide +kernel
theorem dW_join_92 : decode cW_join 92 = .ok (.invokevirtual 64, 3) := by decide +kernel
theorem dW_join_95 : decode cW_join 95 = .ok (.return_, 1) := by decide +kernel
theorem dW_isBelow_0 : decode cW_isBelow 0 = .ok (.aload_n 0, 1) := by decide +kernel
theorem dW_isBelow_1 : decode cW_isBelow 1 = .ok (.getfield 15, 3) := by decide +kernel
theorem dW_isBelow_4 : decode cW_isBelow 4 = .ok (.aload_n 1, 1) := by decide +kernel
theorem dW_isBelow_5 : decode cW_isBelow 5 = .ok (.getfield 15, 3) := by decide +kernel
theorem dW_isBelow_8 : decode cW_isBelow 8 = .ok (.lcmp, 1) := by decide +kernel
theorem dW_isBelow_9 : decode cW_isBelow 9 = .ok (.ifCond .eq 23, 3) := by decide +kernel
theorem dW_isBelow_12 : decode cW_isBelow 12 = .ok (.aload_n 0, 1) := by decide +kernel
theorem dW_isBelow_13 : decode cW_isBelow 13 = .ok (.getfield 15, 3) := by decide +kernel
theorem dW_isBelow_16 : decode cW_isBelow 16 = .ok (.aload_n 1, 1) := by decide +kernel
theorem dW_isBelow_17 : decode cW_isBelow 17 = .ok (.getfield 15, 3) := by decide +kernel
theorem dW_isBelow_20 : decode cW_isBelow 20 = .ok (.lcmp, 1) := by decide +kernel
theorem dW_isBelow_21 : decode cW_isBelow 21 = .ok (.ifCond .ge 7, 3) := by decide +kernel
theorem dW_isBelow_24 : decode cW_isBelow 24 = .ok (.iconst 1, 1) := by decide +kernel
theorem dW_isBelow_25 : decode cW_isBelow 25 = .ok (.goto 18, 3) := by decide +kernel
theorem dW_isBelow_28 : decode cW_isBelow 28 = .ok (.iconst 0, 1) := by decide +kernel
theorem dW_isBelow_29 : decode cW_isBelow 29 = .ok (.goto 14, 3) := by decide +kernel
theorem dW_isBelow_32 : decode cW_isBelow 32 = .ok (.aload_n 0, 1) := by decide +kernel
theorem dW_isBelow_33 : decode cW_isBelow 33 = .ok (.getfield 21, 3) := by decide +kernel
theorem dW_isBelow_36 : decode cW_isBelow 36 = .ok (.aload_n 1, 1) := by decide +kernel
theorem dW_isBelow_37 : decode cW_isBelow 37 = .ok (.getfield 21, 3) := by decide +kernel
theorem dW_isBelow_40 : decode cW_isBelow 40 = .ok (.invokestatic 67, 3) := by decide +kernel
theorem dW_isBelow_43 : decode cW_isBelow 43 = .ok (.ireturn, 1) := by decide +kernel
theorem dW_raise_0 : decode cW_raise 0 = .ok (.aload_n 0, 1) := by decide +kernel
theorem dW_raise_1 : decode cW_raise 1 = .ok (.dup, 1) := by decide +kernel
theorem dW_raise_2 : decode cW_raise 2 = .ok (.getfield 21, 3) := by decide +kernel
theorem dW_raise_5 : decode cW_raise 5 = .ok (.aload_n 1, 1) := by decide +kernel
theorem dW_raise_6 : decode cW_raise 6 = .ok (.getfield 21, 3) := by decide +kernel
theorem dW_raise_9 : decode cW_raise 9 = .ok (.ladd, 1) := by decide +kernel
theorem dW_raise_10 : decode cW_raise 10 = .ok (.putfield 21, 3) := by decide +kernel
theorem dW_raise_13 : decode cW_raise 13 = .ok (.aload_n 0, 1) := by decide +kernel
theorem dW_raise_14 : decode cW_raise 14 = .ok (.dup, 1) := by decide +kernel
theorem dW_raise_15 : decode cW_raise 15 = .ok (.getfield 15, 3) := by decide +kernel
theorem dW_raise_18 : decode cW_raise 18 = .ok (.aload_n 1, 1) := by decide +kernel
theorem dW_raise_19 : decode cW_raise 19 = .ok (.getfield 15, 3) := by decide +kernel
theorem dW_raise_22 : decode cW_raise 22 = .ok (.aload_n 0, 1) := by decide +kernel
theorem dW_raise_23 : decode cW_raise 23 = .ok (.getfield 21, 3) := by decide +kernel
theorem dW_raise_26 : decode cW_raise 26 = .ok (.aload_n 1, 1) := by decide +kernel
theorem dW_raise_27 : decode cW_raise 27 = .ok (.getfield 21, 3) := by decide +kernel
theorem dW_raise_30 : decode cW_raise 30 = .ok (.invokestatic 67, 3) := by decide +kernel
theorem dW_raise_33 : decode cW_raise 33 = .ok (.ifCond .eq 7, 3) := by decide +kernel
theorem dW_raise_36 : decode cW_raise 36 = .ok (.iconst 1, 1) := by decide +kernel
theorem dW_raise_37 : decode cW_raise 37 = .ok (.goto 4, 3) := by decide +kernel
theorem dW_raise_40 : decode cW_raise 40 = .ok (.iconst 0, 1) := by decide +kernel
theorem dW_raise_41 : decode cW_raise 41 = .ok (.i2l, 1) := by decide +kernel
theorem dW_raise_42 : decode cW_raise 42 = .ok (.ladd, 1) := by decide +kernel
theorem dW_raise_43 : decode cW_raise 43 = .ok (.ladd, 1) := by decide +kernel
theorem dW_raise_44 : decode cW_raise 44 = .ok (.putfield 15, 3) := by decide +kernel
theorem dW_raise_47 : decode cW_raise 47 = .ok (.aload_n 0, 1) := by decide +kernel
theorem dW_raise_48 : decode cW_raise 48 = .ok (.aload_n 0, 1) := by decide +kernel
theorem dW_raise_49 : decode cW_raise 49 = .ok (.getfield 36, 3) := by decide +kernel
theorem dW_raise_52 : decode cW_raise 52 = .ok (.ifCond .ne 10, 3) := by decide +kernel
theorem dW_raise_55 : decode cW_raise 55 = .ok (.aload_n 1, 1) := by decide +kernel
theorem dW_raise_56 : decode cW_raise 56 = .ok (.getfield 36, 3) := by decide +kernel
theorem dW_raise_59 : decode cW_raise 59 = .ok (.ifCond .eq 7, 3) := by decide +kernel
theorem dW_raise_62 : decode cW_raise 62 = .ok (.iconst 1, 1) := by decide +kernel
theorem dW_raise_63 : decode cW_raise 63 = .ok (.goto 4, 3) := by decide +kernel
theorem dW_raise_66 : decode cW_raise 66 = .ok (.iconst 0, 1) := by decide +kernel
theorem dW_raise_67 : decode cW_raise 67 = .ok (.putfield 36, 3) := by decide +kernel
theorem dW_raise_70 : decode cW_raise 70 = .ok (.return_, 1) := by decide +kernel
theorem dW_lower_0 : decode cW_lower 0 = .ok (.aload_n 0, 1) := by decide +kernel
theorem dW_lower_1 : decode cW_lower 1 = .ok (.dup, 1) := by decide +kernel
theorem dW_lower_2 : decode cW_lower 2 = .ok (.getfield 15, 3) := by decide +kernel
theorem dW_lower_5 : decode cW_lower 5 = .ok (.aload_n 1, 1) := by decide +kernel
theorem dW_lower_6 : decode cW_lower 6 = .ok (.getfield 15, 3) := by decide +kernel
theorem dW_lower_9 : decode cW_lower 9 = .ok (.aload_n 0, 1) := by decide +kernel
theorem dW_lower_10 : decode cW_lower 10 = .ok (.getfield 21, 3) := by decide +kernel
theorem dW_lower_13 : decode cW_lower 13 = .ok (.aload_n 1, 1) := by decide +kernel
theorem dW_lower_14 : decode cW_lower 14 = .ok (.getfield 21, 3) := by decide +kernel
theorem dW_lower_17 : decode cW_lower 17 = .ok (.invokestatic 67, 3) := by decide +kernel
theorem dW_lower_20 : decode cW_lower 20 = .ok (.ifCond .eq 7, 3) := by decide +kernel
theorem dW_lower_23 : decode cW_lower 23 = .ok (.iconst 1, 1) := by decide +kernel
theorem dW_lower_24 : decode cW_lower 24 = .ok (.goto 4, 3) := by decide +kernel
theorem dW_lower_27 : decode cW_lower 27 = .ok (.iconst 0, 1) := by decide +kernel
theorem dW_lower_28 : decode cW_lower 28 = .ok (.i2l, 1) := by decide +kernel
theorem dW_lower_29 : decode cW_lower 29 = .ok (.ladd, 1) := by decide +kernel
theorem dW_lower_30 : decode cW_lower 30 = .ok (.lsub, 1) := by decide +kernel
theorem dW_lower_31 : decode cW_lower 31 = .ok (.putfield 15, 3) := by decide +kernel
theorem dW_lower_34 : decode cW_lower 34 = .ok (.aload_n 0, 1) := by decide +kernel
theorem dW_lower_35 : decode cW_lower 35 = .ok (.dup, 1) := by decide +kernel
theorem dW_lower_36 : decode cW_lower 36 = .ok (.getfield 21, 3) := by decide +kernel
theorem dW_lower_39 : decode cW_lower 39 = .ok (.aload_n 1, 1) := by decide +kernel
theorem dW_lower_40 : decode cW_lower 40 = .ok (.getfield 21, 3) := by decide +kernel
theorem dW_lower_43 : decode cW_lower 43 = .ok (.lsub, 1) := by decide +kernel
theorem dW_lower_44 : decode cW_lower 44 = .ok (.putfield 21, 3) := by decide +kernel
theorem dW_lower_47 : decode cW_lower 47 = .ok (.aload_n 1, 1) := by decide +kernel
theorem dW_lower_48 : decode cW_lower 48 = .ok (.getfield 36, 3) := by decide +kernel
theorem dW_lower_51 : decode cW_lower 51 = .ok (.ifCond .eq 41, 3) := by decide +kernel
theorem dW_lower_54 : decode cW_lower 54 = .ok (.aload_n 0, 1) := by decide +kernel
theorem dW_lower_55 : decode cW_lower 55 = .ok (.dup, 1) := by decide +kernel
theorem dW_lower_56 : decode cW_lower 56 = .ok (.getfield 15, 3) := by decide +kernel
theorem dW_lower_59 : decode cW_lower 59 = .ok (.aload_n 0, 1) := by decide +kernel
theorem dW_lower_60 : decode cW_lower 60 = .ok (.getfield 21, 3) := by decide +kernel
theorem dW_lower_63 : decode cW_lower 63 = .ok (.lconst 0, 1) := by decide +kernel
theorem dW_lower_64 : decode cW_lower 64 = .ok (.lcmp, 1) := by decide +kernel
theorem dW_lower_65 : decode cW_lower 65 = .ok (.ifCond .ne 7, 3) := by decide +kernel
theorem dW_lower_68 : decode cW_lower 68 = .ok (.lconst 1, 1) := by decide +kernel
theorem dW_lower_69 : decode cW_lower 69 = .ok (.goto 4, 3) := by decide +kernel
theorem dW_lower_72 : decode cW_lower 72 = .ok (.lconst 0, 1) := by decide +kernel
theorem dW_lower_73 : decode cW_lower 73 = .ok (.lsub, 1) := by decide +kernel
theorem dW_lower_74 : decode cW_lower 74 = .ok (.putfield 15, 3) := by decide +kernel
theorem dW_lower_77 : decode cW_lower 77 = .ok (.aload_n 0, 1) := by decide +kernel
theorem dW_lower_78 : decode cW_lower 78 = .ok (.dup, 1) := by decide +kernel
theorem dW_lower_79 : decode cW_lower 79 = .ok (.getfield 21, 3) := by decide +kernel
theorem dW_lower_82 : decode cW_lower 82 = .ok (.lconst 1, 1) := by decide +kernel
theorem dW_lower_83 : decode cW_lower 83 = .ok (.lsub, 1) := by decide +kernel
theorem dW_lower_84 : decode cW_lower 84 = .ok (.putfield 21, 3) := by decide +kernel
theorem dW_lower_87 : decode cW_lower 87 = .ok (.aload_n 0, 1) := by decide +kernel
theorem dW_lower_88 : decode cW_lower 88 = .ok (.iconst 1, 1) := by decide +kernel
theorem dW_lower_89 : decode cW_lower 89 = .ok (.putfield 36, 3) := by decide +kernel
theorem dW_lower_92 : decode cW_lower 92 = .ok (.return_, 1) := by decide +kernel
theorem dW_isLess_0 : decode cW_isLess 0 = .ok (.lload_n 0, 1) := by decide +kernel
theorem dW_isLess_1 : decode cW_isLess 1 = .ok (.ldc2_w 71, 3) := by decide +kernel
theorem dW_isLess_4 : decode cW_isLess 4 = .ok (.lxor, 1) := by decide +kernel
theorem dW_isLess_5 : decode cW_isLess 5 = .ok (.lload_n 2, 1) := by decide +kernel
theorem dW_isLess_6 : decode cW_isLess 6 = .ok (.ldc2_w 71, 3) := by decide +kernel
theorem dW_isLess_9 : decode cW_isLess 9 = .ok (.lxor, 1) := by decide +kernel
theorem dW_isLess_10 : decode cW_isLess 10 = .ok (.lcmp, 1) := by decide +kernel
theorem dW_isLess_11 : decode cW_isLess 11 = .ok (.ifCond .ge 7, 3) := by decide +kernel
theorem dW_isLess_14 : decode cW_isLess 14 = .ok (.iconst 1, 1) := by decide +kernel
theorem dW_isLess_15 : decode cW_isLess 15 = .ok (.goto 4, 3) := by decide +kernel
theorem dW_isLess_18 : decode cW_isLess 18 = .ok (.iconst 0, 1) := by decide +kernel
theorem dW_isLess_19 : decode cW_isLess 19 = .ok (.ireturn, 1) := by decide +kernel
