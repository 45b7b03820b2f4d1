theorem dF_init_0 : decode cF_init 0 = .ok (.aload_n 0, 1) := by decide +kernel
theorem dF_init_1 : decode cF_init 1 = .ok (.invokespecial 3, 3) := by decide +kernel
theorem dF_init_4 : decode cF_init 4 = .ok (.aload_n 0, 1) := by decide +kernel
theorem dF_init_5 : decode cF_init 5 = .ok (.new 9, 3) := by decide +kernel
theorem dF_init_8 : decode cF_init 8 = .ok (.dup, 1) := by decide +kernel
theorem dF_init_9 : decode cF_init 9 = .ok (.invokespecial 11, 3) := by decide +kernel
theorem dF_init_12 : decode cF_init 12 = .ok (.putfield 12, 3) := by decide +kernel
theorem dF_init_15 : decode cF_init 15 = .ok (.aload_n 0, 1) := by decide +kernel
theorem dF_init_16 : decode cF_init 16 = .ok (.new 9, 3) := by decide +kernel
theorem dF_init_19 : decode cF_init 19 = .ok (.dup, 1) := by decide +kernel
theorem dF_init_20 : decode cF_init 20 = .ok (.invokespecial 11, 3) := by decide +kernel
theorem dF_init_23 : decode cF_init 23 = .ok (.putfield 16, 3) := by decide +kernel
theorem dF_init_26 : decode cF_init 26 = .ok (.aload_n 0, 1) := by decide +kernel
theorem dF_init_27 : decode cF_init 27 = .ok (.new 19, 3) := by decide +kernel
theorem dF_init_30 : decode cF_init 30 = .ok (.dup, 1) := by decide +kernel
theorem dF_init_31 : decode cF_init 31 = .ok (.invokespecial 21, 3) := by decide +kernel
theorem dF_init_34 : decode cF_init 34 = .ok (.putfield 22, 3) := by decide +kernel
theorem dF_init_37 : decode cF_init 37 = .ok (.aload_n 0, 1) := by decide +kernel
theorem dF_init_38 : decode cF_init 38 = .ok (.new 19, 3) := by decide +kernel
theorem dF_init_41 : decode cF_init 41 = .ok (.dup, 1) := by decide +kernel
theorem dF_init_42 : decode cF_init 42 = .ok (.invokespecial 21, 3) := by decide +kernel
theorem dF_init_45 : decode cF_init 45 = .ok (.putfield 26, 3) := by decide +kernel
theorem dF_init_48 : decode cF_init 48 = .ok (.return_, 1) := by decide +kernel
theorem dF_add_0 : decode cF_add 0 = .ok (.aload_n 0, 1) := by decide +kernel
theorem dF_add_1 : decode cF_add 1 = .ok (.lload_n 1, 1) := by decide +kernel
theorem dF_add_2 : decode cF_add 2 = .ok (.ldc2_w 29, 3) := by decide +kernel
theorem dF_add_5 : decode cF_add 5 = .ok (.lload_n 3, 1) := by decide +kernel
theorem dF_add_6 : decode cF_add 6 = .ok (.iload 5, 2) := by decide +kernel
theorem dF_add_8 : decode cF_add 8 = .ok (.invokevirtual 31, 3) := by decide +kernel
theorem dF_add_11 : decode cF_add 11 = .ok (.lreturn, 1) := by decide +kernel
theorem dF_multiply_0 : decode cF_multiply 0 = .ok (.aload_n 0, 1) := by decide +kernel
theorem dF_multiply_1 : decode cF_multiply 1 = .ok (.lload_n 1, 1) := by decide +kernel
theorem dF_multiply_2 : decode cF_multiply 2 = .ok (.lload_n 3, 1) := by decide +kernel
theorem dF_multiply_3 : decode cF_multiply 3 = .ok (.lconst 0, 1) := by decide +kernel
theorem dF_multiply_4 : decode cF_multiply 4 = .ok (.iload 5, 2) := by decide +kernel
theorem dF_multiply_6 : decode cF_multiply 6 = .ok (.invokevirtual 31, 3) := by decide +kernel
theorem dF_multiply_9 : decode cF_multiply 9 = .ok (.lreturn, 1) := by decide +kernel
theorem dF_divide_0 : decode cF_divide 0 = .ok (.lload_n 1, 1) := by decide +kernel
theorem dF_divide_1 : decode cF_divide 1 = .ok (.invokestatic 35, 3) := by decide +kernel
theorem dF_divide_4 : decode cF_divide 4 = .ok (.ifCond .ne 31, 3) := by decide +kernel
theorem dF_divide_7 : decode cF_divide 7 = .ok (.lload_n 3, 1) := by decide +kernel
theorem dF_divide_8 : decode cF_divide 8 = .ok (.invokestatic 35, 3) := by decide +kernel
theorem dF_divide_11 : decode cF_divide 11 = .ok (.ifCond .ne 24, 3) := by decide +kernel
theorem dF_divide_14 : decode cF_divide 14 = .ok (.lload_n 3, 1) := by decide +kernel
theorem dF_divide_15 : decode cF_divide 15 = .ok (.invokestatic 39, 3) := by decide +kernel
theorem dF_divide_18 : decode cF_divide 18 = .ok (.ifCond .ne 17, 3) := by decide +kernel
theorem dF_divide_21 : decode cF_divide 21 = .ok (.lload_n 1, 1) := by decide +kernel
theorem dF_divide_22 : decode cF_divide 22 = .ok (.invokestatic 42, 3) := by decide +kernel
theorem dF_divide_25 : decode cF_divide 25 = .ok (.ifCond .eq 14, 3) := by decide +kernel
theorem dF_divide_28 : decode cF_divide 28 = .ok (.lload_n 3, 1) := by decide +kernel
theorem dF_divide_29 : decode cF_divide 29 = .ok (.invokestatic 42, 3) := by decide +kernel
theorem dF_divide_32 : decode cF_divide 32 = .ok (.ifCond .eq 7, 3) := by decide +kernel
theorem dF_divide_35 : decode cF_divide 35 = .ok (.ldc2_w 45, 3) := by decide +kernel
theorem dF_divide_38 : decode cF_divide 38 = .ok (.lreturn, 1) := by decide +kernel
theorem dF_divide_39 : decode cF_divide 39 = .ok (.lload_n 1, 1) := by decide +kernel
theorem dF_divide_40 : decode cF_divide 40 = .ok (.invokestatic 42, 3) := by decide +kernel
theorem dF_divide_43 : decode cF_divide 43 = .ok (.ifCond .eq 23, 3) := by decide +kernel
theorem dF_divide_46 : decode cF_divide 46 = .ok (.ldc2_w 47, 3) := by decide +kernel
theorem dF_divide_49 : decode cF_divide 49 = .ok (.lload_n 1, 1) := by decide +kernel
theorem dF_divide_50 : decode cF_divide 50 = .ok (.lload_n 3, 1) := by decide +kernel
theorem dF_divide_51 : decode cF_divide 51 = .ok (.lxor, 1) := by decide +kernel
theorem dF_divide_52 : decode cF_divide 52 = .ok (.lconst 0, 1) := by decide +kernel
theorem dF_divide_53 : decode cF_divide 53 = .ok (.lcmp, 1) := by decide +kernel
theorem dF_divide_54 : decode cF_divide 54 = .ok (.ifCond .ge 7, 3) := by decide +kernel
theorem dF_divide_57 : decode cF_divide 57 = .ok (.iconst 1, 1) := by decide +kernel
theorem dF_divide_58 : decode cF_divide 58 = .ok (.goto 4, 3) := by decide +kernel
theorem dF_divide_61 : decode cF_divide 61 = .ok (.iconst 0, 1) := by decide +kernel
theorem dF_divide_62 : decode cF_divide 62 = .ok (.invokestatic 49, 3) := by decide +kernel
theorem dF_divide_65 : decode cF_divide 65 = .ok (.lreturn, 1) := by decide +kernel
theorem dF_divide_66 : decode cF_divide 66 = .ok (.lload_n 3, 1) := by decide +kernel
theorem dF_divide_67 : decode cF_divide 67 = .ok (.invokestatic 42, 3) := by decide +kernel
theorem dF_divide_70 : decode cF_divide 70 = .ok (.ifCond .ne 10, 3) := by decide +kernel
theorem dF_divide_73 : decode cF_divide 73 = .ok (.lload_n 1, 1) := by decide +kernel
theorem dF_divide_74 : decode cF_divide 74 = .ok (.invokestatic 39, 3) := by decide +kernel
theorem dF_divide_77 : decode cF_divide 77 = .ok (.ifCond .eq 5, 3) := by decide +kernel
theorem dF_divide_80 : decode cF_divide 80 = .ok (.lconst 0, 1) := by decide +kernel
theorem dF_divide_81 : decode cF_divide 81 = .ok (.lreturn, 1) := by decide +kernel
theorem dF_divide_82 : decode cF_divide 82 = .ok (.lload_n 1, 1) := by decide +kernel
theorem dF_divide_83 : decode cF_divide 83 = .ok (.lload_n 3, 1) := by decide +kernel
theorem dF_divide_84 : decode cF_divide 84 = .ok (.iload 5, 2) := by decide +kernel
theorem dF_divide_86 : decode cF_divide 86 = .ok (.invokestatic 53, 3) := by decide +kernel
theorem dF_divide_89 : decode cF_divide 89 = .ok (.invokestatic 57, 3) := by decide +kernel
theorem dF_divide_92 : decode cF_divide 92 = .ok (.lreturn, 1) := by decide +kernel
theorem dF_root_0 : decode cF_root 0 = .ok (.lload_n 1, 1) := by decide +kernel
theorem dF_root_1 : decode cF_root 1 = .ok (.invokestatic 39, 3) := by decide +kernel
theorem dF_root_4 : decode cF_root 4 = .ok (.ifCond .eq 5, 3) := by decide +kernel
theorem dF_root_7 : decode cF_root 7 = .ok (.lconst 0, 1) := by decide +kernel
theorem dF_root_8 : decode cF_root 8 = .ok (.lreturn, 1) := by decide +kernel
theorem dF_root_9 : decode cF_root 9 = .ok (.lload_n 1, 1) := by decide +kernel
theorem dF_root_10 : decode cF_root 10 = .ok (.invokestatic 35, 3) := by decide +kernel
theorem dF_root_13 : decode cF_root 13 = .ok (.ifCond .ne 9, 3) := by decide +kernel
theorem dF_root_16 : decode cF_root 16 = .ok (.lload_n 1, 1) := by decide +kernel
theorem dF_root_17 : decode cF_root 17 = .ok (.lconst 0, 1) := by decide +kernel
theorem dF_root_18 : decode cF_root 18 = .ok (.lcmp, 1) := by decide +kernel
theorem dF_root_19 : decode cF_root 19 = .ok (.ifCond .ge 7, 3) := by decide +kernel
theorem dF_root_22 : decode cF_root 22 = .ok (.ldc2_w 45, 3) := by decide +kernel
theorem dF_root_25 : decode cF_root 25 = .ok (.lreturn, 1) := by decide +kernel
theorem dF_root_26 : decode cF_root 26 = .ok (.lload_n 1, 1) := by decide +kernel
theorem dF_root_27 : decode cF_root 27 = .ok (.invokestatic 42, 3) := by decide +kernel
theorem dF_root_30 : decode cF_root 30 = .ok (.ifCond .eq 7, 3) := by decide +kernel
theorem dF_root_33 : decode cF_root 33 = .ok (.lload_n 1, 1) := by decide +kernel
theorem dF_root_34 : decode cF_root 34 = .ok (.goto 11, 3) := by decide +kernel
theorem dF_root_37 : decode cF_root 37 = .ok (.lload_n 1, 1) := by decide +kernel
theorem dF_root_38 : decode cF_root 38 = .ok (.iload_n 3, 1) := by decide +kernel
theorem dF_root_39 : decode cF_root 39 = .ok (.invokestatic 53, 3) := by decide +kernel
theorem dF_root_42 : decode cF_root 42 = .ok (.invokestatic 61, 3) := by decide +kernel
theorem dF_root_45 : decode cF_root 45 = .ok (.lreturn, 1) := by decide +kernel
theorem dF_fused_0 : decode cF_fused 0 = .ok (.lload_n 1, 1) := by decide +kernel
theorem dF_fused_1 : decode cF_fused 1 = .ok (.invokestatic 35, 3) := by decide +kernel
theorem dF_fused_4 : decode cF_fused 4 = .ok (.ifCond .ne 18, 3) := by decide +kernel
theorem dF_fused_7 : decode cF_fused 7 = .ok (.lload_n 3, 1) := by decide +kernel
theorem dF_fused_8 : decode cF_fused 8 = .ok (.invokestatic 35, 3) := by decide +kernel
theorem dF_fused_11 : decode cF_fused 11 = .ok (.ifCond .ne 11, 3) := by decide +kernel
theorem dF_fused_14 : decode cF_fused 14 = .ok (.lload 5, 2) := by decide +kernel
theorem dF_fused_16 : decode cF_fused 16 = .ok (.invokestatic 35, 3) := by decide +kernel
theorem dF_fused_19 : decode cF_fused 19 = .ok (.ifCond .eq 7, 3) := by decide +kernel
theorem dF_fused_22 : decode cF_fused 22 = .ok (.ldc2_w 45, 3) := by decide +kernel
theorem dF_fused_25 : decode cF_fused 25 = .ok (.lreturn, 1) := by decide +kernel
theorem dF_fused_26 : decode cF_fused 26 = .ok (.lload_n 1, 1) := by decide +kernel
theorem dF_fused_27 : decode cF_fused 27 = .ok (.lload_n 3, 1) := by decide +kernel
theorem dF_fused_28 : decode cF_fused 28 = .ok (.invokestatic 65, 3) := by decide +kernel
theorem dF_fused_31 : decode cF_fused 31 = .ok (.ifCond .eq 49, 3) := by decide +kernel
theorem dF_fused_34 : decode cF_fused 34 = .ok (.ldc2_w 47, 3) := by decide +kernel
theorem dF_fused_37 : decode cF_fused 37 = .ok (.lload_n 1, 1) := by decide +kernel
theorem dF_fused_38 : decode cF_fused 38 = .ok (.lload_n 3, 1) := by decide +kernel
theorem dF_fused_39 : decode cF_fused 39 = .ok (.lxor, 1) := by decide +kernel
theorem dF_fused_40 : decode cF_fused 40 = .ok (.lconst 0, 1) := by decide +kernel
theorem dF_fused_41 : decode cF_fused 41 = .ok (.lcmp, 1) := by decide +kernel
theorem dF_fused_42 : decode cF_fused 42 = .ok (.ifCond .ge 7, 3) := by decide +kernel
theorem dF_fused_45 : decode cF_fused 45 = .ok (.iconst 1, 1) := by decide +kernel
theorem dF_fused_46 : decode cF_fused 46 = .ok (.goto 4, 3) := by decide +kernel
theorem dF_fused_49 : decode cF_fused 49 = .ok (.iconst 0, 1) := by decide +kernel
theorem dF_fused_50 : decode cF_fused 50 = .ok (.invokestatic 49, 3) := by decide +kernel
theorem dF_fused_53 : decode cF_fused 53 = .ok (.lstore 8, 2) := by decide +kernel
theorem dF_fused_55 : decode cF_fused 55 = .ok (.lload 5, 2) := by decide +kernel
theorem dF_fused_57 : decode cF_fused 57 = .ok (.invokestatic 42, 3) := by decide +kernel
theorem dF_fused_60 : decode cF_fused 60 = .ok (.ifCond .eq 17, 3) := by decide +kernel
theorem dF_fused_63 : decode cF_fused 63 = .ok (.lload 5, 2) := by decide +kernel
theorem dF_fused_65 : decode cF_fused 65 = .ok (.lload 8, 2) := by decide +kernel
theorem dF_fused_67 : decode cF_fused 67 = .ok (.lcmp, 1) := by decide +kernel
theorem dF_fused_68 : decode cF_fused 68 = .ok (.ifCond .eq 9, 3) := by decide +kernel
theorem dF_fused_71 : decode cF_fused 71 = .ok (.ldc2_w 45, 3) := by decide +kernel
theorem dF_fused_74 : decode cF_fused 74 = .ok (.goto 5, 3) := by decide +kernel
theorem dF_fused_77 : decode cF_fused 77 = .ok (.lload 8, 2) := by decide +kernel
theorem dF_fused_79 : decode cF_fused 79 = .ok (.lreturn, 1) := by decide +kernel
theorem dF_fused_80 : decode cF_fused 80 = .ok (.lload 5, 2) := by decide +kernel
theorem dF_fused_82 : decode cF_fused 82 = .ok (.invokestatic 42, 3) := by decide +kernel
theorem dF_fused_85 : decode cF_fused 85 = .ok (.ifCond .eq 6, 3) := by decide +kernel
theorem dF_fused_88 : decode cF_fused 88 = .ok (.lload 5, 2) := by decide +kernel
theorem dF_fused_90 : decode cF_fused 90 = .ok (.lreturn, 1) := by decide +kernel
theorem dF_fused_91 : decode cF_fused 91 = .ok (.aload_n 0, 1) := by decide +kernel
theorem dF_fused_92 : decode cF_fused 92 = .ok (.lload_n 1, 1) := by decide +kernel
theorem dF_fused_93 : decode cF_fused 93 = .ok (.lload_n 3, 1) := by decide +kernel
theorem dF_fused_94 : decode cF_fused 94 = .ok (.lload 5, 2) := by decide +kernel
theorem dF_fused_96 : decode cF_fused 96 = .ok (.iconst 0, 1) := by decide +kernel
theorem dF_fused_97 : decode cF_fused 97 = .ok (.iload 7, 2) := by decide +kernel
theorem dF_fused_99 : decode cF_fused 99 = .ok (.invokestatic 53, 3) := by decide +kernel
theorem dF_fused_102 : decode cF_fused 102 = .ok (.invokevirtual 69, 3) := by decide +kernel
theorem dF_fused_105 : decode cF_fused 105 = .ok (.lreturn, 1) := by decide +kernel
theorem dF_power_0 : decode cF_power 0 = .ok (.lload_n 1, 1) := by decide +kernel
theorem dF_power_1 : decode cF_power 1 = .ok (.invokestatic 35, 3) := by decide +kernel
theorem dF_power_4 : decode cF_power 4 = .ok (.ifCond .ne 26, 3) := by decide +kernel
theorem dF_power_7 : decode cF_power 7 = .ok (.iload_n 3, 1) := by decide +kernel
theorem dF_power_8 : decode cF_power 8 = .ok (.bipush 40, 2) := by decide +kernel
theorem dF_power_10 : decode cF_power 10 = .ok (.if_icmp .gt 20, 3) := by decide +kernel
theorem dF_power_13 : decode cF_power 13 = .ok (.iload_n 3, 1) := by decide +kernel
theorem dF_power_14 : decode cF_power 14 = .ok (.bipush (-40), 2) := by decide +kernel
theorem dF_power_16 : decode cF_power 16 = .ok (.if_icmp .lt 14, 3) := by decide +kernel
theorem dF_power_19 : decode cF_power 19 = .ok (.lload_n 1, 1) := by decide +kernel
theorem dF_power_20 : decode cF_power 20 = .ok (.invokestatic 39, 3) := by decide +kernel
theorem dF_power_23 : decode cF_power 23 = .ok (.ifCond .eq 11, 3) := by decide +kernel
theorem dF_power_26 : decode cF_power 26 = .ok (.iload_n 3, 1) := by decide +kernel
theorem dF_power_27 : decode cF_power 27 = .ok (.ifCond .ge 7, 3) := by decide +kernel
theorem dF_power_30 : decode cF_power 30 = .ok (.ldc2_w 45, 3) := by decide +kernel
theorem dF_power_33 : decode cF_power 33 = .ok (.lreturn, 1) := by decide +kernel
theorem dF_power_34 : decode cF_power 34 = .ok (.iload_n 3, 1) := by decide +kernel
theorem dF_power_35 : decode cF_power 35 = .ok (.ifCond .ne 7, 3) := by decide +kernel
theorem dF_power_38 : decode cF_power 38 = .ok (.ldc2_w 29, 3) := by decide +kernel
theorem dF_power_41 : decode cF_power 41 = .ok (.lreturn, 1) := by decide +kernel
theorem dF_power_42 : decode cF_power 42 = .ok (.lload_n 1, 1) := by decide +kernel
theorem dF_power_43 : decode cF_power 43 = .ok (.invokestatic 39, 3) := by decide +kernel
theorem dF_power_46 : decode cF_power 46 = .ok (.ifCond .eq 5, 3) := by decide +kernel
theorem dF_power_49 : decode cF_power 49 = .ok (.lconst 0, 1) := by decide +kernel
theorem dF_power_50 : decode cF_power 50 = .ok (.lreturn, 1) := by decide +kernel
theorem dF_power_51 : decode cF_power 51 = .ok (.lload_n 1, 1) := by decide +kernel
theorem dF_power_52 : decode cF_power 52 = .ok (.lconst 0, 1) := by decide +kernel
theorem dF_power_53 : decode cF_power 53 = .ok (.lcmp, 1) := by decide +kernel
theorem dF_power_54 : decode cF_power 54 = .ok (.ifCond .ge 13, 3) := by decide +kernel
theorem dF_power_57 : decode cF_power 57 = .ok (.iload_n 3, 1) := by decide +kernel
theorem dF_power_58 : decode cF_power 58 = .ok (.iconst 1, 1) := by decide +kernel
theorem dF_power_59 : decode cF_power 59 = .ok (.iand, 1) := by decide +kernel
theorem dF_power_60 : decode cF_power 60 = .ok (.ifCond .eq 7, 3) := by decide +kernel
theorem dF_power_63 : decode cF_power 63 = .ok (.iconst 1, 1) := by decide +kernel
theorem dF_power_64 : decode cF_power 64 = .ok (.goto 4, 3) := by decide +kernel
theorem dF_power_67 : decode cF_power 67 = .ok (.iconst 0, 1) := by decide +kernel
theorem dF_power_68 : decode cF_power 68 = .ok (.istore 5, 2) := by decide +kernel
theorem dF_power_70 : decode cF_power 70 = .ok (.lload_n 1, 1) := by decide +kernel
theorem dF_power_71 : decode cF_power 71 = .ok (.invokestatic 42, 3) := by decide +kernel
theorem dF_power_74 : decode cF_power 74 = .ok (.ifCond .eq 20, 3) := by decide +kernel
theorem dF_power_77 : decode cF_power 77 = .ok (.iload_n 3, 1) := by decide +kernel
theorem dF_power_78 : decode cF_power 78 = .ok (.ifCond .le 14, 3) := by decide +kernel
theorem dF_power_81 : decode cF_power 81 = .ok (.ldc2_w 47, 3) := by decide +kernel
theorem dF_power_84 : decode cF_power 84 = .ok (.iload 5, 2) := by decide +kernel
theorem dF_power_86 : decode cF_power 86 = .ok (.invokestatic 49, 3) := by decide +kernel
theorem dF_power_89 : decode cF_power 89 = .ok (.goto 4, 3) := by decide +kernel
theorem dF_power_92 : decode cF_power 92 = .ok (.lconst 0, 1) := by decide +kernel
theorem dF_power_93 : decode cF_power 93 = .ok (.lreturn, 1) := by decide +kernel
theorem dF_power_94 : decode cF_power 94 = .ok (.aload_n 0, 1) := by decide +kernel
theorem dF_power_95 : decode cF_power 95 = .ok (.lload_n 1, 1) := by decide +kernel
theorem dF_power_96 : decode cF_power 96 = .ok (.iload_n 3, 1) := by decide +kernel
theorem dF_power_97 : decode cF_power 97 = .ok (.iload 5, 2) := by decide +kernel
theorem dF_power_99 : decode cF_power 99 = .ok (.iload 4, 2) := by decide +kernel
theorem dF_power_101 : decode cF_power 101 = .ok (.invokestatic 53, 3) := by decide +kernel
theorem dF_power_104 : decode cF_power 104 = .ok (.invokevirtual 73, 3) := by decide +kernel
theorem dF_power_107 : decode cF_power 107 = .ok (.lreturn, 1) := by decide +kernel
theorem dF_half_0 : decode cF_half 0 = .ok (.lload_n 1, 1) := by decide +kernel
theorem dF_half_1 : decode cF_half 1 = .ok (.invokestatic 77, 3) := by decide +kernel
theorem dF_half_4 : decode cF_half 4 = .ok (.ifCond .eq 10, 3) := by decide +kernel
theorem dF_half_7 : decode cF_half 7 = .ok (.lload_n 3, 1) := by decide +kernel
theorem dF_half_8 : decode cF_half 8 = .ok (.invokestatic 77, 3) := by decide +kernel
theorem dF_half_11 : decode cF_half 11 = .ok (.ifCond .ne 7, 3) := by decide +kernel
theorem dF_half_14 : decode cF_half 14 = .ok (.ldc2_w 45, 3) := by decide +kernel
theorem dF_half_17 : decode cF_half 17 = .ok (.lreturn, 1) := by decide +kernel
theorem dF_half_18 : decode cF_half 18 = .ok (.aload_n 0, 1) := by decide +kernel
theorem dF_half_19 : decode cF_half 19 = .ok (.lload_n 1, 1) := by decide +kernel
theorem dF_half_20 : decode cF_half 20 = .ok (.ldc2_w 29, 3) := by decide +kernel
theorem dF_half_23 : decode cF_half 23 = .ok (.lload_n 3, 1) := by decide +kernel
theorem dF_half_24 : decode cF_half 24 = .ok (.iconst (-1), 1) := by decide +kernel
theorem dF_half_25 : decode cF_half 25 = .ok (.iconst 3, 1) := by decide +kernel
theorem dF_half_26 : decode cF_half 26 = .ok (.invokevirtual 69, 3) := by decide +kernel
theorem dF_half_29 : decode cF_half 29 = .ok (.lreturn, 1) := by decide +kernel
theorem dF_whole_0 : decode cF_whole 0 = .ok (.lload_n 1, 1) := by decide +kernel
theorem dF_whole_1 : decode cF_whole 1 = .ok (.invokestatic 35, 3) := by decide +kernel
theorem dF_whole_4 : decode cF_whole 4 = .ok (.ifCond .ne 12, 3) := by decide +kernel
theorem dF_whole_7 : decode cF_whole 7 = .ok (.iload_n 3, 1) := by decide +kernel
theorem dF_whole_8 : decode cF_whole 8 = .ok (.ifCond .lt 8, 3) := by decide +kernel
theorem dF_whole_11 : decode cF_whole 11 = .ok (.iload_n 3, 1) := by decide +kernel
theorem dF_whole_12 : decode cF_whole 12 = .ok (.iconst 3, 1) := by decide +kernel
theorem dF_whole_13 : decode cF_whole 13 = .ok (.if_icmp .le 7, 3) := by decide +kernel
theorem dF_whole_16 : decode cF_whole 16 = .ok (.ldc2_w 45, 3) := by decide +kernel
theorem dF_whole_19 : decode cF_whole 19 = .ok (.lreturn, 1) := by decide +kernel
theorem dF_whole_20 : decode cF_whole 20 = .ok (.lload_n 1, 1) := by decide +kernel
theorem dF_whole_21 : decode cF_whole 21 = .ok (.invokestatic 80, 3) := by decide +kernel
theorem dF_whole_24 : decode cF_whole 24 = .ok (.ifCond .lt 5, 3) := by decide +kernel
theorem dF_whole_27 : decode cF_whole 27 = .ok (.lload_n 1, 1) := by decide +kernel
theorem dF_whole_28 : decode cF_whole 28 = .ok (.lreturn, 1) := by decide +kernel
theorem dF_whole_29 : decode cF_whole 29 = .ok (.lload_n 1, 1) := by decide +kernel
theorem dF_whole_30 : decode cF_whole 30 = .ok (.invokestatic 84, 3) := by decide +kernel
theorem dF_whole_33 : decode cF_whole 33 = .ok (.lload_n 1, 1) := by decide +kernel
theorem dF_whole_34 : decode cF_whole 34 = .ok (.invokestatic 80, 3) := by decide +kernel
theorem dF_whole_37 : decode cF_whole 37 = .ok (.ineg, 1) := by decide +kernel
theorem dF_whole_38 : decode cF_whole 38 = .ok (.iconst 0, 1) := by decide +kernel
theorem dF_whole_39 : decode cF_whole 39 = .ok (.lload_n 1, 1) := by decide +kernel
theorem dF_whole_40 : decode cF_whole 40 = .ok (.lconst 0, 1) := by decide +kernel
theorem dF_whole_41 : decode cF_whole 41 = .ok (.lcmp, 1) := by decide +kernel
theorem dF_whole_42 : decode cF_whole 42 = .ok (.ifCond .ge 7, 3) := by decide +kernel
theorem dF_whole_45 : decode cF_whole 45 = .ok (.iconst 1, 1) := by decide +kernel
theorem dF_whole_46 : decode cF_whole 46 = .ok (.goto 4, 3) := by decide +kernel
theorem dF_whole_49 : decode cF_whole 49 = .ok (.iconst 0, 1) := by decide +kernel
theorem dF_whole_50 : decode cF_whole 50 = .ok (.iload_n 3, 1) := by decide +kernel
theorem dF_whole_51 : decode cF_whole 51 = .ok (.invokestatic 88, 3) := by decide +kernel
theorem dF_whole_54 : decode cF_whole 54 = .ok (.lstore 4, 2) := by decide +kernel
theorem dF_whole_56 : decode cF_whole 56 = .ok (.lload 4, 2) := by decide +kernel
theorem dF_whole_58 : decode cF_whole 58 = .ok (.iconst 0, 1) := by decide +kernel
theorem dF_whole_59 : decode cF_whole 59 = .ok (.iconst 0, 1) := by decide +kernel
theorem dF_whole_60 : decode cF_whole 60 = .ok (.lload_n 1, 1) := by decide +kernel
theorem dF_whole_61 : decode cF_whole 61 = .ok (.lconst 0, 1) := by decide +kernel
theorem dF_whole_62 : decode cF_whole 62 = .ok (.lcmp, 1) := by decide +kernel
theorem dF_whole_63 : decode cF_whole 63 = .ok (.ifCond .ge 7, 3) := by decide +kernel
theorem dF_whole_66 : decode cF_whole 66 = .ok (.iconst 1, 1) := by decide +kernel
theorem dF_whole_67 : decode cF_whole 67 = .ok (.goto 4, 3) := by decide +kernel
theorem dF_whole_70 : decode cF_whole 70 = .ok (.iconst 0, 1) := by decide +kernel
theorem dF_whole_71 : decode cF_whole 71 = .ok (.iconst 2, 1) := by decide +kernel
theorem dF_whole_72 : decode cF_whole 72 = .ok (.invokestatic 92, 3) := by decide +kernel
theorem dF_whole_75 : decode cF_whole 75 = .ok (.lreturn, 1) := by decide +kernel
theorem dF_order_0 : decode cF_order 0 = .ok (.lload_n 1, 1) := by decide +kernel
theorem dF_order_1 : decode cF_order 1 = .ok (.invokestatic 35, 3) := by decide +kernel
theorem dF_order_4 : decode cF_order 4 = .ok (.ifCond .ne 10, 3) := by decide +kernel
theorem dF_order_7 : decode cF_order 7 = .ok (.lload_n 3, 1) := by decide +kernel
theorem dF_order_8 : decode cF_order 8 = .ok (.invokestatic 35, 3) := by decide +kernel
theorem dF_order_11 : decode cF_order 11 = .ok (.ifCond .eq 5, 3) := by decide +kernel
theorem dF_order_14 : decode cF_order 14 = .ok (.iconst 2, 1) := by decide +kernel
theorem dF_order_15 : decode cF_order 15 = .ok (.ireturn, 1) := by decide +kernel
theorem dF_order_16 : decode cF_order 16 = .ok (.lload_n 1, 1) := by decide +kernel
theorem dF_order_17 : decode cF_order 17 = .ok (.invokestatic 95, 3) := by decide +kernel
theorem dF_order_20 : decode cF_order 20 = .ok (.lstore 5, 2) := by decide +kernel
theorem dF_order_22 : decode cF_order 22 = .ok (.lload_n 3, 1) := by decide +kernel
theorem dF_order_23 : decode cF_order 23 = .ok (.invokestatic 95, 3) := by decide +kernel
theorem dF_order_26 : decode cF_order 26 = .ok (.lstore 7, 2) := by decide +kernel
theorem dF_order_28 : decode cF_order 28 = .ok (.lload 5, 2) := by decide +kernel
theorem dF_order_30 : decode cF_order 30 = .ok (.lload 7, 2) := by decide +kernel
theorem dF_order_32 : decode cF_order 32 = .ok (.lcmp, 1) := by decide +kernel
theorem dF_order_33 : decode cF_order 33 = .ok (.ifCond .ge 7, 3) := by decide +kernel
theorem dF_order_36 : decode cF_order 36 = .ok (.iconst (-1), 1) := by decide +kernel
theorem dF_order_37 : decode cF_order 37 = .ok (.goto 16, 3) := by decide +kernel
theorem dF_order_40 : decode cF_order 40 = .ok (.lload 5, 2) := by decide +kernel
theorem dF_order_42 : decode cF_order 42 = .ok (.lload 7, 2) := by decide +kernel
theorem dF_order_44 : decode cF_order 44 = .ok (.lcmp, 1) := by decide +kernel
theorem dF_order_45 : decode cF_order 45 = .ok (.ifCond .le 7, 3) := by decide +kernel
theorem dF_order_48 : decode cF_order 48 = .ok (.iconst 1, 1) := by decide +kernel
theorem dF_order_49 : decode cF_order 49 = .ok (.goto 4, 3) := by decide +kernel
theorem dF_order_52 : decode cF_order 52 = .ok (.iconst 0, 1) := by decide +kernel
theorem dF_order_53 : decode cF_order 53 = .ok (.ireturn, 1) := by decide +kernel
theorem dF_isNaN_0 : decode cF_isNaN 0 = .ok (.lload_n 0, 1) := by decide +kernel
theorem dF_isNaN_1 : decode cF_isNaN 1 = .ok (.ldc2_w 98, 3) := by decide +kernel
theorem dF_isNaN_4 : decode cF_isNaN 4 = .ok (.land, 1) := by decide +kernel
theorem dF_isNaN_5 : decode cF_isNaN 5 = .ok (.ldc2_w 47, 3) := by decide +kernel
theorem dF_isNaN_8 : decode cF_isNaN 8 = .ok (.lcmp, 1) := by decide +kernel
theorem dF_isNaN_9 : decode cF_isNaN 9 = .ok (.ifCond .le 7, 3) := by decide +kernel
theorem dF_isNaN_12 : decode cF_isNaN 12 = .ok (.iconst 1, 1) := by decide +kernel
theorem dF_isNaN_13 : decode cF_isNaN 13 = .ok (.goto 4, 3) := by decide +kernel
theorem dF_isNaN_16 : decode cF_isNaN 16 = .ok (.iconst 0, 1) := by decide +kernel
theorem dF_isNaN_17 : decode cF_isNaN 17 = .ok (.ireturn, 1) := by decide +kernel
theorem dF_isInfinite_0 : decode cF_isInfinite 0 = .ok (.lload_n 0, 1) := by decide +kernel
theorem dF_isInfinite_1 : decode cF_isInfinite 1 = .ok (.ldc2_w 98, 3) := by decide +kernel
theorem dF_isInfinite_4 : decode cF_isInfinite 4 = .ok (.land, 1) := by decide +kernel
theorem dF_isInfinite_5 : decode cF_isInfinite 5 = .ok (.ldc2_w 47, 3) := by decide +kernel
theorem dF_isInfinite_8 : decode cF_isInfinite 8 = .ok (.lcmp, 1) := by decide +kernel
theorem dF_isInfinite_9 : decode cF_isInfinite 9 = .ok (.ifCond .ne 7, 3) := by decide +kernel
theorem dF_isInfinite_12 : decode cF_isInfinite 12 = .ok (.iconst 1, 1) := by decide +kernel
theorem dF_isInfinite_13 : decode cF_isInfinite 13 = .ok (.goto 4, 3) := by decide +kernel
theorem dF_isInfinite_16 : decode cF_isInfinite 16 = .ok (.iconst 0, 1) := by decide +kernel
theorem dF_isInfinite_17 : decode cF_isInfinite 17 = .ok (.ireturn, 1) := by decide +kernel
theorem dF_isFinite_0 : decode cF_isFinite 0 = .ok (.lload_n 0, 1) := by decide +kernel
theorem dF_isFinite_1 : decode cF_isFinite 1 = .ok (.ldc2_w 98, 3) := by decide +kernel
theorem dF_isFinite_4 : decode cF_isFinite 4 = .ok (.land, 1) := by decide +kernel
theorem dF_isFinite_5 : decode cF_isFinite 5 = .ok (.ldc2_w 47, 3) := by decide +kernel
theorem dF_isFinite_8 : decode cF_isFinite 8 = .ok (.lcmp, 1) := by decide +kernel
theorem dF_isFinite_9 : decode cF_isFinite 9 = .ok (.ifCond .ge 7, 3) := by decide +kernel
theorem dF_isFinite_12 : decode cF_isFinite 12 = .ok (.iconst 1, 1) := by decide +kernel
theorem dF_isFinite_13 : decode cF_isFinite 13 = .ok (.goto 4, 3) := by decide +kernel
theorem dF_isFinite_16 : decode cF_isFinite 16 = .ok (.iconst 0, 1) := by decide +kernel
theorem dF_isFinite_17 : decode cF_isFinite 17 = .ok (.ireturn, 1) := by decide +kernel
theorem dF_isZero_0 : decode cF_isZero 0 = .ok (.lload_n 0, 1) := by decide +kernel
theorem dF_isZero_1 : decode cF_isZero 1 = .ok (.ldc2_w 98, 3) := by decide +kernel
theorem dF_isZero_4 : decode cF_isZero 4 = .ok (.land, 1) := by decide +kernel
theorem dF_isZero_5 : decode cF_isZero 5 = .ok (.lconst 0, 1) := by decide +kernel
theorem dF_isZero_6 : decode cF_isZero 6 = .ok (.lcmp, 1) := by decide +kernel
theorem dF_isZero_7 : decode cF_isZero 7 = .ok (.ifCond .ne 7, 3) := by decide +kernel
theorem dF_isZero_10 : decode cF_isZero 10 = .ok (.iconst 1, 1) := by decide +kernel
theorem dF_isZero_11 : decode cF_isZero 11 = .ok (.goto 4, 3) := by decide +kernel
theorem dF_isZero_14 : decode cF_isZero 14 = .ok (.iconst 0, 1) := by decide +kernel
theorem dF_isZero_15 : decode cF_isZero 15 = .ok (.ireturn, 1) := by decide +kernel
theorem dF_isInfiniteProduct_0 : decode cF_isInfiniteProduct 0 = .ok (.lload_n 0, 1) := by decide +kernel
theorem dF_isInfiniteProduct_1 : decode cF_isInfiniteProduct 1 = .ok (.invokestatic 42, 3) := by decide +kernel
theorem dF_isInfiniteProduct_4 : decode cF_isInfiniteProduct 4 = .ok (.ifCond .ne 10, 3) := by decide +kernel
theorem dF_isInfiniteProduct_7 : decode cF_isInfiniteProduct 7 = .ok (.lload_n 2, 1) := by decide +kernel
theorem dF_isInfiniteProduct_8 : decode cF_isInfiniteProduct 8 = .ok (.invokestatic 42, 3) := by decide +kernel
theorem dF_isInfiniteProduct_11 : decode cF_isInfiniteProduct 11 = .ok (.ifCond .eq 21, 3) := by decide +kernel
theorem dF_isInfiniteProduct_14 : decode cF_isInfiniteProduct 14 = .ok (.lload_n 0, 1) := by decide +kernel
theorem dF_isInfiniteProduct_15 : decode cF_isInfiniteProduct 15 = .ok (.invokestatic 39, 3) := by decide +kernel
theorem dF_isInfiniteProduct_18 : decode cF_isInfiniteProduct 18 = .ok (.ifCond .ne 14, 3) := by decide +kernel
theorem dF_isInfiniteProduct_21 : decode cF_isInfiniteProduct 21 = .ok (.lload_n 2, 1) := by decide +kernel
theorem dF_isInfiniteProduct_22 : decode cF_isInfiniteProduct 22 = .ok (.invokestatic 39, 3) := by decide +kernel
theorem dF_isInfiniteProduct_25 : decode cF_isInfiniteProduct 25 = .ok (.ifCond .ne 7, 3) := by decide +kernel
theorem dF_isInfiniteProduct_28 : decode cF_isInfiniteProduct 28 = .ok (.iconst 1, 1) := by decide +kernel
theorem dF_isInfiniteProduct_29 : decode cF_isInfiniteProduct 29 = .ok (.goto 4, 3) := by decide +kernel
theorem dF_isInfiniteProduct_32 : decode cF_isInfiniteProduct 32 = .ok (.iconst 0, 1) := by decide +kernel
theorem dF_isInfiniteProduct_33 : decode cF_isInfiniteProduct 33 = .ok (.ireturn, 1) := by decide +kernel
theorem dF_fieldOf_0 : decode cF_fieldOf 0 = .ok (.lload_n 0, 1) := by decide +kernel
theorem dF_fieldOf_1 : decode cF_fieldOf 1 = .ok (.bipush 52, 2) := by decide +kernel
theorem dF_fieldOf_3 : decode cF_fieldOf 3 = .ok (.lushr, 1) := by decide +kernel
theorem dF_fieldOf_4 : decode cF_fieldOf 4 = .ok (.ldc2_w 100, 3) := by decide +kernel
theorem dF_fieldOf_7 : decode cF_fieldOf 7 = .ok (.land, 1) := by decide +kernel
theorem dF_fieldOf_8 : decode cF_fieldOf 8 = .ok (.l2i, 1) := by decide +kernel
theorem dF_fieldOf_9 : decode cF_fieldOf 9 = .ok (.ireturn, 1) := by decide +kernel
theorem dF_significandOf_0 : decode cF_significandOf 0 = .ok (.lload_n 0, 1) := by decide +kernel
theorem dF_significandOf_1 : decode cF_significandOf 1 = .ok (.invokestatic 102, 3) := by decide +kernel
theorem dF_significandOf_4 : decode cF_significandOf 4 = .ok (.ifCond .ne 11, 3) := by decide +kernel
theorem dF_significandOf_7 : decode cF_significandOf 7 = .ok (.lload_n 0, 1) := by decide +kernel
theorem dF_significandOf_8 : decode cF_significandOf 8 = .ok (.ldc2_w 105, 3) := by decide +kernel
theorem dF_significandOf_11 : decode cF_significandOf 11 = .ok (.land, 1) := by decide +kernel
theorem dF_significandOf_12 : decode cF_significandOf 12 = .ok (.goto 12, 3) := by decide +kernel
theorem dF_significandOf_15 : decode cF_significandOf 15 = .ok (.lload_n 0, 1) := by decide +kernel
theorem dF_significandOf_16 : decode cF_significandOf 16 = .ok (.ldc2_w 105, 3) := by decide +kernel
theorem dF_significandOf_19 : decode cF_significandOf 19 = .ok (.land, 1) := by decide +kernel
theorem dF_significandOf_20 : decode cF_significandOf 20 = .ok (.ldc2_w 107, 3) := by decide +kernel
theorem dF_significandOf_23 : decode cF_significandOf 23 = .ok (.lor, 1) := by decide +kernel
theorem dF_significandOf_24 : decode cF_significandOf 24 = .ok (.lreturn, 1) := by decide +kernel
theorem dF_exponentOf_0 : decode cF_exponentOf 0 = .ok (.lload_n 0, 1) := by decide +kernel
theorem dF_exponentOf_1 : decode cF_exponentOf 1 = .ok (.invokestatic 102, 3) := by decide +kernel
theorem dF_exponentOf_4 : decode cF_exponentOf 4 = .ok (.istore_n 2, 1) := by decide +kernel
theorem dF_exponentOf_5 : decode cF_exponentOf 5 = .ok (.iload_n 2, 1) := by decide +kernel
theorem dF_exponentOf_6 : decode cF_exponentOf 6 = .ok (.ifCond .ne 9, 3) := by decide +kernel
theorem dF_exponentOf_9 : decode cF_exponentOf 9 = .ok (.sipush (-1074), 3) := by decide +kernel
theorem dF_exponentOf_12 : decode cF_exponentOf 12 = .ok (.goto 10, 3) := by decide +kernel
theorem dF_exponentOf_15 : decode cF_exponentOf 15 = .ok (.iload_n 2, 1) := by decide +kernel
theorem dF_exponentOf_16 : decode cF_exponentOf 16 = .ok (.iconst 1, 1) := by decide +kernel
theorem dF_exponentOf_17 : decode cF_exponentOf 17 = .ok (.isub, 1) := by decide +kernel
theorem dF_exponentOf_18 : decode cF_exponentOf 18 = .ok (.sipush (-1074), 3) := by decide +kernel
theorem dF_exponentOf_21 : decode cF_exponentOf 21 = .ok (.iadd, 1) := by decide +kernel
theorem dF_exponentOf_22 : decode cF_exponentOf 22 = .ok (.ireturn, 1) := by decide +kernel
theorem dF_slackOf_0 : decode cF_slackOf 0 = .ok (.bipush 53, 2) := by decide +kernel
theorem dF_slackOf_2 : decode cF_slackOf 2 = .ok (.lload_n 0, 1) := by decide +kernel
theorem dF_slackOf_3 : decode cF_slackOf 3 = .ok (.invokestatic 84, 3) := by decide +kernel
theorem dF_slackOf_6 : decode cF_slackOf 6 = .ok (.invokestatic 109, 3) := by decide +kernel
theorem dF_slackOf_9 : decode cF_slackOf 9 = .ok (.isub, 1) := by decide +kernel
theorem dF_slackOf_10 : decode cF_slackOf 10 = .ok (.ireturn, 1) := by decide +kernel
theorem dF_lengthOf_0 : decode cF_lengthOf 0 = .ok (.bipush 64, 2) := by decide +kernel
theorem dF_lengthOf_2 : decode cF_lengthOf 2 = .ok (.lload_n 0, 1) := by decide +kernel
theorem dF_lengthOf_3 : decode cF_lengthOf 3 = .ok (.invokestatic 112, 3) := by decide +kernel
theorem dF_lengthOf_6 : decode cF_lengthOf 6 = .ok (.isub, 1) := by decide +kernel
theorem dF_lengthOf_7 : decode cF_lengthOf 7 = .ok (.ireturn, 1) := by decide +kernel
theorem dF_withSign_0 : decode cF_withSign 0 = .ok (.iload_n 2, 1) := by decide +kernel
theorem dF_withSign_1 : decode cF_withSign 1 = .ok (.ifCond .eq 11, 3) := by decide +kernel
theorem dF_withSign_4 : decode cF_withSign 4 = .ok (.lload_n 0, 1) := by decide +kernel
theorem dF_withSign_5 : decode cF_withSign 5 = .ok (.ldc2_w 117, 3) := by decide +kernel
theorem dF_withSign_8 : decode cF_withSign 8 = .ok (.lor, 1) := by decide +kernel
theorem dF_withSign_9 : decode cF_withSign 9 = .ok (.goto 4, 3) := by decide +kernel
theorem dF_withSign_12 : decode cF_withSign 12 = .ok (.lload_n 0, 1) := by decide +kernel
theorem dF_withSign_13 : decode cF_withSign 13 = .ok (.lreturn, 1) := by decide +kernel
theorem dF_rank_0 : decode cF_rank 0 = .ok (.lload_n 0, 1) := by decide +kernel
theorem dF_rank_1 : decode cF_rank 1 = .ok (.lconst 0, 1) := by decide +kernel
theorem dF_rank_2 : decode cF_rank 2 = .ok (.lcmp, 1) := by decide +kernel
theorem dF_rank_3 : decode cF_rank 3 = .ok (.ifCond .ge 12, 3) := by decide +kernel
theorem dF_rank_6 : decode cF_rank 6 = .ok (.lload_n 0, 1) := by decide +kernel
theorem dF_rank_7 : decode cF_rank 7 = .ok (.ldc2_w 98, 3) := by decide +kernel
theorem dF_rank_10 : decode cF_rank 10 = .ok (.land, 1) := by decide +kernel
theorem dF_rank_11 : decode cF_rank 11 = .ok (.lneg, 1) := by decide +kernel
theorem dF_rank_12 : decode cF_rank 12 = .ok (.goto 4, 3) := by decide +kernel
theorem dF_rank_15 : decode cF_rank 15 = .ok (.lload_n 0, 1) := by decide +kernel
theorem dF_rank_16 : decode cF_rank 16 = .ok (.lreturn, 1) := by decide +kernel
theorem dF_direction_0 : decode cF_direction 0 = .ok (.iload_n 0, 1) := by decide +kernel
theorem dF_direction_1 : decode cF_direction 1 = .ok (.ifCond .eq 7, 3) := by decide +kernel
theorem dF_direction_4 : decode cF_direction 4 = .ok (.iconst 0, 1) := by decide +kernel
theorem dF_direction_5 : decode cF_direction 5 = .ok (.goto 4, 3) := by decide +kernel
theorem dF_direction_8 : decode cF_direction 8 = .ok (.iconst 1, 1) := by decide +kernel
theorem dF_direction_9 : decode cF_direction 9 = .ok (.ireturn, 1) := by decide +kernel
theorem dF_rounded_0 : decode cF_rounded 0 = .ok (.lload_n 0, 1) := by decide +kernel
theorem dF_rounded_1 : decode cF_rounded 1 = .ok (.lconst 0, 1) := by decide +kernel
theorem dF_rounded_2 : decode cF_rounded 2 = .ok (.lcmp, 1) := by decide +kernel
theorem dF_rounded_3 : decode cF_rounded 3 = .ok (.ifCond .ne 5, 3) := by decide +kernel
theorem dF_rounded_6 : decode cF_rounded 6 = .ok (.lconst 0, 1) := by decide +kernel
theorem dF_rounded_7 : decode cF_rounded 7 = .ok (.lreturn, 1) := by decide +kernel
theorem dF_rounded_8 : decode cF_rounded 8 = .ok (.iload_n 2, 1) := by decide +kernel
theorem dF_rounded_9 : decode cF_rounded 9 = .ok (.lload_n 0, 1) := by decide +kernel
theorem dF_rounded_10 : decode cF_rounded 10 = .ok (.invokestatic 109, 3) := by decide +kernel
theorem dF_rounded_13 : decode cF_rounded 13 = .ok (.iadd, 1) := by decide +kernel
theorem dF_rounded_14 : decode cF_rounded 14 = .ok (.iconst 1, 1) := by decide +kernel
theorem dF_rounded_15 : decode cF_rounded 15 = .ok (.isub, 1) := by decide +kernel
theorem dF_rounded_16 : decode cF_rounded 16 = .ok (.bipush 52, 2) := by decide +kernel
theorem dF_rounded_18 : decode cF_rounded 18 = .ok (.isub, 1) := by decide +kernel
theorem dF_rounded_19 : decode cF_rounded 19 = .ok (.sipush (-1074), 3) := by decide +kernel
theorem dF_rounded_22 : decode cF_rounded 22 = .ok (.invokestatic 119, 3) := by decide +kernel
theorem dF_rounded_25 : decode cF_rounded 25 = .ok (.istore 6, 2) := by decide +kernel
theorem dF_rounded_27 : decode cF_rounded 27 = .ok (.iload 6, 2) := by decide +kernel
theorem dF_rounded_29 : decode cF_rounded 29 = .ok (.sipush 971, 3) := by decide +kernel
theorem dF_rounded_32 : decode cF_rounded 32 = .ok (.if_icmp .le 16, 3) := by decide +kernel
theorem dF_rounded_35 : decode cF_rounded 35 = .ok (.iload 4, 2) := by decide +kernel
theorem dF_rounded_37 : decode cF_rounded 37 = .ok (.iload 5, 2) := by decide +kernel
theorem dF_rounded_39 : decode cF_rounded 39 = .ok (.invokestatic 125, 3) := by decide +kernel
theorem dF_rounded_42 : decode cF_rounded 42 = .ok (.iload 4, 2) := by decide +kernel
theorem dF_rounded_44 : decode cF_rounded 44 = .ok (.invokestatic 49, 3) := by decide +kernel
theorem dF_rounded_47 : decode cF_rounded 47 = .ok (.lreturn, 1) := by decide +kernel
theorem dF_rounded_48 : decode cF_rounded 48 = .ok (.iload 6, 2) := by decide +kernel
theorem dF_rounded_50 : decode cF_rounded 50 = .ok (.iload_n 2, 1) := by decide +kernel
theorem dF_rounded_51 : decode cF_rounded 51 = .ok (.isub, 1) := by decide +kernel
theorem dF_rounded_52 : decode cF_rounded 52 = .ok (.istore 7, 2) := by decide +kernel
theorem dF_rounded_54 : decode cF_rounded 54 = .ok (.iload 7, 2) := by decide +kernel
theorem dF_rounded_56 : decode cF_rounded 56 = .ok (.ifCond .le 17, 3) := by decide +kernel
theorem dF_rounded_59 : decode cF_rounded 59 = .ok (.lload_n 0, 1) := by decide +kernel
theorem dF_rounded_60 : decode cF_rounded 60 = .ok (.iload 7, 2) := by decide +kernel
theorem dF_rounded_62 : decode cF_rounded 62 = .ok (.iload_n 3, 1) := by decide +kernel
theorem dF_rounded_63 : decode cF_rounded 63 = .ok (.iload 4, 2) := by decide +kernel
theorem dF_rounded_65 : decode cF_rounded 65 = .ok (.iload 5, 2) := by decide +kernel
theorem dF_rounded_67 : decode cF_rounded 67 = .ok (.invokestatic 88, 3) := by decide +kernel
theorem dF_rounded_70 : decode cF_rounded 70 = .ok (.goto 8, 3) := by decide +kernel
theorem dF_rounded_73 : decode cF_rounded 73 = .ok (.lload_n 0, 1) := by decide +kernel
theorem dF_rounded_74 : decode cF_rounded 74 = .ok (.iload 7, 2) := by decide +kernel
theorem dF_rounded_76 : decode cF_rounded 76 = .ok (.ineg, 1) := by decide +kernel
theorem dF_rounded_77 : decode cF_rounded 77 = .ok (.lshl, 1) := by decide +kernel
theorem dF_rounded_78 : decode cF_rounded 78 = .ok (.lstore 8, 2) := by decide +kernel
theorem dF_rounded_80 : decode cF_rounded 80 = .ok (.iload 6, 2) := by decide +kernel
theorem dF_rounded_82 : decode cF_rounded 82 = .ok (.sipush (-1074), 3) := by decide +kernel
theorem dF_rounded_85 : decode cF_rounded 85 = .ok (.isub, 1) := by decide +kernel
theorem dF_rounded_86 : decode cF_rounded 86 = .ok (.i2l, 1) := by decide +kernel
theorem dF_rounded_87 : decode cF_rounded 87 = .ok (.bipush 52, 2) := by decide +kernel
theorem dF_rounded_89 : decode cF_rounded 89 = .ok (.lshl, 1) := by decide +kernel
theorem dF_rounded_90 : decode cF_rounded 90 = .ok (.lload 8, 2) := by decide +kernel
theorem dF_rounded_92 : decode cF_rounded 92 = .ok (.ladd, 1) := by decide +kernel
theorem dF_rounded_93 : decode cF_rounded 93 = .ok (.lstore 10, 2) := by decide +kernel
theorem dF_rounded_95 : decode cF_rounded 95 = .ok (.lload 10, 2) := by decide +kernel
theorem dF_rounded_97 : decode cF_rounded 97 = .ok (.lconst 0, 1) := by decide +kernel
theorem dF_rounded_98 : decode cF_rounded 98 = .ok (.lcmp, 1) := by decide +kernel
theorem dF_rounded_99 : decode cF_rounded 99 = .ok (.ifCond .ne 7, 3) := by decide +kernel
theorem dF_rounded_102 : decode cF_rounded 102 = .ok (.lconst 0, 1) := by decide +kernel
theorem dF_rounded_103 : decode cF_rounded 103 = .ok (.goto 10, 3) := by decide +kernel
theorem dF_rounded_106 : decode cF_rounded 106 = .ok (.lload 10, 2) := by decide +kernel
theorem dF_rounded_108 : decode cF_rounded 108 = .ok (.iload 4, 2) := by decide +kernel
theorem dF_rounded_110 : decode cF_rounded 110 = .ok (.invokestatic 49, 3) := by decide +kernel
theorem dF_rounded_113 : decode cF_rounded 113 = .ok (.lreturn, 1) := by decide +kernel
theorem dF_pastGreatest_0 : decode cF_pastGreatest 0 = .ok (.iload_n 1, 1) := by decide +kernel
theorem dF_pastGreatest_1 : decode cF_pastGreatest 1 = .ok (.iconst 2, 1) := by decide +kernel
theorem dF_pastGreatest_2 : decode cF_pastGreatest 2 = .ok (.if_icmp .eq 16, 3) := by decide +kernel
theorem dF_pastGreatest_5 : decode cF_pastGreatest 5 = .ok (.iload_n 1, 1) := by decide +kernel
theorem dF_pastGreatest_6 : decode cF_pastGreatest 6 = .ok (.iload_n 0, 1) := by decide +kernel
theorem dF_pastGreatest_7 : decode cF_pastGreatest 7 = .ok (.ifCond .eq 7, 3) := by decide +kernel
theorem dF_pastGreatest_10 : decode cF_pastGreatest 10 = .ok (.iconst 0, 1) := by decide +kernel
theorem dF_pastGreatest_11 : decode cF_pastGreatest 11 = .ok (.goto 4, 3) := by decide +kernel
theorem dF_pastGreatest_14 : decode cF_pastGreatest 14 = .ok (.iconst 1, 1) := by decide +kernel
theorem dF_pastGreatest_15 : decode cF_pastGreatest 15 = .ok (.if_icmp .ne 7, 3) := by decide +kernel
theorem dF_pastGreatest_18 : decode cF_pastGreatest 18 = .ok (.iconst 1, 1) := by decide +kernel
theorem dF_pastGreatest_19 : decode cF_pastGreatest 19 = .ok (.goto 4, 3) := by decide +kernel
theorem dF_pastGreatest_22 : decode cF_pastGreatest 22 = .ok (.iconst 0, 1) := by decide +kernel
theorem dF_pastGreatest_23 : decode cF_pastGreatest 23 = .ok (.istore_n 2, 1) := by decide +kernel
theorem dF_pastGreatest_24 : decode cF_pastGreatest 24 = .ok (.iload_n 2, 1) := by decide +kernel
theorem dF_pastGreatest_25 : decode cF_pastGreatest 25 = .ok (.ifCond .eq 9, 3) := by decide +kernel
theorem dF_pastGreatest_28 : decode cF_pastGreatest 28 = .ok (.ldc2_w 129, 3) := by decide +kernel
theorem dF_pastGreatest_31 : decode cF_pastGreatest 31 = .ok (.goto 6, 3) := by decide +kernel
theorem dF_pastGreatest_34 : decode cF_pastGreatest 34 = .ok (.ldc2_w 47, 3) := by decide +kernel
theorem dF_pastGreatest_37 : decode cF_pastGreatest 37 = .ok (.lreturn, 1) := by decide +kernel
theorem dF_cut_0 : decode cF_cut 0 = .ok (.iload_n 2, 1) := by decide +kernel
theorem dF_cut_1 : decode cF_cut 1 = .ok (.bipush 64, 2) := by decide +kernel
theorem dF_cut_3 : decode cF_cut 3 = .ok (.if_icmp .ge 9, 3) := by decide +kernel
theorem dF_cut_6 : decode cF_cut 6 = .ok (.lload_n 0, 1) := by decide +kernel
theorem dF_cut_7 : decode cF_cut 7 = .ok (.iload_n 2, 1) := by decide +kernel
theorem dF_cut_8 : decode cF_cut 8 = .ok (.lushr, 1) := by decide +kernel
theorem dF_cut_9 : decode cF_cut 9 = .ok (.goto 4, 3) := by decide +kernel
theorem dF_cut_12 : decode cF_cut 12 = .ok (.lconst 0, 1) := by decide +kernel
theorem dF_cut_13 : decode cF_cut 13 = .ok (.lstore 6, 2) := by decide +kernel
theorem dF_cut_15 : decode cF_cut 15 = .ok (.iload_n 3, 1) := by decide +kernel
theorem dF_cut_16 : decode cF_cut 16 = .ok (.ifCond .ne 31, 3) := by decide +kernel
theorem dF_cut_19 : decode cF_cut 19 = .ok (.iload_n 2, 1) := by decide +kernel
theorem dF_cut_20 : decode cF_cut 20 = .ok (.bipush 64, 2) := by decide +kernel
theorem dF_cut_22 : decode cF_cut 22 = .ok (.if_icmp .ge 15, 3) := by decide +kernel
theorem dF_cut_25 : decode cF_cut 25 = .ok (.lload 6, 2) := by decide +kernel
theorem dF_cut_27 : decode cF_cut 27 = .ok (.iload_n 2, 1) := by decide +kernel
theorem dF_cut_28 : decode cF_cut 28 = .ok (.lshl, 1) := by decide +kernel
theorem dF_cut_29 : decode cF_cut 29 = .ok (.lload_n 0, 1) := by decide +kernel
theorem dF_cut_30 : decode cF_cut 30 = .ok (.lcmp, 1) := by decide +kernel
theorem dF_cut_31 : decode cF_cut 31 = .ok (.ifCond .ne 16, 3) := by decide +kernel
theorem dF_cut_34 : decode cF_cut 34 = .ok (.goto 9, 3) := by decide +kernel
theorem dF_cut_37 : decode cF_cut 37 = .ok (.lload_n 0, 1) := by decide +kernel
theorem dF_cut_38 : decode cF_cut 38 = .ok (.lconst 0, 1) := by decide +kernel
theorem dF_cut_39 : decode cF_cut 39 = .ok (.lcmp, 1) := by decide +kernel
theorem dF_cut_40 : decode cF_cut 40 = .ok (.ifCond .ne 7, 3) := by decide +kernel
theorem dF_cut_43 : decode cF_cut 43 = .ok (.iconst 1, 1) := by decide +kernel
theorem dF_cut_44 : decode cF_cut 44 = .ok (.goto 4, 3) := by decide +kernel
theorem dF_cut_47 : decode cF_cut 47 = .ok (.iconst 0, 1) := by decide +kernel
theorem dF_cut_48 : decode cF_cut 48 = .ok (.istore 8, 2) := by decide +kernel
theorem dF_cut_50 : decode cF_cut 50 = .ok (.iload 8, 2) := by decide +kernel
theorem dF_cut_52 : decode cF_cut 52 = .ok (.ifCond .ne 9, 3) := by decide +kernel
theorem dF_cut_55 : decode cF_cut 55 = .ok (.iload 5, 2) := by decide +kernel
theorem dF_cut_57 : decode cF_cut 57 = .ok (.iconst 2, 1) := by decide +kernel
theorem dF_cut_58 : decode cF_cut 58 = .ok (.if_icmp .ne 6, 3) := by decide +kernel
theorem dF_cut_61 : decode cF_cut 61 = .ok (.lload 6, 2) := by decide +kernel
theorem dF_cut_63 : decode cF_cut 63 = .ok (.lreturn, 1) := by decide +kernel
theorem dF_cut_64 : decode cF_cut 64 = .ok (.iload 5, 2) := by decide +kernel
theorem dF_cut_66 : decode cF_cut 66 = .ok (.iconst 3, 1) := by decide +kernel
theorem dF_cut_67 : decode cF_cut 67 = .ok (.if_icmp .ne 12, 3) := by decide +kernel
theorem dF_cut_70 : decode cF_cut 70 = .ok (.lload_n 0, 1) := by decide +kernel
theorem dF_cut_71 : decode cF_cut 71 = .ok (.iload_n 2, 1) := by decide +kernel
theorem dF_cut_72 : decode cF_cut 72 = .ok (.iload_n 3, 1) := by decide +kernel
theorem dF_cut_73 : decode cF_cut 73 = .ok (.invokestatic 131, 3) := by decide +kernel
theorem dF_cut_76 : decode cF_cut 76 = .ok (.goto 23, 3) := by decide +kernel
theorem dF_cut_79 : decode cF_cut 79 = .ok (.iload 5, 2) := by decide +kernel
theorem dF_cut_81 : decode cF_cut 81 = .ok (.iload 4, 2) := by decide +kernel
theorem dF_cut_83 : decode cF_cut 83 = .ok (.ifCond .eq 7, 3) := by decide +kernel
theorem dF_cut_86 : decode cF_cut 86 = .ok (.iconst 1, 1) := by decide +kernel
theorem dF_cut_87 : decode cF_cut 87 = .ok (.goto 4, 3) := by decide +kernel
theorem dF_cut_90 : decode cF_cut 90 = .ok (.iconst 0, 1) := by decide +kernel
theorem dF_cut_91 : decode cF_cut 91 = .ok (.if_icmp .ne 7, 3) := by decide +kernel
theorem dF_cut_94 : decode cF_cut 94 = .ok (.iconst 1, 1) := by decide +kernel
theorem dF_cut_95 : decode cF_cut 95 = .ok (.goto 4, 3) := by decide +kernel
theorem dF_cut_98 : decode cF_cut 98 = .ok (.iconst 0, 1) := by decide +kernel
theorem dF_cut_99 : decode cF_cut 99 = .ok (.istore 9, 2) := by decide +kernel
theorem dF_cut_101 : decode cF_cut 101 = .ok (.iload 9, 2) := by decide +kernel
theorem dF_cut_103 : decode cF_cut 103 = .ok (.ifCond .eq 10, 3) := by decide +kernel
theorem dF_cut_106 : decode cF_cut 106 = .ok (.lload 6, 2) := by decide +kernel
theorem dF_cut_108 : decode cF_cut 108 = .ok (.lconst 1, 1) := by decide +kernel
theorem dF_cut_109 : decode cF_cut 109 = .ok (.ladd, 1) := by decide +kernel
theorem dF_cut_110 : decode cF_cut 110 = .ok (.goto 5, 3) := by decide +kernel
theorem dF_cut_113 : decode cF_cut 113 = .ok (.lload 6, 2) := by decide +kernel
theorem dF_cut_115 : decode cF_cut 115 = .ok (.lreturn, 1) := by decide +kernel
theorem dF_isNearerAbove_0 : decode cF_isNearerAbove 0 = .ok (.iload_n 2, 1) := by decide +kernel
theorem dF_isNearerAbove_1 : decode cF_isNearerAbove 1 = .ok (.iconst 1, 1) := by decide +kernel
theorem dF_isNearerAbove_2 : decode cF_isNearerAbove 2 = .ok (.if_icmp .lt 9, 3) := by decide +kernel
theorem dF_isNearerAbove_5 : decode cF_isNearerAbove 5 = .ok (.iload_n 2, 1) := by decide +kernel
theorem dF_isNearerAbove_6 : decode cF_isNearerAbove 6 = .ok (.bipush 63, 2) := by decide +kernel
theorem dF_isNearerAbove_8 : decode cF_isNearerAbove 8 = .ok (.if_icmp .le 5, 3) := by decide +kernel
theorem dF_isNearerAbove_11 : decode cF_isNearerAbove 11 = .ok (.iconst 0, 1) := by decide +kernel
theorem dF_isNearerAbove_12 : decode cF_isNearerAbove 12 = .ok (.ireturn, 1) := by decide +kernel
theorem dF_isNearerAbove_13 : decode cF_isNearerAbove 13 = .ok (.lconst 1, 1) := by decide +kernel
theorem dF_isNearerAbove_14 : decode cF_isNearerAbove 14 = .ok (.iload_n 2, 1) := by decide +kernel
theorem dF_isNearerAbove_15 : decode cF_isNearerAbove 15 = .ok (.iconst 1, 1) := by decide +kernel
theorem dF_isNearerAbove_16 : decode cF_isNearerAbove 16 = .ok (.isub, 1) := by decide +kernel
theorem dF_isNearerAbove_17 : decode cF_isNearerAbove 17 = .ok (.lshl, 1) := by decide +kernel
theorem dF_isNearerAbove_18 : decode cF_isNearerAbove 18 = .ok (.lstore 4, 2) := by decide +kernel
theorem dF_isNearerAbove_20 : decode cF_isNearerAbove 20 = .ok (.lload_n 0, 1) := by decide +kernel
theorem dF_isNearerAbove_21 : decode cF_isNearerAbove 21 = .ok (.lload 4, 2) := by decide +kernel
theorem dF_isNearerAbove_23 : decode cF_isNearerAbove 23 = .ok (.lload 4, 2) := by decide +kernel
theorem dF_isNearerAbove_25 : decode cF_isNearerAbove 25 = .ok (.lconst 1, 1) := by decide +kernel
theorem dF_isNearerAbove_26 : decode cF_isNearerAbove 26 = .ok (.lsub, 1) := by decide +kernel
theorem dF_isNearerAbove_27 : decode cF_isNearerAbove 27 = .ok (.lor, 1) := by decide +kernel
theorem dF_isNearerAbove_28 : decode cF_isNearerAbove 28 = .ok (.land, 1) := by decide +kernel
theorem dF_isNearerAbove_29 : decode cF_isNearerAbove 29 = .ok (.lstore 6, 2) := by decide +kernel
theorem dF_isNearerAbove_31 : decode cF_isNearerAbove 31 = .ok (.lload 6, 2) := by decide +kernel
theorem dF_isNearerAbove_33 : decode cF_isNearerAbove 33 = .ok (.lload 4, 2) := by decide +kernel
theorem dF_isNearerAbove_35 : decode cF_isNearerAbove 35 = .ok (.lcmp, 1) := by decide +kernel
theorem dF_isNearerAbove_36 : decode cF_isNearerAbove 36 = .ok (.ifCond .eq 17, 3) := by decide +kernel
theorem dF_isNearerAbove_39 : decode cF_isNearerAbove 39 = .ok (.lload 6, 2) := by decide +kernel
theorem dF_isNearerAbove_41 : decode cF_isNearerAbove 41 = .ok (.lload 4, 2) := by decide +kernel
theorem dF_isNearerAbove_43 : decode cF_isNearerAbove 43 = .ok (.lcmp, 1) := by decide +kernel
theorem dF_isNearerAbove_44 : decode cF_isNearerAbove 44 = .ok (.ifCond .le 7, 3) := by decide +kernel
theorem dF_isNearerAbove_47 : decode cF_isNearerAbove 47 = .ok (.iconst 1, 1) := by decide +kernel
theorem dF_isNearerAbove_48 : decode cF_isNearerAbove 48 = .ok (.goto 4, 3) := by decide +kernel
theorem dF_isNearerAbove_51 : decode cF_isNearerAbove 51 = .ok (.iconst 0, 1) := by decide +kernel
theorem dF_isNearerAbove_52 : decode cF_isNearerAbove 52 = .ok (.ireturn, 1) := by decide +kernel
theorem dF_isNearerAbove_53 : decode cF_isNearerAbove 53 = .ok (.iload_n 3, 1) := by decide +kernel
theorem dF_isNearerAbove_54 : decode cF_isNearerAbove 54 = .ok (.ifCond .ne 13, 3) := by decide +kernel
theorem dF_isNearerAbove_57 : decode cF_isNearerAbove 57 = .ok (.lload_n 0, 1) := by decide +kernel
theorem dF_isNearerAbove_58 : decode cF_isNearerAbove 58 = .ok (.iload_n 2, 1) := by decide +kernel
theorem dF_isNearerAbove_59 : decode cF_isNearerAbove 59 = .ok (.lushr, 1) := by decide +kernel
theorem dF_isNearerAbove_60 : decode cF_isNearerAbove 60 = .ok (.lconst 1, 1) := by decide +kernel
theorem dF_isNearerAbove_61 : decode cF_isNearerAbove 61 = .ok (.land, 1) := by decide +kernel
theorem dF_isNearerAbove_62 : decode cF_isNearerAbove 62 = .ok (.lconst 0, 1) := by decide +kernel
theorem dF_isNearerAbove_63 : decode cF_isNearerAbove 63 = .ok (.lcmp, 1) := by decide +kernel
theorem dF_isNearerAbove_64 : decode cF_isNearerAbove 64 = .ok (.ifCond .eq 7, 3) := by decide +kernel
theorem dF_isNearerAbove_67 : decode cF_isNearerAbove 67 = .ok (.iconst 1, 1) := by decide +kernel
theorem dF_isNearerAbove_68 : decode cF_isNearerAbove 68 = .ok (.goto 4, 3) := by decide +kernel
theorem dF_isNearerAbove_71 : decode cF_isNearerAbove 71 = .ok (.iconst 0, 1) := by decide +kernel
theorem dF_isNearerAbove_72 : decode cF_isNearerAbove 72 = .ok (.ireturn, 1) := by decide +kernel
theorem dF_scaledSum_0 : decode cF_scaledSum 0 = .ok (.aload_n 0, 1) := by decide +kernel
theorem dF_scaledSum_1 : decode cF_scaledSum 1 = .ok (.getfield 12, 3) := by decide +kernel
theorem dF_scaledSum_4 : decode cF_scaledSum 4 = .ok (.lload_n 1, 1) := by decide +kernel
theorem dF_scaledSum_5 : decode cF_scaledSum 5 = .ok (.lload_n 3, 1) := by decide +kernel
theorem dF_scaledSum_6 : decode cF_scaledSum 6 = .ok (.invokevirtual 135, 3) := by decide +kernel
theorem dF_scaledSum_9 : decode cF_scaledSum 9 = .ok (.aload_n 0, 1) := by decide +kernel
theorem dF_scaledSum_10 : decode cF_scaledSum 10 = .ok (.getfield 16, 3) := by decide +kernel
theorem dF_scaledSum_13 : decode cF_scaledSum 13 = .ok (.lload 5, 2) := by decide +kernel
theorem dF_scaledSum_15 : decode cF_scaledSum 15 = .ok (.ldc2_w 29, 3) := by decide +kernel
theorem dF_scaledSum_18 : decode cF_scaledSum 18 = .ok (.invokevirtual 135, 3) := by decide +kernel
theorem dF_scaledSum_21 : decode cF_scaledSum 21 = .ok (.aload_n 0, 1) := by decide +kernel
theorem dF_scaledSum_22 : decode cF_scaledSum 22 = .ok (.getfield 12, 3) := by decide +kernel
theorem dF_scaledSum_25 : decode cF_scaledSum 25 = .ok (.aload_n 0, 1) := by decide +kernel
theorem dF_scaledSum_26 : decode cF_scaledSum 26 = .ok (.getfield 16, 3) := by decide +kernel
theorem dF_scaledSum_29 : decode cF_scaledSum 29 = .ok (.invokevirtual 139, 3) := by decide +kernel
theorem dF_scaledSum_32 : decode cF_scaledSum 32 = .ok (.aload_n 0, 1) := by decide +kernel
theorem dF_scaledSum_33 : decode cF_scaledSum 33 = .ok (.getfield 12, 3) := by decide +kernel
theorem dF_scaledSum_36 : decode cF_scaledSum 36 = .ok (.getfield 143, 3) := by decide +kernel
theorem dF_scaledSum_39 : decode cF_scaledSum 39 = .ok (.ifCond .ne 10, 3) := by decide +kernel
theorem dF_scaledSum_42 : decode cF_scaledSum 42 = .ok (.aload_n 0, 1) := by decide +kernel
theorem dF_scaledSum_43 : decode cF_scaledSum 43 = .ok (.getfield 12, 3) := by decide +kernel
theorem dF_scaledSum_46 : decode cF_scaledSum 46 = .ok (.invokevirtual 147, 3) := by decide +kernel
theorem dF_scaledSum_49 : decode cF_scaledSum 49 = .ok (.aload_n 0, 1) := by decide +kernel
theorem dF_scaledSum_50 : decode cF_scaledSum 50 = .ok (.getfield 12, 3) := by decide +kernel
theorem dF_scaledSum_53 : decode cF_scaledSum 53 = .ok (.getfield 143, 3) := by decide +kernel
theorem dF_scaledSum_56 : decode cF_scaledSum 56 = .ok (.ifCond .ne 15, 3) := by decide +kernel
theorem dF_scaledSum_59 : decode cF_scaledSum 59 = .ok (.aload_n 0, 1) := by decide +kernel
theorem dF_scaledSum_60 : decode cF_scaledSum 60 = .ok (.getfield 12, 3) := by decide +kernel
theorem dF_scaledSum_63 : decode cF_scaledSum 63 = .ok (.getfield 150, 3) := by decide +kernel
theorem dF_scaledSum_66 : decode cF_scaledSum 66 = .ok (.lconst 0, 1) := by decide +kernel
theorem dF_scaledSum_67 : decode cF_scaledSum 67 = .ok (.lcmp, 1) := by decide +kernel
theorem dF_scaledSum_68 : decode cF_scaledSum 68 = .ok (.ifCond .eq 7, 3) := by decide +kernel
theorem dF_scaledSum_71 : decode cF_scaledSum 71 = .ok (.iconst 1, 1) := by decide +kernel
theorem dF_scaledSum_72 : decode cF_scaledSum 72 = .ok (.goto 4, 3) := by decide +kernel
theorem dF_scaledSum_75 : decode cF_scaledSum 75 = .ok (.iconst 0, 1) := by decide +kernel
theorem dF_scaledSum_76 : decode cF_scaledSum 76 = .ok (.istore 9, 2) := by decide +kernel
theorem dF_scaledSum_78 : decode cF_scaledSum 78 = .ok (.aload_n 0, 1) := by decide +kernel
theorem dF_scaledSum_79 : decode cF_scaledSum 79 = .ok (.getfield 12, 3) := by decide +kernel
theorem dF_scaledSum_82 : decode cF_scaledSum 82 = .ok (.getfield 154, 3) := by decide +kernel
theorem dF_scaledSum_85 : decode cF_scaledSum 85 = .ok (.aload_n 0, 1) := by decide +kernel
theorem dF_scaledSum_86 : decode cF_scaledSum 86 = .ok (.getfield 12, 3) := by decide +kernel
theorem dF_scaledSum_89 : decode cF_scaledSum 89 = .ok (.getfield 157, 3) := by decide +kernel
theorem dF_scaledSum_92 : decode cF_scaledSum 92 = .ok (.bipush 64, 2) := by decide +kernel
theorem dF_scaledSum_94 : decode cF_scaledSum 94 = .ok (.iadd, 1) := by decide +kernel
theorem dF_scaledSum_95 : decode cF_scaledSum 95 = .ok (.iload 7, 2) := by decide +kernel
theorem dF_scaledSum_97 : decode cF_scaledSum 97 = .ok (.iadd, 1) := by decide +kernel
theorem dF_scaledSum_98 : decode cF_scaledSum 98 = .ok (.iload 9, 2) := by decide +kernel
theorem dF_scaledSum_100 : decode cF_scaledSum 100 = .ok (.aload_n 0, 1) := by decide +kernel
theorem dF_scaledSum_101 : decode cF_scaledSum 101 = .ok (.getfield 12, 3) := by decide +kernel
theorem dF_scaledSum_104 : decode cF_scaledSum 104 = .ok (.getfield 161, 3) := by decide +kernel
theorem dF_scaledSum_107 : decode cF_scaledSum 107 = .ok (.iload 8, 2) := by decide +kernel
theorem dF_scaledSum_109 : decode cF_scaledSum 109 = .ok (.invokestatic 92, 3) := by decide +kernel
theorem dF_scaledSum_112 : decode cF_scaledSum 112 = .ok (.lreturn, 1) := by decide +kernel
theorem dF_quotient_0 : decode cF_quotient 0 = .ok (.lload_n 2, 1) := by decide +kernel
theorem dF_quotient_1 : decode cF_quotient 1 = .ok (.invokestatic 84, 3) := by decide +kernel
theorem dF_quotient_4 : decode cF_quotient 4 = .ok (.lload_n 2, 1) := by decide +kernel
theorem dF_quotient_5 : decode cF_quotient 5 = .ok (.invokestatic 164, 3) := by decide +kernel
theorem dF_quotient_8 : decode cF_quotient 8 = .ok (.lshl, 1) := by decide +kernel
theorem dF_quotient_9 : decode cF_quotient 9 = .ok (.lstore 5, 2) := by decide +kernel
theorem dF_quotient_11 : decode cF_quotient 11 = .ok (.lload_n 0, 1) := by decide +kernel
theorem dF_quotient_12 : decode cF_quotient 12 = .ok (.invokestatic 84, 3) := by decide +kernel
theorem dF_quotient_15 : decode cF_quotient 15 = .ok (.lload_n 0, 1) := by decide +kernel
theorem dF_quotient_16 : decode cF_quotient 16 = .ok (.invokestatic 164, 3) := by decide +kernel
theorem dF_quotient_19 : decode cF_quotient 19 = .ok (.lshl, 1) := by decide +kernel
theorem dF_quotient_20 : decode cF_quotient 20 = .ok (.lstore 7, 2) := by decide +kernel
theorem dF_quotient_22 : decode cF_quotient 22 = .ok (.lload_n 0, 1) := by decide +kernel
theorem dF_quotient_23 : decode cF_quotient 23 = .ok (.invokestatic 80, 3) := by decide +kernel
theorem dF_quotient_26 : decode cF_quotient 26 = .ok (.lload_n 0, 1) := by decide +kernel
theorem dF_quotient_27 : decode cF_quotient 27 = .ok (.invokestatic 164, 3) := by decide +kernel
theorem dF_quotient_30 : decode cF_quotient 30 = .ok (.isub, 1) := by decide +kernel
theorem dF_quotient_31 : decode cF_quotient 31 = .ok (.lload_n 2, 1) := by decide +kernel
theorem dF_quotient_32 : decode cF_quotient 32 = .ok (.invokestatic 80, 3) := by decide +kernel
theorem dF_quotient_35 : decode cF_quotient 35 = .ok (.isub, 1) := by decide +kernel
theorem dF_quotient_36 : decode cF_quotient 36 = .ok (.lload_n 2, 1) := by decide +kernel
theorem dF_quotient_37 : decode cF_quotient 37 = .ok (.invokestatic 164, 3) := by decide +kernel
theorem dF_quotient_40 : decode cF_quotient 40 = .ok (.iadd, 1) := by decide +kernel
theorem dF_quotient_41 : decode cF_quotient 41 = .ok (.istore 9, 2) := by decide +kernel
theorem dF_quotient_43 : decode cF_quotient 43 = .ok (.lconst 0, 1) := by decide +kernel
theorem dF_quotient_44 : decode cF_quotient 44 = .ok (.lstore 10, 2) := by decide +kernel
theorem dF_quotient_46 : decode cF_quotient 46 = .ok (.iconst 0, 1) := by decide +kernel
theorem dF_quotient_47 : decode cF_quotient 47 = .ok (.istore 12, 2) := by decide +kernel
theorem dF_quotient_49 : decode cF_quotient 49 = .ok (.iload 12, 2) := by decide +kernel
theorem dF_quotient_51 : decode cF_quotient 51 = .ok (.bipush 55, 2) := by decide +kernel
theorem dF_quotient_53 : decode cF_quotient 53 = .ok (.if_icmp .gt 42, 3) := by decide +kernel
theorem dF_quotient_56 : decode cF_quotient 56 = .ok (.lload 10, 2) := by decide +kernel
theorem dF_quotient_58 : decode cF_quotient 58 = .ok (.iconst 1, 1) := by decide +kernel
theorem dF_quotient_59 : decode cF_quotient 59 = .ok (.lshl, 1) := by decide +kernel
theorem dF_quotient_60 : decode cF_quotient 60 = .ok (.lstore 10, 2) := by decide +kernel
theorem dF_quotient_62 : decode cF_quotient 62 = .ok (.lload 7, 2) := by decide +kernel
theorem dF_quotient_64 : decode cF_quotient 64 = .ok (.lload 5, 2) := by decide +kernel
theorem dF_quotient_66 : decode cF_quotient 66 = .ok (.lcmp, 1) := by decide +kernel
theorem dF_quotient_67 : decode cF_quotient 67 = .ok (.ifCond .lt 16, 3) := by decide +kernel
theorem dF_quotient_70 : decode cF_quotient 70 = .ok (.lload 7, 2) := by decide +kernel
theorem dF_quotient_72 : decode cF_quotient 72 = .ok (.lload 5, 2) := by decide +kernel
theorem dF_quotient_74 : decode cF_quotient 74 = .ok (.lsub, 1) := by decide +kernel
theorem dF_quotient_75 : decode cF_quotient 75 = .ok (.lstore 7, 2) := by decide +kernel
theorem dF_quotient_77 : decode cF_quotient 77 = .ok (.lload 10, 2) := by decide +kernel
theorem dF_quotient_79 : decode cF_quotient 79 = .ok (.lconst 1, 1) := by decide +kernel
theorem dF_quotient_80 : decode cF_quotient 80 = .ok (.lor, 1) := by decide +kernel
theorem dF_quotient_81 : decode cF_quotient 81 = .ok (.lstore 10, 2) := by decide +kernel
theorem dF_quotient_83 : decode cF_quotient 83 = .ok (.lload 7, 2) := by decide +kernel
theorem dF_quotient_85 : decode cF_quotient 85 = .ok (.iconst 1, 1) := by decide +kernel
theorem dF_quotient_86 : decode cF_quotient 86 = .ok (.lshl, 1) := by decide +kernel
theorem dF_quotient_87 : decode cF_quotient 87 = .ok (.lstore 7, 2) := by decide +kernel
theorem dF_quotient_89 : decode cF_quotient 89 = .ok (.iinc 12 1, 3) := by decide +kernel
theorem dF_quotient_92 : decode cF_quotient 92 = .ok (.goto (-43), 3) := by decide +kernel
theorem dF_quotient_95 : decode cF_quotient 95 = .ok (.lload 10, 2) := by decide +kernel
theorem dF_quotient_97 : decode cF_quotient 97 = .ok (.iload 9, 2) := by decide +kernel
theorem dF_quotient_99 : decode cF_quotient 99 = .ok (.bipush 55, 2) := by decide +kernel
theorem dF_quotient_101 : decode cF_quotient 101 = .ok (.isub, 1) := by decide +kernel
theorem dF_quotient_102 : decode cF_quotient 102 = .ok (.lload 7, 2) := by decide +kernel
theorem dF_quotient_104 : decode cF_quotient 104 = .ok (.lconst 0, 1) := by decide +kernel
theorem dF_quotient_105 : decode cF_quotient 105 = .ok (.lcmp, 1) := by decide +kernel
theorem dF_quotient_106 : decode cF_quotient 106 = .ok (.ifCond .eq 7, 3) := by decide +kernel
theorem dF_quotient_109 : decode cF_quotient 109 = .ok (.iconst 1, 1) := by decide +kernel
theorem dF_quotient_110 : decode cF_quotient 110 = .ok (.goto 4, 3) := by decide +kernel
theorem dF_quotient_113 : decode cF_quotient 113 = .ok (.iconst 0, 1) := by decide +kernel
theorem dF_quotient_114 : decode cF_quotient 114 = .ok (.lload_n 0, 1) := by decide +kernel
theorem dF_quotient_115 : decode cF_quotient 115 = .ok (.lload_n 2, 1) := by decide +kernel
theorem dF_quotient_116 : decode cF_quotient 116 = .ok (.lxor, 1) := by decide +kernel
theorem dF_quotient_117 : decode cF_quotient 117 = .ok (.lconst 0, 1) := by decide +kernel
theorem dF_quotient_118 : decode cF_quotient 118 = .ok (.lcmp, 1) := by decide +kernel
theorem dF_quotient_119 : decode cF_quotient 119 = .ok (.ifCond .ge 7, 3) := by decide +kernel
theorem dF_quotient_122 : decode cF_quotient 122 = .ok (.iconst 1, 1) := by decide +kernel
theorem dF_quotient_123 : decode cF_quotient 123 = .ok (.goto 4, 3) := by decide +kernel
theorem dF_quotient_126 : decode cF_quotient 126 = .ok (.iconst 0, 1) := by decide +kernel
theorem dF_quotient_127 : decode cF_quotient 127 = .ok (.iload 4, 2) := by decide +kernel
theorem dF_quotient_129 : decode cF_quotient 129 = .ok (.invokestatic 92, 3) := by decide +kernel
theorem dF_quotient_132 : decode cF_quotient 132 = .ok (.lreturn, 1) := by decide +kernel
theorem dF_rootOfFinite_0 : decode cF_rootOfFinite 0 = .ok (.lload_n 0, 1) := by decide +kernel
theorem dF_rootOfFinite_1 : decode cF_rootOfFinite 1 = .ok (.invokestatic 84, 3) := by decide +kernel
theorem dF_rootOfFinite_4 : decode cF_rootOfFinite 4 = .ok (.lload_n 0, 1) := by decide +kernel
theorem dF_rootOfFinite_5 : decode cF_rootOfFinite 5 = .ok (.invokestatic 164, 3) := by decide +kernel
theorem dF_rootOfFinite_8 : decode cF_rootOfFinite 8 = .ok (.lshl, 1) := by decide +kernel
theorem dF_rootOfFinite_9 : decode cF_rootOfFinite 9 = .ok (.lstore_n 3, 1) := by decide +kernel
theorem dF_rootOfFinite_10 : decode cF_rootOfFinite 10 = .ok (.lload_n 0, 1) := by decide +kernel
theorem dF_rootOfFinite_11 : decode cF_rootOfFinite 11 = .ok (.invokestatic 80, 3) := by decide +kernel
theorem dF_rootOfFinite_14 : decode cF_rootOfFinite 14 = .ok (.lload_n 0, 1) := by decide +kernel
theorem dF_rootOfFinite_15 : decode cF_rootOfFinite 15 = .ok (.invokestatic 164, 3) := by decide +kernel
theorem dF_rootOfFinite_18 : decode cF_rootOfFinite 18 = .ok (.isub, 1) := by decide +kernel
theorem dF_rootOfFinite_19 : decode cF_rootOfFinite 19 = .ok (.istore 5, 2) := by decide +kernel
theorem dF_rootOfFinite_21 : decode cF_rootOfFinite 21 = .ok (.iload 5, 2) := by decide +kernel
theorem dF_rootOfFinite_23 : decode cF_rootOfFinite 23 = .ok (.iconst 1, 1) := by decide +kernel
theorem dF_rootOfFinite_24 : decode cF_rootOfFinite 24 = .ok (.iand, 1) := by decide +kernel
theorem dF_rootOfFinite_25 : decode cF_rootOfFinite 25 = .ok (.ifCond .eq 10, 3) := by decide +kernel
theorem dF_rootOfFinite_28 : decode cF_rootOfFinite 28 = .ok (.lload_n 3, 1) := by decide +kernel
theorem dF_rootOfFinite_29 : decode cF_rootOfFinite 29 = .ok (.iconst 1, 1) := by decide +kernel
theorem dF_rootOfFinite_30 : decode cF_rootOfFinite 30 = .ok (.lshl, 1) := by decide +kernel
theorem dF_rootOfFinite_31 : decode cF_rootOfFinite 31 = .ok (.lstore_n 3, 1) := by decide +kernel
theorem dF_rootOfFinite_32 : decode cF_rootOfFinite 32 = .ok (.iinc 5 (-1), 3) := by decide +kernel
theorem dF_rootOfFinite_35 : decode cF_rootOfFinite 35 = .ok (.lconst 0, 1) := by decide +kernel
theorem dF_rootOfFinite_36 : decode cF_rootOfFinite 36 = .ok (.lstore 6, 2) := by decide +kernel
theorem dF_rootOfFinite_38 : decode cF_rootOfFinite 38 = .ok (.lconst 0, 1) := by decide +kernel
theorem dF_rootOfFinite_39 : decode cF_rootOfFinite 39 = .ok (.lstore 8, 2) := by decide +kernel
theorem dF_rootOfFinite_41 : decode cF_rootOfFinite 41 = .ok (.iconst 1, 1) := by decide +kernel
theorem dF_rootOfFinite_42 : decode cF_rootOfFinite 42 = .ok (.istore 10, 2) := by decide +kernel
theorem dF_rootOfFinite_44 : decode cF_rootOfFinite 44 = .ok (.iload 10, 2) := by decide +kernel
theorem dF_rootOfFinite_46 : decode cF_rootOfFinite 46 = .ok (.bipush 55, 2) := by decide +kernel
theorem dF_rootOfFinite_48 : decode cF_rootOfFinite 48 = .ok (.if_icmp .gt 79, 3) := by decide +kernel
theorem dF_rootOfFinite_51 : decode cF_rootOfFinite 51 = .ok (.iload 10, 2) := by decide +kernel
theorem dF_rootOfFinite_53 : decode cF_rootOfFinite 53 = .ok (.bipush 27, 2) := by decide +kernel
theorem dF_rootOfFinite_55 : decode cF_rootOfFinite 55 = .ok (.if_icmp .gt 19, 3) := by decide +kernel
theorem dF_rootOfFinite_58 : decode cF_rootOfFinite 58 = .ok (.lload_n 3, 1) := by decide +kernel
theorem dF_rootOfFinite_59 : decode cF_rootOfFinite 59 = .ok (.iconst 2, 1) := by decide +kernel
theorem dF_rootOfFinite_60 : decode cF_rootOfFinite 60 = .ok (.bipush 27, 2) := by decide +kernel
theorem dF_rootOfFinite_62 : decode cF_rootOfFinite 62 = .ok (.iload 10, 2) := by decide +kernel
theorem dF_rootOfFinite_64 : decode cF_rootOfFinite 64 = .ok (.isub, 1) := by decide +kernel
theorem dF_rootOfFinite_65 : decode cF_rootOfFinite 65 = .ok (.imul, 1) := by decide +kernel
theorem dF_rootOfFinite_66 : decode cF_rootOfFinite 66 = .ok (.lushr, 1) := by decide +kernel
theorem dF_rootOfFinite_67 : decode cF_rootOfFinite 67 = .ok (.ldc2_w 167, 3) := by decide +kernel
theorem dF_rootOfFinite_70 : decode cF_rootOfFinite 70 = .ok (.land, 1) := by decide +kernel
theorem dF_rootOfFinite_71 : decode cF_rootOfFinite 71 = .ok (.goto 4, 3) := by decide +kernel
theorem dF_rootOfFinite_74 : decode cF_rootOfFinite 74 = .ok (.lconst 0, 1) := by decide +kernel
theorem dF_rootOfFinite_75 : decode cF_rootOfFinite 75 = .ok (.lstore 11, 2) := by decide +kernel
theorem dF_rootOfFinite_77 : decode cF_rootOfFinite 77 = .ok (.lload 8, 2) := by decide +kernel
theorem dF_rootOfFinite_79 : decode cF_rootOfFinite 79 = .ok (.iconst 2, 1) := by decide +kernel
theorem dF_rootOfFinite_80 : decode cF_rootOfFinite 80 = .ok (.lshl, 1) := by decide +kernel
theorem dF_rootOfFinite_81 : decode cF_rootOfFinite 81 = .ok (.lload 11, 2) := by decide +kernel
theorem dF_rootOfFinite_83 : decode cF_rootOfFinite 83 = .ok (.lor, 1) := by decide +kernel
theorem dF_rootOfFinite_84 : decode cF_rootOfFinite 84 = .ok (.lstore 8, 2) := by decide +kernel
theorem dF_rootOfFinite_86 : decode cF_rootOfFinite 86 = .ok (.lload 6, 2) := by decide +kernel
theorem dF_rootOfFinite_88 : decode cF_rootOfFinite 88 = .ok (.iconst 2, 1) := by decide +kernel
theorem dF_rootOfFinite_89 : decode cF_rootOfFinite 89 = .ok (.lshl, 1) := by decide +kernel
theorem dF_rootOfFinite_90 : decode cF_rootOfFinite 90 = .ok (.lconst 1, 1) := by decide +kernel
theorem dF_rootOfFinite_91 : decode cF_rootOfFinite 91 = .ok (.lor, 1) := by decide +kernel
theorem dF_rootOfFinite_92 : decode cF_rootOfFinite 92 = .ok (.lstore 13, 2) := by decide +kernel
theorem dF_rootOfFinite_94 : decode cF_rootOfFinite 94 = .ok (.lload 6, 2) := by decide +kernel
theorem dF_rootOfFinite_96 : decode cF_rootOfFinite 96 = .ok (.iconst 1, 1) := by decide +kernel
theorem dF_rootOfFinite_97 : decode cF_rootOfFinite 97 = .ok (.lshl, 1) := by decide +kernel
theorem dF_rootOfFinite_98 : decode cF_rootOfFinite 98 = .ok (.lstore 6, 2) := by decide +kernel
theorem dF_rootOfFinite_100 : decode cF_rootOfFinite 100 = .ok (.lload 8, 2) := by decide +kernel
theorem dF_rootOfFinite_102 : decode cF_rootOfFinite 102 = .ok (.lload 13, 2) := by decide +kernel
theorem dF_rootOfFinite_104 : decode cF_rootOfFinite 104 = .ok (.lcmp, 1) := by decide +kernel
theorem dF_rootOfFinite_105 : decode cF_rootOfFinite 105 = .ok (.ifCond .lt 16, 3) := by decide +kernel
theorem dF_rootOfFinite_108 : decode cF_rootOfFinite 108 = .ok (.lload 8, 2) := by decide +kernel
theorem dF_rootOfFinite_110 : decode cF_rootOfFinite 110 = .ok (.lload 13, 2) := by decide +kernel
theorem dF_rootOfFinite_112 : decode cF_rootOfFinite 112 = .ok (.lsub, 1) := by decide +kernel
theorem dF_rootOfFinite_113 : decode cF_rootOfFinite 113 = .ok (.lstore 8, 2) := by decide +kernel
theorem dF_rootOfFinite_115 : decode cF_rootOfFinite 115 = .ok (.lload 6, 2) := by decide +kernel
theorem dF_rootOfFinite_117 : decode cF_rootOfFinite 117 = .ok (.lconst 1, 1) := by decide +kernel
theorem dF_rootOfFinite_118 : decode cF_rootOfFinite 118 = .ok (.lor, 1) := by decide +kernel
theorem dF_rootOfFinite_119 : decode cF_rootOfFinite 119 = .ok (.lstore 6, 2) := by decide +kernel
theorem dF_rootOfFinite_121 : decode cF_rootOfFinite 121 = .ok (.iinc 10 1, 3) := by decide +kernel
theorem dF_rootOfFinite_124 : decode cF_rootOfFinite 124 = .ok (.goto (-80), 3) := by decide +kernel
theorem dF_rootOfFinite_127 : decode cF_rootOfFinite 127 = .ok (.lload 6, 2) := by decide +kernel
theorem dF_rootOfFinite_129 : decode cF_rootOfFinite 129 = .ok (.iload 5, 2) := by decide +kernel
theorem dF_rootOfFinite_131 : decode cF_rootOfFinite 131 = .ok (.iconst 2, 1) := by decide +kernel
theorem dF_rootOfFinite_132 : decode cF_rootOfFinite 132 = .ok (.idiv, 1) := by decide +kernel
theorem dF_rootOfFinite_133 : decode cF_rootOfFinite 133 = .ok (.bipush 28, 2) := by decide +kernel
theorem dF_rootOfFinite_135 : decode cF_rootOfFinite 135 = .ok (.isub, 1) := by decide +kernel
theorem dF_rootOfFinite_136 : decode cF_rootOfFinite 136 = .ok (.lload 8, 2) := by decide +kernel
theorem dF_rootOfFinite_138 : decode cF_rootOfFinite 138 = .ok (.lconst 0, 1) := by decide +kernel
theorem dF_rootOfFinite_139 : decode cF_rootOfFinite 139 = .ok (.lcmp, 1) := by decide +kernel
theorem dF_rootOfFinite_140 : decode cF_rootOfFinite 140 = .ok (.ifCond .eq 7, 3) := by decide +kernel
theorem dF_rootOfFinite_143 : decode cF_rootOfFinite 143 = .ok (.iconst 1, 1) := by decide +kernel
theorem dF_rootOfFinite_144 : decode cF_rootOfFinite 144 = .ok (.goto 4, 3) := by decide +kernel
theorem dF_rootOfFinite_147 : decode cF_rootOfFinite 147 = .ok (.iconst 0, 1) := by decide +kernel
theorem dF_rootOfFinite_148 : decode cF_rootOfFinite 148 = .ok (.iconst 0, 1) := by decide +kernel
theorem dF_rootOfFinite_149 : decode cF_rootOfFinite 149 = .ok (.iload_n 2, 1) := by decide +kernel
theorem dF_rootOfFinite_150 : decode cF_rootOfFinite 150 = .ok (.invokestatic 92, 3) := by decide +kernel
theorem dF_rootOfFinite_153 : decode cF_rootOfFinite 153 = .ok (.lreturn, 1) := by decide +kernel
theorem dF_powerOfFinite_0 : decode cF_powerOfFinite 0 = .ok (.lload_n 1, 1) := by decide +kernel
theorem dF_powerOfFinite_1 : decode cF_powerOfFinite 1 = .ok (.invokestatic 84, 3) := by decide +kernel
theorem dF_powerOfFinite_4 : decode cF_powerOfFinite 4 = .ok (.invokestatic 169, 3) := by decide +kernel
theorem dF_powerOfFinite_7 : decode cF_powerOfFinite 7 = .ok (.istore 6, 2) := by decide +kernel
theorem dF_powerOfFinite_9 : decode cF_powerOfFinite 9 = .ok (.lload_n 1, 1) := by decide +kernel
theorem dF_powerOfFinite_10 : decode cF_powerOfFinite 10 = .ok (.invokestatic 84, 3) := by decide +kernel
theorem dF_powerOfFinite_13 : decode cF_powerOfFinite 13 = .ok (.iload 6, 2) := by decide +kernel
theorem dF_powerOfFinite_15 : decode cF_powerOfFinite 15 = .ok (.lushr, 1) := by decide +kernel
theorem dF_powerOfFinite_16 : decode cF_powerOfFinite 16 = .ok (.lstore 7, 2) := by decide +kernel
theorem dF_powerOfFinite_18 : decode cF_powerOfFinite 18 = .ok (.lload_n 1, 1) := by decide +kernel
theorem dF_powerOfFinite_19 : decode cF_powerOfFinite 19 = .ok (.invokestatic 80, 3) := by decide +kernel
theorem dF_powerOfFinite_22 : decode cF_powerOfFinite 22 = .ok (.iload 6, 2) := by decide +kernel
theorem dF_powerOfFinite_24 : decode cF_powerOfFinite 24 = .ok (.iadd, 1) := by decide +kernel
theorem dF_powerOfFinite_25 : decode cF_powerOfFinite 25 = .ok (.iload_n 3, 1) := by decide +kernel
theorem dF_powerOfFinite_26 : decode cF_powerOfFinite 26 = .ok (.imul, 1) := by decide +kernel
theorem dF_powerOfFinite_27 : decode cF_powerOfFinite 27 = .ok (.istore 9, 2) := by decide +kernel
theorem dF_powerOfFinite_29 : decode cF_powerOfFinite 29 = .ok (.lload 7, 2) := by decide +kernel
theorem dF_powerOfFinite_31 : decode cF_powerOfFinite 31 = .ok (.lconst 1, 1) := by decide +kernel
theorem dF_powerOfFinite_32 : decode cF_powerOfFinite 32 = .ok (.lcmp, 1) := by decide +kernel
theorem dF_powerOfFinite_33 : decode cF_powerOfFinite 33 = .ok (.ifCond .ne 15, 3) := by decide +kernel
theorem dF_powerOfFinite_36 : decode cF_powerOfFinite 36 = .ok (.lconst 1, 1) := by decide +kernel
theorem dF_powerOfFinite_37 : decode cF_powerOfFinite 37 = .ok (.iload 9, 2) := by decide +kernel
theorem dF_powerOfFinite_39 : decode cF_powerOfFinite 39 = .ok (.iconst 0, 1) := by decide +kernel
theorem dF_powerOfFinite_40 : decode cF_powerOfFinite 40 = .ok (.iload 4, 2) := by decide +kernel
theorem dF_powerOfFinite_42 : decode cF_powerOfFinite 42 = .ok (.iload 5, 2) := by decide +kernel
theorem dF_powerOfFinite_44 : decode cF_powerOfFinite 44 = .ok (.invokestatic 92, 3) := by decide +kernel
theorem dF_powerOfFinite_47 : decode cF_powerOfFinite 47 = .ok (.lreturn, 1) := by decide +kernel
theorem dF_powerOfFinite_48 : decode cF_powerOfFinite 48 = .ok (.aload_n 0, 1) := by decide +kernel
theorem dF_powerOfFinite_49 : decode cF_powerOfFinite 49 = .ok (.getfield 22, 3) := by decide +kernel
theorem dF_powerOfFinite_52 : decode cF_powerOfFinite 52 = .ok (.lload 7, 2) := by decide +kernel
theorem dF_powerOfFinite_54 : decode cF_powerOfFinite 54 = .ok (.iload_n 3, 1) := by decide +kernel
theorem dF_powerOfFinite_55 : decode cF_powerOfFinite 55 = .ok (.invokestatic 172, 3) := by decide +kernel
theorem dF_powerOfFinite_58 : decode cF_powerOfFinite 58 = .ok (.invokevirtual 176, 3) := by decide +kernel
theorem dF_powerOfFinite_61 : decode cF_powerOfFinite 61 = .ok (.aload_n 0, 1) := by decide +kernel
theorem dF_powerOfFinite_62 : decode cF_powerOfFinite 62 = .ok (.getfield 22, 3) := by decide +kernel
theorem dF_powerOfFinite_65 : decode cF_powerOfFinite 65 = .ok (.invokevirtual 180, 3) := by decide +kernel
theorem dF_powerOfFinite_68 : decode cF_powerOfFinite 68 = .ok (.istore 10, 2) := by decide +kernel
theorem dF_powerOfFinite_70 : decode cF_powerOfFinite 70 = .ok (.iload_n 3, 1) := by decide +kernel
theorem dF_powerOfFinite_71 : decode cF_powerOfFinite 71 = .ok (.ifCond .ge 28, 3) := by decide +kernel
theorem dF_powerOfFinite_74 : decode cF_powerOfFinite 74 = .ok (.aload_n 0, 1) := by decide +kernel
theorem dF_powerOfFinite_75 : decode cF_powerOfFinite 75 = .ok (.iload 10, 2) := by decide +kernel
theorem dF_powerOfFinite_77 : decode cF_powerOfFinite 77 = .ok (.invokevirtual 184, 3) := by decide +kernel
theorem dF_powerOfFinite_80 : decode cF_powerOfFinite 80 = .ok (.iload 9, 2) := by decide +kernel
theorem dF_powerOfFinite_82 : decode cF_powerOfFinite 82 = .ok (.iload 10, 2) := by decide +kernel
theorem dF_powerOfFinite_84 : decode cF_powerOfFinite 84 = .ok (.iconst 1, 1) := by decide +kernel
theorem dF_powerOfFinite_85 : decode cF_powerOfFinite 85 = .ok (.isub, 1) := by decide +kernel
theorem dF_powerOfFinite_86 : decode cF_powerOfFinite 86 = .ok (.isub, 1) := by decide +kernel
theorem dF_powerOfFinite_87 : decode cF_powerOfFinite 87 = .ok (.bipush 55, 2) := by decide +kernel
theorem dF_powerOfFinite_89 : decode cF_powerOfFinite 89 = .ok (.isub, 1) := by decide +kernel
theorem dF_powerOfFinite_90 : decode cF_powerOfFinite 90 = .ok (.iconst 1, 1) := by decide +kernel
theorem dF_powerOfFinite_91 : decode cF_powerOfFinite 91 = .ok (.iload 4, 2) := by decide +kernel
theorem dF_powerOfFinite_93 : decode cF_powerOfFinite 93 = .ok (.iload 5, 2) := by decide +kernel
theorem dF_powerOfFinite_95 : decode cF_powerOfFinite 95 = .ok (.invokestatic 92, 3) := by decide +kernel
theorem dF_powerOfFinite_98 : decode cF_powerOfFinite 98 = .ok (.lreturn, 1) := by decide +kernel
theorem dF_powerOfFinite_99 : decode cF_powerOfFinite 99 = .ok (.iload 10, 2) := by decide +kernel
theorem dF_powerOfFinite_101 : decode cF_powerOfFinite 101 = .ok (.bipush 60, 2) := by decide +kernel
theorem dF_powerOfFinite_103 : decode cF_powerOfFinite 103 = .ok (.invokestatic 188, 3) := by decide +kernel
theorem dF_powerOfFinite_106 : decode cF_powerOfFinite 106 = .ok (.istore 11, 2) := by decide +kernel
theorem dF_powerOfFinite_108 : decode cF_powerOfFinite 108 = .ok (.aload_n 0, 1) := by decide +kernel
theorem dF_powerOfFinite_109 : decode cF_powerOfFinite 109 = .ok (.getfield 22, 3) := by decide +kernel
theorem dF_powerOfFinite_112 : decode cF_powerOfFinite 112 = .ok (.iload 11, 2) := by decide +kernel
theorem dF_powerOfFinite_114 : decode cF_powerOfFinite 114 = .ok (.invokevirtual 191, 3) := by decide +kernel
theorem dF_powerOfFinite_117 : decode cF_powerOfFinite 117 = .ok (.iload 9, 2) := by decide +kernel
theorem dF_powerOfFinite_119 : decode cF_powerOfFinite 119 = .ok (.iload 10, 2) := by decide +kernel
theorem dF_powerOfFinite_121 : decode cF_powerOfFinite 121 = .ok (.iadd, 1) := by decide +kernel
theorem dF_powerOfFinite_122 : decode cF_powerOfFinite 122 = .ok (.iload 11, 2) := by decide +kernel
theorem dF_powerOfFinite_124 : decode cF_powerOfFinite 124 = .ok (.isub, 1) := by decide +kernel
theorem dF_powerOfFinite_125 : decode cF_powerOfFinite 125 = .ok (.iload 11, 2) := by decide +kernel
theorem dF_powerOfFinite_127 : decode cF_powerOfFinite 127 = .ok (.iload 10, 2) := by decide +kernel
theorem dF_powerOfFinite_129 : decode cF_powerOfFinite 129 = .ok (.if_icmp .ge 7, 3) := by decide +kernel
theorem dF_powerOfFinite_132 : decode cF_powerOfFinite 132 = .ok (.iconst 1, 1) := by decide +kernel
theorem dF_powerOfFinite_133 : decode cF_powerOfFinite 133 = .ok (.goto 4, 3) := by decide +kernel
theorem dF_powerOfFinite_136 : decode cF_powerOfFinite 136 = .ok (.iconst 0, 1) := by decide +kernel
theorem dF_powerOfFinite_137 : decode cF_powerOfFinite 137 = .ok (.iload 4, 2) := by decide +kernel
theorem dF_powerOfFinite_139 : decode cF_powerOfFinite 139 = .ok (.iload 5, 2) := by decide +kernel
theorem dF_powerOfFinite_141 : decode cF_powerOfFinite 141 = .ok (.invokestatic 92, 3) := by decide +kernel
theorem dF_powerOfFinite_144 : decode cF_powerOfFinite 144 = .ok (.lreturn, 1) := by decide +kernel
theorem dF_reciprocal_0 : decode cF_reciprocal 0 = .ok (.aload_n 0, 1) := by decide +kernel
theorem dF_reciprocal_1 : decode cF_reciprocal 1 = .ok (.getfield 26, 3) := by decide +kernel
theorem dF_reciprocal_4 : decode cF_reciprocal 4 = .ok (.iload_n 1, 1) := by decide +kernel
theorem dF_reciprocal_5 : decode cF_reciprocal 5 = .ok (.iconst 1, 1) := by decide +kernel
theorem dF_reciprocal_6 : decode cF_reciprocal 6 = .ok (.isub, 1) := by decide +kernel
theorem dF_reciprocal_7 : decode cF_reciprocal 7 = .ok (.invokevirtual 194, 3) := by decide +kernel
theorem dF_reciprocal_10 : decode cF_reciprocal 10 = .ok (.lconst 0, 1) := by decide +kernel
theorem dF_reciprocal_11 : decode cF_reciprocal 11 = .ok (.lstore_n 2, 1) := by decide +kernel
theorem dF_reciprocal_12 : decode cF_reciprocal 12 = .ok (.iconst 0, 1) := by decide +kernel
theorem dF_reciprocal_13 : decode cF_reciprocal 13 = .ok (.istore 4, 2) := by decide +kernel
theorem dF_reciprocal_15 : decode cF_reciprocal 15 = .ok (.iload 4, 2) := by decide +kernel
theorem dF_reciprocal_17 : decode cF_reciprocal 17 = .ok (.bipush 55, 2) := by decide +kernel
theorem dF_reciprocal_19 : decode cF_reciprocal 19 = .ok (.if_icmp .ge 49, 3) := by decide +kernel
theorem dF_reciprocal_22 : decode cF_reciprocal 22 = .ok (.aload_n 0, 1) := by decide +kernel
theorem dF_reciprocal_23 : decode cF_reciprocal 23 = .ok (.getfield 26, 3) := by decide +kernel
theorem dF_reciprocal_26 : decode cF_reciprocal 26 = .ok (.invokevirtual 198, 3) := by decide +kernel
theorem dF_reciprocal_29 : decode cF_reciprocal 29 = .ok (.lload_n 2, 1) := by decide +kernel
theorem dF_reciprocal_30 : decode cF_reciprocal 30 = .ok (.iconst 1, 1) := by decide +kernel
theorem dF_reciprocal_31 : decode cF_reciprocal 31 = .ok (.lshl, 1) := by decide +kernel
theorem dF_reciprocal_32 : decode cF_reciprocal 32 = .ok (.lstore_n 2, 1) := by decide +kernel
theorem dF_reciprocal_33 : decode cF_reciprocal 33 = .ok (.aload_n 0, 1) := by decide +kernel
theorem dF_reciprocal_34 : decode cF_reciprocal 34 = .ok (.getfield 26, 3) := by decide +kernel
theorem dF_reciprocal_37 : decode cF_reciprocal 37 = .ok (.aload_n 0, 1) := by decide +kernel
theorem dF_reciprocal_38 : decode cF_reciprocal 38 = .ok (.getfield 22, 3) := by decide +kernel
theorem dF_reciprocal_41 : decode cF_reciprocal 41 = .ok (.invokevirtual 201, 3) := by decide +kernel
theorem dF_reciprocal_44 : decode cF_reciprocal 44 = .ok (.ifCond .ne 18, 3) := by decide +kernel
theorem dF_reciprocal_47 : decode cF_reciprocal 47 = .ok (.aload_n 0, 1) := by decide +kernel
theorem dF_reciprocal_48 : decode cF_reciprocal 48 = .ok (.getfield 26, 3) := by decide +kernel
theorem dF_reciprocal_51 : decode cF_reciprocal 51 = .ok (.aload_n 0, 1) := by decide +kernel
theorem dF_reciprocal_52 : decode cF_reciprocal 52 = .ok (.getfield 22, 3) := by decide +kernel
theorem dF_reciprocal_55 : decode cF_reciprocal 55 = .ok (.invokevirtual 205, 3) := by decide +kernel
theorem dF_reciprocal_58 : decode cF_reciprocal 58 = .ok (.lload_n 2, 1) := by decide +kernel
theorem dF_reciprocal_59 : decode cF_reciprocal 59 = .ok (.lconst 1, 1) := by decide +kernel
theorem dF_reciprocal_60 : decode cF_reciprocal 60 = .ok (.lor, 1) := by decide +kernel
theorem dF_reciprocal_61 : decode cF_reciprocal 61 = .ok (.lstore_n 2, 1) := by decide +kernel
theorem dF_reciprocal_62 : decode cF_reciprocal 62 = .ok (.iinc 4 1, 3) := by decide +kernel
theorem dF_reciprocal_65 : decode cF_reciprocal 65 = .ok (.goto (-50), 3) := by decide +kernel
theorem dF_reciprocal_68 : decode cF_reciprocal 68 = .ok (.lload_n 2, 1) := by decide +kernel
theorem dF_reciprocal_69 : decode cF_reciprocal 69 = .ok (.lreturn, 1) := by decide +kernel
theorem dI_numberOfLeadingZeros_0 : decode cI_numberOfLeadingZeros 0 = .ok (.iload_n 0, 1) := by decide +kernel
theorem dI_numberOfLeadingZeros_1 : decode cI_numberOfLeadingZeros 1 = .ok (.ifCond .gt 14, 3) := by decide +kernel
theorem dI_numberOfLeadingZeros_4 : decode cI_numberOfLeadingZeros 4 = .ok (.iload_n 0, 1) := by decide +kernel
theorem dI_numberOfLeadingZeros_5 : decode cI_numberOfLeadingZeros 5 = .ok (.ifCond .ne 8, 3) := by decide +kernel
theorem dI_numberOfLeadingZeros_8 : decode cI_numberOfLeadingZeros 8 = .ok (.bipush 32, 2) := by decide +kernel
theorem dI_numberOfLeadingZeros_10 : decode cI_numberOfLeadingZeros 10 = .ok (.goto 4, 3) := by decide +kernel
theorem dI_numberOfLeadingZeros_13 : decode cI_numberOfLeadingZeros 13 = .ok (.iconst 0, 1) := by decide +kernel
theorem dI_numberOfLeadingZeros_14 : decode cI_numberOfLeadingZeros 14 = .ok (.ireturn, 1) := by decide +kernel
theorem dI_numberOfLeadingZeros_15 : decode cI_numberOfLeadingZeros 15 = .ok (.bipush 31, 2) := by decide +kernel
theorem dI_numberOfLeadingZeros_17 : decode cI_numberOfLeadingZeros 17 = .ok (.istore_n 1, 1) := by decide +kernel
theorem dI_numberOfLeadingZeros_18 : decode cI_numberOfLeadingZeros 18 = .ok (.iload_n 0, 1) := by decide +kernel
theorem dI_numberOfLeadingZeros_19 : decode cI_numberOfLeadingZeros 19 = .ok (.ldc_w 264, 3) := by decide +kernel
theorem dI_numberOfLeadingZeros_22 : decode cI_numberOfLeadingZeros 22 = .ok (.if_icmp .lt 11, 3) := by decide +kernel
theorem dI_numberOfLeadingZeros_25 : decode cI_numberOfLeadingZeros 25 = .ok (.iinc 1 (-16), 3) := by decide +kernel
theorem dI_numberOfLeadingZeros_28 : decode cI_numberOfLeadingZeros 28 = .ok (.iload_n 0, 1) := by decide +kernel
theorem dI_numberOfLeadingZeros_29 : decode cI_numberOfLeadingZeros 29 = .ok (.bipush 16, 2) := by decide +kernel
theorem dI_numberOfLeadingZeros_31 : decode cI_numberOfLeadingZeros 31 = .ok (.iushr, 1) := by decide +kernel
theorem dI_numberOfLeadingZeros_32 : decode cI_numberOfLeadingZeros 32 = .ok (.istore_n 0, 1) := by decide +kernel
theorem dI_numberOfLeadingZeros_33 : decode cI_numberOfLeadingZeros 33 = .ok (.iload_n 0, 1) := by decide +kernel
theorem dI_numberOfLeadingZeros_34 : decode cI_numberOfLeadingZeros 34 = .ok (.sipush 256, 3) := by decide +kernel
theorem dI_numberOfLeadingZeros_37 : decode cI_numberOfLeadingZeros 37 = .ok (.if_icmp .lt 11, 3) := by decide +kernel
theorem dI_numberOfLeadingZeros_40 : decode cI_numberOfLeadingZeros 40 = .ok (.iinc 1 (-8), 3) := by decide +kernel
theorem dI_numberOfLeadingZeros_43 : decode cI_numberOfLeadingZeros 43 = .ok (.iload_n 0, 1) := by decide +kernel
theorem dI_numberOfLeadingZeros_44 : decode cI_numberOfLeadingZeros 44 = .ok (.bipush 8, 2) := by decide +kernel
theorem dI_numberOfLeadingZeros_46 : decode cI_numberOfLeadingZeros 46 = .ok (.iushr, 1) := by decide +kernel
theorem dI_numberOfLeadingZeros_47 : decode cI_numberOfLeadingZeros 47 = .ok (.istore_n 0, 1) := by decide +kernel
theorem dI_numberOfLeadingZeros_48 : decode cI_numberOfLeadingZeros 48 = .ok (.iload_n 0, 1) := by decide +kernel
theorem dI_numberOfLeadingZeros_49 : decode cI_numberOfLeadingZeros 49 = .ok (.bipush 16, 2) := by decide +kernel
theorem dI_numberOfLeadingZeros_51 : decode cI_numberOfLeadingZeros 51 = .ok (.if_icmp .lt 10, 3) := by decide +kernel
theorem dI_numberOfLeadingZeros_54 : decode cI_numberOfLeadingZeros 54 = .ok (.iinc 1 (-4), 3) := by decide +kernel
theorem dI_numberOfLeadingZeros_57 : decode cI_numberOfLeadingZeros 57 = .ok (.iload_n 0, 1) := by decide +kernel
theorem dI_numberOfLeadingZeros_58 : decode cI_numberOfLeadingZeros 58 = .ok (.iconst 4, 1) := by decide +kernel
theorem dI_numberOfLeadingZeros_59 : decode cI_numberOfLeadingZeros 59 = .ok (.iushr, 1) := by decide +kernel
theorem dI_numberOfLeadingZeros_60 : decode cI_numberOfLeadingZeros 60 = .ok (.istore_n 0, 1) := by decide +kernel
theorem dI_numberOfLeadingZeros_61 : decode cI_numberOfLeadingZeros 61 = .ok (.iload_n 0, 1) := by decide +kernel
theorem dI_numberOfLeadingZeros_62 : decode cI_numberOfLeadingZeros 62 = .ok (.iconst 4, 1) := by decide +kernel
theorem dI_numberOfLeadingZeros_63 : decode cI_numberOfLeadingZeros 63 = .ok (.if_icmp .lt 10, 3) := by decide +kernel
theorem dI_numberOfLeadingZeros_66 : decode cI_numberOfLeadingZeros 66 = .ok (.iinc 1 (-2), 3) := by decide +kernel
theorem dI_numberOfLeadingZeros_69 : decode cI_numberOfLeadingZeros 69 = .ok (.iload_n 0, 1) := by decide +kernel
theorem dI_numberOfLeadingZeros_70 : decode cI_numberOfLeadingZeros 70 = .ok (.iconst 2, 1) := by decide +kernel
theorem dI_numberOfLeadingZeros_71 : decode cI_numberOfLeadingZeros 71 = .ok (.iushr, 1) := by decide +kernel
theorem dI_numberOfLeadingZeros_72 : decode cI_numberOfLeadingZeros 72 = .ok (.istore_n 0, 1) := by decide +kernel
theorem dI_numberOfLeadingZeros_73 : decode cI_numberOfLeadingZeros 73 = .ok (.iload_n 1, 1) := by decide +kernel
theorem dI_numberOfLeadingZeros_74 : decode cI_numberOfLeadingZeros 74 = .ok (.iload_n 0, 1) := by decide +kernel
theorem dI_numberOfLeadingZeros_75 : decode cI_numberOfLeadingZeros 75 = .ok (.iconst 1, 1) := by decide +kernel
theorem dI_numberOfLeadingZeros_76 : decode cI_numberOfLeadingZeros 76 = .ok (.iushr, 1) := by decide +kernel
theorem dI_numberOfLeadingZeros_77 : decode cI_numberOfLeadingZeros 77 = .ok (.isub, 1) := by decide +kernel
theorem dI_numberOfLeadingZeros_78 : decode cI_numberOfLeadingZeros 78 = .ok (.ireturn, 1) := by decide +kernel
theorem dI_numberOfTrailingZeros_0 : decode cI_numberOfTrailingZeros 0 = .ok (.iload_n 0, 1) := by decide +kernel
theorem dI_numberOfTrailingZeros_1 : decode cI_numberOfTrailingZeros 1 = .ok (.iconst (-1), 1) := by decide +kernel
theorem dI_numberOfTrailingZeros_2 : decode cI_numberOfTrailingZeros 2 = .ok (.ixor, 1) := by decide +kernel
theorem dI_numberOfTrailingZeros_3 : decode cI_numberOfTrailingZeros 3 = .ok (.iload_n 0, 1) := by decide +kernel
theorem dI_numberOfTrailingZeros_4 : decode cI_numberOfTrailingZeros 4 = .ok (.iconst 1, 1) := by decide +kernel
theorem dI_numberOfTrailingZeros_5 : decode cI_numberOfTrailingZeros 5 = .ok (.isub, 1) := by decide +kernel
theorem dI_numberOfTrailingZeros_6 : decode cI_numberOfTrailingZeros 6 = .ok (.iand, 1) := by decide +kernel
theorem dI_numberOfTrailingZeros_7 : decode cI_numberOfTrailingZeros 7 = .ok (.istore_n 0, 1) := by decide +kernel
theorem dI_numberOfTrailingZeros_8 : decode cI_numberOfTrailingZeros 8 = .ok (.iload_n 0, 1) := by decide +kernel
theorem dI_numberOfTrailingZeros_9 : decode cI_numberOfTrailingZeros 9 = .ok (.ifCond .gt 8, 3) := by decide +kernel
theorem dI_numberOfTrailingZeros_12 : decode cI_numberOfTrailingZeros 12 = .ok (.iload_n 0, 1) := by decide +kernel
theorem dI_numberOfTrailingZeros_13 : decode cI_numberOfTrailingZeros 13 = .ok (.bipush 32, 2) := by decide +kernel
theorem dI_numberOfTrailingZeros_15 : decode cI_numberOfTrailingZeros 15 = .ok (.iand, 1) := by decide +kernel
theorem dI_numberOfTrailingZeros_16 : decode cI_numberOfTrailingZeros 16 = .ok (.ireturn, 1) := by decide +kernel
theorem dI_numberOfTrailingZeros_17 : decode cI_numberOfTrailingZeros 17 = .ok (.iconst 1, 1) := by decide +kernel
theorem dI_numberOfTrailingZeros_18 : decode cI_numberOfTrailingZeros 18 = .ok (.istore_n 1, 1) := by decide +kernel
theorem dI_numberOfTrailingZeros_19 : decode cI_numberOfTrailingZeros 19 = .ok (.iload_n 0, 1) := by decide +kernel
theorem dI_numberOfTrailingZeros_20 : decode cI_numberOfTrailingZeros 20 = .ok (.ldc_w 264, 3) := by decide +kernel
theorem dI_numberOfTrailingZeros_23 : decode cI_numberOfTrailingZeros 23 = .ok (.if_icmp .le 11, 3) := by decide +kernel
theorem dI_numberOfTrailingZeros_26 : decode cI_numberOfTrailingZeros 26 = .ok (.iinc 1 16, 3) := by decide +kernel
theorem dI_numberOfTrailingZeros_29 : decode cI_numberOfTrailingZeros 29 = .ok (.iload_n 0, 1) := by decide +kernel
theorem dI_numberOfTrailingZeros_30 : decode cI_numberOfTrailingZeros 30 = .ok (.bipush 16, 2) := by decide +kernel
theorem dI_numberOfTrailingZeros_32 : decode cI_numberOfTrailingZeros 32 = .ok (.iushr, 1) := by decide +kernel
theorem dI_numberOfTrailingZeros_33 : decode cI_numberOfTrailingZeros 33 = .ok (.istore_n 0, 1) := by decide +kernel
theorem dI_numberOfTrailingZeros_34 : decode cI_numberOfTrailingZeros 34 = .ok (.iload_n 0, 1) := by decide +kernel
theorem dI_numberOfTrailingZeros_35 : decode cI_numberOfTrailingZeros 35 = .ok (.sipush 256, 3) := by decide +kernel
theorem dI_numberOfTrailingZeros_38 : decode cI_numberOfTrailingZeros 38 = .ok (.if_icmp .le 11, 3) := by decide +kernel
theorem dI_numberOfTrailingZeros_41 : decode cI_numberOfTrailingZeros 41 = .ok (.iinc 1 8, 3) := by decide +kernel
theorem dI_numberOfTrailingZeros_44 : decode cI_numberOfTrailingZeros 44 = .ok (.iload_n 0, 1) := by decide +kernel
theorem dI_numberOfTrailingZeros_45 : decode cI_numberOfTrailingZeros 45 = .ok (.bipush 8, 2) := by decide +kernel
theorem dI_numberOfTrailingZeros_47 : decode cI_numberOfTrailingZeros 47 = .ok (.iushr, 1) := by decide +kernel
theorem dI_numberOfTrailingZeros_48 : decode cI_numberOfTrailingZeros 48 = .ok (.istore_n 0, 1) := by decide +kernel
theorem dI_numberOfTrailingZeros_49 : decode cI_numberOfTrailingZeros 49 = .ok (.iload_n 0, 1) := by decide +kernel
theorem dI_numberOfTrailingZeros_50 : decode cI_numberOfTrailingZeros 50 = .ok (.bipush 16, 2) := by decide +kernel
theorem dI_numberOfTrailingZeros_52 : decode cI_numberOfTrailingZeros 52 = .ok (.if_icmp .le 10, 3) := by decide +kernel
theorem dI_numberOfTrailingZeros_55 : decode cI_numberOfTrailingZeros 55 = .ok (.iinc 1 4, 3) := by decide +kernel
theorem dI_numberOfTrailingZeros_58 : decode cI_numberOfTrailingZeros 58 = .ok (.iload_n 0, 1) := by decide +kernel
theorem dI_numberOfTrailingZeros_59 : decode cI_numberOfTrailingZeros 59 = .ok (.iconst 4, 1) := by decide +kernel
theorem dI_numberOfTrailingZeros_60 : decode cI_numberOfTrailingZeros 60 = .ok (.iushr, 1) := by decide +kernel
theorem dI_numberOfTrailingZeros_61 : decode cI_numberOfTrailingZeros 61 = .ok (.istore_n 0, 1) := by decide +kernel
theorem dI_numberOfTrailingZeros_62 : decode cI_numberOfTrailingZeros 62 = .ok (.iload_n 0, 1) := by decide +kernel
theorem dI_numberOfTrailingZeros_63 : decode cI_numberOfTrailingZeros 63 = .ok (.iconst 4, 1) := by decide +kernel
theorem dI_numberOfTrailingZeros_64 : decode cI_numberOfTrailingZeros 64 = .ok (.if_icmp .le 10, 3) := by decide +kernel
theorem dI_numberOfTrailingZeros_67 : decode cI_numberOfTrailingZeros 67 = .ok (.iinc 1 2, 3) := by decide +kernel
theorem dI_numberOfTrailingZeros_70 : decode cI_numberOfTrailingZeros 70 = .ok (.iload_n 0, 1) := by decide +kernel
theorem dI_numberOfTrailingZeros_71 : decode cI_numberOfTrailingZeros 71 = .ok (.iconst 2, 1) := by decide +kernel
theorem dI_numberOfTrailingZeros_72 : decode cI_numberOfTrailingZeros 72 = .ok (.iushr, 1) := by decide +kernel
theorem dI_numberOfTrailingZeros_73 : decode cI_numberOfTrailingZeros 73 = .ok (.istore_n 0, 1) := by decide +kernel
theorem dI_numberOfTrailingZeros_74 : decode cI_numberOfTrailingZeros 74 = .ok (.iload_n 1, 1) := by decide +kernel
theorem dI_numberOfTrailingZeros_75 : decode cI_numberOfTrailingZeros 75 = .ok (.iload_n 0, 1) := by decide +kernel
theorem dI_numberOfTrailingZeros_76 : decode cI_numberOfTrailingZeros 76 = .ok (.iconst 1, 1) := by decide +kernel
theorem dI_numberOfTrailingZeros_77 : decode cI_numberOfTrailingZeros 77 = .ok (.iushr, 1) := by decide +kernel
theorem dI_numberOfTrailingZeros_78 : decode cI_numberOfTrailingZeros 78 = .ok (.iadd, 1) := by decide +kernel
theorem dI_numberOfTrailingZeros_79 : decode cI_numberOfTrailingZeros 79 = .ok (.ireturn, 1) := by decide +kernel
theorem dJ_numberOfLeadingZeros_0 : decode cJ_numberOfLeadingZeros 0 = .ok (.lload_n 0, 1) := by decide +kernel
theorem dJ_numberOfLeadingZeros_1 : decode cJ_numberOfLeadingZeros 1 = .ok (.bipush 32, 2) := by decide +kernel
theorem dJ_numberOfLeadingZeros_3 : decode cJ_numberOfLeadingZeros 3 = .ok (.lushr, 1) := by decide +kernel
theorem dJ_numberOfLeadingZeros_4 : decode cJ_numberOfLeadingZeros 4 = .ok (.l2i, 1) := by decide +kernel
theorem dJ_numberOfLeadingZeros_5 : decode cJ_numberOfLeadingZeros 5 = .ok (.istore_n 2, 1) := by decide +kernel
theorem dJ_numberOfLeadingZeros_6 : decode cJ_numberOfLeadingZeros 6 = .ok (.iload_n 2, 1) := by decide +kernel
theorem dJ_numberOfLeadingZeros_7 : decode cJ_numberOfLeadingZeros 7 = .ok (.ifCond .ne 14, 3) := by decide +kernel
theorem dJ_numberOfLeadingZeros_10 : decode cJ_numberOfLeadingZeros 10 = .ok (.bipush 32, 2) := by decide +kernel
theorem dJ_numberOfLeadingZeros_12 : decode cJ_numberOfLeadingZeros 12 = .ok (.lload_n 0, 1) := by decide +kernel
theorem dJ_numberOfLeadingZeros_13 : decode cJ_numberOfLeadingZeros 13 = .ok (.l2i, 1) := by decide +kernel
theorem dJ_numberOfLeadingZeros_14 : decode cJ_numberOfLeadingZeros 14 = .ok (.invokestatic 308, 3) := by decide +kernel
theorem dJ_numberOfLeadingZeros_17 : decode cJ_numberOfLeadingZeros 17 = .ok (.iadd, 1) := by decide +kernel
theorem dJ_numberOfLeadingZeros_18 : decode cJ_numberOfLeadingZeros 18 = .ok (.goto 7, 3) := by decide +kernel
theorem dJ_numberOfLeadingZeros_21 : decode cJ_numberOfLeadingZeros 21 = .ok (.iload_n 2, 1) := by decide +kernel
theorem dJ_numberOfLeadingZeros_22 : decode cJ_numberOfLeadingZeros 22 = .ok (.invokestatic 308, 3) := by decide +kernel
theorem dJ_numberOfLeadingZeros_25 : decode cJ_numberOfLeadingZeros 25 = .ok (.ireturn, 1) := by decide +kernel
theorem dJ_numberOfTrailingZeros_0 : decode cJ_numberOfTrailingZeros 0 = .ok (.lload_n 0, 1) := by decide +kernel
theorem dJ_numberOfTrailingZeros_1 : decode cJ_numberOfTrailingZeros 1 = .ok (.l2i, 1) := by decide +kernel
theorem dJ_numberOfTrailingZeros_2 : decode cJ_numberOfTrailingZeros 2 = .ok (.istore_n 2, 1) := by decide +kernel
theorem dJ_numberOfTrailingZeros_3 : decode cJ_numberOfTrailingZeros 3 = .ok (.iload_n 2, 1) := by decide +kernel
theorem dJ_numberOfTrailingZeros_4 : decode cJ_numberOfTrailingZeros 4 = .ok (.ifCond .ne 17, 3) := by decide +kernel
theorem dJ_numberOfTrailingZeros_7 : decode cJ_numberOfTrailingZeros 7 = .ok (.bipush 32, 2) := by decide +kernel
theorem dJ_numberOfTrailingZeros_9 : decode cJ_numberOfTrailingZeros 9 = .ok (.lload_n 0, 1) := by decide +kernel
theorem dJ_numberOfTrailingZeros_10 : decode cJ_numberOfTrailingZeros 10 = .ok (.bipush 32, 2) := by decide +kernel
theorem dJ_numberOfTrailingZeros_12 : decode cJ_numberOfTrailingZeros 12 = .ok (.lushr, 1) := by decide +kernel
theorem dJ_numberOfTrailingZeros_13 : decode cJ_numberOfTrailingZeros 13 = .ok (.l2i, 1) := by decide +kernel
theorem dJ_numberOfTrailingZeros_14 : decode cJ_numberOfTrailingZeros 14 = .ok (.invokestatic 311, 3) := by decide +kernel
theorem dJ_numberOfTrailingZeros_17 : decode cJ_numberOfTrailingZeros 17 = .ok (.iadd, 1) := by decide +kernel
theorem dJ_numberOfTrailingZeros_18 : decode cJ_numberOfTrailingZeros 18 = .ok (.goto 7, 3) := by decide +kernel
theorem dJ_numberOfTrailingZeros_21 : decode cJ_numberOfTrailingZeros 21 = .ok (.iload_n 2, 1) := by decide +kernel
theorem dJ_numberOfTrailingZeros_22 : decode cJ_numberOfTrailingZeros 22 = .ok (.invokestatic 311, 3) := by decide +kernel
theorem dJ_numberOfTrailingZeros_25 : decode cJ_numberOfTrailingZeros 25 = .ok (.ireturn, 1) := by decide +kernel
