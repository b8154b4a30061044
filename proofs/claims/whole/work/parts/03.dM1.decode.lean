theorem d_M_init_0 : decode b_M_init 0 = .ok (.aload_n 0, 1) := by decide +kernel
theorem d_M_init_1 : decode b_M_init 1 = .ok (.invokespecial 1, 3) := by decide +kernel
theorem d_M_init_4 : decode b_M_init 4 = .ok (.aload_n 0, 1) := by decide +kernel
theorem d_M_init_5 : decode b_M_init 5 = .ok (.iconst 4, 1) := by decide +kernel
theorem d_M_init_6 : decode b_M_init 6 = .ok (.newarray .int, 2) := by decide +kernel
theorem d_M_init_8 : decode b_M_init 8 = .ok (.dup, 1) := by decide +kernel
theorem d_M_init_9 : decode b_M_init 9 = .ok (.iconst 0, 1) := by decide +kernel
theorem d_M_init_10 : decode b_M_init 10 = .ok (.iconst 1, 1) := by decide +kernel
theorem d_M_init_11 : decode b_M_init 11 = .ok (.iastore, 1) := by decide +kernel
theorem d_M_init_12 : decode b_M_init 12 = .ok (.dup, 1) := by decide +kernel
theorem d_M_init_13 : decode b_M_init 13 = .ok (.iconst 1, 1) := by decide +kernel
theorem d_M_init_14 : decode b_M_init 14 = .ok (.iconst 1, 1) := by decide +kernel
theorem d_M_init_15 : decode b_M_init 15 = .ok (.iastore, 1) := by decide +kernel
theorem d_M_init_16 : decode b_M_init 16 = .ok (.dup, 1) := by decide +kernel
theorem d_M_init_17 : decode b_M_init 17 = .ok (.iconst 2, 1) := by decide +kernel
theorem d_M_init_18 : decode b_M_init 18 = .ok (.iconst 1, 1) := by decide +kernel
theorem d_M_init_19 : decode b_M_init 19 = .ok (.iastore, 1) := by decide +kernel
theorem d_M_init_20 : decode b_M_init 20 = .ok (.dup, 1) := by decide +kernel
theorem d_M_init_21 : decode b_M_init 21 = .ok (.iconst 3, 1) := by decide +kernel
theorem d_M_init_22 : decode b_M_init 22 = .ok (.iconst 1, 1) := by decide +kernel
theorem d_M_init_23 : decode b_M_init 23 = .ok (.iastore, 1) := by decide +kernel
theorem d_M_init_24 : decode b_M_init 24 = .ok (.putfield 7, 3) := by decide +kernel
theorem d_M_init_27 : decode b_M_init 27 = .ok (.aload_n 0, 1) := by decide +kernel
theorem d_M_init_28 : decode b_M_init 28 = .ok (.iconst 4, 1) := by decide +kernel
theorem d_M_init_29 : decode b_M_init 29 = .ok (.newarray .int, 2) := by decide +kernel
theorem d_M_init_31 : decode b_M_init 31 = .ok (.putfield 13, 3) := by decide +kernel
theorem d_M_init_34 : decode b_M_init 34 = .ok (.aload_n 0, 1) := by decide +kernel
theorem d_M_init_35 : decode b_M_init 35 = .ok (.sipush 128, 3) := by decide +kernel
theorem d_M_init_38 : decode b_M_init 38 = .ok (.newarray .int, 2) := by decide +kernel
theorem d_M_init_40 : decode b_M_init 40 = .ok (.putfield 16, 3) := by decide +kernel
theorem d_M_init_43 : decode b_M_init 43 = .ok (.aload_n 0, 1) := by decide +kernel
theorem d_M_init_44 : decode b_M_init 44 = .ok (.sipush 8192, 3) := by decide +kernel
theorem d_M_init_47 : decode b_M_init 47 = .ok (.newarray .int, 2) := by decide +kernel
theorem d_M_init_49 : decode b_M_init 49 = .ok (.putfield 19, 3) := by decide +kernel
theorem d_M_init_52 : decode b_M_init 52 = .ok (.aload_n 0, 1) := by decide +kernel
theorem d_M_init_53 : decode b_M_init 53 = .ok (.sipush 8192, 3) := by decide +kernel
theorem d_M_init_56 : decode b_M_init 56 = .ok (.newarray .int, 2) := by decide +kernel
theorem d_M_init_58 : decode b_M_init 58 = .ok (.putfield 22, 3) := by decide +kernel
theorem d_M_init_61 : decode b_M_init 61 = .ok (.aload_n 0, 1) := by decide +kernel
theorem d_M_init_62 : decode b_M_init 62 = .ok (.sipush 8192, 3) := by decide +kernel
theorem d_M_init_65 : decode b_M_init 65 = .ok (.newarray .int, 2) := by decide +kernel
theorem d_M_init_67 : decode b_M_init 67 = .ok (.putfield 25, 3) := by decide +kernel
theorem d_M_init_70 : decode b_M_init 70 = .ok (.aload_n 0, 1) := by decide +kernel
theorem d_M_init_71 : decode b_M_init 71 = .ok (.sipush 4096, 3) := by decide +kernel
theorem d_M_init_74 : decode b_M_init 74 = .ok (.newarray .int, 2) := by decide +kernel
theorem d_M_init_76 : decode b_M_init 76 = .ok (.putfield 28, 3) := by decide +kernel
theorem d_M_init_79 : decode b_M_init 79 = .ok (.aload_n 0, 1) := by decide +kernel
theorem d_M_init_80 : decode b_M_init 80 = .ok (.bipush 9, 2) := by decide +kernel
theorem d_M_init_82 : decode b_M_init 82 = .ok (.newarray .int, 2) := by decide +kernel
theorem d_M_init_84 : decode b_M_init 84 = .ok (.putfield 31, 3) := by decide +kernel
theorem d_M_init_87 : decode b_M_init 87 = .ok (.aload_n 0, 1) := by decide +kernel
theorem d_M_init_88 : decode b_M_init 88 = .ok (.bipush 9, 2) := by decide +kernel
theorem d_M_init_90 : decode b_M_init 90 = .ok (.newarray .int, 2) := by decide +kernel
theorem d_M_init_92 : decode b_M_init 92 = .ok (.putfield 34, 3) := by decide +kernel
theorem d_M_init_95 : decode b_M_init 95 = .ok (.aload_n 0, 1) := by decide +kernel
theorem d_M_init_96 : decode b_M_init 96 = .ok (.iconst 4, 1) := by decide +kernel
theorem d_M_init_97 : decode b_M_init 97 = .ok (.newarray .boolean, 2) := by decide +kernel
theorem d_M_init_99 : decode b_M_init 99 = .ok (.putfield 37, 3) := by decide +kernel
theorem d_M_init_102 : decode b_M_init 102 = .ok (.aload_n 0, 1) := by decide +kernel
theorem d_M_init_103 : decode b_M_init 103 = .ok (.iconst 4, 1) := by decide +kernel
theorem d_M_init_104 : decode b_M_init 104 = .ok (.newarray .int, 2) := by decide +kernel
theorem d_M_init_106 : decode b_M_init 106 = .ok (.putfield 41, 3) := by decide +kernel
theorem d_M_init_109 : decode b_M_init 109 = .ok (.aload_n 0, 1) := by decide +kernel
theorem d_M_init_110 : decode b_M_init 110 = .ok (.iconst 4, 1) := by decide +kernel
theorem d_M_init_111 : decode b_M_init 111 = .ok (.newarray .int, 2) := by decide +kernel
theorem d_M_init_113 : decode b_M_init 113 = .ok (.putfield 44, 3) := by decide +kernel
theorem d_M_init_116 : decode b_M_init 116 = .ok (.aload_n 0, 1) := by decide +kernel
theorem d_M_init_117 : decode b_M_init 117 = .ok (.sipush 2304, 3) := by decide +kernel
theorem d_M_init_120 : decode b_M_init 120 = .ok (.newarray .int, 2) := by decide +kernel
theorem d_M_init_122 : decode b_M_init 122 = .ok (.putfield 47, 3) := by decide +kernel
theorem d_M_init_125 : decode b_M_init 125 = .ok (.aload_n 0, 1) := by decide +kernel
theorem d_M_init_126 : decode b_M_init 126 = .ok (.bipush 9, 2) := by decide +kernel
theorem d_M_init_128 : decode b_M_init 128 = .ok (.newarray .int, 2) := by decide +kernel
theorem d_M_init_130 : decode b_M_init 130 = .ok (.putfield 50, 3) := by decide +kernel
theorem d_M_init_133 : decode b_M_init 133 = .ok (.aload_n 0, 1) := by decide +kernel
theorem d_M_init_134 : decode b_M_init 134 = .ok (.sipush 160, 3) := by decide +kernel
theorem d_M_init_137 : decode b_M_init 137 = .ok (.newarray .int, 2) := by decide +kernel
theorem d_M_init_139 : decode b_M_init 139 = .ok (.putfield 53, 3) := by decide +kernel
theorem d_M_init_142 : decode b_M_init 142 = .ok (.return_, 1) := by decide +kernel
theorem d_M_isSlot_0 : decode b_M_isSlot 0 = .ok (.iload_n 0, 1) := by decide +kernel
theorem d_M_isSlot_1 : decode b_M_isSlot 1 = .ok (.ifCond .lt 12, 3) := by decide +kernel
theorem d_M_isSlot_4 : decode b_M_isSlot 4 = .ok (.iload_n 0, 1) := by decide +kernel
theorem d_M_isSlot_5 : decode b_M_isSlot 5 = .ok (.iconst 4, 1) := by decide +kernel
theorem d_M_isSlot_6 : decode b_M_isSlot 6 = .ok (.if_icmp .ge 7, 3) := by decide +kernel
theorem d_M_isSlot_9 : decode b_M_isSlot 9 = .ok (.iconst 1, 1) := by decide +kernel
theorem d_M_isSlot_10 : decode b_M_isSlot 10 = .ok (.goto 4, 3) := by decide +kernel
theorem d_M_isSlot_13 : decode b_M_isSlot 13 = .ok (.iconst 0, 1) := by decide +kernel
theorem d_M_isSlot_14 : decode b_M_isSlot 14 = .ok (.ireturn, 1) := by decide +kernel
theorem d_M_value_0 : decode b_M_value 0 = .ok (.iload_n 0, 1) := by decide +kernel
theorem d_M_value_1 : decode b_M_value 1 = .ok (.ifCond .ge 8, 3) := by decide +kernel
theorem d_M_value_4 : decode b_M_value 4 = .ok (.iload_n 0, 1) := by decide +kernel
theorem d_M_value_5 : decode b_M_value 5 = .ok (.ineg, 1) := by decide +kernel
theorem d_M_value_6 : decode b_M_value 6 = .ok (.goto 4, 3) := by decide +kernel
theorem d_M_value_9 : decode b_M_value 9 = .ok (.iload_n 0, 1) := by decide +kernel
theorem d_M_value_10 : decode b_M_value 10 = .ok (.ireturn, 1) := by decide +kernel
theorem d_M_letterAt_0 : decode b_M_letterAt 0 = .ok (.aload_n 0, 1) := by decide +kernel
theorem d_M_letterAt_1 : decode b_M_letterAt 1 = .ok (.getfield 16, 3) := by decide +kernel
theorem d_M_letterAt_4 : decode b_M_letterAt 4 = .ok (.bipush 32, 2) := by decide +kernel
theorem d_M_letterAt_6 : decode b_M_letterAt 6 = .ok (.iload_n 1, 1) := by decide +kernel
theorem d_M_letterAt_7 : decode b_M_letterAt 7 = .ok (.imul, 1) := by decide +kernel
theorem d_M_letterAt_8 : decode b_M_letterAt 8 = .ok (.iload_n 2, 1) := by decide +kernel
theorem d_M_letterAt_9 : decode b_M_letterAt 9 = .ok (.iadd, 1) := by decide +kernel
theorem d_M_letterAt_10 : decode b_M_letterAt 10 = .ok (.iaload, 1) := by decide +kernel
theorem d_M_letterAt_11 : decode b_M_letterAt 11 = .ok (.ireturn, 1) := by decide +kernel
theorem d_M_strands_0 : decode b_M_strands 0 = .ok (.iload_n 1, 1) := by decide +kernel
theorem d_M_strands_1 : decode b_M_strands 1 = .ok (.invokestatic 60, 3) := by decide +kernel
theorem d_M_strands_4 : decode b_M_strands 4 = .ok (.ifCond .eq 14, 3) := by decide +kernel
theorem d_M_strands_7 : decode b_M_strands 7 = .ok (.iload_n 2, 1) := by decide +kernel
theorem d_M_strands_8 : decode b_M_strands 8 = .ok (.iconst 1, 1) := by decide +kernel
theorem d_M_strands_9 : decode b_M_strands 9 = .ok (.if_icmp .lt 9, 3) := by decide +kernel
theorem d_M_strands_12 : decode b_M_strands 12 = .ok (.iload_n 2, 1) := by decide +kernel
theorem d_M_strands_13 : decode b_M_strands 13 = .ok (.bipush 8, 2) := by decide +kernel
theorem d_M_strands_15 : decode b_M_strands 15 = .ok (.if_icmp .le 5, 3) := by decide +kernel
theorem d_M_strands_18 : decode b_M_strands 18 = .ok (.iconst 0, 1) := by decide +kernel
theorem d_M_strands_19 : decode b_M_strands 19 = .ok (.ireturn, 1) := by decide +kernel
theorem d_M_strands_20 : decode b_M_strands 20 = .ok (.aload_n 0, 1) := by decide +kernel
theorem d_M_strands_21 : decode b_M_strands 21 = .ok (.getfield 7, 3) := by decide +kernel
theorem d_M_strands_24 : decode b_M_strands 24 = .ok (.iload_n 1, 1) := by decide +kernel
theorem d_M_strands_25 : decode b_M_strands 25 = .ok (.iload_n 2, 1) := by decide +kernel
theorem d_M_strands_26 : decode b_M_strands 26 = .ok (.iastore, 1) := by decide +kernel
theorem d_M_strands_27 : decode b_M_strands 27 = .ok (.aload_n 0, 1) := by decide +kernel
theorem d_M_strands_28 : decode b_M_strands 28 = .ok (.getfield 13, 3) := by decide +kernel
theorem d_M_strands_31 : decode b_M_strands 31 = .ok (.iload_n 1, 1) := by decide +kernel
theorem d_M_strands_32 : decode b_M_strands 32 = .ok (.iconst 0, 1) := by decide +kernel
theorem d_M_strands_33 : decode b_M_strands 33 = .ok (.iastore, 1) := by decide +kernel
theorem d_M_strands_34 : decode b_M_strands 34 = .ok (.aload_n 0, 1) := by decide +kernel
theorem d_M_strands_35 : decode b_M_strands 35 = .ok (.getfield 37, 3) := by decide +kernel
theorem d_M_strands_38 : decode b_M_strands 38 = .ok (.iload_n 1, 1) := by decide +kernel
theorem d_M_strands_39 : decode b_M_strands 39 = .ok (.iconst 0, 1) := by decide +kernel
theorem d_M_strands_40 : decode b_M_strands 40 = .ok (.bastore, 1) := by decide +kernel
theorem d_M_strands_41 : decode b_M_strands 41 = .ok (.iconst 1, 1) := by decide +kernel
theorem d_M_strands_42 : decode b_M_strands 42 = .ok (.ireturn, 1) := by decide +kernel
theorem d_M_letter_0 : decode b_M_letter 0 = .ok (.iload_n 1, 1) := by decide +kernel
theorem d_M_letter_1 : decode b_M_letter 1 = .ok (.invokestatic 60, 3) := by decide +kernel
theorem d_M_letter_4 : decode b_M_letter 4 = .ok (.ifCond .eq 39, 3) := by decide +kernel
theorem d_M_letter_7 : decode b_M_letter 7 = .ok (.iload_n 2, 1) := by decide +kernel
theorem d_M_letter_8 : decode b_M_letter 8 = .ok (.ifCond .eq 35, 3) := by decide +kernel
theorem d_M_letter_11 : decode b_M_letter 11 = .ok (.iload_n 2, 1) := by decide +kernel
theorem d_M_letter_12 : decode b_M_letter 12 = .ok (.aload_n 0, 1) := by decide +kernel
theorem d_M_letter_13 : decode b_M_letter 13 = .ok (.getfield 7, 3) := by decide +kernel
theorem d_M_letter_16 : decode b_M_letter 16 = .ok (.iload_n 1, 1) := by decide +kernel
theorem d_M_letter_17 : decode b_M_letter 17 = .ok (.iaload, 1) := by decide +kernel
theorem d_M_letter_18 : decode b_M_letter 18 = .ok (.if_icmp .ge 25, 3) := by decide +kernel
theorem d_M_letter_21 : decode b_M_letter 21 = .ok (.iload_n 2, 1) := by decide +kernel
theorem d_M_letter_22 : decode b_M_letter 22 = .ok (.aload_n 0, 1) := by decide +kernel
theorem d_M_letter_23 : decode b_M_letter 23 = .ok (.getfield 7, 3) := by decide +kernel
theorem d_M_letter_26 : decode b_M_letter 26 = .ok (.iload_n 1, 1) := by decide +kernel
theorem d_M_letter_27 : decode b_M_letter 27 = .ok (.iaload, 1) := by decide +kernel
theorem d_M_letter_28 : decode b_M_letter 28 = .ok (.ineg, 1) := by decide +kernel
theorem d_M_letter_29 : decode b_M_letter 29 = .ok (.if_icmp .le 14, 3) := by decide +kernel
theorem d_M_letter_32 : decode b_M_letter 32 = .ok (.aload_n 0, 1) := by decide +kernel
theorem d_M_letter_33 : decode b_M_letter 33 = .ok (.getfield 13, 3) := by decide +kernel
theorem d_M_letter_36 : decode b_M_letter 36 = .ok (.iload_n 1, 1) := by decide +kernel
theorem d_M_letter_37 : decode b_M_letter 37 = .ok (.iaload, 1) := by decide +kernel
theorem d_M_letter_38 : decode b_M_letter 38 = .ok (.bipush 32, 2) := by decide +kernel
theorem d_M_letter_40 : decode b_M_letter 40 = .ok (.if_icmp .ne 5, 3) := by decide +kernel
theorem d_M_letter_43 : decode b_M_letter 43 = .ok (.iconst (-1), 1) := by decide +kernel
theorem d_M_letter_44 : decode b_M_letter 44 = .ok (.ireturn, 1) := by decide +kernel
theorem d_M_letter_45 : decode b_M_letter 45 = .ok (.aload_n 0, 1) := by decide +kernel
theorem d_M_letter_46 : decode b_M_letter 46 = .ok (.getfield 16, 3) := by decide +kernel
theorem d_M_letter_49 : decode b_M_letter 49 = .ok (.bipush 32, 2) := by decide +kernel
theorem d_M_letter_51 : decode b_M_letter 51 = .ok (.iload_n 1, 1) := by decide +kernel
theorem d_M_letter_52 : decode b_M_letter 52 = .ok (.imul, 1) := by decide +kernel
theorem d_M_letter_53 : decode b_M_letter 53 = .ok (.aload_n 0, 1) := by decide +kernel
theorem d_M_letter_54 : decode b_M_letter 54 = .ok (.getfield 13, 3) := by decide +kernel
theorem d_M_letter_57 : decode b_M_letter 57 = .ok (.iload_n 1, 1) := by decide +kernel
theorem d_M_letter_58 : decode b_M_letter 58 = .ok (.iaload, 1) := by decide +kernel
theorem d_M_letter_59 : decode b_M_letter 59 = .ok (.iadd, 1) := by decide +kernel
theorem d_M_letter_60 : decode b_M_letter 60 = .ok (.iload_n 2, 1) := by decide +kernel
theorem d_M_letter_61 : decode b_M_letter 61 = .ok (.iastore, 1) := by decide +kernel
theorem d_M_letter_62 : decode b_M_letter 62 = .ok (.aload_n 0, 1) := by decide +kernel
theorem d_M_letter_63 : decode b_M_letter 63 = .ok (.getfield 13, 3) := by decide +kernel
theorem d_M_letter_66 : decode b_M_letter 66 = .ok (.iload_n 1, 1) := by decide +kernel
theorem d_M_letter_67 : decode b_M_letter 67 = .ok (.dup2, 1) := by decide +kernel
theorem d_M_letter_68 : decode b_M_letter 68 = .ok (.iaload, 1) := by decide +kernel
theorem d_M_letter_69 : decode b_M_letter 69 = .ok (.iconst 1, 1) := by decide +kernel
theorem d_M_letter_70 : decode b_M_letter 70 = .ok (.iadd, 1) := by decide +kernel
theorem d_M_letter_71 : decode b_M_letter 71 = .ok (.iastore, 1) := by decide +kernel
theorem d_M_letter_72 : decode b_M_letter 72 = .ok (.aload_n 0, 1) := by decide +kernel
theorem d_M_letter_73 : decode b_M_letter 73 = .ok (.getfield 37, 3) := by decide +kernel
theorem d_M_letter_76 : decode b_M_letter 76 = .ok (.iload_n 1, 1) := by decide +kernel
theorem d_M_letter_77 : decode b_M_letter 77 = .ok (.iconst 0, 1) := by decide +kernel
theorem d_M_letter_78 : decode b_M_letter 78 = .ok (.bastore, 1) := by decide +kernel
theorem d_M_letter_79 : decode b_M_letter 79 = .ok (.aload_n 0, 1) := by decide +kernel
theorem d_M_letter_80 : decode b_M_letter 80 = .ok (.getfield 13, 3) := by decide +kernel
theorem d_M_letter_83 : decode b_M_letter 83 = .ok (.iload_n 1, 1) := by decide +kernel
theorem d_M_letter_84 : decode b_M_letter 84 = .ok (.iaload, 1) := by decide +kernel
theorem d_M_letter_85 : decode b_M_letter 85 = .ok (.ireturn, 1) := by decide +kernel
theorem d_M_copy_0 : decode b_M_copy 0 = .ok (.iload_n 1, 1) := by decide +kernel
theorem d_M_copy_1 : decode b_M_copy 1 = .ok (.invokestatic 60, 3) := by decide +kernel
theorem d_M_copy_4 : decode b_M_copy 4 = .ok (.ifCond .eq 10, 3) := by decide +kernel
theorem d_M_copy_7 : decode b_M_copy 7 = .ok (.iload_n 2, 1) := by decide +kernel
theorem d_M_copy_8 : decode b_M_copy 8 = .ok (.invokestatic 60, 3) := by decide +kernel
theorem d_M_copy_11 : decode b_M_copy 11 = .ok (.ifCond .ne 5, 3) := by decide +kernel
theorem d_M_copy_14 : decode b_M_copy 14 = .ok (.iconst 0, 1) := by decide +kernel
theorem d_M_copy_15 : decode b_M_copy 15 = .ok (.ireturn, 1) := by decide +kernel
theorem d_M_copy_16 : decode b_M_copy 16 = .ok (.aload_n 0, 1) := by decide +kernel
theorem d_M_copy_17 : decode b_M_copy 17 = .ok (.getfield 13, 3) := by decide +kernel
theorem d_M_copy_20 : decode b_M_copy 20 = .ok (.iload_n 2, 1) := by decide +kernel
theorem d_M_copy_21 : decode b_M_copy 21 = .ok (.iaload, 1) := by decide +kernel
theorem d_M_copy_22 : decode b_M_copy 22 = .ok (.istore 4, 2) := by decide +kernel
theorem d_M_copy_24 : decode b_M_copy 24 = .ok (.iconst 0, 1) := by decide +kernel
theorem d_M_copy_25 : decode b_M_copy 25 = .ok (.istore 5, 2) := by decide +kernel
theorem d_M_copy_27 : decode b_M_copy 27 = .ok (.iload 5, 2) := by decide +kernel
theorem d_M_copy_29 : decode b_M_copy 29 = .ok (.iload 4, 2) := by decide +kernel
theorem d_M_copy_31 : decode b_M_copy 31 = .ok (.if_icmp .ge 43, 3) := by decide +kernel
theorem d_M_copy_34 : decode b_M_copy 34 = .ok (.aload_n 0, 1) := by decide +kernel
theorem d_M_copy_35 : decode b_M_copy 35 = .ok (.getfield 28, 3) := by decide +kernel
theorem d_M_copy_38 : decode b_M_copy 38 = .ok (.iload 5, 2) := by decide +kernel
theorem d_M_copy_40 : decode b_M_copy 40 = .ok (.iload_n 3, 1) := by decide +kernel
theorem d_M_copy_41 : decode b_M_copy 41 = .ok (.ifCond .eq 19, 3) := by decide +kernel
theorem d_M_copy_44 : decode b_M_copy 44 = .ok (.aload_n 0, 1) := by decide +kernel
theorem d_M_copy_45 : decode b_M_copy 45 = .ok (.iload_n 2, 1) := by decide +kernel
theorem d_M_copy_46 : decode b_M_copy 46 = .ok (.iload 4, 2) := by decide +kernel
theorem d_M_copy_48 : decode b_M_copy 48 = .ok (.iconst 1, 1) := by decide +kernel
theorem d_M_copy_49 : decode b_M_copy 49 = .ok (.isub, 1) := by decide +kernel
theorem d_M_copy_50 : decode b_M_copy 50 = .ok (.iload 5, 2) := by decide +kernel
theorem d_M_copy_52 : decode b_M_copy 52 = .ok (.isub, 1) := by decide +kernel
theorem d_M_copy_53 : decode b_M_copy 53 = .ok (.invokevirtual 64, 3) := by decide +kernel
theorem d_M_copy_56 : decode b_M_copy 56 = .ok (.ineg, 1) := by decide +kernel
theorem d_M_copy_57 : decode b_M_copy 57 = .ok (.goto 10, 3) := by decide +kernel
theorem d_M_copy_60 : decode b_M_copy 60 = .ok (.aload_n 0, 1) := by decide +kernel
theorem d_M_copy_61 : decode b_M_copy 61 = .ok (.iload_n 2, 1) := by decide +kernel
theorem d_M_copy_62 : decode b_M_copy 62 = .ok (.iload 5, 2) := by decide +kernel
theorem d_M_copy_64 : decode b_M_copy 64 = .ok (.invokevirtual 64, 3) := by decide +kernel
theorem d_M_copy_67 : decode b_M_copy 67 = .ok (.iastore, 1) := by decide +kernel
theorem d_M_copy_68 : decode b_M_copy 68 = .ok (.iinc 5 1, 3) := by decide +kernel
theorem d_M_copy_71 : decode b_M_copy 71 = .ok (.goto (-44), 3) := by decide +kernel
theorem d_M_copy_74 : decode b_M_copy 74 = .ok (.iconst 0, 1) := by decide +kernel
theorem d_M_copy_75 : decode b_M_copy 75 = .ok (.istore 5, 2) := by decide +kernel
theorem d_M_copy_77 : decode b_M_copy 77 = .ok (.iload 5, 2) := by decide +kernel
theorem d_M_copy_79 : decode b_M_copy 79 = .ok (.iload 4, 2) := by decide +kernel
theorem d_M_copy_81 : decode b_M_copy 81 = .ok (.if_icmp .ge 28, 3) := by decide +kernel
theorem d_M_copy_84 : decode b_M_copy 84 = .ok (.aload_n 0, 1) := by decide +kernel
theorem d_M_copy_85 : decode b_M_copy 85 = .ok (.getfield 16, 3) := by decide +kernel
theorem d_M_copy_88 : decode b_M_copy 88 = .ok (.bipush 32, 2) := by decide +kernel
theorem d_M_copy_90 : decode b_M_copy 90 = .ok (.iload_n 1, 1) := by decide +kernel
theorem d_M_copy_91 : decode b_M_copy 91 = .ok (.imul, 1) := by decide +kernel
theorem d_M_copy_92 : decode b_M_copy 92 = .ok (.iload 5, 2) := by decide +kernel
theorem d_M_copy_94 : decode b_M_copy 94 = .ok (.iadd, 1) := by decide +kernel
theorem d_M_copy_95 : decode b_M_copy 95 = .ok (.aload_n 0, 1) := by decide +kernel
theorem d_M_copy_96 : decode b_M_copy 96 = .ok (.getfield 28, 3) := by decide +kernel
theorem d_M_copy_99 : decode b_M_copy 99 = .ok (.iload 5, 2) := by decide +kernel
theorem d_M_copy_101 : decode b_M_copy 101 = .ok (.iaload, 1) := by decide +kernel
theorem d_M_copy_102 : decode b_M_copy 102 = .ok (.iastore, 1) := by decide +kernel
theorem d_M_copy_103 : decode b_M_copy 103 = .ok (.iinc 5 1, 3) := by decide +kernel
theorem d_M_copy_106 : decode b_M_copy 106 = .ok (.goto (-29), 3) := by decide +kernel
theorem d_M_copy_109 : decode b_M_copy 109 = .ok (.aload_n 0, 1) := by decide +kernel
theorem d_M_copy_110 : decode b_M_copy 110 = .ok (.getfield 7, 3) := by decide +kernel
theorem d_M_copy_113 : decode b_M_copy 113 = .ok (.iload_n 1, 1) := by decide +kernel
theorem d_M_copy_114 : decode b_M_copy 114 = .ok (.aload_n 0, 1) := by decide +kernel
theorem d_M_copy_115 : decode b_M_copy 115 = .ok (.getfield 7, 3) := by decide +kernel
theorem d_M_copy_118 : decode b_M_copy 118 = .ok (.iload_n 2, 1) := by decide +kernel
theorem d_M_copy_119 : decode b_M_copy 119 = .ok (.iaload, 1) := by decide +kernel
theorem d_M_copy_120 : decode b_M_copy 120 = .ok (.iastore, 1) := by decide +kernel
theorem d_M_copy_121 : decode b_M_copy 121 = .ok (.aload_n 0, 1) := by decide +kernel
theorem d_M_copy_122 : decode b_M_copy 122 = .ok (.getfield 13, 3) := by decide +kernel
theorem d_M_copy_125 : decode b_M_copy 125 = .ok (.iload_n 1, 1) := by decide +kernel
theorem d_M_copy_126 : decode b_M_copy 126 = .ok (.iload 4, 2) := by decide +kernel
theorem d_M_copy_128 : decode b_M_copy 128 = .ok (.iastore, 1) := by decide +kernel
theorem d_M_copy_129 : decode b_M_copy 129 = .ok (.aload_n 0, 1) := by decide +kernel
theorem d_M_copy_130 : decode b_M_copy 130 = .ok (.getfield 37, 3) := by decide +kernel
theorem d_M_copy_133 : decode b_M_copy 133 = .ok (.iload_n 1, 1) := by decide +kernel
theorem d_M_copy_134 : decode b_M_copy 134 = .ok (.iconst 0, 1) := by decide +kernel
theorem d_M_copy_135 : decode b_M_copy 135 = .ok (.bastore, 1) := by decide +kernel
theorem d_M_copy_136 : decode b_M_copy 136 = .ok (.iconst 1, 1) := by decide +kernel
theorem d_M_copy_137 : decode b_M_copy 137 = .ok (.ireturn, 1) := by decide +kernel
theorem d_M_endOf_0 : decode b_M_endOf 0 = .ok (.iload_n 2, 1) := by decide +kernel
theorem d_M_endOf_1 : decode b_M_endOf 1 = .ok (.istore_n 3, 1) := by decide +kernel
theorem d_M_endOf_2 : decode b_M_endOf 2 = .ok (.iconst 0, 1) := by decide +kernel
theorem d_M_endOf_3 : decode b_M_endOf 3 = .ok (.istore 4, 2) := by decide +kernel
theorem d_M_endOf_5 : decode b_M_endOf 5 = .ok (.iload 4, 2) := by decide +kernel
theorem d_M_endOf_7 : decode b_M_endOf 7 = .ok (.aload_n 0, 1) := by decide +kernel
theorem d_M_endOf_8 : decode b_M_endOf 8 = .ok (.getfield 13, 3) := by decide +kernel
theorem d_M_endOf_11 : decode b_M_endOf 11 = .ok (.iload_n 1, 1) := by decide +kernel
theorem d_M_endOf_12 : decode b_M_endOf 12 = .ok (.iaload, 1) := by decide +kernel
theorem d_M_endOf_13 : decode b_M_endOf 13 = .ok (.if_icmp .ge 49, 3) := by decide +kernel
theorem d_M_endOf_16 : decode b_M_endOf 16 = .ok (.aload_n 0, 1) := by decide +kernel
theorem d_M_endOf_17 : decode b_M_endOf 17 = .ok (.iload_n 1, 1) := by decide +kernel
theorem d_M_endOf_18 : decode b_M_endOf 18 = .ok (.iload 4, 2) := by decide +kernel
theorem d_M_endOf_20 : decode b_M_endOf 20 = .ok (.invokevirtual 64, 3) := by decide +kernel
theorem d_M_endOf_23 : decode b_M_endOf 23 = .ok (.invokestatic 68, 3) := by decide +kernel
theorem d_M_endOf_26 : decode b_M_endOf 26 = .ok (.istore 5, 2) := by decide +kernel
theorem d_M_endOf_28 : decode b_M_endOf 28 = .ok (.iload_n 3, 1) := by decide +kernel
theorem d_M_endOf_29 : decode b_M_endOf 29 = .ok (.iload 5, 2) := by decide +kernel
theorem d_M_endOf_31 : decode b_M_endOf 31 = .ok (.if_icmp .ne 10, 3) := by decide +kernel
theorem d_M_endOf_34 : decode b_M_endOf 34 = .ok (.iload 5, 2) := by decide +kernel
theorem d_M_endOf_36 : decode b_M_endOf 36 = .ok (.iconst 1, 1) := by decide +kernel
theorem d_M_endOf_37 : decode b_M_endOf 37 = .ok (.iadd, 1) := by decide +kernel
theorem d_M_endOf_38 : decode b_M_endOf 38 = .ok (.goto 17, 3) := by decide +kernel
theorem d_M_endOf_41 : decode b_M_endOf 41 = .ok (.iload_n 3, 1) := by decide +kernel
theorem d_M_endOf_42 : decode b_M_endOf 42 = .ok (.iload 5, 2) := by decide +kernel
theorem d_M_endOf_44 : decode b_M_endOf 44 = .ok (.iconst 1, 1) := by decide +kernel
theorem d_M_endOf_45 : decode b_M_endOf 45 = .ok (.iadd, 1) := by decide +kernel
theorem d_M_endOf_46 : decode b_M_endOf 46 = .ok (.if_icmp .ne 8, 3) := by decide +kernel
theorem d_M_endOf_49 : decode b_M_endOf 49 = .ok (.iload 5, 2) := by decide +kernel
theorem d_M_endOf_51 : decode b_M_endOf 51 = .ok (.goto 4, 3) := by decide +kernel
theorem d_M_endOf_54 : decode b_M_endOf 54 = .ok (.iload_n 3, 1) := by decide +kernel
theorem d_M_endOf_55 : decode b_M_endOf 55 = .ok (.istore_n 3, 1) := by decide +kernel
theorem d_M_endOf_56 : decode b_M_endOf 56 = .ok (.iinc 4 1, 3) := by decide +kernel
theorem d_M_endOf_59 : decode b_M_endOf 59 = .ok (.goto (-54), 3) := by decide +kernel
theorem d_M_endOf_62 : decode b_M_endOf 62 = .ok (.iload_n 3, 1) := by decide +kernel
theorem d_M_endOf_63 : decode b_M_endOf 63 = .ok (.ireturn, 1) := by decide +kernel
theorem d_M_end_0 : decode b_M_end 0 = .ok (.iload_n 1, 1) := by decide +kernel
theorem d_M_end_1 : decode b_M_end 1 = .ok (.invokestatic 60, 3) := by decide +kernel
theorem d_M_end_4 : decode b_M_end 4 = .ok (.ifCond .eq 18, 3) := by decide +kernel
theorem d_M_end_7 : decode b_M_end 7 = .ok (.iload_n 2, 1) := by decide +kernel
theorem d_M_end_8 : decode b_M_end 8 = .ok (.iconst 1, 1) := by decide +kernel
theorem d_M_end_9 : decode b_M_end 9 = .ok (.if_icmp .lt 13, 3) := by decide +kernel
theorem d_M_end_12 : decode b_M_end 12 = .ok (.iload_n 2, 1) := by decide +kernel
theorem d_M_end_13 : decode b_M_end 13 = .ok (.aload_n 0, 1) := by decide +kernel
theorem d_M_end_14 : decode b_M_end 14 = .ok (.getfield 7, 3) := by decide +kernel
theorem d_M_end_17 : decode b_M_end 17 = .ok (.iload_n 1, 1) := by decide +kernel
theorem d_M_end_18 : decode b_M_end 18 = .ok (.iaload, 1) := by decide +kernel
theorem d_M_end_19 : decode b_M_end 19 = .ok (.if_icmp .le 7, 3) := by decide +kernel
theorem d_M_end_22 : decode b_M_end 22 = .ok (.iconst 0, 1) := by decide +kernel
theorem d_M_end_23 : decode b_M_end 23 = .ok (.goto 9, 3) := by decide +kernel
theorem d_M_end_26 : decode b_M_end 26 = .ok (.aload_n 0, 1) := by decide +kernel
theorem d_M_end_27 : decode b_M_end 27 = .ok (.iload_n 1, 1) := by decide +kernel
theorem d_M_end_28 : decode b_M_end 28 = .ok (.iload_n 2, 1) := by decide +kernel
theorem d_M_end_29 : decode b_M_end 29 = .ok (.invokevirtual 72, 3) := by decide +kernel
theorem d_M_end_32 : decode b_M_end 32 = .ok (.ireturn, 1) := by decide +kernel
theorem d_M_rounds_0 : decode b_M_rounds 0 = .ok (.iconst 0, 1) := by decide +kernel
theorem d_M_rounds_1 : decode b_M_rounds 1 = .ok (.istore_n 2, 1) := by decide +kernel
theorem d_M_rounds_2 : decode b_M_rounds 2 = .ok (.iconst 1, 1) := by decide +kernel
theorem d_M_rounds_3 : decode b_M_rounds 3 = .ok (.istore_n 3, 1) := by decide +kernel
theorem d_M_rounds_4 : decode b_M_rounds 4 = .ok (.iload_n 3, 1) := by decide +kernel
theorem d_M_rounds_5 : decode b_M_rounds 5 = .ok (.aload_n 0, 1) := by decide +kernel
theorem d_M_rounds_6 : decode b_M_rounds 6 = .ok (.getfield 7, 3) := by decide +kernel
theorem d_M_rounds_9 : decode b_M_rounds 9 = .ok (.iload_n 1, 1) := by decide +kernel
theorem d_M_rounds_10 : decode b_M_rounds 10 = .ok (.iaload, 1) := by decide +kernel
theorem d_M_rounds_11 : decode b_M_rounds 11 = .ok (.if_icmp .gt 69, 3) := by decide +kernel
theorem d_M_rounds_14 : decode b_M_rounds 14 = .ok (.iconst 1, 1) := by decide +kernel
theorem d_M_rounds_15 : decode b_M_rounds 15 = .ok (.istore 4, 2) := by decide +kernel
theorem d_M_rounds_17 : decode b_M_rounds 17 = .ok (.aload_n 0, 1) := by decide +kernel
theorem d_M_rounds_18 : decode b_M_rounds 18 = .ok (.iload_n 1, 1) := by decide +kernel
theorem d_M_rounds_19 : decode b_M_rounds 19 = .ok (.iload_n 3, 1) := by decide +kernel
theorem d_M_rounds_20 : decode b_M_rounds 20 = .ok (.invokevirtual 72, 3) := by decide +kernel
theorem d_M_rounds_23 : decode b_M_rounds 23 = .ok (.istore 5, 2) := by decide +kernel
theorem d_M_rounds_25 : decode b_M_rounds 25 = .ok (.iload 5, 2) := by decide +kernel
theorem d_M_rounds_27 : decode b_M_rounds 27 = .ok (.iload_n 3, 1) := by decide +kernel
theorem d_M_rounds_28 : decode b_M_rounds 28 = .ok (.if_icmp .eq 33, 3) := by decide +kernel
theorem d_M_rounds_31 : decode b_M_rounds 31 = .ok (.iload 4, 2) := by decide +kernel
theorem d_M_rounds_33 : decode b_M_rounds 33 = .ok (.ifCond .eq 13, 3) := by decide +kernel
theorem d_M_rounds_36 : decode b_M_rounds 36 = .ok (.iload 5, 2) := by decide +kernel
theorem d_M_rounds_38 : decode b_M_rounds 38 = .ok (.iload_n 3, 1) := by decide +kernel
theorem d_M_rounds_39 : decode b_M_rounds 39 = .ok (.if_icmp .le 7, 3) := by decide +kernel
theorem d_M_rounds_42 : decode b_M_rounds 42 = .ok (.iconst 1, 1) := by decide +kernel
theorem d_M_rounds_43 : decode b_M_rounds 43 = .ok (.goto 4, 3) := by decide +kernel
theorem d_M_rounds_46 : decode b_M_rounds 46 = .ok (.iconst 0, 1) := by decide +kernel
theorem d_M_rounds_47 : decode b_M_rounds 47 = .ok (.istore 4, 2) := by decide +kernel
theorem d_M_rounds_49 : decode b_M_rounds 49 = .ok (.aload_n 0, 1) := by decide +kernel
theorem d_M_rounds_50 : decode b_M_rounds 50 = .ok (.iload_n 1, 1) := by decide +kernel
theorem d_M_rounds_51 : decode b_M_rounds 51 = .ok (.iload 5, 2) := by decide +kernel
theorem d_M_rounds_53 : decode b_M_rounds 53 = .ok (.invokevirtual 72, 3) := by decide +kernel
theorem d_M_rounds_56 : decode b_M_rounds 56 = .ok (.istore 5, 2) := by decide +kernel
theorem d_M_rounds_58 : decode b_M_rounds 58 = .ok (.goto (-33), 3) := by decide +kernel
theorem d_M_rounds_61 : decode b_M_rounds 61 = .ok (.iload_n 2, 1) := by decide +kernel
theorem d_M_rounds_62 : decode b_M_rounds 62 = .ok (.iload 4, 2) := by decide +kernel
theorem d_M_rounds_64 : decode b_M_rounds 64 = .ok (.ifCond .eq 7, 3) := by decide +kernel
theorem d_M_rounds_67 : decode b_M_rounds 67 = .ok (.iconst 1, 1) := by decide +kernel
theorem d_M_rounds_68 : decode b_M_rounds 68 = .ok (.goto 4, 3) := by decide +kernel
theorem d_M_rounds_71 : decode b_M_rounds 71 = .ok (.iconst 0, 1) := by decide +kernel
theorem d_M_rounds_72 : decode b_M_rounds 72 = .ok (.iadd, 1) := by decide +kernel
theorem d_M_rounds_73 : decode b_M_rounds 73 = .ok (.istore_n 2, 1) := by decide +kernel
theorem d_M_rounds_74 : decode b_M_rounds 74 = .ok (.iinc 3 1, 3) := by decide +kernel
theorem d_M_rounds_77 : decode b_M_rounds 77 = .ok (.goto (-73), 3) := by decide +kernel
theorem d_M_rounds_80 : decode b_M_rounds 80 = .ok (.iload_n 2, 1) := by decide +kernel
theorem d_M_rounds_81 : decode b_M_rounds 81 = .ok (.ireturn, 1) := by decide +kernel
theorem d_M_untouched_0 : decode b_M_untouched 0 = .ok (.iconst 0, 1) := by decide +kernel
theorem d_M_untouched_1 : decode b_M_untouched 1 = .ok (.istore_n 2, 1) := by decide +kernel
theorem d_M_untouched_2 : decode b_M_untouched 2 = .ok (.iconst 1, 1) := by decide +kernel
theorem d_M_untouched_3 : decode b_M_untouched 3 = .ok (.istore_n 3, 1) := by decide +kernel
theorem d_M_untouched_4 : decode b_M_untouched 4 = .ok (.iload_n 3, 1) := by decide +kernel
theorem d_M_untouched_5 : decode b_M_untouched 5 = .ok (.aload_n 0, 1) := by decide +kernel
theorem d_M_untouched_6 : decode b_M_untouched 6 = .ok (.getfield 7, 3) := by decide +kernel
theorem d_M_untouched_9 : decode b_M_untouched 9 = .ok (.iload_n 1, 1) := by decide +kernel
theorem d_M_untouched_10 : decode b_M_untouched 10 = .ok (.iaload, 1) := by decide +kernel
theorem d_M_untouched_11 : decode b_M_untouched 11 = .ok (.if_icmp .gt 87, 3) := by decide +kernel
theorem d_M_untouched_14 : decode b_M_untouched 14 = .ok (.iconst 1, 1) := by decide +kernel
theorem d_M_untouched_15 : decode b_M_untouched 15 = .ok (.istore 4, 2) := by decide +kernel
theorem d_M_untouched_17 : decode b_M_untouched 17 = .ok (.iconst 0, 1) := by decide +kernel
theorem d_M_untouched_18 : decode b_M_untouched 18 = .ok (.istore 5, 2) := by decide +kernel
theorem d_M_untouched_20 : decode b_M_untouched 20 = .ok (.iload 5, 2) := by decide +kernel
theorem d_M_untouched_22 : decode b_M_untouched 22 = .ok (.aload_n 0, 1) := by decide +kernel
theorem d_M_untouched_23 : decode b_M_untouched 23 = .ok (.getfield 13, 3) := by decide +kernel
theorem d_M_untouched_26 : decode b_M_untouched 26 = .ok (.iload_n 1, 1) := by decide +kernel
theorem d_M_untouched_27 : decode b_M_untouched 27 = .ok (.iaload, 1) := by decide +kernel
theorem d_M_untouched_28 : decode b_M_untouched 28 = .ok (.if_icmp .ge 51, 3) := by decide +kernel
theorem d_M_untouched_31 : decode b_M_untouched 31 = .ok (.iload 4, 2) := by decide +kernel
theorem d_M_untouched_33 : decode b_M_untouched 33 = .ok (.ifCond .eq 37, 3) := by decide +kernel
theorem d_M_untouched_36 : decode b_M_untouched 36 = .ok (.aload_n 0, 1) := by decide +kernel
theorem d_M_untouched_37 : decode b_M_untouched 37 = .ok (.iload_n 1, 1) := by decide +kernel
theorem d_M_untouched_38 : decode b_M_untouched 38 = .ok (.iload 5, 2) := by decide +kernel
theorem d_M_untouched_40 : decode b_M_untouched 40 = .ok (.invokevirtual 64, 3) := by decide +kernel
theorem d_M_untouched_43 : decode b_M_untouched 43 = .ok (.invokestatic 68, 3) := by decide +kernel
theorem d_M_untouched_46 : decode b_M_untouched 46 = .ok (.iload_n 3, 1) := by decide +kernel
theorem d_M_untouched_47 : decode b_M_untouched 47 = .ok (.if_icmp .eq 23, 3) := by decide +kernel
theorem d_M_untouched_50 : decode b_M_untouched 50 = .ok (.aload_n 0, 1) := by decide +kernel
theorem d_M_untouched_51 : decode b_M_untouched 51 = .ok (.iload_n 1, 1) := by decide +kernel
theorem d_M_untouched_52 : decode b_M_untouched 52 = .ok (.iload 5, 2) := by decide +kernel
theorem d_M_untouched_54 : decode b_M_untouched 54 = .ok (.invokevirtual 64, 3) := by decide +kernel
theorem d_M_untouched_57 : decode b_M_untouched 57 = .ok (.invokestatic 68, 3) := by decide +kernel
theorem d_M_untouched_60 : decode b_M_untouched 60 = .ok (.iconst 1, 1) := by decide +kernel
theorem d_M_untouched_61 : decode b_M_untouched 61 = .ok (.iadd, 1) := by decide +kernel
theorem d_M_untouched_62 : decode b_M_untouched 62 = .ok (.iload_n 3, 1) := by decide +kernel
theorem d_M_untouched_63 : decode b_M_untouched 63 = .ok (.if_icmp .eq 7, 3) := by decide +kernel
theorem d_M_untouched_66 : decode b_M_untouched 66 = .ok (.iconst 1, 1) := by decide +kernel
theorem d_M_untouched_67 : decode b_M_untouched 67 = .ok (.goto 4, 3) := by decide +kernel
theorem d_M_untouched_70 : decode b_M_untouched 70 = .ok (.iconst 0, 1) := by decide +kernel
theorem d_M_untouched_71 : decode b_M_untouched 71 = .ok (.istore 4, 2) := by decide +kernel
theorem d_M_untouched_73 : decode b_M_untouched 73 = .ok (.iinc 5 1, 3) := by decide +kernel
theorem d_M_untouched_76 : decode b_M_untouched 76 = .ok (.goto (-56), 3) := by decide +kernel
theorem d_M_untouched_79 : decode b_M_untouched 79 = .ok (.iload_n 2, 1) := by decide +kernel
theorem d_M_untouched_80 : decode b_M_untouched 80 = .ok (.iload 4, 2) := by decide +kernel
theorem d_M_untouched_82 : decode b_M_untouched 82 = .ok (.ifCond .eq 7, 3) := by decide +kernel
theorem d_M_untouched_85 : decode b_M_untouched 85 = .ok (.iconst 1, 1) := by decide +kernel
theorem d_M_untouched_86 : decode b_M_untouched 86 = .ok (.goto 4, 3) := by decide +kernel
theorem d_M_untouched_89 : decode b_M_untouched 89 = .ok (.iconst 0, 1) := by decide +kernel
theorem d_M_untouched_90 : decode b_M_untouched 90 = .ok (.iadd, 1) := by decide +kernel
theorem d_M_untouched_91 : decode b_M_untouched 91 = .ok (.istore_n 2, 1) := by decide +kernel
theorem d_M_untouched_92 : decode b_M_untouched 92 = .ok (.iinc 3 1, 3) := by decide +kernel
theorem d_M_untouched_95 : decode b_M_untouched 95 = .ok (.goto (-91), 3) := by decide +kernel
theorem d_M_untouched_98 : decode b_M_untouched 98 = .ok (.iload_n 2, 1) := by decide +kernel
theorem d_M_untouched_99 : decode b_M_untouched 99 = .ok (.ireturn, 1) := by decide +kernel
theorem d_M_signs_0 : decode b_M_signs 0 = .ok (.iconst 0, 1) := by decide +kernel
theorem d_M_signs_1 : decode b_M_signs 1 = .ok (.istore_n 2, 1) := by decide +kernel
theorem d_M_signs_2 : decode b_M_signs 2 = .ok (.iconst 0, 1) := by decide +kernel
theorem d_M_signs_3 : decode b_M_signs 3 = .ok (.istore_n 3, 1) := by decide +kernel
theorem d_M_signs_4 : decode b_M_signs 4 = .ok (.iload_n 3, 1) := by decide +kernel
theorem d_M_signs_5 : decode b_M_signs 5 = .ok (.aload_n 0, 1) := by decide +kernel
theorem d_M_signs_6 : decode b_M_signs 6 = .ok (.getfield 13, 3) := by decide +kernel
theorem d_M_signs_9 : decode b_M_signs 9 = .ok (.iload_n 1, 1) := by decide +kernel
theorem d_M_signs_10 : decode b_M_signs 10 = .ok (.iaload, 1) := by decide +kernel
theorem d_M_signs_11 : decode b_M_signs 11 = .ok (.if_icmp .ge 26, 3) := by decide +kernel
theorem d_M_signs_14 : decode b_M_signs 14 = .ok (.iload_n 2, 1) := by decide +kernel
theorem d_M_signs_15 : decode b_M_signs 15 = .ok (.aload_n 0, 1) := by decide +kernel
theorem d_M_signs_16 : decode b_M_signs 16 = .ok (.iload_n 1, 1) := by decide +kernel
theorem d_M_signs_17 : decode b_M_signs 17 = .ok (.iload_n 3, 1) := by decide +kernel
theorem d_M_signs_18 : decode b_M_signs 18 = .ok (.invokevirtual 64, 3) := by decide +kernel
theorem d_M_signs_21 : decode b_M_signs 21 = .ok (.ifCond .le 7, 3) := by decide +kernel
theorem d_M_signs_24 : decode b_M_signs 24 = .ok (.iconst 1, 1) := by decide +kernel
theorem d_M_signs_25 : decode b_M_signs 25 = .ok (.goto 4, 3) := by decide +kernel
theorem d_M_signs_28 : decode b_M_signs 28 = .ok (.iconst (-1), 1) := by decide +kernel
theorem d_M_signs_29 : decode b_M_signs 29 = .ok (.iadd, 1) := by decide +kernel
theorem d_M_signs_30 : decode b_M_signs 30 = .ok (.istore_n 2, 1) := by decide +kernel
theorem d_M_signs_31 : decode b_M_signs 31 = .ok (.iinc 3 1, 3) := by decide +kernel
theorem d_M_signs_34 : decode b_M_signs 34 = .ok (.goto (-30), 3) := by decide +kernel
theorem d_M_signs_37 : decode b_M_signs 37 = .ok (.iload_n 2, 1) := by decide +kernel
theorem d_M_signs_38 : decode b_M_signs 38 = .ok (.ireturn, 1) := by decide +kernel
theorem d_M_many_0 : decode b_M_many 0 = .ok (.iload_n 1, 1) := by decide +kernel
theorem d_M_many_1 : decode b_M_many 1 = .ok (.invokestatic 60, 3) := by decide +kernel
theorem d_M_many_4 : decode b_M_many 4 = .ok (.ifCond .ne 7, 3) := by decide +kernel
theorem d_M_many_7 : decode b_M_many 7 = .ok (.sipush (-1000), 3) := by decide +kernel
theorem d_M_many_10 : decode b_M_many 10 = .ok (.ireturn, 1) := by decide +kernel
theorem d_M_many_11 : decode b_M_many 11 = .ok (.iload_n 2, 1) := by decide +kernel
theorem d_M_many_12 : decode b_M_many 12 = .ok (.tableswitch 68 0 4 #[36, 43, 50, 56, 62], 36) := by decide +kernel
theorem d_M_many_48 : decode b_M_many 48 = .ok (.aload_n 0, 1) := by decide +kernel
theorem d_M_many_49 : decode b_M_many 49 = .ok (.getfield 7, 3) := by decide +kernel
theorem d_M_many_52 : decode b_M_many 52 = .ok (.iload_n 1, 1) := by decide +kernel
theorem d_M_many_53 : decode b_M_many 53 = .ok (.iaload, 1) := by decide +kernel
theorem d_M_many_54 : decode b_M_many 54 = .ok (.ireturn, 1) := by decide +kernel
theorem d_M_many_55 : decode b_M_many 55 = .ok (.aload_n 0, 1) := by decide +kernel
theorem d_M_many_56 : decode b_M_many 56 = .ok (.getfield 13, 3) := by decide +kernel
theorem d_M_many_59 : decode b_M_many 59 = .ok (.iload_n 1, 1) := by decide +kernel
theorem d_M_many_60 : decode b_M_many 60 = .ok (.iaload, 1) := by decide +kernel
theorem d_M_many_61 : decode b_M_many 61 = .ok (.ireturn, 1) := by decide +kernel
theorem d_M_many_62 : decode b_M_many 62 = .ok (.aload_n 0, 1) := by decide +kernel
theorem d_M_many_63 : decode b_M_many 63 = .ok (.iload_n 1, 1) := by decide +kernel
theorem d_M_many_64 : decode b_M_many 64 = .ok (.invokevirtual 75, 3) := by decide +kernel
theorem d_M_many_67 : decode b_M_many 67 = .ok (.ireturn, 1) := by decide +kernel
theorem d_M_many_68 : decode b_M_many 68 = .ok (.aload_n 0, 1) := by decide +kernel
theorem d_M_many_69 : decode b_M_many 69 = .ok (.iload_n 1, 1) := by decide +kernel
theorem d_M_many_70 : decode b_M_many 70 = .ok (.invokevirtual 78, 3) := by decide +kernel
theorem d_M_many_73 : decode b_M_many 73 = .ok (.ireturn, 1) := by decide +kernel
theorem d_M_many_74 : decode b_M_many 74 = .ok (.aload_n 0, 1) := by decide +kernel
theorem d_M_many_75 : decode b_M_many 75 = .ok (.iload_n 1, 1) := by decide +kernel
theorem d_M_many_76 : decode b_M_many 76 = .ok (.invokevirtual 81, 3) := by decide +kernel
theorem d_M_many_79 : decode b_M_many 79 = .ok (.ireturn, 1) := by decide +kernel
theorem d_M_many_80 : decode b_M_many 80 = .ok (.sipush (-1000), 3) := by decide +kernel
theorem d_M_many_83 : decode b_M_many 83 = .ok (.ireturn, 1) := by decide +kernel
theorem d_M_at_0 : decode b_M_at 0 = .ok (.iload_n 1, 1) := by decide +kernel
theorem d_M_at_1 : decode b_M_at 1 = .ok (.invokestatic 60, 3) := by decide +kernel
theorem d_M_at_4 : decode b_M_at 4 = .ok (.ifCond .eq 17, 3) := by decide +kernel
theorem d_M_at_7 : decode b_M_at 7 = .ok (.iload_n 2, 1) := by decide +kernel
theorem d_M_at_8 : decode b_M_at 8 = .ok (.ifCond .lt 13, 3) := by decide +kernel
theorem d_M_at_11 : decode b_M_at 11 = .ok (.iload_n 2, 1) := by decide +kernel
theorem d_M_at_12 : decode b_M_at 12 = .ok (.aload_n 0, 1) := by decide +kernel
theorem d_M_at_13 : decode b_M_at 13 = .ok (.getfield 13, 3) := by decide +kernel
theorem d_M_at_16 : decode b_M_at 16 = .ok (.iload_n 1, 1) := by decide +kernel
theorem d_M_at_17 : decode b_M_at 17 = .ok (.iaload, 1) := by decide +kernel
theorem d_M_at_18 : decode b_M_at 18 = .ok (.if_icmp .lt 7, 3) := by decide +kernel
theorem d_M_at_21 : decode b_M_at 21 = .ok (.iconst 0, 1) := by decide +kernel
theorem d_M_at_22 : decode b_M_at 22 = .ok (.goto 9, 3) := by decide +kernel
theorem d_M_at_25 : decode b_M_at 25 = .ok (.aload_n 0, 1) := by decide +kernel
theorem d_M_at_26 : decode b_M_at 26 = .ok (.iload_n 1, 1) := by decide +kernel
theorem d_M_at_27 : decode b_M_at 27 = .ok (.iload_n 2, 1) := by decide +kernel
theorem d_M_at_28 : decode b_M_at 28 = .ok (.invokevirtual 64, 3) := by decide +kernel
theorem d_M_at_31 : decode b_M_at 31 = .ok (.ireturn, 1) := by decide +kernel
theorem d_M_remove_0 : decode b_M_remove 0 = .ok (.aload_n 0, 1) := by decide +kernel
theorem d_M_remove_1 : decode b_M_remove 1 = .ok (.getfield 13, 3) := by decide +kernel
theorem d_M_remove_4 : decode b_M_remove 4 = .ok (.iload_n 1, 1) := by decide +kernel
theorem d_M_remove_5 : decode b_M_remove 5 = .ok (.dup2, 1) := by decide +kernel
theorem d_M_remove_6 : decode b_M_remove 6 = .ok (.iaload, 1) := by decide +kernel
theorem d_M_remove_7 : decode b_M_remove 7 = .ok (.iconst 1, 1) := by decide +kernel
theorem d_M_remove_8 : decode b_M_remove 8 = .ok (.isub, 1) := by decide +kernel
theorem d_M_remove_9 : decode b_M_remove 9 = .ok (.iastore, 1) := by decide +kernel
theorem d_M_remove_10 : decode b_M_remove 10 = .ok (.iload_n 2, 1) := by decide +kernel
theorem d_M_remove_11 : decode b_M_remove 11 = .ok (.istore_n 3, 1) := by decide +kernel
theorem d_M_remove_12 : decode b_M_remove 12 = .ok (.iload_n 3, 1) := by decide +kernel
theorem d_M_remove_13 : decode b_M_remove 13 = .ok (.aload_n 0, 1) := by decide +kernel
theorem d_M_remove_14 : decode b_M_remove 14 = .ok (.getfield 13, 3) := by decide +kernel
theorem d_M_remove_17 : decode b_M_remove 17 = .ok (.iload_n 1, 1) := by decide +kernel
theorem d_M_remove_18 : decode b_M_remove 18 = .ok (.iaload, 1) := by decide +kernel
theorem d_M_remove_19 : decode b_M_remove 19 = .ok (.if_icmp .ge 33, 3) := by decide +kernel
theorem d_M_remove_22 : decode b_M_remove 22 = .ok (.aload_n 0, 1) := by decide +kernel
theorem d_M_remove_23 : decode b_M_remove 23 = .ok (.getfield 16, 3) := by decide +kernel
theorem d_M_remove_26 : decode b_M_remove 26 = .ok (.bipush 32, 2) := by decide +kernel
theorem d_M_remove_28 : decode b_M_remove 28 = .ok (.iload_n 1, 1) := by decide +kernel
theorem d_M_remove_29 : decode b_M_remove 29 = .ok (.imul, 1) := by decide +kernel
theorem d_M_remove_30 : decode b_M_remove 30 = .ok (.iload_n 3, 1) := by decide +kernel
theorem d_M_remove_31 : decode b_M_remove 31 = .ok (.iadd, 1) := by decide +kernel
theorem d_M_remove_32 : decode b_M_remove 32 = .ok (.aload_n 0, 1) := by decide +kernel
theorem d_M_remove_33 : decode b_M_remove 33 = .ok (.getfield 16, 3) := by decide +kernel
theorem d_M_remove_36 : decode b_M_remove 36 = .ok (.bipush 32, 2) := by decide +kernel
theorem d_M_remove_38 : decode b_M_remove 38 = .ok (.iload_n 1, 1) := by decide +kernel
theorem d_M_remove_39 : decode b_M_remove 39 = .ok (.imul, 1) := by decide +kernel
theorem d_M_remove_40 : decode b_M_remove 40 = .ok (.iload_n 3, 1) := by decide +kernel
theorem d_M_remove_41 : decode b_M_remove 41 = .ok (.iadd, 1) := by decide +kernel
theorem d_M_remove_42 : decode b_M_remove 42 = .ok (.iconst 1, 1) := by decide +kernel
theorem d_M_remove_43 : decode b_M_remove 43 = .ok (.iadd, 1) := by decide +kernel
theorem d_M_remove_44 : decode b_M_remove 44 = .ok (.iaload, 1) := by decide +kernel
theorem d_M_remove_45 : decode b_M_remove 45 = .ok (.iastore, 1) := by decide +kernel
theorem d_M_remove_46 : decode b_M_remove 46 = .ok (.iinc 3 1, 3) := by decide +kernel
theorem d_M_remove_49 : decode b_M_remove 49 = .ok (.goto (-37), 3) := by decide +kernel
theorem d_M_remove_52 : decode b_M_remove 52 = .ok (.aload_n 0, 1) := by decide +kernel
theorem d_M_remove_53 : decode b_M_remove 53 = .ok (.getfield 37, 3) := by decide +kernel
theorem d_M_remove_56 : decode b_M_remove 56 = .ok (.iload_n 1, 1) := by decide +kernel
theorem d_M_remove_57 : decode b_M_remove 57 = .ok (.iconst 0, 1) := by decide +kernel
theorem d_M_remove_58 : decode b_M_remove 58 = .ok (.bastore, 1) := by decide +kernel
theorem d_M_remove_59 : decode b_M_remove 59 = .ok (.return_, 1) := by decide +kernel
theorem d_M_reduce_0 : decode b_M_reduce 0 = .ok (.iload_n 1, 1) := by decide +kernel
theorem d_M_reduce_1 : decode b_M_reduce 1 = .ok (.invokestatic 60, 3) := by decide +kernel
theorem d_M_reduce_4 : decode b_M_reduce 4 = .ok (.ifCond .ne 5, 3) := by decide +kernel
theorem d_M_reduce_7 : decode b_M_reduce 7 = .ok (.iconst 0, 1) := by decide +kernel
theorem d_M_reduce_8 : decode b_M_reduce 8 = .ok (.ireturn, 1) := by decide +kernel
theorem d_M_reduce_9 : decode b_M_reduce 9 = .ok (.aload_n 0, 1) := by decide +kernel
theorem d_M_reduce_10 : decode b_M_reduce 10 = .ok (.getfield 13, 3) := by decide +kernel
theorem d_M_reduce_13 : decode b_M_reduce 13 = .ok (.iload_n 1, 1) := by decide +kernel
theorem d_M_reduce_14 : decode b_M_reduce 14 = .ok (.iaload, 1) := by decide +kernel
theorem d_M_reduce_15 : decode b_M_reduce 15 = .ok (.istore_n 3, 1) := by decide +kernel
theorem d_M_reduce_16 : decode b_M_reduce 16 = .ok (.iconst 0, 1) := by decide +kernel
theorem d_M_reduce_17 : decode b_M_reduce 17 = .ok (.istore 4, 2) := by decide +kernel
theorem d_M_reduce_19 : decode b_M_reduce 19 = .ok (.iload 4, 2) := by decide +kernel
theorem d_M_reduce_21 : decode b_M_reduce 21 = .ok (.iconst 1, 1) := by decide +kernel
theorem d_M_reduce_22 : decode b_M_reduce 22 = .ok (.iadd, 1) := by decide +kernel
theorem d_M_reduce_23 : decode b_M_reduce 23 = .ok (.aload_n 0, 1) := by decide +kernel
theorem d_M_reduce_24 : decode b_M_reduce 24 = .ok (.getfield 13, 3) := by decide +kernel
theorem d_M_reduce_27 : decode b_M_reduce 27 = .ok (.iload_n 1, 1) := by decide +kernel
theorem d_M_reduce_28 : decode b_M_reduce 28 = .ok (.iaload, 1) := by decide +kernel
theorem d_M_reduce_29 : decode b_M_reduce 29 = .ok (.if_icmp .ge 51, 3) := by decide +kernel
theorem d_M_reduce_32 : decode b_M_reduce 32 = .ok (.aload_n 0, 1) := by decide +kernel
theorem d_M_reduce_33 : decode b_M_reduce 33 = .ok (.iload_n 1, 1) := by decide +kernel
theorem d_M_reduce_34 : decode b_M_reduce 34 = .ok (.iload 4, 2) := by decide +kernel
theorem d_M_reduce_36 : decode b_M_reduce 36 = .ok (.invokevirtual 64, 3) := by decide +kernel
theorem d_M_reduce_39 : decode b_M_reduce 39 = .ok (.aload_n 0, 1) := by decide +kernel
theorem d_M_reduce_40 : decode b_M_reduce 40 = .ok (.iload_n 1, 1) := by decide +kernel
theorem d_M_reduce_41 : decode b_M_reduce 41 = .ok (.iload 4, 2) := by decide +kernel
theorem d_M_reduce_43 : decode b_M_reduce 43 = .ok (.iconst 1, 1) := by decide +kernel
theorem d_M_reduce_44 : decode b_M_reduce 44 = .ok (.iadd, 1) := by decide +kernel
theorem d_M_reduce_45 : decode b_M_reduce 45 = .ok (.invokevirtual 64, 3) := by decide +kernel
theorem d_M_reduce_48 : decode b_M_reduce 48 = .ok (.ineg, 1) := by decide +kernel
theorem d_M_reduce_49 : decode b_M_reduce 49 = .ok (.if_icmp .ne 25, 3) := by decide +kernel
theorem d_M_reduce_52 : decode b_M_reduce 52 = .ok (.aload_n 0, 1) := by decide +kernel
theorem d_M_reduce_53 : decode b_M_reduce 53 = .ok (.iload_n 1, 1) := by decide +kernel
theorem d_M_reduce_54 : decode b_M_reduce 54 = .ok (.iload 4, 2) := by decide +kernel
theorem d_M_reduce_56 : decode b_M_reduce 56 = .ok (.iconst 1, 1) := by decide +kernel
theorem d_M_reduce_57 : decode b_M_reduce 57 = .ok (.iadd, 1) := by decide +kernel
theorem d_M_reduce_58 : decode b_M_reduce 58 = .ok (.invokevirtual 84, 3) := by decide +kernel
theorem d_M_reduce_61 : decode b_M_reduce 61 = .ok (.aload_n 0, 1) := by decide +kernel
theorem d_M_reduce_62 : decode b_M_reduce 62 = .ok (.iload_n 1, 1) := by decide +kernel
theorem d_M_reduce_63 : decode b_M_reduce 63 = .ok (.iload 4, 2) := by decide +kernel
theorem d_M_reduce_65 : decode b_M_reduce 65 = .ok (.invokevirtual 84, 3) := by decide +kernel
theorem d_M_reduce_68 : decode b_M_reduce 68 = .ok (.iconst 0, 1) := by decide +kernel
theorem d_M_reduce_69 : decode b_M_reduce 69 = .ok (.istore 4, 2) := by decide +kernel
theorem d_M_reduce_71 : decode b_M_reduce 71 = .ok (.goto (-52), 3) := by decide +kernel
theorem d_M_reduce_74 : decode b_M_reduce 74 = .ok (.iinc 4 1, 3) := by decide +kernel
theorem d_M_reduce_77 : decode b_M_reduce 77 = .ok (.goto (-58), 3) := by decide +kernel
theorem d_M_reduce_80 : decode b_M_reduce 80 = .ok (.iload_n 2, 1) := by decide +kernel
theorem d_M_reduce_81 : decode b_M_reduce 81 = .ok (.ifCond .eq 58, 3) := by decide +kernel
theorem d_M_reduce_84 : decode b_M_reduce 84 = .ok (.aload_n 0, 1) := by decide +kernel
theorem d_M_reduce_85 : decode b_M_reduce 85 = .ok (.getfield 13, 3) := by decide +kernel
theorem d_M_reduce_88 : decode b_M_reduce 88 = .ok (.iload_n 1, 1) := by decide +kernel
theorem d_M_reduce_89 : decode b_M_reduce 89 = .ok (.iaload, 1) := by decide +kernel
theorem d_M_reduce_90 : decode b_M_reduce 90 = .ok (.iconst 1, 1) := by decide +kernel
theorem d_M_reduce_91 : decode b_M_reduce 91 = .ok (.if_icmp .le 48, 3) := by decide +kernel
theorem d_M_reduce_94 : decode b_M_reduce 94 = .ok (.aload_n 0, 1) := by decide +kernel
theorem d_M_reduce_95 : decode b_M_reduce 95 = .ok (.iload_n 1, 1) := by decide +kernel
theorem d_M_reduce_96 : decode b_M_reduce 96 = .ok (.iconst 0, 1) := by decide +kernel
theorem d_M_reduce_97 : decode b_M_reduce 97 = .ok (.invokevirtual 64, 3) := by decide +kernel
theorem d_M_reduce_100 : decode b_M_reduce 100 = .ok (.aload_n 0, 1) := by decide +kernel
theorem d_M_reduce_101 : decode b_M_reduce 101 = .ok (.iload_n 1, 1) := by decide +kernel
theorem d_M_reduce_102 : decode b_M_reduce 102 = .ok (.aload_n 0, 1) := by decide +kernel
theorem d_M_reduce_103 : decode b_M_reduce 103 = .ok (.getfield 13, 3) := by decide +kernel
theorem d_M_reduce_106 : decode b_M_reduce 106 = .ok (.iload_n 1, 1) := by decide +kernel
theorem d_M_reduce_107 : decode b_M_reduce 107 = .ok (.iaload, 1) := by decide +kernel
theorem d_M_reduce_108 : decode b_M_reduce 108 = .ok (.iconst 1, 1) := by decide +kernel
theorem d_M_reduce_109 : decode b_M_reduce 109 = .ok (.isub, 1) := by decide +kernel
theorem d_M_reduce_110 : decode b_M_reduce 110 = .ok (.invokevirtual 64, 3) := by decide +kernel
theorem d_M_reduce_113 : decode b_M_reduce 113 = .ok (.ineg, 1) := by decide +kernel
theorem d_M_reduce_114 : decode b_M_reduce 114 = .ok (.if_icmp .ne 25, 3) := by decide +kernel
theorem d_M_reduce_117 : decode b_M_reduce 117 = .ok (.aload_n 0, 1) := by decide +kernel
theorem d_M_reduce_118 : decode b_M_reduce 118 = .ok (.iload_n 1, 1) := by decide +kernel
theorem d_M_reduce_119 : decode b_M_reduce 119 = .ok (.aload_n 0, 1) := by decide +kernel
theorem d_M_reduce_120 : decode b_M_reduce 120 = .ok (.getfield 13, 3) := by decide +kernel
theorem d_M_reduce_123 : decode b_M_reduce 123 = .ok (.iload_n 1, 1) := by decide +kernel
theorem d_M_reduce_124 : decode b_M_reduce 124 = .ok (.iaload, 1) := by decide +kernel
theorem d_M_reduce_125 : decode b_M_reduce 125 = .ok (.iconst 1, 1) := by decide +kernel
theorem d_M_reduce_126 : decode b_M_reduce 126 = .ok (.isub, 1) := by decide +kernel
theorem d_M_reduce_127 : decode b_M_reduce 127 = .ok (.invokevirtual 84, 3) := by decide +kernel
theorem d_M_reduce_130 : decode b_M_reduce 130 = .ok (.aload_n 0, 1) := by decide +kernel
theorem d_M_reduce_131 : decode b_M_reduce 131 = .ok (.iload_n 1, 1) := by decide +kernel
theorem d_M_reduce_132 : decode b_M_reduce 132 = .ok (.iconst 0, 1) := by decide +kernel
theorem d_M_reduce_133 : decode b_M_reduce 133 = .ok (.invokevirtual 84, 3) := by decide +kernel
theorem d_M_reduce_136 : decode b_M_reduce 136 = .ok (.goto (-56), 3) := by decide +kernel
theorem d_M_reduce_139 : decode b_M_reduce 139 = .ok (.iload_n 3, 1) := by decide +kernel
theorem d_M_reduce_140 : decode b_M_reduce 140 = .ok (.aload_n 0, 1) := by decide +kernel
theorem d_M_reduce_141 : decode b_M_reduce 141 = .ok (.getfield 13, 3) := by decide +kernel
theorem d_M_reduce_144 : decode b_M_reduce 144 = .ok (.iload_n 1, 1) := by decide +kernel
theorem d_M_reduce_145 : decode b_M_reduce 145 = .ok (.iaload, 1) := by decide +kernel
theorem d_M_reduce_146 : decode b_M_reduce 146 = .ok (.isub, 1) := by decide +kernel
theorem d_M_reduce_147 : decode b_M_reduce 147 = .ok (.ireturn, 1) := by decide +kernel
theorem d_M_round_0 : decode b_M_round 0 = .ok (.iload_n 1, 1) := by decide +kernel
theorem d_M_round_1 : decode b_M_round 1 = .ok (.invokestatic 60, 3) := by decide +kernel
theorem d_M_round_4 : decode b_M_round 4 = .ok (.ifCond .eq 12, 3) := by decide +kernel
theorem d_M_round_7 : decode b_M_round 7 = .ok (.aload_n 0, 1) := by decide +kernel
theorem d_M_round_8 : decode b_M_round 8 = .ok (.getfield 13, 3) := by decide +kernel
theorem d_M_round_11 : decode b_M_round 11 = .ok (.iload_n 1, 1) := by decide +kernel
theorem d_M_round_12 : decode b_M_round 12 = .ok (.iaload, 1) := by decide +kernel
theorem d_M_round_13 : decode b_M_round 13 = .ok (.ifCond .ne 5, 3) := by decide +kernel
theorem d_M_round_16 : decode b_M_round 16 = .ok (.iconst 0, 1) := by decide +kernel
theorem d_M_round_17 : decode b_M_round 17 = .ok (.ireturn, 1) := by decide +kernel
theorem d_M_round_18 : decode b_M_round 18 = .ok (.aload_n 0, 1) := by decide +kernel
theorem d_M_round_19 : decode b_M_round 19 = .ok (.getfield 13, 3) := by decide +kernel
theorem d_M_round_22 : decode b_M_round 22 = .ok (.iload_n 1, 1) := by decide +kernel
theorem d_M_round_23 : decode b_M_round 23 = .ok (.iaload, 1) := by decide +kernel
theorem d_M_round_24 : decode b_M_round 24 = .ok (.istore_n 3, 1) := by decide +kernel
theorem d_M_round_25 : decode b_M_round 25 = .ok (.aload_n 0, 1) := by decide +kernel
theorem d_M_round_26 : decode b_M_round 26 = .ok (.iload_n 1, 1) := by decide +kernel
theorem d_M_round_27 : decode b_M_round 27 = .ok (.iload_n 2, 1) := by decide +kernel
theorem d_M_round_28 : decode b_M_round 28 = .ok (.ifCond .eq 9, 3) := by decide +kernel
theorem d_M_round_31 : decode b_M_round 31 = .ok (.iload_n 3, 1) := by decide +kernel
theorem d_M_round_32 : decode b_M_round 32 = .ok (.iconst 1, 1) := by decide +kernel
theorem d_M_round_33 : decode b_M_round 33 = .ok (.isub, 1) := by decide +kernel
theorem d_M_round_34 : decode b_M_round 34 = .ok (.goto 4, 3) := by decide +kernel
theorem d_M_round_37 : decode b_M_round 37 = .ok (.iconst 0, 1) := by decide +kernel
theorem d_M_round_38 : decode b_M_round 38 = .ok (.invokevirtual 64, 3) := by decide +kernel
theorem d_M_round_41 : decode b_M_round 41 = .ok (.istore 4, 2) := by decide +kernel
theorem d_M_round_43 : decode b_M_round 43 = .ok (.iload_n 2, 1) := by decide +kernel
theorem d_M_round_44 : decode b_M_round 44 = .ok (.ifCond .eq 43, 3) := by decide +kernel
theorem d_M_round_47 : decode b_M_round 47 = .ok (.iload_n 3, 1) := by decide +kernel
theorem d_M_round_48 : decode b_M_round 48 = .ok (.iconst 1, 1) := by decide +kernel
theorem d_M_round_49 : decode b_M_round 49 = .ok (.isub, 1) := by decide +kernel
theorem d_M_round_50 : decode b_M_round 50 = .ok (.istore 5, 2) := by decide +kernel
theorem d_M_round_52 : decode b_M_round 52 = .ok (.iload 5, 2) := by decide +kernel
theorem d_M_round_54 : decode b_M_round 54 = .ok (.ifCond .le 30, 3) := by decide +kernel
theorem d_M_round_57 : decode b_M_round 57 = .ok (.aload_n 0, 1) := by decide +kernel
theorem d_M_round_58 : decode b_M_round 58 = .ok (.getfield 16, 3) := by decide +kernel
theorem d_M_round_61 : decode b_M_round 61 = .ok (.bipush 32, 2) := by decide +kernel
theorem d_M_round_63 : decode b_M_round 63 = .ok (.iload_n 1, 1) := by decide +kernel
theorem d_M_round_64 : decode b_M_round 64 = .ok (.imul, 1) := by decide +kernel
theorem d_M_round_65 : decode b_M_round 65 = .ok (.iload 5, 2) := by decide +kernel
theorem d_M_round_67 : decode b_M_round 67 = .ok (.iadd, 1) := by decide +kernel
theorem d_M_round_68 : decode b_M_round 68 = .ok (.aload_n 0, 1) := by decide +kernel
theorem d_M_round_69 : decode b_M_round 69 = .ok (.iload_n 1, 1) := by decide +kernel
theorem d_M_round_70 : decode b_M_round 70 = .ok (.iload 5, 2) := by decide +kernel
theorem d_M_round_72 : decode b_M_round 72 = .ok (.iconst 1, 1) := by decide +kernel
theorem d_M_round_73 : decode b_M_round 73 = .ok (.isub, 1) := by decide +kernel
theorem d_M_round_74 : decode b_M_round 74 = .ok (.invokevirtual 64, 3) := by decide +kernel
theorem d_M_round_77 : decode b_M_round 77 = .ok (.iastore, 1) := by decide +kernel
theorem d_M_round_78 : decode b_M_round 78 = .ok (.iinc 5 (-1), 3) := by decide +kernel
theorem d_M_round_81 : decode b_M_round 81 = .ok (.goto (-29), 3) := by decide +kernel
theorem d_M_round_84 : decode b_M_round 84 = .ok (.goto 41, 3) := by decide +kernel
theorem d_M_round_87 : decode b_M_round 87 = .ok (.iconst 0, 1) := by decide +kernel
theorem d_M_round_88 : decode b_M_round 88 = .ok (.istore 5, 2) := by decide +kernel
theorem d_M_round_90 : decode b_M_round 90 = .ok (.iload 5, 2) := by decide +kernel
theorem d_M_round_92 : decode b_M_round 92 = .ok (.iconst 1, 1) := by decide +kernel
theorem d_M_round_93 : decode b_M_round 93 = .ok (.iadd, 1) := by decide +kernel
theorem d_M_round_94 : decode b_M_round 94 = .ok (.iload_n 3, 1) := by decide +kernel
theorem d_M_round_95 : decode b_M_round 95 = .ok (.if_icmp .ge 30, 3) := by decide +kernel
theorem d_M_round_98 : decode b_M_round 98 = .ok (.aload_n 0, 1) := by decide +kernel
theorem d_M_round_99 : decode b_M_round 99 = .ok (.getfield 16, 3) := by decide +kernel
theorem d_M_round_102 : decode b_M_round 102 = .ok (.bipush 32, 2) := by decide +kernel
theorem d_M_round_104 : decode b_M_round 104 = .ok (.iload_n 1, 1) := by decide +kernel
theorem d_M_round_105 : decode b_M_round 105 = .ok (.imul, 1) := by decide +kernel
theorem d_M_round_106 : decode b_M_round 106 = .ok (.iload 5, 2) := by decide +kernel
theorem d_M_round_108 : decode b_M_round 108 = .ok (.iadd, 1) := by decide +kernel
theorem d_M_round_109 : decode b_M_round 109 = .ok (.aload_n 0, 1) := by decide +kernel
theorem d_M_round_110 : decode b_M_round 110 = .ok (.iload_n 1, 1) := by decide +kernel
theorem d_M_round_111 : decode b_M_round 111 = .ok (.iload 5, 2) := by decide +kernel
theorem d_M_round_113 : decode b_M_round 113 = .ok (.iconst 1, 1) := by decide +kernel
theorem d_M_round_114 : decode b_M_round 114 = .ok (.iadd, 1) := by decide +kernel
theorem d_M_round_115 : decode b_M_round 115 = .ok (.invokevirtual 64, 3) := by decide +kernel
theorem d_M_round_118 : decode b_M_round 118 = .ok (.iastore, 1) := by decide +kernel
theorem d_M_round_119 : decode b_M_round 119 = .ok (.iinc 5 1, 3) := by decide +kernel
theorem d_M_round_122 : decode b_M_round 122 = .ok (.goto (-32), 3) := by decide +kernel
theorem d_M_round_125 : decode b_M_round 125 = .ok (.aload_n 0, 1) := by decide +kernel
theorem d_M_round_126 : decode b_M_round 126 = .ok (.getfield 16, 3) := by decide +kernel
theorem d_M_round_129 : decode b_M_round 129 = .ok (.bipush 32, 2) := by decide +kernel
theorem d_M_round_131 : decode b_M_round 131 = .ok (.iload_n 1, 1) := by decide +kernel
theorem d_M_round_132 : decode b_M_round 132 = .ok (.imul, 1) := by decide +kernel
theorem d_M_round_133 : decode b_M_round 133 = .ok (.iload_n 2, 1) := by decide +kernel
theorem d_M_round_134 : decode b_M_round 134 = .ok (.ifCond .eq 7, 3) := by decide +kernel
theorem d_M_round_137 : decode b_M_round 137 = .ok (.iconst 0, 1) := by decide +kernel
theorem d_M_round_138 : decode b_M_round 138 = .ok (.goto 6, 3) := by decide +kernel
theorem d_M_round_141 : decode b_M_round 141 = .ok (.iload_n 3, 1) := by decide +kernel
theorem d_M_round_142 : decode b_M_round 142 = .ok (.iconst 1, 1) := by decide +kernel
theorem d_M_round_143 : decode b_M_round 143 = .ok (.isub, 1) := by decide +kernel
theorem d_M_round_144 : decode b_M_round 144 = .ok (.iadd, 1) := by decide +kernel
theorem d_M_round_145 : decode b_M_round 145 = .ok (.iload 4, 2) := by decide +kernel
theorem d_M_round_147 : decode b_M_round 147 = .ok (.iastore, 1) := by decide +kernel
theorem d_M_round_148 : decode b_M_round 148 = .ok (.aload_n 0, 1) := by decide +kernel
theorem d_M_round_149 : decode b_M_round 149 = .ok (.getfield 37, 3) := by decide +kernel
theorem d_M_round_152 : decode b_M_round 152 = .ok (.iload_n 1, 1) := by decide +kernel
theorem d_M_round_153 : decode b_M_round 153 = .ok (.iconst 0, 1) := by decide +kernel
theorem d_M_round_154 : decode b_M_round 154 = .ok (.bastore, 1) := by decide +kernel
theorem d_M_round_155 : decode b_M_round 155 = .ok (.iconst 1, 1) := by decide +kernel
theorem d_M_round_156 : decode b_M_round 156 = .ok (.ireturn, 1) := by decide +kernel
theorem d_M_exchange_0 : decode b_M_exchange 0 = .ok (.iload_n 1, 1) := by decide +kernel
theorem d_M_exchange_1 : decode b_M_exchange 1 = .ok (.invokestatic 60, 3) := by decide +kernel
theorem d_M_exchange_4 : decode b_M_exchange 4 = .ok (.ifCond .eq 19, 3) := by decide +kernel
theorem d_M_exchange_7 : decode b_M_exchange 7 = .ok (.iload_n 2, 1) := by decide +kernel
theorem d_M_exchange_8 : decode b_M_exchange 8 = .ok (.ifCond .lt 15, 3) := by decide +kernel
theorem d_M_exchange_11 : decode b_M_exchange 11 = .ok (.iload_n 2, 1) := by decide +kernel
theorem d_M_exchange_12 : decode b_M_exchange 12 = .ok (.aload_n 0, 1) := by decide +kernel
theorem d_M_exchange_13 : decode b_M_exchange 13 = .ok (.getfield 13, 3) := by decide +kernel
theorem d_M_exchange_16 : decode b_M_exchange 16 = .ok (.iload_n 1, 1) := by decide +kernel
theorem d_M_exchange_17 : decode b_M_exchange 17 = .ok (.iaload, 1) := by decide +kernel
theorem d_M_exchange_18 : decode b_M_exchange 18 = .ok (.iconst 1, 1) := by decide +kernel
theorem d_M_exchange_19 : decode b_M_exchange 19 = .ok (.isub, 1) := by decide +kernel
theorem d_M_exchange_20 : decode b_M_exchange 20 = .ok (.if_icmp .lt 5, 3) := by decide +kernel
theorem d_M_exchange_23 : decode b_M_exchange 23 = .ok (.iconst 0, 1) := by decide +kernel
theorem d_M_exchange_24 : decode b_M_exchange 24 = .ok (.ireturn, 1) := by decide +kernel
theorem d_M_exchange_25 : decode b_M_exchange 25 = .ok (.aload_n 0, 1) := by decide +kernel
theorem d_M_exchange_26 : decode b_M_exchange 26 = .ok (.iload_n 1, 1) := by decide +kernel
theorem d_M_exchange_27 : decode b_M_exchange 27 = .ok (.iload_n 2, 1) := by decide +kernel
theorem d_M_exchange_28 : decode b_M_exchange 28 = .ok (.invokevirtual 64, 3) := by decide +kernel
theorem d_M_exchange_31 : decode b_M_exchange 31 = .ok (.istore_n 3, 1) := by decide +kernel
theorem d_M_exchange_32 : decode b_M_exchange 32 = .ok (.aload_n 0, 1) := by decide +kernel
theorem d_M_exchange_33 : decode b_M_exchange 33 = .ok (.iload_n 1, 1) := by decide +kernel
theorem d_M_exchange_34 : decode b_M_exchange 34 = .ok (.iload_n 2, 1) := by decide +kernel
theorem d_M_exchange_35 : decode b_M_exchange 35 = .ok (.iconst 1, 1) := by decide +kernel
theorem d_M_exchange_36 : decode b_M_exchange 36 = .ok (.iadd, 1) := by decide +kernel
theorem d_M_exchange_37 : decode b_M_exchange 37 = .ok (.invokevirtual 64, 3) := by decide +kernel
theorem d_M_exchange_40 : decode b_M_exchange 40 = .ok (.istore 4, 2) := by decide +kernel
theorem d_M_exchange_42 : decode b_M_exchange 42 = .ok (.iload_n 3, 1) := by decide +kernel
theorem d_M_exchange_43 : decode b_M_exchange 43 = .ok (.invokestatic 68, 3) := by decide +kernel
theorem d_M_exchange_46 : decode b_M_exchange 46 = .ok (.iload 4, 2) := by decide +kernel
theorem d_M_exchange_48 : decode b_M_exchange 48 = .ok (.invokestatic 68, 3) := by decide +kernel
theorem d_M_exchange_51 : decode b_M_exchange 51 = .ok (.isub, 1) := by decide +kernel
theorem d_M_exchange_52 : decode b_M_exchange 52 = .ok (.istore 5, 2) := by decide +kernel
theorem d_M_exchange_54 : decode b_M_exchange 54 = .ok (.iload 5, 2) := by decide +kernel
theorem d_M_exchange_56 : decode b_M_exchange 56 = .ok (.iconst (-1), 1) := by decide +kernel
theorem d_M_exchange_57 : decode b_M_exchange 57 = .ok (.if_icmp .lt 11, 3) := by decide +kernel
theorem d_M_exchange_60 : decode b_M_exchange 60 = .ok (.iload 5, 2) := by decide +kernel
theorem d_M_exchange_62 : decode b_M_exchange 62 = .ok (.iconst 1, 1) := by decide +kernel
theorem d_M_exchange_63 : decode b_M_exchange 63 = .ok (.if_icmp .gt 5, 3) := by decide +kernel
theorem d_M_exchange_66 : decode b_M_exchange 66 = .ok (.iconst 0, 1) := by decide +kernel
theorem d_M_exchange_67 : decode b_M_exchange 67 = .ok (.ireturn, 1) := by decide +kernel
theorem d_M_exchange_68 : decode b_M_exchange 68 = .ok (.aload_n 0, 1) := by decide +kernel
theorem d_M_exchange_69 : decode b_M_exchange 69 = .ok (.getfield 16, 3) := by decide +kernel
theorem d_M_exchange_72 : decode b_M_exchange 72 = .ok (.bipush 32, 2) := by decide +kernel
theorem d_M_exchange_74 : decode b_M_exchange 74 = .ok (.iload_n 1, 1) := by decide +kernel
theorem d_M_exchange_75 : decode b_M_exchange 75 = .ok (.imul, 1) := by decide +kernel
theorem d_M_exchange_76 : decode b_M_exchange 76 = .ok (.iload_n 2, 1) := by decide +kernel
theorem d_M_exchange_77 : decode b_M_exchange 77 = .ok (.iadd, 1) := by decide +kernel
theorem d_M_exchange_78 : decode b_M_exchange 78 = .ok (.iload 4, 2) := by decide +kernel
theorem d_M_exchange_80 : decode b_M_exchange 80 = .ok (.iastore, 1) := by decide +kernel
theorem d_M_exchange_81 : decode b_M_exchange 81 = .ok (.aload_n 0, 1) := by decide +kernel
theorem d_M_exchange_82 : decode b_M_exchange 82 = .ok (.getfield 16, 3) := by decide +kernel
theorem d_M_exchange_85 : decode b_M_exchange 85 = .ok (.bipush 32, 2) := by decide +kernel
theorem d_M_exchange_87 : decode b_M_exchange 87 = .ok (.iload_n 1, 1) := by decide +kernel
theorem d_M_exchange_88 : decode b_M_exchange 88 = .ok (.imul, 1) := by decide +kernel
theorem d_M_exchange_89 : decode b_M_exchange 89 = .ok (.iload_n 2, 1) := by decide +kernel
theorem d_M_exchange_90 : decode b_M_exchange 90 = .ok (.iadd, 1) := by decide +kernel
theorem d_M_exchange_91 : decode b_M_exchange 91 = .ok (.iconst 1, 1) := by decide +kernel
theorem d_M_exchange_92 : decode b_M_exchange 92 = .ok (.iadd, 1) := by decide +kernel
theorem d_M_exchange_93 : decode b_M_exchange 93 = .ok (.iload_n 3, 1) := by decide +kernel
theorem d_M_exchange_94 : decode b_M_exchange 94 = .ok (.iastore, 1) := by decide +kernel
theorem d_M_exchange_95 : decode b_M_exchange 95 = .ok (.aload_n 0, 1) := by decide +kernel
theorem d_M_exchange_96 : decode b_M_exchange 96 = .ok (.getfield 37, 3) := by decide +kernel
theorem d_M_exchange_99 : decode b_M_exchange 99 = .ok (.iload_n 1, 1) := by decide +kernel
theorem d_M_exchange_100 : decode b_M_exchange 100 = .ok (.iconst 0, 1) := by decide +kernel
theorem d_M_exchange_101 : decode b_M_exchange 101 = .ok (.bastore, 1) := by decide +kernel
theorem d_M_exchange_102 : decode b_M_exchange 102 = .ok (.iconst 1, 1) := by decide +kernel
theorem d_M_exchange_103 : decode b_M_exchange 103 = .ok (.ireturn, 1) := by decide +kernel
theorem d_M_pass_0 : decode b_M_pass 0 = .ok (.iload_n 1, 1) := by decide +kernel
theorem d_M_pass_1 : decode b_M_pass 1 = .ok (.invokestatic 60, 3) := by decide +kernel
theorem d_M_pass_4 : decode b_M_pass 4 = .ok (.ifCond .eq 19, 3) := by decide +kernel
theorem d_M_pass_7 : decode b_M_pass 7 = .ok (.iload_n 2, 1) := by decide +kernel
theorem d_M_pass_8 : decode b_M_pass 8 = .ok (.ifCond .lt 15, 3) := by decide +kernel
theorem d_M_pass_11 : decode b_M_pass 11 = .ok (.iload_n 2, 1) := by decide +kernel
theorem d_M_pass_12 : decode b_M_pass 12 = .ok (.aload_n 0, 1) := by decide +kernel
theorem d_M_pass_13 : decode b_M_pass 13 = .ok (.getfield 13, 3) := by decide +kernel
theorem d_M_pass_16 : decode b_M_pass 16 = .ok (.iload_n 1, 1) := by decide +kernel
theorem d_M_pass_17 : decode b_M_pass 17 = .ok (.iaload, 1) := by decide +kernel
theorem d_M_pass_18 : decode b_M_pass 18 = .ok (.iconst 2, 1) := by decide +kernel
theorem d_M_pass_19 : decode b_M_pass 19 = .ok (.isub, 1) := by decide +kernel
theorem d_M_pass_20 : decode b_M_pass 20 = .ok (.if_icmp .lt 5, 3) := by decide +kernel
theorem d_M_pass_23 : decode b_M_pass 23 = .ok (.iconst 0, 1) := by decide +kernel
theorem d_M_pass_24 : decode b_M_pass 24 = .ok (.ireturn, 1) := by decide +kernel
theorem d_M_pass_25 : decode b_M_pass 25 = .ok (.aload_n 0, 1) := by decide +kernel
theorem d_M_pass_26 : decode b_M_pass 26 = .ok (.iload_n 1, 1) := by decide +kernel
theorem d_M_pass_27 : decode b_M_pass 27 = .ok (.iload_n 2, 1) := by decide +kernel
theorem d_M_pass_28 : decode b_M_pass 28 = .ok (.invokevirtual 64, 3) := by decide +kernel
theorem d_M_pass_31 : decode b_M_pass 31 = .ok (.istore_n 3, 1) := by decide +kernel
theorem d_M_pass_32 : decode b_M_pass 32 = .ok (.aload_n 0, 1) := by decide +kernel
theorem d_M_pass_33 : decode b_M_pass 33 = .ok (.iload_n 1, 1) := by decide +kernel
theorem d_M_pass_34 : decode b_M_pass 34 = .ok (.iload_n 2, 1) := by decide +kernel
theorem d_M_pass_35 : decode b_M_pass 35 = .ok (.iconst 1, 1) := by decide +kernel
theorem d_M_pass_36 : decode b_M_pass 36 = .ok (.iadd, 1) := by decide +kernel
theorem d_M_pass_37 : decode b_M_pass 37 = .ok (.invokevirtual 64, 3) := by decide +kernel
theorem d_M_pass_40 : decode b_M_pass 40 = .ok (.istore 4, 2) := by decide +kernel
theorem d_M_pass_42 : decode b_M_pass 42 = .ok (.aload_n 0, 1) := by decide +kernel
theorem d_M_pass_43 : decode b_M_pass 43 = .ok (.iload_n 1, 1) := by decide +kernel
theorem d_M_pass_44 : decode b_M_pass 44 = .ok (.iload_n 2, 1) := by decide +kernel
theorem d_M_pass_45 : decode b_M_pass 45 = .ok (.iconst 2, 1) := by decide +kernel
theorem d_M_pass_46 : decode b_M_pass 46 = .ok (.iadd, 1) := by decide +kernel
theorem d_M_pass_47 : decode b_M_pass 47 = .ok (.invokevirtual 64, 3) := by decide +kernel
theorem d_M_pass_50 : decode b_M_pass 50 = .ok (.istore 5, 2) := by decide +kernel
theorem d_M_pass_52 : decode b_M_pass 52 = .ok (.iload_n 3, 1) := by decide +kernel
theorem d_M_pass_53 : decode b_M_pass 53 = .ok (.invokestatic 68, 3) := by decide +kernel
theorem d_M_pass_56 : decode b_M_pass 56 = .ok (.istore 6, 2) := by decide +kernel
theorem d_M_pass_58 : decode b_M_pass 58 = .ok (.iload 4, 2) := by decide +kernel
theorem d_M_pass_60 : decode b_M_pass 60 = .ok (.invokestatic 68, 3) := by decide +kernel
theorem d_M_pass_63 : decode b_M_pass 63 = .ok (.istore 7, 2) := by decide +kernel
theorem d_M_pass_65 : decode b_M_pass 65 = .ok (.iload 6, 2) := by decide +kernel
theorem d_M_pass_67 : decode b_M_pass 67 = .ok (.iload 5, 2) := by decide +kernel
theorem d_M_pass_69 : decode b_M_pass 69 = .ok (.invokestatic 68, 3) := by decide +kernel
theorem d_M_pass_72 : decode b_M_pass 72 = .ok (.if_icmp .ne 25, 3) := by decide +kernel
theorem d_M_pass_75 : decode b_M_pass 75 = .ok (.iload 6, 2) := by decide +kernel
theorem d_M_pass_77 : decode b_M_pass 77 = .ok (.iload 7, 2) := by decide +kernel
theorem d_M_pass_79 : decode b_M_pass 79 = .ok (.isub, 1) := by decide +kernel
theorem d_M_pass_80 : decode b_M_pass 80 = .ok (.iconst 1, 1) := by decide +kernel
theorem d_M_pass_81 : decode b_M_pass 81 = .ok (.if_icmp .eq 12, 3) := by decide +kernel
theorem d_M_pass_84 : decode b_M_pass 84 = .ok (.iload 7, 2) := by decide +kernel
theorem d_M_pass_86 : decode b_M_pass 86 = .ok (.iload 6, 2) := by decide +kernel
theorem d_M_pass_88 : decode b_M_pass 88 = .ok (.isub, 1) := by decide +kernel
theorem d_M_pass_89 : decode b_M_pass 89 = .ok (.iconst 1, 1) := by decide +kernel
theorem d_M_pass_90 : decode b_M_pass 90 = .ok (.if_icmp .ne 7, 3) := by decide +kernel
theorem d_M_pass_93 : decode b_M_pass 93 = .ok (.iconst 1, 1) := by decide +kernel
theorem d_M_pass_94 : decode b_M_pass 94 = .ok (.goto 4, 3) := by decide +kernel
theorem d_M_pass_97 : decode b_M_pass 97 = .ok (.iconst 0, 1) := by decide +kernel
theorem d_M_pass_98 : decode b_M_pass 98 = .ok (.istore 8, 2) := by decide +kernel
theorem d_M_pass_100 : decode b_M_pass 100 = .ok (.iload_n 3, 1) := by decide +kernel
theorem d_M_pass_101 : decode b_M_pass 101 = .ok (.ifCond .le 7, 3) := by decide +kernel
theorem d_M_pass_104 : decode b_M_pass 104 = .ok (.iconst 1, 1) := by decide +kernel
theorem d_M_pass_105 : decode b_M_pass 105 = .ok (.goto 4, 3) := by decide +kernel
theorem d_M_pass_108 : decode b_M_pass 108 = .ok (.iconst 0, 1) := by decide +kernel
theorem d_M_pass_109 : decode b_M_pass 109 = .ok (.iload 5, 2) := by decide +kernel
theorem d_M_pass_111 : decode b_M_pass 111 = .ok (.ifCond .le 7, 3) := by decide +kernel
theorem d_M_pass_114 : decode b_M_pass 114 = .ok (.iconst 1, 1) := by decide +kernel
theorem d_M_pass_115 : decode b_M_pass 115 = .ok (.goto 4, 3) := by decide +kernel
theorem d_M_pass_118 : decode b_M_pass 118 = .ok (.iconst 0, 1) := by decide +kernel
theorem d_M_pass_119 : decode b_M_pass 119 = .ok (.if_icmp .ne 7, 3) := by decide +kernel
theorem d_M_pass_122 : decode b_M_pass 122 = .ok (.iconst 1, 1) := by decide +kernel
theorem d_M_pass_123 : decode b_M_pass 123 = .ok (.goto 4, 3) := by decide +kernel
theorem d_M_pass_126 : decode b_M_pass 126 = .ok (.iconst 0, 1) := by decide +kernel
theorem d_M_pass_127 : decode b_M_pass 127 = .ok (.istore 9, 2) := by decide +kernel
theorem d_M_pass_129 : decode b_M_pass 129 = .ok (.iload 8, 2) := by decide +kernel
theorem d_M_pass_131 : decode b_M_pass 131 = .ok (.ifCond .eq 30, 3) := by decide +kernel
theorem d_M_pass_134 : decode b_M_pass 134 = .ok (.iload 9, 2) := by decide +kernel
theorem d_M_pass_136 : decode b_M_pass 136 = .ok (.ifCond .eq 27, 3) := by decide +kernel
theorem d_M_pass_139 : decode b_M_pass 139 = .ok (.iload 4, 2) := by decide +kernel
theorem d_M_pass_141 : decode b_M_pass 141 = .ok (.ifCond .le 7, 3) := by decide +kernel
theorem d_M_pass_144 : decode b_M_pass 144 = .ok (.iconst 1, 1) := by decide +kernel
theorem d_M_pass_145 : decode b_M_pass 145 = .ok (.goto 4, 3) := by decide +kernel
theorem d_M_pass_148 : decode b_M_pass 148 = .ok (.iconst 0, 1) := by decide +kernel
theorem d_M_pass_149 : decode b_M_pass 149 = .ok (.iload_n 3, 1) := by decide +kernel
theorem d_M_pass_150 : decode b_M_pass 150 = .ok (.ifCond .le 7, 3) := by decide +kernel
theorem d_M_pass_153 : decode b_M_pass 153 = .ok (.iconst 1, 1) := by decide +kernel
theorem d_M_pass_154 : decode b_M_pass 154 = .ok (.goto 4, 3) := by decide +kernel
theorem d_M_pass_157 : decode b_M_pass 157 = .ok (.iconst 0, 1) := by decide +kernel
theorem d_M_pass_158 : decode b_M_pass 158 = .ok (.if_icmp .eq 5, 3) := by decide +kernel
theorem d_M_pass_161 : decode b_M_pass 161 = .ok (.iconst 0, 1) := by decide +kernel
theorem d_M_pass_162 : decode b_M_pass 162 = .ok (.ireturn, 1) := by decide +kernel
theorem d_M_pass_163 : decode b_M_pass 163 = .ok (.aload_n 0, 1) := by decide +kernel
theorem d_M_pass_164 : decode b_M_pass 164 = .ok (.getfield 16, 3) := by decide +kernel
theorem d_M_pass_167 : decode b_M_pass 167 = .ok (.bipush 32, 2) := by decide +kernel
theorem d_M_pass_169 : decode b_M_pass 169 = .ok (.iload_n 1, 1) := by decide +kernel
theorem d_M_pass_170 : decode b_M_pass 170 = .ok (.imul, 1) := by decide +kernel
theorem d_M_pass_171 : decode b_M_pass 171 = .ok (.iload_n 2, 1) := by decide +kernel
theorem d_M_pass_172 : decode b_M_pass 172 = .ok (.iadd, 1) := by decide +kernel
theorem d_M_pass_173 : decode b_M_pass 173 = .ok (.iload 5, 2) := by decide +kernel
theorem d_M_pass_175 : decode b_M_pass 175 = .ok (.ifCond .le 8, 3) := by decide +kernel
theorem d_M_pass_178 : decode b_M_pass 178 = .ok (.iload 7, 2) := by decide +kernel
theorem d_M_pass_180 : decode b_M_pass 180 = .ok (.goto 6, 3) := by decide +kernel
theorem d_M_pass_183 : decode b_M_pass 183 = .ok (.iload 7, 2) := by decide +kernel
theorem d_M_pass_185 : decode b_M_pass 185 = .ok (.ineg, 1) := by decide +kernel
theorem d_M_pass_186 : decode b_M_pass 186 = .ok (.iastore, 1) := by decide +kernel
theorem d_M_pass_187 : decode b_M_pass 187 = .ok (.aload_n 0, 1) := by decide +kernel
theorem d_M_pass_188 : decode b_M_pass 188 = .ok (.getfield 16, 3) := by decide +kernel
theorem d_M_pass_191 : decode b_M_pass 191 = .ok (.bipush 32, 2) := by decide +kernel
theorem d_M_pass_193 : decode b_M_pass 193 = .ok (.iload_n 1, 1) := by decide +kernel
theorem d_M_pass_194 : decode b_M_pass 194 = .ok (.imul, 1) := by decide +kernel
theorem d_M_pass_195 : decode b_M_pass 195 = .ok (.iload_n 2, 1) := by decide +kernel
theorem d_M_pass_196 : decode b_M_pass 196 = .ok (.iadd, 1) := by decide +kernel
theorem d_M_pass_197 : decode b_M_pass 197 = .ok (.iconst 1, 1) := by decide +kernel
theorem d_M_pass_198 : decode b_M_pass 198 = .ok (.iadd, 1) := by decide +kernel
theorem d_M_pass_199 : decode b_M_pass 199 = .ok (.iload 4, 2) := by decide +kernel
theorem d_M_pass_201 : decode b_M_pass 201 = .ok (.ifCond .le 8, 3) := by decide +kernel
theorem d_M_pass_204 : decode b_M_pass 204 = .ok (.iload 6, 2) := by decide +kernel
theorem d_M_pass_206 : decode b_M_pass 206 = .ok (.goto 6, 3) := by decide +kernel
theorem d_M_pass_209 : decode b_M_pass 209 = .ok (.iload 6, 2) := by decide +kernel
theorem d_M_pass_211 : decode b_M_pass 211 = .ok (.ineg, 1) := by decide +kernel
theorem d_M_pass_212 : decode b_M_pass 212 = .ok (.iastore, 1) := by decide +kernel
theorem d_M_pass_213 : decode b_M_pass 213 = .ok (.aload_n 0, 1) := by decide +kernel
theorem d_M_pass_214 : decode b_M_pass 214 = .ok (.getfield 16, 3) := by decide +kernel
theorem d_M_pass_217 : decode b_M_pass 217 = .ok (.bipush 32, 2) := by decide +kernel
theorem d_M_pass_219 : decode b_M_pass 219 = .ok (.iload_n 1, 1) := by decide +kernel
theorem d_M_pass_220 : decode b_M_pass 220 = .ok (.imul, 1) := by decide +kernel
theorem d_M_pass_221 : decode b_M_pass 221 = .ok (.iload_n 2, 1) := by decide +kernel
theorem d_M_pass_222 : decode b_M_pass 222 = .ok (.iadd, 1) := by decide +kernel
theorem d_M_pass_223 : decode b_M_pass 223 = .ok (.iconst 2, 1) := by decide +kernel
theorem d_M_pass_224 : decode b_M_pass 224 = .ok (.iadd, 1) := by decide +kernel
theorem d_M_pass_225 : decode b_M_pass 225 = .ok (.iload_n 3, 1) := by decide +kernel
theorem d_M_pass_226 : decode b_M_pass 226 = .ok (.ifCond .le 8, 3) := by decide +kernel
theorem d_M_pass_229 : decode b_M_pass 229 = .ok (.iload 7, 2) := by decide +kernel
theorem d_M_pass_231 : decode b_M_pass 231 = .ok (.goto 6, 3) := by decide +kernel
theorem d_M_pass_234 : decode b_M_pass 234 = .ok (.iload 7, 2) := by decide +kernel
theorem d_M_pass_236 : decode b_M_pass 236 = .ok (.ineg, 1) := by decide +kernel
theorem d_M_pass_237 : decode b_M_pass 237 = .ok (.iastore, 1) := by decide +kernel
theorem d_M_pass_238 : decode b_M_pass 238 = .ok (.aload_n 0, 1) := by decide +kernel
theorem d_M_pass_239 : decode b_M_pass 239 = .ok (.getfield 37, 3) := by decide +kernel
theorem d_M_pass_242 : decode b_M_pass 242 = .ok (.iload_n 1, 1) := by decide +kernel
theorem d_M_pass_243 : decode b_M_pass 243 = .ok (.iconst 0, 1) := by decide +kernel
theorem d_M_pass_244 : decode b_M_pass 244 = .ok (.bastore, 1) := by decide +kernel
theorem d_M_pass_245 : decode b_M_pass 245 = .ok (.iconst 1, 1) := by decide +kernel
theorem d_M_pass_246 : decode b_M_pass 246 = .ok (.ireturn, 1) := by decide +kernel
theorem d_M_grow_0 : decode b_M_grow 0 = .ok (.iload_n 1, 1) := by decide +kernel
theorem d_M_grow_1 : decode b_M_grow 1 = .ok (.invokestatic 60, 3) := by decide +kernel
theorem d_M_grow_4 : decode b_M_grow 4 = .ok (.ifCond .eq 35, 3) := by decide +kernel
theorem d_M_grow_7 : decode b_M_grow 7 = .ok (.iload_n 2, 1) := by decide +kernel
theorem d_M_grow_8 : decode b_M_grow 8 = .ok (.iconst 1, 1) := by decide +kernel
theorem d_M_grow_9 : decode b_M_grow 9 = .ok (.if_icmp .eq 8, 3) := by decide +kernel
theorem d_M_grow_12 : decode b_M_grow 12 = .ok (.iload_n 2, 1) := by decide +kernel
theorem d_M_grow_13 : decode b_M_grow 13 = .ok (.iconst (-1), 1) := by decide +kernel
theorem d_M_grow_14 : decode b_M_grow 14 = .ok (.if_icmp .ne 25, 3) := by decide +kernel
theorem d_M_grow_17 : decode b_M_grow 17 = .ok (.aload_n 0, 1) := by decide +kernel
theorem d_M_grow_18 : decode b_M_grow 18 = .ok (.getfield 7, 3) := by decide +kernel
theorem d_M_grow_21 : decode b_M_grow 21 = .ok (.iload_n 1, 1) := by decide +kernel
theorem d_M_grow_22 : decode b_M_grow 22 = .ok (.iaload, 1) := by decide +kernel
theorem d_M_grow_23 : decode b_M_grow 23 = .ok (.bipush 8, 2) := by decide +kernel
theorem d_M_grow_25 : decode b_M_grow 25 = .ok (.if_icmp .eq 14, 3) := by decide +kernel
theorem d_M_grow_28 : decode b_M_grow 28 = .ok (.aload_n 0, 1) := by decide +kernel
theorem d_M_grow_29 : decode b_M_grow 29 = .ok (.getfield 13, 3) := by decide +kernel
theorem d_M_grow_32 : decode b_M_grow 32 = .ok (.iload_n 1, 1) := by decide +kernel
theorem d_M_grow_33 : decode b_M_grow 33 = .ok (.iaload, 1) := by decide +kernel
theorem d_M_grow_34 : decode b_M_grow 34 = .ok (.bipush 32, 2) := by decide +kernel
theorem d_M_grow_36 : decode b_M_grow 36 = .ok (.if_icmp .ne 5, 3) := by decide +kernel
theorem d_M_grow_39 : decode b_M_grow 39 = .ok (.iconst 0, 1) := by decide +kernel
theorem d_M_grow_40 : decode b_M_grow 40 = .ok (.ireturn, 1) := by decide +kernel
theorem d_M_grow_41 : decode b_M_grow 41 = .ok (.aload_n 0, 1) := by decide +kernel
theorem d_M_grow_42 : decode b_M_grow 42 = .ok (.getfield 16, 3) := by decide +kernel
theorem d_M_grow_45 : decode b_M_grow 45 = .ok (.bipush 32, 2) := by decide +kernel
theorem d_M_grow_47 : decode b_M_grow 47 = .ok (.iload_n 1, 1) := by decide +kernel
theorem d_M_grow_48 : decode b_M_grow 48 = .ok (.imul, 1) := by decide +kernel
theorem d_M_grow_49 : decode b_M_grow 49 = .ok (.aload_n 0, 1) := by decide +kernel
theorem d_M_grow_50 : decode b_M_grow 50 = .ok (.getfield 13, 3) := by decide +kernel
theorem d_M_grow_53 : decode b_M_grow 53 = .ok (.iload_n 1, 1) := by decide +kernel
theorem d_M_grow_54 : decode b_M_grow 54 = .ok (.iaload, 1) := by decide +kernel
theorem d_M_grow_55 : decode b_M_grow 55 = .ok (.iadd, 1) := by decide +kernel
theorem d_M_grow_56 : decode b_M_grow 56 = .ok (.iload_n 2, 1) := by decide +kernel
theorem d_M_grow_57 : decode b_M_grow 57 = .ok (.aload_n 0, 1) := by decide +kernel
theorem d_M_grow_58 : decode b_M_grow 58 = .ok (.getfield 7, 3) := by decide +kernel
theorem d_M_grow_61 : decode b_M_grow 61 = .ok (.iload_n 1, 1) := by decide +kernel
theorem d_M_grow_62 : decode b_M_grow 62 = .ok (.iaload, 1) := by decide +kernel
theorem d_M_grow_63 : decode b_M_grow 63 = .ok (.imul, 1) := by decide +kernel
theorem d_M_grow_64 : decode b_M_grow 64 = .ok (.iastore, 1) := by decide +kernel
theorem d_M_grow_65 : decode b_M_grow 65 = .ok (.aload_n 0, 1) := by decide +kernel
theorem d_M_grow_66 : decode b_M_grow 66 = .ok (.getfield 13, 3) := by decide +kernel
theorem d_M_grow_69 : decode b_M_grow 69 = .ok (.iload_n 1, 1) := by decide +kernel
theorem d_M_grow_70 : decode b_M_grow 70 = .ok (.dup2, 1) := by decide +kernel
theorem d_M_grow_71 : decode b_M_grow 71 = .ok (.iaload, 1) := by decide +kernel
theorem d_M_grow_72 : decode b_M_grow 72 = .ok (.iconst 1, 1) := by decide +kernel
theorem d_M_grow_73 : decode b_M_grow 73 = .ok (.iadd, 1) := by decide +kernel
theorem d_M_grow_74 : decode b_M_grow 74 = .ok (.iastore, 1) := by decide +kernel
theorem d_M_grow_75 : decode b_M_grow 75 = .ok (.aload_n 0, 1) := by decide +kernel
theorem d_M_grow_76 : decode b_M_grow 76 = .ok (.getfield 7, 3) := by decide +kernel
theorem d_M_grow_79 : decode b_M_grow 79 = .ok (.iload_n 1, 1) := by decide +kernel
theorem d_M_grow_80 : decode b_M_grow 80 = .ok (.dup2, 1) := by decide +kernel
theorem d_M_grow_81 : decode b_M_grow 81 = .ok (.iaload, 1) := by decide +kernel
theorem d_M_grow_82 : decode b_M_grow 82 = .ok (.iconst 1, 1) := by decide +kernel
theorem d_M_grow_83 : decode b_M_grow 83 = .ok (.iadd, 1) := by decide +kernel
theorem d_M_grow_84 : decode b_M_grow 84 = .ok (.iastore, 1) := by decide +kernel
theorem d_M_grow_85 : decode b_M_grow 85 = .ok (.aload_n 0, 1) := by decide +kernel
theorem d_M_grow_86 : decode b_M_grow 86 = .ok (.getfield 37, 3) := by decide +kernel
theorem d_M_grow_89 : decode b_M_grow 89 = .ok (.iload_n 1, 1) := by decide +kernel
theorem d_M_grow_90 : decode b_M_grow 90 = .ok (.iconst 0, 1) := by decide +kernel
theorem d_M_grow_91 : decode b_M_grow 91 = .ok (.bastore, 1) := by decide +kernel
theorem d_M_grow_92 : decode b_M_grow 92 = .ok (.iconst 1, 1) := by decide +kernel
theorem d_M_grow_93 : decode b_M_grow 93 = .ok (.ireturn, 1) := by decide +kernel
theorem d_M_shrink_0 : decode b_M_shrink 0 = .ok (.iload_n 1, 1) := by decide +kernel
theorem d_M_shrink_1 : decode b_M_shrink 1 = .ok (.invokestatic 60, 3) := by decide +kernel
theorem d_M_shrink_4 : decode b_M_shrink 4 = .ok (.ifCond .eq 22, 3) := by decide +kernel
theorem d_M_shrink_7 : decode b_M_shrink 7 = .ok (.aload_n 0, 1) := by decide +kernel
theorem d_M_shrink_8 : decode b_M_shrink 8 = .ok (.getfield 7, 3) := by decide +kernel
theorem d_M_shrink_11 : decode b_M_shrink 11 = .ok (.iload_n 1, 1) := by decide +kernel
theorem d_M_shrink_12 : decode b_M_shrink 12 = .ok (.iaload, 1) := by decide +kernel
theorem d_M_shrink_13 : decode b_M_shrink 13 = .ok (.iconst 2, 1) := by decide +kernel
theorem d_M_shrink_14 : decode b_M_shrink 14 = .ok (.if_icmp .lt 12, 3) := by decide +kernel
theorem d_M_shrink_17 : decode b_M_shrink 17 = .ok (.aload_n 0, 1) := by decide +kernel
theorem d_M_shrink_18 : decode b_M_shrink 18 = .ok (.getfield 13, 3) := by decide +kernel
theorem d_M_shrink_21 : decode b_M_shrink 21 = .ok (.iload_n 1, 1) := by decide +kernel
theorem d_M_shrink_22 : decode b_M_shrink 22 = .ok (.iaload, 1) := by decide +kernel
theorem d_M_shrink_23 : decode b_M_shrink 23 = .ok (.ifCond .ne 5, 3) := by decide +kernel
theorem d_M_shrink_26 : decode b_M_shrink 26 = .ok (.iconst 0, 1) := by decide +kernel
theorem d_M_shrink_27 : decode b_M_shrink 27 = .ok (.ireturn, 1) := by decide +kernel
theorem d_M_shrink_28 : decode b_M_shrink 28 = .ok (.iconst 0, 1) := by decide +kernel
theorem d_M_shrink_29 : decode b_M_shrink 29 = .ok (.istore_n 2, 1) := by decide +kernel
theorem d_M_shrink_30 : decode b_M_shrink 30 = .ok (.iconst 0, 1) := by decide +kernel
theorem d_M_shrink_31 : decode b_M_shrink 31 = .ok (.istore_n 3, 1) := by decide +kernel
theorem d_M_shrink_32 : decode b_M_shrink 32 = .ok (.iload_n 3, 1) := by decide +kernel
theorem d_M_shrink_33 : decode b_M_shrink 33 = .ok (.aload_n 0, 1) := by decide +kernel
theorem d_M_shrink_34 : decode b_M_shrink 34 = .ok (.getfield 13, 3) := by decide +kernel
theorem d_M_shrink_37 : decode b_M_shrink 37 = .ok (.iload_n 1, 1) := by decide +kernel
theorem d_M_shrink_38 : decode b_M_shrink 38 = .ok (.iaload, 1) := by decide +kernel
theorem d_M_shrink_39 : decode b_M_shrink 39 = .ok (.if_icmp .ge 37, 3) := by decide +kernel
theorem d_M_shrink_42 : decode b_M_shrink 42 = .ok (.iload_n 2, 1) := by decide +kernel
theorem d_M_shrink_43 : decode b_M_shrink 43 = .ok (.aload_n 0, 1) := by decide +kernel
theorem d_M_shrink_44 : decode b_M_shrink 44 = .ok (.iload_n 1, 1) := by decide +kernel
theorem d_M_shrink_45 : decode b_M_shrink 45 = .ok (.iload_n 3, 1) := by decide +kernel
theorem d_M_shrink_46 : decode b_M_shrink 46 = .ok (.invokevirtual 64, 3) := by decide +kernel
theorem d_M_shrink_49 : decode b_M_shrink 49 = .ok (.invokestatic 68, 3) := by decide +kernel
theorem d_M_shrink_52 : decode b_M_shrink 52 = .ok (.aload_n 0, 1) := by decide +kernel
theorem d_M_shrink_53 : decode b_M_shrink 53 = .ok (.getfield 7, 3) := by decide +kernel
theorem d_M_shrink_56 : decode b_M_shrink 56 = .ok (.iload_n 1, 1) := by decide +kernel
theorem d_M_shrink_57 : decode b_M_shrink 57 = .ok (.iaload, 1) := by decide +kernel
theorem d_M_shrink_58 : decode b_M_shrink 58 = .ok (.iconst 1, 1) := by decide +kernel
theorem d_M_shrink_59 : decode b_M_shrink 59 = .ok (.isub, 1) := by decide +kernel
theorem d_M_shrink_60 : decode b_M_shrink 60 = .ok (.if_icmp .ne 7, 3) := by decide +kernel
theorem d_M_shrink_63 : decode b_M_shrink 63 = .ok (.iconst 1, 1) := by decide +kernel
theorem d_M_shrink_64 : decode b_M_shrink 64 = .ok (.goto 4, 3) := by decide +kernel
theorem d_M_shrink_67 : decode b_M_shrink 67 = .ok (.iconst 0, 1) := by decide +kernel
theorem d_M_shrink_68 : decode b_M_shrink 68 = .ok (.iadd, 1) := by decide +kernel
theorem d_M_shrink_69 : decode b_M_shrink 69 = .ok (.istore_n 2, 1) := by decide +kernel
theorem d_M_shrink_70 : decode b_M_shrink 70 = .ok (.iinc 3 1, 3) := by decide +kernel
theorem d_M_shrink_73 : decode b_M_shrink 73 = .ok (.goto (-41), 3) := by decide +kernel
theorem d_M_shrink_76 : decode b_M_shrink 76 = .ok (.iload_n 2, 1) := by decide +kernel
theorem d_M_shrink_77 : decode b_M_shrink 77 = .ok (.iconst 1, 1) := by decide +kernel
theorem d_M_shrink_78 : decode b_M_shrink 78 = .ok (.if_icmp .ne 30, 3) := by decide +kernel
theorem d_M_shrink_81 : decode b_M_shrink 81 = .ok (.aload_n 0, 1) := by decide +kernel
theorem d_M_shrink_82 : decode b_M_shrink 82 = .ok (.iload_n 1, 1) := by decide +kernel
theorem d_M_shrink_83 : decode b_M_shrink 83 = .ok (.aload_n 0, 1) := by decide +kernel
theorem d_M_shrink_84 : decode b_M_shrink 84 = .ok (.getfield 13, 3) := by decide +kernel
theorem d_M_shrink_87 : decode b_M_shrink 87 = .ok (.iload_n 1, 1) := by decide +kernel
theorem d_M_shrink_88 : decode b_M_shrink 88 = .ok (.iaload, 1) := by decide +kernel
theorem d_M_shrink_89 : decode b_M_shrink 89 = .ok (.iconst 1, 1) := by decide +kernel
theorem d_M_shrink_90 : decode b_M_shrink 90 = .ok (.isub, 1) := by decide +kernel
theorem d_M_shrink_91 : decode b_M_shrink 91 = .ok (.invokevirtual 64, 3) := by decide +kernel
theorem d_M_shrink_94 : decode b_M_shrink 94 = .ok (.invokestatic 68, 3) := by decide +kernel
theorem d_M_shrink_97 : decode b_M_shrink 97 = .ok (.aload_n 0, 1) := by decide +kernel
theorem d_M_shrink_98 : decode b_M_shrink 98 = .ok (.getfield 7, 3) := by decide +kernel
theorem d_M_shrink_101 : decode b_M_shrink 101 = .ok (.iload_n 1, 1) := by decide +kernel
theorem d_M_shrink_102 : decode b_M_shrink 102 = .ok (.iaload, 1) := by decide +kernel
theorem d_M_shrink_103 : decode b_M_shrink 103 = .ok (.iconst 1, 1) := by decide +kernel
theorem d_M_shrink_104 : decode b_M_shrink 104 = .ok (.isub, 1) := by decide +kernel
theorem d_M_shrink_105 : decode b_M_shrink 105 = .ok (.if_icmp .eq 5, 3) := by decide +kernel
theorem d_M_shrink_108 : decode b_M_shrink 108 = .ok (.iconst 0, 1) := by decide +kernel
theorem d_M_shrink_109 : decode b_M_shrink 109 = .ok (.ireturn, 1) := by decide +kernel
theorem d_M_shrink_110 : decode b_M_shrink 110 = .ok (.aload_n 0, 1) := by decide +kernel
theorem d_M_shrink_111 : decode b_M_shrink 111 = .ok (.getfield 13, 3) := by decide +kernel
theorem d_M_shrink_114 : decode b_M_shrink 114 = .ok (.iload_n 1, 1) := by decide +kernel
theorem d_M_shrink_115 : decode b_M_shrink 115 = .ok (.dup2, 1) := by decide +kernel
theorem d_M_shrink_116 : decode b_M_shrink 116 = .ok (.iaload, 1) := by decide +kernel
theorem d_M_shrink_117 : decode b_M_shrink 117 = .ok (.iconst 1, 1) := by decide +kernel
theorem d_M_shrink_118 : decode b_M_shrink 118 = .ok (.isub, 1) := by decide +kernel
theorem d_M_shrink_119 : decode b_M_shrink 119 = .ok (.iastore, 1) := by decide +kernel
theorem d_M_shrink_120 : decode b_M_shrink 120 = .ok (.aload_n 0, 1) := by decide +kernel
theorem d_M_shrink_121 : decode b_M_shrink 121 = .ok (.getfield 7, 3) := by decide +kernel
theorem d_M_shrink_124 : decode b_M_shrink 124 = .ok (.iload_n 1, 1) := by decide +kernel
theorem d_M_shrink_125 : decode b_M_shrink 125 = .ok (.dup2, 1) := by decide +kernel
theorem d_M_shrink_126 : decode b_M_shrink 126 = .ok (.iaload, 1) := by decide +kernel
theorem d_M_shrink_127 : decode b_M_shrink 127 = .ok (.iconst 1, 1) := by decide +kernel
theorem d_M_shrink_128 : decode b_M_shrink 128 = .ok (.isub, 1) := by decide +kernel
theorem d_M_shrink_129 : decode b_M_shrink 129 = .ok (.iastore, 1) := by decide +kernel
theorem d_M_shrink_130 : decode b_M_shrink 130 = .ok (.aload_n 0, 1) := by decide +kernel
theorem d_M_shrink_131 : decode b_M_shrink 131 = .ok (.getfield 37, 3) := by decide +kernel
theorem d_M_shrink_134 : decode b_M_shrink 134 = .ok (.iload_n 1, 1) := by decide +kernel
theorem d_M_shrink_135 : decode b_M_shrink 135 = .ok (.iconst 0, 1) := by decide +kernel
theorem d_M_shrink_136 : decode b_M_shrink 136 = .ok (.bastore, 1) := by decide +kernel
theorem d_M_shrink_137 : decode b_M_shrink 137 = .ok (.iconst 1, 1) := by decide +kernel
theorem d_M_shrink_138 : decode b_M_shrink 138 = .ok (.ireturn, 1) := by decide +kernel
theorem d_M_clearChain_0 : decode b_M_clearChain 0 = .ok (.iconst 0, 1) := by decide +kernel
theorem d_M_clearChain_1 : decode b_M_clearChain 1 = .ok (.istore_n 1, 1) := by decide +kernel
theorem d_M_clearChain_2 : decode b_M_clearChain 2 = .ok (.iload_n 1, 1) := by decide +kernel
theorem d_M_clearChain_3 : decode b_M_clearChain 3 = .ok (.iconst 2, 1) := by decide +kernel
theorem d_M_clearChain_4 : decode b_M_clearChain 4 = .ok (.if_icmp .ge 16, 3) := by decide +kernel
theorem d_M_clearChain_7 : decode b_M_clearChain 7 = .ok (.aload_n 0, 1) := by decide +kernel
theorem d_M_clearChain_8 : decode b_M_clearChain 8 = .ok (.getfield 19, 3) := by decide +kernel
