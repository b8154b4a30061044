theorem d_N_init_0 : decode b_N_init 0 = .ok (.aload_n 0, 1) := by decide +kernel
theorem d_N_init_1 : decode b_N_init 1 = .ok (.invokespecial 3, 3) := by decide +kernel
theorem d_N_init_4 : decode b_N_init 4 = .ok (.aload_n 0, 1) := by decide +kernel
theorem d_N_init_5 : decode b_N_init 5 = .ok (.new 9, 3) := by decide +kernel
theorem d_N_init_8 : decode b_N_init 8 = .ok (.dup, 1) := by decide +kernel
theorem d_N_init_9 : decode b_N_init 9 = .ok (.invokespecial 11, 3) := by decide +kernel
theorem d_N_init_12 : decode b_N_init 12 = .ok (.putfield 12, 3) := by decide +kernel
theorem d_N_init_15 : decode b_N_init 15 = .ok (.aload_n 0, 1) := by decide +kernel
theorem d_N_init_16 : decode b_N_init 16 = .ok (.bipush 32, 2) := by decide +kernel
theorem d_N_init_18 : decode b_N_init 18 = .ok (.bipush 9, 2) := by decide +kernel
theorem d_N_init_20 : decode b_N_init 20 = .ok (.multianewarray 18 2, 4) := by decide +kernel
theorem d_N_init_24 : decode b_N_init 24 = .ok (.putfield 20, 3) := by decide +kernel
theorem d_N_init_27 : decode b_N_init 27 = .ok (.aload_n 0, 1) := by decide +kernel
theorem d_N_init_28 : decode b_N_init 28 = .ok (.bipush 9, 2) := by decide +kernel
theorem d_N_init_30 : decode b_N_init 30 = .ok (.newarray .int, 2) := by decide +kernel
theorem d_N_init_32 : decode b_N_init 32 = .ok (.putfield 23, 3) := by decide +kernel
theorem d_N_init_35 : decode b_N_init 35 = .ok (.aload_n 0, 1) := by decide +kernel
theorem d_N_init_36 : decode b_N_init 36 = .ok (.iconst 0, 1) := by decide +kernel
theorem d_N_init_37 : decode b_N_init 37 = .ok (.putfield 27, 3) := by decide +kernel
theorem d_N_init_40 : decode b_N_init 40 = .ok (.aload_n 0, 1) := by decide +kernel
theorem d_N_init_41 : decode b_N_init 41 = .ok (.iconst 0, 1) := by decide +kernel
theorem d_N_init_42 : decode b_N_init 42 = .ok (.putfield 31, 3) := by decide +kernel
theorem d_N_init_45 : decode b_N_init 45 = .ok (.aload_n 0, 1) := by decide +kernel
theorem d_N_init_46 : decode b_N_init 46 = .ok (.iconst 0, 1) := by decide +kernel
theorem d_N_init_47 : decode b_N_init 47 = .ok (.putfield 34, 3) := by decide +kernel
theorem d_N_init_50 : decode b_N_init 50 = .ok (.return_, 1) := by decide +kernel
theorem d_N_follow_0 : decode b_N_follow 0 = .ok (.aload_n 0, 1) := by decide +kernel
theorem d_N_follow_1 : decode b_N_follow 1 = .ok (.getfield 12, 3) := by decide +kernel
theorem d_N_follow_4 : decode b_N_follow 4 = .ok (.aload_n 1, 1) := by decide +kernel
theorem d_N_follow_5 : decode b_N_follow 5 = .ok (.invokevirtual 37, 3) := by decide +kernel
theorem d_N_follow_8 : decode b_N_follow 8 = .ok (.ifCond .eq 4, 3) := by decide +kernel
theorem d_N_follow_11 : decode b_N_follow 11 = .ok (.return_, 1) := by decide +kernel
theorem d_N_follow_12 : decode b_N_follow 12 = .ok (.aload_n 0, 1) := by decide +kernel
theorem d_N_follow_13 : decode b_N_follow 13 = .ok (.getfield 12, 3) := by decide +kernel
theorem d_N_follow_16 : decode b_N_follow 16 = .ok (.aload_n 1, 1) := by decide +kernel
theorem d_N_follow_17 : decode b_N_follow 17 = .ok (.invokevirtual 41, 3) := by decide +kernel
theorem d_N_follow_20 : decode b_N_follow 20 = .ok (.aload_n 0, 1) := by decide +kernel
theorem d_N_follow_21 : decode b_N_follow 21 = .ok (.iconst 0, 1) := by decide +kernel
theorem d_N_follow_22 : decode b_N_follow 22 = .ok (.putfield 27, 3) := by decide +kernel
theorem d_N_follow_25 : decode b_N_follow 25 = .ok (.aload_n 0, 1) := by decide +kernel
theorem d_N_follow_26 : decode b_N_follow 26 = .ok (.iconst 0, 1) := by decide +kernel
theorem d_N_follow_27 : decode b_N_follow 27 = .ok (.putfield 31, 3) := by decide +kernel
theorem d_N_follow_30 : decode b_N_follow 30 = .ok (.aload_n 0, 1) := by decide +kernel
theorem d_N_follow_31 : decode b_N_follow 31 = .ok (.aload_n 0, 1) := by decide +kernel
theorem d_N_follow_32 : decode b_N_follow 32 = .ok (.getfield 12, 3) := by decide +kernel
theorem d_N_follow_35 : decode b_N_follow 35 = .ok (.invokevirtual 45, 3) := by decide +kernel
theorem d_N_follow_38 : decode b_N_follow 38 = .ok (.ineg, 1) := by decide +kernel
theorem d_N_follow_39 : decode b_N_follow 39 = .ok (.putfield 34, 3) := by decide +kernel
theorem d_N_follow_42 : decode b_N_follow 42 = .ok (.aload_n 0, 1) := by decide +kernel
theorem d_N_follow_43 : decode b_N_follow 43 = .ok (.getfield 12, 3) := by decide +kernel
theorem d_N_follow_46 : decode b_N_follow 46 = .ok (.invokevirtual 45, 3) := by decide +kernel
theorem d_N_follow_49 : decode b_N_follow 49 = .ok (.iconst 2, 1) := by decide +kernel
theorem d_N_follow_50 : decode b_N_follow 50 = .ok (.irem, 1) := by decide +kernel
theorem d_N_follow_51 : decode b_N_follow 51 = .ok (.iconst 1, 1) := by decide +kernel
theorem d_N_follow_52 : decode b_N_follow 52 = .ok (.if_icmp .ne 7, 3) := by decide +kernel
theorem d_N_follow_55 : decode b_N_follow 55 = .ok (.iconst 1, 1) := by decide +kernel
theorem d_N_follow_56 : decode b_N_follow 56 = .ok (.goto 4, 3) := by decide +kernel
theorem d_N_follow_59 : decode b_N_follow 59 = .ok (.iconst 0, 1) := by decide +kernel
theorem d_N_follow_60 : decode b_N_follow 60 = .ok (.istore_n 2, 1) := by decide +kernel
theorem d_N_follow_61 : decode b_N_follow 61 = .ok (.iconst 0, 1) := by decide +kernel
theorem d_N_follow_62 : decode b_N_follow 62 = .ok (.istore_n 3, 1) := by decide +kernel
theorem d_N_follow_63 : decode b_N_follow 63 = .ok (.iload_n 3, 1) := by decide +kernel
theorem d_N_follow_64 : decode b_N_follow 64 = .ok (.aload_n 0, 1) := by decide +kernel
theorem d_N_follow_65 : decode b_N_follow 65 = .ok (.getfield 12, 3) := by decide +kernel
theorem d_N_follow_68 : decode b_N_follow 68 = .ok (.getfield 49, 3) := by decide +kernel
theorem d_N_follow_71 : decode b_N_follow 71 = .ok (.if_icmp .ge 84, 3) := by decide +kernel
theorem d_N_follow_74 : decode b_N_follow 74 = .ok (.aload_n 0, 1) := by decide +kernel
theorem d_N_follow_75 : decode b_N_follow 75 = .ok (.getfield 12, 3) := by decide +kernel
theorem d_N_follow_78 : decode b_N_follow 78 = .ok (.getfield 52, 3) := by decide +kernel
theorem d_N_follow_81 : decode b_N_follow 81 = .ok (.iload_n 3, 1) := by decide +kernel
theorem d_N_follow_82 : decode b_N_follow 82 = .ok (.iaload, 1) := by decide +kernel
theorem d_N_follow_83 : decode b_N_follow 83 = .ok (.ifCond .ge 7, 3) := by decide +kernel
theorem d_N_follow_86 : decode b_N_follow 86 = .ok (.iconst 1, 1) := by decide +kernel
theorem d_N_follow_87 : decode b_N_follow 87 = .ok (.goto 4, 3) := by decide +kernel
theorem d_N_follow_90 : decode b_N_follow 90 = .ok (.iconst 0, 1) := by decide +kernel
theorem d_N_follow_91 : decode b_N_follow 91 = .ok (.istore 4, 2) := by decide +kernel
theorem d_N_follow_93 : decode b_N_follow 93 = .ok (.iload 4, 2) := by decide +kernel
theorem d_N_follow_95 : decode b_N_follow 95 = .ok (.ifCond .eq 13, 3) := by decide +kernel
theorem d_N_follow_98 : decode b_N_follow 98 = .ok (.iload_n 2, 1) := by decide +kernel
theorem d_N_follow_99 : decode b_N_follow 99 = .ok (.ifCond .ne 7, 3) := by decide +kernel
theorem d_N_follow_102 : decode b_N_follow 102 = .ok (.iconst 1, 1) := by decide +kernel
theorem d_N_follow_103 : decode b_N_follow 103 = .ok (.goto 4, 3) := by decide +kernel
theorem d_N_follow_106 : decode b_N_follow 106 = .ok (.iconst 0, 1) := by decide +kernel
theorem d_N_follow_107 : decode b_N_follow 107 = .ok (.istore_n 2, 1) := by decide +kernel
theorem d_N_follow_108 : decode b_N_follow 108 = .ok (.aload_n 0, 1) := by decide +kernel
theorem d_N_follow_109 : decode b_N_follow 109 = .ok (.iload_n 2, 1) := by decide +kernel
theorem d_N_follow_110 : decode b_N_follow 110 = .ok (.ifCond .eq 22, 3) := by decide +kernel
theorem d_N_follow_113 : decode b_N_follow 113 = .ok (.aload_n 0, 1) := by decide +kernel
theorem d_N_follow_114 : decode b_N_follow 114 = .ok (.getfield 12, 3) := by decide +kernel
theorem d_N_follow_117 : decode b_N_follow 117 = .ok (.getfield 55, 3) := by decide +kernel
theorem d_N_follow_120 : decode b_N_follow 120 = .ok (.aload_n 0, 1) := by decide +kernel
theorem d_N_follow_121 : decode b_N_follow 121 = .ok (.getfield 12, 3) := by decide +kernel
theorem d_N_follow_124 : decode b_N_follow 124 = .ok (.iload_n 3, 1) := by decide +kernel
theorem d_N_follow_125 : decode b_N_follow 125 = .ok (.invokevirtual 58, 3) := by decide +kernel
theorem d_N_follow_128 : decode b_N_follow 128 = .ok (.isub, 1) := by decide +kernel
theorem d_N_follow_129 : decode b_N_follow 129 = .ok (.goto 11, 3) := by decide +kernel
theorem d_N_follow_132 : decode b_N_follow 132 = .ok (.aload_n 0, 1) := by decide +kernel
theorem d_N_follow_133 : decode b_N_follow 133 = .ok (.getfield 12, 3) := by decide +kernel
theorem d_N_follow_136 : decode b_N_follow 136 = .ok (.iload_n 3, 1) := by decide +kernel
theorem d_N_follow_137 : decode b_N_follow 137 = .ok (.invokevirtual 58, 3) := by decide +kernel
theorem d_N_follow_140 : decode b_N_follow 140 = .ok (.iload 4, 2) := by decide +kernel
theorem d_N_follow_142 : decode b_N_follow 142 = .ok (.invokevirtual 62, 3) := by decide +kernel
theorem d_N_follow_145 : decode b_N_follow 145 = .ok (.aload_n 0, 1) := by decide +kernel
theorem d_N_follow_146 : decode b_N_follow 146 = .ok (.invokevirtual 66, 3) := by decide +kernel
theorem d_N_follow_149 : decode b_N_follow 149 = .ok (.iinc 3 1, 3) := by decide +kernel
theorem d_N_follow_152 : decode b_N_follow 152 = .ok (.goto (-89), 3) := by decide +kernel
theorem d_N_follow_155 : decode b_N_follow 155 = .ok (.return_, 1) := by decide +kernel
theorem d_N_size_0 : decode b_N_size 0 = .ok (.aload_n 0, 1) := by decide +kernel
theorem d_N_size_1 : decode b_N_size 1 = .ok (.getfield 31, 3) := by decide +kernel
theorem d_N_size_4 : decode b_N_size 4 = .ok (.aload_n 0, 1) := by decide +kernel
theorem d_N_size_5 : decode b_N_size 5 = .ok (.getfield 27, 3) := by decide +kernel
theorem d_N_size_8 : decode b_N_size 8 = .ok (.isub, 1) := by decide +kernel
theorem d_N_size_9 : decode b_N_size 9 = .ok (.ireturn, 1) := by decide +kernel
theorem d_N_image_0 : decode b_N_image 0 = .ok (.iload_n 1, 1) := by decide +kernel
theorem d_N_image_1 : decode b_N_image 1 = .ok (.iconst 1, 1) := by decide +kernel
theorem d_N_image_2 : decode b_N_image 2 = .ok (.if_icmp .lt 40, 3) := by decide +kernel
theorem d_N_image_5 : decode b_N_image 5 = .ok (.iload_n 1, 1) := by decide +kernel
theorem d_N_image_6 : decode b_N_image 6 = .ok (.aload_n 0, 1) := by decide +kernel
theorem d_N_image_7 : decode b_N_image 7 = .ok (.invokevirtual 69, 3) := by decide +kernel
theorem d_N_image_10 : decode b_N_image 10 = .ok (.if_icmp .gt 32, 3) := by decide +kernel
theorem d_N_image_13 : decode b_N_image 13 = .ok (.aload_n 0, 1) := by decide +kernel
theorem d_N_image_14 : decode b_N_image 14 = .ok (.getfield 12, 3) := by decide +kernel
theorem d_N_image_17 : decode b_N_image 17 = .ok (.iload_n 2, 1) := by decide +kernel
theorem d_N_image_18 : decode b_N_image 18 = .ok (.invokevirtual 72, 3) := by decide +kernel
theorem d_N_image_21 : decode b_N_image 21 = .ok (.ifCond .eq 21, 3) := by decide +kernel
theorem d_N_image_24 : decode b_N_image 24 = .ok (.aload_n 0, 1) := by decide +kernel
theorem d_N_image_25 : decode b_N_image 25 = .ok (.getfield 20, 3) := by decide +kernel
theorem d_N_image_28 : decode b_N_image 28 = .ok (.aload_n 0, 1) := by decide +kernel
theorem d_N_image_29 : decode b_N_image 29 = .ok (.getfield 27, 3) := by decide +kernel
theorem d_N_image_32 : decode b_N_image 32 = .ok (.iload_n 1, 1) := by decide +kernel
theorem d_N_image_33 : decode b_N_image 33 = .ok (.iadd, 1) := by decide +kernel
theorem d_N_image_34 : decode b_N_image 34 = .ok (.iconst 1, 1) := by decide +kernel
theorem d_N_image_35 : decode b_N_image 35 = .ok (.isub, 1) := by decide +kernel
theorem d_N_image_36 : decode b_N_image 36 = .ok (.aaload, 1) := by decide +kernel
theorem d_N_image_37 : decode b_N_image 37 = .ok (.iload_n 2, 1) := by decide +kernel
theorem d_N_image_38 : decode b_N_image 38 = .ok (.iaload, 1) := by decide +kernel
theorem d_N_image_39 : decode b_N_image 39 = .ok (.goto 4, 3) := by decide +kernel
theorem d_N_image_42 : decode b_N_image 42 = .ok (.iconst 0, 1) := by decide +kernel
theorem d_N_image_43 : decode b_N_image 43 = .ok (.ireturn, 1) := by decide +kernel
theorem d_N_equalTo_0 : decode b_N_equalTo 0 = .ok (.aload_n 0, 1) := by decide +kernel
theorem d_N_equalTo_1 : decode b_N_equalTo 1 = .ok (.getfield 12, 3) := by decide +kernel
theorem d_N_equalTo_4 : decode b_N_equalTo 4 = .ok (.getfield 55, 3) := by decide +kernel
theorem d_N_equalTo_7 : decode b_N_equalTo 7 = .ok (.aload_n 1, 1) := by decide +kernel
theorem d_N_equalTo_8 : decode b_N_equalTo 8 = .ok (.getfield 12, 3) := by decide +kernel
theorem d_N_equalTo_11 : decode b_N_equalTo 11 = .ok (.getfield 55, 3) := by decide +kernel
theorem d_N_equalTo_14 : decode b_N_equalTo 14 = .ok (.if_icmp .ne 25, 3) := by decide +kernel
theorem d_N_equalTo_17 : decode b_N_equalTo 17 = .ok (.aload_n 0, 1) := by decide +kernel
theorem d_N_equalTo_18 : decode b_N_equalTo 18 = .ok (.getfield 34, 3) := by decide +kernel
theorem d_N_equalTo_21 : decode b_N_equalTo 21 = .ok (.aload_n 1, 1) := by decide +kernel
theorem d_N_equalTo_22 : decode b_N_equalTo 22 = .ok (.getfield 34, 3) := by decide +kernel
theorem d_N_equalTo_25 : decode b_N_equalTo 25 = .ok (.if_icmp .ne 14, 3) := by decide +kernel
theorem d_N_equalTo_28 : decode b_N_equalTo 28 = .ok (.aload_n 0, 1) := by decide +kernel
theorem d_N_equalTo_29 : decode b_N_equalTo 29 = .ok (.invokevirtual 69, 3) := by decide +kernel
theorem d_N_equalTo_32 : decode b_N_equalTo 32 = .ok (.aload_n 1, 1) := by decide +kernel
theorem d_N_equalTo_33 : decode b_N_equalTo 33 = .ok (.invokevirtual 69, 3) := by decide +kernel
theorem d_N_equalTo_36 : decode b_N_equalTo 36 = .ok (.if_icmp .eq 5, 3) := by decide +kernel
theorem d_N_equalTo_39 : decode b_N_equalTo 39 = .ok (.iconst 0, 1) := by decide +kernel
theorem d_N_equalTo_40 : decode b_N_equalTo 40 = .ok (.ireturn, 1) := by decide +kernel
theorem d_N_equalTo_41 : decode b_N_equalTo 41 = .ok (.iconst 1, 1) := by decide +kernel
theorem d_N_equalTo_42 : decode b_N_equalTo 42 = .ok (.istore_n 2, 1) := by decide +kernel
theorem d_N_equalTo_43 : decode b_N_equalTo 43 = .ok (.iload_n 2, 1) := by decide +kernel
theorem d_N_equalTo_44 : decode b_N_equalTo 44 = .ok (.aload_n 0, 1) := by decide +kernel
theorem d_N_equalTo_45 : decode b_N_equalTo 45 = .ok (.invokevirtual 69, 3) := by decide +kernel
theorem d_N_equalTo_48 : decode b_N_equalTo 48 = .ok (.if_icmp .gt 45, 3) := by decide +kernel
theorem d_N_equalTo_51 : decode b_N_equalTo 51 = .ok (.iconst 1, 1) := by decide +kernel
theorem d_N_equalTo_52 : decode b_N_equalTo 52 = .ok (.istore_n 3, 1) := by decide +kernel
theorem d_N_equalTo_53 : decode b_N_equalTo 53 = .ok (.iload_n 3, 1) := by decide +kernel
theorem d_N_equalTo_54 : decode b_N_equalTo 54 = .ok (.aload_n 0, 1) := by decide +kernel
theorem d_N_equalTo_55 : decode b_N_equalTo 55 = .ok (.getfield 12, 3) := by decide +kernel
theorem d_N_equalTo_58 : decode b_N_equalTo 58 = .ok (.getfield 55, 3) := by decide +kernel
theorem d_N_equalTo_61 : decode b_N_equalTo 61 = .ok (.if_icmp .gt 26, 3) := by decide +kernel
theorem d_N_equalTo_64 : decode b_N_equalTo 64 = .ok (.aload_n 0, 1) := by decide +kernel
theorem d_N_equalTo_65 : decode b_N_equalTo 65 = .ok (.iload_n 2, 1) := by decide +kernel
theorem d_N_equalTo_66 : decode b_N_equalTo 66 = .ok (.iload_n 3, 1) := by decide +kernel
theorem d_N_equalTo_67 : decode b_N_equalTo 67 = .ok (.invokevirtual 76, 3) := by decide +kernel
theorem d_N_equalTo_70 : decode b_N_equalTo 70 = .ok (.aload_n 1, 1) := by decide +kernel
theorem d_N_equalTo_71 : decode b_N_equalTo 71 = .ok (.iload_n 2, 1) := by decide +kernel
theorem d_N_equalTo_72 : decode b_N_equalTo 72 = .ok (.iload_n 3, 1) := by decide +kernel
theorem d_N_equalTo_73 : decode b_N_equalTo 73 = .ok (.invokevirtual 76, 3) := by decide +kernel
theorem d_N_equalTo_76 : decode b_N_equalTo 76 = .ok (.if_icmp .eq 5, 3) := by decide +kernel
theorem d_N_equalTo_79 : decode b_N_equalTo 79 = .ok (.iconst 0, 1) := by decide +kernel
theorem d_N_equalTo_80 : decode b_N_equalTo 80 = .ok (.ireturn, 1) := by decide +kernel
theorem d_N_equalTo_81 : decode b_N_equalTo 81 = .ok (.iinc 3 1, 3) := by decide +kernel
theorem d_N_equalTo_84 : decode b_N_equalTo 84 = .ok (.goto (-31), 3) := by decide +kernel
theorem d_N_equalTo_87 : decode b_N_equalTo 87 = .ok (.iinc 2 1, 3) := by decide +kernel
theorem d_N_equalTo_90 : decode b_N_equalTo 90 = .ok (.goto (-47), 3) := by decide +kernel
theorem d_N_equalTo_93 : decode b_N_equalTo 93 = .ok (.iconst 1, 1) := by decide +kernel
theorem d_N_equalTo_94 : decode b_N_equalTo 94 = .ok (.ireturn, 1) := by decide +kernel
theorem d_N_appendSimple_0 : decode b_N_appendSimple 0 = .ok (.aload_n 0, 1) := by decide +kernel
theorem d_N_appendSimple_1 : decode b_N_appendSimple 1 = .ok (.getfield 12, 3) := by decide +kernel
theorem d_N_appendSimple_4 : decode b_N_appendSimple 4 = .ok (.getfield 55, 3) := by decide +kernel
theorem d_N_appendSimple_7 : decode b_N_appendSimple 7 = .ok (.istore_n 3, 1) := by decide +kernel
theorem d_N_appendSimple_8 : decode b_N_appendSimple 8 = .ok (.aload_n 0, 1) := by decide +kernel
theorem d_N_appendSimple_9 : decode b_N_appendSimple 9 = .ok (.getfield 20, 3) := by decide +kernel
theorem d_N_appendSimple_12 : decode b_N_appendSimple 12 = .ok (.aload_n 0, 1) := by decide +kernel
theorem d_N_appendSimple_13 : decode b_N_appendSimple 13 = .ok (.getfield 31, 3) := by decide +kernel
theorem d_N_appendSimple_16 : decode b_N_appendSimple 16 = .ok (.aaload, 1) := by decide +kernel
theorem d_N_appendSimple_17 : decode b_N_appendSimple 17 = .ok (.astore 4, 2) := by decide +kernel
theorem d_N_appendSimple_19 : decode b_N_appendSimple 19 = .ok (.iconst 1, 1) := by decide +kernel
theorem d_N_appendSimple_20 : decode b_N_appendSimple 20 = .ok (.istore 5, 2) := by decide +kernel
theorem d_N_appendSimple_22 : decode b_N_appendSimple 22 = .ok (.iload 5, 2) := by decide +kernel
theorem d_N_appendSimple_24 : decode b_N_appendSimple 24 = .ok (.iload_n 3, 1) := by decide +kernel
theorem d_N_appendSimple_25 : decode b_N_appendSimple 25 = .ok (.if_icmp .gt 29, 3) := by decide +kernel
theorem d_N_appendSimple_28 : decode b_N_appendSimple 28 = .ok (.aload 4, 2) := by decide +kernel
theorem d_N_appendSimple_30 : decode b_N_appendSimple 30 = .ok (.iload 5, 2) := by decide +kernel
theorem d_N_appendSimple_32 : decode b_N_appendSimple 32 = .ok (.iload_n 2, 1) := by decide +kernel
theorem d_N_appendSimple_33 : decode b_N_appendSimple 33 = .ok (.ifCond .eq 12, 3) := by decide +kernel
theorem d_N_appendSimple_36 : decode b_N_appendSimple 36 = .ok (.iload_n 3, 1) := by decide +kernel
theorem d_N_appendSimple_37 : decode b_N_appendSimple 37 = .ok (.iconst 1, 1) := by decide +kernel
theorem d_N_appendSimple_38 : decode b_N_appendSimple 38 = .ok (.iadd, 1) := by decide +kernel
theorem d_N_appendSimple_39 : decode b_N_appendSimple 39 = .ok (.iload 5, 2) := by decide +kernel
theorem d_N_appendSimple_41 : decode b_N_appendSimple 41 = .ok (.isub, 1) := by decide +kernel
theorem d_N_appendSimple_42 : decode b_N_appendSimple 42 = .ok (.goto 5, 3) := by decide +kernel
theorem d_N_appendSimple_45 : decode b_N_appendSimple 45 = .ok (.iload 5, 2) := by decide +kernel
theorem d_N_appendSimple_47 : decode b_N_appendSimple 47 = .ok (.iastore, 1) := by decide +kernel
theorem d_N_appendSimple_48 : decode b_N_appendSimple 48 = .ok (.iinc 5 1, 3) := by decide +kernel
theorem d_N_appendSimple_51 : decode b_N_appendSimple 51 = .ok (.goto (-29), 3) := by decide +kernel
theorem d_N_appendSimple_54 : decode b_N_appendSimple 54 = .ok (.aload 4, 2) := by decide +kernel
theorem d_N_appendSimple_56 : decode b_N_appendSimple 56 = .ok (.iload_n 2, 1) := by decide +kernel
theorem d_N_appendSimple_57 : decode b_N_appendSimple 57 = .ok (.ifCond .eq 9, 3) := by decide +kernel
theorem d_N_appendSimple_60 : decode b_N_appendSimple 60 = .ok (.iload_n 3, 1) := by decide +kernel
theorem d_N_appendSimple_61 : decode b_N_appendSimple 61 = .ok (.iload_n 1, 1) := by decide +kernel
theorem d_N_appendSimple_62 : decode b_N_appendSimple 62 = .ok (.isub, 1) := by decide +kernel
theorem d_N_appendSimple_63 : decode b_N_appendSimple 63 = .ok (.goto 4, 3) := by decide +kernel
theorem d_N_appendSimple_66 : decode b_N_appendSimple 66 = .ok (.iload_n 1, 1) := by decide +kernel
theorem d_N_appendSimple_67 : decode b_N_appendSimple 67 = .ok (.invokestatic 80, 3) := by decide +kernel
theorem d_N_appendSimple_70 : decode b_N_appendSimple 70 = .ok (.aload_n 0, 1) := by decide +kernel
theorem d_N_appendSimple_71 : decode b_N_appendSimple 71 = .ok (.dup, 1) := by decide +kernel
theorem d_N_appendSimple_72 : decode b_N_appendSimple 72 = .ok (.getfield 31, 3) := by decide +kernel
theorem d_N_appendSimple_75 : decode b_N_appendSimple 75 = .ok (.iconst 1, 1) := by decide +kernel
theorem d_N_appendSimple_76 : decode b_N_appendSimple 76 = .ok (.iadd, 1) := by decide +kernel
theorem d_N_appendSimple_77 : decode b_N_appendSimple 77 = .ok (.putfield 31, 3) := by decide +kernel
theorem d_N_appendSimple_80 : decode b_N_appendSimple 80 = .ok (.return_, 1) := by decide +kernel
theorem d_N_settle_0 : decode b_N_settle 0 = .ok (.aload_n 0, 1) := by decide +kernel
theorem d_N_settle_1 : decode b_N_settle 1 = .ok (.getfield 31, 3) := by decide +kernel
theorem d_N_settle_4 : decode b_N_settle 4 = .ok (.iconst 1, 1) := by decide +kernel
theorem d_N_settle_5 : decode b_N_settle 5 = .ok (.isub, 1) := by decide +kernel
theorem d_N_settle_6 : decode b_N_settle 6 = .ok (.istore_n 1, 1) := by decide +kernel
theorem d_N_settle_7 : decode b_N_settle 7 = .ok (.iload_n 1, 1) := by decide +kernel
theorem d_N_settle_8 : decode b_N_settle 8 = .ok (.aload_n 0, 1) := by decide +kernel
theorem d_N_settle_9 : decode b_N_settle 9 = .ok (.getfield 27, 3) := by decide +kernel
theorem d_N_settle_12 : decode b_N_settle 12 = .ok (.if_icmp .le 33, 3) := by decide +kernel
theorem d_N_settle_15 : decode b_N_settle 15 = .ok (.aload_n 0, 1) := by decide +kernel
theorem d_N_settle_16 : decode b_N_settle 16 = .ok (.aload_n 0, 1) := by decide +kernel
theorem d_N_settle_17 : decode b_N_settle 17 = .ok (.getfield 20, 3) := by decide +kernel
theorem d_N_settle_20 : decode b_N_settle 20 = .ok (.iload_n 1, 1) := by decide +kernel
theorem d_N_settle_21 : decode b_N_settle 21 = .ok (.iconst 1, 1) := by decide +kernel
theorem d_N_settle_22 : decode b_N_settle 22 = .ok (.isub, 1) := by decide +kernel
theorem d_N_settle_23 : decode b_N_settle 23 = .ok (.aaload, 1) := by decide +kernel
theorem d_N_settle_24 : decode b_N_settle 24 = .ok (.aload_n 0, 1) := by decide +kernel
theorem d_N_settle_25 : decode b_N_settle 25 = .ok (.getfield 20, 3) := by decide +kernel
theorem d_N_settle_28 : decode b_N_settle 28 = .ok (.iload_n 1, 1) := by decide +kernel
theorem d_N_settle_29 : decode b_N_settle 29 = .ok (.aaload, 1) := by decide +kernel
theorem d_N_settle_30 : decode b_N_settle 30 = .ok (.invokevirtual 84, 3) := by decide +kernel
theorem d_N_settle_33 : decode b_N_settle 33 = .ok (.ifCond .ne 6, 3) := by decide +kernel
theorem d_N_settle_36 : decode b_N_settle 36 = .ok (.goto 9, 3) := by decide +kernel
theorem d_N_settle_39 : decode b_N_settle 39 = .ok (.iinc 1 (-1), 3) := by decide +kernel
theorem d_N_settle_42 : decode b_N_settle 42 = .ok (.goto (-35), 3) := by decide +kernel
theorem d_N_settle_45 : decode b_N_settle 45 = .ok (.aload_n 0, 1) := by decide +kernel
theorem d_N_settle_46 : decode b_N_settle 46 = .ok (.getfield 27, 3) := by decide +kernel
theorem d_N_settle_49 : decode b_N_settle 49 = .ok (.aload_n 0, 1) := by decide +kernel
theorem d_N_settle_50 : decode b_N_settle 50 = .ok (.getfield 31, 3) := by decide +kernel
theorem d_N_settle_53 : decode b_N_settle 53 = .ok (.if_icmp .ge 42, 3) := by decide +kernel
theorem d_N_settle_56 : decode b_N_settle 56 = .ok (.aload_n 0, 1) := by decide +kernel
theorem d_N_settle_57 : decode b_N_settle 57 = .ok (.aload_n 0, 1) := by decide +kernel
theorem d_N_settle_58 : decode b_N_settle 58 = .ok (.getfield 20, 3) := by decide +kernel
theorem d_N_settle_61 : decode b_N_settle 61 = .ok (.aload_n 0, 1) := by decide +kernel
theorem d_N_settle_62 : decode b_N_settle 62 = .ok (.getfield 27, 3) := by decide +kernel
theorem d_N_settle_65 : decode b_N_settle 65 = .ok (.aaload, 1) := by decide +kernel
theorem d_N_settle_66 : decode b_N_settle 66 = .ok (.invokevirtual 88, 3) := by decide +kernel
theorem d_N_settle_69 : decode b_N_settle 69 = .ok (.ifCond .eq 26, 3) := by decide +kernel
theorem d_N_settle_72 : decode b_N_settle 72 = .ok (.aload_n 0, 1) := by decide +kernel
theorem d_N_settle_73 : decode b_N_settle 73 = .ok (.dup, 1) := by decide +kernel
theorem d_N_settle_74 : decode b_N_settle 74 = .ok (.getfield 27, 3) := by decide +kernel
theorem d_N_settle_77 : decode b_N_settle 77 = .ok (.iconst 1, 1) := by decide +kernel
theorem d_N_settle_78 : decode b_N_settle 78 = .ok (.iadd, 1) := by decide +kernel
theorem d_N_settle_79 : decode b_N_settle 79 = .ok (.putfield 27, 3) := by decide +kernel
theorem d_N_settle_82 : decode b_N_settle 82 = .ok (.aload_n 0, 1) := by decide +kernel
theorem d_N_settle_83 : decode b_N_settle 83 = .ok (.dup, 1) := by decide +kernel
theorem d_N_settle_84 : decode b_N_settle 84 = .ok (.getfield 34, 3) := by decide +kernel
theorem d_N_settle_87 : decode b_N_settle 87 = .ok (.iconst 1, 1) := by decide +kernel
theorem d_N_settle_88 : decode b_N_settle 88 = .ok (.iadd, 1) := by decide +kernel
theorem d_N_settle_89 : decode b_N_settle 89 = .ok (.putfield 34, 3) := by decide +kernel
theorem d_N_settle_92 : decode b_N_settle 92 = .ok (.goto (-47), 3) := by decide +kernel
theorem d_N_settle_95 : decode b_N_settle 95 = .ok (.aload_n 0, 1) := by decide +kernel
theorem d_N_settle_96 : decode b_N_settle 96 = .ok (.getfield 27, 3) := by decide +kernel
theorem d_N_settle_99 : decode b_N_settle 99 = .ok (.aload_n 0, 1) := by decide +kernel
theorem d_N_settle_100 : decode b_N_settle 100 = .ok (.getfield 31, 3) := by decide +kernel
theorem d_N_settle_103 : decode b_N_settle 103 = .ok (.if_icmp .ge 34, 3) := by decide +kernel
theorem d_N_settle_106 : decode b_N_settle 106 = .ok (.aload_n 0, 1) := by decide +kernel
theorem d_N_settle_107 : decode b_N_settle 107 = .ok (.aload_n 0, 1) := by decide +kernel
theorem d_N_settle_108 : decode b_N_settle 108 = .ok (.getfield 20, 3) := by decide +kernel
theorem d_N_settle_111 : decode b_N_settle 111 = .ok (.aload_n 0, 1) := by decide +kernel
theorem d_N_settle_112 : decode b_N_settle 112 = .ok (.getfield 31, 3) := by decide +kernel
theorem d_N_settle_115 : decode b_N_settle 115 = .ok (.iconst 1, 1) := by decide +kernel
theorem d_N_settle_116 : decode b_N_settle 116 = .ok (.isub, 1) := by decide +kernel
theorem d_N_settle_117 : decode b_N_settle 117 = .ok (.aaload, 1) := by decide +kernel
theorem d_N_settle_118 : decode b_N_settle 118 = .ok (.invokevirtual 92, 3) := by decide +kernel
theorem d_N_settle_121 : decode b_N_settle 121 = .ok (.ifCond .eq 16, 3) := by decide +kernel
theorem d_N_settle_124 : decode b_N_settle 124 = .ok (.aload_n 0, 1) := by decide +kernel
theorem d_N_settle_125 : decode b_N_settle 125 = .ok (.dup, 1) := by decide +kernel
theorem d_N_settle_126 : decode b_N_settle 126 = .ok (.getfield 31, 3) := by decide +kernel
theorem d_N_settle_129 : decode b_N_settle 129 = .ok (.iconst 1, 1) := by decide +kernel
theorem d_N_settle_130 : decode b_N_settle 130 = .ok (.isub, 1) := by decide +kernel
theorem d_N_settle_131 : decode b_N_settle 131 = .ok (.putfield 31, 3) := by decide +kernel
theorem d_N_settle_134 : decode b_N_settle 134 = .ok (.goto (-39), 3) := by decide +kernel
theorem d_N_settle_137 : decode b_N_settle 137 = .ok (.return_, 1) := by decide +kernel
theorem d_N_moveOver_0 : decode b_N_moveOver 0 = .ok (.aload_n 0, 1) := by decide +kernel
theorem d_N_moveOver_1 : decode b_N_moveOver 1 = .ok (.getfield 12, 3) := by decide +kernel
theorem d_N_moveOver_4 : decode b_N_moveOver 4 = .ok (.getfield 55, 3) := by decide +kernel
theorem d_N_moveOver_7 : decode b_N_moveOver 7 = .ok (.istore_n 3, 1) := by decide +kernel
theorem d_N_moveOver_8 : decode b_N_moveOver 8 = .ok (.iconst 1, 1) := by decide +kernel
theorem d_N_moveOver_9 : decode b_N_moveOver 9 = .ok (.istore 4, 2) := by decide +kernel
theorem d_N_moveOver_11 : decode b_N_moveOver 11 = .ok (.iload 4, 2) := by decide +kernel
theorem d_N_moveOver_13 : decode b_N_moveOver 13 = .ok (.iload_n 3, 1) := by decide +kernel
theorem d_N_moveOver_14 : decode b_N_moveOver 14 = .ok (.if_icmp .gt 20, 3) := by decide +kernel
theorem d_N_moveOver_17 : decode b_N_moveOver 17 = .ok (.aload_n 0, 1) := by decide +kernel
theorem d_N_moveOver_18 : decode b_N_moveOver 18 = .ok (.getfield 23, 3) := by decide +kernel
theorem d_N_moveOver_21 : decode b_N_moveOver 21 = .ok (.aload_n 1, 1) := by decide +kernel
theorem d_N_moveOver_22 : decode b_N_moveOver 22 = .ok (.iload 4, 2) := by decide +kernel
theorem d_N_moveOver_24 : decode b_N_moveOver 24 = .ok (.iaload, 1) := by decide +kernel
theorem d_N_moveOver_25 : decode b_N_moveOver 25 = .ok (.iload 4, 2) := by decide +kernel
theorem d_N_moveOver_27 : decode b_N_moveOver 27 = .ok (.iastore, 1) := by decide +kernel
theorem d_N_moveOver_28 : decode b_N_moveOver 28 = .ok (.iinc 4 1, 3) := by decide +kernel
theorem d_N_moveOver_31 : decode b_N_moveOver 31 = .ok (.goto (-20), 3) := by decide +kernel
theorem d_N_moveOver_34 : decode b_N_moveOver 34 = .ok (.iconst 0, 1) := by decide +kernel
theorem d_N_moveOver_35 : decode b_N_moveOver 35 = .ok (.istore 4, 2) := by decide +kernel
theorem d_N_moveOver_37 : decode b_N_moveOver 37 = .ok (.iconst 1, 1) := by decide +kernel
theorem d_N_moveOver_38 : decode b_N_moveOver 38 = .ok (.istore 5, 2) := by decide +kernel
theorem d_N_moveOver_40 : decode b_N_moveOver 40 = .ok (.iconst 0, 1) := by decide +kernel
theorem d_N_moveOver_41 : decode b_N_moveOver 41 = .ok (.istore 6, 2) := by decide +kernel
theorem d_N_moveOver_43 : decode b_N_moveOver 43 = .ok (.iload 6, 2) := by decide +kernel
theorem d_N_moveOver_45 : decode b_N_moveOver 45 = .ok (.bipush 28, 2) := by decide +kernel
theorem d_N_moveOver_47 : decode b_N_moveOver 47 = .ok (.if_icmp .gt 38, 3) := by decide +kernel
theorem d_N_moveOver_50 : decode b_N_moveOver 50 = .ok (.iload 5, 2) := by decide +kernel
theorem d_N_moveOver_52 : decode b_N_moveOver 52 = .ok (.ifCond .eq 33, 3) := by decide +kernel
theorem d_N_moveOver_55 : decode b_N_moveOver 55 = .ok (.aload_n 0, 1) := by decide +kernel
theorem d_N_moveOver_56 : decode b_N_moveOver 56 = .ok (.aload_n 2, 1) := by decide +kernel
theorem d_N_moveOver_57 : decode b_N_moveOver 57 = .ok (.invokevirtual 95, 3) := by decide +kernel
theorem d_N_moveOver_60 : decode b_N_moveOver 60 = .ok (.istore 5, 2) := by decide +kernel
theorem d_N_moveOver_62 : decode b_N_moveOver 62 = .ok (.iload 4, 2) := by decide +kernel
theorem d_N_moveOver_64 : decode b_N_moveOver 64 = .ok (.ifCond .ne 8, 3) := by decide +kernel
theorem d_N_moveOver_67 : decode b_N_moveOver 67 = .ok (.iload 5, 2) := by decide +kernel
theorem d_N_moveOver_69 : decode b_N_moveOver 69 = .ok (.ifCond .eq 7, 3) := by decide +kernel
theorem d_N_moveOver_72 : decode b_N_moveOver 72 = .ok (.iconst 1, 1) := by decide +kernel
theorem d_N_moveOver_73 : decode b_N_moveOver 73 = .ok (.goto 4, 3) := by decide +kernel
theorem d_N_moveOver_76 : decode b_N_moveOver 76 = .ok (.iconst 0, 1) := by decide +kernel
theorem d_N_moveOver_77 : decode b_N_moveOver 77 = .ok (.istore 4, 2) := by decide +kernel
theorem d_N_moveOver_79 : decode b_N_moveOver 79 = .ok (.iinc 6 1, 3) := by decide +kernel
theorem d_N_moveOver_82 : decode b_N_moveOver 82 = .ok (.goto (-39), 3) := by decide +kernel
theorem d_N_moveOver_85 : decode b_N_moveOver 85 = .ok (.iconst 1, 1) := by decide +kernel
theorem d_N_moveOver_86 : decode b_N_moveOver 86 = .ok (.istore 6, 2) := by decide +kernel
theorem d_N_moveOver_88 : decode b_N_moveOver 88 = .ok (.iload 6, 2) := by decide +kernel
theorem d_N_moveOver_90 : decode b_N_moveOver 90 = .ok (.iload_n 3, 1) := by decide +kernel
theorem d_N_moveOver_91 : decode b_N_moveOver 91 = .ok (.if_icmp .gt 20, 3) := by decide +kernel
theorem d_N_moveOver_94 : decode b_N_moveOver 94 = .ok (.aload_n 1, 1) := by decide +kernel
theorem d_N_moveOver_95 : decode b_N_moveOver 95 = .ok (.aload_n 0, 1) := by decide +kernel
theorem d_N_moveOver_96 : decode b_N_moveOver 96 = .ok (.getfield 23, 3) := by decide +kernel
theorem d_N_moveOver_99 : decode b_N_moveOver 99 = .ok (.iload 6, 2) := by decide +kernel
theorem d_N_moveOver_101 : decode b_N_moveOver 101 = .ok (.iaload, 1) := by decide +kernel
theorem d_N_moveOver_102 : decode b_N_moveOver 102 = .ok (.iload 6, 2) := by decide +kernel
theorem d_N_moveOver_104 : decode b_N_moveOver 104 = .ok (.iastore, 1) := by decide +kernel
theorem d_N_moveOver_105 : decode b_N_moveOver 105 = .ok (.iinc 6 1, 3) := by decide +kernel
theorem d_N_moveOver_108 : decode b_N_moveOver 108 = .ok (.goto (-20), 3) := by decide +kernel
theorem d_N_moveOver_111 : decode b_N_moveOver 111 = .ok (.iload 4, 2) := by decide +kernel
theorem d_N_moveOver_113 : decode b_N_moveOver 113 = .ok (.ireturn, 1) := by decide +kernel
theorem d_N_sweepOver_0 : decode b_N_sweepOver 0 = .ok (.iconst 0, 1) := by decide +kernel
theorem d_N_sweepOver_1 : decode b_N_sweepOver 1 = .ok (.istore_n 2, 1) := by decide +kernel
theorem d_N_sweepOver_2 : decode b_N_sweepOver 2 = .ok (.iconst 1, 1) := by decide +kernel
theorem d_N_sweepOver_3 : decode b_N_sweepOver 3 = .ok (.istore_n 3, 1) := by decide +kernel
theorem d_N_sweepOver_4 : decode b_N_sweepOver 4 = .ok (.iload_n 3, 1) := by decide +kernel
theorem d_N_sweepOver_5 : decode b_N_sweepOver 5 = .ok (.aload_n 0, 1) := by decide +kernel
theorem d_N_sweepOver_6 : decode b_N_sweepOver 6 = .ok (.getfield 12, 3) := by decide +kernel
theorem d_N_sweepOver_9 : decode b_N_sweepOver 9 = .ok (.getfield 55, 3) := by decide +kernel
theorem d_N_sweepOver_12 : decode b_N_sweepOver 12 = .ok (.if_icmp .ge 52, 3) := by decide +kernel
theorem d_N_sweepOver_15 : decode b_N_sweepOver 15 = .ok (.aload_n 1, 1) := by decide +kernel
theorem d_N_sweepOver_16 : decode b_N_sweepOver 16 = .ok (.iload_n 3, 1) := by decide +kernel
theorem d_N_sweepOver_17 : decode b_N_sweepOver 17 = .ok (.iaload, 1) := by decide +kernel
theorem d_N_sweepOver_18 : decode b_N_sweepOver 18 = .ok (.aload_n 1, 1) := by decide +kernel
theorem d_N_sweepOver_19 : decode b_N_sweepOver 19 = .ok (.iload_n 3, 1) := by decide +kernel
theorem d_N_sweepOver_20 : decode b_N_sweepOver 20 = .ok (.iconst 1, 1) := by decide +kernel
theorem d_N_sweepOver_21 : decode b_N_sweepOver 21 = .ok (.iadd, 1) := by decide +kernel
theorem d_N_sweepOver_22 : decode b_N_sweepOver 22 = .ok (.iaload, 1) := by decide +kernel
theorem d_N_sweepOver_23 : decode b_N_sweepOver 23 = .ok (.if_icmp .le 35, 3) := by decide +kernel
theorem d_N_sweepOver_26 : decode b_N_sweepOver 26 = .ok (.aload_n 0, 1) := by decide +kernel
theorem d_N_sweepOver_27 : decode b_N_sweepOver 27 = .ok (.getfield 23, 3) := by decide +kernel
theorem d_N_sweepOver_30 : decode b_N_sweepOver 30 = .ok (.iload_n 3, 1) := by decide +kernel
theorem d_N_sweepOver_31 : decode b_N_sweepOver 31 = .ok (.iaload, 1) := by decide +kernel
theorem d_N_sweepOver_32 : decode b_N_sweepOver 32 = .ok (.aload_n 0, 1) := by decide +kernel
theorem d_N_sweepOver_33 : decode b_N_sweepOver 33 = .ok (.getfield 23, 3) := by decide +kernel
theorem d_N_sweepOver_36 : decode b_N_sweepOver 36 = .ok (.iload_n 3, 1) := by decide +kernel
theorem d_N_sweepOver_37 : decode b_N_sweepOver 37 = .ok (.iconst 1, 1) := by decide +kernel
theorem d_N_sweepOver_38 : decode b_N_sweepOver 38 = .ok (.iadd, 1) := by decide +kernel
theorem d_N_sweepOver_39 : decode b_N_sweepOver 39 = .ok (.iaload, 1) := by decide +kernel
theorem d_N_sweepOver_40 : decode b_N_sweepOver 40 = .ok (.if_icmp .ge 18, 3) := by decide +kernel
theorem d_N_sweepOver_43 : decode b_N_sweepOver 43 = .ok (.aload_n 1, 1) := by decide +kernel
theorem d_N_sweepOver_44 : decode b_N_sweepOver 44 = .ok (.iload_n 3, 1) := by decide +kernel
theorem d_N_sweepOver_45 : decode b_N_sweepOver 45 = .ok (.invokestatic 80, 3) := by decide +kernel
theorem d_N_sweepOver_48 : decode b_N_sweepOver 48 = .ok (.aload_n 0, 1) := by decide +kernel
theorem d_N_sweepOver_49 : decode b_N_sweepOver 49 = .ok (.getfield 23, 3) := by decide +kernel
theorem d_N_sweepOver_52 : decode b_N_sweepOver 52 = .ok (.iload_n 3, 1) := by decide +kernel
theorem d_N_sweepOver_53 : decode b_N_sweepOver 53 = .ok (.invokestatic 80, 3) := by decide +kernel
theorem d_N_sweepOver_56 : decode b_N_sweepOver 56 = .ok (.iconst 1, 1) := by decide +kernel
theorem d_N_sweepOver_57 : decode b_N_sweepOver 57 = .ok (.istore_n 2, 1) := by decide +kernel
theorem d_N_sweepOver_58 : decode b_N_sweepOver 58 = .ok (.iinc 3 1, 3) := by decide +kernel
theorem d_N_sweepOver_61 : decode b_N_sweepOver 61 = .ok (.goto (-57), 3) := by decide +kernel
theorem d_N_sweepOver_64 : decode b_N_sweepOver 64 = .ok (.iload_n 2, 1) := by decide +kernel
theorem d_N_sweepOver_65 : decode b_N_sweepOver 65 = .ok (.ireturn, 1) := by decide +kernel
theorem d_N_isTurn_0 : decode b_N_isTurn 0 = .ok (.iconst 1, 1) := by decide +kernel
theorem d_N_isTurn_1 : decode b_N_isTurn 1 = .ok (.istore_n 2, 1) := by decide +kernel
theorem d_N_isTurn_2 : decode b_N_isTurn 2 = .ok (.iload_n 2, 1) := by decide +kernel
theorem d_N_isTurn_3 : decode b_N_isTurn 3 = .ok (.aload_n 0, 1) := by decide +kernel
theorem d_N_isTurn_4 : decode b_N_isTurn 4 = .ok (.getfield 12, 3) := by decide +kernel
theorem d_N_isTurn_7 : decode b_N_isTurn 7 = .ok (.getfield 55, 3) := by decide +kernel
theorem d_N_isTurn_10 : decode b_N_isTurn 10 = .ok (.if_icmp .gt 28, 3) := by decide +kernel
theorem d_N_isTurn_13 : decode b_N_isTurn 13 = .ok (.aload_n 1, 1) := by decide +kernel
theorem d_N_isTurn_14 : decode b_N_isTurn 14 = .ok (.iload_n 2, 1) := by decide +kernel
theorem d_N_isTurn_15 : decode b_N_isTurn 15 = .ok (.iaload, 1) := by decide +kernel
theorem d_N_isTurn_16 : decode b_N_isTurn 16 = .ok (.aload_n 0, 1) := by decide +kernel
theorem d_N_isTurn_17 : decode b_N_isTurn 17 = .ok (.getfield 12, 3) := by decide +kernel
theorem d_N_isTurn_20 : decode b_N_isTurn 20 = .ok (.getfield 55, 3) := by decide +kernel
theorem d_N_isTurn_23 : decode b_N_isTurn 23 = .ok (.iconst 1, 1) := by decide +kernel
theorem d_N_isTurn_24 : decode b_N_isTurn 24 = .ok (.iadd, 1) := by decide +kernel
theorem d_N_isTurn_25 : decode b_N_isTurn 25 = .ok (.iload_n 2, 1) := by decide +kernel
theorem d_N_isTurn_26 : decode b_N_isTurn 26 = .ok (.isub, 1) := by decide +kernel
theorem d_N_isTurn_27 : decode b_N_isTurn 27 = .ok (.if_icmp .eq 5, 3) := by decide +kernel
theorem d_N_isTurn_30 : decode b_N_isTurn 30 = .ok (.iconst 0, 1) := by decide +kernel
theorem d_N_isTurn_31 : decode b_N_isTurn 31 = .ok (.ireturn, 1) := by decide +kernel
theorem d_N_isTurn_32 : decode b_N_isTurn 32 = .ok (.iinc 2 1, 3) := by decide +kernel
theorem d_N_isTurn_35 : decode b_N_isTurn 35 = .ok (.goto (-33), 3) := by decide +kernel
theorem d_N_isTurn_38 : decode b_N_isTurn 38 = .ok (.iconst 1, 1) := by decide +kernel
theorem d_N_isTurn_39 : decode b_N_isTurn 39 = .ok (.ireturn, 1) := by decide +kernel
theorem d_N_isNone_0 : decode b_N_isNone 0 = .ok (.iconst 1, 1) := by decide +kernel
theorem d_N_isNone_1 : decode b_N_isNone 1 = .ok (.istore_n 2, 1) := by decide +kernel
theorem d_N_isNone_2 : decode b_N_isNone 2 = .ok (.iload_n 2, 1) := by decide +kernel
theorem d_N_isNone_3 : decode b_N_isNone 3 = .ok (.aload_n 0, 1) := by decide +kernel
theorem d_N_isNone_4 : decode b_N_isNone 4 = .ok (.getfield 12, 3) := by decide +kernel
theorem d_N_isNone_7 : decode b_N_isNone 7 = .ok (.getfield 55, 3) := by decide +kernel
theorem d_N_isNone_10 : decode b_N_isNone 10 = .ok (.if_icmp .gt 18, 3) := by decide +kernel
theorem d_N_isNone_13 : decode b_N_isNone 13 = .ok (.aload_n 1, 1) := by decide +kernel
theorem d_N_isNone_14 : decode b_N_isNone 14 = .ok (.iload_n 2, 1) := by decide +kernel
theorem d_N_isNone_15 : decode b_N_isNone 15 = .ok (.iaload, 1) := by decide +kernel
theorem d_N_isNone_16 : decode b_N_isNone 16 = .ok (.iload_n 2, 1) := by decide +kernel
theorem d_N_isNone_17 : decode b_N_isNone 17 = .ok (.if_icmp .eq 5, 3) := by decide +kernel
theorem d_N_isNone_20 : decode b_N_isNone 20 = .ok (.iconst 0, 1) := by decide +kernel
theorem d_N_isNone_21 : decode b_N_isNone 21 = .ok (.ireturn, 1) := by decide +kernel
theorem d_N_isNone_22 : decode b_N_isNone 22 = .ok (.iinc 2 1, 3) := by decide +kernel
theorem d_N_isNone_25 : decode b_N_isNone 25 = .ok (.goto (-23), 3) := by decide +kernel
theorem d_N_isNone_28 : decode b_N_isNone 28 = .ok (.iconst 1, 1) := by decide +kernel
theorem d_N_isNone_29 : decode b_N_isNone 29 = .ok (.ireturn, 1) := by decide +kernel
