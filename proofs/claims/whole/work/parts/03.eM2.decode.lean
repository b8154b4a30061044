theorem d_M_clearChain_11 : decode b_M_clearChain 11 = .ok (.iload_n 1, 1) := by decide +kernel
theorem d_M_clearChain_12 : decode b_M_clearChain 12 = .ok (.iconst 0, 1) := by decide +kernel
theorem d_M_clearChain_13 : decode b_M_clearChain 13 = .ok (.iastore, 1) := by decide +kernel
theorem d_M_clearChain_14 : decode b_M_clearChain 14 = .ok (.iinc 1 1, 3) := by decide +kernel
theorem d_M_clearChain_17 : decode b_M_clearChain 17 = .ok (.goto (-15), 3) := by decide +kernel
theorem d_M_clearChain_20 : decode b_M_clearChain 20 = .ok (.aload_n 0, 1) := by decide +kernel
theorem d_M_clearChain_21 : decode b_M_clearChain 21 = .ok (.getfield 22, 3) := by decide +kernel
theorem d_M_clearChain_24 : decode b_M_clearChain 24 = .ok (.iconst 0, 1) := by decide +kernel
theorem d_M_clearChain_25 : decode b_M_clearChain 25 = .ok (.iconst 1, 1) := by decide +kernel
theorem d_M_clearChain_26 : decode b_M_clearChain 26 = .ok (.iastore, 1) := by decide +kernel
theorem d_M_clearChain_27 : decode b_M_clearChain 27 = .ok (.aload_n 0, 1) := by decide +kernel
theorem d_M_clearChain_28 : decode b_M_clearChain 28 = .ok (.getfield 25, 3) := by decide +kernel
theorem d_M_clearChain_31 : decode b_M_clearChain 31 = .ok (.iconst 1, 1) := by decide +kernel
theorem d_M_clearChain_32 : decode b_M_clearChain 32 = .ok (.iconst 0, 1) := by decide +kernel
theorem d_M_clearChain_33 : decode b_M_clearChain 33 = .ok (.iastore, 1) := by decide +kernel
theorem d_M_clearChain_34 : decode b_M_clearChain 34 = .ok (.aload_n 0, 1) := by decide +kernel
theorem d_M_clearChain_35 : decode b_M_clearChain 35 = .ok (.iconst 2, 1) := by decide +kernel
theorem d_M_clearChain_36 : decode b_M_clearChain 36 = .ok (.putfield 88, 3) := by decide +kernel
theorem d_M_clearChain_39 : decode b_M_clearChain 39 = .ok (.aload_n 0, 1) := by decide +kernel
theorem d_M_clearChain_40 : decode b_M_clearChain 40 = .ok (.iconst 0, 1) := by decide +kernel
theorem d_M_clearChain_41 : decode b_M_clearChain 41 = .ok (.putfield 91, 3) := by decide +kernel
theorem d_M_clearChain_44 : decode b_M_clearChain 44 = .ok (.return_, 1) := by decide +kernel
theorem d_M_insert_0 : decode b_M_insert 0 = .ok (.aload_n 0, 1) := by decide +kernel
theorem d_M_insert_1 : decode b_M_insert 1 = .ok (.getfield 91, 3) := by decide +kernel
theorem d_M_insert_4 : decode b_M_insert 4 = .ok (.istore_n 3, 1) := by decide +kernel
theorem d_M_insert_5 : decode b_M_insert 5 = .ok (.iload_n 3, 1) := by decide +kernel
theorem d_M_insert_6 : decode b_M_insert 6 = .ok (.ifCond .le 16, 3) := by decide +kernel
theorem d_M_insert_9 : decode b_M_insert 9 = .ok (.aload_n 0, 1) := by decide +kernel
theorem d_M_insert_10 : decode b_M_insert 10 = .ok (.aload_n 0, 1) := by decide +kernel
theorem d_M_insert_11 : decode b_M_insert 11 = .ok (.getfield 22, 3) := by decide +kernel
theorem d_M_insert_14 : decode b_M_insert 14 = .ok (.iload_n 3, 1) := by decide +kernel
theorem d_M_insert_15 : decode b_M_insert 15 = .ok (.iaload, 1) := by decide +kernel
theorem d_M_insert_16 : decode b_M_insert 16 = .ok (.putfield 91, 3) := by decide +kernel
theorem d_M_insert_19 : decode b_M_insert 19 = .ok (.goto 18, 3) := by decide +kernel
theorem d_M_insert_22 : decode b_M_insert 22 = .ok (.aload_n 0, 1) := by decide +kernel
theorem d_M_insert_23 : decode b_M_insert 23 = .ok (.getfield 88, 3) := by decide +kernel
theorem d_M_insert_26 : decode b_M_insert 26 = .ok (.istore_n 3, 1) := by decide +kernel
theorem d_M_insert_27 : decode b_M_insert 27 = .ok (.aload_n 0, 1) := by decide +kernel
theorem d_M_insert_28 : decode b_M_insert 28 = .ok (.dup, 1) := by decide +kernel
theorem d_M_insert_29 : decode b_M_insert 29 = .ok (.getfield 88, 3) := by decide +kernel
theorem d_M_insert_32 : decode b_M_insert 32 = .ok (.iconst 1, 1) := by decide +kernel
theorem d_M_insert_33 : decode b_M_insert 33 = .ok (.iadd, 1) := by decide +kernel
theorem d_M_insert_34 : decode b_M_insert 34 = .ok (.putfield 88, 3) := by decide +kernel
theorem d_M_insert_37 : decode b_M_insert 37 = .ok (.aload_n 0, 1) := by decide +kernel
theorem d_M_insert_38 : decode b_M_insert 38 = .ok (.getfield 19, 3) := by decide +kernel
theorem d_M_insert_41 : decode b_M_insert 41 = .ok (.iload_n 3, 1) := by decide +kernel
theorem d_M_insert_42 : decode b_M_insert 42 = .ok (.iload_n 2, 1) := by decide +kernel
theorem d_M_insert_43 : decode b_M_insert 43 = .ok (.iastore, 1) := by decide +kernel
theorem d_M_insert_44 : decode b_M_insert 44 = .ok (.aload_n 0, 1) := by decide +kernel
theorem d_M_insert_45 : decode b_M_insert 45 = .ok (.getfield 22, 3) := by decide +kernel
theorem d_M_insert_48 : decode b_M_insert 48 = .ok (.iload_n 3, 1) := by decide +kernel
theorem d_M_insert_49 : decode b_M_insert 49 = .ok (.aload_n 0, 1) := by decide +kernel
theorem d_M_insert_50 : decode b_M_insert 50 = .ok (.getfield 22, 3) := by decide +kernel
theorem d_M_insert_53 : decode b_M_insert 53 = .ok (.iload_n 1, 1) := by decide +kernel
theorem d_M_insert_54 : decode b_M_insert 54 = .ok (.iaload, 1) := by decide +kernel
theorem d_M_insert_55 : decode b_M_insert 55 = .ok (.iastore, 1) := by decide +kernel
theorem d_M_insert_56 : decode b_M_insert 56 = .ok (.aload_n 0, 1) := by decide +kernel
theorem d_M_insert_57 : decode b_M_insert 57 = .ok (.getfield 25, 3) := by decide +kernel
theorem d_M_insert_60 : decode b_M_insert 60 = .ok (.iload_n 3, 1) := by decide +kernel
theorem d_M_insert_61 : decode b_M_insert 61 = .ok (.iload_n 1, 1) := by decide +kernel
theorem d_M_insert_62 : decode b_M_insert 62 = .ok (.iastore, 1) := by decide +kernel
theorem d_M_insert_63 : decode b_M_insert 63 = .ok (.aload_n 0, 1) := by decide +kernel
theorem d_M_insert_64 : decode b_M_insert 64 = .ok (.getfield 25, 3) := by decide +kernel
theorem d_M_insert_67 : decode b_M_insert 67 = .ok (.aload_n 0, 1) := by decide +kernel
theorem d_M_insert_68 : decode b_M_insert 68 = .ok (.getfield 22, 3) := by decide +kernel
theorem d_M_insert_71 : decode b_M_insert 71 = .ok (.iload_n 1, 1) := by decide +kernel
theorem d_M_insert_72 : decode b_M_insert 72 = .ok (.iaload, 1) := by decide +kernel
theorem d_M_insert_73 : decode b_M_insert 73 = .ok (.iload_n 3, 1) := by decide +kernel
theorem d_M_insert_74 : decode b_M_insert 74 = .ok (.iastore, 1) := by decide +kernel
theorem d_M_insert_75 : decode b_M_insert 75 = .ok (.aload_n 0, 1) := by decide +kernel
theorem d_M_insert_76 : decode b_M_insert 76 = .ok (.getfield 22, 3) := by decide +kernel
theorem d_M_insert_79 : decode b_M_insert 79 = .ok (.iload_n 1, 1) := by decide +kernel
theorem d_M_insert_80 : decode b_M_insert 80 = .ok (.iload_n 3, 1) := by decide +kernel
theorem d_M_insert_81 : decode b_M_insert 81 = .ok (.iastore, 1) := by decide +kernel
theorem d_M_insert_82 : decode b_M_insert 82 = .ok (.iload_n 3, 1) := by decide +kernel
theorem d_M_insert_83 : decode b_M_insert 83 = .ok (.ireturn, 1) := by decide +kernel
theorem d_M_take_0 : decode b_M_take 0 = .ok (.aload_n 0, 1) := by decide +kernel
theorem d_M_take_1 : decode b_M_take 1 = .ok (.getfield 22, 3) := by decide +kernel
theorem d_M_take_4 : decode b_M_take 4 = .ok (.aload_n 0, 1) := by decide +kernel
theorem d_M_take_5 : decode b_M_take 5 = .ok (.getfield 25, 3) := by decide +kernel
theorem d_M_take_8 : decode b_M_take 8 = .ok (.iload_n 1, 1) := by decide +kernel
theorem d_M_take_9 : decode b_M_take 9 = .ok (.iaload, 1) := by decide +kernel
theorem d_M_take_10 : decode b_M_take 10 = .ok (.aload_n 0, 1) := by decide +kernel
theorem d_M_take_11 : decode b_M_take 11 = .ok (.getfield 22, 3) := by decide +kernel
theorem d_M_take_14 : decode b_M_take 14 = .ok (.iload_n 1, 1) := by decide +kernel
theorem d_M_take_15 : decode b_M_take 15 = .ok (.iaload, 1) := by decide +kernel
theorem d_M_take_16 : decode b_M_take 16 = .ok (.iastore, 1) := by decide +kernel
theorem d_M_take_17 : decode b_M_take 17 = .ok (.aload_n 0, 1) := by decide +kernel
theorem d_M_take_18 : decode b_M_take 18 = .ok (.getfield 25, 3) := by decide +kernel
theorem d_M_take_21 : decode b_M_take 21 = .ok (.aload_n 0, 1) := by decide +kernel
theorem d_M_take_22 : decode b_M_take 22 = .ok (.getfield 22, 3) := by decide +kernel
theorem d_M_take_25 : decode b_M_take 25 = .ok (.iload_n 1, 1) := by decide +kernel
theorem d_M_take_26 : decode b_M_take 26 = .ok (.iaload, 1) := by decide +kernel
theorem d_M_take_27 : decode b_M_take 27 = .ok (.aload_n 0, 1) := by decide +kernel
theorem d_M_take_28 : decode b_M_take 28 = .ok (.getfield 25, 3) := by decide +kernel
theorem d_M_take_31 : decode b_M_take 31 = .ok (.iload_n 1, 1) := by decide +kernel
theorem d_M_take_32 : decode b_M_take 32 = .ok (.iaload, 1) := by decide +kernel
theorem d_M_take_33 : decode b_M_take 33 = .ok (.iastore, 1) := by decide +kernel
theorem d_M_take_34 : decode b_M_take 34 = .ok (.aload_n 0, 1) := by decide +kernel
theorem d_M_take_35 : decode b_M_take 35 = .ok (.getfield 22, 3) := by decide +kernel
theorem d_M_take_38 : decode b_M_take 38 = .ok (.iload_n 1, 1) := by decide +kernel
theorem d_M_take_39 : decode b_M_take 39 = .ok (.aload_n 0, 1) := by decide +kernel
theorem d_M_take_40 : decode b_M_take 40 = .ok (.getfield 91, 3) := by decide +kernel
theorem d_M_take_43 : decode b_M_take 43 = .ok (.iastore, 1) := by decide +kernel
theorem d_M_take_44 : decode b_M_take 44 = .ok (.aload_n 0, 1) := by decide +kernel
theorem d_M_take_45 : decode b_M_take 45 = .ok (.iload_n 1, 1) := by decide +kernel
theorem d_M_take_46 : decode b_M_take 46 = .ok (.putfield 91, 3) := by decide +kernel
theorem d_M_take_49 : decode b_M_take 49 = .ok (.return_, 1) := by decide +kernel
theorem d_M_isNear_0 : decode b_M_isNear 0 = .ok (.iload_n 0, 1) := by decide +kernel
theorem d_M_isNear_1 : decode b_M_isNear 1 = .ok (.iload_n 1, 1) := by decide +kernel
theorem d_M_isNear_2 : decode b_M_isNear 2 = .ok (.isub, 1) := by decide +kernel
theorem d_M_isNear_3 : decode b_M_isNear 3 = .ok (.iconst 1, 1) := by decide +kernel
theorem d_M_isNear_4 : decode b_M_isNear 4 = .ok (.if_icmp .eq 10, 3) := by decide +kernel
theorem d_M_isNear_7 : decode b_M_isNear 7 = .ok (.iload_n 1, 1) := by decide +kernel
theorem d_M_isNear_8 : decode b_M_isNear 8 = .ok (.iload_n 0, 1) := by decide +kernel
theorem d_M_isNear_9 : decode b_M_isNear 9 = .ok (.isub, 1) := by decide +kernel
theorem d_M_isNear_10 : decode b_M_isNear 10 = .ok (.iconst 1, 1) := by decide +kernel
theorem d_M_isNear_11 : decode b_M_isNear 11 = .ok (.if_icmp .ne 7, 3) := by decide +kernel
theorem d_M_isNear_14 : decode b_M_isNear 14 = .ok (.iconst 1, 1) := by decide +kernel
theorem d_M_isNear_15 : decode b_M_isNear 15 = .ok (.goto 4, 3) := by decide +kernel
theorem d_M_isNear_18 : decode b_M_isNear 18 = .ok (.iconst 0, 1) := by decide +kernel
theorem d_M_isNear_19 : decode b_M_isNear 19 = .ok (.ireturn, 1) := by decide +kernel
theorem d_M_turnRight_0 : decode b_M_turnRight 0 = .ok (.aload_n 0, 1) := by decide +kernel
theorem d_M_turnRight_1 : decode b_M_turnRight 1 = .ok (.getfield 22, 3) := by decide +kernel
theorem d_M_turnRight_4 : decode b_M_turnRight 4 = .ok (.iconst 0, 1) := by decide +kernel
theorem d_M_turnRight_5 : decode b_M_turnRight 5 = .ok (.iaload, 1) := by decide +kernel
theorem d_M_turnRight_6 : decode b_M_turnRight 6 = .ok (.istore_n 1, 1) := by decide +kernel
theorem d_M_turnRight_7 : decode b_M_turnRight 7 = .ok (.iload_n 1, 1) := by decide +kernel
theorem d_M_turnRight_8 : decode b_M_turnRight 8 = .ok (.iconst 1, 1) := by decide +kernel
theorem d_M_turnRight_9 : decode b_M_turnRight 9 = .ok (.if_icmp .eq 141, 3) := by decide +kernel
theorem d_M_turnRight_12 : decode b_M_turnRight 12 = .ok (.aload_n 0, 1) := by decide +kernel
theorem d_M_turnRight_13 : decode b_M_turnRight 13 = .ok (.getfield 22, 3) := by decide +kernel
theorem d_M_turnRight_16 : decode b_M_turnRight 16 = .ok (.iload_n 1, 1) := by decide +kernel
theorem d_M_turnRight_17 : decode b_M_turnRight 17 = .ok (.iaload, 1) := by decide +kernel
theorem d_M_turnRight_18 : decode b_M_turnRight 18 = .ok (.istore_n 2, 1) := by decide +kernel
theorem d_M_turnRight_19 : decode b_M_turnRight 19 = .ok (.aload_n 0, 1) := by decide +kernel
theorem d_M_turnRight_20 : decode b_M_turnRight 20 = .ok (.getfield 19, 3) := by decide +kernel
theorem d_M_turnRight_23 : decode b_M_turnRight 23 = .ok (.iload_n 1, 1) := by decide +kernel
theorem d_M_turnRight_24 : decode b_M_turnRight 24 = .ok (.iaload, 1) := by decide +kernel
theorem d_M_turnRight_25 : decode b_M_turnRight 25 = .ok (.ifCond .ge 120, 3) := by decide +kernel
theorem d_M_turnRight_28 : decode b_M_turnRight 28 = .ok (.aload_n 0, 1) := by decide +kernel
theorem d_M_turnRight_29 : decode b_M_turnRight 29 = .ok (.getfield 19, 3) := by decide +kernel
theorem d_M_turnRight_32 : decode b_M_turnRight 32 = .ok (.iload_n 2, 1) := by decide +kernel
theorem d_M_turnRight_33 : decode b_M_turnRight 33 = .ok (.iaload, 1) := by decide +kernel
theorem d_M_turnRight_34 : decode b_M_turnRight 34 = .ok (.ifCond .le 111, 3) := by decide +kernel
theorem d_M_turnRight_37 : decode b_M_turnRight 37 = .ok (.aload_n 0, 1) := by decide +kernel
theorem d_M_turnRight_38 : decode b_M_turnRight 38 = .ok (.getfield 19, 3) := by decide +kernel
theorem d_M_turnRight_41 : decode b_M_turnRight 41 = .ok (.iload_n 1, 1) := by decide +kernel
theorem d_M_turnRight_42 : decode b_M_turnRight 42 = .ok (.iaload, 1) := by decide +kernel
theorem d_M_turnRight_43 : decode b_M_turnRight 43 = .ok (.ineg, 1) := by decide +kernel
theorem d_M_turnRight_44 : decode b_M_turnRight 44 = .ok (.istore_n 3, 1) := by decide +kernel
theorem d_M_turnRight_45 : decode b_M_turnRight 45 = .ok (.aload_n 0, 1) := by decide +kernel
theorem d_M_turnRight_46 : decode b_M_turnRight 46 = .ok (.getfield 19, 3) := by decide +kernel
theorem d_M_turnRight_49 : decode b_M_turnRight 49 = .ok (.iload_n 2, 1) := by decide +kernel
theorem d_M_turnRight_50 : decode b_M_turnRight 50 = .ok (.iaload, 1) := by decide +kernel
theorem d_M_turnRight_51 : decode b_M_turnRight 51 = .ok (.istore 4, 2) := by decide +kernel
theorem d_M_turnRight_53 : decode b_M_turnRight 53 = .ok (.aload_n 0, 1) := by decide +kernel
theorem d_M_turnRight_54 : decode b_M_turnRight 54 = .ok (.getfield 25, 3) := by decide +kernel
theorem d_M_turnRight_57 : decode b_M_turnRight 57 = .ok (.iload_n 1, 1) := by decide +kernel
theorem d_M_turnRight_58 : decode b_M_turnRight 58 = .ok (.iaload, 1) := by decide +kernel
theorem d_M_turnRight_59 : decode b_M_turnRight 59 = .ok (.istore 5, 2) := by decide +kernel
theorem d_M_turnRight_61 : decode b_M_turnRight 61 = .ok (.aload_n 0, 1) := by decide +kernel
theorem d_M_turnRight_62 : decode b_M_turnRight 62 = .ok (.iload_n 1, 1) := by decide +kernel
theorem d_M_turnRight_63 : decode b_M_turnRight 63 = .ok (.invokevirtual 94, 3) := by decide +kernel
theorem d_M_turnRight_66 : decode b_M_turnRight 66 = .ok (.aload_n 0, 1) := by decide +kernel
theorem d_M_turnRight_67 : decode b_M_turnRight 67 = .ok (.iload_n 2, 1) := by decide +kernel
theorem d_M_turnRight_68 : decode b_M_turnRight 68 = .ok (.invokevirtual 94, 3) := by decide +kernel
theorem d_M_turnRight_71 : decode b_M_turnRight 71 = .ok (.iload_n 3, 1) := by decide +kernel
theorem d_M_turnRight_72 : decode b_M_turnRight 72 = .ok (.iload 4, 2) := by decide +kernel
theorem d_M_turnRight_74 : decode b_M_turnRight 74 = .ok (.if_icmp .eq 51, 3) := by decide +kernel
theorem d_M_turnRight_77 : decode b_M_turnRight 77 = .ok (.aload_n 0, 1) := by decide +kernel
theorem d_M_turnRight_78 : decode b_M_turnRight 78 = .ok (.iload 5, 2) := by decide +kernel
theorem d_M_turnRight_80 : decode b_M_turnRight 80 = .ok (.iload 4, 2) := by decide +kernel
theorem d_M_turnRight_82 : decode b_M_turnRight 82 = .ok (.invokevirtual 98, 3) := by decide +kernel
theorem d_M_turnRight_85 : decode b_M_turnRight 85 = .ok (.istore 6, 2) := by decide +kernel
theorem d_M_turnRight_87 : decode b_M_turnRight 87 = .ok (.iload_n 3, 1) := by decide +kernel
theorem d_M_turnRight_88 : decode b_M_turnRight 88 = .ok (.iload 4, 2) := by decide +kernel
theorem d_M_turnRight_90 : decode b_M_turnRight 90 = .ok (.invokestatic 101, 3) := by decide +kernel
theorem d_M_turnRight_93 : decode b_M_turnRight 93 = .ok (.ifCond .eq 23, 3) := by decide +kernel
theorem d_M_turnRight_96 : decode b_M_turnRight 96 = .ok (.aload_n 0, 1) := by decide +kernel
theorem d_M_turnRight_97 : decode b_M_turnRight 97 = .ok (.iload 6, 2) := by decide +kernel
theorem d_M_turnRight_99 : decode b_M_turnRight 99 = .ok (.iload_n 3, 1) := by decide +kernel
theorem d_M_turnRight_100 : decode b_M_turnRight 100 = .ok (.invokevirtual 98, 3) := by decide +kernel
theorem d_M_turnRight_103 : decode b_M_turnRight 103 = .ok (.istore 6, 2) := by decide +kernel
theorem d_M_turnRight_105 : decode b_M_turnRight 105 = .ok (.aload_n 0, 1) := by decide +kernel
theorem d_M_turnRight_106 : decode b_M_turnRight 106 = .ok (.iload 6, 2) := by decide +kernel
theorem d_M_turnRight_108 : decode b_M_turnRight 108 = .ok (.iload 4, 2) := by decide +kernel
theorem d_M_turnRight_110 : decode b_M_turnRight 110 = .ok (.ineg, 1) := by decide +kernel
theorem d_M_turnRight_111 : decode b_M_turnRight 111 = .ok (.invokevirtual 98, 3) := by decide +kernel
theorem d_M_turnRight_114 : decode b_M_turnRight 114 = .ok (.istore 6, 2) := by decide +kernel
theorem d_M_turnRight_116 : decode b_M_turnRight 116 = .ok (.aload_n 0, 1) := by decide +kernel
theorem d_M_turnRight_117 : decode b_M_turnRight 117 = .ok (.iload 6, 2) := by decide +kernel
theorem d_M_turnRight_119 : decode b_M_turnRight 119 = .ok (.iload_n 3, 1) := by decide +kernel
theorem d_M_turnRight_120 : decode b_M_turnRight 120 = .ok (.ineg, 1) := by decide +kernel
theorem d_M_turnRight_121 : decode b_M_turnRight 121 = .ok (.invokevirtual 98, 3) := by decide +kernel
theorem d_M_turnRight_124 : decode b_M_turnRight 124 = .ok (.pop, 1) := by decide +kernel
theorem d_M_turnRight_125 : decode b_M_turnRight 125 = .ok (.iload 5, 2) := by decide +kernel
theorem d_M_turnRight_127 : decode b_M_turnRight 127 = .ok (.ifCond .ne 12, 3) := by decide +kernel
theorem d_M_turnRight_130 : decode b_M_turnRight 130 = .ok (.aload_n 0, 1) := by decide +kernel
theorem d_M_turnRight_131 : decode b_M_turnRight 131 = .ok (.getfield 22, 3) := by decide +kernel
theorem d_M_turnRight_134 : decode b_M_turnRight 134 = .ok (.iconst 0, 1) := by decide +kernel
theorem d_M_turnRight_135 : decode b_M_turnRight 135 = .ok (.iaload, 1) := by decide +kernel
theorem d_M_turnRight_136 : decode b_M_turnRight 136 = .ok (.goto 5, 3) := by decide +kernel
theorem d_M_turnRight_139 : decode b_M_turnRight 139 = .ok (.iload 5, 2) := by decide +kernel
theorem d_M_turnRight_141 : decode b_M_turnRight 141 = .ok (.istore_n 1, 1) := by decide +kernel
theorem d_M_turnRight_142 : decode b_M_turnRight 142 = .ok (.goto 5, 3) := by decide +kernel
theorem d_M_turnRight_145 : decode b_M_turnRight 145 = .ok (.iload_n 2, 1) := by decide +kernel
theorem d_M_turnRight_146 : decode b_M_turnRight 146 = .ok (.istore_n 1, 1) := by decide +kernel
theorem d_M_turnRight_147 : decode b_M_turnRight 147 = .ok (.goto (-140), 3) := by decide +kernel
theorem d_M_turnRight_150 : decode b_M_turnRight 150 = .ok (.return_, 1) := by decide +kernel
theorem d_M_turnLeft_0 : decode b_M_turnLeft 0 = .ok (.aload_n 0, 1) := by decide +kernel
theorem d_M_turnLeft_1 : decode b_M_turnLeft 1 = .ok (.getfield 22, 3) := by decide +kernel
theorem d_M_turnLeft_4 : decode b_M_turnLeft 4 = .ok (.iconst 0, 1) := by decide +kernel
theorem d_M_turnLeft_5 : decode b_M_turnLeft 5 = .ok (.iaload, 1) := by decide +kernel
theorem d_M_turnLeft_6 : decode b_M_turnLeft 6 = .ok (.istore_n 1, 1) := by decide +kernel
theorem d_M_turnLeft_7 : decode b_M_turnLeft 7 = .ok (.iload_n 1, 1) := by decide +kernel
theorem d_M_turnLeft_8 : decode b_M_turnLeft 8 = .ok (.iconst 1, 1) := by decide +kernel
theorem d_M_turnLeft_9 : decode b_M_turnLeft 9 = .ok (.if_icmp .eq 141, 3) := by decide +kernel
theorem d_M_turnLeft_12 : decode b_M_turnLeft 12 = .ok (.aload_n 0, 1) := by decide +kernel
theorem d_M_turnLeft_13 : decode b_M_turnLeft 13 = .ok (.getfield 22, 3) := by decide +kernel
theorem d_M_turnLeft_16 : decode b_M_turnLeft 16 = .ok (.iload_n 1, 1) := by decide +kernel
theorem d_M_turnLeft_17 : decode b_M_turnLeft 17 = .ok (.iaload, 1) := by decide +kernel
theorem d_M_turnLeft_18 : decode b_M_turnLeft 18 = .ok (.istore_n 2, 1) := by decide +kernel
theorem d_M_turnLeft_19 : decode b_M_turnLeft 19 = .ok (.aload_n 0, 1) := by decide +kernel
theorem d_M_turnLeft_20 : decode b_M_turnLeft 20 = .ok (.getfield 19, 3) := by decide +kernel
theorem d_M_turnLeft_23 : decode b_M_turnLeft 23 = .ok (.iload_n 1, 1) := by decide +kernel
theorem d_M_turnLeft_24 : decode b_M_turnLeft 24 = .ok (.iaload, 1) := by decide +kernel
theorem d_M_turnLeft_25 : decode b_M_turnLeft 25 = .ok (.ifCond .le 120, 3) := by decide +kernel
theorem d_M_turnLeft_28 : decode b_M_turnLeft 28 = .ok (.aload_n 0, 1) := by decide +kernel
theorem d_M_turnLeft_29 : decode b_M_turnLeft 29 = .ok (.getfield 19, 3) := by decide +kernel
theorem d_M_turnLeft_32 : decode b_M_turnLeft 32 = .ok (.iload_n 2, 1) := by decide +kernel
theorem d_M_turnLeft_33 : decode b_M_turnLeft 33 = .ok (.iaload, 1) := by decide +kernel
theorem d_M_turnLeft_34 : decode b_M_turnLeft 34 = .ok (.ifCond .ge 111, 3) := by decide +kernel
theorem d_M_turnLeft_37 : decode b_M_turnLeft 37 = .ok (.aload_n 0, 1) := by decide +kernel
theorem d_M_turnLeft_38 : decode b_M_turnLeft 38 = .ok (.getfield 19, 3) := by decide +kernel
theorem d_M_turnLeft_41 : decode b_M_turnLeft 41 = .ok (.iload_n 1, 1) := by decide +kernel
theorem d_M_turnLeft_42 : decode b_M_turnLeft 42 = .ok (.iaload, 1) := by decide +kernel
theorem d_M_turnLeft_43 : decode b_M_turnLeft 43 = .ok (.istore_n 3, 1) := by decide +kernel
theorem d_M_turnLeft_44 : decode b_M_turnLeft 44 = .ok (.aload_n 0, 1) := by decide +kernel
theorem d_M_turnLeft_45 : decode b_M_turnLeft 45 = .ok (.getfield 19, 3) := by decide +kernel
theorem d_M_turnLeft_48 : decode b_M_turnLeft 48 = .ok (.iload_n 2, 1) := by decide +kernel
theorem d_M_turnLeft_49 : decode b_M_turnLeft 49 = .ok (.iaload, 1) := by decide +kernel
theorem d_M_turnLeft_50 : decode b_M_turnLeft 50 = .ok (.ineg, 1) := by decide +kernel
theorem d_M_turnLeft_51 : decode b_M_turnLeft 51 = .ok (.istore 4, 2) := by decide +kernel
theorem d_M_turnLeft_53 : decode b_M_turnLeft 53 = .ok (.aload_n 0, 1) := by decide +kernel
theorem d_M_turnLeft_54 : decode b_M_turnLeft 54 = .ok (.getfield 25, 3) := by decide +kernel
theorem d_M_turnLeft_57 : decode b_M_turnLeft 57 = .ok (.iload_n 1, 1) := by decide +kernel
theorem d_M_turnLeft_58 : decode b_M_turnLeft 58 = .ok (.iaload, 1) := by decide +kernel
theorem d_M_turnLeft_59 : decode b_M_turnLeft 59 = .ok (.istore 5, 2) := by decide +kernel
theorem d_M_turnLeft_61 : decode b_M_turnLeft 61 = .ok (.aload_n 0, 1) := by decide +kernel
theorem d_M_turnLeft_62 : decode b_M_turnLeft 62 = .ok (.iload_n 1, 1) := by decide +kernel
theorem d_M_turnLeft_63 : decode b_M_turnLeft 63 = .ok (.invokevirtual 94, 3) := by decide +kernel
theorem d_M_turnLeft_66 : decode b_M_turnLeft 66 = .ok (.aload_n 0, 1) := by decide +kernel
theorem d_M_turnLeft_67 : decode b_M_turnLeft 67 = .ok (.iload_n 2, 1) := by decide +kernel
theorem d_M_turnLeft_68 : decode b_M_turnLeft 68 = .ok (.invokevirtual 94, 3) := by decide +kernel
theorem d_M_turnLeft_71 : decode b_M_turnLeft 71 = .ok (.iload_n 3, 1) := by decide +kernel
theorem d_M_turnLeft_72 : decode b_M_turnLeft 72 = .ok (.iload 4, 2) := by decide +kernel
theorem d_M_turnLeft_74 : decode b_M_turnLeft 74 = .ok (.if_icmp .eq 51, 3) := by decide +kernel
theorem d_M_turnLeft_77 : decode b_M_turnLeft 77 = .ok (.aload_n 0, 1) := by decide +kernel
theorem d_M_turnLeft_78 : decode b_M_turnLeft 78 = .ok (.iload 5, 2) := by decide +kernel
theorem d_M_turnLeft_80 : decode b_M_turnLeft 80 = .ok (.iload 4, 2) := by decide +kernel
theorem d_M_turnLeft_82 : decode b_M_turnLeft 82 = .ok (.ineg, 1) := by decide +kernel
theorem d_M_turnLeft_83 : decode b_M_turnLeft 83 = .ok (.invokevirtual 98, 3) := by decide +kernel
theorem d_M_turnLeft_86 : decode b_M_turnLeft 86 = .ok (.istore 6, 2) := by decide +kernel
theorem d_M_turnLeft_88 : decode b_M_turnLeft 88 = .ok (.iload_n 3, 1) := by decide +kernel
theorem d_M_turnLeft_89 : decode b_M_turnLeft 89 = .ok (.iload 4, 2) := by decide +kernel
theorem d_M_turnLeft_91 : decode b_M_turnLeft 91 = .ok (.invokestatic 101, 3) := by decide +kernel
theorem d_M_turnLeft_94 : decode b_M_turnLeft 94 = .ok (.ifCond .eq 23, 3) := by decide +kernel
theorem d_M_turnLeft_97 : decode b_M_turnLeft 97 = .ok (.aload_n 0, 1) := by decide +kernel
theorem d_M_turnLeft_98 : decode b_M_turnLeft 98 = .ok (.iload 6, 2) := by decide +kernel
theorem d_M_turnLeft_100 : decode b_M_turnLeft 100 = .ok (.iload_n 3, 1) := by decide +kernel
theorem d_M_turnLeft_101 : decode b_M_turnLeft 101 = .ok (.ineg, 1) := by decide +kernel
theorem d_M_turnLeft_102 : decode b_M_turnLeft 102 = .ok (.invokevirtual 98, 3) := by decide +kernel
theorem d_M_turnLeft_105 : decode b_M_turnLeft 105 = .ok (.istore 6, 2) := by decide +kernel
theorem d_M_turnLeft_107 : decode b_M_turnLeft 107 = .ok (.aload_n 0, 1) := by decide +kernel
theorem d_M_turnLeft_108 : decode b_M_turnLeft 108 = .ok (.iload 6, 2) := by decide +kernel
theorem d_M_turnLeft_110 : decode b_M_turnLeft 110 = .ok (.iload 4, 2) := by decide +kernel
theorem d_M_turnLeft_112 : decode b_M_turnLeft 112 = .ok (.invokevirtual 98, 3) := by decide +kernel
theorem d_M_turnLeft_115 : decode b_M_turnLeft 115 = .ok (.istore 6, 2) := by decide +kernel
theorem d_M_turnLeft_117 : decode b_M_turnLeft 117 = .ok (.aload_n 0, 1) := by decide +kernel
theorem d_M_turnLeft_118 : decode b_M_turnLeft 118 = .ok (.iload 6, 2) := by decide +kernel
theorem d_M_turnLeft_120 : decode b_M_turnLeft 120 = .ok (.iload_n 3, 1) := by decide +kernel
theorem d_M_turnLeft_121 : decode b_M_turnLeft 121 = .ok (.invokevirtual 98, 3) := by decide +kernel
theorem d_M_turnLeft_124 : decode b_M_turnLeft 124 = .ok (.pop, 1) := by decide +kernel
theorem d_M_turnLeft_125 : decode b_M_turnLeft 125 = .ok (.iload 5, 2) := by decide +kernel
theorem d_M_turnLeft_127 : decode b_M_turnLeft 127 = .ok (.ifCond .ne 12, 3) := by decide +kernel
theorem d_M_turnLeft_130 : decode b_M_turnLeft 130 = .ok (.aload_n 0, 1) := by decide +kernel
theorem d_M_turnLeft_131 : decode b_M_turnLeft 131 = .ok (.getfield 22, 3) := by decide +kernel
theorem d_M_turnLeft_134 : decode b_M_turnLeft 134 = .ok (.iconst 0, 1) := by decide +kernel
theorem d_M_turnLeft_135 : decode b_M_turnLeft 135 = .ok (.iaload, 1) := by decide +kernel
theorem d_M_turnLeft_136 : decode b_M_turnLeft 136 = .ok (.goto 5, 3) := by decide +kernel
theorem d_M_turnLeft_139 : decode b_M_turnLeft 139 = .ok (.iload 5, 2) := by decide +kernel
theorem d_M_turnLeft_141 : decode b_M_turnLeft 141 = .ok (.istore_n 1, 1) := by decide +kernel
theorem d_M_turnLeft_142 : decode b_M_turnLeft 142 = .ok (.goto 5, 3) := by decide +kernel
theorem d_M_turnLeft_145 : decode b_M_turnLeft 145 = .ok (.iload_n 2, 1) := by decide +kernel
theorem d_M_turnLeft_146 : decode b_M_turnLeft 146 = .ok (.istore_n 1, 1) := by decide +kernel
theorem d_M_turnLeft_147 : decode b_M_turnLeft 147 = .ok (.goto (-140), 3) := by decide +kernel
theorem d_M_turnLeft_150 : decode b_M_turnLeft 150 = .ok (.return_, 1) := by decide +kernel
theorem d_M_writeSimple_0 : decode b_M_writeSimple 0 = .ok (.iconst 1, 1) := by decide +kernel
theorem d_M_writeSimple_1 : decode b_M_writeSimple 1 = .ok (.istore_n 2, 1) := by decide +kernel
theorem d_M_writeSimple_2 : decode b_M_writeSimple 2 = .ok (.iload_n 2, 1) := by decide +kernel
theorem d_M_writeSimple_3 : decode b_M_writeSimple 3 = .ok (.ifCond .eq 92, 3) := by decide +kernel
theorem d_M_writeSimple_6 : decode b_M_writeSimple 6 = .ok (.iconst 0, 1) := by decide +kernel
theorem d_M_writeSimple_7 : decode b_M_writeSimple 7 = .ok (.istore_n 2, 1) := by decide +kernel
theorem d_M_writeSimple_8 : decode b_M_writeSimple 8 = .ok (.iconst 1, 1) := by decide +kernel
theorem d_M_writeSimple_9 : decode b_M_writeSimple 9 = .ok (.istore_n 3, 1) := by decide +kernel
theorem d_M_writeSimple_10 : decode b_M_writeSimple 10 = .ok (.iload_n 3, 1) := by decide +kernel
theorem d_M_writeSimple_11 : decode b_M_writeSimple 11 = .ok (.iload_n 1, 1) := by decide +kernel
theorem d_M_writeSimple_12 : decode b_M_writeSimple 12 = .ok (.if_icmp .ge 80, 3) := by decide +kernel
theorem d_M_writeSimple_15 : decode b_M_writeSimple 15 = .ok (.aload_n 0, 1) := by decide +kernel
theorem d_M_writeSimple_16 : decode b_M_writeSimple 16 = .ok (.getfield 31, 3) := by decide +kernel
theorem d_M_writeSimple_19 : decode b_M_writeSimple 19 = .ok (.iload_n 3, 1) := by decide +kernel
theorem d_M_writeSimple_20 : decode b_M_writeSimple 20 = .ok (.iaload, 1) := by decide +kernel
theorem d_M_writeSimple_21 : decode b_M_writeSimple 21 = .ok (.aload_n 0, 1) := by decide +kernel
theorem d_M_writeSimple_22 : decode b_M_writeSimple 22 = .ok (.getfield 31, 3) := by decide +kernel
theorem d_M_writeSimple_25 : decode b_M_writeSimple 25 = .ok (.iload_n 3, 1) := by decide +kernel
theorem d_M_writeSimple_26 : decode b_M_writeSimple 26 = .ok (.iconst 1, 1) := by decide +kernel
theorem d_M_writeSimple_27 : decode b_M_writeSimple 27 = .ok (.iadd, 1) := by decide +kernel
theorem d_M_writeSimple_28 : decode b_M_writeSimple 28 = .ok (.iaload, 1) := by decide +kernel
theorem d_M_writeSimple_29 : decode b_M_writeSimple 29 = .ok (.if_icmp .le 57, 3) := by decide +kernel
theorem d_M_writeSimple_32 : decode b_M_writeSimple 32 = .ok (.aload_n 0, 1) := by decide +kernel
theorem d_M_writeSimple_33 : decode b_M_writeSimple 33 = .ok (.getfield 31, 3) := by decide +kernel
theorem d_M_writeSimple_36 : decode b_M_writeSimple 36 = .ok (.iload_n 3, 1) := by decide +kernel
theorem d_M_writeSimple_37 : decode b_M_writeSimple 37 = .ok (.iaload, 1) := by decide +kernel
theorem d_M_writeSimple_38 : decode b_M_writeSimple 38 = .ok (.istore 4, 2) := by decide +kernel
theorem d_M_writeSimple_40 : decode b_M_writeSimple 40 = .ok (.aload_n 0, 1) := by decide +kernel
theorem d_M_writeSimple_41 : decode b_M_writeSimple 41 = .ok (.getfield 31, 3) := by decide +kernel
theorem d_M_writeSimple_44 : decode b_M_writeSimple 44 = .ok (.iload_n 3, 1) := by decide +kernel
theorem d_M_writeSimple_45 : decode b_M_writeSimple 45 = .ok (.aload_n 0, 1) := by decide +kernel
theorem d_M_writeSimple_46 : decode b_M_writeSimple 46 = .ok (.getfield 31, 3) := by decide +kernel
theorem d_M_writeSimple_49 : decode b_M_writeSimple 49 = .ok (.iload_n 3, 1) := by decide +kernel
theorem d_M_writeSimple_50 : decode b_M_writeSimple 50 = .ok (.iconst 1, 1) := by decide +kernel
theorem d_M_writeSimple_51 : decode b_M_writeSimple 51 = .ok (.iadd, 1) := by decide +kernel
theorem d_M_writeSimple_52 : decode b_M_writeSimple 52 = .ok (.iaload, 1) := by decide +kernel
theorem d_M_writeSimple_53 : decode b_M_writeSimple 53 = .ok (.iastore, 1) := by decide +kernel
theorem d_M_writeSimple_54 : decode b_M_writeSimple 54 = .ok (.aload_n 0, 1) := by decide +kernel
theorem d_M_writeSimple_55 : decode b_M_writeSimple 55 = .ok (.getfield 31, 3) := by decide +kernel
theorem d_M_writeSimple_58 : decode b_M_writeSimple 58 = .ok (.iload_n 3, 1) := by decide +kernel
theorem d_M_writeSimple_59 : decode b_M_writeSimple 59 = .ok (.iconst 1, 1) := by decide +kernel
theorem d_M_writeSimple_60 : decode b_M_writeSimple 60 = .ok (.iadd, 1) := by decide +kernel
theorem d_M_writeSimple_61 : decode b_M_writeSimple 61 = .ok (.iload 4, 2) := by decide +kernel
theorem d_M_writeSimple_63 : decode b_M_writeSimple 63 = .ok (.iastore, 1) := by decide +kernel
theorem d_M_writeSimple_64 : decode b_M_writeSimple 64 = .ok (.aload_n 0, 1) := by decide +kernel
theorem d_M_writeSimple_65 : decode b_M_writeSimple 65 = .ok (.getfield 28, 3) := by decide +kernel
theorem d_M_writeSimple_68 : decode b_M_writeSimple 68 = .ok (.aload_n 0, 1) := by decide +kernel
theorem d_M_writeSimple_69 : decode b_M_writeSimple 69 = .ok (.getfield 105, 3) := by decide +kernel
theorem d_M_writeSimple_72 : decode b_M_writeSimple 72 = .ok (.iload_n 3, 1) := by decide +kernel
theorem d_M_writeSimple_73 : decode b_M_writeSimple 73 = .ok (.iastore, 1) := by decide +kernel
theorem d_M_writeSimple_74 : decode b_M_writeSimple 74 = .ok (.aload_n 0, 1) := by decide +kernel
theorem d_M_writeSimple_75 : decode b_M_writeSimple 75 = .ok (.dup, 1) := by decide +kernel
theorem d_M_writeSimple_76 : decode b_M_writeSimple 76 = .ok (.getfield 105, 3) := by decide +kernel
theorem d_M_writeSimple_79 : decode b_M_writeSimple 79 = .ok (.iconst 1, 1) := by decide +kernel
theorem d_M_writeSimple_80 : decode b_M_writeSimple 80 = .ok (.iadd, 1) := by decide +kernel
theorem d_M_writeSimple_81 : decode b_M_writeSimple 81 = .ok (.putfield 105, 3) := by decide +kernel
theorem d_M_writeSimple_84 : decode b_M_writeSimple 84 = .ok (.iconst 1, 1) := by decide +kernel
theorem d_M_writeSimple_85 : decode b_M_writeSimple 85 = .ok (.istore_n 2, 1) := by decide +kernel
theorem d_M_writeSimple_86 : decode b_M_writeSimple 86 = .ok (.iinc 3 1, 3) := by decide +kernel
theorem d_M_writeSimple_89 : decode b_M_writeSimple 89 = .ok (.goto (-79), 3) := by decide +kernel
theorem d_M_writeSimple_92 : decode b_M_writeSimple 92 = .ok (.goto (-90), 3) := by decide +kernel
theorem d_M_writeSimple_95 : decode b_M_writeSimple 95 = .ok (.return_, 1) := by decide +kernel
theorem d_M_writeTurn_0 : decode b_M_writeTurn 0 = .ok (.iconst 1, 1) := by decide +kernel
theorem d_M_writeTurn_1 : decode b_M_writeTurn 1 = .ok (.istore_n 2, 1) := by decide +kernel
theorem d_M_writeTurn_2 : decode b_M_writeTurn 2 = .ok (.iload_n 2, 1) := by decide +kernel
theorem d_M_writeTurn_3 : decode b_M_writeTurn 3 = .ok (.iload_n 1, 1) := by decide +kernel
theorem d_M_writeTurn_4 : decode b_M_writeTurn 4 = .ok (.if_icmp .gt 20, 3) := by decide +kernel
theorem d_M_writeTurn_7 : decode b_M_writeTurn 7 = .ok (.aload_n 0, 1) := by decide +kernel
theorem d_M_writeTurn_8 : decode b_M_writeTurn 8 = .ok (.getfield 31, 3) := by decide +kernel
theorem d_M_writeTurn_11 : decode b_M_writeTurn 11 = .ok (.iload_n 2, 1) := by decide +kernel
theorem d_M_writeTurn_12 : decode b_M_writeTurn 12 = .ok (.iload_n 1, 1) := by decide +kernel
theorem d_M_writeTurn_13 : decode b_M_writeTurn 13 = .ok (.iconst 1, 1) := by decide +kernel
theorem d_M_writeTurn_14 : decode b_M_writeTurn 14 = .ok (.iadd, 1) := by decide +kernel
theorem d_M_writeTurn_15 : decode b_M_writeTurn 15 = .ok (.iload_n 2, 1) := by decide +kernel
theorem d_M_writeTurn_16 : decode b_M_writeTurn 16 = .ok (.isub, 1) := by decide +kernel
theorem d_M_writeTurn_17 : decode b_M_writeTurn 17 = .ok (.iastore, 1) := by decide +kernel
theorem d_M_writeTurn_18 : decode b_M_writeTurn 18 = .ok (.iinc 2 1, 3) := by decide +kernel
theorem d_M_writeTurn_21 : decode b_M_writeTurn 21 = .ok (.goto (-19), 3) := by decide +kernel
theorem d_M_writeTurn_24 : decode b_M_writeTurn 24 = .ok (.aload_n 0, 1) := by decide +kernel
theorem d_M_writeTurn_25 : decode b_M_writeTurn 25 = .ok (.iload_n 1, 1) := by decide +kernel
theorem d_M_writeTurn_26 : decode b_M_writeTurn 26 = .ok (.invokevirtual 108, 3) := by decide +kernel
theorem d_M_writeTurn_29 : decode b_M_writeTurn 29 = .ok (.return_, 1) := by decide +kernel
theorem d_M_makePositive_0 : decode b_M_makePositive 0 = .ok (.aload_n 0, 1) := by decide +kernel
theorem d_M_makePositive_1 : decode b_M_makePositive 1 = .ok (.getfield 7, 3) := by decide +kernel
theorem d_M_makePositive_4 : decode b_M_makePositive 4 = .ok (.iload_n 1, 1) := by decide +kernel
theorem d_M_makePositive_5 : decode b_M_makePositive 5 = .ok (.iaload, 1) := by decide +kernel
theorem d_M_makePositive_6 : decode b_M_makePositive 6 = .ok (.istore_n 2, 1) := by decide +kernel
theorem d_M_makePositive_7 : decode b_M_makePositive 7 = .ok (.aload_n 0, 1) := by decide +kernel
theorem d_M_makePositive_8 : decode b_M_makePositive 8 = .ok (.iconst 0, 1) := by decide +kernel
theorem d_M_makePositive_9 : decode b_M_makePositive 9 = .ok (.putfield 105, 3) := by decide +kernel
theorem d_M_makePositive_12 : decode b_M_makePositive 12 = .ok (.aload_n 0, 1) := by decide +kernel
theorem d_M_makePositive_13 : decode b_M_makePositive 13 = .ok (.getfield 41, 3) := by decide +kernel
theorem d_M_makePositive_16 : decode b_M_makePositive 16 = .ok (.iload_n 1, 1) := by decide +kernel
theorem d_M_makePositive_17 : decode b_M_makePositive 17 = .ok (.iconst 0, 1) := by decide +kernel
theorem d_M_makePositive_18 : decode b_M_makePositive 18 = .ok (.iastore, 1) := by decide +kernel
theorem d_M_makePositive_19 : decode b_M_makePositive 19 = .ok (.iconst 0, 1) := by decide +kernel
theorem d_M_makePositive_20 : decode b_M_makePositive 20 = .ok (.istore_n 3, 1) := by decide +kernel
theorem d_M_makePositive_21 : decode b_M_makePositive 21 = .ok (.iload_n 3, 1) := by decide +kernel
theorem d_M_makePositive_22 : decode b_M_makePositive 22 = .ok (.aload_n 0, 1) := by decide +kernel
theorem d_M_makePositive_23 : decode b_M_makePositive 23 = .ok (.getfield 13, 3) := by decide +kernel
theorem d_M_makePositive_26 : decode b_M_makePositive 26 = .ok (.iload_n 1, 1) := by decide +kernel
theorem d_M_makePositive_27 : decode b_M_makePositive 27 = .ok (.iaload, 1) := by decide +kernel
theorem d_M_makePositive_28 : decode b_M_makePositive 28 = .ok (.if_icmp .ge 157, 3) := by decide +kernel
theorem d_M_makePositive_31 : decode b_M_makePositive 31 = .ok (.aload_n 0, 1) := by decide +kernel
theorem d_M_makePositive_32 : decode b_M_makePositive 32 = .ok (.iload_n 1, 1) := by decide +kernel
theorem d_M_makePositive_33 : decode b_M_makePositive 33 = .ok (.iload_n 3, 1) := by decide +kernel
theorem d_M_makePositive_34 : decode b_M_makePositive 34 = .ok (.invokevirtual 64, 3) := by decide +kernel
theorem d_M_makePositive_37 : decode b_M_makePositive 37 = .ok (.istore 4, 2) := by decide +kernel
theorem d_M_makePositive_39 : decode b_M_makePositive 39 = .ok (.iload 4, 2) := by decide +kernel
theorem d_M_makePositive_41 : decode b_M_makePositive 41 = .ok (.ifCond .le 27, 3) := by decide +kernel
theorem d_M_makePositive_44 : decode b_M_makePositive 44 = .ok (.aload_n 0, 1) := by decide +kernel
theorem d_M_makePositive_45 : decode b_M_makePositive 45 = .ok (.getfield 28, 3) := by decide +kernel
theorem d_M_makePositive_48 : decode b_M_makePositive 48 = .ok (.aload_n 0, 1) := by decide +kernel
theorem d_M_makePositive_49 : decode b_M_makePositive 49 = .ok (.getfield 105, 3) := by decide +kernel
theorem d_M_makePositive_52 : decode b_M_makePositive 52 = .ok (.iload 4, 2) := by decide +kernel
theorem d_M_makePositive_54 : decode b_M_makePositive 54 = .ok (.iastore, 1) := by decide +kernel
theorem d_M_makePositive_55 : decode b_M_makePositive 55 = .ok (.aload_n 0, 1) := by decide +kernel
theorem d_M_makePositive_56 : decode b_M_makePositive 56 = .ok (.dup, 1) := by decide +kernel
theorem d_M_makePositive_57 : decode b_M_makePositive 57 = .ok (.getfield 105, 3) := by decide +kernel
theorem d_M_makePositive_60 : decode b_M_makePositive 60 = .ok (.iconst 1, 1) := by decide +kernel
theorem d_M_makePositive_61 : decode b_M_makePositive 61 = .ok (.iadd, 1) := by decide +kernel
theorem d_M_makePositive_62 : decode b_M_makePositive 62 = .ok (.putfield 105, 3) := by decide +kernel
theorem d_M_makePositive_65 : decode b_M_makePositive 65 = .ok (.goto 114, 3) := by decide +kernel
theorem d_M_makePositive_68 : decode b_M_makePositive 68 = .ok (.iconst 0, 1) := by decide +kernel
theorem d_M_makePositive_69 : decode b_M_makePositive 69 = .ok (.istore 5, 2) := by decide +kernel
theorem d_M_makePositive_71 : decode b_M_makePositive 71 = .ok (.iload 5, 2) := by decide +kernel
theorem d_M_makePositive_73 : decode b_M_makePositive 73 = .ok (.aload_n 0, 1) := by decide +kernel
theorem d_M_makePositive_74 : decode b_M_makePositive 74 = .ok (.getfield 105, 3) := by decide +kernel
theorem d_M_makePositive_77 : decode b_M_makePositive 77 = .ok (.if_icmp .ge 25, 3) := by decide +kernel
theorem d_M_makePositive_80 : decode b_M_makePositive 80 = .ok (.aload_n 0, 1) := by decide +kernel
theorem d_M_makePositive_81 : decode b_M_makePositive 81 = .ok (.getfield 28, 3) := by decide +kernel
theorem d_M_makePositive_84 : decode b_M_makePositive 84 = .ok (.iload 5, 2) := by decide +kernel
theorem d_M_makePositive_86 : decode b_M_makePositive 86 = .ok (.iload_n 2, 1) := by decide +kernel
theorem d_M_makePositive_87 : decode b_M_makePositive 87 = .ok (.aload_n 0, 1) := by decide +kernel
theorem d_M_makePositive_88 : decode b_M_makePositive 88 = .ok (.getfield 28, 3) := by decide +kernel
theorem d_M_makePositive_91 : decode b_M_makePositive 91 = .ok (.iload 5, 2) := by decide +kernel
theorem d_M_makePositive_93 : decode b_M_makePositive 93 = .ok (.iaload, 1) := by decide +kernel
theorem d_M_makePositive_94 : decode b_M_makePositive 94 = .ok (.isub, 1) := by decide +kernel
theorem d_M_makePositive_95 : decode b_M_makePositive 95 = .ok (.iastore, 1) := by decide +kernel
theorem d_M_makePositive_96 : decode b_M_makePositive 96 = .ok (.iinc 5 1, 3) := by decide +kernel
theorem d_M_makePositive_99 : decode b_M_makePositive 99 = .ok (.goto (-28), 3) := by decide +kernel
theorem d_M_makePositive_102 : decode b_M_makePositive 102 = .ok (.aload_n 0, 1) := by decide +kernel
theorem d_M_makePositive_103 : decode b_M_makePositive 103 = .ok (.getfield 41, 3) := by decide +kernel
theorem d_M_makePositive_106 : decode b_M_makePositive 106 = .ok (.iload_n 1, 1) := by decide +kernel
theorem d_M_makePositive_107 : decode b_M_makePositive 107 = .ok (.dup2, 1) := by decide +kernel
theorem d_M_makePositive_108 : decode b_M_makePositive 108 = .ok (.iaload, 1) := by decide +kernel
theorem d_M_makePositive_109 : decode b_M_makePositive 109 = .ok (.iconst 1, 1) := by decide +kernel
theorem d_M_makePositive_110 : decode b_M_makePositive 110 = .ok (.isub, 1) := by decide +kernel
theorem d_M_makePositive_111 : decode b_M_makePositive 111 = .ok (.iastore, 1) := by decide +kernel
theorem d_M_makePositive_112 : decode b_M_makePositive 112 = .ok (.iconst 1, 1) := by decide +kernel
theorem d_M_makePositive_113 : decode b_M_makePositive 113 = .ok (.istore 5, 2) := by decide +kernel
theorem d_M_makePositive_115 : decode b_M_makePositive 115 = .ok (.iload 5, 2) := by decide +kernel
theorem d_M_makePositive_117 : decode b_M_makePositive 117 = .ok (.iload_n 2, 1) := by decide +kernel
theorem d_M_makePositive_118 : decode b_M_makePositive 118 = .ok (.if_icmp .gt 56, 3) := by decide +kernel
theorem d_M_makePositive_121 : decode b_M_makePositive 121 = .ok (.iload_n 2, 1) := by decide +kernel
theorem d_M_makePositive_122 : decode b_M_makePositive 122 = .ok (.iconst 1, 1) := by decide +kernel
theorem d_M_makePositive_123 : decode b_M_makePositive 123 = .ok (.iadd, 1) := by decide +kernel
theorem d_M_makePositive_124 : decode b_M_makePositive 124 = .ok (.iload 5, 2) := by decide +kernel
theorem d_M_makePositive_126 : decode b_M_makePositive 126 = .ok (.isub, 1) := by decide +kernel
theorem d_M_makePositive_127 : decode b_M_makePositive 127 = .ok (.istore 6, 2) := by decide +kernel
theorem d_M_makePositive_129 : decode b_M_makePositive 129 = .ok (.aload_n 0, 1) := by decide +kernel
theorem d_M_makePositive_130 : decode b_M_makePositive 130 = .ok (.getfield 31, 3) := by decide +kernel
theorem d_M_makePositive_133 : decode b_M_makePositive 133 = .ok (.iload 5, 2) := by decide +kernel
theorem d_M_makePositive_135 : decode b_M_makePositive 135 = .ok (.iload 6, 2) := by decide +kernel
theorem d_M_makePositive_137 : decode b_M_makePositive 137 = .ok (.iload 4, 2) := by decide +kernel
theorem d_M_makePositive_139 : decode b_M_makePositive 139 = .ok (.ineg, 1) := by decide +kernel
theorem d_M_makePositive_140 : decode b_M_makePositive 140 = .ok (.if_icmp .ne 10, 3) := by decide +kernel
theorem d_M_makePositive_143 : decode b_M_makePositive 143 = .ok (.iconst 1, 1) := by decide +kernel
theorem d_M_makePositive_144 : decode b_M_makePositive 144 = .ok (.iload 4, 2) := by decide +kernel
theorem d_M_makePositive_146 : decode b_M_makePositive 146 = .ok (.isub, 1) := by decide +kernel
theorem d_M_makePositive_147 : decode b_M_makePositive 147 = .ok (.goto 20, 3) := by decide +kernel
theorem d_M_makePositive_150 : decode b_M_makePositive 150 = .ok (.iload 6, 2) := by decide +kernel
theorem d_M_makePositive_152 : decode b_M_makePositive 152 = .ok (.iconst 1, 1) := by decide +kernel
theorem d_M_makePositive_153 : decode b_M_makePositive 153 = .ok (.iload 4, 2) := by decide +kernel
theorem d_M_makePositive_155 : decode b_M_makePositive 155 = .ok (.isub, 1) := by decide +kernel
theorem d_M_makePositive_156 : decode b_M_makePositive 156 = .ok (.if_icmp .ne 9, 3) := by decide +kernel
theorem d_M_makePositive_159 : decode b_M_makePositive 159 = .ok (.iload 4, 2) := by decide +kernel
theorem d_M_makePositive_161 : decode b_M_makePositive 161 = .ok (.ineg, 1) := by decide +kernel
theorem d_M_makePositive_162 : decode b_M_makePositive 162 = .ok (.goto 5, 3) := by decide +kernel
theorem d_M_makePositive_165 : decode b_M_makePositive 165 = .ok (.iload 6, 2) := by decide +kernel
theorem d_M_makePositive_167 : decode b_M_makePositive 167 = .ok (.iastore, 1) := by decide +kernel
theorem d_M_makePositive_168 : decode b_M_makePositive 168 = .ok (.iinc 5 1, 3) := by decide +kernel
theorem d_M_makePositive_171 : decode b_M_makePositive 171 = .ok (.goto (-56), 3) := by decide +kernel
theorem d_M_makePositive_174 : decode b_M_makePositive 174 = .ok (.aload_n 0, 1) := by decide +kernel
theorem d_M_makePositive_175 : decode b_M_makePositive 175 = .ok (.iload_n 2, 1) := by decide +kernel
theorem d_M_makePositive_176 : decode b_M_makePositive 176 = .ok (.invokevirtual 108, 3) := by decide +kernel
theorem d_M_makePositive_179 : decode b_M_makePositive 179 = .ok (.iinc 3 1, 3) := by decide +kernel
theorem d_M_makePositive_182 : decode b_M_makePositive 182 = .ok (.goto (-161), 3) := by decide +kernel
theorem d_M_makePositive_185 : decode b_M_makePositive 185 = .ok (.return_, 1) := by decide +kernel
theorem d_M_takeSimple_0 : decode b_M_takeSimple 0 = .ok (.aload_n 0, 1) := by decide +kernel
theorem d_M_takeSimple_1 : decode b_M_takeSimple 1 = .ok (.getfield 105, 3) := by decide +kernel
theorem d_M_takeSimple_4 : decode b_M_takeSimple 4 = .ok (.istore_n 2, 1) := by decide +kernel
theorem d_M_takeSimple_5 : decode b_M_takeSimple 5 = .ok (.aload_n 0, 1) := by decide +kernel
theorem d_M_takeSimple_6 : decode b_M_takeSimple 6 = .ok (.invokevirtual 111, 3) := by decide +kernel
theorem d_M_takeSimple_9 : decode b_M_takeSimple 9 = .ok (.aload_n 0, 1) := by decide +kernel
theorem d_M_takeSimple_10 : decode b_M_takeSimple 10 = .ok (.iload_n 1, 1) := by decide +kernel
theorem d_M_takeSimple_11 : decode b_M_takeSimple 11 = .ok (.invokevirtual 114, 3) := by decide +kernel
theorem d_M_takeSimple_14 : decode b_M_takeSimple 14 = .ok (.iconst 0, 1) := by decide +kernel
theorem d_M_takeSimple_15 : decode b_M_takeSimple 15 = .ok (.istore_n 3, 1) := by decide +kernel
theorem d_M_takeSimple_16 : decode b_M_takeSimple 16 = .ok (.aload_n 0, 1) := by decide +kernel
theorem d_M_takeSimple_17 : decode b_M_takeSimple 17 = .ok (.getfield 105, 3) := by decide +kernel
theorem d_M_takeSimple_20 : decode b_M_takeSimple 20 = .ok (.iconst 1, 1) := by decide +kernel
theorem d_M_takeSimple_21 : decode b_M_takeSimple 21 = .ok (.isub, 1) := by decide +kernel
theorem d_M_takeSimple_22 : decode b_M_takeSimple 22 = .ok (.istore 4, 2) := by decide +kernel
theorem d_M_takeSimple_24 : decode b_M_takeSimple 24 = .ok (.iload 4, 2) := by decide +kernel
theorem d_M_takeSimple_26 : decode b_M_takeSimple 26 = .ok (.iload_n 2, 1) := by decide +kernel
theorem d_M_takeSimple_27 : decode b_M_takeSimple 27 = .ok (.if_icmp .lt 23, 3) := by decide +kernel
theorem d_M_takeSimple_30 : decode b_M_takeSimple 30 = .ok (.aload_n 0, 1) := by decide +kernel
theorem d_M_takeSimple_31 : decode b_M_takeSimple 31 = .ok (.iload_n 3, 1) := by decide +kernel
theorem d_M_takeSimple_32 : decode b_M_takeSimple 32 = .ok (.aload_n 0, 1) := by decide +kernel
theorem d_M_takeSimple_33 : decode b_M_takeSimple 33 = .ok (.getfield 28, 3) := by decide +kernel
theorem d_M_takeSimple_36 : decode b_M_takeSimple 36 = .ok (.iload 4, 2) := by decide +kernel
theorem d_M_takeSimple_38 : decode b_M_takeSimple 38 = .ok (.iaload, 1) := by decide +kernel
theorem d_M_takeSimple_39 : decode b_M_takeSimple 39 = .ok (.ineg, 1) := by decide +kernel
theorem d_M_takeSimple_40 : decode b_M_takeSimple 40 = .ok (.invokevirtual 98, 3) := by decide +kernel
theorem d_M_takeSimple_43 : decode b_M_takeSimple 43 = .ok (.istore_n 3, 1) := by decide +kernel
theorem d_M_takeSimple_44 : decode b_M_takeSimple 44 = .ok (.iinc 4 (-1), 3) := by decide +kernel
theorem d_M_takeSimple_47 : decode b_M_takeSimple 47 = .ok (.goto (-23), 3) := by decide +kernel
theorem d_M_takeSimple_50 : decode b_M_takeSimple 50 = .ok (.iconst 0, 1) := by decide +kernel
theorem d_M_takeSimple_51 : decode b_M_takeSimple 51 = .ok (.istore 4, 2) := by decide +kernel
theorem d_M_takeSimple_53 : decode b_M_takeSimple 53 = .ok (.iload 4, 2) := by decide +kernel
theorem d_M_takeSimple_55 : decode b_M_takeSimple 55 = .ok (.iload_n 2, 1) := by decide +kernel
theorem d_M_takeSimple_56 : decode b_M_takeSimple 56 = .ok (.if_icmp .ge 22, 3) := by decide +kernel
theorem d_M_takeSimple_59 : decode b_M_takeSimple 59 = .ok (.aload_n 0, 1) := by decide +kernel
theorem d_M_takeSimple_60 : decode b_M_takeSimple 60 = .ok (.iload_n 3, 1) := by decide +kernel
theorem d_M_takeSimple_61 : decode b_M_takeSimple 61 = .ok (.aload_n 0, 1) := by decide +kernel
theorem d_M_takeSimple_62 : decode b_M_takeSimple 62 = .ok (.getfield 28, 3) := by decide +kernel
theorem d_M_takeSimple_65 : decode b_M_takeSimple 65 = .ok (.iload 4, 2) := by decide +kernel
theorem d_M_takeSimple_67 : decode b_M_takeSimple 67 = .ok (.iaload, 1) := by decide +kernel
theorem d_M_takeSimple_68 : decode b_M_takeSimple 68 = .ok (.invokevirtual 98, 3) := by decide +kernel
theorem d_M_takeSimple_71 : decode b_M_takeSimple 71 = .ok (.istore_n 3, 1) := by decide +kernel
theorem d_M_takeSimple_72 : decode b_M_takeSimple 72 = .ok (.iinc 4 1, 3) := by decide +kernel
theorem d_M_takeSimple_75 : decode b_M_takeSimple 75 = .ok (.goto (-22), 3) := by decide +kernel
theorem d_M_takeSimple_78 : decode b_M_takeSimple 78 = .ok (.aload_n 0, 1) := by decide +kernel
theorem d_M_takeSimple_79 : decode b_M_takeSimple 79 = .ok (.invokevirtual 117, 3) := by decide +kernel
theorem d_M_takeSimple_82 : decode b_M_takeSimple 82 = .ok (.aload_n 0, 1) := by decide +kernel
theorem d_M_takeSimple_83 : decode b_M_takeSimple 83 = .ok (.invokevirtual 120, 3) := by decide +kernel
theorem d_M_takeSimple_86 : decode b_M_takeSimple 86 = .ok (.iconst 1, 1) := by decide +kernel
theorem d_M_takeSimple_87 : decode b_M_takeSimple 87 = .ok (.istore 4, 2) := by decide +kernel
theorem d_M_takeSimple_89 : decode b_M_takeSimple 89 = .ok (.iload 4, 2) := by decide +kernel
theorem d_M_takeSimple_91 : decode b_M_takeSimple 91 = .ok (.iload_n 1, 1) := by decide +kernel
theorem d_M_takeSimple_92 : decode b_M_takeSimple 92 = .ok (.if_icmp .gt 18, 3) := by decide +kernel
theorem d_M_takeSimple_95 : decode b_M_takeSimple 95 = .ok (.aload_n 0, 1) := by decide +kernel
theorem d_M_takeSimple_96 : decode b_M_takeSimple 96 = .ok (.getfield 31, 3) := by decide +kernel
theorem d_M_takeSimple_99 : decode b_M_takeSimple 99 = .ok (.iload 4, 2) := by decide +kernel
theorem d_M_takeSimple_101 : decode b_M_takeSimple 101 = .ok (.iload 4, 2) := by decide +kernel
theorem d_M_takeSimple_103 : decode b_M_takeSimple 103 = .ok (.iastore, 1) := by decide +kernel
theorem d_M_takeSimple_104 : decode b_M_takeSimple 104 = .ok (.iinc 4 1, 3) := by decide +kernel
theorem d_M_takeSimple_107 : decode b_M_takeSimple 107 = .ok (.goto (-18), 3) := by decide +kernel
theorem d_M_takeSimple_110 : decode b_M_takeSimple 110 = .ok (.aload_n 0, 1) := by decide +kernel
theorem d_M_takeSimple_111 : decode b_M_takeSimple 111 = .ok (.iconst 0, 1) := by decide +kernel
theorem d_M_takeSimple_112 : decode b_M_takeSimple 112 = .ok (.putfield 105, 3) := by decide +kernel
theorem d_M_takeSimple_115 : decode b_M_takeSimple 115 = .ok (.aload_n 0, 1) := by decide +kernel
theorem d_M_takeSimple_116 : decode b_M_takeSimple 116 = .ok (.getfield 22, 3) := by decide +kernel
theorem d_M_takeSimple_119 : decode b_M_takeSimple 119 = .ok (.iconst 0, 1) := by decide +kernel
theorem d_M_takeSimple_120 : decode b_M_takeSimple 120 = .ok (.iaload, 1) := by decide +kernel
theorem d_M_takeSimple_121 : decode b_M_takeSimple 121 = .ok (.istore 4, 2) := by decide +kernel
theorem d_M_takeSimple_123 : decode b_M_takeSimple 123 = .ok (.iload 4, 2) := by decide +kernel
theorem d_M_takeSimple_125 : decode b_M_takeSimple 125 = .ok (.iconst 1, 1) := by decide +kernel
theorem d_M_takeSimple_126 : decode b_M_takeSimple 126 = .ok (.if_icmp .eq 91, 3) := by decide +kernel
theorem d_M_takeSimple_129 : decode b_M_takeSimple 129 = .ok (.aload_n 0, 1) := by decide +kernel
theorem d_M_takeSimple_130 : decode b_M_takeSimple 130 = .ok (.getfield 19, 3) := by decide +kernel
theorem d_M_takeSimple_133 : decode b_M_takeSimple 133 = .ok (.iload 4, 2) := by decide +kernel
theorem d_M_takeSimple_135 : decode b_M_takeSimple 135 = .ok (.iaload, 1) := by decide +kernel
theorem d_M_takeSimple_136 : decode b_M_takeSimple 136 = .ok (.istore 5, 2) := by decide +kernel
theorem d_M_takeSimple_138 : decode b_M_takeSimple 138 = .ok (.iload 5, 2) := by decide +kernel
theorem d_M_takeSimple_140 : decode b_M_takeSimple 140 = .ok (.ifCond .ge 44, 3) := by decide +kernel
theorem d_M_takeSimple_143 : decode b_M_takeSimple 143 = .ok (.aload_n 0, 1) := by decide +kernel
theorem d_M_takeSimple_144 : decode b_M_takeSimple 144 = .ok (.getfield 31, 3) := by decide +kernel
theorem d_M_takeSimple_147 : decode b_M_takeSimple 147 = .ok (.iload 5, 2) := by decide +kernel
theorem d_M_takeSimple_149 : decode b_M_takeSimple 149 = .ok (.ineg, 1) := by decide +kernel
theorem d_M_takeSimple_150 : decode b_M_takeSimple 150 = .ok (.iaload, 1) := by decide +kernel
theorem d_M_takeSimple_151 : decode b_M_takeSimple 151 = .ok (.istore 6, 2) := by decide +kernel
theorem d_M_takeSimple_153 : decode b_M_takeSimple 153 = .ok (.aload_n 0, 1) := by decide +kernel
theorem d_M_takeSimple_154 : decode b_M_takeSimple 154 = .ok (.getfield 31, 3) := by decide +kernel
theorem d_M_takeSimple_157 : decode b_M_takeSimple 157 = .ok (.iload 5, 2) := by decide +kernel
theorem d_M_takeSimple_159 : decode b_M_takeSimple 159 = .ok (.ineg, 1) := by decide +kernel
theorem d_M_takeSimple_160 : decode b_M_takeSimple 160 = .ok (.aload_n 0, 1) := by decide +kernel
theorem d_M_takeSimple_161 : decode b_M_takeSimple 161 = .ok (.getfield 31, 3) := by decide +kernel
theorem d_M_takeSimple_164 : decode b_M_takeSimple 164 = .ok (.iconst 1, 1) := by decide +kernel
theorem d_M_takeSimple_165 : decode b_M_takeSimple 165 = .ok (.iload 5, 2) := by decide +kernel
theorem d_M_takeSimple_167 : decode b_M_takeSimple 167 = .ok (.isub, 1) := by decide +kernel
theorem d_M_takeSimple_168 : decode b_M_takeSimple 168 = .ok (.iaload, 1) := by decide +kernel
theorem d_M_takeSimple_169 : decode b_M_takeSimple 169 = .ok (.iastore, 1) := by decide +kernel
theorem d_M_takeSimple_170 : decode b_M_takeSimple 170 = .ok (.aload_n 0, 1) := by decide +kernel
theorem d_M_takeSimple_171 : decode b_M_takeSimple 171 = .ok (.getfield 31, 3) := by decide +kernel
theorem d_M_takeSimple_174 : decode b_M_takeSimple 174 = .ok (.iconst 1, 1) := by decide +kernel
theorem d_M_takeSimple_175 : decode b_M_takeSimple 175 = .ok (.iload 5, 2) := by decide +kernel
theorem d_M_takeSimple_177 : decode b_M_takeSimple 177 = .ok (.isub, 1) := by decide +kernel
theorem d_M_takeSimple_178 : decode b_M_takeSimple 178 = .ok (.iload 6, 2) := by decide +kernel
theorem d_M_takeSimple_180 : decode b_M_takeSimple 180 = .ok (.iastore, 1) := by decide +kernel
theorem d_M_takeSimple_181 : decode b_M_takeSimple 181 = .ok (.goto 24, 3) := by decide +kernel
theorem d_M_takeSimple_184 : decode b_M_takeSimple 184 = .ok (.aload_n 0, 1) := by decide +kernel
theorem d_M_takeSimple_185 : decode b_M_takeSimple 185 = .ok (.getfield 28, 3) := by decide +kernel
theorem d_M_takeSimple_188 : decode b_M_takeSimple 188 = .ok (.aload_n 0, 1) := by decide +kernel
theorem d_M_takeSimple_189 : decode b_M_takeSimple 189 = .ok (.getfield 105, 3) := by decide +kernel
theorem d_M_takeSimple_192 : decode b_M_takeSimple 192 = .ok (.iload 5, 2) := by decide +kernel
theorem d_M_takeSimple_194 : decode b_M_takeSimple 194 = .ok (.iastore, 1) := by decide +kernel
theorem d_M_takeSimple_195 : decode b_M_takeSimple 195 = .ok (.aload_n 0, 1) := by decide +kernel
theorem d_M_takeSimple_196 : decode b_M_takeSimple 196 = .ok (.dup, 1) := by decide +kernel
theorem d_M_takeSimple_197 : decode b_M_takeSimple 197 = .ok (.getfield 105, 3) := by decide +kernel
theorem d_M_takeSimple_200 : decode b_M_takeSimple 200 = .ok (.iconst 1, 1) := by decide +kernel
theorem d_M_takeSimple_201 : decode b_M_takeSimple 201 = .ok (.iadd, 1) := by decide +kernel
theorem d_M_takeSimple_202 : decode b_M_takeSimple 202 = .ok (.putfield 105, 3) := by decide +kernel
theorem d_M_takeSimple_205 : decode b_M_takeSimple 205 = .ok (.aload_n 0, 1) := by decide +kernel
theorem d_M_takeSimple_206 : decode b_M_takeSimple 206 = .ok (.getfield 22, 3) := by decide +kernel
theorem d_M_takeSimple_209 : decode b_M_takeSimple 209 = .ok (.iload 4, 2) := by decide +kernel
theorem d_M_takeSimple_211 : decode b_M_takeSimple 211 = .ok (.iaload, 1) := by decide +kernel
theorem d_M_takeSimple_212 : decode b_M_takeSimple 212 = .ok (.istore 4, 2) := by decide +kernel
theorem d_M_takeSimple_214 : decode b_M_takeSimple 214 = .ok (.goto (-91), 3) := by decide +kernel
theorem d_M_takeSimple_217 : decode b_M_takeSimple 217 = .ok (.iconst 1, 1) := by decide +kernel
theorem d_M_takeSimple_218 : decode b_M_takeSimple 218 = .ok (.istore 4, 2) := by decide +kernel
theorem d_M_takeSimple_220 : decode b_M_takeSimple 220 = .ok (.iload 4, 2) := by decide +kernel
theorem d_M_takeSimple_222 : decode b_M_takeSimple 222 = .ok (.iload_n 1, 1) := by decide +kernel
theorem d_M_takeSimple_223 : decode b_M_takeSimple 223 = .ok (.if_icmp .gt 27, 3) := by decide +kernel
theorem d_M_takeSimple_226 : decode b_M_takeSimple 226 = .ok (.aload_n 0, 1) := by decide +kernel
theorem d_M_takeSimple_227 : decode b_M_takeSimple 227 = .ok (.getfield 34, 3) := by decide +kernel
theorem d_M_takeSimple_230 : decode b_M_takeSimple 230 = .ok (.iload_n 1, 1) := by decide +kernel
theorem d_M_takeSimple_231 : decode b_M_takeSimple 231 = .ok (.iconst 1, 1) := by decide +kernel
theorem d_M_takeSimple_232 : decode b_M_takeSimple 232 = .ok (.iadd, 1) := by decide +kernel
theorem d_M_takeSimple_233 : decode b_M_takeSimple 233 = .ok (.aload_n 0, 1) := by decide +kernel
theorem d_M_takeSimple_234 : decode b_M_takeSimple 234 = .ok (.getfield 31, 3) := by decide +kernel
theorem d_M_takeSimple_237 : decode b_M_takeSimple 237 = .ok (.iload 4, 2) := by decide +kernel
theorem d_M_takeSimple_239 : decode b_M_takeSimple 239 = .ok (.iaload, 1) := by decide +kernel
theorem d_M_takeSimple_240 : decode b_M_takeSimple 240 = .ok (.isub, 1) := by decide +kernel
theorem d_M_takeSimple_241 : decode b_M_takeSimple 241 = .ok (.iload 4, 2) := by decide +kernel
theorem d_M_takeSimple_243 : decode b_M_takeSimple 243 = .ok (.iastore, 1) := by decide +kernel
theorem d_M_takeSimple_244 : decode b_M_takeSimple 244 = .ok (.iinc 4 1, 3) := by decide +kernel
theorem d_M_takeSimple_247 : decode b_M_takeSimple 247 = .ok (.goto (-27), 3) := by decide +kernel
theorem d_M_takeSimple_250 : decode b_M_takeSimple 250 = .ok (.return_, 1) := by decide +kernel
theorem d_M_know_0 : decode b_M_know 0 = .ok (.aload_n 0, 1) := by decide +kernel
theorem d_M_know_1 : decode b_M_know 1 = .ok (.getfield 37, 3) := by decide +kernel
theorem d_M_know_4 : decode b_M_know 4 = .ok (.iload_n 1, 1) := by decide +kernel
theorem d_M_know_5 : decode b_M_know 5 = .ok (.baload, 1) := by decide +kernel
theorem d_M_know_6 : decode b_M_know 6 = .ok (.ifCond .eq 4, 3) := by decide +kernel
theorem d_M_know_9 : decode b_M_know 9 = .ok (.return_, 1) := by decide +kernel
theorem d_M_know_10 : decode b_M_know 10 = .ok (.aload_n 0, 1) := by decide +kernel
theorem d_M_know_11 : decode b_M_know 11 = .ok (.getfield 37, 3) := by decide +kernel
theorem d_M_know_14 : decode b_M_know 14 = .ok (.iload_n 1, 1) := by decide +kernel
theorem d_M_know_15 : decode b_M_know 15 = .ok (.iconst 1, 1) := by decide +kernel
theorem d_M_know_16 : decode b_M_know 16 = .ok (.bastore, 1) := by decide +kernel
theorem d_M_know_17 : decode b_M_know 17 = .ok (.aload_n 0, 1) := by decide +kernel
theorem d_M_know_18 : decode b_M_know 18 = .ok (.getfield 7, 3) := by decide +kernel
theorem d_M_know_21 : decode b_M_know 21 = .ok (.iload_n 1, 1) := by decide +kernel
theorem d_M_know_22 : decode b_M_know 22 = .ok (.iaload, 1) := by decide +kernel
theorem d_M_know_23 : decode b_M_know 23 = .ok (.istore_n 2, 1) := by decide +kernel
theorem d_M_know_24 : decode b_M_know 24 = .ok (.aload_n 0, 1) := by decide +kernel
theorem d_M_know_25 : decode b_M_know 25 = .ok (.iload_n 1, 1) := by decide +kernel
theorem d_M_know_26 : decode b_M_know 26 = .ok (.invokevirtual 123, 3) := by decide +kernel
theorem d_M_know_29 : decode b_M_know 29 = .ok (.aload_n 0, 1) := by decide +kernel
theorem d_M_know_30 : decode b_M_know 30 = .ok (.getfield 44, 3) := by decide +kernel
theorem d_M_know_33 : decode b_M_know 33 = .ok (.iload_n 1, 1) := by decide +kernel
theorem d_M_know_34 : decode b_M_know 34 = .ok (.iconst 0, 1) := by decide +kernel
theorem d_M_know_35 : decode b_M_know 35 = .ok (.iastore, 1) := by decide +kernel
theorem d_M_know_36 : decode b_M_know 36 = .ok (.aload_n 0, 1) := by decide +kernel
theorem d_M_know_37 : decode b_M_know 37 = .ok (.getfield 105, 3) := by decide +kernel
theorem d_M_know_40 : decode b_M_know 40 = .ok (.ifCond .le 126, 3) := by decide +kernel
theorem d_M_know_43 : decode b_M_know 43 = .ok (.aload_n 0, 1) := by decide +kernel
theorem d_M_know_44 : decode b_M_know 44 = .ok (.iload_n 2, 1) := by decide +kernel
theorem d_M_know_45 : decode b_M_know 45 = .ok (.invokevirtual 126, 3) := by decide +kernel
theorem d_M_know_48 : decode b_M_know 48 = .ok (.iconst 1, 1) := by decide +kernel
theorem d_M_know_49 : decode b_M_know 49 = .ok (.istore_n 3, 1) := by decide +kernel
theorem d_M_know_50 : decode b_M_know 50 = .ok (.iconst 1, 1) := by decide +kernel
theorem d_M_know_51 : decode b_M_know 51 = .ok (.istore 4, 2) := by decide +kernel
theorem d_M_know_53 : decode b_M_know 53 = .ok (.iload 4, 2) := by decide +kernel
theorem d_M_know_55 : decode b_M_know 55 = .ok (.iload_n 2, 1) := by decide +kernel
theorem d_M_know_56 : decode b_M_know 56 = .ok (.if_icmp .gt 35, 3) := by decide +kernel
theorem d_M_know_59 : decode b_M_know 59 = .ok (.iload_n 3, 1) := by decide +kernel
theorem d_M_know_60 : decode b_M_know 60 = .ok (.ifCond .eq 23, 3) := by decide +kernel
theorem d_M_know_63 : decode b_M_know 63 = .ok (.aload_n 0, 1) := by decide +kernel
theorem d_M_know_64 : decode b_M_know 64 = .ok (.getfield 34, 3) := by decide +kernel
theorem d_M_know_67 : decode b_M_know 67 = .ok (.iload 4, 2) := by decide +kernel
theorem d_M_know_69 : decode b_M_know 69 = .ok (.iaload, 1) := by decide +kernel
theorem d_M_know_70 : decode b_M_know 70 = .ok (.iload_n 2, 1) := by decide +kernel
theorem d_M_know_71 : decode b_M_know 71 = .ok (.iconst 1, 1) := by decide +kernel
theorem d_M_know_72 : decode b_M_know 72 = .ok (.iadd, 1) := by decide +kernel
theorem d_M_know_73 : decode b_M_know 73 = .ok (.iload 4, 2) := by decide +kernel
theorem d_M_know_75 : decode b_M_know 75 = .ok (.isub, 1) := by decide +kernel
theorem d_M_know_76 : decode b_M_know 76 = .ok (.if_icmp .ne 7, 3) := by decide +kernel
theorem d_M_know_79 : decode b_M_know 79 = .ok (.iconst 1, 1) := by decide +kernel
theorem d_M_know_80 : decode b_M_know 80 = .ok (.goto 4, 3) := by decide +kernel
theorem d_M_know_83 : decode b_M_know 83 = .ok (.iconst 0, 1) := by decide +kernel
theorem d_M_know_84 : decode b_M_know 84 = .ok (.istore_n 3, 1) := by decide +kernel
theorem d_M_know_85 : decode b_M_know 85 = .ok (.iinc 4 1, 3) := by decide +kernel
theorem d_M_know_88 : decode b_M_know 88 = .ok (.goto (-35), 3) := by decide +kernel
theorem d_M_know_91 : decode b_M_know 91 = .ok (.iload_n 3, 1) := by decide +kernel
theorem d_M_know_92 : decode b_M_know 92 = .ok (.ifCond .eq 16, 3) := by decide +kernel
theorem d_M_know_95 : decode b_M_know 95 = .ok (.aload_n 0, 1) := by decide +kernel
theorem d_M_know_96 : decode b_M_know 96 = .ok (.getfield 41, 3) := by decide +kernel
theorem d_M_know_99 : decode b_M_know 99 = .ok (.iload_n 1, 1) := by decide +kernel
theorem d_M_know_100 : decode b_M_know 100 = .ok (.dup2, 1) := by decide +kernel
theorem d_M_know_101 : decode b_M_know 101 = .ok (.iaload, 1) := by decide +kernel
theorem d_M_know_102 : decode b_M_know 102 = .ok (.iconst 1, 1) := by decide +kernel
theorem d_M_know_103 : decode b_M_know 103 = .ok (.iadd, 1) := by decide +kernel
theorem d_M_know_104 : decode b_M_know 104 = .ok (.iastore, 1) := by decide +kernel
theorem d_M_know_105 : decode b_M_know 105 = .ok (.goto 58, 3) := by decide +kernel
theorem d_M_know_108 : decode b_M_know 108 = .ok (.iconst 1, 1) := by decide +kernel
theorem d_M_know_109 : decode b_M_know 109 = .ok (.istore 4, 2) := by decide +kernel
theorem d_M_know_111 : decode b_M_know 111 = .ok (.iload 4, 2) := by decide +kernel
theorem d_M_know_113 : decode b_M_know 113 = .ok (.iload_n 2, 1) := by decide +kernel
theorem d_M_know_114 : decode b_M_know 114 = .ok (.if_icmp .gt 39, 3) := by decide +kernel
theorem d_M_know_117 : decode b_M_know 117 = .ok (.aload_n 0, 1) := by decide +kernel
theorem d_M_know_118 : decode b_M_know 118 = .ok (.getfield 47, 3) := by decide +kernel
theorem d_M_know_121 : decode b_M_know 121 = .ok (.sipush 576, 3) := by decide +kernel
theorem d_M_know_124 : decode b_M_know 124 = .ok (.iload_n 1, 1) := by decide +kernel
theorem d_M_know_125 : decode b_M_know 125 = .ok (.imul, 1) := by decide +kernel
theorem d_M_know_126 : decode b_M_know 126 = .ok (.bipush 9, 2) := by decide +kernel
theorem d_M_know_128 : decode b_M_know 128 = .ok (.aload_n 0, 1) := by decide +kernel
theorem d_M_know_129 : decode b_M_know 129 = .ok (.getfield 44, 3) := by decide +kernel
theorem d_M_know_132 : decode b_M_know 132 = .ok (.iload_n 1, 1) := by decide +kernel
theorem d_M_know_133 : decode b_M_know 133 = .ok (.iaload, 1) := by decide +kernel
theorem d_M_know_134 : decode b_M_know 134 = .ok (.imul, 1) := by decide +kernel
theorem d_M_know_135 : decode b_M_know 135 = .ok (.iadd, 1) := by decide +kernel
theorem d_M_know_136 : decode b_M_know 136 = .ok (.iload 4, 2) := by decide +kernel
theorem d_M_know_138 : decode b_M_know 138 = .ok (.iadd, 1) := by decide +kernel
theorem d_M_know_139 : decode b_M_know 139 = .ok (.aload_n 0, 1) := by decide +kernel
theorem d_M_know_140 : decode b_M_know 140 = .ok (.getfield 34, 3) := by decide +kernel
theorem d_M_know_143 : decode b_M_know 143 = .ok (.iload 4, 2) := by decide +kernel
theorem d_M_know_145 : decode b_M_know 145 = .ok (.iaload, 1) := by decide +kernel
theorem d_M_know_146 : decode b_M_know 146 = .ok (.iastore, 1) := by decide +kernel
theorem d_M_know_147 : decode b_M_know 147 = .ok (.iinc 4 1, 3) := by decide +kernel
theorem d_M_know_150 : decode b_M_know 150 = .ok (.goto (-39), 3) := by decide +kernel
theorem d_M_know_153 : decode b_M_know 153 = .ok (.aload_n 0, 1) := by decide +kernel
theorem d_M_know_154 : decode b_M_know 154 = .ok (.getfield 44, 3) := by decide +kernel
theorem d_M_know_157 : decode b_M_know 157 = .ok (.iload_n 1, 1) := by decide +kernel
theorem d_M_know_158 : decode b_M_know 158 = .ok (.dup2, 1) := by decide +kernel
theorem d_M_know_159 : decode b_M_know 159 = .ok (.iaload, 1) := by decide +kernel
theorem d_M_know_160 : decode b_M_know 160 = .ok (.iconst 1, 1) := by decide +kernel
theorem d_M_know_161 : decode b_M_know 161 = .ok (.iadd, 1) := by decide +kernel
theorem d_M_know_162 : decode b_M_know 162 = .ok (.iastore, 1) := by decide +kernel
theorem d_M_know_163 : decode b_M_know 163 = .ok (.goto (-127), 3) := by decide +kernel
theorem d_M_know_166 : decode b_M_know 166 = .ok (.return_, 1) := by decide +kernel
theorem d_M_same_0 : decode b_M_same 0 = .ok (.iload_n 1, 1) := by decide +kernel
theorem d_M_same_1 : decode b_M_same 1 = .ok (.invokestatic 60, 3) := by decide +kernel
theorem d_M_same_4 : decode b_M_same 4 = .ok (.ifCond .eq 25, 3) := by decide +kernel
theorem d_M_same_7 : decode b_M_same 7 = .ok (.iload_n 2, 1) := by decide +kernel
theorem d_M_same_8 : decode b_M_same 8 = .ok (.invokestatic 60, 3) := by decide +kernel
theorem d_M_same_11 : decode b_M_same 11 = .ok (.ifCond .eq 18, 3) := by decide +kernel
theorem d_M_same_14 : decode b_M_same 14 = .ok (.aload_n 0, 1) := by decide +kernel
theorem d_M_same_15 : decode b_M_same 15 = .ok (.getfield 7, 3) := by decide +kernel
theorem d_M_same_18 : decode b_M_same 18 = .ok (.iload_n 1, 1) := by decide +kernel
theorem d_M_same_19 : decode b_M_same 19 = .ok (.iaload, 1) := by decide +kernel
theorem d_M_same_20 : decode b_M_same 20 = .ok (.aload_n 0, 1) := by decide +kernel
theorem d_M_same_21 : decode b_M_same 21 = .ok (.getfield 7, 3) := by decide +kernel
theorem d_M_same_24 : decode b_M_same 24 = .ok (.iload_n 2, 1) := by decide +kernel
theorem d_M_same_25 : decode b_M_same 25 = .ok (.iaload, 1) := by decide +kernel
theorem d_M_same_26 : decode b_M_same 26 = .ok (.if_icmp .eq 5, 3) := by decide +kernel
theorem d_M_same_29 : decode b_M_same 29 = .ok (.iconst 0, 1) := by decide +kernel
theorem d_M_same_30 : decode b_M_same 30 = .ok (.ireturn, 1) := by decide +kernel
theorem d_M_same_31 : decode b_M_same 31 = .ok (.aload_n 0, 1) := by decide +kernel
theorem d_M_same_32 : decode b_M_same 32 = .ok (.iload_n 1, 1) := by decide +kernel
theorem d_M_same_33 : decode b_M_same 33 = .ok (.invokevirtual 129, 3) := by decide +kernel
theorem d_M_same_36 : decode b_M_same 36 = .ok (.aload_n 0, 1) := by decide +kernel
theorem d_M_same_37 : decode b_M_same 37 = .ok (.iload_n 2, 1) := by decide +kernel
theorem d_M_same_38 : decode b_M_same 38 = .ok (.invokevirtual 129, 3) := by decide +kernel
theorem d_M_same_41 : decode b_M_same 41 = .ok (.aload_n 0, 1) := by decide +kernel
theorem d_M_same_42 : decode b_M_same 42 = .ok (.getfield 41, 3) := by decide +kernel
theorem d_M_same_45 : decode b_M_same 45 = .ok (.iload_n 1, 1) := by decide +kernel
theorem d_M_same_46 : decode b_M_same 46 = .ok (.iaload, 1) := by decide +kernel
theorem d_M_same_47 : decode b_M_same 47 = .ok (.aload_n 0, 1) := by decide +kernel
theorem d_M_same_48 : decode b_M_same 48 = .ok (.getfield 41, 3) := by decide +kernel
theorem d_M_same_51 : decode b_M_same 51 = .ok (.iload_n 2, 1) := by decide +kernel
theorem d_M_same_52 : decode b_M_same 52 = .ok (.iaload, 1) := by decide +kernel
theorem d_M_same_53 : decode b_M_same 53 = .ok (.if_icmp .ne 18, 3) := by decide +kernel
theorem d_M_same_56 : decode b_M_same 56 = .ok (.aload_n 0, 1) := by decide +kernel
theorem d_M_same_57 : decode b_M_same 57 = .ok (.getfield 44, 3) := by decide +kernel
theorem d_M_same_60 : decode b_M_same 60 = .ok (.iload_n 1, 1) := by decide +kernel
theorem d_M_same_61 : decode b_M_same 61 = .ok (.iaload, 1) := by decide +kernel
theorem d_M_same_62 : decode b_M_same 62 = .ok (.aload_n 0, 1) := by decide +kernel
theorem d_M_same_63 : decode b_M_same 63 = .ok (.getfield 44, 3) := by decide +kernel
theorem d_M_same_66 : decode b_M_same 66 = .ok (.iload_n 2, 1) := by decide +kernel
theorem d_M_same_67 : decode b_M_same 67 = .ok (.iaload, 1) := by decide +kernel
theorem d_M_same_68 : decode b_M_same 68 = .ok (.if_icmp .eq 5, 3) := by decide +kernel
theorem d_M_same_71 : decode b_M_same 71 = .ok (.iconst 0, 1) := by decide +kernel
theorem d_M_same_72 : decode b_M_same 72 = .ok (.ireturn, 1) := by decide +kernel
theorem d_M_same_73 : decode b_M_same 73 = .ok (.iconst 0, 1) := by decide +kernel
theorem d_M_same_74 : decode b_M_same 74 = .ok (.istore_n 3, 1) := by decide +kernel
theorem d_M_same_75 : decode b_M_same 75 = .ok (.iload_n 3, 1) := by decide +kernel
theorem d_M_same_76 : decode b_M_same 76 = .ok (.aload_n 0, 1) := by decide +kernel
theorem d_M_same_77 : decode b_M_same 77 = .ok (.getfield 44, 3) := by decide +kernel
theorem d_M_same_80 : decode b_M_same 80 = .ok (.iload_n 1, 1) := by decide +kernel
theorem d_M_same_81 : decode b_M_same 81 = .ok (.iaload, 1) := by decide +kernel
theorem d_M_same_82 : decode b_M_same 82 = .ok (.if_icmp .ge 70, 3) := by decide +kernel
theorem d_M_same_85 : decode b_M_same 85 = .ok (.iconst 1, 1) := by decide +kernel
theorem d_M_same_86 : decode b_M_same 86 = .ok (.istore 4, 2) := by decide +kernel
theorem d_M_same_88 : decode b_M_same 88 = .ok (.iload 4, 2) := by decide +kernel
theorem d_M_same_90 : decode b_M_same 90 = .ok (.aload_n 0, 1) := by decide +kernel
theorem d_M_same_91 : decode b_M_same 91 = .ok (.getfield 7, 3) := by decide +kernel
theorem d_M_same_94 : decode b_M_same 94 = .ok (.iload_n 1, 1) := by decide +kernel
theorem d_M_same_95 : decode b_M_same 95 = .ok (.iaload, 1) := by decide +kernel
theorem d_M_same_96 : decode b_M_same 96 = .ok (.if_icmp .gt 50, 3) := by decide +kernel
theorem d_M_same_99 : decode b_M_same 99 = .ok (.aload_n 0, 1) := by decide +kernel
theorem d_M_same_100 : decode b_M_same 100 = .ok (.getfield 47, 3) := by decide +kernel
theorem d_M_same_103 : decode b_M_same 103 = .ok (.sipush 576, 3) := by decide +kernel
theorem d_M_same_106 : decode b_M_same 106 = .ok (.iload_n 1, 1) := by decide +kernel
theorem d_M_same_107 : decode b_M_same 107 = .ok (.imul, 1) := by decide +kernel
theorem d_M_same_108 : decode b_M_same 108 = .ok (.bipush 9, 2) := by decide +kernel
theorem d_M_same_110 : decode b_M_same 110 = .ok (.iload_n 3, 1) := by decide +kernel
theorem d_M_same_111 : decode b_M_same 111 = .ok (.imul, 1) := by decide +kernel
theorem d_M_same_112 : decode b_M_same 112 = .ok (.iadd, 1) := by decide +kernel
theorem d_M_same_113 : decode b_M_same 113 = .ok (.iload 4, 2) := by decide +kernel
theorem d_M_same_115 : decode b_M_same 115 = .ok (.iadd, 1) := by decide +kernel
theorem d_M_same_116 : decode b_M_same 116 = .ok (.iaload, 1) := by decide +kernel
theorem d_M_same_117 : decode b_M_same 117 = .ok (.aload_n 0, 1) := by decide +kernel
theorem d_M_same_118 : decode b_M_same 118 = .ok (.getfield 47, 3) := by decide +kernel
theorem d_M_same_121 : decode b_M_same 121 = .ok (.sipush 576, 3) := by decide +kernel
theorem d_M_same_124 : decode b_M_same 124 = .ok (.iload_n 2, 1) := by decide +kernel
theorem d_M_same_125 : decode b_M_same 125 = .ok (.imul, 1) := by decide +kernel
theorem d_M_same_126 : decode b_M_same 126 = .ok (.bipush 9, 2) := by decide +kernel
theorem d_M_same_128 : decode b_M_same 128 = .ok (.iload_n 3, 1) := by decide +kernel
theorem d_M_same_129 : decode b_M_same 129 = .ok (.imul, 1) := by decide +kernel
theorem d_M_same_130 : decode b_M_same 130 = .ok (.iadd, 1) := by decide +kernel
theorem d_M_same_131 : decode b_M_same 131 = .ok (.iload 4, 2) := by decide +kernel
theorem d_M_same_133 : decode b_M_same 133 = .ok (.iadd, 1) := by decide +kernel
theorem d_M_same_134 : decode b_M_same 134 = .ok (.iaload, 1) := by decide +kernel
theorem d_M_same_135 : decode b_M_same 135 = .ok (.if_icmp .eq 5, 3) := by decide +kernel
theorem d_M_same_138 : decode b_M_same 138 = .ok (.iconst 0, 1) := by decide +kernel
theorem d_M_same_139 : decode b_M_same 139 = .ok (.ireturn, 1) := by decide +kernel
theorem d_M_same_140 : decode b_M_same 140 = .ok (.iinc 4 1, 3) := by decide +kernel
theorem d_M_same_143 : decode b_M_same 143 = .ok (.goto (-55), 3) := by decide +kernel
theorem d_M_same_146 : decode b_M_same 146 = .ok (.iinc 3 1, 3) := by decide +kernel
theorem d_M_same_149 : decode b_M_same 149 = .ok (.goto (-74), 3) := by decide +kernel
theorem d_M_same_152 : decode b_M_same 152 = .ok (.iconst 1, 1) := by decide +kernel
theorem d_M_same_153 : decode b_M_same 153 = .ok (.ireturn, 1) := by decide +kernel
theorem d_M_form_0 : decode b_M_form 0 = .ok (.iload_n 1, 1) := by decide +kernel
theorem d_M_form_1 : decode b_M_form 1 = .ok (.invokestatic 60, 3) := by decide +kernel
theorem d_M_form_4 : decode b_M_form 4 = .ok (.ifCond .ne 5, 3) := by decide +kernel
theorem d_M_form_7 : decode b_M_form 7 = .ok (.iconst 0, 1) := by decide +kernel
theorem d_M_form_8 : decode b_M_form 8 = .ok (.ireturn, 1) := by decide +kernel
theorem d_M_form_9 : decode b_M_form 9 = .ok (.aload_n 0, 1) := by decide +kernel
theorem d_M_form_10 : decode b_M_form 10 = .ok (.iload_n 1, 1) := by decide +kernel
theorem d_M_form_11 : decode b_M_form 11 = .ok (.invokevirtual 129, 3) := by decide +kernel
theorem d_M_form_14 : decode b_M_form 14 = .ok (.iload_n 2, 1) := by decide +kernel
theorem d_M_form_15 : decode b_M_form 15 = .ok (.ifCond .ne 10, 3) := by decide +kernel
theorem d_M_form_18 : decode b_M_form 18 = .ok (.aload_n 0, 1) := by decide +kernel
theorem d_M_form_19 : decode b_M_form 19 = .ok (.getfield 41, 3) := by decide +kernel
theorem d_M_form_22 : decode b_M_form 22 = .ok (.iload_n 1, 1) := by decide +kernel
theorem d_M_form_23 : decode b_M_form 23 = .ok (.iaload, 1) := by decide +kernel
theorem d_M_form_24 : decode b_M_form 24 = .ok (.ireturn, 1) := by decide +kernel
theorem d_M_form_25 : decode b_M_form 25 = .ok (.iload_n 2, 1) := by decide +kernel
theorem d_M_form_26 : decode b_M_form 26 = .ok (.ifCond .lt 28, 3) := by decide +kernel
theorem d_M_form_29 : decode b_M_form 29 = .ok (.iload_n 2, 1) := by decide +kernel
theorem d_M_form_30 : decode b_M_form 30 = .ok (.aload_n 0, 1) := by decide +kernel
theorem d_M_form_31 : decode b_M_form 31 = .ok (.getfield 44, 3) := by decide +kernel
theorem d_M_form_34 : decode b_M_form 34 = .ok (.iload_n 1, 1) := by decide +kernel
theorem d_M_form_35 : decode b_M_form 35 = .ok (.iaload, 1) := by decide +kernel
theorem d_M_form_36 : decode b_M_form 36 = .ok (.if_icmp .gt 18, 3) := by decide +kernel
theorem d_M_form_39 : decode b_M_form 39 = .ok (.iload_n 3, 1) := by decide +kernel
theorem d_M_form_40 : decode b_M_form 40 = .ok (.iconst 1, 1) := by decide +kernel
theorem d_M_form_41 : decode b_M_form 41 = .ok (.if_icmp .lt 13, 3) := by decide +kernel
theorem d_M_form_44 : decode b_M_form 44 = .ok (.iload_n 3, 1) := by decide +kernel
theorem d_M_form_45 : decode b_M_form 45 = .ok (.aload_n 0, 1) := by decide +kernel
theorem d_M_form_46 : decode b_M_form 46 = .ok (.getfield 7, 3) := by decide +kernel
theorem d_M_form_49 : decode b_M_form 49 = .ok (.iload_n 1, 1) := by decide +kernel
theorem d_M_form_50 : decode b_M_form 50 = .ok (.iaload, 1) := by decide +kernel
theorem d_M_form_51 : decode b_M_form 51 = .ok (.if_icmp .le 7, 3) := by decide +kernel
theorem d_M_form_54 : decode b_M_form 54 = .ok (.iconst 0, 1) := by decide +kernel
theorem d_M_form_55 : decode b_M_form 55 = .ok (.goto 22, 3) := by decide +kernel
theorem d_M_form_58 : decode b_M_form 58 = .ok (.aload_n 0, 1) := by decide +kernel
theorem d_M_form_59 : decode b_M_form 59 = .ok (.getfield 47, 3) := by decide +kernel
theorem d_M_form_62 : decode b_M_form 62 = .ok (.sipush 576, 3) := by decide +kernel
theorem d_M_form_65 : decode b_M_form 65 = .ok (.iload_n 1, 1) := by decide +kernel
theorem d_M_form_66 : decode b_M_form 66 = .ok (.imul, 1) := by decide +kernel
theorem d_M_form_67 : decode b_M_form 67 = .ok (.bipush 9, 2) := by decide +kernel
theorem d_M_form_69 : decode b_M_form 69 = .ok (.iload_n 2, 1) := by decide +kernel
theorem d_M_form_70 : decode b_M_form 70 = .ok (.iconst 1, 1) := by decide +kernel
theorem d_M_form_71 : decode b_M_form 71 = .ok (.isub, 1) := by decide +kernel
theorem d_M_form_72 : decode b_M_form 72 = .ok (.imul, 1) := by decide +kernel
theorem d_M_form_73 : decode b_M_form 73 = .ok (.iadd, 1) := by decide +kernel
theorem d_M_form_74 : decode b_M_form 74 = .ok (.iload_n 3, 1) := by decide +kernel
theorem d_M_form_75 : decode b_M_form 75 = .ok (.iadd, 1) := by decide +kernel
theorem d_M_form_76 : decode b_M_form 76 = .ok (.iaload, 1) := by decide +kernel
theorem d_M_form_77 : decode b_M_form 77 = .ok (.ireturn, 1) := by decide +kernel
theorem d_M_length_0 : decode b_M_length 0 = .ok (.iload_n 1, 1) := by decide +kernel
theorem d_M_length_1 : decode b_M_length 1 = .ok (.invokestatic 60, 3) := by decide +kernel
theorem d_M_length_4 : decode b_M_length 4 = .ok (.ifCond .ne 5, 3) := by decide +kernel
theorem d_M_length_7 : decode b_M_length 7 = .ok (.iconst (-1), 1) := by decide +kernel
theorem d_M_length_8 : decode b_M_length 8 = .ok (.ireturn, 1) := by decide +kernel
theorem d_M_length_9 : decode b_M_length 9 = .ok (.aload_n 0, 1) := by decide +kernel
theorem d_M_length_10 : decode b_M_length 10 = .ok (.iload_n 1, 1) := by decide +kernel
theorem d_M_length_11 : decode b_M_length 11 = .ok (.invokevirtual 129, 3) := by decide +kernel
theorem d_M_length_14 : decode b_M_length 14 = .ok (.aload_n 0, 1) := by decide +kernel
theorem d_M_length_15 : decode b_M_length 15 = .ok (.getfield 44, 3) := by decide +kernel
theorem d_M_length_18 : decode b_M_length 18 = .ok (.iload_n 1, 1) := by decide +kernel
theorem d_M_length_19 : decode b_M_length 19 = .ok (.iaload, 1) := by decide +kernel
theorem d_M_length_20 : decode b_M_length 20 = .ok (.ireturn, 1) := by decide +kernel
theorem d_M_close_0 : decode b_M_close 0 = .ok (.aload_n 0, 1) := by decide +kernel
theorem d_M_close_1 : decode b_M_close 1 = .ok (.getfield 7, 3) := by decide +kernel
theorem d_M_close_4 : decode b_M_close 4 = .ok (.iload_n 1, 1) := by decide +kernel
theorem d_M_close_5 : decode b_M_close 5 = .ok (.iaload, 1) := by decide +kernel
theorem d_M_close_6 : decode b_M_close 6 = .ok (.istore_n 2, 1) := by decide +kernel
theorem d_M_close_7 : decode b_M_close 7 = .ok (.iconst 1, 1) := by decide +kernel
theorem d_M_close_8 : decode b_M_close 8 = .ok (.istore_n 3, 1) := by decide +kernel
theorem d_M_close_9 : decode b_M_close 9 = .ok (.iload_n 3, 1) := by decide +kernel
theorem d_M_close_10 : decode b_M_close 10 = .ok (.iload_n 2, 1) := by decide +kernel
theorem d_M_close_11 : decode b_M_close 11 = .ok (.if_icmp .gt 16, 3) := by decide +kernel
theorem d_M_close_14 : decode b_M_close 14 = .ok (.aload_n 0, 1) := by decide +kernel
theorem d_M_close_15 : decode b_M_close 15 = .ok (.getfield 50, 3) := by decide +kernel
theorem d_M_close_18 : decode b_M_close 18 = .ok (.iload_n 3, 1) := by decide +kernel
theorem d_M_close_19 : decode b_M_close 19 = .ok (.iload_n 3, 1) := by decide +kernel
theorem d_M_close_20 : decode b_M_close 20 = .ok (.iastore, 1) := by decide +kernel
theorem d_M_close_21 : decode b_M_close 21 = .ok (.iinc 3 1, 3) := by decide +kernel
theorem d_M_close_24 : decode b_M_close 24 = .ok (.goto (-15), 3) := by decide +kernel
theorem d_M_close_27 : decode b_M_close 27 = .ok (.iconst 0, 1) := by decide +kernel
theorem d_M_close_28 : decode b_M_close 28 = .ok (.istore_n 3, 1) := by decide +kernel
theorem d_M_close_29 : decode b_M_close 29 = .ok (.iload_n 3, 1) := by decide +kernel
theorem d_M_close_30 : decode b_M_close 30 = .ok (.aload_n 0, 1) := by decide +kernel
theorem d_M_close_31 : decode b_M_close 31 = .ok (.getfield 13, 3) := by decide +kernel
theorem d_M_close_34 : decode b_M_close 34 = .ok (.iload_n 1, 1) := by decide +kernel
theorem d_M_close_35 : decode b_M_close 35 = .ok (.iaload, 1) := by decide +kernel
theorem d_M_close_36 : decode b_M_close 36 = .ok (.if_icmp .ge 141, 3) := by decide +kernel
theorem d_M_close_39 : decode b_M_close 39 = .ok (.aload_n 0, 1) := by decide +kernel
theorem d_M_close_40 : decode b_M_close 40 = .ok (.iload_n 1, 1) := by decide +kernel
theorem d_M_close_41 : decode b_M_close 41 = .ok (.iload_n 3, 1) := by decide +kernel
theorem d_M_close_42 : decode b_M_close 42 = .ok (.invokevirtual 64, 3) := by decide +kernel
theorem d_M_close_45 : decode b_M_close 45 = .ok (.istore 4, 2) := by decide +kernel
theorem d_M_close_47 : decode b_M_close 47 = .ok (.iload 4, 2) := by decide +kernel
theorem d_M_close_49 : decode b_M_close 49 = .ok (.invokestatic 68, 3) := by decide +kernel
theorem d_M_close_52 : decode b_M_close 52 = .ok (.istore 5, 2) := by decide +kernel
theorem d_M_close_54 : decode b_M_close 54 = .ok (.iload_n 2, 1) := by decide +kernel
theorem d_M_close_55 : decode b_M_close 55 = .ok (.iconst 2, 1) := by decide +kernel
theorem d_M_close_56 : decode b_M_close 56 = .ok (.iload_n 3, 1) := by decide +kernel
theorem d_M_close_57 : decode b_M_close 57 = .ok (.imul, 1) := by decide +kernel
theorem d_M_close_58 : decode b_M_close 58 = .ok (.iadd, 1) := by decide +kernel
theorem d_M_close_59 : decode b_M_close 59 = .ok (.iconst 1, 1) := by decide +kernel
theorem d_M_close_60 : decode b_M_close 60 = .ok (.iadd, 1) := by decide +kernel
theorem d_M_close_61 : decode b_M_close 61 = .ok (.istore 6, 2) := by decide +kernel
theorem d_M_close_63 : decode b_M_close 63 = .ok (.iload 4, 2) := by decide +kernel
theorem d_M_close_65 : decode b_M_close 65 = .ok (.ifCond .le 7, 3) := by decide +kernel
theorem d_M_close_68 : decode b_M_close 68 = .ok (.iconst 0, 1) := by decide +kernel
theorem d_M_close_69 : decode b_M_close 69 = .ok (.goto 4, 3) := by decide +kernel
theorem d_M_close_72 : decode b_M_close 72 = .ok (.iconst 1, 1) := by decide +kernel
theorem d_M_close_73 : decode b_M_close 73 = .ok (.istore 7, 2) := by decide +kernel
theorem d_M_close_75 : decode b_M_close 75 = .ok (.aload_n 0, 1) := by decide +kernel
theorem d_M_close_76 : decode b_M_close 76 = .ok (.getfield 53, 3) := by decide +kernel
theorem d_M_close_79 : decode b_M_close 79 = .ok (.iconst 4, 1) := by decide +kernel
theorem d_M_close_80 : decode b_M_close 80 = .ok (.iload_n 3, 1) := by decide +kernel
theorem d_M_close_81 : decode b_M_close 81 = .ok (.imul, 1) := by decide +kernel
theorem d_M_close_82 : decode b_M_close 82 = .ok (.iload 7, 2) := by decide +kernel
theorem d_M_close_84 : decode b_M_close 84 = .ok (.iadd, 1) := by decide +kernel
theorem d_M_close_85 : decode b_M_close 85 = .ok (.aload_n 0, 1) := by decide +kernel
theorem d_M_close_86 : decode b_M_close 86 = .ok (.getfield 50, 3) := by decide +kernel
theorem d_M_close_89 : decode b_M_close 89 = .ok (.iload 5, 2) := by decide +kernel
theorem d_M_close_91 : decode b_M_close 91 = .ok (.iaload, 1) := by decide +kernel
theorem d_M_close_92 : decode b_M_close 92 = .ok (.iastore, 1) := by decide +kernel
theorem d_M_close_93 : decode b_M_close 93 = .ok (.aload_n 0, 1) := by decide +kernel
theorem d_M_close_94 : decode b_M_close 94 = .ok (.getfield 53, 3) := by decide +kernel
theorem d_M_close_97 : decode b_M_close 97 = .ok (.iconst 4, 1) := by decide +kernel
theorem d_M_close_98 : decode b_M_close 98 = .ok (.iload_n 3, 1) := by decide +kernel
theorem d_M_close_99 : decode b_M_close 99 = .ok (.imul, 1) := by decide +kernel
theorem d_M_close_100 : decode b_M_close 100 = .ok (.iload 7, 2) := by decide +kernel
theorem d_M_close_102 : decode b_M_close 102 = .ok (.iadd, 1) := by decide +kernel
theorem d_M_close_103 : decode b_M_close 103 = .ok (.iconst 1, 1) := by decide +kernel
theorem d_M_close_104 : decode b_M_close 104 = .ok (.iadd, 1) := by decide +kernel
theorem d_M_close_105 : decode b_M_close 105 = .ok (.iload 6, 2) := by decide +kernel
theorem d_M_close_107 : decode b_M_close 107 = .ok (.iastore, 1) := by decide +kernel
theorem d_M_close_108 : decode b_M_close 108 = .ok (.aload_n 0, 1) := by decide +kernel
theorem d_M_close_109 : decode b_M_close 109 = .ok (.getfield 53, 3) := by decide +kernel
theorem d_M_close_112 : decode b_M_close 112 = .ok (.iconst 4, 1) := by decide +kernel
theorem d_M_close_113 : decode b_M_close 113 = .ok (.iload_n 3, 1) := by decide +kernel
theorem d_M_close_114 : decode b_M_close 114 = .ok (.imul, 1) := by decide +kernel
theorem d_M_close_115 : decode b_M_close 115 = .ok (.iload 7, 2) := by decide +kernel
theorem d_M_close_117 : decode b_M_close 117 = .ok (.iadd, 1) := by decide +kernel
theorem d_M_close_118 : decode b_M_close 118 = .ok (.iconst 2, 1) := by decide +kernel
theorem d_M_close_119 : decode b_M_close 119 = .ok (.iadd, 1) := by decide +kernel
theorem d_M_close_120 : decode b_M_close 120 = .ok (.iload 6, 2) := by decide +kernel
theorem d_M_close_122 : decode b_M_close 122 = .ok (.iconst 1, 1) := by decide +kernel
theorem d_M_close_123 : decode b_M_close 123 = .ok (.iadd, 1) := by decide +kernel
theorem d_M_close_124 : decode b_M_close 124 = .ok (.iastore, 1) := by decide +kernel
theorem d_M_close_125 : decode b_M_close 125 = .ok (.aload_n 0, 1) := by decide +kernel
theorem d_M_close_126 : decode b_M_close 126 = .ok (.getfield 53, 3) := by decide +kernel
theorem d_M_close_129 : decode b_M_close 129 = .ok (.iconst 4, 1) := by decide +kernel
theorem d_M_close_130 : decode b_M_close 130 = .ok (.iload_n 3, 1) := by decide +kernel
theorem d_M_close_131 : decode b_M_close 131 = .ok (.imul, 1) := by decide +kernel
theorem d_M_close_132 : decode b_M_close 132 = .ok (.iload 7, 2) := by decide +kernel
theorem d_M_close_134 : decode b_M_close 134 = .ok (.iconst 3, 1) := by decide +kernel
theorem d_M_close_135 : decode b_M_close 135 = .ok (.iadd, 1) := by decide +kernel
theorem d_M_close_136 : decode b_M_close 136 = .ok (.iconst 4, 1) := by decide +kernel
theorem d_M_close_137 : decode b_M_close 137 = .ok (.irem, 1) := by decide +kernel
theorem d_M_close_138 : decode b_M_close 138 = .ok (.iadd, 1) := by decide +kernel
theorem d_M_close_139 : decode b_M_close 139 = .ok (.aload_n 0, 1) := by decide +kernel
theorem d_M_close_140 : decode b_M_close 140 = .ok (.getfield 50, 3) := by decide +kernel
theorem d_M_close_143 : decode b_M_close 143 = .ok (.iload 5, 2) := by decide +kernel
theorem d_M_close_145 : decode b_M_close 145 = .ok (.iconst 1, 1) := by decide +kernel
theorem d_M_close_146 : decode b_M_close 146 = .ok (.iadd, 1) := by decide +kernel
theorem d_M_close_147 : decode b_M_close 147 = .ok (.iaload, 1) := by decide +kernel
theorem d_M_close_148 : decode b_M_close 148 = .ok (.iastore, 1) := by decide +kernel
theorem d_M_close_149 : decode b_M_close 149 = .ok (.aload_n 0, 1) := by decide +kernel
theorem d_M_close_150 : decode b_M_close 150 = .ok (.getfield 50, 3) := by decide +kernel
theorem d_M_close_153 : decode b_M_close 153 = .ok (.iload 5, 2) := by decide +kernel
theorem d_M_close_155 : decode b_M_close 155 = .ok (.iload 6, 2) := by decide +kernel
theorem d_M_close_157 : decode b_M_close 157 = .ok (.iastore, 1) := by decide +kernel
theorem d_M_close_158 : decode b_M_close 158 = .ok (.aload_n 0, 1) := by decide +kernel
theorem d_M_close_159 : decode b_M_close 159 = .ok (.getfield 50, 3) := by decide +kernel
theorem d_M_close_162 : decode b_M_close 162 = .ok (.iload 5, 2) := by decide +kernel
theorem d_M_close_164 : decode b_M_close 164 = .ok (.iconst 1, 1) := by decide +kernel
theorem d_M_close_165 : decode b_M_close 165 = .ok (.iadd, 1) := by decide +kernel
theorem d_M_close_166 : decode b_M_close 166 = .ok (.iload 6, 2) := by decide +kernel
theorem d_M_close_168 : decode b_M_close 168 = .ok (.iconst 1, 1) := by decide +kernel
theorem d_M_close_169 : decode b_M_close 169 = .ok (.iadd, 1) := by decide +kernel
theorem d_M_close_170 : decode b_M_close 170 = .ok (.iastore, 1) := by decide +kernel
theorem d_M_close_171 : decode b_M_close 171 = .ok (.iinc 3 1, 3) := by decide +kernel
theorem d_M_close_174 : decode b_M_close 174 = .ok (.goto (-145), 3) := by decide +kernel
theorem d_M_close_177 : decode b_M_close 177 = .ok (.iconst 0, 1) := by decide +kernel
theorem d_M_close_178 : decode b_M_close 178 = .ok (.istore_n 3, 1) := by decide +kernel
theorem d_M_close_179 : decode b_M_close 179 = .ok (.iload_n 3, 1) := by decide +kernel
theorem d_M_close_180 : decode b_M_close 180 = .ok (.iconst 4, 1) := by decide +kernel
theorem d_M_close_181 : decode b_M_close 181 = .ok (.aload_n 0, 1) := by decide +kernel
theorem d_M_close_182 : decode b_M_close 182 = .ok (.getfield 13, 3) := by decide +kernel
theorem d_M_close_185 : decode b_M_close 185 = .ok (.iload_n 1, 1) := by decide +kernel
theorem d_M_close_186 : decode b_M_close 186 = .ok (.iaload, 1) := by decide +kernel
theorem d_M_close_187 : decode b_M_close 187 = .ok (.imul, 1) := by decide +kernel
theorem d_M_close_188 : decode b_M_close 188 = .ok (.if_icmp .ge 58, 3) := by decide +kernel
theorem d_M_close_191 : decode b_M_close 191 = .ok (.iconst 1, 1) := by decide +kernel
theorem d_M_close_192 : decode b_M_close 192 = .ok (.istore 4, 2) := by decide +kernel
theorem d_M_close_194 : decode b_M_close 194 = .ok (.iload 4, 2) := by decide +kernel
theorem d_M_close_196 : decode b_M_close 196 = .ok (.iload_n 2, 1) := by decide +kernel
theorem d_M_close_197 : decode b_M_close 197 = .ok (.if_icmp .gt 43, 3) := by decide +kernel
theorem d_M_close_200 : decode b_M_close 200 = .ok (.aload_n 0, 1) := by decide +kernel
theorem d_M_close_201 : decode b_M_close 201 = .ok (.getfield 53, 3) := by decide +kernel
theorem d_M_close_204 : decode b_M_close 204 = .ok (.iload_n 3, 1) := by decide +kernel
theorem d_M_close_205 : decode b_M_close 205 = .ok (.iaload, 1) := by decide +kernel
theorem d_M_close_206 : decode b_M_close 206 = .ok (.iload_n 2, 1) := by decide +kernel
theorem d_M_close_207 : decode b_M_close 207 = .ok (.if_icmp .le 27, 3) := by decide +kernel
theorem d_M_close_210 : decode b_M_close 210 = .ok (.aload_n 0, 1) := by decide +kernel
theorem d_M_close_211 : decode b_M_close 211 = .ok (.getfield 53, 3) := by decide +kernel
theorem d_M_close_214 : decode b_M_close 214 = .ok (.iload_n 3, 1) := by decide +kernel
theorem d_M_close_215 : decode b_M_close 215 = .ok (.iaload, 1) := by decide +kernel
theorem d_M_close_216 : decode b_M_close 216 = .ok (.aload_n 0, 1) := by decide +kernel
theorem d_M_close_217 : decode b_M_close 217 = .ok (.getfield 50, 3) := by decide +kernel
theorem d_M_close_220 : decode b_M_close 220 = .ok (.iload 4, 2) := by decide +kernel
theorem d_M_close_222 : decode b_M_close 222 = .ok (.iaload, 1) := by decide +kernel
theorem d_M_close_223 : decode b_M_close 223 = .ok (.if_icmp .ne 11, 3) := by decide +kernel
theorem d_M_close_226 : decode b_M_close 226 = .ok (.aload_n 0, 1) := by decide +kernel
theorem d_M_close_227 : decode b_M_close 227 = .ok (.getfield 53, 3) := by decide +kernel
theorem d_M_close_230 : decode b_M_close 230 = .ok (.iload_n 3, 1) := by decide +kernel
theorem d_M_close_231 : decode b_M_close 231 = .ok (.iload 4, 2) := by decide +kernel
theorem d_M_close_233 : decode b_M_close 233 = .ok (.iastore, 1) := by decide +kernel
theorem d_M_close_234 : decode b_M_close 234 = .ok (.iinc 4 1, 3) := by decide +kernel
theorem d_M_close_237 : decode b_M_close 237 = .ok (.goto (-43), 3) := by decide +kernel
theorem d_M_close_240 : decode b_M_close 240 = .ok (.iinc 3 1, 3) := by decide +kernel
theorem d_M_close_243 : decode b_M_close 243 = .ok (.goto (-64), 3) := by decide +kernel
theorem d_M_close_246 : decode b_M_close 246 = .ok (.return_, 1) := by decide +kernel
theorem d_M_crossing_0 : decode b_M_crossing 0 = .ok (.iload_n 1, 1) := by decide +kernel
theorem d_M_crossing_1 : decode b_M_crossing 1 = .ok (.invokestatic 60, 3) := by decide +kernel
theorem d_M_crossing_4 : decode b_M_crossing 4 = .ok (.ifCond .eq 26, 3) := by decide +kernel
theorem d_M_crossing_7 : decode b_M_crossing 7 = .ok (.iload_n 2, 1) := by decide +kernel
theorem d_M_crossing_8 : decode b_M_crossing 8 = .ok (.ifCond .lt 22, 3) := by decide +kernel
theorem d_M_crossing_11 : decode b_M_crossing 11 = .ok (.iload_n 2, 1) := by decide +kernel
theorem d_M_crossing_12 : decode b_M_crossing 12 = .ok (.aload_n 0, 1) := by decide +kernel
theorem d_M_crossing_13 : decode b_M_crossing 13 = .ok (.getfield 13, 3) := by decide +kernel
theorem d_M_crossing_16 : decode b_M_crossing 16 = .ok (.iload_n 1, 1) := by decide +kernel
theorem d_M_crossing_17 : decode b_M_crossing 17 = .ok (.iaload, 1) := by decide +kernel
theorem d_M_crossing_18 : decode b_M_crossing 18 = .ok (.if_icmp .ge 12, 3) := by decide +kernel
theorem d_M_crossing_21 : decode b_M_crossing 21 = .ok (.iload_n 3, 1) := by decide +kernel
theorem d_M_crossing_22 : decode b_M_crossing 22 = .ok (.ifCond .lt 8, 3) := by decide +kernel
theorem d_M_crossing_25 : decode b_M_crossing 25 = .ok (.iload_n 3, 1) := by decide +kernel
theorem d_M_crossing_26 : decode b_M_crossing 26 = .ok (.iconst 4, 1) := by decide +kernel
theorem d_M_crossing_27 : decode b_M_crossing 27 = .ok (.if_icmp .le 5, 3) := by decide +kernel
theorem d_M_crossing_30 : decode b_M_crossing 30 = .ok (.iconst 0, 1) := by decide +kernel
theorem d_M_crossing_31 : decode b_M_crossing 31 = .ok (.ireturn, 1) := by decide +kernel
theorem d_M_crossing_32 : decode b_M_crossing 32 = .ok (.iload_n 3, 1) := by decide +kernel
theorem d_M_crossing_33 : decode b_M_crossing 33 = .ok (.iconst 4, 1) := by decide +kernel
theorem d_M_crossing_34 : decode b_M_crossing 34 = .ok (.if_icmp .ne 18, 3) := by decide +kernel
theorem d_M_crossing_37 : decode b_M_crossing 37 = .ok (.aload_n 0, 1) := by decide +kernel
theorem d_M_crossing_38 : decode b_M_crossing 38 = .ok (.iload_n 1, 1) := by decide +kernel
theorem d_M_crossing_39 : decode b_M_crossing 39 = .ok (.iload_n 2, 1) := by decide +kernel
theorem d_M_crossing_40 : decode b_M_crossing 40 = .ok (.invokevirtual 64, 3) := by decide +kernel
theorem d_M_crossing_43 : decode b_M_crossing 43 = .ok (.ifCond .le 7, 3) := by decide +kernel
theorem d_M_crossing_46 : decode b_M_crossing 46 = .ok (.iconst 1, 1) := by decide +kernel
theorem d_M_crossing_47 : decode b_M_crossing 47 = .ok (.goto 4, 3) := by decide +kernel
theorem d_M_crossing_50 : decode b_M_crossing 50 = .ok (.iconst (-1), 1) := by decide +kernel
theorem d_M_crossing_51 : decode b_M_crossing 51 = .ok (.ireturn, 1) := by decide +kernel
theorem d_M_crossing_52 : decode b_M_crossing 52 = .ok (.aload_n 0, 1) := by decide +kernel
theorem d_M_crossing_53 : decode b_M_crossing 53 = .ok (.iload_n 1, 1) := by decide +kernel
theorem d_M_crossing_54 : decode b_M_crossing 54 = .ok (.invokevirtual 132, 3) := by decide +kernel
theorem d_M_crossing_57 : decode b_M_crossing 57 = .ok (.aload_n 0, 1) := by decide +kernel
theorem d_M_crossing_58 : decode b_M_crossing 58 = .ok (.getfield 53, 3) := by decide +kernel
theorem d_M_crossing_61 : decode b_M_crossing 61 = .ok (.iconst 4, 1) := by decide +kernel
theorem d_M_crossing_62 : decode b_M_crossing 62 = .ok (.iload_n 2, 1) := by decide +kernel
theorem d_M_crossing_63 : decode b_M_crossing 63 = .ok (.imul, 1) := by decide +kernel
theorem d_M_crossing_64 : decode b_M_crossing 64 = .ok (.iload_n 3, 1) := by decide +kernel
theorem d_M_crossing_65 : decode b_M_crossing 65 = .ok (.iadd, 1) := by decide +kernel
theorem d_M_crossing_66 : decode b_M_crossing 66 = .ok (.iaload, 1) := by decide +kernel
theorem d_M_crossing_67 : decode b_M_crossing 67 = .ok (.ireturn, 1) := by decide +kernel
