theorem d_B_init_0 : decode b_B_init 0 = .ok (.aload_n 0, 1) := by decide +kernel
theorem d_B_init_1 : decode b_B_init 1 = .ok (.invokespecial 3, 3) := by decide +kernel
theorem d_B_init_4 : decode b_B_init 4 = .ok (.aload_n 0, 1) := by decide +kernel
theorem d_B_init_5 : decode b_B_init 5 = .ok (.iconst 4, 1) := by decide +kernel
theorem d_B_init_6 : decode b_B_init 6 = .ok (.anewarray 9, 3) := by decide +kernel
theorem d_B_init_9 : decode b_B_init 9 = .ok (.putfield 11, 3) := by decide +kernel
theorem d_B_init_12 : decode b_B_init 12 = .ok (.aload_n 0, 1) := by decide +kernel
theorem d_B_init_13 : decode b_B_init 13 = .ok (.iconst 4, 1) := by decide +kernel
theorem d_B_init_14 : decode b_B_init 14 = .ok (.anewarray 15, 3) := by decide +kernel
theorem d_B_init_17 : decode b_B_init 17 = .ok (.putfield 17, 3) := by decide +kernel
theorem d_B_init_20 : decode b_B_init 20 = .ok (.iconst 0, 1) := by decide +kernel
theorem d_B_init_21 : decode b_B_init 21 = .ok (.istore_n 1, 1) := by decide +kernel
theorem d_B_init_22 : decode b_B_init 22 = .ok (.iload_n 1, 1) := by decide +kernel
theorem d_B_init_23 : decode b_B_init 23 = .ok (.iconst 4, 1) := by decide +kernel
theorem d_B_init_24 : decode b_B_init 24 = .ok (.if_icmp .ge 35, 3) := by decide +kernel
theorem d_B_init_27 : decode b_B_init 27 = .ok (.aload_n 0, 1) := by decide +kernel
theorem d_B_init_28 : decode b_B_init 28 = .ok (.getfield 11, 3) := by decide +kernel
theorem d_B_init_31 : decode b_B_init 31 = .ok (.iload_n 1, 1) := by decide +kernel
theorem d_B_init_32 : decode b_B_init 32 = .ok (.new 9, 3) := by decide +kernel
theorem d_B_init_35 : decode b_B_init 35 = .ok (.dup, 1) := by decide +kernel
theorem d_B_init_36 : decode b_B_init 36 = .ok (.invokespecial 21, 3) := by decide +kernel
theorem d_B_init_39 : decode b_B_init 39 = .ok (.aastore, 1) := by decide +kernel
theorem d_B_init_40 : decode b_B_init 40 = .ok (.aload_n 0, 1) := by decide +kernel
theorem d_B_init_41 : decode b_B_init 41 = .ok (.getfield 17, 3) := by decide +kernel
theorem d_B_init_44 : decode b_B_init 44 = .ok (.iload_n 1, 1) := by decide +kernel
theorem d_B_init_45 : decode b_B_init 45 = .ok (.new 15, 3) := by decide +kernel
theorem d_B_init_48 : decode b_B_init 48 = .ok (.dup, 1) := by decide +kernel
theorem d_B_init_49 : decode b_B_init 49 = .ok (.invokespecial 22, 3) := by decide +kernel
theorem d_B_init_52 : decode b_B_init 52 = .ok (.aastore, 1) := by decide +kernel
theorem d_B_init_53 : decode b_B_init 53 = .ok (.iinc 1 1, 3) := by decide +kernel
theorem d_B_init_56 : decode b_B_init 56 = .ok (.goto (-34), 3) := by decide +kernel
theorem d_B_init_59 : decode b_B_init 59 = .ok (.return_, 1) := by decide +kernel
theorem d_B_strands_0 : decode b_B_strands 0 = .ok (.iload_n 1, 1) := by decide +kernel
theorem d_B_strands_1 : decode b_B_strands 1 = .ok (.invokestatic 23, 3) := by decide +kernel
theorem d_B_strands_4 : decode b_B_strands 4 = .ok (.ifCond .eq 14, 3) := by decide +kernel
theorem d_B_strands_7 : decode b_B_strands 7 = .ok (.iload_n 2, 1) := by decide +kernel
theorem d_B_strands_8 : decode b_B_strands 8 = .ok (.iconst 1, 1) := by decide +kernel
theorem d_B_strands_9 : decode b_B_strands 9 = .ok (.if_icmp .lt 9, 3) := by decide +kernel
theorem d_B_strands_12 : decode b_B_strands 12 = .ok (.iload_n 2, 1) := by decide +kernel
theorem d_B_strands_13 : decode b_B_strands 13 = .ok (.bipush 8, 2) := by decide +kernel
theorem d_B_strands_15 : decode b_B_strands 15 = .ok (.if_icmp .le 5, 3) := by decide +kernel
theorem d_B_strands_18 : decode b_B_strands 18 = .ok (.iconst 0, 1) := by decide +kernel
theorem d_B_strands_19 : decode b_B_strands 19 = .ok (.ireturn, 1) := by decide +kernel
theorem d_B_strands_20 : decode b_B_strands 20 = .ok (.aload_n 0, 1) := by decide +kernel
theorem d_B_strands_21 : decode b_B_strands 21 = .ok (.getfield 11, 3) := by decide +kernel
theorem d_B_strands_24 : decode b_B_strands 24 = .ok (.iload_n 1, 1) := by decide +kernel
theorem d_B_strands_25 : decode b_B_strands 25 = .ok (.aaload, 1) := by decide +kernel
theorem d_B_strands_26 : decode b_B_strands 26 = .ok (.iload_n 2, 1) := by decide +kernel
theorem d_B_strands_27 : decode b_B_strands 27 = .ok (.invokevirtual 27, 3) := by decide +kernel
theorem d_B_strands_30 : decode b_B_strands 30 = .ok (.iconst 1, 1) := by decide +kernel
theorem d_B_strands_31 : decode b_B_strands 31 = .ok (.ireturn, 1) := by decide +kernel
theorem d_B_letter_0 : decode b_B_letter 0 = .ok (.iload_n 1, 1) := by decide +kernel
theorem d_B_letter_1 : decode b_B_letter 1 = .ok (.invokestatic 23, 3) := by decide +kernel
theorem d_B_letter_4 : decode b_B_letter 4 = .ok (.ifCond .eq 16, 3) := by decide +kernel
theorem d_B_letter_7 : decode b_B_letter 7 = .ok (.aload_n 0, 1) := by decide +kernel
theorem d_B_letter_8 : decode b_B_letter 8 = .ok (.getfield 11, 3) := by decide +kernel
theorem d_B_letter_11 : decode b_B_letter 11 = .ok (.iload_n 1, 1) := by decide +kernel
theorem d_B_letter_12 : decode b_B_letter 12 = .ok (.aaload, 1) := by decide +kernel
theorem d_B_letter_13 : decode b_B_letter 13 = .ok (.iload_n 2, 1) := by decide +kernel
theorem d_B_letter_14 : decode b_B_letter 14 = .ok (.invokevirtual 31, 3) := by decide +kernel
theorem d_B_letter_17 : decode b_B_letter 17 = .ok (.ifCond .ne 5, 3) := by decide +kernel
theorem d_B_letter_20 : decode b_B_letter 20 = .ok (.iconst (-1), 1) := by decide +kernel
theorem d_B_letter_21 : decode b_B_letter 21 = .ok (.ireturn, 1) := by decide +kernel
theorem d_B_letter_22 : decode b_B_letter 22 = .ok (.aload_n 0, 1) := by decide +kernel
theorem d_B_letter_23 : decode b_B_letter 23 = .ok (.getfield 11, 3) := by decide +kernel
theorem d_B_letter_26 : decode b_B_letter 26 = .ok (.iload_n 1, 1) := by decide +kernel
theorem d_B_letter_27 : decode b_B_letter 27 = .ok (.aaload, 1) := by decide +kernel
theorem d_B_letter_28 : decode b_B_letter 28 = .ok (.getfield 34, 3) := by decide +kernel
theorem d_B_letter_31 : decode b_B_letter 31 = .ok (.ireturn, 1) := by decide +kernel
theorem d_B_copy_0 : decode b_B_copy 0 = .ok (.iload_n 1, 1) := by decide +kernel
theorem d_B_copy_1 : decode b_B_copy 1 = .ok (.invokestatic 23, 3) := by decide +kernel
theorem d_B_copy_4 : decode b_B_copy 4 = .ok (.ifCond .eq 10, 3) := by decide +kernel
theorem d_B_copy_7 : decode b_B_copy 7 = .ok (.iload_n 2, 1) := by decide +kernel
theorem d_B_copy_8 : decode b_B_copy 8 = .ok (.invokestatic 23, 3) := by decide +kernel
theorem d_B_copy_11 : decode b_B_copy 11 = .ok (.ifCond .ne 5, 3) := by decide +kernel
theorem d_B_copy_14 : decode b_B_copy 14 = .ok (.iconst 0, 1) := by decide +kernel
theorem d_B_copy_15 : decode b_B_copy 15 = .ok (.ireturn, 1) := by decide +kernel
theorem d_B_copy_16 : decode b_B_copy 16 = .ok (.aload_n 0, 1) := by decide +kernel
theorem d_B_copy_17 : decode b_B_copy 17 = .ok (.getfield 11, 3) := by decide +kernel
theorem d_B_copy_20 : decode b_B_copy 20 = .ok (.iload_n 1, 1) := by decide +kernel
theorem d_B_copy_21 : decode b_B_copy 21 = .ok (.aaload, 1) := by decide +kernel
theorem d_B_copy_22 : decode b_B_copy 22 = .ok (.aload_n 0, 1) := by decide +kernel
theorem d_B_copy_23 : decode b_B_copy 23 = .ok (.getfield 11, 3) := by decide +kernel
theorem d_B_copy_26 : decode b_B_copy 26 = .ok (.iload_n 2, 1) := by decide +kernel
theorem d_B_copy_27 : decode b_B_copy 27 = .ok (.aaload, 1) := by decide +kernel
theorem d_B_copy_28 : decode b_B_copy 28 = .ok (.invokevirtual 38, 3) := by decide +kernel
theorem d_B_copy_31 : decode b_B_copy 31 = .ok (.iload_n 3, 1) := by decide +kernel
theorem d_B_copy_32 : decode b_B_copy 32 = .ok (.ifCond .eq 12, 3) := by decide +kernel
theorem d_B_copy_35 : decode b_B_copy 35 = .ok (.aload_n 0, 1) := by decide +kernel
theorem d_B_copy_36 : decode b_B_copy 36 = .ok (.getfield 11, 3) := by decide +kernel
theorem d_B_copy_39 : decode b_B_copy 39 = .ok (.iload_n 1, 1) := by decide +kernel
theorem d_B_copy_40 : decode b_B_copy 40 = .ok (.aaload, 1) := by decide +kernel
theorem d_B_copy_41 : decode b_B_copy 41 = .ok (.invokevirtual 42, 3) := by decide +kernel
theorem d_B_copy_44 : decode b_B_copy 44 = .ok (.iconst 1, 1) := by decide +kernel
theorem d_B_copy_45 : decode b_B_copy 45 = .ok (.ireturn, 1) := by decide +kernel
theorem d_B_many_0 : decode b_B_many 0 = .ok (.iload_n 1, 1) := by decide +kernel
theorem d_B_many_1 : decode b_B_many 1 = .ok (.invokestatic 23, 3) := by decide +kernel
theorem d_B_many_4 : decode b_B_many 4 = .ok (.ifCond .ne 7, 3) := by decide +kernel
theorem d_B_many_7 : decode b_B_many 7 = .ok (.sipush (-1000), 3) := by decide +kernel
theorem d_B_many_10 : decode b_B_many 10 = .ok (.ireturn, 1) := by decide +kernel
theorem d_B_many_11 : decode b_B_many 11 = .ok (.aload_n 0, 1) := by decide +kernel
theorem d_B_many_12 : decode b_B_many 12 = .ok (.getfield 11, 3) := by decide +kernel
theorem d_B_many_15 : decode b_B_many 15 = .ok (.iload_n 1, 1) := by decide +kernel
theorem d_B_many_16 : decode b_B_many 16 = .ok (.aaload, 1) := by decide +kernel
theorem d_B_many_17 : decode b_B_many 17 = .ok (.astore_n 3, 1) := by decide +kernel
theorem d_B_many_18 : decode b_B_many 18 = .ok (.iload_n 2, 1) := by decide +kernel
theorem d_B_many_19 : decode b_B_many 19 = .ok (.tableswitch 58 0 4 #[33, 38, 43, 48, 53], 33) := by decide +kernel
theorem d_B_many_52 : decode b_B_many 52 = .ok (.aload_n 3, 1) := by decide +kernel
theorem d_B_many_53 : decode b_B_many 53 = .ok (.getfield 45, 3) := by decide +kernel
theorem d_B_many_56 : decode b_B_many 56 = .ok (.ireturn, 1) := by decide +kernel
theorem d_B_many_57 : decode b_B_many 57 = .ok (.aload_n 3, 1) := by decide +kernel
theorem d_B_many_58 : decode b_B_many 58 = .ok (.getfield 34, 3) := by decide +kernel
theorem d_B_many_61 : decode b_B_many 61 = .ok (.ireturn, 1) := by decide +kernel
theorem d_B_many_62 : decode b_B_many 62 = .ok (.aload_n 3, 1) := by decide +kernel
theorem d_B_many_63 : decode b_B_many 63 = .ok (.invokevirtual 48, 3) := by decide +kernel
theorem d_B_many_66 : decode b_B_many 66 = .ok (.ireturn, 1) := by decide +kernel
theorem d_B_many_67 : decode b_B_many 67 = .ok (.aload_n 3, 1) := by decide +kernel
theorem d_B_many_68 : decode b_B_many 68 = .ok (.invokevirtual 52, 3) := by decide +kernel
theorem d_B_many_71 : decode b_B_many 71 = .ok (.ireturn, 1) := by decide +kernel
theorem d_B_many_72 : decode b_B_many 72 = .ok (.aload_n 3, 1) := by decide +kernel
theorem d_B_many_73 : decode b_B_many 73 = .ok (.invokevirtual 55, 3) := by decide +kernel
theorem d_B_many_76 : decode b_B_many 76 = .ok (.ireturn, 1) := by decide +kernel
theorem d_B_many_77 : decode b_B_many 77 = .ok (.sipush (-1000), 3) := by decide +kernel
theorem d_B_many_80 : decode b_B_many 80 = .ok (.ireturn, 1) := by decide +kernel
theorem d_B_at_0 : decode b_B_at 0 = .ok (.iload_n 1, 1) := by decide +kernel
theorem d_B_at_1 : decode b_B_at 1 = .ok (.invokestatic 23, 3) := by decide +kernel
theorem d_B_at_4 : decode b_B_at 4 = .ok (.ifCond .eq 31, 3) := by decide +kernel
theorem d_B_at_7 : decode b_B_at 7 = .ok (.aload_n 0, 1) := by decide +kernel
theorem d_B_at_8 : decode b_B_at 8 = .ok (.getfield 11, 3) := by decide +kernel
theorem d_B_at_11 : decode b_B_at 11 = .ok (.iload_n 1, 1) := by decide +kernel
theorem d_B_at_12 : decode b_B_at 12 = .ok (.aaload, 1) := by decide +kernel
theorem d_B_at_13 : decode b_B_at 13 = .ok (.iload_n 2, 1) := by decide +kernel
theorem d_B_at_14 : decode b_B_at 14 = .ok (.iconst 1, 1) := by decide +kernel
theorem d_B_at_15 : decode b_B_at 15 = .ok (.invokevirtual 58, 3) := by decide +kernel
theorem d_B_at_18 : decode b_B_at 18 = .ok (.ifCond .eq 17, 3) := by decide +kernel
theorem d_B_at_21 : decode b_B_at 21 = .ok (.aload_n 0, 1) := by decide +kernel
theorem d_B_at_22 : decode b_B_at 22 = .ok (.getfield 11, 3) := by decide +kernel
theorem d_B_at_25 : decode b_B_at 25 = .ok (.iload_n 1, 1) := by decide +kernel
theorem d_B_at_26 : decode b_B_at 26 = .ok (.aaload, 1) := by decide +kernel
theorem d_B_at_27 : decode b_B_at 27 = .ok (.getfield 62, 3) := by decide +kernel
theorem d_B_at_30 : decode b_B_at 30 = .ok (.iload_n 2, 1) := by decide +kernel
theorem d_B_at_31 : decode b_B_at 31 = .ok (.iaload, 1) := by decide +kernel
theorem d_B_at_32 : decode b_B_at 32 = .ok (.goto 4, 3) := by decide +kernel
theorem d_B_at_35 : decode b_B_at 35 = .ok (.iconst 0, 1) := by decide +kernel
theorem d_B_at_36 : decode b_B_at 36 = .ok (.ireturn, 1) := by decide +kernel
theorem d_B_end_0 : decode b_B_end 0 = .ok (.iload_n 1, 1) := by decide +kernel
theorem d_B_end_1 : decode b_B_end 1 = .ok (.invokestatic 23, 3) := by decide +kernel
theorem d_B_end_4 : decode b_B_end 4 = .ok (.ifCond .eq 29, 3) := by decide +kernel
theorem d_B_end_7 : decode b_B_end 7 = .ok (.aload_n 0, 1) := by decide +kernel
theorem d_B_end_8 : decode b_B_end 8 = .ok (.getfield 11, 3) := by decide +kernel
theorem d_B_end_11 : decode b_B_end 11 = .ok (.iload_n 1, 1) := by decide +kernel
theorem d_B_end_12 : decode b_B_end 12 = .ok (.aaload, 1) := by decide +kernel
theorem d_B_end_13 : decode b_B_end 13 = .ok (.iload_n 2, 1) := by decide +kernel
theorem d_B_end_14 : decode b_B_end 14 = .ok (.invokevirtual 66, 3) := by decide +kernel
theorem d_B_end_17 : decode b_B_end 17 = .ok (.ifCond .eq 16, 3) := by decide +kernel
theorem d_B_end_20 : decode b_B_end 20 = .ok (.aload_n 0, 1) := by decide +kernel
theorem d_B_end_21 : decode b_B_end 21 = .ok (.getfield 11, 3) := by decide +kernel
theorem d_B_end_24 : decode b_B_end 24 = .ok (.iload_n 1, 1) := by decide +kernel
theorem d_B_end_25 : decode b_B_end 25 = .ok (.aaload, 1) := by decide +kernel
theorem d_B_end_26 : decode b_B_end 26 = .ok (.iload_n 2, 1) := by decide +kernel
theorem d_B_end_27 : decode b_B_end 27 = .ok (.invokevirtual 69, 3) := by decide +kernel
theorem d_B_end_30 : decode b_B_end 30 = .ok (.goto 4, 3) := by decide +kernel
theorem d_B_end_33 : decode b_B_end 33 = .ok (.iconst 0, 1) := by decide +kernel
theorem d_B_end_34 : decode b_B_end 34 = .ok (.ireturn, 1) := by decide +kernel
theorem d_B_reduce_0 : decode b_B_reduce 0 = .ok (.iload_n 1, 1) := by decide +kernel
theorem d_B_reduce_1 : decode b_B_reduce 1 = .ok (.invokestatic 23, 3) := by decide +kernel
theorem d_B_reduce_4 : decode b_B_reduce 4 = .ok (.ifCond .ne 5, 3) := by decide +kernel
theorem d_B_reduce_7 : decode b_B_reduce 7 = .ok (.iconst 0, 1) := by decide +kernel
theorem d_B_reduce_8 : decode b_B_reduce 8 = .ok (.ireturn, 1) := by decide +kernel
theorem d_B_reduce_9 : decode b_B_reduce 9 = .ok (.aload_n 0, 1) := by decide +kernel
theorem d_B_reduce_10 : decode b_B_reduce 10 = .ok (.getfield 11, 3) := by decide +kernel
theorem d_B_reduce_13 : decode b_B_reduce 13 = .ok (.iload_n 1, 1) := by decide +kernel
theorem d_B_reduce_14 : decode b_B_reduce 14 = .ok (.aaload, 1) := by decide +kernel
theorem d_B_reduce_15 : decode b_B_reduce 15 = .ok (.astore_n 3, 1) := by decide +kernel
theorem d_B_reduce_16 : decode b_B_reduce 16 = .ok (.aload_n 3, 1) := by decide +kernel
theorem d_B_reduce_17 : decode b_B_reduce 17 = .ok (.getfield 34, 3) := by decide +kernel
theorem d_B_reduce_20 : decode b_B_reduce 20 = .ok (.istore 4, 2) := by decide +kernel
theorem d_B_reduce_22 : decode b_B_reduce 22 = .ok (.aload_n 3, 1) := by decide +kernel
theorem d_B_reduce_23 : decode b_B_reduce 23 = .ok (.invokevirtual 73, 3) := by decide +kernel
theorem d_B_reduce_26 : decode b_B_reduce 26 = .ok (.iload_n 2, 1) := by decide +kernel
theorem d_B_reduce_27 : decode b_B_reduce 27 = .ok (.ifCond .eq 7, 3) := by decide +kernel
theorem d_B_reduce_30 : decode b_B_reduce 30 = .ok (.aload_n 3, 1) := by decide +kernel
theorem d_B_reduce_31 : decode b_B_reduce 31 = .ok (.invokevirtual 76, 3) := by decide +kernel
theorem d_B_reduce_34 : decode b_B_reduce 34 = .ok (.iload 4, 2) := by decide +kernel
theorem d_B_reduce_36 : decode b_B_reduce 36 = .ok (.aload_n 3, 1) := by decide +kernel
theorem d_B_reduce_37 : decode b_B_reduce 37 = .ok (.getfield 34, 3) := by decide +kernel
theorem d_B_reduce_40 : decode b_B_reduce 40 = .ok (.isub, 1) := by decide +kernel
theorem d_B_reduce_41 : decode b_B_reduce 41 = .ok (.ireturn, 1) := by decide +kernel
theorem d_B_round_0 : decode b_B_round 0 = .ok (.iload_n 1, 1) := by decide +kernel
theorem d_B_round_1 : decode b_B_round 1 = .ok (.invokestatic 23, 3) := by decide +kernel
theorem d_B_round_4 : decode b_B_round 4 = .ok (.ifCond .eq 38, 3) := by decide +kernel
theorem d_B_round_7 : decode b_B_round 7 = .ok (.iload_n 2, 1) := by decide +kernel
theorem d_B_round_8 : decode b_B_round 8 = .ok (.ifCond .eq 18, 3) := by decide +kernel
theorem d_B_round_11 : decode b_B_round 11 = .ok (.aload_n 0, 1) := by decide +kernel
theorem d_B_round_12 : decode b_B_round 12 = .ok (.getfield 11, 3) := by decide +kernel
theorem d_B_round_15 : decode b_B_round 15 = .ok (.iload_n 1, 1) := by decide +kernel
theorem d_B_round_16 : decode b_B_round 16 = .ok (.aaload, 1) := by decide +kernel
theorem d_B_round_17 : decode b_B_round 17 = .ok (.invokevirtual 79, 3) := by decide +kernel
theorem d_B_round_20 : decode b_B_round 20 = .ok (.ifCond .eq 22, 3) := by decide +kernel
theorem d_B_round_23 : decode b_B_round 23 = .ok (.goto 15, 3) := by decide +kernel
theorem d_B_round_26 : decode b_B_round 26 = .ok (.aload_n 0, 1) := by decide +kernel
theorem d_B_round_27 : decode b_B_round 27 = .ok (.getfield 11, 3) := by decide +kernel
theorem d_B_round_30 : decode b_B_round 30 = .ok (.iload_n 1, 1) := by decide +kernel
theorem d_B_round_31 : decode b_B_round 31 = .ok (.aaload, 1) := by decide +kernel
theorem d_B_round_32 : decode b_B_round 32 = .ok (.invokevirtual 83, 3) := by decide +kernel
theorem d_B_round_35 : decode b_B_round 35 = .ok (.ifCond .eq 7, 3) := by decide +kernel
theorem d_B_round_38 : decode b_B_round 38 = .ok (.iconst 1, 1) := by decide +kernel
theorem d_B_round_39 : decode b_B_round 39 = .ok (.goto 4, 3) := by decide +kernel
theorem d_B_round_42 : decode b_B_round 42 = .ok (.iconst 0, 1) := by decide +kernel
theorem d_B_round_43 : decode b_B_round 43 = .ok (.ireturn, 1) := by decide +kernel
theorem d_B_exchange_0 : decode b_B_exchange 0 = .ok (.iload_n 1, 1) := by decide +kernel
theorem d_B_exchange_1 : decode b_B_exchange 1 = .ok (.invokestatic 23, 3) := by decide +kernel
theorem d_B_exchange_4 : decode b_B_exchange 4 = .ok (.ifCond .eq 20, 3) := by decide +kernel
theorem d_B_exchange_7 : decode b_B_exchange 7 = .ok (.aload_n 0, 1) := by decide +kernel
theorem d_B_exchange_8 : decode b_B_exchange 8 = .ok (.getfield 11, 3) := by decide +kernel
theorem d_B_exchange_11 : decode b_B_exchange 11 = .ok (.iload_n 1, 1) := by decide +kernel
theorem d_B_exchange_12 : decode b_B_exchange 12 = .ok (.aaload, 1) := by decide +kernel
theorem d_B_exchange_13 : decode b_B_exchange 13 = .ok (.iload_n 2, 1) := by decide +kernel
theorem d_B_exchange_14 : decode b_B_exchange 14 = .ok (.invokevirtual 86, 3) := by decide +kernel
theorem d_B_exchange_17 : decode b_B_exchange 17 = .ok (.ifCond .eq 7, 3) := by decide +kernel
theorem d_B_exchange_20 : decode b_B_exchange 20 = .ok (.iconst 1, 1) := by decide +kernel
theorem d_B_exchange_21 : decode b_B_exchange 21 = .ok (.goto 4, 3) := by decide +kernel
theorem d_B_exchange_24 : decode b_B_exchange 24 = .ok (.iconst 0, 1) := by decide +kernel
theorem d_B_exchange_25 : decode b_B_exchange 25 = .ok (.ireturn, 1) := by decide +kernel
theorem d_B_pass_0 : decode b_B_pass 0 = .ok (.iload_n 1, 1) := by decide +kernel
theorem d_B_pass_1 : decode b_B_pass 1 = .ok (.invokestatic 23, 3) := by decide +kernel
theorem d_B_pass_4 : decode b_B_pass 4 = .ok (.ifCond .eq 20, 3) := by decide +kernel
theorem d_B_pass_7 : decode b_B_pass 7 = .ok (.aload_n 0, 1) := by decide +kernel
theorem d_B_pass_8 : decode b_B_pass 8 = .ok (.getfield 11, 3) := by decide +kernel
theorem d_B_pass_11 : decode b_B_pass 11 = .ok (.iload_n 1, 1) := by decide +kernel
theorem d_B_pass_12 : decode b_B_pass 12 = .ok (.aaload, 1) := by decide +kernel
theorem d_B_pass_13 : decode b_B_pass 13 = .ok (.iload_n 2, 1) := by decide +kernel
theorem d_B_pass_14 : decode b_B_pass 14 = .ok (.invokevirtual 89, 3) := by decide +kernel
theorem d_B_pass_17 : decode b_B_pass 17 = .ok (.ifCond .eq 7, 3) := by decide +kernel
theorem d_B_pass_20 : decode b_B_pass 20 = .ok (.iconst 1, 1) := by decide +kernel
theorem d_B_pass_21 : decode b_B_pass 21 = .ok (.goto 4, 3) := by decide +kernel
theorem d_B_pass_24 : decode b_B_pass 24 = .ok (.iconst 0, 1) := by decide +kernel
theorem d_B_pass_25 : decode b_B_pass 25 = .ok (.ireturn, 1) := by decide +kernel
theorem d_B_grow_0 : decode b_B_grow 0 = .ok (.iload_n 1, 1) := by decide +kernel
theorem d_B_grow_1 : decode b_B_grow 1 = .ok (.invokestatic 23, 3) := by decide +kernel
theorem d_B_grow_4 : decode b_B_grow 4 = .ok (.ifCond .eq 20, 3) := by decide +kernel
theorem d_B_grow_7 : decode b_B_grow 7 = .ok (.aload_n 0, 1) := by decide +kernel
theorem d_B_grow_8 : decode b_B_grow 8 = .ok (.getfield 11, 3) := by decide +kernel
theorem d_B_grow_11 : decode b_B_grow 11 = .ok (.iload_n 1, 1) := by decide +kernel
theorem d_B_grow_12 : decode b_B_grow 12 = .ok (.aaload, 1) := by decide +kernel
theorem d_B_grow_13 : decode b_B_grow 13 = .ok (.iload_n 2, 1) := by decide +kernel
theorem d_B_grow_14 : decode b_B_grow 14 = .ok (.invokevirtual 92, 3) := by decide +kernel
theorem d_B_grow_17 : decode b_B_grow 17 = .ok (.ifCond .eq 7, 3) := by decide +kernel
theorem d_B_grow_20 : decode b_B_grow 20 = .ok (.iconst 1, 1) := by decide +kernel
theorem d_B_grow_21 : decode b_B_grow 21 = .ok (.goto 4, 3) := by decide +kernel
theorem d_B_grow_24 : decode b_B_grow 24 = .ok (.iconst 0, 1) := by decide +kernel
theorem d_B_grow_25 : decode b_B_grow 25 = .ok (.ireturn, 1) := by decide +kernel
theorem d_B_shrink_0 : decode b_B_shrink 0 = .ok (.iload_n 1, 1) := by decide +kernel
theorem d_B_shrink_1 : decode b_B_shrink 1 = .ok (.invokestatic 23, 3) := by decide +kernel
theorem d_B_shrink_4 : decode b_B_shrink 4 = .ok (.ifCond .eq 19, 3) := by decide +kernel
theorem d_B_shrink_7 : decode b_B_shrink 7 = .ok (.aload_n 0, 1) := by decide +kernel
theorem d_B_shrink_8 : decode b_B_shrink 8 = .ok (.getfield 11, 3) := by decide +kernel
theorem d_B_shrink_11 : decode b_B_shrink 11 = .ok (.iload_n 1, 1) := by decide +kernel
theorem d_B_shrink_12 : decode b_B_shrink 12 = .ok (.aaload, 1) := by decide +kernel
theorem d_B_shrink_13 : decode b_B_shrink 13 = .ok (.invokevirtual 95, 3) := by decide +kernel
theorem d_B_shrink_16 : decode b_B_shrink 16 = .ok (.ifCond .eq 7, 3) := by decide +kernel
theorem d_B_shrink_19 : decode b_B_shrink 19 = .ok (.iconst 1, 1) := by decide +kernel
theorem d_B_shrink_20 : decode b_B_shrink 20 = .ok (.goto 4, 3) := by decide +kernel
theorem d_B_shrink_23 : decode b_B_shrink 23 = .ok (.iconst 0, 1) := by decide +kernel
theorem d_B_shrink_24 : decode b_B_shrink 24 = .ok (.ireturn, 1) := by decide +kernel
theorem d_B_same_0 : decode b_B_same 0 = .ok (.iload_n 1, 1) := by decide +kernel
theorem d_B_same_1 : decode b_B_same 1 = .ok (.invokestatic 23, 3) := by decide +kernel
theorem d_B_same_4 : decode b_B_same 4 = .ok (.ifCond .eq 30, 3) := by decide +kernel
theorem d_B_same_7 : decode b_B_same 7 = .ok (.iload_n 2, 1) := by decide +kernel
theorem d_B_same_8 : decode b_B_same 8 = .ok (.invokestatic 23, 3) := by decide +kernel
theorem d_B_same_11 : decode b_B_same 11 = .ok (.ifCond .eq 23, 3) := by decide +kernel
theorem d_B_same_14 : decode b_B_same 14 = .ok (.aload_n 0, 1) := by decide +kernel
theorem d_B_same_15 : decode b_B_same 15 = .ok (.iload_n 1, 1) := by decide +kernel
theorem d_B_same_16 : decode b_B_same 16 = .ok (.invokevirtual 98, 3) := by decide +kernel
theorem d_B_same_19 : decode b_B_same 19 = .ok (.aload_n 0, 1) := by decide +kernel
theorem d_B_same_20 : decode b_B_same 20 = .ok (.iload_n 2, 1) := by decide +kernel
theorem d_B_same_21 : decode b_B_same 21 = .ok (.invokevirtual 98, 3) := by decide +kernel
theorem d_B_same_24 : decode b_B_same 24 = .ok (.invokevirtual 102, 3) := by decide +kernel
theorem d_B_same_27 : decode b_B_same 27 = .ok (.ifCond .eq 7, 3) := by decide +kernel
theorem d_B_same_30 : decode b_B_same 30 = .ok (.iconst 1, 1) := by decide +kernel
theorem d_B_same_31 : decode b_B_same 31 = .ok (.goto 4, 3) := by decide +kernel
theorem d_B_same_34 : decode b_B_same 34 = .ok (.iconst 0, 1) := by decide +kernel
theorem d_B_same_35 : decode b_B_same 35 = .ok (.ireturn, 1) := by decide +kernel
theorem d_B_form_0 : decode b_B_form 0 = .ok (.iload_n 1, 1) := by decide +kernel
theorem d_B_form_1 : decode b_B_form 1 = .ok (.invokestatic 23, 3) := by decide +kernel
theorem d_B_form_4 : decode b_B_form 4 = .ok (.ifCond .ne 5, 3) := by decide +kernel
theorem d_B_form_7 : decode b_B_form 7 = .ok (.iconst 0, 1) := by decide +kernel
theorem d_B_form_8 : decode b_B_form 8 = .ok (.ireturn, 1) := by decide +kernel
theorem d_B_form_9 : decode b_B_form 9 = .ok (.aload_n 0, 1) := by decide +kernel
theorem d_B_form_10 : decode b_B_form 10 = .ok (.iload_n 1, 1) := by decide +kernel
theorem d_B_form_11 : decode b_B_form 11 = .ok (.invokevirtual 98, 3) := by decide +kernel
theorem d_B_form_14 : decode b_B_form 14 = .ok (.astore 4, 2) := by decide +kernel
theorem d_B_form_16 : decode b_B_form 16 = .ok (.iload_n 2, 1) := by decide +kernel
theorem d_B_form_17 : decode b_B_form 17 = .ok (.ifCond .ne 11, 3) := by decide +kernel
theorem d_B_form_20 : decode b_B_form 20 = .ok (.aload 4, 2) := by decide +kernel
theorem d_B_form_22 : decode b_B_form 22 = .ok (.getfield 106, 3) := by decide +kernel
theorem d_B_form_25 : decode b_B_form 25 = .ok (.goto 10, 3) := by decide +kernel
theorem d_B_form_28 : decode b_B_form 28 = .ok (.aload 4, 2) := by decide +kernel
theorem d_B_form_30 : decode b_B_form 30 = .ok (.iload_n 2, 1) := by decide +kernel
theorem d_B_form_31 : decode b_B_form 31 = .ok (.iload_n 3, 1) := by decide +kernel
theorem d_B_form_32 : decode b_B_form 32 = .ok (.invokevirtual 109, 3) := by decide +kernel
theorem d_B_form_35 : decode b_B_form 35 = .ok (.ireturn, 1) := by decide +kernel
theorem d_B_length_0 : decode b_B_length 0 = .ok (.iload_n 1, 1) := by decide +kernel
theorem d_B_length_1 : decode b_B_length 1 = .ok (.invokestatic 23, 3) := by decide +kernel
theorem d_B_length_4 : decode b_B_length 4 = .ok (.ifCond .eq 14, 3) := by decide +kernel
theorem d_B_length_7 : decode b_B_length 7 = .ok (.aload_n 0, 1) := by decide +kernel
theorem d_B_length_8 : decode b_B_length 8 = .ok (.iload_n 1, 1) := by decide +kernel
theorem d_B_length_9 : decode b_B_length 9 = .ok (.invokevirtual 98, 3) := by decide +kernel
theorem d_B_length_12 : decode b_B_length 12 = .ok (.invokevirtual 113, 3) := by decide +kernel
theorem d_B_length_15 : decode b_B_length 15 = .ok (.goto 4, 3) := by decide +kernel
theorem d_B_length_18 : decode b_B_length 18 = .ok (.iconst (-1), 1) := by decide +kernel
theorem d_B_length_19 : decode b_B_length 19 = .ok (.ireturn, 1) := by decide +kernel
theorem d_B_crossing_0 : decode b_B_crossing 0 = .ok (.iload_n 1, 1) := by decide +kernel
theorem d_B_crossing_1 : decode b_B_crossing 1 = .ok (.invokestatic 23, 3) := by decide +kernel
theorem d_B_crossing_4 : decode b_B_crossing 4 = .ok (.ifCond .eq 17, 3) := by decide +kernel
theorem d_B_crossing_7 : decode b_B_crossing 7 = .ok (.aload_n 0, 1) := by decide +kernel
theorem d_B_crossing_8 : decode b_B_crossing 8 = .ok (.getfield 11, 3) := by decide +kernel
theorem d_B_crossing_11 : decode b_B_crossing 11 = .ok (.iload_n 1, 1) := by decide +kernel
theorem d_B_crossing_12 : decode b_B_crossing 12 = .ok (.aaload, 1) := by decide +kernel
theorem d_B_crossing_13 : decode b_B_crossing 13 = .ok (.iload_n 2, 1) := by decide +kernel
theorem d_B_crossing_14 : decode b_B_crossing 14 = .ok (.iconst 1, 1) := by decide +kernel
theorem d_B_crossing_15 : decode b_B_crossing 15 = .ok (.invokevirtual 58, 3) := by decide +kernel
theorem d_B_crossing_18 : decode b_B_crossing 18 = .ok (.ifCond .ne 5, 3) := by decide +kernel
theorem d_B_crossing_21 : decode b_B_crossing 21 = .ok (.iconst 0, 1) := by decide +kernel
theorem d_B_crossing_22 : decode b_B_crossing 22 = .ok (.ireturn, 1) := by decide +kernel
theorem d_B_crossing_23 : decode b_B_crossing 23 = .ok (.iload_n 3, 1) := by decide +kernel
theorem d_B_crossing_24 : decode b_B_crossing 24 = .ok (.iconst 4, 1) := by decide +kernel
theorem d_B_crossing_25 : decode b_B_crossing 25 = .ok (.if_icmp .ne 18, 3) := by decide +kernel
theorem d_B_crossing_28 : decode b_B_crossing 28 = .ok (.aload_n 0, 1) := by decide +kernel
theorem d_B_crossing_29 : decode b_B_crossing 29 = .ok (.getfield 11, 3) := by decide +kernel
theorem d_B_crossing_32 : decode b_B_crossing 32 = .ok (.iload_n 1, 1) := by decide +kernel
theorem d_B_crossing_33 : decode b_B_crossing 33 = .ok (.aaload, 1) := by decide +kernel
theorem d_B_crossing_34 : decode b_B_crossing 34 = .ok (.getfield 62, 3) := by decide +kernel
theorem d_B_crossing_37 : decode b_B_crossing 37 = .ok (.iload_n 2, 1) := by decide +kernel
theorem d_B_crossing_38 : decode b_B_crossing 38 = .ok (.iaload, 1) := by decide +kernel
theorem d_B_crossing_39 : decode b_B_crossing 39 = .ok (.invokestatic 116, 3) := by decide +kernel
theorem d_B_crossing_42 : decode b_B_crossing 42 = .ok (.ireturn, 1) := by decide +kernel
theorem d_B_crossing_43 : decode b_B_crossing 43 = .ok (.iload_n 3, 1) := by decide +kernel
theorem d_B_crossing_44 : decode b_B_crossing 44 = .ok (.ifCond .lt 22, 3) := by decide +kernel
theorem d_B_crossing_47 : decode b_B_crossing 47 = .ok (.iload_n 3, 1) := by decide +kernel
theorem d_B_crossing_48 : decode b_B_crossing 48 = .ok (.iconst 4, 1) := by decide +kernel
theorem d_B_crossing_49 : decode b_B_crossing 49 = .ok (.if_icmp .ge 17, 3) := by decide +kernel
theorem d_B_crossing_52 : decode b_B_crossing 52 = .ok (.aload_n 0, 1) := by decide +kernel
theorem d_B_crossing_53 : decode b_B_crossing 53 = .ok (.getfield 11, 3) := by decide +kernel
theorem d_B_crossing_56 : decode b_B_crossing 56 = .ok (.iload_n 1, 1) := by decide +kernel
theorem d_B_crossing_57 : decode b_B_crossing 57 = .ok (.aaload, 1) := by decide +kernel
theorem d_B_crossing_58 : decode b_B_crossing 58 = .ok (.iload_n 2, 1) := by decide +kernel
theorem d_B_crossing_59 : decode b_B_crossing 59 = .ok (.iload_n 3, 1) := by decide +kernel
theorem d_B_crossing_60 : decode b_B_crossing 60 = .ok (.invokevirtual 121, 3) := by decide +kernel
theorem d_B_crossing_63 : decode b_B_crossing 63 = .ok (.goto 4, 3) := by decide +kernel
theorem d_B_crossing_66 : decode b_B_crossing 66 = .ok (.iconst 0, 1) := by decide +kernel
theorem d_B_crossing_67 : decode b_B_crossing 67 = .ok (.ireturn, 1) := by decide +kernel
theorem d_B_isSlot_0 : decode b_B_isSlot 0 = .ok (.iload_n 0, 1) := by decide +kernel
theorem d_B_isSlot_1 : decode b_B_isSlot 1 = .ok (.ifCond .lt 12, 3) := by decide +kernel
theorem d_B_isSlot_4 : decode b_B_isSlot 4 = .ok (.iload_n 0, 1) := by decide +kernel
theorem d_B_isSlot_5 : decode b_B_isSlot 5 = .ok (.iconst 4, 1) := by decide +kernel
theorem d_B_isSlot_6 : decode b_B_isSlot 6 = .ok (.if_icmp .ge 7, 3) := by decide +kernel
theorem d_B_isSlot_9 : decode b_B_isSlot 9 = .ok (.iconst 1, 1) := by decide +kernel
theorem d_B_isSlot_10 : decode b_B_isSlot 10 = .ok (.goto 4, 3) := by decide +kernel
theorem d_B_isSlot_13 : decode b_B_isSlot 13 = .ok (.iconst 0, 1) := by decide +kernel
theorem d_B_isSlot_14 : decode b_B_isSlot 14 = .ok (.ireturn, 1) := by decide +kernel
theorem d_B_formOf_0 : decode b_B_formOf 0 = .ok (.aload_n 0, 1) := by decide +kernel
theorem d_B_formOf_1 : decode b_B_formOf 1 = .ok (.getfield 17, 3) := by decide +kernel
theorem d_B_formOf_4 : decode b_B_formOf 4 = .ok (.iload_n 1, 1) := by decide +kernel
theorem d_B_formOf_5 : decode b_B_formOf 5 = .ok (.aaload, 1) := by decide +kernel
theorem d_B_formOf_6 : decode b_B_formOf 6 = .ok (.aload_n 0, 1) := by decide +kernel
theorem d_B_formOf_7 : decode b_B_formOf 7 = .ok (.getfield 11, 3) := by decide +kernel
theorem d_B_formOf_10 : decode b_B_formOf 10 = .ok (.iload_n 1, 1) := by decide +kernel
theorem d_B_formOf_11 : decode b_B_formOf 11 = .ok (.aaload, 1) := by decide +kernel
theorem d_B_formOf_12 : decode b_B_formOf 12 = .ok (.invokevirtual 124, 3) := by decide +kernel
theorem d_B_formOf_15 : decode b_B_formOf 15 = .ok (.aload_n 0, 1) := by decide +kernel
theorem d_B_formOf_16 : decode b_B_formOf 16 = .ok (.getfield 17, 3) := by decide +kernel
theorem d_B_formOf_19 : decode b_B_formOf 19 = .ok (.iload_n 1, 1) := by decide +kernel
theorem d_B_formOf_20 : decode b_B_formOf 20 = .ok (.aaload, 1) := by decide +kernel
theorem d_B_formOf_21 : decode b_B_formOf 21 = .ok (.areturn, 1) := by decide +kernel
theorem d_B_swapAt_0 : decode b_B_swapAt 0 = .ok (.aload_n 0, 1) := by decide +kernel
theorem d_B_swapAt_1 : decode b_B_swapAt 1 = .ok (.iload_n 1, 1) := by decide +kernel
theorem d_B_swapAt_2 : decode b_B_swapAt 2 = .ok (.iaload, 1) := by decide +kernel
theorem d_B_swapAt_3 : decode b_B_swapAt 3 = .ok (.istore_n 2, 1) := by decide +kernel
theorem d_B_swapAt_4 : decode b_B_swapAt 4 = .ok (.aload_n 0, 1) := by decide +kernel
theorem d_B_swapAt_5 : decode b_B_swapAt 5 = .ok (.iload_n 1, 1) := by decide +kernel
theorem d_B_swapAt_6 : decode b_B_swapAt 6 = .ok (.aload_n 0, 1) := by decide +kernel
theorem d_B_swapAt_7 : decode b_B_swapAt 7 = .ok (.iload_n 1, 1) := by decide +kernel
theorem d_B_swapAt_8 : decode b_B_swapAt 8 = .ok (.iconst 1, 1) := by decide +kernel
theorem d_B_swapAt_9 : decode b_B_swapAt 9 = .ok (.iadd, 1) := by decide +kernel
theorem d_B_swapAt_10 : decode b_B_swapAt 10 = .ok (.iaload, 1) := by decide +kernel
theorem d_B_swapAt_11 : decode b_B_swapAt 11 = .ok (.iastore, 1) := by decide +kernel
theorem d_B_swapAt_12 : decode b_B_swapAt 12 = .ok (.aload_n 0, 1) := by decide +kernel
theorem d_B_swapAt_13 : decode b_B_swapAt 13 = .ok (.iload_n 1, 1) := by decide +kernel
theorem d_B_swapAt_14 : decode b_B_swapAt 14 = .ok (.iconst 1, 1) := by decide +kernel
theorem d_B_swapAt_15 : decode b_B_swapAt 15 = .ok (.iadd, 1) := by decide +kernel
theorem d_B_swapAt_16 : decode b_B_swapAt 16 = .ok (.iload_n 2, 1) := by decide +kernel
theorem d_B_swapAt_17 : decode b_B_swapAt 17 = .ok (.iastore, 1) := by decide +kernel
theorem d_B_swapAt_18 : decode b_B_swapAt 18 = .ok (.return_, 1) := by decide +kernel
