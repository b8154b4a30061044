theorem d_W_init_0 : decode b_W_init 0 = .ok (.aload_n 0, 1) := by decide +kernel
theorem d_W_init_1 : decode b_W_init 1 = .ok (.invokespecial 3, 3) := by decide +kernel
theorem d_W_init_4 : decode b_W_init 4 = .ok (.aload_n 0, 1) := by decide +kernel
theorem d_W_init_5 : decode b_W_init 5 = .ok (.bipush 32, 2) := by decide +kernel
theorem d_W_init_7 : decode b_W_init 7 = .ok (.newarray .int, 2) := by decide +kernel
theorem d_W_init_9 : decode b_W_init 9 = .ok (.putfield 9, 3) := by decide +kernel
theorem d_W_init_12 : decode b_W_init 12 = .ok (.aload_n 0, 1) := by decide +kernel
theorem d_W_init_13 : decode b_W_init 13 = .ok (.iconst 1, 1) := by decide +kernel
theorem d_W_init_14 : decode b_W_init 14 = .ok (.putfield 15, 3) := by decide +kernel
theorem d_W_init_17 : decode b_W_init 17 = .ok (.aload_n 0, 1) := by decide +kernel
theorem d_W_init_18 : decode b_W_init 18 = .ok (.iconst 0, 1) := by decide +kernel
theorem d_W_init_19 : decode b_W_init 19 = .ok (.putfield 19, 3) := by decide +kernel
theorem d_W_init_22 : decode b_W_init 22 = .ok (.return_, 1) := by decide +kernel
theorem d_W_clear_0 : decode b_W_clear 0 = .ok (.aload_n 0, 1) := by decide +kernel
theorem d_W_clear_1 : decode b_W_clear 1 = .ok (.iload_n 1, 1) := by decide +kernel
theorem d_W_clear_2 : decode b_W_clear 2 = .ok (.putfield 15, 3) := by decide +kernel
theorem d_W_clear_5 : decode b_W_clear 5 = .ok (.aload_n 0, 1) := by decide +kernel
theorem d_W_clear_6 : decode b_W_clear 6 = .ok (.iconst 0, 1) := by decide +kernel
theorem d_W_clear_7 : decode b_W_clear 7 = .ok (.putfield 19, 3) := by decide +kernel
theorem d_W_clear_10 : decode b_W_clear 10 = .ok (.return_, 1) := by decide +kernel
theorem d_W_append_0 : decode b_W_append 0 = .ok (.iload_n 1, 1) := by decide +kernel
theorem d_W_append_1 : decode b_W_append 1 = .ok (.ifCond .eq 29, 3) := by decide +kernel
theorem d_W_append_4 : decode b_W_append 4 = .ok (.iload_n 1, 1) := by decide +kernel
theorem d_W_append_5 : decode b_W_append 5 = .ok (.aload_n 0, 1) := by decide +kernel
theorem d_W_append_6 : decode b_W_append 6 = .ok (.getfield 15, 3) := by decide +kernel
theorem d_W_append_9 : decode b_W_append 9 = .ok (.ineg, 1) := by decide +kernel
theorem d_W_append_10 : decode b_W_append 10 = .ok (.if_icmp .le 20, 3) := by decide +kernel
theorem d_W_append_13 : decode b_W_append 13 = .ok (.iload_n 1, 1) := by decide +kernel
theorem d_W_append_14 : decode b_W_append 14 = .ok (.aload_n 0, 1) := by decide +kernel
theorem d_W_append_15 : decode b_W_append 15 = .ok (.getfield 15, 3) := by decide +kernel
theorem d_W_append_18 : decode b_W_append 18 = .ok (.if_icmp .ge 12, 3) := by decide +kernel
theorem d_W_append_21 : decode b_W_append 21 = .ok (.aload_n 0, 1) := by decide +kernel
theorem d_W_append_22 : decode b_W_append 22 = .ok (.getfield 19, 3) := by decide +kernel
theorem d_W_append_25 : decode b_W_append 25 = .ok (.bipush 32, 2) := by decide +kernel
theorem d_W_append_27 : decode b_W_append 27 = .ok (.if_icmp .lt 5, 3) := by decide +kernel
theorem d_W_append_30 : decode b_W_append 30 = .ok (.iconst 0, 1) := by decide +kernel
theorem d_W_append_31 : decode b_W_append 31 = .ok (.ireturn, 1) := by decide +kernel
theorem d_W_append_32 : decode b_W_append 32 = .ok (.aload_n 0, 1) := by decide +kernel
theorem d_W_append_33 : decode b_W_append 33 = .ok (.getfield 9, 3) := by decide +kernel
theorem d_W_append_36 : decode b_W_append 36 = .ok (.aload_n 0, 1) := by decide +kernel
theorem d_W_append_37 : decode b_W_append 37 = .ok (.getfield 19, 3) := by decide +kernel
theorem d_W_append_40 : decode b_W_append 40 = .ok (.iload_n 1, 1) := by decide +kernel
theorem d_W_append_41 : decode b_W_append 41 = .ok (.iastore, 1) := by decide +kernel
theorem d_W_append_42 : decode b_W_append 42 = .ok (.aload_n 0, 1) := by decide +kernel
theorem d_W_append_43 : decode b_W_append 43 = .ok (.dup, 1) := by decide +kernel
theorem d_W_append_44 : decode b_W_append 44 = .ok (.getfield 19, 3) := by decide +kernel
theorem d_W_append_47 : decode b_W_append 47 = .ok (.iconst 1, 1) := by decide +kernel
theorem d_W_append_48 : decode b_W_append 48 = .ok (.iadd, 1) := by decide +kernel
theorem d_W_append_49 : decode b_W_append 49 = .ok (.putfield 19, 3) := by decide +kernel
theorem d_W_append_52 : decode b_W_append 52 = .ok (.iconst 1, 1) := by decide +kernel
theorem d_W_append_53 : decode b_W_append 53 = .ok (.ireturn, 1) := by decide +kernel
theorem d_W_take_0 : decode b_W_take 0 = .ok (.aload_n 0, 1) := by decide +kernel
theorem d_W_take_1 : decode b_W_take 1 = .ok (.aload_n 1, 1) := by decide +kernel
theorem d_W_take_2 : decode b_W_take 2 = .ok (.getfield 15, 3) := by decide +kernel
theorem d_W_take_5 : decode b_W_take 5 = .ok (.putfield 15, 3) := by decide +kernel
theorem d_W_take_8 : decode b_W_take 8 = .ok (.aload_n 0, 1) := by decide +kernel
theorem d_W_take_9 : decode b_W_take 9 = .ok (.aload_n 1, 1) := by decide +kernel
theorem d_W_take_10 : decode b_W_take 10 = .ok (.getfield 19, 3) := by decide +kernel
theorem d_W_take_13 : decode b_W_take 13 = .ok (.putfield 19, 3) := by decide +kernel
theorem d_W_take_16 : decode b_W_take 16 = .ok (.aload_n 1, 1) := by decide +kernel
theorem d_W_take_17 : decode b_W_take 17 = .ok (.getfield 9, 3) := by decide +kernel
theorem d_W_take_20 : decode b_W_take 20 = .ok (.iconst 0, 1) := by decide +kernel
theorem d_W_take_21 : decode b_W_take 21 = .ok (.aload_n 0, 1) := by decide +kernel
theorem d_W_take_22 : decode b_W_take 22 = .ok (.getfield 9, 3) := by decide +kernel
theorem d_W_take_25 : decode b_W_take 25 = .ok (.iconst 0, 1) := by decide +kernel
theorem d_W_take_26 : decode b_W_take 26 = .ok (.aload_n 0, 1) := by decide +kernel
theorem d_W_take_27 : decode b_W_take 27 = .ok (.getfield 19, 3) := by decide +kernel
theorem d_W_take_30 : decode b_W_take 30 = .ok (.invokestatic 22, 3) := by decide +kernel
theorem d_W_take_33 : decode b_W_take 33 = .ok (.return_, 1) := by decide +kernel
theorem d_W_equalTo_0 : decode b_W_equalTo 0 = .ok (.aload_n 0, 1) := by decide +kernel
theorem d_W_equalTo_1 : decode b_W_equalTo 1 = .ok (.getfield 15, 3) := by decide +kernel
theorem d_W_equalTo_4 : decode b_W_equalTo 4 = .ok (.aload_n 1, 1) := by decide +kernel
theorem d_W_equalTo_5 : decode b_W_equalTo 5 = .ok (.getfield 15, 3) := by decide +kernel
theorem d_W_equalTo_8 : decode b_W_equalTo 8 = .ok (.if_icmp .ne 14, 3) := by decide +kernel
theorem d_W_equalTo_11 : decode b_W_equalTo 11 = .ok (.aload_n 0, 1) := by decide +kernel
theorem d_W_equalTo_12 : decode b_W_equalTo 12 = .ok (.getfield 19, 3) := by decide +kernel
theorem d_W_equalTo_15 : decode b_W_equalTo 15 = .ok (.aload_n 1, 1) := by decide +kernel
theorem d_W_equalTo_16 : decode b_W_equalTo 16 = .ok (.getfield 19, 3) := by decide +kernel
theorem d_W_equalTo_19 : decode b_W_equalTo 19 = .ok (.if_icmp .eq 5, 3) := by decide +kernel
theorem d_W_equalTo_22 : decode b_W_equalTo 22 = .ok (.iconst 0, 1) := by decide +kernel
theorem d_W_equalTo_23 : decode b_W_equalTo 23 = .ok (.ireturn, 1) := by decide +kernel
theorem d_W_equalTo_24 : decode b_W_equalTo 24 = .ok (.iconst 0, 1) := by decide +kernel
theorem d_W_equalTo_25 : decode b_W_equalTo 25 = .ok (.istore_n 2, 1) := by decide +kernel
theorem d_W_equalTo_26 : decode b_W_equalTo 26 = .ok (.iload_n 2, 1) := by decide +kernel
theorem d_W_equalTo_27 : decode b_W_equalTo 27 = .ok (.aload_n 0, 1) := by decide +kernel
theorem d_W_equalTo_28 : decode b_W_equalTo 28 = .ok (.getfield 19, 3) := by decide +kernel
theorem d_W_equalTo_31 : decode b_W_equalTo 31 = .ok (.if_icmp .ge 26, 3) := by decide +kernel
theorem d_W_equalTo_34 : decode b_W_equalTo 34 = .ok (.aload_n 0, 1) := by decide +kernel
theorem d_W_equalTo_35 : decode b_W_equalTo 35 = .ok (.getfield 9, 3) := by decide +kernel
theorem d_W_equalTo_38 : decode b_W_equalTo 38 = .ok (.iload_n 2, 1) := by decide +kernel
theorem d_W_equalTo_39 : decode b_W_equalTo 39 = .ok (.iaload, 1) := by decide +kernel
theorem d_W_equalTo_40 : decode b_W_equalTo 40 = .ok (.aload_n 1, 1) := by decide +kernel
theorem d_W_equalTo_41 : decode b_W_equalTo 41 = .ok (.getfield 9, 3) := by decide +kernel
theorem d_W_equalTo_44 : decode b_W_equalTo 44 = .ok (.iload_n 2, 1) := by decide +kernel
theorem d_W_equalTo_45 : decode b_W_equalTo 45 = .ok (.iaload, 1) := by decide +kernel
theorem d_W_equalTo_46 : decode b_W_equalTo 46 = .ok (.if_icmp .eq 5, 3) := by decide +kernel
theorem d_W_equalTo_49 : decode b_W_equalTo 49 = .ok (.iconst 0, 1) := by decide +kernel
theorem d_W_equalTo_50 : decode b_W_equalTo 50 = .ok (.ireturn, 1) := by decide +kernel
theorem d_W_equalTo_51 : decode b_W_equalTo 51 = .ok (.iinc 2 1, 3) := by decide +kernel
theorem d_W_equalTo_54 : decode b_W_equalTo 54 = .ok (.goto (-28), 3) := by decide +kernel
theorem d_W_equalTo_57 : decode b_W_equalTo 57 = .ok (.iconst 1, 1) := by decide +kernel
theorem d_W_equalTo_58 : decode b_W_equalTo 58 = .ok (.ireturn, 1) := by decide +kernel
theorem d_W_invert_0 : decode b_W_invert 0 = .ok (.iconst 0, 1) := by decide +kernel
theorem d_W_invert_1 : decode b_W_invert 1 = .ok (.istore_n 1, 1) := by decide +kernel
theorem d_W_invert_2 : decode b_W_invert 2 = .ok (.aload_n 0, 1) := by decide +kernel
theorem d_W_invert_3 : decode b_W_invert 3 = .ok (.getfield 19, 3) := by decide +kernel
theorem d_W_invert_6 : decode b_W_invert 6 = .ok (.iconst 1, 1) := by decide +kernel
theorem d_W_invert_7 : decode b_W_invert 7 = .ok (.isub, 1) := by decide +kernel
theorem d_W_invert_8 : decode b_W_invert 8 = .ok (.istore_n 2, 1) := by decide +kernel
theorem d_W_invert_9 : decode b_W_invert 9 = .ok (.iload_n 1, 1) := by decide +kernel
theorem d_W_invert_10 : decode b_W_invert 10 = .ok (.iload_n 2, 1) := by decide +kernel
theorem d_W_invert_11 : decode b_W_invert 11 = .ok (.if_icmp .gt 40, 3) := by decide +kernel
theorem d_W_invert_14 : decode b_W_invert 14 = .ok (.aload_n 0, 1) := by decide +kernel
theorem d_W_invert_15 : decode b_W_invert 15 = .ok (.getfield 9, 3) := by decide +kernel
theorem d_W_invert_18 : decode b_W_invert 18 = .ok (.iload_n 1, 1) := by decide +kernel
theorem d_W_invert_19 : decode b_W_invert 19 = .ok (.iaload, 1) := by decide +kernel
theorem d_W_invert_20 : decode b_W_invert 20 = .ok (.istore_n 3, 1) := by decide +kernel
theorem d_W_invert_21 : decode b_W_invert 21 = .ok (.aload_n 0, 1) := by decide +kernel
theorem d_W_invert_22 : decode b_W_invert 22 = .ok (.getfield 9, 3) := by decide +kernel
theorem d_W_invert_25 : decode b_W_invert 25 = .ok (.iload_n 1, 1) := by decide +kernel
theorem d_W_invert_26 : decode b_W_invert 26 = .ok (.aload_n 0, 1) := by decide +kernel
theorem d_W_invert_27 : decode b_W_invert 27 = .ok (.getfield 9, 3) := by decide +kernel
theorem d_W_invert_30 : decode b_W_invert 30 = .ok (.iload_n 2, 1) := by decide +kernel
theorem d_W_invert_31 : decode b_W_invert 31 = .ok (.iaload, 1) := by decide +kernel
theorem d_W_invert_32 : decode b_W_invert 32 = .ok (.ineg, 1) := by decide +kernel
theorem d_W_invert_33 : decode b_W_invert 33 = .ok (.iastore, 1) := by decide +kernel
theorem d_W_invert_34 : decode b_W_invert 34 = .ok (.aload_n 0, 1) := by decide +kernel
theorem d_W_invert_35 : decode b_W_invert 35 = .ok (.getfield 9, 3) := by decide +kernel
theorem d_W_invert_38 : decode b_W_invert 38 = .ok (.iload_n 2, 1) := by decide +kernel
theorem d_W_invert_39 : decode b_W_invert 39 = .ok (.iload_n 3, 1) := by decide +kernel
theorem d_W_invert_40 : decode b_W_invert 40 = .ok (.ineg, 1) := by decide +kernel
theorem d_W_invert_41 : decode b_W_invert 41 = .ok (.iastore, 1) := by decide +kernel
theorem d_W_invert_42 : decode b_W_invert 42 = .ok (.iinc 1 1, 3) := by decide +kernel
theorem d_W_invert_45 : decode b_W_invert 45 = .ok (.iinc 2 (-1), 3) := by decide +kernel
theorem d_W_invert_48 : decode b_W_invert 48 = .ok (.goto (-39), 3) := by decide +kernel
theorem d_W_invert_51 : decode b_W_invert 51 = .ok (.return_, 1) := by decide +kernel
theorem d_W_hasPlace_0 : decode b_W_hasPlace 0 = .ok (.iload_n 1, 1) := by decide +kernel
theorem d_W_hasPlace_1 : decode b_W_hasPlace 1 = .ok (.iconst 1, 1) := by decide +kernel
theorem d_W_hasPlace_2 : decode b_W_hasPlace 2 = .ok (.if_icmp .lt 15, 3) := by decide +kernel
theorem d_W_hasPlace_5 : decode b_W_hasPlace 5 = .ok (.iload_n 1, 1) := by decide +kernel
theorem d_W_hasPlace_6 : decode b_W_hasPlace 6 = .ok (.aload_n 0, 1) := by decide +kernel
theorem d_W_hasPlace_7 : decode b_W_hasPlace 7 = .ok (.getfield 15, 3) := by decide +kernel
theorem d_W_hasPlace_10 : decode b_W_hasPlace 10 = .ok (.if_icmp .gt 7, 3) := by decide +kernel
theorem d_W_hasPlace_13 : decode b_W_hasPlace 13 = .ok (.iconst 1, 1) := by decide +kernel
theorem d_W_hasPlace_14 : decode b_W_hasPlace 14 = .ok (.goto 4, 3) := by decide +kernel
theorem d_W_hasPlace_17 : decode b_W_hasPlace 17 = .ok (.iconst 0, 1) := by decide +kernel
theorem d_W_hasPlace_18 : decode b_W_hasPlace 18 = .ok (.ireturn, 1) := by decide +kernel
theorem d_W_hasLetters_0 : decode b_W_hasLetters 0 = .ok (.iload_n 1, 1) := by decide +kernel
theorem d_W_hasLetters_1 : decode b_W_hasLetters 1 = .ok (.ifCond .lt 17, 3) := by decide +kernel
theorem d_W_hasLetters_4 : decode b_W_hasLetters 4 = .ok (.iload_n 1, 1) := by decide +kernel
theorem d_W_hasLetters_5 : decode b_W_hasLetters 5 = .ok (.aload_n 0, 1) := by decide +kernel
theorem d_W_hasLetters_6 : decode b_W_hasLetters 6 = .ok (.getfield 19, 3) := by decide +kernel
theorem d_W_hasLetters_9 : decode b_W_hasLetters 9 = .ok (.iload_n 2, 1) := by decide +kernel
theorem d_W_hasLetters_10 : decode b_W_hasLetters 10 = .ok (.isub, 1) := by decide +kernel
theorem d_W_hasLetters_11 : decode b_W_hasLetters 11 = .ok (.if_icmp .gt 7, 3) := by decide +kernel
theorem d_W_hasLetters_14 : decode b_W_hasLetters 14 = .ok (.iconst 1, 1) := by decide +kernel
theorem d_W_hasLetters_15 : decode b_W_hasLetters 15 = .ok (.goto 4, 3) := by decide +kernel
theorem d_W_hasLetters_18 : decode b_W_hasLetters 18 = .ok (.iconst 0, 1) := by decide +kernel
theorem d_W_hasLetters_19 : decode b_W_hasLetters 19 = .ok (.ireturn, 1) := by decide +kernel
theorem d_W_value_0 : decode b_W_value 0 = .ok (.aload_n 0, 1) := by decide +kernel
theorem d_W_value_1 : decode b_W_value 1 = .ok (.getfield 9, 3) := by decide +kernel
theorem d_W_value_4 : decode b_W_value 4 = .ok (.iload_n 1, 1) := by decide +kernel
theorem d_W_value_5 : decode b_W_value 5 = .ok (.iaload, 1) := by decide +kernel
theorem d_W_value_6 : decode b_W_value 6 = .ok (.invokestatic 28, 3) := by decide +kernel
theorem d_W_value_9 : decode b_W_value 9 = .ok (.ireturn, 1) := by decide +kernel
theorem d_W_signSum_0 : decode b_W_signSum 0 = .ok (.iconst 0, 1) := by decide +kernel
theorem d_W_signSum_1 : decode b_W_signSum 1 = .ok (.istore_n 1, 1) := by decide +kernel
theorem d_W_signSum_2 : decode b_W_signSum 2 = .ok (.iconst 0, 1) := by decide +kernel
theorem d_W_signSum_3 : decode b_W_signSum 3 = .ok (.istore_n 2, 1) := by decide +kernel
theorem d_W_signSum_4 : decode b_W_signSum 4 = .ok (.iload_n 2, 1) := by decide +kernel
theorem d_W_signSum_5 : decode b_W_signSum 5 = .ok (.aload_n 0, 1) := by decide +kernel
theorem d_W_signSum_6 : decode b_W_signSum 6 = .ok (.getfield 19, 3) := by decide +kernel
theorem d_W_signSum_9 : decode b_W_signSum 9 = .ok (.if_icmp .ge 21, 3) := by decide +kernel
theorem d_W_signSum_12 : decode b_W_signSum 12 = .ok (.iload_n 1, 1) := by decide +kernel
theorem d_W_signSum_13 : decode b_W_signSum 13 = .ok (.aload_n 0, 1) := by decide +kernel
theorem d_W_signSum_14 : decode b_W_signSum 14 = .ok (.getfield 9, 3) := by decide +kernel
theorem d_W_signSum_17 : decode b_W_signSum 17 = .ok (.iload_n 2, 1) := by decide +kernel
theorem d_W_signSum_18 : decode b_W_signSum 18 = .ok (.iaload, 1) := by decide +kernel
theorem d_W_signSum_19 : decode b_W_signSum 19 = .ok (.invokestatic 34, 3) := by decide +kernel
theorem d_W_signSum_22 : decode b_W_signSum 22 = .ok (.iadd, 1) := by decide +kernel
theorem d_W_signSum_23 : decode b_W_signSum 23 = .ok (.istore_n 1, 1) := by decide +kernel
theorem d_W_signSum_24 : decode b_W_signSum 24 = .ok (.iinc 2 1, 3) := by decide +kernel
theorem d_W_signSum_27 : decode b_W_signSum 27 = .ok (.goto (-23), 3) := by decide +kernel
theorem d_W_signSum_30 : decode b_W_signSum 30 = .ok (.iload_n 1, 1) := by decide +kernel
theorem d_W_signSum_31 : decode b_W_signSum 31 = .ok (.ireturn, 1) := by decide +kernel
theorem d_W_negatives_0 : decode b_W_negatives 0 = .ok (.aload_n 0, 1) := by decide +kernel
theorem d_W_negatives_1 : decode b_W_negatives 1 = .ok (.getfield 19, 3) := by decide +kernel
theorem d_W_negatives_4 : decode b_W_negatives 4 = .ok (.aload_n 0, 1) := by decide +kernel
theorem d_W_negatives_5 : decode b_W_negatives 5 = .ok (.invokevirtual 39, 3) := by decide +kernel
theorem d_W_negatives_8 : decode b_W_negatives 8 = .ok (.isub, 1) := by decide +kernel
theorem d_W_negatives_9 : decode b_W_negatives 9 = .ok (.iconst 2, 1) := by decide +kernel
theorem d_W_negatives_10 : decode b_W_negatives 10 = .ok (.idiv, 1) := by decide +kernel
theorem d_W_negatives_11 : decode b_W_negatives 11 = .ok (.ireturn, 1) := by decide +kernel
theorem d_W_endOf_0 : decode b_W_endOf 0 = .ok (.iload_n 1, 1) := by decide +kernel
theorem d_W_endOf_1 : decode b_W_endOf 1 = .ok (.istore_n 2, 1) := by decide +kernel
theorem d_W_endOf_2 : decode b_W_endOf 2 = .ok (.iconst 0, 1) := by decide +kernel
theorem d_W_endOf_3 : decode b_W_endOf 3 = .ok (.istore_n 3, 1) := by decide +kernel
theorem d_W_endOf_4 : decode b_W_endOf 4 = .ok (.iload_n 3, 1) := by decide +kernel
theorem d_W_endOf_5 : decode b_W_endOf 5 = .ok (.aload_n 0, 1) := by decide +kernel
theorem d_W_endOf_6 : decode b_W_endOf 6 = .ok (.getfield 19, 3) := by decide +kernel
theorem d_W_endOf_9 : decode b_W_endOf 9 = .ok (.if_icmp .ge 38, 3) := by decide +kernel
theorem d_W_endOf_12 : decode b_W_endOf 12 = .ok (.iload_n 2, 1) := by decide +kernel
theorem d_W_endOf_13 : decode b_W_endOf 13 = .ok (.aload_n 0, 1) := by decide +kernel
theorem d_W_endOf_14 : decode b_W_endOf 14 = .ok (.iload_n 3, 1) := by decide +kernel
theorem d_W_endOf_15 : decode b_W_endOf 15 = .ok (.invokevirtual 43, 3) := by decide +kernel
theorem d_W_endOf_18 : decode b_W_endOf 18 = .ok (.if_icmp .ne 9, 3) := by decide +kernel
theorem d_W_endOf_21 : decode b_W_endOf 21 = .ok (.iinc 2 1, 3) := by decide +kernel
theorem d_W_endOf_24 : decode b_W_endOf 24 = .ok (.goto 17, 3) := by decide +kernel
theorem d_W_endOf_27 : decode b_W_endOf 27 = .ok (.iload_n 2, 1) := by decide +kernel
theorem d_W_endOf_28 : decode b_W_endOf 28 = .ok (.aload_n 0, 1) := by decide +kernel
theorem d_W_endOf_29 : decode b_W_endOf 29 = .ok (.iload_n 3, 1) := by decide +kernel
theorem d_W_endOf_30 : decode b_W_endOf 30 = .ok (.invokevirtual 43, 3) := by decide +kernel
theorem d_W_endOf_33 : decode b_W_endOf 33 = .ok (.iconst 1, 1) := by decide +kernel
theorem d_W_endOf_34 : decode b_W_endOf 34 = .ok (.iadd, 1) := by decide +kernel
theorem d_W_endOf_35 : decode b_W_endOf 35 = .ok (.if_icmp .ne 6, 3) := by decide +kernel
theorem d_W_endOf_38 : decode b_W_endOf 38 = .ok (.iinc 2 (-1), 3) := by decide +kernel
theorem d_W_endOf_41 : decode b_W_endOf 41 = .ok (.iinc 3 1, 3) := by decide +kernel
theorem d_W_endOf_44 : decode b_W_endOf 44 = .ok (.goto (-40), 3) := by decide +kernel
theorem d_W_endOf_47 : decode b_W_endOf 47 = .ok (.iload_n 2, 1) := by decide +kernel
theorem d_W_endOf_48 : decode b_W_endOf 48 = .ok (.ireturn, 1) := by decide +kernel
theorem d_W_components_0 : decode b_W_components 0 = .ok (.iconst 0, 1) := by decide +kernel
theorem d_W_components_1 : decode b_W_components 1 = .ok (.istore_n 1, 1) := by decide +kernel
theorem d_W_components_2 : decode b_W_components 2 = .ok (.iconst 0, 1) := by decide +kernel
theorem d_W_components_3 : decode b_W_components 3 = .ok (.istore_n 2, 1) := by decide +kernel
theorem d_W_components_4 : decode b_W_components 4 = .ok (.iconst 1, 1) := by decide +kernel
theorem d_W_components_5 : decode b_W_components 5 = .ok (.istore_n 3, 1) := by decide +kernel
theorem d_W_components_6 : decode b_W_components 6 = .ok (.iload_n 3, 1) := by decide +kernel
theorem d_W_components_7 : decode b_W_components 7 = .ok (.aload_n 0, 1) := by decide +kernel
theorem d_W_components_8 : decode b_W_components 8 = .ok (.getfield 15, 3) := by decide +kernel
theorem d_W_components_11 : decode b_W_components 11 = .ok (.if_icmp .gt 65, 3) := by decide +kernel
theorem d_W_components_14 : decode b_W_components 14 = .ok (.iload_n 2, 1) := by decide +kernel
theorem d_W_components_15 : decode b_W_components 15 = .ok (.iload_n 3, 1) := by decide +kernel
theorem d_W_components_16 : decode b_W_components 16 = .ok (.ishr, 1) := by decide +kernel
theorem d_W_components_17 : decode b_W_components 17 = .ok (.iconst 1, 1) := by decide +kernel
theorem d_W_components_18 : decode b_W_components 18 = .ok (.iand, 1) := by decide +kernel
theorem d_W_components_19 : decode b_W_components 19 = .ok (.ifCond .ne 6, 3) := by decide +kernel
theorem d_W_components_22 : decode b_W_components 22 = .ok (.iinc 1 1, 3) := by decide +kernel
theorem d_W_components_25 : decode b_W_components 25 = .ok (.iload_n 3, 1) := by decide +kernel
theorem d_W_components_26 : decode b_W_components 26 = .ok (.istore 4, 2) := by decide +kernel
theorem d_W_components_28 : decode b_W_components 28 = .ok (.iconst 0, 1) := by decide +kernel
theorem d_W_components_29 : decode b_W_components 29 = .ok (.istore 5, 2) := by decide +kernel
theorem d_W_components_31 : decode b_W_components 31 = .ok (.iload 5, 2) := by decide +kernel
theorem d_W_components_33 : decode b_W_components 33 = .ok (.aload_n 0, 1) := by decide +kernel
theorem d_W_components_34 : decode b_W_components 34 = .ok (.getfield 15, 3) := by decide +kernel
theorem d_W_components_37 : decode b_W_components 37 = .ok (.if_icmp .ge 33, 3) := by decide +kernel
theorem d_W_components_40 : decode b_W_components 40 = .ok (.iload_n 2, 1) := by decide +kernel
theorem d_W_components_41 : decode b_W_components 41 = .ok (.iload 4, 2) := by decide +kernel
theorem d_W_components_43 : decode b_W_components 43 = .ok (.ishr, 1) := by decide +kernel
theorem d_W_components_44 : decode b_W_components 44 = .ok (.iconst 1, 1) := by decide +kernel
theorem d_W_components_45 : decode b_W_components 45 = .ok (.iand, 1) := by decide +kernel
theorem d_W_components_46 : decode b_W_components 46 = .ok (.ifCond .ne 24, 3) := by decide +kernel
theorem d_W_components_49 : decode b_W_components 49 = .ok (.iload_n 2, 1) := by decide +kernel
theorem d_W_components_50 : decode b_W_components 50 = .ok (.iconst 1, 1) := by decide +kernel
theorem d_W_components_51 : decode b_W_components 51 = .ok (.iload 4, 2) := by decide +kernel
theorem d_W_components_53 : decode b_W_components 53 = .ok (.ishl, 1) := by decide +kernel
theorem d_W_components_54 : decode b_W_components 54 = .ok (.ior, 1) := by decide +kernel
theorem d_W_components_55 : decode b_W_components 55 = .ok (.istore_n 2, 1) := by decide +kernel
theorem d_W_components_56 : decode b_W_components 56 = .ok (.aload_n 0, 1) := by decide +kernel
theorem d_W_components_57 : decode b_W_components 57 = .ok (.iload 4, 2) := by decide +kernel
theorem d_W_components_59 : decode b_W_components 59 = .ok (.invokevirtual 46, 3) := by decide +kernel
theorem d_W_components_62 : decode b_W_components 62 = .ok (.istore 4, 2) := by decide +kernel
theorem d_W_components_64 : decode b_W_components 64 = .ok (.iinc 5 1, 3) := by decide +kernel
theorem d_W_components_67 : decode b_W_components 67 = .ok (.goto (-36), 3) := by decide +kernel
theorem d_W_components_70 : decode b_W_components 70 = .ok (.iinc 3 1, 3) := by decide +kernel
theorem d_W_components_73 : decode b_W_components 73 = .ok (.goto (-67), 3) := by decide +kernel
theorem d_W_components_76 : decode b_W_components 76 = .ok (.iload_n 1, 1) := by decide +kernel
theorem d_W_components_77 : decode b_W_components 77 = .ok (.ireturn, 1) := by decide +kernel
theorem d_W_circles_0 : decode b_W_circles 0 = .ok (.iconst 0, 1) := by decide +kernel
theorem d_W_circles_1 : decode b_W_circles 1 = .ok (.istore_n 1, 1) := by decide +kernel
theorem d_W_circles_2 : decode b_W_circles 2 = .ok (.iconst 1, 1) := by decide +kernel
theorem d_W_circles_3 : decode b_W_circles 3 = .ok (.istore_n 2, 1) := by decide +kernel
theorem d_W_circles_4 : decode b_W_circles 4 = .ok (.iload_n 2, 1) := by decide +kernel
theorem d_W_circles_5 : decode b_W_circles 5 = .ok (.aload_n 0, 1) := by decide +kernel
theorem d_W_circles_6 : decode b_W_circles 6 = .ok (.getfield 15, 3) := by decide +kernel
theorem d_W_circles_9 : decode b_W_circles 9 = .ok (.if_icmp .gt 21, 3) := by decide +kernel
theorem d_W_circles_12 : decode b_W_circles 12 = .ok (.aload_n 0, 1) := by decide +kernel
theorem d_W_circles_13 : decode b_W_circles 13 = .ok (.iconst 0, 1) := by decide +kernel
theorem d_W_circles_14 : decode b_W_circles 14 = .ok (.iload_n 2, 1) := by decide +kernel
theorem d_W_circles_15 : decode b_W_circles 15 = .ok (.invokevirtual 49, 3) := by decide +kernel
theorem d_W_circles_18 : decode b_W_circles 18 = .ok (.ifCond .ne 6, 3) := by decide +kernel
theorem d_W_circles_21 : decode b_W_circles 21 = .ok (.iinc 1 1, 3) := by decide +kernel
theorem d_W_circles_24 : decode b_W_circles 24 = .ok (.iinc 2 1, 3) := by decide +kernel
theorem d_W_circles_27 : decode b_W_circles 27 = .ok (.goto (-23), 3) := by decide +kernel
theorem d_W_circles_30 : decode b_W_circles 30 = .ok (.iload_n 1, 1) := by decide +kernel
theorem d_W_circles_31 : decode b_W_circles 31 = .ok (.ireturn, 1) := by decide +kernel
theorem d_W_touches_0 : decode b_W_touches 0 = .ok (.iload_n 2, 1) := by decide +kernel
theorem d_W_touches_1 : decode b_W_touches 1 = .ok (.aload_n 0, 1) := by decide +kernel
theorem d_W_touches_2 : decode b_W_touches 2 = .ok (.iload_n 1, 1) := by decide +kernel
theorem d_W_touches_3 : decode b_W_touches 3 = .ok (.invokevirtual 43, 3) := by decide +kernel
theorem d_W_touches_6 : decode b_W_touches 6 = .ok (.if_icmp .eq 14, 3) := by decide +kernel
theorem d_W_touches_9 : decode b_W_touches 9 = .ok (.iload_n 2, 1) := by decide +kernel
theorem d_W_touches_10 : decode b_W_touches 10 = .ok (.aload_n 0, 1) := by decide +kernel
theorem d_W_touches_11 : decode b_W_touches 11 = .ok (.iload_n 1, 1) := by decide +kernel
theorem d_W_touches_12 : decode b_W_touches 12 = .ok (.invokevirtual 43, 3) := by decide +kernel
theorem d_W_touches_15 : decode b_W_touches 15 = .ok (.iconst 1, 1) := by decide +kernel
theorem d_W_touches_16 : decode b_W_touches 16 = .ok (.iadd, 1) := by decide +kernel
theorem d_W_touches_17 : decode b_W_touches 17 = .ok (.if_icmp .ne 7, 3) := by decide +kernel
theorem d_W_touches_20 : decode b_W_touches 20 = .ok (.iconst 1, 1) := by decide +kernel
theorem d_W_touches_21 : decode b_W_touches 21 = .ok (.goto 4, 3) := by decide +kernel
theorem d_W_touches_24 : decode b_W_touches 24 = .ok (.iconst 0, 1) := by decide +kernel
theorem d_W_touches_25 : decode b_W_touches 25 = .ok (.ireturn, 1) := by decide +kernel
theorem d_W_touchedFrom_0 : decode b_W_touchedFrom 0 = .ok (.iload_n 1, 1) := by decide +kernel
theorem d_W_touchedFrom_1 : decode b_W_touchedFrom 1 = .ok (.istore_n 3, 1) := by decide +kernel
theorem d_W_touchedFrom_2 : decode b_W_touchedFrom 2 = .ok (.iload_n 3, 1) := by decide +kernel
theorem d_W_touchedFrom_3 : decode b_W_touchedFrom 3 = .ok (.aload_n 0, 1) := by decide +kernel
theorem d_W_touchedFrom_4 : decode b_W_touchedFrom 4 = .ok (.getfield 19, 3) := by decide +kernel
theorem d_W_touchedFrom_7 : decode b_W_touchedFrom 7 = .ok (.if_icmp .ge 20, 3) := by decide +kernel
theorem d_W_touchedFrom_10 : decode b_W_touchedFrom 10 = .ok (.aload_n 0, 1) := by decide +kernel
theorem d_W_touchedFrom_11 : decode b_W_touchedFrom 11 = .ok (.iload_n 3, 1) := by decide +kernel
theorem d_W_touchedFrom_12 : decode b_W_touchedFrom 12 = .ok (.iload_n 2, 1) := by decide +kernel
theorem d_W_touchedFrom_13 : decode b_W_touchedFrom 13 = .ok (.invokevirtual 53, 3) := by decide +kernel
theorem d_W_touchedFrom_16 : decode b_W_touchedFrom 16 = .ok (.ifCond .eq 5, 3) := by decide +kernel
theorem d_W_touchedFrom_19 : decode b_W_touchedFrom 19 = .ok (.iconst 1, 1) := by decide +kernel
theorem d_W_touchedFrom_20 : decode b_W_touchedFrom 20 = .ok (.ireturn, 1) := by decide +kernel
theorem d_W_touchedFrom_21 : decode b_W_touchedFrom 21 = .ok (.iinc 3 1, 3) := by decide +kernel
theorem d_W_touchedFrom_24 : decode b_W_touchedFrom 24 = .ok (.goto (-22), 3) := by decide +kernel
theorem d_W_touchedFrom_27 : decode b_W_touchedFrom 27 = .ok (.iconst 0, 1) := by decide +kernel
theorem d_W_touchedFrom_28 : decode b_W_touchedFrom 28 = .ok (.ireturn, 1) := by decide +kernel
theorem d_W_cancelNeighbours_0 : decode b_W_cancelNeighbours 0 = .ok (.iconst 0, 1) := by decide +kernel
theorem d_W_cancelNeighbours_1 : decode b_W_cancelNeighbours 1 = .ok (.istore_n 1, 1) := by decide +kernel
theorem d_W_cancelNeighbours_2 : decode b_W_cancelNeighbours 2 = .ok (.iconst 0, 1) := by decide +kernel
theorem d_W_cancelNeighbours_3 : decode b_W_cancelNeighbours 3 = .ok (.istore_n 2, 1) := by decide +kernel
theorem d_W_cancelNeighbours_4 : decode b_W_cancelNeighbours 4 = .ok (.iload_n 2, 1) := by decide +kernel
theorem d_W_cancelNeighbours_5 : decode b_W_cancelNeighbours 5 = .ok (.aload_n 0, 1) := by decide +kernel
theorem d_W_cancelNeighbours_6 : decode b_W_cancelNeighbours 6 = .ok (.getfield 19, 3) := by decide +kernel
theorem d_W_cancelNeighbours_9 : decode b_W_cancelNeighbours 9 = .ok (.if_icmp .ge 52, 3) := by decide +kernel
theorem d_W_cancelNeighbours_12 : decode b_W_cancelNeighbours 12 = .ok (.iload_n 1, 1) := by decide +kernel
theorem d_W_cancelNeighbours_13 : decode b_W_cancelNeighbours 13 = .ok (.ifCond .le 27, 3) := by decide +kernel
theorem d_W_cancelNeighbours_16 : decode b_W_cancelNeighbours 16 = .ok (.aload_n 0, 1) := by decide +kernel
theorem d_W_cancelNeighbours_17 : decode b_W_cancelNeighbours 17 = .ok (.getfield 9, 3) := by decide +kernel
theorem d_W_cancelNeighbours_20 : decode b_W_cancelNeighbours 20 = .ok (.iload_n 1, 1) := by decide +kernel
theorem d_W_cancelNeighbours_21 : decode b_W_cancelNeighbours 21 = .ok (.iconst 1, 1) := by decide +kernel
theorem d_W_cancelNeighbours_22 : decode b_W_cancelNeighbours 22 = .ok (.isub, 1) := by decide +kernel
theorem d_W_cancelNeighbours_23 : decode b_W_cancelNeighbours 23 = .ok (.iaload, 1) := by decide +kernel
theorem d_W_cancelNeighbours_24 : decode b_W_cancelNeighbours 24 = .ok (.aload_n 0, 1) := by decide +kernel
theorem d_W_cancelNeighbours_25 : decode b_W_cancelNeighbours 25 = .ok (.getfield 9, 3) := by decide +kernel
theorem d_W_cancelNeighbours_28 : decode b_W_cancelNeighbours 28 = .ok (.iload_n 2, 1) := by decide +kernel
theorem d_W_cancelNeighbours_29 : decode b_W_cancelNeighbours 29 = .ok (.iaload, 1) := by decide +kernel
theorem d_W_cancelNeighbours_30 : decode b_W_cancelNeighbours 30 = .ok (.ineg, 1) := by decide +kernel
theorem d_W_cancelNeighbours_31 : decode b_W_cancelNeighbours 31 = .ok (.if_icmp .ne 9, 3) := by decide +kernel
theorem d_W_cancelNeighbours_34 : decode b_W_cancelNeighbours 34 = .ok (.iinc 1 (-1), 3) := by decide +kernel
theorem d_W_cancelNeighbours_37 : decode b_W_cancelNeighbours 37 = .ok (.goto 18, 3) := by decide +kernel
theorem d_W_cancelNeighbours_40 : decode b_W_cancelNeighbours 40 = .ok (.aload_n 0, 1) := by decide +kernel
theorem d_W_cancelNeighbours_41 : decode b_W_cancelNeighbours 41 = .ok (.getfield 9, 3) := by decide +kernel
theorem d_W_cancelNeighbours_44 : decode b_W_cancelNeighbours 44 = .ok (.iload_n 1, 1) := by decide +kernel
theorem d_W_cancelNeighbours_45 : decode b_W_cancelNeighbours 45 = .ok (.aload_n 0, 1) := by decide +kernel
theorem d_W_cancelNeighbours_46 : decode b_W_cancelNeighbours 46 = .ok (.getfield 9, 3) := by decide +kernel
theorem d_W_cancelNeighbours_49 : decode b_W_cancelNeighbours 49 = .ok (.iload_n 2, 1) := by decide +kernel
theorem d_W_cancelNeighbours_50 : decode b_W_cancelNeighbours 50 = .ok (.iaload, 1) := by decide +kernel
theorem d_W_cancelNeighbours_51 : decode b_W_cancelNeighbours 51 = .ok (.iastore, 1) := by decide +kernel
theorem d_W_cancelNeighbours_52 : decode b_W_cancelNeighbours 52 = .ok (.iinc 1 1, 3) := by decide +kernel
theorem d_W_cancelNeighbours_55 : decode b_W_cancelNeighbours 55 = .ok (.iinc 2 1, 3) := by decide +kernel
theorem d_W_cancelNeighbours_58 : decode b_W_cancelNeighbours 58 = .ok (.goto (-54), 3) := by decide +kernel
theorem d_W_cancelNeighbours_61 : decode b_W_cancelNeighbours 61 = .ok (.aload_n 0, 1) := by decide +kernel
theorem d_W_cancelNeighbours_62 : decode b_W_cancelNeighbours 62 = .ok (.iload_n 1, 1) := by decide +kernel
theorem d_W_cancelNeighbours_63 : decode b_W_cancelNeighbours 63 = .ok (.putfield 19, 3) := by decide +kernel
theorem d_W_cancelNeighbours_66 : decode b_W_cancelNeighbours 66 = .ok (.return_, 1) := by decide +kernel
theorem d_W_cancelEnds_0 : decode b_W_cancelEnds 0 = .ok (.iconst 0, 1) := by decide +kernel
theorem d_W_cancelEnds_1 : decode b_W_cancelEnds 1 = .ok (.istore_n 1, 1) := by decide +kernel
theorem d_W_cancelEnds_2 : decode b_W_cancelEnds 2 = .ok (.iload_n 1, 1) := by decide +kernel
theorem d_W_cancelEnds_3 : decode b_W_cancelEnds 3 = .ok (.aload_n 0, 1) := by decide +kernel
theorem d_W_cancelEnds_4 : decode b_W_cancelEnds 4 = .ok (.getfield 19, 3) := by decide +kernel
theorem d_W_cancelEnds_7 : decode b_W_cancelEnds 7 = .ok (.iconst 1, 1) := by decide +kernel
theorem d_W_cancelEnds_8 : decode b_W_cancelEnds 8 = .ok (.isub, 1) := by decide +kernel
theorem d_W_cancelEnds_9 : decode b_W_cancelEnds 9 = .ok (.iload_n 1, 1) := by decide +kernel
theorem d_W_cancelEnds_10 : decode b_W_cancelEnds 10 = .ok (.isub, 1) := by decide +kernel
theorem d_W_cancelEnds_11 : decode b_W_cancelEnds 11 = .ok (.if_icmp .ge 32, 3) := by decide +kernel
theorem d_W_cancelEnds_14 : decode b_W_cancelEnds 14 = .ok (.aload_n 0, 1) := by decide +kernel
theorem d_W_cancelEnds_15 : decode b_W_cancelEnds 15 = .ok (.getfield 9, 3) := by decide +kernel
theorem d_W_cancelEnds_18 : decode b_W_cancelEnds 18 = .ok (.iload_n 1, 1) := by decide +kernel
theorem d_W_cancelEnds_19 : decode b_W_cancelEnds 19 = .ok (.iaload, 1) := by decide +kernel
theorem d_W_cancelEnds_20 : decode b_W_cancelEnds 20 = .ok (.aload_n 0, 1) := by decide +kernel
theorem d_W_cancelEnds_21 : decode b_W_cancelEnds 21 = .ok (.getfield 9, 3) := by decide +kernel
theorem d_W_cancelEnds_24 : decode b_W_cancelEnds 24 = .ok (.aload_n 0, 1) := by decide +kernel
theorem d_W_cancelEnds_25 : decode b_W_cancelEnds 25 = .ok (.getfield 19, 3) := by decide +kernel
theorem d_W_cancelEnds_28 : decode b_W_cancelEnds 28 = .ok (.iconst 1, 1) := by decide +kernel
theorem d_W_cancelEnds_29 : decode b_W_cancelEnds 29 = .ok (.isub, 1) := by decide +kernel
theorem d_W_cancelEnds_30 : decode b_W_cancelEnds 30 = .ok (.iload_n 1, 1) := by decide +kernel
theorem d_W_cancelEnds_31 : decode b_W_cancelEnds 31 = .ok (.isub, 1) := by decide +kernel
theorem d_W_cancelEnds_32 : decode b_W_cancelEnds 32 = .ok (.iaload, 1) := by decide +kernel
theorem d_W_cancelEnds_33 : decode b_W_cancelEnds 33 = .ok (.ineg, 1) := by decide +kernel
theorem d_W_cancelEnds_34 : decode b_W_cancelEnds 34 = .ok (.if_icmp .ne 9, 3) := by decide +kernel
theorem d_W_cancelEnds_37 : decode b_W_cancelEnds 37 = .ok (.iinc 1 1, 3) := by decide +kernel
theorem d_W_cancelEnds_40 : decode b_W_cancelEnds 40 = .ok (.goto (-38), 3) := by decide +kernel
theorem d_W_cancelEnds_43 : decode b_W_cancelEnds 43 = .ok (.aload_n 0, 1) := by decide +kernel
theorem d_W_cancelEnds_44 : decode b_W_cancelEnds 44 = .ok (.dup, 1) := by decide +kernel
theorem d_W_cancelEnds_45 : decode b_W_cancelEnds 45 = .ok (.getfield 19, 3) := by decide +kernel
theorem d_W_cancelEnds_48 : decode b_W_cancelEnds 48 = .ok (.iconst 2, 1) := by decide +kernel
theorem d_W_cancelEnds_49 : decode b_W_cancelEnds 49 = .ok (.iload_n 1, 1) := by decide +kernel
theorem d_W_cancelEnds_50 : decode b_W_cancelEnds 50 = .ok (.imul, 1) := by decide +kernel
theorem d_W_cancelEnds_51 : decode b_W_cancelEnds 51 = .ok (.isub, 1) := by decide +kernel
theorem d_W_cancelEnds_52 : decode b_W_cancelEnds 52 = .ok (.putfield 19, 3) := by decide +kernel
theorem d_W_cancelEnds_55 : decode b_W_cancelEnds 55 = .ok (.aload_n 0, 1) := by decide +kernel
theorem d_W_cancelEnds_56 : decode b_W_cancelEnds 56 = .ok (.getfield 9, 3) := by decide +kernel
theorem d_W_cancelEnds_59 : decode b_W_cancelEnds 59 = .ok (.iload_n 1, 1) := by decide +kernel
theorem d_W_cancelEnds_60 : decode b_W_cancelEnds 60 = .ok (.aload_n 0, 1) := by decide +kernel
theorem d_W_cancelEnds_61 : decode b_W_cancelEnds 61 = .ok (.getfield 9, 3) := by decide +kernel
theorem d_W_cancelEnds_64 : decode b_W_cancelEnds 64 = .ok (.iconst 0, 1) := by decide +kernel
theorem d_W_cancelEnds_65 : decode b_W_cancelEnds 65 = .ok (.aload_n 0, 1) := by decide +kernel
theorem d_W_cancelEnds_66 : decode b_W_cancelEnds 66 = .ok (.getfield 19, 3) := by decide +kernel
theorem d_W_cancelEnds_69 : decode b_W_cancelEnds 69 = .ok (.invokestatic 22, 3) := by decide +kernel
theorem d_W_cancelEnds_72 : decode b_W_cancelEnds 72 = .ok (.return_, 1) := by decide +kernel
theorem d_W_firstToBack_0 : decode b_W_firstToBack 0 = .ok (.aload_n 0, 1) := by decide +kernel
theorem d_W_firstToBack_1 : decode b_W_firstToBack 1 = .ok (.getfield 19, 3) := by decide +kernel
theorem d_W_firstToBack_4 : decode b_W_firstToBack 4 = .ok (.ifCond .ne 5, 3) := by decide +kernel
theorem d_W_firstToBack_7 : decode b_W_firstToBack 7 = .ok (.iconst 0, 1) := by decide +kernel
theorem d_W_firstToBack_8 : decode b_W_firstToBack 8 = .ok (.ireturn, 1) := by decide +kernel
theorem d_W_firstToBack_9 : decode b_W_firstToBack 9 = .ok (.aload_n 0, 1) := by decide +kernel
theorem d_W_firstToBack_10 : decode b_W_firstToBack 10 = .ok (.getfield 9, 3) := by decide +kernel
theorem d_W_firstToBack_13 : decode b_W_firstToBack 13 = .ok (.iconst 0, 1) := by decide +kernel
theorem d_W_firstToBack_14 : decode b_W_firstToBack 14 = .ok (.iaload, 1) := by decide +kernel
theorem d_W_firstToBack_15 : decode b_W_firstToBack 15 = .ok (.istore_n 1, 1) := by decide +kernel
theorem d_W_firstToBack_16 : decode b_W_firstToBack 16 = .ok (.aload_n 0, 1) := by decide +kernel
theorem d_W_firstToBack_17 : decode b_W_firstToBack 17 = .ok (.getfield 9, 3) := by decide +kernel
theorem d_W_firstToBack_20 : decode b_W_firstToBack 20 = .ok (.iconst 1, 1) := by decide +kernel
theorem d_W_firstToBack_21 : decode b_W_firstToBack 21 = .ok (.aload_n 0, 1) := by decide +kernel
theorem d_W_firstToBack_22 : decode b_W_firstToBack 22 = .ok (.getfield 9, 3) := by decide +kernel
theorem d_W_firstToBack_25 : decode b_W_firstToBack 25 = .ok (.iconst 0, 1) := by decide +kernel
theorem d_W_firstToBack_26 : decode b_W_firstToBack 26 = .ok (.aload_n 0, 1) := by decide +kernel
theorem d_W_firstToBack_27 : decode b_W_firstToBack 27 = .ok (.getfield 19, 3) := by decide +kernel
theorem d_W_firstToBack_30 : decode b_W_firstToBack 30 = .ok (.iconst 1, 1) := by decide +kernel
theorem d_W_firstToBack_31 : decode b_W_firstToBack 31 = .ok (.isub, 1) := by decide +kernel
theorem d_W_firstToBack_32 : decode b_W_firstToBack 32 = .ok (.invokestatic 22, 3) := by decide +kernel
theorem d_W_firstToBack_35 : decode b_W_firstToBack 35 = .ok (.aload_n 0, 1) := by decide +kernel
theorem d_W_firstToBack_36 : decode b_W_firstToBack 36 = .ok (.getfield 9, 3) := by decide +kernel
theorem d_W_firstToBack_39 : decode b_W_firstToBack 39 = .ok (.aload_n 0, 1) := by decide +kernel
theorem d_W_firstToBack_40 : decode b_W_firstToBack 40 = .ok (.getfield 19, 3) := by decide +kernel
theorem d_W_firstToBack_43 : decode b_W_firstToBack 43 = .ok (.iconst 1, 1) := by decide +kernel
theorem d_W_firstToBack_44 : decode b_W_firstToBack 44 = .ok (.isub, 1) := by decide +kernel
theorem d_W_firstToBack_45 : decode b_W_firstToBack 45 = .ok (.iload_n 1, 1) := by decide +kernel
theorem d_W_firstToBack_46 : decode b_W_firstToBack 46 = .ok (.iastore, 1) := by decide +kernel
theorem d_W_firstToBack_47 : decode b_W_firstToBack 47 = .ok (.iconst 1, 1) := by decide +kernel
theorem d_W_firstToBack_48 : decode b_W_firstToBack 48 = .ok (.ireturn, 1) := by decide +kernel
theorem d_W_lastToFront_0 : decode b_W_lastToFront 0 = .ok (.aload_n 0, 1) := by decide +kernel
theorem d_W_lastToFront_1 : decode b_W_lastToFront 1 = .ok (.getfield 19, 3) := by decide +kernel
theorem d_W_lastToFront_4 : decode b_W_lastToFront 4 = .ok (.ifCond .ne 5, 3) := by decide +kernel
theorem d_W_lastToFront_7 : decode b_W_lastToFront 7 = .ok (.iconst 0, 1) := by decide +kernel
theorem d_W_lastToFront_8 : decode b_W_lastToFront 8 = .ok (.ireturn, 1) := by decide +kernel
theorem d_W_lastToFront_9 : decode b_W_lastToFront 9 = .ok (.aload_n 0, 1) := by decide +kernel
theorem d_W_lastToFront_10 : decode b_W_lastToFront 10 = .ok (.getfield 9, 3) := by decide +kernel
theorem d_W_lastToFront_13 : decode b_W_lastToFront 13 = .ok (.aload_n 0, 1) := by decide +kernel
theorem d_W_lastToFront_14 : decode b_W_lastToFront 14 = .ok (.getfield 19, 3) := by decide +kernel
theorem d_W_lastToFront_17 : decode b_W_lastToFront 17 = .ok (.iconst 1, 1) := by decide +kernel
theorem d_W_lastToFront_18 : decode b_W_lastToFront 18 = .ok (.isub, 1) := by decide +kernel
theorem d_W_lastToFront_19 : decode b_W_lastToFront 19 = .ok (.iaload, 1) := by decide +kernel
theorem d_W_lastToFront_20 : decode b_W_lastToFront 20 = .ok (.istore_n 1, 1) := by decide +kernel
theorem d_W_lastToFront_21 : decode b_W_lastToFront 21 = .ok (.aload_n 0, 1) := by decide +kernel
theorem d_W_lastToFront_22 : decode b_W_lastToFront 22 = .ok (.getfield 9, 3) := by decide +kernel
theorem d_W_lastToFront_25 : decode b_W_lastToFront 25 = .ok (.iconst 0, 1) := by decide +kernel
theorem d_W_lastToFront_26 : decode b_W_lastToFront 26 = .ok (.aload_n 0, 1) := by decide +kernel
theorem d_W_lastToFront_27 : decode b_W_lastToFront 27 = .ok (.getfield 9, 3) := by decide +kernel
theorem d_W_lastToFront_30 : decode b_W_lastToFront 30 = .ok (.iconst 1, 1) := by decide +kernel
theorem d_W_lastToFront_31 : decode b_W_lastToFront 31 = .ok (.aload_n 0, 1) := by decide +kernel
theorem d_W_lastToFront_32 : decode b_W_lastToFront 32 = .ok (.getfield 19, 3) := by decide +kernel
theorem d_W_lastToFront_35 : decode b_W_lastToFront 35 = .ok (.iconst 1, 1) := by decide +kernel
theorem d_W_lastToFront_36 : decode b_W_lastToFront 36 = .ok (.isub, 1) := by decide +kernel
theorem d_W_lastToFront_37 : decode b_W_lastToFront 37 = .ok (.invokestatic 22, 3) := by decide +kernel
theorem d_W_lastToFront_40 : decode b_W_lastToFront 40 = .ok (.aload_n 0, 1) := by decide +kernel
theorem d_W_lastToFront_41 : decode b_W_lastToFront 41 = .ok (.getfield 9, 3) := by decide +kernel
theorem d_W_lastToFront_44 : decode b_W_lastToFront 44 = .ok (.iconst 0, 1) := by decide +kernel
theorem d_W_lastToFront_45 : decode b_W_lastToFront 45 = .ok (.iload_n 1, 1) := by decide +kernel
theorem d_W_lastToFront_46 : decode b_W_lastToFront 46 = .ok (.iastore, 1) := by decide +kernel
theorem d_W_lastToFront_47 : decode b_W_lastToFront 47 = .ok (.iconst 1, 1) := by decide +kernel
theorem d_W_lastToFront_48 : decode b_W_lastToFront 48 = .ok (.ireturn, 1) := by decide +kernel
theorem d_W_swapFar_0 : decode b_W_swapFar 0 = .ok (.aload_n 0, 1) := by decide +kernel
theorem d_W_swapFar_1 : decode b_W_swapFar 1 = .ok (.iload_n 1, 1) := by decide +kernel
theorem d_W_swapFar_2 : decode b_W_swapFar 2 = .ok (.iconst 2, 1) := by decide +kernel
theorem d_W_swapFar_3 : decode b_W_swapFar 3 = .ok (.invokevirtual 56, 3) := by decide +kernel
theorem d_W_swapFar_6 : decode b_W_swapFar 6 = .ok (.ifCond .eq 23, 3) := by decide +kernel
theorem d_W_swapFar_9 : decode b_W_swapFar 9 = .ok (.aload_n 0, 1) := by decide +kernel
theorem d_W_swapFar_10 : decode b_W_swapFar 10 = .ok (.iload_n 1, 1) := by decide +kernel
theorem d_W_swapFar_11 : decode b_W_swapFar 11 = .ok (.invokevirtual 43, 3) := by decide +kernel
theorem d_W_swapFar_14 : decode b_W_swapFar 14 = .ok (.aload_n 0, 1) := by decide +kernel
theorem d_W_swapFar_15 : decode b_W_swapFar 15 = .ok (.iload_n 1, 1) := by decide +kernel
theorem d_W_swapFar_16 : decode b_W_swapFar 16 = .ok (.iconst 1, 1) := by decide +kernel
theorem d_W_swapFar_17 : decode b_W_swapFar 17 = .ok (.iadd, 1) := by decide +kernel
theorem d_W_swapFar_18 : decode b_W_swapFar 18 = .ok (.invokevirtual 43, 3) := by decide +kernel
theorem d_W_swapFar_21 : decode b_W_swapFar 21 = .ok (.isub, 1) := by decide +kernel
theorem d_W_swapFar_22 : decode b_W_swapFar 22 = .ok (.invokestatic 28, 3) := by decide +kernel
theorem d_W_swapFar_25 : decode b_W_swapFar 25 = .ok (.iconst 1, 1) := by decide +kernel
theorem d_W_swapFar_26 : decode b_W_swapFar 26 = .ok (.if_icmp .gt 5, 3) := by decide +kernel
theorem d_W_swapFar_29 : decode b_W_swapFar 29 = .ok (.iconst 0, 1) := by decide +kernel
theorem d_W_swapFar_30 : decode b_W_swapFar 30 = .ok (.ireturn, 1) := by decide +kernel
theorem d_W_swapFar_31 : decode b_W_swapFar 31 = .ok (.aload_n 0, 1) := by decide +kernel
theorem d_W_swapFar_32 : decode b_W_swapFar 32 = .ok (.getfield 9, 3) := by decide +kernel
theorem d_W_swapFar_35 : decode b_W_swapFar 35 = .ok (.iload_n 1, 1) := by decide +kernel
theorem d_W_swapFar_36 : decode b_W_swapFar 36 = .ok (.invokestatic 59, 3) := by decide +kernel
theorem d_W_swapFar_39 : decode b_W_swapFar 39 = .ok (.iconst 1, 1) := by decide +kernel
theorem d_W_swapFar_40 : decode b_W_swapFar 40 = .ok (.ireturn, 1) := by decide +kernel
theorem d_W_passOver_0 : decode b_W_passOver 0 = .ok (.aload_n 0, 1) := by decide +kernel
theorem d_W_passOver_1 : decode b_W_passOver 1 = .ok (.iload_n 1, 1) := by decide +kernel
theorem d_W_passOver_2 : decode b_W_passOver 2 = .ok (.iconst 3, 1) := by decide +kernel
theorem d_W_passOver_3 : decode b_W_passOver 3 = .ok (.invokevirtual 56, 3) := by decide +kernel
theorem d_W_passOver_6 : decode b_W_passOver 6 = .ok (.ifCond .eq 11, 3) := by decide +kernel
theorem d_W_passOver_9 : decode b_W_passOver 9 = .ok (.aload_n 0, 1) := by decide +kernel
theorem d_W_passOver_10 : decode b_W_passOver 10 = .ok (.iload_n 1, 1) := by decide +kernel
theorem d_W_passOver_11 : decode b_W_passOver 11 = .ok (.invokevirtual 63, 3) := by decide +kernel
theorem d_W_passOver_14 : decode b_W_passOver 14 = .ok (.ifCond .ne 5, 3) := by decide +kernel
theorem d_W_passOver_17 : decode b_W_passOver 17 = .ok (.iconst 0, 1) := by decide +kernel
theorem d_W_passOver_18 : decode b_W_passOver 18 = .ok (.ireturn, 1) := by decide +kernel
theorem d_W_passOver_19 : decode b_W_passOver 19 = .ok (.aload_n 0, 1) := by decide +kernel
theorem d_W_passOver_20 : decode b_W_passOver 20 = .ok (.iload_n 1, 1) := by decide +kernel
theorem d_W_passOver_21 : decode b_W_passOver 21 = .ok (.invokevirtual 43, 3) := by decide +kernel
theorem d_W_passOver_24 : decode b_W_passOver 24 = .ok (.istore_n 2, 1) := by decide +kernel
theorem d_W_passOver_25 : decode b_W_passOver 25 = .ok (.aload_n 0, 1) := by decide +kernel
theorem d_W_passOver_26 : decode b_W_passOver 26 = .ok (.iload_n 1, 1) := by decide +kernel
theorem d_W_passOver_27 : decode b_W_passOver 27 = .ok (.iconst 1, 1) := by decide +kernel
theorem d_W_passOver_28 : decode b_W_passOver 28 = .ok (.iadd, 1) := by decide +kernel
theorem d_W_passOver_29 : decode b_W_passOver 29 = .ok (.invokevirtual 43, 3) := by decide +kernel
theorem d_W_passOver_32 : decode b_W_passOver 32 = .ok (.istore_n 3, 1) := by decide +kernel
theorem d_W_passOver_33 : decode b_W_passOver 33 = .ok (.aload_n 0, 1) := by decide +kernel
theorem d_W_passOver_34 : decode b_W_passOver 34 = .ok (.getfield 9, 3) := by decide +kernel
theorem d_W_passOver_37 : decode b_W_passOver 37 = .ok (.iload_n 1, 1) := by decide +kernel
theorem d_W_passOver_38 : decode b_W_passOver 38 = .ok (.iaload, 1) := by decide +kernel
theorem d_W_passOver_39 : decode b_W_passOver 39 = .ok (.invokestatic 34, 3) := by decide +kernel
theorem d_W_passOver_42 : decode b_W_passOver 42 = .ok (.istore 4, 2) := by decide +kernel
theorem d_W_passOver_44 : decode b_W_passOver 44 = .ok (.aload_n 0, 1) := by decide +kernel
theorem d_W_passOver_45 : decode b_W_passOver 45 = .ok (.getfield 9, 3) := by decide +kernel
theorem d_W_passOver_48 : decode b_W_passOver 48 = .ok (.iload_n 1, 1) := by decide +kernel
theorem d_W_passOver_49 : decode b_W_passOver 49 = .ok (.iconst 1, 1) := by decide +kernel
theorem d_W_passOver_50 : decode b_W_passOver 50 = .ok (.iadd, 1) := by decide +kernel
theorem d_W_passOver_51 : decode b_W_passOver 51 = .ok (.iaload, 1) := by decide +kernel
theorem d_W_passOver_52 : decode b_W_passOver 52 = .ok (.invokestatic 34, 3) := by decide +kernel
theorem d_W_passOver_55 : decode b_W_passOver 55 = .ok (.istore 5, 2) := by decide +kernel
theorem d_W_passOver_57 : decode b_W_passOver 57 = .ok (.aload_n 0, 1) := by decide +kernel
theorem d_W_passOver_58 : decode b_W_passOver 58 = .ok (.getfield 9, 3) := by decide +kernel
theorem d_W_passOver_61 : decode b_W_passOver 61 = .ok (.iload_n 1, 1) := by decide +kernel
theorem d_W_passOver_62 : decode b_W_passOver 62 = .ok (.iconst 2, 1) := by decide +kernel
theorem d_W_passOver_63 : decode b_W_passOver 63 = .ok (.iadd, 1) := by decide +kernel
theorem d_W_passOver_64 : decode b_W_passOver 64 = .ok (.iaload, 1) := by decide +kernel
theorem d_W_passOver_65 : decode b_W_passOver 65 = .ok (.invokestatic 34, 3) := by decide +kernel
theorem d_W_passOver_68 : decode b_W_passOver 68 = .ok (.istore 6, 2) := by decide +kernel
theorem d_W_passOver_70 : decode b_W_passOver 70 = .ok (.aload_n 0, 1) := by decide +kernel
theorem d_W_passOver_71 : decode b_W_passOver 71 = .ok (.getfield 9, 3) := by decide +kernel
theorem d_W_passOver_74 : decode b_W_passOver 74 = .ok (.iload_n 1, 1) := by decide +kernel
theorem d_W_passOver_75 : decode b_W_passOver 75 = .ok (.iload 6, 2) := by decide +kernel
theorem d_W_passOver_77 : decode b_W_passOver 77 = .ok (.iload_n 3, 1) := by decide +kernel
theorem d_W_passOver_78 : decode b_W_passOver 78 = .ok (.imul, 1) := by decide +kernel
theorem d_W_passOver_79 : decode b_W_passOver 79 = .ok (.iastore, 1) := by decide +kernel
theorem d_W_passOver_80 : decode b_W_passOver 80 = .ok (.aload_n 0, 1) := by decide +kernel
theorem d_W_passOver_81 : decode b_W_passOver 81 = .ok (.getfield 9, 3) := by decide +kernel
theorem d_W_passOver_84 : decode b_W_passOver 84 = .ok (.iload_n 1, 1) := by decide +kernel
theorem d_W_passOver_85 : decode b_W_passOver 85 = .ok (.iconst 1, 1) := by decide +kernel
theorem d_W_passOver_86 : decode b_W_passOver 86 = .ok (.iadd, 1) := by decide +kernel
theorem d_W_passOver_87 : decode b_W_passOver 87 = .ok (.iload 5, 2) := by decide +kernel
theorem d_W_passOver_89 : decode b_W_passOver 89 = .ok (.iload_n 2, 1) := by decide +kernel
theorem d_W_passOver_90 : decode b_W_passOver 90 = .ok (.imul, 1) := by decide +kernel
theorem d_W_passOver_91 : decode b_W_passOver 91 = .ok (.iastore, 1) := by decide +kernel
theorem d_W_passOver_92 : decode b_W_passOver 92 = .ok (.aload_n 0, 1) := by decide +kernel
theorem d_W_passOver_93 : decode b_W_passOver 93 = .ok (.getfield 9, 3) := by decide +kernel
theorem d_W_passOver_96 : decode b_W_passOver 96 = .ok (.iload_n 1, 1) := by decide +kernel
theorem d_W_passOver_97 : decode b_W_passOver 97 = .ok (.iconst 2, 1) := by decide +kernel
theorem d_W_passOver_98 : decode b_W_passOver 98 = .ok (.iadd, 1) := by decide +kernel
theorem d_W_passOver_99 : decode b_W_passOver 99 = .ok (.iload 4, 2) := by decide +kernel
theorem d_W_passOver_101 : decode b_W_passOver 101 = .ok (.iload_n 3, 1) := by decide +kernel
theorem d_W_passOver_102 : decode b_W_passOver 102 = .ok (.imul, 1) := by decide +kernel
theorem d_W_passOver_103 : decode b_W_passOver 103 = .ok (.iastore, 1) := by decide +kernel
theorem d_W_passOver_104 : decode b_W_passOver 104 = .ok (.iconst 1, 1) := by decide +kernel
theorem d_W_passOver_105 : decode b_W_passOver 105 = .ok (.ireturn, 1) := by decide +kernel
theorem d_W_canPass_0 : decode b_W_canPass 0 = .ok (.aload_n 0, 1) := by decide +kernel
theorem d_W_canPass_1 : decode b_W_canPass 1 = .ok (.iload_n 1, 1) := by decide +kernel
theorem d_W_canPass_2 : decode b_W_canPass 2 = .ok (.invokevirtual 43, 3) := by decide +kernel
theorem d_W_canPass_5 : decode b_W_canPass 5 = .ok (.aload_n 0, 1) := by decide +kernel
theorem d_W_canPass_6 : decode b_W_canPass 6 = .ok (.iload_n 1, 1) := by decide +kernel
theorem d_W_canPass_7 : decode b_W_canPass 7 = .ok (.iconst 2, 1) := by decide +kernel
theorem d_W_canPass_8 : decode b_W_canPass 8 = .ok (.iadd, 1) := by decide +kernel
theorem d_W_canPass_9 : decode b_W_canPass 9 = .ok (.invokevirtual 43, 3) := by decide +kernel
theorem d_W_canPass_12 : decode b_W_canPass 12 = .ok (.if_icmp .ne 23, 3) := by decide +kernel
theorem d_W_canPass_15 : decode b_W_canPass 15 = .ok (.aload_n 0, 1) := by decide +kernel
theorem d_W_canPass_16 : decode b_W_canPass 16 = .ok (.iload_n 1, 1) := by decide +kernel
theorem d_W_canPass_17 : decode b_W_canPass 17 = .ok (.invokevirtual 43, 3) := by decide +kernel
theorem d_W_canPass_20 : decode b_W_canPass 20 = .ok (.aload_n 0, 1) := by decide +kernel
theorem d_W_canPass_21 : decode b_W_canPass 21 = .ok (.iload_n 1, 1) := by decide +kernel
theorem d_W_canPass_22 : decode b_W_canPass 22 = .ok (.iconst 1, 1) := by decide +kernel
theorem d_W_canPass_23 : decode b_W_canPass 23 = .ok (.iadd, 1) := by decide +kernel
theorem d_W_canPass_24 : decode b_W_canPass 24 = .ok (.invokevirtual 43, 3) := by decide +kernel
theorem d_W_canPass_27 : decode b_W_canPass 27 = .ok (.isub, 1) := by decide +kernel
theorem d_W_canPass_28 : decode b_W_canPass 28 = .ok (.invokestatic 28, 3) := by decide +kernel
theorem d_W_canPass_31 : decode b_W_canPass 31 = .ok (.iconst 1, 1) := by decide +kernel
theorem d_W_canPass_32 : decode b_W_canPass 32 = .ok (.if_icmp .eq 5, 3) := by decide +kernel
theorem d_W_canPass_35 : decode b_W_canPass 35 = .ok (.iconst 0, 1) := by decide +kernel
theorem d_W_canPass_36 : decode b_W_canPass 36 = .ok (.ireturn, 1) := by decide +kernel
theorem d_W_canPass_37 : decode b_W_canPass 37 = .ok (.aload_n 0, 1) := by decide +kernel
theorem d_W_canPass_38 : decode b_W_canPass 38 = .ok (.getfield 9, 3) := by decide +kernel
theorem d_W_canPass_41 : decode b_W_canPass 41 = .ok (.iload_n 1, 1) := by decide +kernel
theorem d_W_canPass_42 : decode b_W_canPass 42 = .ok (.iaload, 1) := by decide +kernel
theorem d_W_canPass_43 : decode b_W_canPass 43 = .ok (.aload_n 0, 1) := by decide +kernel
theorem d_W_canPass_44 : decode b_W_canPass 44 = .ok (.getfield 9, 3) := by decide +kernel
theorem d_W_canPass_47 : decode b_W_canPass 47 = .ok (.iload_n 1, 1) := by decide +kernel
theorem d_W_canPass_48 : decode b_W_canPass 48 = .ok (.iconst 2, 1) := by decide +kernel
theorem d_W_canPass_49 : decode b_W_canPass 49 = .ok (.iadd, 1) := by decide +kernel
theorem d_W_canPass_50 : decode b_W_canPass 50 = .ok (.iaload, 1) := by decide +kernel
theorem d_W_canPass_51 : decode b_W_canPass 51 = .ok (.if_icmp .ne 7, 3) := by decide +kernel
theorem d_W_canPass_54 : decode b_W_canPass 54 = .ok (.iconst 1, 1) := by decide +kernel
theorem d_W_canPass_55 : decode b_W_canPass 55 = .ok (.goto 4, 3) := by decide +kernel
theorem d_W_canPass_58 : decode b_W_canPass 58 = .ok (.iconst 0, 1) := by decide +kernel
theorem d_W_canPass_59 : decode b_W_canPass 59 = .ok (.istore_n 2, 1) := by decide +kernel
theorem d_W_canPass_60 : decode b_W_canPass 60 = .ok (.aload_n 0, 1) := by decide +kernel
theorem d_W_canPass_61 : decode b_W_canPass 61 = .ok (.getfield 9, 3) := by decide +kernel
theorem d_W_canPass_64 : decode b_W_canPass 64 = .ok (.iload_n 1, 1) := by decide +kernel
theorem d_W_canPass_65 : decode b_W_canPass 65 = .ok (.iaload, 1) := by decide +kernel
theorem d_W_canPass_66 : decode b_W_canPass 66 = .ok (.invokestatic 34, 3) := by decide +kernel
theorem d_W_canPass_69 : decode b_W_canPass 69 = .ok (.aload_n 0, 1) := by decide +kernel
theorem d_W_canPass_70 : decode b_W_canPass 70 = .ok (.getfield 9, 3) := by decide +kernel
theorem d_W_canPass_73 : decode b_W_canPass 73 = .ok (.iload_n 1, 1) := by decide +kernel
theorem d_W_canPass_74 : decode b_W_canPass 74 = .ok (.iconst 1, 1) := by decide +kernel
theorem d_W_canPass_75 : decode b_W_canPass 75 = .ok (.iadd, 1) := by decide +kernel
theorem d_W_canPass_76 : decode b_W_canPass 76 = .ok (.iaload, 1) := by decide +kernel
theorem d_W_canPass_77 : decode b_W_canPass 77 = .ok (.invokestatic 34, 3) := by decide +kernel
theorem d_W_canPass_80 : decode b_W_canPass 80 = .ok (.if_icmp .ne 7, 3) := by decide +kernel
theorem d_W_canPass_83 : decode b_W_canPass 83 = .ok (.iconst 1, 1) := by decide +kernel
theorem d_W_canPass_84 : decode b_W_canPass 84 = .ok (.goto 4, 3) := by decide +kernel
theorem d_W_canPass_87 : decode b_W_canPass 87 = .ok (.iconst 0, 1) := by decide +kernel
theorem d_W_canPass_88 : decode b_W_canPass 88 = .ok (.istore_n 3, 1) := by decide +kernel
theorem d_W_canPass_89 : decode b_W_canPass 89 = .ok (.iload_n 2, 1) := by decide +kernel
theorem d_W_canPass_90 : decode b_W_canPass 90 = .ok (.ifCond .eq 7, 3) := by decide +kernel
theorem d_W_canPass_93 : decode b_W_canPass 93 = .ok (.iload_n 3, 1) := by decide +kernel
theorem d_W_canPass_94 : decode b_W_canPass 94 = .ok (.ifCond .eq 7, 3) := by decide +kernel
theorem d_W_canPass_97 : decode b_W_canPass 97 = .ok (.iconst 1, 1) := by decide +kernel
theorem d_W_canPass_98 : decode b_W_canPass 98 = .ok (.goto 4, 3) := by decide +kernel
theorem d_W_canPass_101 : decode b_W_canPass 101 = .ok (.iconst 0, 1) := by decide +kernel
theorem d_W_canPass_102 : decode b_W_canPass 102 = .ok (.ireturn, 1) := by decide +kernel
theorem d_W_addStrand_0 : decode b_W_addStrand 0 = .ok (.iload_n 1, 1) := by decide +kernel
theorem d_W_addStrand_1 : decode b_W_addStrand 1 = .ok (.iconst 1, 1) := by decide +kernel
theorem d_W_addStrand_2 : decode b_W_addStrand 2 = .ok (.if_icmp .eq 8, 3) := by decide +kernel
theorem d_W_addStrand_5 : decode b_W_addStrand 5 = .ok (.iload_n 1, 1) := by decide +kernel
theorem d_W_addStrand_6 : decode b_W_addStrand 6 = .ok (.iconst (-1), 1) := by decide +kernel
theorem d_W_addStrand_7 : decode b_W_addStrand 7 = .ok (.if_icmp .ne 21, 3) := by decide +kernel
theorem d_W_addStrand_10 : decode b_W_addStrand 10 = .ok (.aload_n 0, 1) := by decide +kernel
theorem d_W_addStrand_11 : decode b_W_addStrand 11 = .ok (.getfield 15, 3) := by decide +kernel
theorem d_W_addStrand_14 : decode b_W_addStrand 14 = .ok (.bipush 8, 2) := by decide +kernel
theorem d_W_addStrand_16 : decode b_W_addStrand 16 = .ok (.if_icmp .ge 12, 3) := by decide +kernel
theorem d_W_addStrand_19 : decode b_W_addStrand 19 = .ok (.aload_n 0, 1) := by decide +kernel
theorem d_W_addStrand_20 : decode b_W_addStrand 20 = .ok (.getfield 19, 3) := by decide +kernel
theorem d_W_addStrand_23 : decode b_W_addStrand 23 = .ok (.bipush 32, 2) := by decide +kernel
theorem d_W_addStrand_25 : decode b_W_addStrand 25 = .ok (.if_icmp .lt 5, 3) := by decide +kernel
theorem d_W_addStrand_28 : decode b_W_addStrand 28 = .ok (.iconst 0, 1) := by decide +kernel
theorem d_W_addStrand_29 : decode b_W_addStrand 29 = .ok (.ireturn, 1) := by decide +kernel
theorem d_W_addStrand_30 : decode b_W_addStrand 30 = .ok (.aload_n 0, 1) := by decide +kernel
theorem d_W_addStrand_31 : decode b_W_addStrand 31 = .ok (.getfield 9, 3) := by decide +kernel
theorem d_W_addStrand_34 : decode b_W_addStrand 34 = .ok (.aload_n 0, 1) := by decide +kernel
theorem d_W_addStrand_35 : decode b_W_addStrand 35 = .ok (.getfield 19, 3) := by decide +kernel
theorem d_W_addStrand_38 : decode b_W_addStrand 38 = .ok (.iload_n 1, 1) := by decide +kernel
theorem d_W_addStrand_39 : decode b_W_addStrand 39 = .ok (.aload_n 0, 1) := by decide +kernel
theorem d_W_addStrand_40 : decode b_W_addStrand 40 = .ok (.getfield 15, 3) := by decide +kernel
theorem d_W_addStrand_43 : decode b_W_addStrand 43 = .ok (.imul, 1) := by decide +kernel
theorem d_W_addStrand_44 : decode b_W_addStrand 44 = .ok (.iastore, 1) := by decide +kernel
theorem d_W_addStrand_45 : decode b_W_addStrand 45 = .ok (.aload_n 0, 1) := by decide +kernel
theorem d_W_addStrand_46 : decode b_W_addStrand 46 = .ok (.dup, 1) := by decide +kernel
theorem d_W_addStrand_47 : decode b_W_addStrand 47 = .ok (.getfield 19, 3) := by decide +kernel
theorem d_W_addStrand_50 : decode b_W_addStrand 50 = .ok (.iconst 1, 1) := by decide +kernel
theorem d_W_addStrand_51 : decode b_W_addStrand 51 = .ok (.iadd, 1) := by decide +kernel
theorem d_W_addStrand_52 : decode b_W_addStrand 52 = .ok (.putfield 19, 3) := by decide +kernel
theorem d_W_addStrand_55 : decode b_W_addStrand 55 = .ok (.aload_n 0, 1) := by decide +kernel
theorem d_W_addStrand_56 : decode b_W_addStrand 56 = .ok (.dup, 1) := by decide +kernel
theorem d_W_addStrand_57 : decode b_W_addStrand 57 = .ok (.getfield 15, 3) := by decide +kernel
theorem d_W_addStrand_60 : decode b_W_addStrand 60 = .ok (.iconst 1, 1) := by decide +kernel
theorem d_W_addStrand_61 : decode b_W_addStrand 61 = .ok (.iadd, 1) := by decide +kernel
theorem d_W_addStrand_62 : decode b_W_addStrand 62 = .ok (.putfield 15, 3) := by decide +kernel
theorem d_W_addStrand_65 : decode b_W_addStrand 65 = .ok (.iconst 1, 1) := by decide +kernel
theorem d_W_addStrand_66 : decode b_W_addStrand 66 = .ok (.ireturn, 1) := by decide +kernel
theorem d_W_dropStrand_0 : decode b_W_dropStrand 0 = .ok (.aload_n 0, 1) := by decide +kernel
theorem d_W_dropStrand_1 : decode b_W_dropStrand 1 = .ok (.getfield 19, 3) := by decide +kernel
theorem d_W_dropStrand_4 : decode b_W_dropStrand 4 = .ok (.ifCond .eq 22, 3) := by decide +kernel
theorem d_W_dropStrand_7 : decode b_W_dropStrand 7 = .ok (.aload_n 0, 1) := by decide +kernel
theorem d_W_dropStrand_8 : decode b_W_dropStrand 8 = .ok (.aload_n 0, 1) := by decide +kernel
theorem d_W_dropStrand_9 : decode b_W_dropStrand 9 = .ok (.getfield 19, 3) := by decide +kernel
theorem d_W_dropStrand_12 : decode b_W_dropStrand 12 = .ok (.iconst 1, 1) := by decide +kernel
theorem d_W_dropStrand_13 : decode b_W_dropStrand 13 = .ok (.isub, 1) := by decide +kernel
theorem d_W_dropStrand_14 : decode b_W_dropStrand 14 = .ok (.invokevirtual 43, 3) := by decide +kernel
theorem d_W_dropStrand_17 : decode b_W_dropStrand 17 = .ok (.aload_n 0, 1) := by decide +kernel
theorem d_W_dropStrand_18 : decode b_W_dropStrand 18 = .ok (.getfield 15, 3) := by decide +kernel
theorem d_W_dropStrand_21 : decode b_W_dropStrand 21 = .ok (.iconst 1, 1) := by decide +kernel
theorem d_W_dropStrand_22 : decode b_W_dropStrand 22 = .ok (.isub, 1) := by decide +kernel
theorem d_W_dropStrand_23 : decode b_W_dropStrand 23 = .ok (.if_icmp .eq 5, 3) := by decide +kernel
theorem d_W_dropStrand_26 : decode b_W_dropStrand 26 = .ok (.iconst 0, 1) := by decide +kernel
theorem d_W_dropStrand_27 : decode b_W_dropStrand 27 = .ok (.ireturn, 1) := by decide +kernel
theorem d_W_dropStrand_28 : decode b_W_dropStrand 28 = .ok (.iconst 0, 1) := by decide +kernel
theorem d_W_dropStrand_29 : decode b_W_dropStrand 29 = .ok (.istore_n 1, 1) := by decide +kernel
theorem d_W_dropStrand_30 : decode b_W_dropStrand 30 = .ok (.iload_n 1, 1) := by decide +kernel
theorem d_W_dropStrand_31 : decode b_W_dropStrand 31 = .ok (.aload_n 0, 1) := by decide +kernel
theorem d_W_dropStrand_32 : decode b_W_dropStrand 32 = .ok (.getfield 19, 3) := by decide +kernel
theorem d_W_dropStrand_35 : decode b_W_dropStrand 35 = .ok (.iconst 1, 1) := by decide +kernel
theorem d_W_dropStrand_36 : decode b_W_dropStrand 36 = .ok (.isub, 1) := by decide +kernel
theorem d_W_dropStrand_37 : decode b_W_dropStrand 37 = .ok (.if_icmp .ge 25, 3) := by decide +kernel
theorem d_W_dropStrand_40 : decode b_W_dropStrand 40 = .ok (.aload_n 0, 1) := by decide +kernel
theorem d_W_dropStrand_41 : decode b_W_dropStrand 41 = .ok (.iload_n 1, 1) := by decide +kernel
theorem d_W_dropStrand_42 : decode b_W_dropStrand 42 = .ok (.invokevirtual 43, 3) := by decide +kernel
theorem d_W_dropStrand_45 : decode b_W_dropStrand 45 = .ok (.aload_n 0, 1) := by decide +kernel
theorem d_W_dropStrand_46 : decode b_W_dropStrand 46 = .ok (.getfield 15, 3) := by decide +kernel
theorem d_W_dropStrand_49 : decode b_W_dropStrand 49 = .ok (.iconst 1, 1) := by decide +kernel
theorem d_W_dropStrand_50 : decode b_W_dropStrand 50 = .ok (.isub, 1) := by decide +kernel
theorem d_W_dropStrand_51 : decode b_W_dropStrand 51 = .ok (.if_icmp .ne 5, 3) := by decide +kernel
theorem d_W_dropStrand_54 : decode b_W_dropStrand 54 = .ok (.iconst 0, 1) := by decide +kernel
theorem d_W_dropStrand_55 : decode b_W_dropStrand 55 = .ok (.ireturn, 1) := by decide +kernel
theorem d_W_dropStrand_56 : decode b_W_dropStrand 56 = .ok (.iinc 1 1, 3) := by decide +kernel
theorem d_W_dropStrand_59 : decode b_W_dropStrand 59 = .ok (.goto (-29), 3) := by decide +kernel
theorem d_W_dropStrand_62 : decode b_W_dropStrand 62 = .ok (.aload_n 0, 1) := by decide +kernel
theorem d_W_dropStrand_63 : decode b_W_dropStrand 63 = .ok (.dup, 1) := by decide +kernel
theorem d_W_dropStrand_64 : decode b_W_dropStrand 64 = .ok (.getfield 19, 3) := by decide +kernel
theorem d_W_dropStrand_67 : decode b_W_dropStrand 67 = .ok (.iconst 1, 1) := by decide +kernel
theorem d_W_dropStrand_68 : decode b_W_dropStrand 68 = .ok (.isub, 1) := by decide +kernel
theorem d_W_dropStrand_69 : decode b_W_dropStrand 69 = .ok (.putfield 19, 3) := by decide +kernel
theorem d_W_dropStrand_72 : decode b_W_dropStrand 72 = .ok (.aload_n 0, 1) := by decide +kernel
theorem d_W_dropStrand_73 : decode b_W_dropStrand 73 = .ok (.dup, 1) := by decide +kernel
theorem d_W_dropStrand_74 : decode b_W_dropStrand 74 = .ok (.getfield 15, 3) := by decide +kernel
theorem d_W_dropStrand_77 : decode b_W_dropStrand 77 = .ok (.iconst 1, 1) := by decide +kernel
theorem d_W_dropStrand_78 : decode b_W_dropStrand 78 = .ok (.isub, 1) := by decide +kernel
theorem d_W_dropStrand_79 : decode b_W_dropStrand 79 = .ok (.putfield 15, 3) := by decide +kernel
theorem d_W_dropStrand_82 : decode b_W_dropStrand 82 = .ok (.iconst 1, 1) := by decide +kernel
theorem d_W_dropStrand_83 : decode b_W_dropStrand 83 = .ok (.ireturn, 1) := by decide +kernel
theorem d_W_cornerLabel_0 : decode b_W_cornerLabel 0 = .ok (.aload_n 0, 1) := by decide +kernel
theorem d_W_cornerLabel_1 : decode b_W_cornerLabel 1 = .ok (.iload_n 1, 1) := by decide +kernel
theorem d_W_cornerLabel_2 : decode b_W_cornerLabel 2 = .ok (.invokevirtual 43, 3) := by decide +kernel
theorem d_W_cornerLabel_5 : decode b_W_cornerLabel 5 = .ok (.istore_n 3, 1) := by decide +kernel
theorem d_W_cornerLabel_6 : decode b_W_cornerLabel 6 = .ok (.aload_n 0, 1) := by decide +kernel
theorem d_W_cornerLabel_7 : decode b_W_cornerLabel 7 = .ok (.getfield 9, 3) := by decide +kernel
theorem d_W_cornerLabel_10 : decode b_W_cornerLabel 10 = .ok (.iload_n 1, 1) := by decide +kernel
theorem d_W_cornerLabel_11 : decode b_W_cornerLabel 11 = .ok (.iaload, 1) := by decide +kernel
theorem d_W_cornerLabel_12 : decode b_W_cornerLabel 12 = .ok (.ifCond .le 7, 3) := by decide +kernel
theorem d_W_cornerLabel_15 : decode b_W_cornerLabel 15 = .ok (.iload_n 2, 1) := by decide +kernel
theorem d_W_cornerLabel_16 : decode b_W_cornerLabel 16 = .ok (.goto 8, 3) := by decide +kernel
theorem d_W_cornerLabel_19 : decode b_W_cornerLabel 19 = .ok (.iload_n 2, 1) := by decide +kernel
theorem d_W_cornerLabel_20 : decode b_W_cornerLabel 20 = .ok (.iconst 3, 1) := by decide +kernel
theorem d_W_cornerLabel_21 : decode b_W_cornerLabel 21 = .ok (.iadd, 1) := by decide +kernel
theorem d_W_cornerLabel_22 : decode b_W_cornerLabel 22 = .ok (.iconst 4, 1) := by decide +kernel
theorem d_W_cornerLabel_23 : decode b_W_cornerLabel 23 = .ok (.irem, 1) := by decide +kernel
theorem d_W_cornerLabel_24 : decode b_W_cornerLabel 24 = .ok (.istore 4, 2) := by decide +kernel
theorem d_W_cornerLabel_26 : decode b_W_cornerLabel 26 = .ok (.iload 4, 2) := by decide +kernel
theorem d_W_cornerLabel_28 : decode b_W_cornerLabel 28 = .ok (.tableswitch 51 0 2 #[28, 35, 42], 28) := by decide +kernel
theorem d_W_cornerLabel_56 : decode b_W_cornerLabel 56 = .ok (.aload_n 0, 1) := by decide +kernel
theorem d_W_cornerLabel_57 : decode b_W_cornerLabel 57 = .ok (.iload_n 1, 1) := by decide +kernel
theorem d_W_cornerLabel_58 : decode b_W_cornerLabel 58 = .ok (.iload_n 3, 1) := by decide +kernel
theorem d_W_cornerLabel_59 : decode b_W_cornerLabel 59 = .ok (.invokevirtual 67, 3) := by decide +kernel
theorem d_W_cornerLabel_62 : decode b_W_cornerLabel 62 = .ok (.ireturn, 1) := by decide +kernel
theorem d_W_cornerLabel_63 : decode b_W_cornerLabel 63 = .ok (.aload_n 0, 1) := by decide +kernel
theorem d_W_cornerLabel_64 : decode b_W_cornerLabel 64 = .ok (.iload_n 1, 1) := by decide +kernel
theorem d_W_cornerLabel_65 : decode b_W_cornerLabel 65 = .ok (.iload_n 3, 1) := by decide +kernel
theorem d_W_cornerLabel_66 : decode b_W_cornerLabel 66 = .ok (.invokevirtual 71, 3) := by decide +kernel
theorem d_W_cornerLabel_69 : decode b_W_cornerLabel 69 = .ok (.ireturn, 1) := by decide +kernel
theorem d_W_cornerLabel_70 : decode b_W_cornerLabel 70 = .ok (.aload_n 0, 1) := by decide +kernel
theorem d_W_cornerLabel_71 : decode b_W_cornerLabel 71 = .ok (.iload_n 1, 1) := by decide +kernel
theorem d_W_cornerLabel_72 : decode b_W_cornerLabel 72 = .ok (.iload_n 3, 1) := by decide +kernel
theorem d_W_cornerLabel_73 : decode b_W_cornerLabel 73 = .ok (.iconst 1, 1) := by decide +kernel
theorem d_W_cornerLabel_74 : decode b_W_cornerLabel 74 = .ok (.iadd, 1) := by decide +kernel
theorem d_W_cornerLabel_75 : decode b_W_cornerLabel 75 = .ok (.invokevirtual 71, 3) := by decide +kernel
theorem d_W_cornerLabel_78 : decode b_W_cornerLabel 78 = .ok (.ireturn, 1) := by decide +kernel
theorem d_W_cornerLabel_79 : decode b_W_cornerLabel 79 = .ok (.aload_n 0, 1) := by decide +kernel
theorem d_W_cornerLabel_80 : decode b_W_cornerLabel 80 = .ok (.iload_n 1, 1) := by decide +kernel
theorem d_W_cornerLabel_81 : decode b_W_cornerLabel 81 = .ok (.iload_n 3, 1) := by decide +kernel
theorem d_W_cornerLabel_82 : decode b_W_cornerLabel 82 = .ok (.iconst 1, 1) := by decide +kernel
theorem d_W_cornerLabel_83 : decode b_W_cornerLabel 83 = .ok (.iadd, 1) := by decide +kernel
theorem d_W_cornerLabel_84 : decode b_W_cornerLabel 84 = .ok (.invokevirtual 67, 3) := by decide +kernel
theorem d_W_cornerLabel_87 : decode b_W_cornerLabel 87 = .ok (.ireturn, 1) := by decide +kernel
theorem d_W_labelAbove_0 : decode b_W_labelAbove 0 = .ok (.iload_n 1, 1) := by decide +kernel
theorem d_W_labelAbove_1 : decode b_W_labelAbove 1 = .ok (.iconst 1, 1) := by decide +kernel
theorem d_W_labelAbove_2 : decode b_W_labelAbove 2 = .ok (.isub, 1) := by decide +kernel
theorem d_W_labelAbove_3 : decode b_W_labelAbove 3 = .ok (.istore_n 3, 1) := by decide +kernel
theorem d_W_labelAbove_4 : decode b_W_labelAbove 4 = .ok (.iload_n 3, 1) := by decide +kernel
theorem d_W_labelAbove_5 : decode b_W_labelAbove 5 = .ok (.ifCond .lt 25, 3) := by decide +kernel
theorem d_W_labelAbove_8 : decode b_W_labelAbove 8 = .ok (.aload_n 0, 1) := by decide +kernel
theorem d_W_labelAbove_9 : decode b_W_labelAbove 9 = .ok (.iload_n 3, 1) := by decide +kernel
theorem d_W_labelAbove_10 : decode b_W_labelAbove 10 = .ok (.iload_n 2, 1) := by decide +kernel
theorem d_W_labelAbove_11 : decode b_W_labelAbove 11 = .ok (.invokevirtual 53, 3) := by decide +kernel
theorem d_W_labelAbove_14 : decode b_W_labelAbove 14 = .ok (.ifCond .eq 10, 3) := by decide +kernel
theorem d_W_labelAbove_17 : decode b_W_labelAbove 17 = .ok (.aload_n 0, 1) := by decide +kernel
theorem d_W_labelAbove_18 : decode b_W_labelAbove 18 = .ok (.iload_n 3, 1) := by decide +kernel
theorem d_W_labelAbove_19 : decode b_W_labelAbove 19 = .ok (.iload_n 2, 1) := by decide +kernel
theorem d_W_labelAbove_20 : decode b_W_labelAbove 20 = .ok (.invokevirtual 74, 3) := by decide +kernel
theorem d_W_labelAbove_23 : decode b_W_labelAbove 23 = .ok (.ireturn, 1) := by decide +kernel
theorem d_W_labelAbove_24 : decode b_W_labelAbove 24 = .ok (.iinc 3 (-1), 3) := by decide +kernel
theorem d_W_labelAbove_27 : decode b_W_labelAbove 27 = .ok (.goto (-23), 3) := by decide +kernel
theorem d_W_labelAbove_30 : decode b_W_labelAbove 30 = .ok (.iload_n 2, 1) := by decide +kernel
theorem d_W_labelAbove_31 : decode b_W_labelAbove 31 = .ok (.ireturn, 1) := by decide +kernel
theorem d_W_labelBelow_0 : decode b_W_labelBelow 0 = .ok (.aload_n 0, 1) := by decide +kernel
theorem d_W_labelBelow_1 : decode b_W_labelBelow 1 = .ok (.iload_n 1, 1) := by decide +kernel
theorem d_W_labelBelow_2 : decode b_W_labelBelow 2 = .ok (.iconst 1, 1) := by decide +kernel
theorem d_W_labelBelow_3 : decode b_W_labelBelow 3 = .ok (.iadd, 1) := by decide +kernel
theorem d_W_labelBelow_4 : decode b_W_labelBelow 4 = .ok (.iload_n 2, 1) := by decide +kernel
theorem d_W_labelBelow_5 : decode b_W_labelBelow 5 = .ok (.invokevirtual 49, 3) := by decide +kernel
theorem d_W_labelBelow_8 : decode b_W_labelBelow 8 = .ok (.ifCond .eq 12, 3) := by decide +kernel
theorem d_W_labelBelow_11 : decode b_W_labelBelow 11 = .ok (.aload_n 0, 1) := by decide +kernel
theorem d_W_labelBelow_12 : decode b_W_labelBelow 12 = .ok (.iload_n 1, 1) := by decide +kernel
theorem d_W_labelBelow_13 : decode b_W_labelBelow 13 = .ok (.iload_n 2, 1) := by decide +kernel
theorem d_W_labelBelow_14 : decode b_W_labelBelow 14 = .ok (.invokevirtual 74, 3) := by decide +kernel
theorem d_W_labelBelow_17 : decode b_W_labelBelow 17 = .ok (.goto 4, 3) := by decide +kernel
theorem d_W_labelBelow_20 : decode b_W_labelBelow 20 = .ok (.iload_n 2, 1) := by decide +kernel
theorem d_W_labelBelow_21 : decode b_W_labelBelow 21 = .ok (.ireturn, 1) := by decide +kernel
theorem d_W_madeLabel_0 : decode b_W_madeLabel 0 = .ok (.aload_n 0, 1) := by decide +kernel
theorem d_W_madeLabel_1 : decode b_W_madeLabel 1 = .ok (.getfield 15, 3) := by decide +kernel
theorem d_W_madeLabel_4 : decode b_W_madeLabel 4 = .ok (.iconst 1, 1) := by decide +kernel
theorem d_W_madeLabel_5 : decode b_W_madeLabel 5 = .ok (.iadd, 1) := by decide +kernel
theorem d_W_madeLabel_6 : decode b_W_madeLabel 6 = .ok (.iconst 2, 1) := by decide +kernel
theorem d_W_madeLabel_7 : decode b_W_madeLabel 7 = .ok (.iload_n 1, 1) := by decide +kernel
theorem d_W_madeLabel_8 : decode b_W_madeLabel 8 = .ok (.imul, 1) := by decide +kernel
theorem d_W_madeLabel_9 : decode b_W_madeLabel 9 = .ok (.iadd, 1) := by decide +kernel
theorem d_W_madeLabel_10 : decode b_W_madeLabel 10 = .ok (.iload_n 2, 1) := by decide +kernel
theorem d_W_madeLabel_11 : decode b_W_madeLabel 11 = .ok (.aload_n 0, 1) := by decide +kernel
theorem d_W_madeLabel_12 : decode b_W_madeLabel 12 = .ok (.iload_n 1, 1) := by decide +kernel
theorem d_W_madeLabel_13 : decode b_W_madeLabel 13 = .ok (.invokevirtual 43, 3) := by decide +kernel
theorem d_W_madeLabel_16 : decode b_W_madeLabel 16 = .ok (.isub, 1) := by decide +kernel
theorem d_W_madeLabel_17 : decode b_W_madeLabel 17 = .ok (.iadd, 1) := by decide +kernel
theorem d_W_madeLabel_18 : decode b_W_madeLabel 18 = .ok (.ireturn, 1) := by decide +kernel
