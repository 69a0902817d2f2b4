theorem dX0_init_0 : decode cX0_init 0 = .ok (.aload_n 0, 1) := by decide +kernel
theorem dX0_init_1 : decode cX0_init 1 = .ok (.invokespecial 3, 3) := by decide +kernel
theorem dX0_init_4 : decode cX0_init 4 = .ok (.aload_n 0, 1) := by decide +kernel
theorem dX0_init_5 : decode cX0_init 5 = .ok (.bipush 9, 2) := by decide +kernel
theorem dX0_init_7 : decode cX0_init 7 = .ok (.newarray .int, 2) := by decide +kernel
theorem dX0_init_9 : decode cX0_init 9 = .ok (.putfield 9, 3) := by decide +kernel
theorem dX0_init_12 : decode cX0_init 12 = .ok (.aload_n 0, 1) := by decide +kernel
theorem dX0_init_13 : decode cX0_init 13 = .ok (.iconst 0, 1) := by decide +kernel
theorem dX0_init_14 : decode cX0_init 14 = .ok (.putfield 15, 3) := by decide +kernel
theorem dX0_init_17 : decode cX0_init 17 = .ok (.aload_n 0, 1) := by decide +kernel
theorem dX0_init_18 : decode cX0_init 18 = .ok (.bipush 8, 2) := by decide +kernel
theorem dX0_init_20 : decode cX0_init 20 = .ok (.bipush 9, 2) := by decide +kernel
theorem dX0_init_22 : decode cX0_init 22 = .ok (.multianewarray 19 2, 4) := by decide +kernel
theorem dX0_init_26 : decode cX0_init 26 = .ok (.putfield 21, 3) := by decide +kernel
theorem dX0_init_29 : decode cX0_init 29 = .ok (.aload_n 0, 1) := by decide +kernel
theorem dX0_init_30 : decode cX0_init 30 = .ok (.iconst 0, 1) := by decide +kernel
theorem dX0_init_31 : decode cX0_init 31 = .ok (.putfield 24, 3) := by decide +kernel
theorem dX0_init_34 : decode cX0_init 34 = .ok (.return_, 1) := by decide +kernel
theorem dX0_remember_0 : decode cX0_remember 0 = .ok (.aload_n 0, 1) := by decide +kernel
theorem dX0_remember_1 : decode cX0_remember 1 = .ok (.getfield 9, 3) := by decide +kernel
theorem dX0_remember_4 : decode cX0_remember 4 = .ok (.aload_n 0, 1) := by decide +kernel
theorem dX0_remember_5 : decode cX0_remember 5 = .ok (.getfield 21, 3) := by decide +kernel
theorem dX0_remember_8 : decode cX0_remember 8 = .ok (.aload_n 0, 1) := by decide +kernel
theorem dX0_remember_9 : decode cX0_remember 9 = .ok (.getfield 24, 3) := by decide +kernel
theorem dX0_remember_12 : decode cX0_remember 12 = .ok (.aaload, 1) := by decide +kernel
theorem dX0_remember_13 : decode cX0_remember 13 = .ok (.invokestatic 27, 3) := by decide +kernel
theorem dX0_remember_16 : decode cX0_remember 16 = .ok (.aload_n 0, 1) := by decide +kernel
theorem dX0_remember_17 : decode cX0_remember 17 = .ok (.aload_n 0, 1) := by decide +kernel
theorem dX0_remember_18 : decode cX0_remember 18 = .ok (.getfield 24, 3) := by decide +kernel
theorem dX0_remember_21 : decode cX0_remember 21 = .ok (.iconst 1, 1) := by decide +kernel
theorem dX0_remember_22 : decode cX0_remember 22 = .ok (.iadd, 1) := by decide +kernel
theorem dX0_remember_23 : decode cX0_remember 23 = .ok (.bipush 8, 2) := by decide +kernel
theorem dX0_remember_25 : decode cX0_remember 25 = .ok (.irem, 1) := by decide +kernel
theorem dX0_remember_26 : decode cX0_remember 26 = .ok (.putfield 24, 3) := by decide +kernel
theorem dX0_remember_29 : decode cX0_remember 29 = .ok (.aload_n 0, 1) := by decide +kernel
theorem dX0_remember_30 : decode cX0_remember 30 = .ok (.aload_n 0, 1) := by decide +kernel
theorem dX0_remember_31 : decode cX0_remember 31 = .ok (.getfield 15, 3) := by decide +kernel
theorem dX0_remember_34 : decode cX0_remember 34 = .ok (.iconst 1, 1) := by decide +kernel
theorem dX0_remember_35 : decode cX0_remember 35 = .ok (.iadd, 1) := by decide +kernel
theorem dX0_remember_36 : decode cX0_remember 36 = .ok (.bipush 8, 2) := by decide +kernel
theorem dX0_remember_38 : decode cX0_remember 38 = .ok (.invokestatic 31, 3) := by decide +kernel
theorem dX0_remember_41 : decode cX0_remember 41 = .ok (.putfield 15, 3) := by decide +kernel
theorem dX0_remember_44 : decode cX0_remember 44 = .ok (.return_, 1) := by decide +kernel
theorem dX0_restore_0 : decode cX0_restore 0 = .ok (.aload_n 0, 1) := by decide +kernel
theorem dX0_restore_1 : decode cX0_restore 1 = .ok (.getfield 15, 3) := by decide +kernel
theorem dX0_restore_4 : decode cX0_restore 4 = .ok (.ifCond .ne 5, 3) := by decide +kernel
theorem dX0_restore_7 : decode cX0_restore 7 = .ok (.iconst 0, 1) := by decide +kernel
theorem dX0_restore_8 : decode cX0_restore 8 = .ok (.ireturn, 1) := by decide +kernel
theorem dX0_restore_9 : decode cX0_restore 9 = .ok (.aload_n 0, 1) := by decide +kernel
theorem dX0_restore_10 : decode cX0_restore 10 = .ok (.aload_n 0, 1) := by decide +kernel
theorem dX0_restore_11 : decode cX0_restore 11 = .ok (.getfield 24, 3) := by decide +kernel
theorem dX0_restore_14 : decode cX0_restore 14 = .ok (.bipush 8, 2) := by decide +kernel
theorem dX0_restore_16 : decode cX0_restore 16 = .ok (.iadd, 1) := by decide +kernel
theorem dX0_restore_17 : decode cX0_restore 17 = .ok (.iconst 1, 1) := by decide +kernel
theorem dX0_restore_18 : decode cX0_restore 18 = .ok (.isub, 1) := by decide +kernel
theorem dX0_restore_19 : decode cX0_restore 19 = .ok (.bipush 8, 2) := by decide +kernel
theorem dX0_restore_21 : decode cX0_restore 21 = .ok (.irem, 1) := by decide +kernel
theorem dX0_restore_22 : decode cX0_restore 22 = .ok (.putfield 24, 3) := by decide +kernel
theorem dX0_restore_25 : decode cX0_restore 25 = .ok (.aload_n 0, 1) := by decide +kernel
theorem dX0_restore_26 : decode cX0_restore 26 = .ok (.dup, 1) := by decide +kernel
theorem dX0_restore_27 : decode cX0_restore 27 = .ok (.getfield 15, 3) := by decide +kernel
theorem dX0_restore_30 : decode cX0_restore 30 = .ok (.iconst 1, 1) := by decide +kernel
theorem dX0_restore_31 : decode cX0_restore 31 = .ok (.isub, 1) := by decide +kernel
theorem dX0_restore_32 : decode cX0_restore 32 = .ok (.putfield 15, 3) := by decide +kernel
theorem dX0_restore_35 : decode cX0_restore 35 = .ok (.aload_n 0, 1) := by decide +kernel
theorem dX0_restore_36 : decode cX0_restore 36 = .ok (.getfield 21, 3) := by decide +kernel
theorem dX0_restore_39 : decode cX0_restore 39 = .ok (.aload_n 0, 1) := by decide +kernel
theorem dX0_restore_40 : decode cX0_restore 40 = .ok (.getfield 24, 3) := by decide +kernel
theorem dX0_restore_43 : decode cX0_restore 43 = .ok (.aaload, 1) := by decide +kernel
theorem dX0_restore_44 : decode cX0_restore 44 = .ok (.aload_n 0, 1) := by decide +kernel
theorem dX0_restore_45 : decode cX0_restore 45 = .ok (.getfield 9, 3) := by decide +kernel
theorem dX0_restore_48 : decode cX0_restore 48 = .ok (.invokestatic 27, 3) := by decide +kernel
theorem dX0_restore_51 : decode cX0_restore 51 = .ok (.iconst 1, 1) := by decide +kernel
theorem dX0_restore_52 : decode cX0_restore 52 = .ok (.ireturn, 1) := by decide +kernel
theorem dX0_forget_0 : decode cX0_forget 0 = .ok (.aload_n 0, 1) := by decide +kernel
theorem dX0_forget_1 : decode cX0_forget 1 = .ok (.iconst 0, 1) := by decide +kernel
theorem dX0_forget_2 : decode cX0_forget 2 = .ok (.putfield 15, 3) := by decide +kernel
theorem dX0_forget_5 : decode cX0_forget 5 = .ok (.return_, 1) := by decide +kernel
theorem dX0_hasTopPower_0 : decode cX0_hasTopPower 0 = .ok (.aload_n 0, 1) := by decide +kernel
theorem dX0_hasTopPower_1 : decode cX0_hasTopPower 1 = .ok (.getfield 9, 3) := by decide +kernel
theorem dX0_hasTopPower_4 : decode cX0_hasTopPower 4 = .ok (.bipush 8, 2) := by decide +kernel
theorem dX0_hasTopPower_6 : decode cX0_hasTopPower 6 = .ok (.iaload, 1) := by decide +kernel
theorem dX0_hasTopPower_7 : decode cX0_hasTopPower 7 = .ok (.ifCond .eq 7, 3) := by decide +kernel
theorem dX0_hasTopPower_10 : decode cX0_hasTopPower 10 = .ok (.iconst 1, 1) := by decide +kernel
theorem dX0_hasTopPower_11 : decode cX0_hasTopPower 11 = .ok (.goto 4, 3) := by decide +kernel
theorem dX0_hasTopPower_14 : decode cX0_hasTopPower 14 = .ok (.iconst 0, 1) := by decide +kernel
theorem dX0_hasTopPower_15 : decode cX0_hasTopPower 15 = .ok (.ireturn, 1) := by decide +kernel
theorem dX0_degree_0 : decode cX0_degree 0 = .ok (.bipush 8, 2) := by decide +kernel
theorem dX0_degree_2 : decode cX0_degree 2 = .ok (.istore_n 1, 1) := by decide +kernel
theorem dX0_degree_3 : decode cX0_degree 3 = .ok (.iload_n 1, 1) := by decide +kernel
theorem dX0_degree_4 : decode cX0_degree 4 = .ok (.ifCond .lt 20, 3) := by decide +kernel
theorem dX0_degree_7 : decode cX0_degree 7 = .ok (.aload_n 0, 1) := by decide +kernel
theorem dX0_degree_8 : decode cX0_degree 8 = .ok (.getfield 9, 3) := by decide +kernel
theorem dX0_degree_11 : decode cX0_degree 11 = .ok (.iload_n 1, 1) := by decide +kernel
theorem dX0_degree_12 : decode cX0_degree 12 = .ok (.iaload, 1) := by decide +kernel
theorem dX0_degree_13 : decode cX0_degree 13 = .ok (.ifCond .eq 5, 3) := by decide +kernel
theorem dX0_degree_16 : decode cX0_degree 16 = .ok (.iload_n 1, 1) := by decide +kernel
theorem dX0_degree_17 : decode cX0_degree 17 = .ok (.ireturn, 1) := by decide +kernel
theorem dX0_degree_18 : decode cX0_degree 18 = .ok (.iinc 1 (-1), 3) := by decide +kernel
theorem dX0_degree_21 : decode cX0_degree 21 = .ok (.goto (-18), 3) := by decide +kernel
theorem dX0_degree_24 : decode cX0_degree 24 = .ok (.iconst (-1), 1) := by decide +kernel
theorem dX0_degree_25 : decode cX0_degree 25 = .ok (.ireturn, 1) := by decide +kernel
theorem dX0_size_0 : decode cX0_size 0 = .ok (.iconst 0, 1) := by decide +kernel
theorem dX0_size_1 : decode cX0_size 1 = .ok (.istore_n 1, 1) := by decide +kernel
theorem dX0_size_2 : decode cX0_size 2 = .ok (.iconst 0, 1) := by decide +kernel
theorem dX0_size_3 : decode cX0_size 3 = .ok (.istore_n 2, 1) := by decide +kernel
theorem dX0_size_4 : decode cX0_size 4 = .ok (.iload_n 2, 1) := by decide +kernel
theorem dX0_size_5 : decode cX0_size 5 = .ok (.bipush 9, 2) := by decide +kernel
theorem dX0_size_7 : decode cX0_size 7 = .ok (.if_icmp .ge 21, 3) := by decide +kernel
theorem dX0_size_10 : decode cX0_size 10 = .ok (.aload_n 0, 1) := by decide +kernel
theorem dX0_size_11 : decode cX0_size 11 = .ok (.getfield 9, 3) := by decide +kernel
theorem dX0_size_14 : decode cX0_size 14 = .ok (.iload_n 2, 1) := by decide +kernel
theorem dX0_size_15 : decode cX0_size 15 = .ok (.iaload, 1) := by decide +kernel
theorem dX0_size_16 : decode cX0_size 16 = .ok (.ifCond .eq 6, 3) := by decide +kernel
theorem dX0_size_19 : decode cX0_size 19 = .ok (.iinc 1 1, 3) := by decide +kernel
theorem dX0_size_22 : decode cX0_size 22 = .ok (.iinc 2 1, 3) := by decide +kernel
theorem dX0_size_25 : decode cX0_size 25 = .ok (.goto (-21), 3) := by decide +kernel
theorem dX0_size_28 : decode cX0_size 28 = .ok (.iload_n 1, 1) := by decide +kernel
theorem dX0_size_29 : decode cX0_size 29 = .ok (.ireturn, 1) := by decide +kernel
theorem dX1_init_0 : decode cX1_init 0 = .ok (.aload_n 0, 1) := by decide +kernel
theorem dX1_init_1 : decode cX1_init 1 = .ok (.invokespecial 3, 3) := by decide +kernel
theorem dX1_init_4 : decode cX1_init 4 = .ok (.aload_n 0, 1) := by decide +kernel
theorem dX1_init_5 : decode cX1_init 5 = .ok (.iconst 4, 1) := by decide +kernel
theorem dX1_init_6 : decode cX1_init 6 = .ok (.bipush 9, 2) := by decide +kernel
theorem dX1_init_8 : decode cX1_init 8 = .ok (.multianewarray 9 2, 4) := by decide +kernel
theorem dX1_init_12 : decode cX1_init 12 = .ok (.putfield 11, 3) := by decide +kernel
theorem dX1_init_15 : decode cX1_init 15 = .ok (.aload_n 0, 1) := by decide +kernel
theorem dX1_init_16 : decode cX1_init 16 = .ok (.iconst 4, 1) := by decide +kernel
theorem dX1_init_17 : decode cX1_init 17 = .ok (.bipush 9, 2) := by decide +kernel
theorem dX1_init_19 : decode cX1_init 19 = .ok (.multianewarray 9 2, 4) := by decide +kernel
theorem dX1_init_23 : decode cX1_init 23 = .ok (.putfield 16, 3) := by decide +kernel
theorem dX1_init_26 : decode cX1_init 26 = .ok (.aload_n 0, 1) := by decide +kernel
theorem dX1_init_27 : decode cX1_init 27 = .ok (.bipush 9, 2) := by decide +kernel
theorem dX1_init_29 : decode cX1_init 29 = .ok (.newarray .int, 2) := by decide +kernel
theorem dX1_init_31 : decode cX1_init 31 = .ok (.putfield 19, 3) := by decide +kernel
theorem dX1_init_34 : decode cX1_init 34 = .ok (.aload_n 0, 1) := by decide +kernel
theorem dX1_init_35 : decode cX1_init 35 = .ok (.iconst 0, 1) := by decide +kernel
theorem dX1_init_36 : decode cX1_init 36 = .ok (.putfield 23, 3) := by decide +kernel
theorem dX1_init_39 : decode cX1_init 39 = .ok (.return_, 1) := by decide +kernel
theorem dX2_holds_0 : decode cX2_holds 0 = .ok (.iload_n 0, 1) := by decide +kernel
theorem dX2_holds_1 : decode cX2_holds 1 = .ok (.ifCond .lt 14, 3) := by decide +kernel
theorem dX2_holds_4 : decode cX2_holds 4 = .ok (.iload_n 0, 1) := by decide +kernel
theorem dX2_holds_5 : decode cX2_holds 5 = .ok (.sipush 9973, 3) := by decide +kernel
theorem dX2_holds_8 : decode cX2_holds 8 = .ok (.if_icmp .ge 7, 3) := by decide +kernel
theorem dX2_holds_11 : decode cX2_holds 11 = .ok (.iconst 1, 1) := by decide +kernel
theorem dX2_holds_12 : decode cX2_holds 12 = .ok (.goto 4, 3) := by decide +kernel
theorem dX2_holds_15 : decode cX2_holds 15 = .ok (.iconst 0, 1) := by decide +kernel
theorem dX2_holds_16 : decode cX2_holds 16 = .ok (.ireturn, 1) := by decide +kernel
theorem dX2_add_0 : decode cX2_add 0 = .ok (.iload_n 0, 1) := by decide +kernel
theorem dX2_add_1 : decode cX2_add 1 = .ok (.iload_n 1, 1) := by decide +kernel
theorem dX2_add_2 : decode cX2_add 2 = .ok (.iadd, 1) := by decide +kernel
theorem dX2_add_3 : decode cX2_add 3 = .ok (.sipush 9973, 3) := by decide +kernel
theorem dX2_add_6 : decode cX2_add 6 = .ok (.irem, 1) := by decide +kernel
theorem dX2_add_7 : decode cX2_add 7 = .ok (.ireturn, 1) := by decide +kernel
theorem dX2_subtract_0 : decode cX2_subtract 0 = .ok (.iload_n 0, 1) := by decide +kernel
theorem dX2_subtract_1 : decode cX2_subtract 1 = .ok (.iload_n 1, 1) := by decide +kernel
theorem dX2_subtract_2 : decode cX2_subtract 2 = .ok (.isub, 1) := by decide +kernel
theorem dX2_subtract_3 : decode cX2_subtract 3 = .ok (.sipush 9973, 3) := by decide +kernel
theorem dX2_subtract_6 : decode cX2_subtract 6 = .ok (.iadd, 1) := by decide +kernel
theorem dX2_subtract_7 : decode cX2_subtract 7 = .ok (.sipush 9973, 3) := by decide +kernel
theorem dX2_subtract_10 : decode cX2_subtract 10 = .ok (.irem, 1) := by decide +kernel
theorem dX2_subtract_11 : decode cX2_subtract 11 = .ok (.ireturn, 1) := by decide +kernel
theorem dX2_multiply_0 : decode cX2_multiply 0 = .ok (.iload_n 0, 1) := by decide +kernel
theorem dX2_multiply_1 : decode cX2_multiply 1 = .ok (.iload_n 1, 1) := by decide +kernel
theorem dX2_multiply_2 : decode cX2_multiply 2 = .ok (.imul, 1) := by decide +kernel
theorem dX2_multiply_3 : decode cX2_multiply 3 = .ok (.sipush 9973, 3) := by decide +kernel
theorem dX2_multiply_6 : decode cX2_multiply 6 = .ok (.irem, 1) := by decide +kernel
theorem dX2_multiply_7 : decode cX2_multiply 7 = .ok (.ireturn, 1) := by decide +kernel
theorem dX2_inverse_0 : decode cX2_inverse 0 = .ok (.iconst 1, 1) := by decide +kernel
theorem dX2_inverse_1 : decode cX2_inverse 1 = .ok (.istore_n 1, 1) := by decide +kernel
theorem dX2_inverse_2 : decode cX2_inverse 2 = .ok (.iload_n 0, 1) := by decide +kernel
theorem dX2_inverse_3 : decode cX2_inverse 3 = .ok (.istore_n 2, 1) := by decide +kernel
theorem dX2_inverse_4 : decode cX2_inverse 4 = .ok (.sipush 9971, 3) := by decide +kernel
theorem dX2_inverse_7 : decode cX2_inverse 7 = .ok (.istore_n 3, 1) := by decide +kernel
theorem dX2_inverse_8 : decode cX2_inverse 8 = .ok (.iload_n 3, 1) := by decide +kernel
theorem dX2_inverse_9 : decode cX2_inverse 9 = .ok (.ifCond .le 33, 3) := by decide +kernel
theorem dX2_inverse_12 : decode cX2_inverse 12 = .ok (.iload_n 3, 1) := by decide +kernel
theorem dX2_inverse_13 : decode cX2_inverse 13 = .ok (.iconst 1, 1) := by decide +kernel
theorem dX2_inverse_14 : decode cX2_inverse 14 = .ok (.iand, 1) := by decide +kernel
theorem dX2_inverse_15 : decode cX2_inverse 15 = .ok (.iconst 1, 1) := by decide +kernel
theorem dX2_inverse_16 : decode cX2_inverse 16 = .ok (.if_icmp .ne 11, 3) := by decide +kernel
theorem dX2_inverse_19 : decode cX2_inverse 19 = .ok (.iload_n 1, 1) := by decide +kernel
theorem dX2_inverse_20 : decode cX2_inverse 20 = .ok (.iload_n 2, 1) := by decide +kernel
theorem dX2_inverse_21 : decode cX2_inverse 21 = .ok (.imul, 1) := by decide +kernel
theorem dX2_inverse_22 : decode cX2_inverse 22 = .ok (.sipush 9973, 3) := by decide +kernel
theorem dX2_inverse_25 : decode cX2_inverse 25 = .ok (.irem, 1) := by decide +kernel
theorem dX2_inverse_26 : decode cX2_inverse 26 = .ok (.istore_n 1, 1) := by decide +kernel
theorem dX2_inverse_27 : decode cX2_inverse 27 = .ok (.iload_n 2, 1) := by decide +kernel
theorem dX2_inverse_28 : decode cX2_inverse 28 = .ok (.iload_n 2, 1) := by decide +kernel
theorem dX2_inverse_29 : decode cX2_inverse 29 = .ok (.imul, 1) := by decide +kernel
theorem dX2_inverse_30 : decode cX2_inverse 30 = .ok (.sipush 9973, 3) := by decide +kernel
theorem dX2_inverse_33 : decode cX2_inverse 33 = .ok (.irem, 1) := by decide +kernel
theorem dX2_inverse_34 : decode cX2_inverse 34 = .ok (.istore_n 2, 1) := by decide +kernel
theorem dX2_inverse_35 : decode cX2_inverse 35 = .ok (.iload_n 3, 1) := by decide +kernel
theorem dX2_inverse_36 : decode cX2_inverse 36 = .ok (.iconst 1, 1) := by decide +kernel
theorem dX2_inverse_37 : decode cX2_inverse 37 = .ok (.ishr, 1) := by decide +kernel
theorem dX2_inverse_38 : decode cX2_inverse 38 = .ok (.istore_n 3, 1) := by decide +kernel
theorem dX2_inverse_39 : decode cX2_inverse 39 = .ok (.goto (-31), 3) := by decide +kernel
theorem dX2_inverse_42 : decode cX2_inverse 42 = .ok (.iload_n 1, 1) := by decide +kernel
theorem dX2_inverse_43 : decode cX2_inverse 43 = .ok (.ireturn, 1) := by decide +kernel
theorem dX3_init_0 : decode cX3_init 0 = .ok (.aload_n 0, 1) := by decide +kernel
theorem dX3_init_1 : decode cX3_init 1 = .ok (.invokespecial 3, 3) := by decide +kernel
theorem dX3_init_4 : decode cX3_init 4 = .ok (.aload_n 0, 1) := by decide +kernel
theorem dX3_init_5 : decode cX3_init 5 = .ok (.bipush 16, 2) := by decide +kernel
theorem dX3_init_7 : decode cX3_init 7 = .ok (.bipush 9, 2) := by decide +kernel
theorem dX3_init_9 : decode cX3_init 9 = .ok (.multianewarray 9 2, 4) := by decide +kernel
theorem dX3_init_13 : decode cX3_init 13 = .ok (.putfield 11, 3) := by decide +kernel
theorem dX3_init_16 : decode cX3_init 16 = .ok (.aload_n 0, 1) := by decide +kernel
theorem dX3_init_17 : decode cX3_init 17 = .ok (.bipush 9, 2) := by decide +kernel
theorem dX3_init_19 : decode cX3_init 19 = .ok (.newarray .int, 2) := by decide +kernel
theorem dX3_init_21 : decode cX3_init 21 = .ok (.putfield 16, 3) := by decide +kernel
theorem dX3_init_24 : decode cX3_init 24 = .ok (.aload_n 0, 1) := by decide +kernel
theorem dX3_init_25 : decode cX3_init 25 = .ok (.iconst 0, 1) := by decide +kernel
theorem dX3_init_26 : decode cX3_init 26 = .ok (.putfield 20, 3) := by decide +kernel
theorem dX3_init_29 : decode cX3_init 29 = .ok (.aload_n 0, 1) := by decide +kernel
theorem dX3_init_30 : decode cX3_init 30 = .ok (.aload_n 1, 1) := by decide +kernel
theorem dX3_init_31 : decode cX3_init 31 = .ok (.putfield 24, 3) := by decide +kernel
theorem dX3_init_34 : decode cX3_init 34 = .ok (.return_, 1) := by decide +kernel
theorem dX3_toldG_0 : decode cX3_toldG 0 = .ok (.aload_n 0, 1) := by decide +kernel
theorem dX3_toldG_1 : decode cX3_toldG 1 = .ok (.getfield 11, 3) := by decide +kernel
theorem dX3_toldG_4 : decode cX3_toldG 4 = .ok (.iconst 0, 1) := by decide +kernel
theorem dX3_toldG_5 : decode cX3_toldG 5 = .ok (.aaload, 1) := by decide +kernel
theorem dX3_toldG_6 : decode cX3_toldG 6 = .ok (.areturn, 1) := by decide +kernel
theorem dX3_toldF_0 : decode cX3_toldF 0 = .ok (.aload_n 0, 1) := by decide +kernel
theorem dX3_toldF_1 : decode cX3_toldF 1 = .ok (.getfield 11, 3) := by decide +kernel
theorem dX3_toldF_4 : decode cX3_toldF 4 = .ok (.iconst 1, 1) := by decide +kernel
theorem dX3_toldF_5 : decode cX3_toldF 5 = .ok (.aaload, 1) := by decide +kernel
theorem dX3_toldF_6 : decode cX3_toldF 6 = .ok (.areturn, 1) := by decide +kernel
theorem dX3_reckon_0 : decode cX3_reckon 0 = .ok (.aload_n 0, 1) := by decide +kernel
theorem dX3_reckon_1 : decode cX3_reckon 1 = .ok (.iconst 0, 1) := by decide +kernel
theorem dX3_reckon_2 : decode cX3_reckon 2 = .ok (.putfield 20, 3) := by decide +kernel
theorem dX3_reckon_5 : decode cX3_reckon 5 = .ok (.iconst 0, 1) := by decide +kernel
theorem dX3_reckon_6 : decode cX3_reckon 6 = .ok (.istore_n 2, 1) := by decide +kernel
theorem dX3_reckon_7 : decode cX3_reckon 7 = .ok (.iload_n 2, 1) := by decide +kernel
theorem dX3_reckon_8 : decode cX3_reckon 8 = .ok (.aload_n 1, 1) := by decide +kernel
theorem dX3_reckon_9 : decode cX3_reckon 9 = .ok (.getfield 28, 3) := by decide +kernel
theorem dX3_reckon_12 : decode cX3_reckon 12 = .ok (.if_icmp .ge 30, 3) := by decide +kernel
theorem dX3_reckon_15 : decode cX3_reckon 15 = .ok (.aload_n 0, 1) := by decide +kernel
theorem dX3_reckon_16 : decode cX3_reckon 16 = .ok (.aload_n 1, 1) := by decide +kernel
theorem dX3_reckon_17 : decode cX3_reckon 17 = .ok (.getfield 33, 3) := by decide +kernel
theorem dX3_reckon_20 : decode cX3_reckon 20 = .ok (.iload_n 2, 1) := by decide +kernel
theorem dX3_reckon_21 : decode cX3_reckon 21 = .ok (.iaload, 1) := by decide +kernel
theorem dX3_reckon_22 : decode cX3_reckon 22 = .ok (.aload_n 1, 1) := by decide +kernel
theorem dX3_reckon_23 : decode cX3_reckon 23 = .ok (.getfield 36, 3) := by decide +kernel
theorem dX3_reckon_26 : decode cX3_reckon 26 = .ok (.iload_n 2, 1) := by decide +kernel
theorem dX3_reckon_27 : decode cX3_reckon 27 = .ok (.iaload, 1) := by decide +kernel
theorem dX3_reckon_28 : decode cX3_reckon 28 = .ok (.invokevirtual 39, 3) := by decide +kernel
theorem dX3_reckon_31 : decode cX3_reckon 31 = .ok (.ifCond .ne 5, 3) := by decide +kernel
theorem dX3_reckon_34 : decode cX3_reckon 34 = .ok (.iconst 0, 1) := by decide +kernel
theorem dX3_reckon_35 : decode cX3_reckon 35 = .ok (.ireturn, 1) := by decide +kernel
theorem dX3_reckon_36 : decode cX3_reckon 36 = .ok (.iinc 2 1, 3) := by decide +kernel
theorem dX3_reckon_39 : decode cX3_reckon 39 = .ok (.goto (-32), 3) := by decide +kernel
theorem dX3_reckon_42 : decode cX3_reckon 42 = .ok (.aload_n 0, 1) := by decide +kernel
theorem dX3_reckon_43 : decode cX3_reckon 43 = .ok (.getfield 20, 3) := by decide +kernel
theorem dX3_reckon_46 : decode cX3_reckon 46 = .ok (.iconst 2, 1) := by decide +kernel
theorem dX3_reckon_47 : decode cX3_reckon 47 = .ok (.if_icmp .ne 27, 3) := by decide +kernel
theorem dX3_reckon_50 : decode cX3_reckon 50 = .ok (.aload_n 0, 1) := by decide +kernel
theorem dX3_reckon_51 : decode cX3_reckon 51 = .ok (.invokevirtual 43, 3) := by decide +kernel
theorem dX3_reckon_54 : decode cX3_reckon 54 = .ok (.invokestatic 47, 3) := by decide +kernel
theorem dX3_reckon_57 : decode cX3_reckon 57 = .ok (.ifCond .eq 17, 3) := by decide +kernel
theorem dX3_reckon_60 : decode cX3_reckon 60 = .ok (.aload_n 0, 1) := by decide +kernel
theorem dX3_reckon_61 : decode cX3_reckon 61 = .ok (.invokevirtual 51, 3) := by decide +kernel
theorem dX3_reckon_64 : decode cX3_reckon 64 = .ok (.invokestatic 54, 3) := by decide +kernel
theorem dX3_reckon_67 : decode cX3_reckon 67 = .ok (.ifCond .eq 7, 3) := by decide +kernel
theorem dX3_reckon_70 : decode cX3_reckon 70 = .ok (.iconst 1, 1) := by decide +kernel
theorem dX3_reckon_71 : decode cX3_reckon 71 = .ok (.goto 4, 3) := by decide +kernel
theorem dX3_reckon_74 : decode cX3_reckon 74 = .ok (.iconst 0, 1) := by decide +kernel
theorem dX3_reckon_75 : decode cX3_reckon 75 = .ok (.ireturn, 1) := by decide +kernel
theorem dX3_goStep_0 : decode cX3_goStep 0 = .ok (.iload_n 1, 1) := by decide +kernel
theorem dX3_goStep_1 : decode cX3_goStep 1 = .ok (.lookupswitch 119 #[(42, 81), (43, 81), (45, 81), (47, 81), (48, 67), (94, 87), (116, 74)], 67) := by decide +kernel
theorem dX3_goStep_68 : decode cX3_goStep 68 = .ok (.aload_n 0, 1) := by decide +kernel
theorem dX3_goStep_69 : decode cX3_goStep 69 = .ok (.iconst 0, 1) := by decide +kernel
theorem dX3_goStep_70 : decode cX3_goStep 70 = .ok (.iload_n 2, 1) := by decide +kernel
theorem dX3_goStep_71 : decode cX3_goStep 71 = .ok (.invokevirtual 57, 3) := by decide +kernel
theorem dX3_goStep_74 : decode cX3_goStep 74 = .ok (.ireturn, 1) := by decide +kernel
theorem dX3_goStep_75 : decode cX3_goStep 75 = .ok (.aload_n 0, 1) := by decide +kernel
theorem dX3_goStep_76 : decode cX3_goStep 76 = .ok (.iconst 1, 1) := by decide +kernel
theorem dX3_goStep_77 : decode cX3_goStep 77 = .ok (.iconst 1, 1) := by decide +kernel
theorem dX3_goStep_78 : decode cX3_goStep 78 = .ok (.invokevirtual 57, 3) := by decide +kernel
theorem dX3_goStep_81 : decode cX3_goStep 81 = .ok (.ireturn, 1) := by decide +kernel
theorem dX3_goStep_82 : decode cX3_goStep 82 = .ok (.aload_n 0, 1) := by decide +kernel
theorem dX3_goStep_83 : decode cX3_goStep 83 = .ok (.iload_n 1, 1) := by decide +kernel
theorem dX3_goStep_84 : decode cX3_goStep 84 = .ok (.invokevirtual 60, 3) := by decide +kernel
theorem dX3_goStep_87 : decode cX3_goStep 87 = .ok (.ireturn, 1) := by decide +kernel
theorem dX3_goStep_88 : decode cX3_goStep 88 = .ok (.aload_n 0, 1) := by decide +kernel
theorem dX3_goStep_89 : decode cX3_goStep 89 = .ok (.getfield 20, 3) := by decide +kernel
theorem dX3_goStep_92 : decode cX3_goStep 92 = .ok (.ifCond .le 26, 3) := by decide +kernel
theorem dX3_goStep_95 : decode cX3_goStep 95 = .ok (.aload_n 0, 1) := by decide +kernel
theorem dX3_goStep_96 : decode cX3_goStep 96 = .ok (.aload_n 0, 1) := by decide +kernel
theorem dX3_goStep_97 : decode cX3_goStep 97 = .ok (.getfield 11, 3) := by decide +kernel
theorem dX3_goStep_100 : decode cX3_goStep 100 = .ok (.aload_n 0, 1) := by decide +kernel
theorem dX3_goStep_101 : decode cX3_goStep 101 = .ok (.getfield 20, 3) := by decide +kernel
theorem dX3_goStep_104 : decode cX3_goStep 104 = .ok (.iconst 1, 1) := by decide +kernel
theorem dX3_goStep_105 : decode cX3_goStep 105 = .ok (.isub, 1) := by decide +kernel
theorem dX3_goStep_106 : decode cX3_goStep 106 = .ok (.aaload, 1) := by decide +kernel
theorem dX3_goStep_107 : decode cX3_goStep 107 = .ok (.iload_n 2, 1) := by decide +kernel
theorem dX3_goStep_108 : decode cX3_goStep 108 = .ok (.invokevirtual 64, 3) := by decide +kernel
theorem dX3_goStep_111 : decode cX3_goStep 111 = .ok (.ifCond .eq 7, 3) := by decide +kernel
theorem dX3_goStep_114 : decode cX3_goStep 114 = .ok (.iconst 1, 1) := by decide +kernel
theorem dX3_goStep_115 : decode cX3_goStep 115 = .ok (.goto 4, 3) := by decide +kernel
theorem dX3_goStep_118 : decode cX3_goStep 118 = .ok (.iconst 0, 1) := by decide +kernel
theorem dX3_goStep_119 : decode cX3_goStep 119 = .ok (.ireturn, 1) := by decide +kernel
theorem dX3_goStep_120 : decode cX3_goStep 120 = .ok (.aload_n 0, 1) := by decide +kernel
theorem dX3_goStep_121 : decode cX3_goStep 121 = .ok (.getfield 20, 3) := by decide +kernel
theorem dX3_goStep_124 : decode cX3_goStep 124 = .ok (.ifCond .le 26, 3) := by decide +kernel
theorem dX3_goStep_127 : decode cX3_goStep 127 = .ok (.aload_n 0, 1) := by decide +kernel
theorem dX3_goStep_128 : decode cX3_goStep 128 = .ok (.iload_n 1, 1) := by decide +kernel
theorem dX3_goStep_129 : decode cX3_goStep 129 = .ok (.aload_n 0, 1) := by decide +kernel
theorem dX3_goStep_130 : decode cX3_goStep 130 = .ok (.getfield 11, 3) := by decide +kernel
theorem dX3_goStep_133 : decode cX3_goStep 133 = .ok (.aload_n 0, 1) := by decide +kernel
theorem dX3_goStep_134 : decode cX3_goStep 134 = .ok (.getfield 20, 3) := by decide +kernel
theorem dX3_goStep_137 : decode cX3_goStep 137 = .ok (.iconst 1, 1) := by decide +kernel
theorem dX3_goStep_138 : decode cX3_goStep 138 = .ok (.isub, 1) := by decide +kernel
theorem dX3_goStep_139 : decode cX3_goStep 139 = .ok (.aaload, 1) := by decide +kernel
theorem dX3_goStep_140 : decode cX3_goStep 140 = .ok (.invokevirtual 68, 3) := by decide +kernel
theorem dX3_goStep_143 : decode cX3_goStep 143 = .ok (.ifCond .eq 7, 3) := by decide +kernel
theorem dX3_goStep_146 : decode cX3_goStep 146 = .ok (.iconst 1, 1) := by decide +kernel
theorem dX3_goStep_147 : decode cX3_goStep 147 = .ok (.goto 4, 3) := by decide +kernel
theorem dX3_goStep_150 : decode cX3_goStep 150 = .ok (.iconst 0, 1) := by decide +kernel
theorem dX3_goStep_151 : decode cX3_goStep 151 = .ok (.ireturn, 1) := by decide +kernel
theorem dX3_pushMonomial_0 : decode cX3_pushMonomial 0 = .ok (.aload_n 0, 1) := by decide +kernel
theorem dX3_pushMonomial_1 : decode cX3_pushMonomial 1 = .ok (.getfield 20, 3) := by decide +kernel
theorem dX3_pushMonomial_4 : decode cX3_pushMonomial 4 = .ok (.bipush 16, 2) := by decide +kernel
theorem dX3_pushMonomial_6 : decode cX3_pushMonomial 6 = .ok (.if_icmp .lt 5, 3) := by decide +kernel
theorem dX3_pushMonomial_9 : decode cX3_pushMonomial 9 = .ok (.iconst 0, 1) := by decide +kernel
theorem dX3_pushMonomial_10 : decode cX3_pushMonomial 10 = .ok (.ireturn, 1) := by decide +kernel
theorem dX3_pushMonomial_11 : decode cX3_pushMonomial 11 = .ok (.aload_n 0, 1) := by decide +kernel
theorem dX3_pushMonomial_12 : decode cX3_pushMonomial 12 = .ok (.getfield 11, 3) := by decide +kernel
theorem dX3_pushMonomial_15 : decode cX3_pushMonomial 15 = .ok (.aload_n 0, 1) := by decide +kernel
theorem dX3_pushMonomial_16 : decode cX3_pushMonomial 16 = .ok (.getfield 20, 3) := by decide +kernel
theorem dX3_pushMonomial_19 : decode cX3_pushMonomial 19 = .ok (.aaload, 1) := by decide +kernel
theorem dX3_pushMonomial_20 : decode cX3_pushMonomial 20 = .ok (.iload_n 1, 1) := by decide +kernel
theorem dX3_pushMonomial_21 : decode cX3_pushMonomial 21 = .ok (.iload_n 2, 1) := by decide +kernel
theorem dX3_pushMonomial_22 : decode cX3_pushMonomial 22 = .ok (.invokestatic 72, 3) := by decide +kernel
theorem dX3_pushMonomial_25 : decode cX3_pushMonomial 25 = .ok (.aload_n 0, 1) := by decide +kernel
theorem dX3_pushMonomial_26 : decode cX3_pushMonomial 26 = .ok (.dup, 1) := by decide +kernel
theorem dX3_pushMonomial_27 : decode cX3_pushMonomial 27 = .ok (.getfield 20, 3) := by decide +kernel
theorem dX3_pushMonomial_30 : decode cX3_pushMonomial 30 = .ok (.iconst 1, 1) := by decide +kernel
theorem dX3_pushMonomial_31 : decode cX3_pushMonomial 31 = .ok (.iadd, 1) := by decide +kernel
theorem dX3_pushMonomial_32 : decode cX3_pushMonomial 32 = .ok (.putfield 20, 3) := by decide +kernel
theorem dX3_pushMonomial_35 : decode cX3_pushMonomial 35 = .ok (.iconst 1, 1) := by decide +kernel
theorem dX3_pushMonomial_36 : decode cX3_pushMonomial 36 = .ok (.ireturn, 1) := by decide +kernel
theorem dX3_joinTwo_0 : decode cX3_joinTwo 0 = .ok (.aload_n 0, 1) := by decide +kernel
theorem dX3_joinTwo_1 : decode cX3_joinTwo 1 = .ok (.getfield 20, 3) := by decide +kernel
theorem dX3_joinTwo_4 : decode cX3_joinTwo 4 = .ok (.iconst 2, 1) := by decide +kernel
theorem dX3_joinTwo_5 : decode cX3_joinTwo 5 = .ok (.if_icmp .ge 5, 3) := by decide +kernel
theorem dX3_joinTwo_8 : decode cX3_joinTwo 8 = .ok (.iconst 0, 1) := by decide +kernel
theorem dX3_joinTwo_9 : decode cX3_joinTwo 9 = .ok (.ireturn, 1) := by decide +kernel
theorem dX3_joinTwo_10 : decode cX3_joinTwo 10 = .ok (.aload_n 0, 1) := by decide +kernel
theorem dX3_joinTwo_11 : decode cX3_joinTwo 11 = .ok (.dup, 1) := by decide +kernel
theorem dX3_joinTwo_12 : decode cX3_joinTwo 12 = .ok (.getfield 20, 3) := by decide +kernel
theorem dX3_joinTwo_15 : decode cX3_joinTwo 15 = .ok (.iconst 1, 1) := by decide +kernel
theorem dX3_joinTwo_16 : decode cX3_joinTwo 16 = .ok (.isub, 1) := by decide +kernel
theorem dX3_joinTwo_17 : decode cX3_joinTwo 17 = .ok (.putfield 20, 3) := by decide +kernel
theorem dX3_joinTwo_20 : decode cX3_joinTwo 20 = .ok (.aload_n 0, 1) := by decide +kernel
theorem dX3_joinTwo_21 : decode cX3_joinTwo 21 = .ok (.getfield 11, 3) := by decide +kernel
theorem dX3_joinTwo_24 : decode cX3_joinTwo 24 = .ok (.aload_n 0, 1) := by decide +kernel
theorem dX3_joinTwo_25 : decode cX3_joinTwo 25 = .ok (.getfield 20, 3) := by decide +kernel
theorem dX3_joinTwo_28 : decode cX3_joinTwo 28 = .ok (.iconst 1, 1) := by decide +kernel
theorem dX3_joinTwo_29 : decode cX3_joinTwo 29 = .ok (.isub, 1) := by decide +kernel
theorem dX3_joinTwo_30 : decode cX3_joinTwo 30 = .ok (.aaload, 1) := by decide +kernel
theorem dX3_joinTwo_31 : decode cX3_joinTwo 31 = .ok (.astore_n 2, 1) := by decide +kernel
theorem dX3_joinTwo_32 : decode cX3_joinTwo 32 = .ok (.aload_n 0, 1) := by decide +kernel
theorem dX3_joinTwo_33 : decode cX3_joinTwo 33 = .ok (.getfield 11, 3) := by decide +kernel
theorem dX3_joinTwo_36 : decode cX3_joinTwo 36 = .ok (.aload_n 0, 1) := by decide +kernel
theorem dX3_joinTwo_37 : decode cX3_joinTwo 37 = .ok (.getfield 20, 3) := by decide +kernel
theorem dX3_joinTwo_40 : decode cX3_joinTwo 40 = .ok (.aaload, 1) := by decide +kernel
theorem dX3_joinTwo_41 : decode cX3_joinTwo 41 = .ok (.astore_n 3, 1) := by decide +kernel
theorem dX3_joinTwo_42 : decode cX3_joinTwo 42 = .ok (.iload_n 1, 1) := by decide +kernel
theorem dX3_joinTwo_43 : decode cX3_joinTwo 43 = .ok (.bipush 47, 2) := by decide +kernel
theorem dX3_joinTwo_45 : decode cX3_joinTwo 45 = .ok (.if_icmp .ne 12, 3) := by decide +kernel
theorem dX3_joinTwo_48 : decode cX3_joinTwo 48 = .ok (.aload_n 3, 1) := by decide +kernel
theorem dX3_joinTwo_49 : decode cX3_joinTwo 49 = .ok (.invokestatic 47, 3) := by decide +kernel
theorem dX3_joinTwo_52 : decode cX3_joinTwo 52 = .ok (.ifCond .ne 5, 3) := by decide +kernel
theorem dX3_joinTwo_55 : decode cX3_joinTwo 55 = .ok (.iconst 0, 1) := by decide +kernel
theorem dX3_joinTwo_56 : decode cX3_joinTwo 56 = .ok (.ireturn, 1) := by decide +kernel
theorem dX3_joinTwo_57 : decode cX3_joinTwo 57 = .ok (.iload_n 1, 1) := by decide +kernel
theorem dX3_joinTwo_58 : decode cX3_joinTwo 58 = .ok (.tableswitch 63 42 45 #[50, 30, 63, 39], 30) := by decide +kernel
theorem dX3_joinTwo_88 : decode cX3_joinTwo 88 = .ok (.aload_n 2, 1) := by decide +kernel
theorem dX3_joinTwo_89 : decode cX3_joinTwo 89 = .ok (.aload_n 3, 1) := by decide +kernel
theorem dX3_joinTwo_90 : decode cX3_joinTwo 90 = .ok (.iconst 1, 1) := by decide +kernel
theorem dX3_joinTwo_91 : decode cX3_joinTwo 91 = .ok (.invokestatic 76, 3) := by decide +kernel
theorem dX3_joinTwo_94 : decode cX3_joinTwo 94 = .ok (.goto 37, 3) := by decide +kernel
theorem dX3_joinTwo_97 : decode cX3_joinTwo 97 = .ok (.aload_n 2, 1) := by decide +kernel
theorem dX3_joinTwo_98 : decode cX3_joinTwo 98 = .ok (.aload_n 3, 1) := by decide +kernel
theorem dX3_joinTwo_99 : decode cX3_joinTwo 99 = .ok (.sipush 9972, 3) := by decide +kernel
theorem dX3_joinTwo_102 : decode cX3_joinTwo 102 = .ok (.invokestatic 76, 3) := by decide +kernel
theorem dX3_joinTwo_105 : decode cX3_joinTwo 105 = .ok (.goto 26, 3) := by decide +kernel
theorem dX3_joinTwo_108 : decode cX3_joinTwo 108 = .ok (.aload_n 0, 1) := by decide +kernel
theorem dX3_joinTwo_109 : decode cX3_joinTwo 109 = .ok (.getfield 24, 3) := by decide +kernel
theorem dX3_joinTwo_112 : decode cX3_joinTwo 112 = .ok (.aload_n 2, 1) := by decide +kernel
theorem dX3_joinTwo_113 : decode cX3_joinTwo 113 = .ok (.aload_n 2, 1) := by decide +kernel
theorem dX3_joinTwo_114 : decode cX3_joinTwo 114 = .ok (.aload_n 3, 1) := by decide +kernel
theorem dX3_joinTwo_115 : decode cX3_joinTwo 115 = .ok (.invokevirtual 80, 3) := by decide +kernel
theorem dX3_joinTwo_118 : decode cX3_joinTwo 118 = .ok (.goto 13, 3) := by decide +kernel
theorem dX3_joinTwo_121 : decode cX3_joinTwo 121 = .ok (.aload_n 0, 1) := by decide +kernel
theorem dX3_joinTwo_122 : decode cX3_joinTwo 122 = .ok (.getfield 24, 3) := by decide +kernel
theorem dX3_joinTwo_125 : decode cX3_joinTwo 125 = .ok (.aload_n 2, 1) := by decide +kernel
theorem dX3_joinTwo_126 : decode cX3_joinTwo 126 = .ok (.aload_n 2, 1) := by decide +kernel
theorem dX3_joinTwo_127 : decode cX3_joinTwo 127 = .ok (.aload_n 3, 1) := by decide +kernel
theorem dX3_joinTwo_128 : decode cX3_joinTwo 128 = .ok (.invokevirtual 86, 3) := by decide +kernel
theorem dX3_joinTwo_131 : decode cX3_joinTwo 131 = .ok (.iconst 1, 1) := by decide +kernel
theorem dX3_joinTwo_132 : decode cX3_joinTwo 132 = .ok (.ireturn, 1) := by decide +kernel
theorem dX3_toPower_0 : decode cX3_toPower 0 = .ok (.aload_n 1, 1) := by decide +kernel
theorem dX3_toPower_1 : decode cX3_toPower 1 = .ok (.aload_n 0, 1) := by decide +kernel
theorem dX3_toPower_2 : decode cX3_toPower 2 = .ok (.getfield 16, 3) := by decide +kernel
theorem dX3_toPower_5 : decode cX3_toPower 5 = .ok (.invokestatic 89, 3) := by decide +kernel
theorem dX3_toPower_8 : decode cX3_toPower 8 = .ok (.aload_n 1, 1) := by decide +kernel
theorem dX3_toPower_9 : decode cX3_toPower 9 = .ok (.iconst 0, 1) := by decide +kernel
theorem dX3_toPower_10 : decode cX3_toPower 10 = .ok (.iconst 1, 1) := by decide +kernel
theorem dX3_toPower_11 : decode cX3_toPower 11 = .ok (.invokestatic 72, 3) := by decide +kernel
theorem dX3_toPower_14 : decode cX3_toPower 14 = .ok (.iconst 0, 1) := by decide +kernel
theorem dX3_toPower_15 : decode cX3_toPower 15 = .ok (.istore_n 3, 1) := by decide +kernel
theorem dX3_toPower_16 : decode cX3_toPower 16 = .ok (.iload_n 3, 1) := by decide +kernel
theorem dX3_toPower_17 : decode cX3_toPower 17 = .ok (.iload_n 2, 1) := by decide +kernel
theorem dX3_toPower_18 : decode cX3_toPower 18 = .ok (.if_icmp .ge 22, 3) := by decide +kernel
theorem dX3_toPower_21 : decode cX3_toPower 21 = .ok (.aload_n 0, 1) := by decide +kernel
theorem dX3_toPower_22 : decode cX3_toPower 22 = .ok (.getfield 24, 3) := by decide +kernel
theorem dX3_toPower_25 : decode cX3_toPower 25 = .ok (.aload_n 1, 1) := by decide +kernel
theorem dX3_toPower_26 : decode cX3_toPower 26 = .ok (.aload_n 1, 1) := by decide +kernel
theorem dX3_toPower_27 : decode cX3_toPower 27 = .ok (.aload_n 0, 1) := by decide +kernel
theorem dX3_toPower_28 : decode cX3_toPower 28 = .ok (.getfield 16, 3) := by decide +kernel
theorem dX3_toPower_31 : decode cX3_toPower 31 = .ok (.invokevirtual 80, 3) := by decide +kernel
theorem dX3_toPower_34 : decode cX3_toPower 34 = .ok (.iinc 3 1, 3) := by decide +kernel
theorem dX3_toPower_37 : decode cX3_toPower 37 = .ok (.goto (-21), 3) := by decide +kernel
theorem dX3_toPower_40 : decode cX3_toPower 40 = .ok (.iconst 1, 1) := by decide +kernel
theorem dX3_toPower_41 : decode cX3_toPower 41 = .ok (.ireturn, 1) := by decide +kernel
theorem dX3_turn_0 : decode cX3_turn 0 = .ok (.iload_n 1, 1) := by decide +kernel
theorem dX3_turn_1 : decode cX3_turn 1 = .ok (.bipush 105, 2) := by decide +kernel
theorem dX3_turn_3 : decode cX3_turn 3 = .ok (.if_icmp .ne 23, 3) := by decide +kernel
theorem dX3_turn_6 : decode cX3_turn 6 = .ok (.aload_n 2, 1) := by decide +kernel
theorem dX3_turn_7 : decode cX3_turn 7 = .ok (.invokestatic 54, 3) := by decide +kernel
theorem dX3_turn_10 : decode cX3_turn 10 = .ok (.ifCond .ne 5, 3) := by decide +kernel
theorem dX3_turn_13 : decode cX3_turn 13 = .ok (.iconst 0, 1) := by decide +kernel
theorem dX3_turn_14 : decode cX3_turn 14 = .ok (.ireturn, 1) := by decide +kernel
theorem dX3_turn_15 : decode cX3_turn 15 = .ok (.aload_n 0, 1) := by decide +kernel
theorem dX3_turn_16 : decode cX3_turn 16 = .ok (.getfield 24, 3) := by decide +kernel
theorem dX3_turn_19 : decode cX3_turn 19 = .ok (.aload_n 2, 1) := by decide +kernel
theorem dX3_turn_20 : decode cX3_turn 20 = .ok (.aload_n 2, 1) := by decide +kernel
theorem dX3_turn_21 : decode cX3_turn 21 = .ok (.invokevirtual 93, 3) := by decide +kernel
theorem dX3_turn_24 : decode cX3_turn 24 = .ok (.iconst 1, 1) := by decide +kernel
theorem dX3_turn_25 : decode cX3_turn 25 = .ok (.ireturn, 1) := by decide +kernel
theorem dX3_turn_26 : decode cX3_turn 26 = .ok (.aload_n 2, 1) := by decide +kernel
theorem dX3_turn_27 : decode cX3_turn 27 = .ok (.iconst 0, 1) := by decide +kernel
theorem dX3_turn_28 : decode cX3_turn 28 = .ok (.iaload, 1) := by decide +kernel
theorem dX3_turn_29 : decode cX3_turn 29 = .ok (.ifCond .eq 5, 3) := by decide +kernel
theorem dX3_turn_32 : decode cX3_turn 32 = .ok (.iconst 0, 1) := by decide +kernel
theorem dX3_turn_33 : decode cX3_turn 33 = .ok (.ireturn, 1) := by decide +kernel
theorem dX3_turn_34 : decode cX3_turn 34 = .ok (.aload_n 0, 1) := by decide +kernel
theorem dX3_turn_35 : decode cX3_turn 35 = .ok (.getfield 24, 3) := by decide +kernel
theorem dX3_turn_38 : decode cX3_turn 38 = .ok (.aload_n 2, 1) := by decide +kernel
theorem dX3_turn_39 : decode cX3_turn 39 = .ok (.aload_n 0, 1) := by decide +kernel
theorem dX3_turn_40 : decode cX3_turn 40 = .ok (.iload_n 1, 1) := by decide +kernel
theorem dX3_turn_41 : decode cX3_turn 41 = .ok (.invokevirtual 96, 3) := by decide +kernel
theorem dX3_turn_44 : decode cX3_turn 44 = .ok (.aload_n 2, 1) := by decide +kernel
theorem dX3_turn_45 : decode cX3_turn 45 = .ok (.invokevirtual 100, 3) := by decide +kernel
theorem dX3_turn_48 : decode cX3_turn 48 = .ok (.iconst 1, 1) := by decide +kernel
theorem dX3_turn_49 : decode cX3_turn 49 = .ok (.ireturn, 1) := by decide +kernel
theorem dX3_seriesOf_0 : decode cX3_seriesOf 0 = .ok (.iload_n 1, 1) := by decide +kernel
theorem dX3_seriesOf_1 : decode cX3_seriesOf 1 = .ok (.lookupswitch 43 #[(101, 27), (113, 35)], 27) := by decide +kernel
theorem dX3_seriesOf_28 : decode cX3_seriesOf 28 = .ok (.aload_n 0, 1) := by decide +kernel
theorem dX3_seriesOf_29 : decode cX3_seriesOf 29 = .ok (.getfield 24, 3) := by decide +kernel
theorem dX3_seriesOf_32 : decode cX3_seriesOf 32 = .ok (.getfield 103, 3) := by decide +kernel
theorem dX3_seriesOf_35 : decode cX3_seriesOf 35 = .ok (.areturn, 1) := by decide +kernel
theorem dX3_seriesOf_36 : decode cX3_seriesOf 36 = .ok (.aload_n 0, 1) := by decide +kernel
theorem dX3_seriesOf_37 : decode cX3_seriesOf 37 = .ok (.getfield 24, 3) := by decide +kernel
theorem dX3_seriesOf_40 : decode cX3_seriesOf 40 = .ok (.getfield 106, 3) := by decide +kernel
theorem dX3_seriesOf_43 : decode cX3_seriesOf 43 = .ok (.areturn, 1) := by decide +kernel
theorem dX3_seriesOf_44 : decode cX3_seriesOf 44 = .ok (.aload_n 0, 1) := by decide +kernel
theorem dX3_seriesOf_45 : decode cX3_seriesOf 45 = .ok (.getfield 24, 3) := by decide +kernel
theorem dX3_seriesOf_48 : decode cX3_seriesOf 48 = .ok (.getfield 109, 3) := by decide +kernel
theorem dX3_seriesOf_51 : decode cX3_seriesOf 51 = .ok (.areturn, 1) := by decide +kernel
theorem dX3_isUnit_0 : decode cX3_isUnit 0 = .ok (.aload_n 0, 1) := by decide +kernel
theorem dX3_isUnit_1 : decode cX3_isUnit 1 = .ok (.iconst 0, 1) := by decide +kernel
theorem dX3_isUnit_2 : decode cX3_isUnit 2 = .ok (.iaload, 1) := by decide +kernel
theorem dX3_isUnit_3 : decode cX3_isUnit 3 = .ok (.ifCond .eq 7, 3) := by decide +kernel
theorem dX3_isUnit_6 : decode cX3_isUnit 6 = .ok (.iconst 1, 1) := by decide +kernel
theorem dX3_isUnit_7 : decode cX3_isUnit 7 = .ok (.goto 4, 3) := by decide +kernel
theorem dX3_isUnit_10 : decode cX3_isUnit 10 = .ok (.iconst 0, 1) := by decide +kernel
theorem dX3_isUnit_11 : decode cX3_isUnit 11 = .ok (.ireturn, 1) := by decide +kernel
theorem dX3_isDelta_0 : decode cX3_isDelta 0 = .ok (.aload_n 0, 1) := by decide +kernel
theorem dX3_isDelta_1 : decode cX3_isDelta 1 = .ok (.iconst 0, 1) := by decide +kernel
theorem dX3_isDelta_2 : decode cX3_isDelta 2 = .ok (.iaload, 1) := by decide +kernel
theorem dX3_isDelta_3 : decode cX3_isDelta 3 = .ok (.ifCond .ne 13, 3) := by decide +kernel
theorem dX3_isDelta_6 : decode cX3_isDelta 6 = .ok (.aload_n 0, 1) := by decide +kernel
theorem dX3_isDelta_7 : decode cX3_isDelta 7 = .ok (.iconst 1, 1) := by decide +kernel
theorem dX3_isDelta_8 : decode cX3_isDelta 8 = .ok (.iaload, 1) := by decide +kernel
theorem dX3_isDelta_9 : decode cX3_isDelta 9 = .ok (.ifCond .eq 7, 3) := by decide +kernel
theorem dX3_isDelta_12 : decode cX3_isDelta 12 = .ok (.iconst 1, 1) := by decide +kernel
theorem dX3_isDelta_13 : decode cX3_isDelta 13 = .ok (.goto 4, 3) := by decide +kernel
theorem dX3_isDelta_16 : decode cX3_isDelta 16 = .ok (.iconst 0, 1) := by decide +kernel
theorem dX3_isDelta_17 : decode cX3_isDelta 17 = .ok (.ireturn, 1) := by decide +kernel
theorem dX4_init_0 : decode cX4_init 0 = .ok (.aload_n 0, 1) := by decide +kernel
theorem dX4_init_1 : decode cX4_init 1 = .ok (.invokespecial 3, 3) := by decide +kernel
theorem dX4_init_4 : decode cX4_init 4 = .ok (.aload_n 0, 1) := by decide +kernel
theorem dX4_init_5 : decode cX4_init 5 = .ok (.bipush 9, 2) := by decide +kernel
theorem dX4_init_7 : decode cX4_init 7 = .ok (.newarray .int, 2) := by decide +kernel
theorem dX4_init_9 : decode cX4_init 9 = .ok (.putfield 9, 3) := by decide +kernel
theorem dX4_init_12 : decode cX4_init 12 = .ok (.aload_n 0, 1) := by decide +kernel
theorem dX4_init_13 : decode cX4_init 13 = .ok (.bipush 9, 2) := by decide +kernel
theorem dX4_init_15 : decode cX4_init 15 = .ok (.newarray .int, 2) := by decide +kernel
theorem dX4_init_17 : decode cX4_init 17 = .ok (.putfield 15, 3) := by decide +kernel
theorem dX4_init_20 : decode cX4_init 20 = .ok (.aload_n 0, 1) := by decide +kernel
theorem dX4_init_21 : decode cX4_init 21 = .ok (.bipush 9, 2) := by decide +kernel
theorem dX4_init_23 : decode cX4_init 23 = .ok (.newarray .int, 2) := by decide +kernel
theorem dX4_init_25 : decode cX4_init 25 = .ok (.putfield 18, 3) := by decide +kernel
theorem dX4_init_28 : decode cX4_init 28 = .ok (.aload_n 0, 1) := by decide +kernel
theorem dX4_init_29 : decode cX4_init 29 = .ok (.bipush 9, 2) := by decide +kernel
theorem dX4_init_31 : decode cX4_init 31 = .ok (.newarray .int, 2) := by decide +kernel
theorem dX4_init_33 : decode cX4_init 33 = .ok (.putfield 21, 3) := by decide +kernel
theorem dX4_init_36 : decode cX4_init 36 = .ok (.aload_n 0, 1) := by decide +kernel
theorem dX4_init_37 : decode cX4_init 37 = .ok (.bipush 9, 2) := by decide +kernel
theorem dX4_init_39 : decode cX4_init 39 = .ok (.newarray .int, 2) := by decide +kernel
theorem dX4_init_41 : decode cX4_init 41 = .ok (.putfield 24, 3) := by decide +kernel
theorem dX4_init_44 : decode cX4_init 44 = .ok (.aload_n 0, 1) := by decide +kernel
theorem dX4_init_45 : decode cX4_init 45 = .ok (.bipush 9, 2) := by decide +kernel
theorem dX4_init_47 : decode cX4_init 47 = .ok (.newarray .int, 2) := by decide +kernel
theorem dX4_init_49 : decode cX4_init 49 = .ok (.putfield 27, 3) := by decide +kernel
theorem dX4_init_52 : decode cX4_init 52 = .ok (.aload_n 0, 1) := by decide +kernel
theorem dX4_init_53 : decode cX4_init 53 = .ok (.bipush 9, 2) := by decide +kernel
theorem dX4_init_55 : decode cX4_init 55 = .ok (.newarray .int, 2) := by decide +kernel
theorem dX4_init_57 : decode cX4_init 57 = .ok (.putfield 30, 3) := by decide +kernel
theorem dX4_init_60 : decode cX4_init 60 = .ok (.aload_n 0, 1) := by decide +kernel
theorem dX4_init_61 : decode cX4_init 61 = .ok (.bipush 9, 2) := by decide +kernel
theorem dX4_init_63 : decode cX4_init 63 = .ok (.newarray .int, 2) := by decide +kernel
theorem dX4_init_65 : decode cX4_init 65 = .ok (.putfield 33, 3) := by decide +kernel
theorem dX4_init_68 : decode cX4_init 68 = .ok (.iconst 1, 1) := by decide +kernel
theorem dX4_init_69 : decode cX4_init 69 = .ok (.istore_n 1, 1) := by decide +kernel
theorem dX4_init_70 : decode cX4_init 70 = .ok (.iconst 0, 1) := by decide +kernel
theorem dX4_init_71 : decode cX4_init 71 = .ok (.istore_n 2, 1) := by decide +kernel
theorem dX4_init_72 : decode cX4_init 72 = .ok (.iload_n 2, 1) := by decide +kernel
theorem dX4_init_73 : decode cX4_init 73 = .ok (.bipush 9, 2) := by decide +kernel
theorem dX4_init_75 : decode cX4_init 75 = .ok (.if_icmp .ge 71, 3) := by decide +kernel
theorem dX4_init_78 : decode cX4_init 78 = .ok (.aload_n 0, 1) := by decide +kernel
theorem dX4_init_79 : decode cX4_init 79 = .ok (.getfield 21, 3) := by decide +kernel
theorem dX4_init_82 : decode cX4_init 82 = .ok (.iload_n 2, 1) := by decide +kernel
theorem dX4_init_83 : decode cX4_init 83 = .ok (.iload_n 1, 1) := by decide +kernel
theorem dX4_init_84 : decode cX4_init 84 = .ok (.iastore, 1) := by decide +kernel
theorem dX4_init_85 : decode cX4_init 85 = .ok (.aload_n 0, 1) := by decide +kernel
theorem dX4_init_86 : decode cX4_init 86 = .ok (.getfield 9, 3) := by decide +kernel
theorem dX4_init_89 : decode cX4_init 89 = .ok (.iload_n 2, 1) := by decide +kernel
theorem dX4_init_90 : decode cX4_init 90 = .ok (.iload_n 1, 1) := by decide +kernel
theorem dX4_init_91 : decode cX4_init 91 = .ok (.invokestatic 36, 3) := by decide +kernel
theorem dX4_init_94 : decode cX4_init 94 = .ok (.iastore, 1) := by decide +kernel
theorem dX4_init_95 : decode cX4_init 95 = .ok (.iload_n 1, 1) := by decide +kernel
theorem dX4_init_96 : decode cX4_init 96 = .ok (.iload_n 2, 1) := by decide +kernel
theorem dX4_init_97 : decode cX4_init 97 = .ok (.iconst 1, 1) := by decide +kernel
theorem dX4_init_98 : decode cX4_init 98 = .ok (.iadd, 1) := by decide +kernel
theorem dX4_init_99 : decode cX4_init 99 = .ok (.invokestatic 42, 3) := by decide +kernel
theorem dX4_init_102 : decode cX4_init 102 = .ok (.istore_n 1, 1) := by decide +kernel
theorem dX4_init_103 : decode cX4_init 103 = .ok (.aload_n 0, 1) := by decide +kernel
theorem dX4_init_104 : decode cX4_init 104 = .ok (.getfield 15, 3) := by decide +kernel
theorem dX4_init_107 : decode cX4_init 107 = .ok (.iload_n 2, 1) := by decide +kernel
theorem dX4_init_108 : decode cX4_init 108 = .ok (.iload_n 1, 1) := by decide +kernel
theorem dX4_init_109 : decode cX4_init 109 = .ok (.invokestatic 36, 3) := by decide +kernel
theorem dX4_init_112 : decode cX4_init 112 = .ok (.iastore, 1) := by decide +kernel
theorem dX4_init_113 : decode cX4_init 113 = .ok (.iload_n 2, 1) := by decide +kernel
theorem dX4_init_114 : decode cX4_init 114 = .ok (.invokestatic 36, 3) := by decide +kernel
theorem dX4_init_117 : decode cX4_init 117 = .ok (.istore_n 3, 1) := by decide +kernel
theorem dX4_init_118 : decode cX4_init 118 = .ok (.aload_n 0, 1) := by decide +kernel
theorem dX4_init_119 : decode cX4_init 119 = .ok (.getfield 18, 3) := by decide +kernel
theorem dX4_init_122 : decode cX4_init 122 = .ok (.iload_n 2, 1) := by decide +kernel
theorem dX4_init_123 : decode cX4_init 123 = .ok (.iload_n 2, 1) := by decide +kernel
theorem dX4_init_124 : decode cX4_init 124 = .ok (.iconst 2, 1) := by decide +kernel
theorem dX4_init_125 : decode cX4_init 125 = .ok (.irem, 1) := by decide +kernel
theorem dX4_init_126 : decode cX4_init 126 = .ok (.iconst 1, 1) := by decide +kernel
theorem dX4_init_127 : decode cX4_init 127 = .ok (.if_icmp .ne 7, 3) := by decide +kernel
theorem dX4_init_130 : decode cX4_init 130 = .ok (.iload_n 3, 1) := by decide +kernel
theorem dX4_init_131 : decode cX4_init 131 = .ok (.goto 8, 3) := by decide +kernel
theorem dX4_init_134 : decode cX4_init 134 = .ok (.iconst 0, 1) := by decide +kernel
theorem dX4_init_135 : decode cX4_init 135 = .ok (.iload_n 3, 1) := by decide +kernel
theorem dX4_init_136 : decode cX4_init 136 = .ok (.invokestatic 46, 3) := by decide +kernel
theorem dX4_init_139 : decode cX4_init 139 = .ok (.iastore, 1) := by decide +kernel
theorem dX4_init_140 : decode cX4_init 140 = .ok (.iinc 2 1, 3) := by decide +kernel
theorem dX4_init_143 : decode cX4_init 143 = .ok (.goto (-71), 3) := by decide +kernel
theorem dX4_init_146 : decode cX4_init 146 = .ok (.return_, 1) := by decide +kernel
theorem dX4_multiply_0 : decode cX4_multiply 0 = .ok (.bipush 8, 2) := by decide +kernel
theorem dX4_multiply_2 : decode cX4_multiply 2 = .ok (.istore 4, 2) := by decide +kernel
theorem dX4_multiply_4 : decode cX4_multiply 4 = .ok (.iload 4, 2) := by decide +kernel
theorem dX4_multiply_6 : decode cX4_multiply 6 = .ok (.ifCond .lt 55, 3) := by decide +kernel
theorem dX4_multiply_9 : decode cX4_multiply 9 = .ok (.iconst 0, 1) := by decide +kernel
theorem dX4_multiply_10 : decode cX4_multiply 10 = .ok (.istore 5, 2) := by decide +kernel
theorem dX4_multiply_12 : decode cX4_multiply 12 = .ok (.iconst 0, 1) := by decide +kernel
theorem dX4_multiply_13 : decode cX4_multiply 13 = .ok (.istore 6, 2) := by decide +kernel
theorem dX4_multiply_15 : decode cX4_multiply 15 = .ok (.iload 6, 2) := by decide +kernel
theorem dX4_multiply_17 : decode cX4_multiply 17 = .ok (.iload 4, 2) := by decide +kernel
theorem dX4_multiply_19 : decode cX4_multiply 19 = .ok (.if_icmp .gt 30, 3) := by decide +kernel
theorem dX4_multiply_22 : decode cX4_multiply 22 = .ok (.iload 5, 2) := by decide +kernel
theorem dX4_multiply_24 : decode cX4_multiply 24 = .ok (.aload_n 2, 1) := by decide +kernel
theorem dX4_multiply_25 : decode cX4_multiply 25 = .ok (.iload 6, 2) := by decide +kernel
theorem dX4_multiply_27 : decode cX4_multiply 27 = .ok (.iaload, 1) := by decide +kernel
theorem dX4_multiply_28 : decode cX4_multiply 28 = .ok (.aload_n 3, 1) := by decide +kernel
theorem dX4_multiply_29 : decode cX4_multiply 29 = .ok (.iload 4, 2) := by decide +kernel
theorem dX4_multiply_31 : decode cX4_multiply 31 = .ok (.iload 6, 2) := by decide +kernel
theorem dX4_multiply_33 : decode cX4_multiply 33 = .ok (.isub, 1) := by decide +kernel
theorem dX4_multiply_34 : decode cX4_multiply 34 = .ok (.iaload, 1) := by decide +kernel
theorem dX4_multiply_35 : decode cX4_multiply 35 = .ok (.invokestatic 42, 3) := by decide +kernel
theorem dX4_multiply_38 : decode cX4_multiply 38 = .ok (.invokestatic 49, 3) := by decide +kernel
theorem dX4_multiply_41 : decode cX4_multiply 41 = .ok (.istore 5, 2) := by decide +kernel
theorem dX4_multiply_43 : decode cX4_multiply 43 = .ok (.iinc 6 1, 3) := by decide +kernel
theorem dX4_multiply_46 : decode cX4_multiply 46 = .ok (.goto (-31), 3) := by decide +kernel
theorem dX4_multiply_49 : decode cX4_multiply 49 = .ok (.aload_n 1, 1) := by decide +kernel
theorem dX4_multiply_50 : decode cX4_multiply 50 = .ok (.iload 4, 2) := by decide +kernel
theorem dX4_multiply_52 : decode cX4_multiply 52 = .ok (.iload 5, 2) := by decide +kernel
theorem dX4_multiply_54 : decode cX4_multiply 54 = .ok (.iastore, 1) := by decide +kernel
theorem dX4_multiply_55 : decode cX4_multiply 55 = .ok (.iinc 4 (-1), 3) := by decide +kernel
theorem dX4_multiply_58 : decode cX4_multiply 58 = .ok (.goto (-54), 3) := by decide +kernel
theorem dX4_multiply_61 : decode cX4_multiply 61 = .ok (.return_, 1) := by decide +kernel
theorem dX4_divide_0 : decode cX4_divide 0 = .ok (.aload_n 3, 1) := by decide +kernel
theorem dX4_divide_1 : decode cX4_divide 1 = .ok (.iconst 0, 1) := by decide +kernel
theorem dX4_divide_2 : decode cX4_divide 2 = .ok (.iaload, 1) := by decide +kernel
theorem dX4_divide_3 : decode cX4_divide 3 = .ok (.invokestatic 36, 3) := by decide +kernel
theorem dX4_divide_6 : decode cX4_divide 6 = .ok (.istore 4, 2) := by decide +kernel
theorem dX4_divide_8 : decode cX4_divide 8 = .ok (.iconst 0, 1) := by decide +kernel
theorem dX4_divide_9 : decode cX4_divide 9 = .ok (.istore 5, 2) := by decide +kernel
theorem dX4_divide_11 : decode cX4_divide 11 = .ok (.iload 5, 2) := by decide +kernel
theorem dX4_divide_13 : decode cX4_divide 13 = .ok (.bipush 9, 2) := by decide +kernel
theorem dX4_divide_15 : decode cX4_divide 15 = .ok (.if_icmp .ge 63, 3) := by decide +kernel
theorem dX4_divide_18 : decode cX4_divide 18 = .ok (.aload_n 2, 1) := by decide +kernel
theorem dX4_divide_19 : decode cX4_divide 19 = .ok (.iload 5, 2) := by decide +kernel
theorem dX4_divide_21 : decode cX4_divide 21 = .ok (.iaload, 1) := by decide +kernel
theorem dX4_divide_22 : decode cX4_divide 22 = .ok (.istore 6, 2) := by decide +kernel
theorem dX4_divide_24 : decode cX4_divide 24 = .ok (.iconst 1, 1) := by decide +kernel
theorem dX4_divide_25 : decode cX4_divide 25 = .ok (.istore 7, 2) := by decide +kernel
theorem dX4_divide_27 : decode cX4_divide 27 = .ok (.iload 7, 2) := by decide +kernel
theorem dX4_divide_29 : decode cX4_divide 29 = .ok (.iload 5, 2) := by decide +kernel
theorem dX4_divide_31 : decode cX4_divide 31 = .ok (.if_icmp .gt 30, 3) := by decide +kernel
theorem dX4_divide_34 : decode cX4_divide 34 = .ok (.iload 6, 2) := by decide +kernel
theorem dX4_divide_36 : decode cX4_divide 36 = .ok (.aload_n 3, 1) := by decide +kernel
theorem dX4_divide_37 : decode cX4_divide 37 = .ok (.iload 7, 2) := by decide +kernel
theorem dX4_divide_39 : decode cX4_divide 39 = .ok (.iaload, 1) := by decide +kernel
theorem dX4_divide_40 : decode cX4_divide 40 = .ok (.aload_n 1, 1) := by decide +kernel
theorem dX4_divide_41 : decode cX4_divide 41 = .ok (.iload 5, 2) := by decide +kernel
theorem dX4_divide_43 : decode cX4_divide 43 = .ok (.iload 7, 2) := by decide +kernel
theorem dX4_divide_45 : decode cX4_divide 45 = .ok (.isub, 1) := by decide +kernel
theorem dX4_divide_46 : decode cX4_divide 46 = .ok (.iaload, 1) := by decide +kernel
theorem dX4_divide_47 : decode cX4_divide 47 = .ok (.invokestatic 42, 3) := by decide +kernel
theorem dX4_divide_50 : decode cX4_divide 50 = .ok (.invokestatic 46, 3) := by decide +kernel
theorem dX4_divide_53 : decode cX4_divide 53 = .ok (.istore 6, 2) := by decide +kernel
theorem dX4_divide_55 : decode cX4_divide 55 = .ok (.iinc 7 1, 3) := by decide +kernel
theorem dX4_divide_58 : decode cX4_divide 58 = .ok (.goto (-31), 3) := by decide +kernel
theorem dX4_divide_61 : decode cX4_divide 61 = .ok (.aload_n 1, 1) := by decide +kernel
theorem dX4_divide_62 : decode cX4_divide 62 = .ok (.iload 5, 2) := by decide +kernel
theorem dX4_divide_64 : decode cX4_divide 64 = .ok (.iload 6, 2) := by decide +kernel
theorem dX4_divide_66 : decode cX4_divide 66 = .ok (.iload 4, 2) := by decide +kernel
theorem dX4_divide_68 : decode cX4_divide 68 = .ok (.invokestatic 42, 3) := by decide +kernel
theorem dX4_divide_71 : decode cX4_divide 71 = .ok (.iastore, 1) := by decide +kernel
theorem dX4_divide_72 : decode cX4_divide 72 = .ok (.iinc 5 1, 3) := by decide +kernel
theorem dX4_divide_75 : decode cX4_divide 75 = .ok (.goto (-64), 3) := by decide +kernel
theorem dX4_divide_78 : decode cX4_divide 78 = .ok (.return_, 1) := by decide +kernel
theorem dX4_overSeries_0 : decode cX4_overSeries 0 = .ok (.aload_n 1, 1) := by decide +kernel
theorem dX4_overSeries_1 : decode cX4_overSeries 1 = .ok (.iconst 0, 1) := by decide +kernel
theorem dX4_overSeries_2 : decode cX4_overSeries 2 = .ok (.iconst 1, 1) := by decide +kernel
theorem dX4_overSeries_3 : decode cX4_overSeries 3 = .ok (.invokestatic 52, 3) := by decide +kernel
theorem dX4_overSeries_6 : decode cX4_overSeries 6 = .ok (.aload_n 0, 1) := by decide +kernel
theorem dX4_overSeries_7 : decode cX4_overSeries 7 = .ok (.aload_n 1, 1) := by decide +kernel
theorem dX4_overSeries_8 : decode cX4_overSeries 8 = .ok (.aload_n 1, 1) := by decide +kernel
theorem dX4_overSeries_9 : decode cX4_overSeries 9 = .ok (.aload_n 2, 1) := by decide +kernel
theorem dX4_overSeries_10 : decode cX4_overSeries 10 = .ok (.invokevirtual 56, 3) := by decide +kernel
theorem dX4_overSeries_13 : decode cX4_overSeries 13 = .ok (.return_, 1) := by decide +kernel
theorem dX4_putInside_0 : decode cX4_putInside 0 = .ok (.aload_n 0, 1) := by decide +kernel
theorem dX4_putInside_1 : decode cX4_putInside 1 = .ok (.getfield 24, 3) := by decide +kernel
theorem dX4_putInside_4 : decode cX4_putInside 4 = .ok (.iconst 0, 1) := by decide +kernel
theorem dX4_putInside_5 : decode cX4_putInside 5 = .ok (.aload_n 2, 1) := by decide +kernel
theorem dX4_putInside_6 : decode cX4_putInside 6 = .ok (.bipush 8, 2) := by decide +kernel
theorem dX4_putInside_8 : decode cX4_putInside 8 = .ok (.iaload, 1) := by decide +kernel
theorem dX4_putInside_9 : decode cX4_putInside 9 = .ok (.invokestatic 52, 3) := by decide +kernel
theorem dX4_putInside_12 : decode cX4_putInside 12 = .ok (.bipush 7, 2) := by decide +kernel
theorem dX4_putInside_14 : decode cX4_putInside 14 = .ok (.istore 4, 2) := by decide +kernel
theorem dX4_putInside_16 : decode cX4_putInside 16 = .ok (.iload 4, 2) := by decide +kernel
theorem dX4_putInside_18 : decode cX4_putInside 18 = .ok (.ifCond .lt 41, 3) := by decide +kernel
theorem dX4_putInside_21 : decode cX4_putInside 21 = .ok (.aload_n 0, 1) := by decide +kernel
theorem dX4_putInside_22 : decode cX4_putInside 22 = .ok (.aload_n 0, 1) := by decide +kernel
theorem dX4_putInside_23 : decode cX4_putInside 23 = .ok (.getfield 24, 3) := by decide +kernel
theorem dX4_putInside_26 : decode cX4_putInside 26 = .ok (.aload_n 0, 1) := by decide +kernel
theorem dX4_putInside_27 : decode cX4_putInside 27 = .ok (.getfield 24, 3) := by decide +kernel
theorem dX4_putInside_30 : decode cX4_putInside 30 = .ok (.aload_n 3, 1) := by decide +kernel
theorem dX4_putInside_31 : decode cX4_putInside 31 = .ok (.invokevirtual 60, 3) := by decide +kernel
theorem dX4_putInside_34 : decode cX4_putInside 34 = .ok (.aload_n 0, 1) := by decide +kernel
theorem dX4_putInside_35 : decode cX4_putInside 35 = .ok (.getfield 24, 3) := by decide +kernel
theorem dX4_putInside_38 : decode cX4_putInside 38 = .ok (.iconst 0, 1) := by decide +kernel
theorem dX4_putInside_39 : decode cX4_putInside 39 = .ok (.aload_n 0, 1) := by decide +kernel
theorem dX4_putInside_40 : decode cX4_putInside 40 = .ok (.getfield 24, 3) := by decide +kernel
theorem dX4_putInside_43 : decode cX4_putInside 43 = .ok (.iconst 0, 1) := by decide +kernel
theorem dX4_putInside_44 : decode cX4_putInside 44 = .ok (.iaload, 1) := by decide +kernel
theorem dX4_putInside_45 : decode cX4_putInside 45 = .ok (.aload_n 2, 1) := by decide +kernel
theorem dX4_putInside_46 : decode cX4_putInside 46 = .ok (.iload 4, 2) := by decide +kernel
theorem dX4_putInside_48 : decode cX4_putInside 48 = .ok (.iaload, 1) := by decide +kernel
theorem dX4_putInside_49 : decode cX4_putInside 49 = .ok (.invokestatic 49, 3) := by decide +kernel
theorem dX4_putInside_52 : decode cX4_putInside 52 = .ok (.iastore, 1) := by decide +kernel
theorem dX4_putInside_53 : decode cX4_putInside 53 = .ok (.iinc 4 (-1), 3) := by decide +kernel
theorem dX4_putInside_56 : decode cX4_putInside 56 = .ok (.goto (-40), 3) := by decide +kernel
theorem dX4_putInside_59 : decode cX4_putInside 59 = .ok (.aload_n 0, 1) := by decide +kernel
theorem dX4_putInside_60 : decode cX4_putInside 60 = .ok (.getfield 24, 3) := by decide +kernel
theorem dX4_putInside_63 : decode cX4_putInside 63 = .ok (.aload_n 1, 1) := by decide +kernel
theorem dX4_putInside_64 : decode cX4_putInside 64 = .ok (.invokestatic 62, 3) := by decide +kernel
theorem dX4_putInside_67 : decode cX4_putInside 67 = .ok (.return_, 1) := by decide +kernel
theorem dX4_turnInsideOut_0 : decode cX4_turnInsideOut 0 = .ok (.aload_n 0, 1) := by decide +kernel
theorem dX4_turnInsideOut_1 : decode cX4_turnInsideOut 1 = .ok (.aload_n 2, 1) := by decide +kernel
theorem dX4_turnInsideOut_2 : decode cX4_turnInsideOut 2 = .ok (.invokevirtual 66, 3) := by decide +kernel
theorem dX4_turnInsideOut_5 : decode cX4_turnInsideOut 5 = .ok (.aload_n 0, 1) := by decide +kernel
theorem dX4_turnInsideOut_6 : decode cX4_turnInsideOut 6 = .ok (.aload_n 0, 1) := by decide +kernel
theorem dX4_turnInsideOut_7 : decode cX4_turnInsideOut 7 = .ok (.getfield 30, 3) := by decide +kernel
theorem dX4_turnInsideOut_10 : decode cX4_turnInsideOut 10 = .ok (.aload_n 0, 1) := by decide +kernel
theorem dX4_turnInsideOut_11 : decode cX4_turnInsideOut 11 = .ok (.getfield 27, 3) := by decide +kernel
theorem dX4_turnInsideOut_14 : decode cX4_turnInsideOut 14 = .ok (.invokevirtual 70, 3) := by decide +kernel
theorem dX4_turnInsideOut_17 : decode cX4_turnInsideOut 17 = .ok (.aload_n 0, 1) := by decide +kernel
theorem dX4_turnInsideOut_18 : decode cX4_turnInsideOut 18 = .ok (.getfield 33, 3) := by decide +kernel
theorem dX4_turnInsideOut_21 : decode cX4_turnInsideOut 21 = .ok (.iconst 0, 1) := by decide +kernel
theorem dX4_turnInsideOut_22 : decode cX4_turnInsideOut 22 = .ok (.iconst 1, 1) := by decide +kernel
theorem dX4_turnInsideOut_23 : decode cX4_turnInsideOut 23 = .ok (.invokestatic 52, 3) := by decide +kernel
theorem dX4_turnInsideOut_26 : decode cX4_turnInsideOut 26 = .ok (.aload_n 0, 1) := by decide +kernel
theorem dX4_turnInsideOut_27 : decode cX4_turnInsideOut 27 = .ok (.getfield 24, 3) := by decide +kernel
theorem dX4_turnInsideOut_30 : decode cX4_turnInsideOut 30 = .ok (.astore_n 3, 1) := by decide +kernel
theorem dX4_turnInsideOut_31 : decode cX4_turnInsideOut 31 = .ok (.aload_n 3, 1) := by decide +kernel
theorem dX4_turnInsideOut_32 : decode cX4_turnInsideOut 32 = .ok (.iconst 0, 1) := by decide +kernel
theorem dX4_turnInsideOut_33 : decode cX4_turnInsideOut 33 = .ok (.iconst 0, 1) := by decide +kernel
theorem dX4_turnInsideOut_34 : decode cX4_turnInsideOut 34 = .ok (.iastore, 1) := by decide +kernel
theorem dX4_turnInsideOut_35 : decode cX4_turnInsideOut 35 = .ok (.iconst 1, 1) := by decide +kernel
theorem dX4_turnInsideOut_36 : decode cX4_turnInsideOut 36 = .ok (.istore 4, 2) := by decide +kernel
theorem dX4_turnInsideOut_38 : decode cX4_turnInsideOut 38 = .ok (.iload 4, 2) := by decide +kernel
theorem dX4_turnInsideOut_40 : decode cX4_turnInsideOut 40 = .ok (.bipush 9, 2) := by decide +kernel
theorem dX4_turnInsideOut_42 : decode cX4_turnInsideOut 42 = .ok (.if_icmp .ge 46, 3) := by decide +kernel
theorem dX4_turnInsideOut_45 : decode cX4_turnInsideOut 45 = .ok (.aload_n 0, 1) := by decide +kernel
theorem dX4_turnInsideOut_46 : decode cX4_turnInsideOut 46 = .ok (.aload_n 0, 1) := by decide +kernel
theorem dX4_turnInsideOut_47 : decode cX4_turnInsideOut 47 = .ok (.getfield 33, 3) := by decide +kernel
theorem dX4_turnInsideOut_50 : decode cX4_turnInsideOut 50 = .ok (.aload_n 0, 1) := by decide +kernel
theorem dX4_turnInsideOut_51 : decode cX4_turnInsideOut 51 = .ok (.getfield 33, 3) := by decide +kernel
theorem dX4_turnInsideOut_54 : decode cX4_turnInsideOut 54 = .ok (.aload_n 0, 1) := by decide +kernel
theorem dX4_turnInsideOut_55 : decode cX4_turnInsideOut 55 = .ok (.getfield 30, 3) := by decide +kernel
theorem dX4_turnInsideOut_58 : decode cX4_turnInsideOut 58 = .ok (.invokevirtual 60, 3) := by decide +kernel
theorem dX4_turnInsideOut_61 : decode cX4_turnInsideOut 61 = .ok (.aload_n 3, 1) := by decide +kernel
theorem dX4_turnInsideOut_62 : decode cX4_turnInsideOut 62 = .ok (.iload 4, 2) := by decide +kernel
theorem dX4_turnInsideOut_64 : decode cX4_turnInsideOut 64 = .ok (.aload_n 0, 1) := by decide +kernel
theorem dX4_turnInsideOut_65 : decode cX4_turnInsideOut 65 = .ok (.getfield 33, 3) := by decide +kernel
theorem dX4_turnInsideOut_68 : decode cX4_turnInsideOut 68 = .ok (.iload 4, 2) := by decide +kernel
theorem dX4_turnInsideOut_70 : decode cX4_turnInsideOut 70 = .ok (.iconst 1, 1) := by decide +kernel
theorem dX4_turnInsideOut_71 : decode cX4_turnInsideOut 71 = .ok (.isub, 1) := by decide +kernel
theorem dX4_turnInsideOut_72 : decode cX4_turnInsideOut 72 = .ok (.iaload, 1) := by decide +kernel
theorem dX4_turnInsideOut_73 : decode cX4_turnInsideOut 73 = .ok (.iload 4, 2) := by decide +kernel
theorem dX4_turnInsideOut_75 : decode cX4_turnInsideOut 75 = .ok (.invokestatic 36, 3) := by decide +kernel
theorem dX4_turnInsideOut_78 : decode cX4_turnInsideOut 78 = .ok (.invokestatic 42, 3) := by decide +kernel
theorem dX4_turnInsideOut_81 : decode cX4_turnInsideOut 81 = .ok (.iastore, 1) := by decide +kernel
theorem dX4_turnInsideOut_82 : decode cX4_turnInsideOut 82 = .ok (.iinc 4 1, 3) := by decide +kernel
theorem dX4_turnInsideOut_85 : decode cX4_turnInsideOut 85 = .ok (.goto (-47), 3) := by decide +kernel
theorem dX4_turnInsideOut_88 : decode cX4_turnInsideOut 88 = .ok (.aload_n 3, 1) := by decide +kernel
theorem dX4_turnInsideOut_89 : decode cX4_turnInsideOut 89 = .ok (.aload_n 1, 1) := by decide +kernel
theorem dX4_turnInsideOut_90 : decode cX4_turnInsideOut 90 = .ok (.invokestatic 62, 3) := by decide +kernel
theorem dX4_turnInsideOut_93 : decode cX4_turnInsideOut 93 = .ok (.return_, 1) := by decide +kernel
theorem dX4_lower_0 : decode cX4_lower 0 = .ok (.iconst 0, 1) := by decide +kernel
theorem dX4_lower_1 : decode cX4_lower 1 = .ok (.istore_n 2, 1) := by decide +kernel
theorem dX4_lower_2 : decode cX4_lower 2 = .ok (.iload_n 2, 1) := by decide +kernel
theorem dX4_lower_3 : decode cX4_lower 3 = .ok (.bipush 8, 2) := by decide +kernel
theorem dX4_lower_5 : decode cX4_lower 5 = .ok (.if_icmp .ge 20, 3) := by decide +kernel
theorem dX4_lower_8 : decode cX4_lower 8 = .ok (.aload_n 0, 1) := by decide +kernel
theorem dX4_lower_9 : decode cX4_lower 9 = .ok (.getfield 27, 3) := by decide +kernel
theorem dX4_lower_12 : decode cX4_lower 12 = .ok (.iload_n 2, 1) := by decide +kernel
theorem dX4_lower_13 : decode cX4_lower 13 = .ok (.aload_n 1, 1) := by decide +kernel
theorem dX4_lower_14 : decode cX4_lower 14 = .ok (.iload_n 2, 1) := by decide +kernel
theorem dX4_lower_15 : decode cX4_lower 15 = .ok (.iconst 1, 1) := by decide +kernel
theorem dX4_lower_16 : decode cX4_lower 16 = .ok (.iadd, 1) := by decide +kernel
theorem dX4_lower_17 : decode cX4_lower 17 = .ok (.iaload, 1) := by decide +kernel
theorem dX4_lower_18 : decode cX4_lower 18 = .ok (.iastore, 1) := by decide +kernel
theorem dX4_lower_19 : decode cX4_lower 19 = .ok (.iinc 2 1, 3) := by decide +kernel
theorem dX4_lower_22 : decode cX4_lower 22 = .ok (.goto (-20), 3) := by decide +kernel
theorem dX4_lower_25 : decode cX4_lower 25 = .ok (.aload_n 0, 1) := by decide +kernel
theorem dX4_lower_26 : decode cX4_lower 26 = .ok (.getfield 27, 3) := by decide +kernel
theorem dX4_lower_29 : decode cX4_lower 29 = .ok (.bipush 8, 2) := by decide +kernel
theorem dX4_lower_31 : decode cX4_lower 31 = .ok (.iconst 0, 1) := by decide +kernel
theorem dX4_lower_32 : decode cX4_lower 32 = .ok (.iastore, 1) := by decide +kernel
theorem dX4_lower_33 : decode cX4_lower 33 = .ok (.return_, 1) := by decide +kernel
theorem dX4_exponentialOf_0 : decode cX4_exponentialOf 0 = .ok (.iconst 1, 1) := by decide +kernel
theorem dX4_exponentialOf_1 : decode cX4_exponentialOf 1 = .ok (.istore_n 3, 1) := by decide +kernel
theorem dX4_exponentialOf_2 : decode cX4_exponentialOf 2 = .ok (.iconst 0, 1) := by decide +kernel
theorem dX4_exponentialOf_3 : decode cX4_exponentialOf 3 = .ok (.istore 4, 2) := by decide +kernel
theorem dX4_exponentialOf_5 : decode cX4_exponentialOf 5 = .ok (.iload 4, 2) := by decide +kernel
theorem dX4_exponentialOf_7 : decode cX4_exponentialOf 7 = .ok (.bipush 9, 2) := by decide +kernel
theorem dX4_exponentialOf_9 : decode cX4_exponentialOf 9 = .ok (.if_icmp .ge 30, 3) := by decide +kernel
theorem dX4_exponentialOf_12 : decode cX4_exponentialOf 12 = .ok (.aload_n 1, 1) := by decide +kernel
theorem dX4_exponentialOf_13 : decode cX4_exponentialOf 13 = .ok (.iload 4, 2) := by decide +kernel
theorem dX4_exponentialOf_15 : decode cX4_exponentialOf 15 = .ok (.iload_n 3, 1) := by decide +kernel
theorem dX4_exponentialOf_16 : decode cX4_exponentialOf 16 = .ok (.aload_n 0, 1) := by decide +kernel
theorem dX4_exponentialOf_17 : decode cX4_exponentialOf 17 = .ok (.getfield 9, 3) := by decide +kernel
theorem dX4_exponentialOf_20 : decode cX4_exponentialOf 20 = .ok (.iload 4, 2) := by decide +kernel
theorem dX4_exponentialOf_22 : decode cX4_exponentialOf 22 = .ok (.iaload, 1) := by decide +kernel
theorem dX4_exponentialOf_23 : decode cX4_exponentialOf 23 = .ok (.invokestatic 42, 3) := by decide +kernel
theorem dX4_exponentialOf_26 : decode cX4_exponentialOf 26 = .ok (.iastore, 1) := by decide +kernel
theorem dX4_exponentialOf_27 : decode cX4_exponentialOf 27 = .ok (.iload_n 3, 1) := by decide +kernel
theorem dX4_exponentialOf_28 : decode cX4_exponentialOf 28 = .ok (.iload_n 2, 1) := by decide +kernel
theorem dX4_exponentialOf_29 : decode cX4_exponentialOf 29 = .ok (.invokestatic 42, 3) := by decide +kernel
theorem dX4_exponentialOf_32 : decode cX4_exponentialOf 32 = .ok (.istore_n 3, 1) := by decide +kernel
theorem dX4_exponentialOf_33 : decode cX4_exponentialOf 33 = .ok (.iinc 4 1, 3) := by decide +kernel
theorem dX4_exponentialOf_36 : decode cX4_exponentialOf 36 = .ok (.goto (-31), 3) := by decide +kernel
theorem dX4_exponentialOf_39 : decode cX4_exponentialOf 39 = .ok (.return_, 1) := by decide +kernel
theorem dX4_takeBy_0 : decode cX4_takeBy 0 = .ok (.iconst 0, 1) := by decide +kernel
theorem dX4_takeBy_1 : decode cX4_takeBy 1 = .ok (.istore_n 3, 1) := by decide +kernel
theorem dX4_takeBy_2 : decode cX4_takeBy 2 = .ok (.iload_n 3, 1) := by decide +kernel
theorem dX4_takeBy_3 : decode cX4_takeBy 3 = .ok (.bipush 9, 2) := by decide +kernel
theorem dX4_takeBy_5 : decode cX4_takeBy 5 = .ok (.if_icmp .ge 80, 3) := by decide +kernel
theorem dX4_takeBy_8 : decode cX4_takeBy 8 = .ok (.iconst 0, 1) := by decide +kernel
theorem dX4_takeBy_9 : decode cX4_takeBy 9 = .ok (.istore 4, 2) := by decide +kernel
theorem dX4_takeBy_11 : decode cX4_takeBy 11 = .ok (.iconst 0, 1) := by decide +kernel
theorem dX4_takeBy_12 : decode cX4_takeBy 12 = .ok (.istore 5, 2) := by decide +kernel
theorem dX4_takeBy_14 : decode cX4_takeBy 14 = .ok (.iload_n 3, 1) := by decide +kernel
theorem dX4_takeBy_15 : decode cX4_takeBy 15 = .ok (.iload 5, 2) := by decide +kernel
theorem dX4_takeBy_17 : decode cX4_takeBy 17 = .ok (.iadd, 1) := by decide +kernel
theorem dX4_takeBy_18 : decode cX4_takeBy 18 = .ok (.bipush 9, 2) := by decide +kernel
theorem dX4_takeBy_20 : decode cX4_takeBy 20 = .ok (.if_icmp .ge 45, 3) := by decide +kernel
theorem dX4_takeBy_23 : decode cX4_takeBy 23 = .ok (.aload_n 1, 1) := by decide +kernel
theorem dX4_takeBy_24 : decode cX4_takeBy 24 = .ok (.iload_n 3, 1) := by decide +kernel
theorem dX4_takeBy_25 : decode cX4_takeBy 25 = .ok (.iload 5, 2) := by decide +kernel
theorem dX4_takeBy_27 : decode cX4_takeBy 27 = .ok (.iadd, 1) := by decide +kernel
theorem dX4_takeBy_28 : decode cX4_takeBy 28 = .ok (.iaload, 1) := by decide +kernel
theorem dX4_takeBy_29 : decode cX4_takeBy 29 = .ok (.aload_n 0, 1) := by decide +kernel
theorem dX4_takeBy_30 : decode cX4_takeBy 30 = .ok (.getfield 21, 3) := by decide +kernel
theorem dX4_takeBy_33 : decode cX4_takeBy 33 = .ok (.iload_n 3, 1) := by decide +kernel
theorem dX4_takeBy_34 : decode cX4_takeBy 34 = .ok (.iload 5, 2) := by decide +kernel
theorem dX4_takeBy_36 : decode cX4_takeBy 36 = .ok (.iadd, 1) := by decide +kernel
theorem dX4_takeBy_37 : decode cX4_takeBy 37 = .ok (.iaload, 1) := by decide +kernel
theorem dX4_takeBy_38 : decode cX4_takeBy 38 = .ok (.invokestatic 42, 3) := by decide +kernel
theorem dX4_takeBy_41 : decode cX4_takeBy 41 = .ok (.istore 6, 2) := by decide +kernel
theorem dX4_takeBy_43 : decode cX4_takeBy 43 = .ok (.iload 4, 2) := by decide +kernel
theorem dX4_takeBy_45 : decode cX4_takeBy 45 = .ok (.iload 6, 2) := by decide +kernel
theorem dX4_takeBy_47 : decode cX4_takeBy 47 = .ok (.aload_n 2, 1) := by decide +kernel
theorem dX4_takeBy_48 : decode cX4_takeBy 48 = .ok (.iload 5, 2) := by decide +kernel
theorem dX4_takeBy_50 : decode cX4_takeBy 50 = .ok (.iaload, 1) := by decide +kernel
theorem dX4_takeBy_51 : decode cX4_takeBy 51 = .ok (.invokestatic 42, 3) := by decide +kernel
theorem dX4_takeBy_54 : decode cX4_takeBy 54 = .ok (.invokestatic 49, 3) := by decide +kernel
theorem dX4_takeBy_57 : decode cX4_takeBy 57 = .ok (.istore 4, 2) := by decide +kernel
theorem dX4_takeBy_59 : decode cX4_takeBy 59 = .ok (.iinc 5 1, 3) := by decide +kernel
theorem dX4_takeBy_62 : decode cX4_takeBy 62 = .ok (.goto (-48), 3) := by decide +kernel
theorem dX4_takeBy_65 : decode cX4_takeBy 65 = .ok (.aload_n 1, 1) := by decide +kernel
theorem dX4_takeBy_66 : decode cX4_takeBy 66 = .ok (.iload_n 3, 1) := by decide +kernel
theorem dX4_takeBy_67 : decode cX4_takeBy 67 = .ok (.iload 4, 2) := by decide +kernel
theorem dX4_takeBy_69 : decode cX4_takeBy 69 = .ok (.aload_n 0, 1) := by decide +kernel
theorem dX4_takeBy_70 : decode cX4_takeBy 70 = .ok (.getfield 9, 3) := by decide +kernel
theorem dX4_takeBy_73 : decode cX4_takeBy 73 = .ok (.iload_n 3, 1) := by decide +kernel
theorem dX4_takeBy_74 : decode cX4_takeBy 74 = .ok (.iaload, 1) := by decide +kernel
theorem dX4_takeBy_75 : decode cX4_takeBy 75 = .ok (.invokestatic 42, 3) := by decide +kernel
theorem dX4_takeBy_78 : decode cX4_takeBy 78 = .ok (.iastore, 1) := by decide +kernel
theorem dX4_takeBy_79 : decode cX4_takeBy 79 = .ok (.iinc 3 1, 3) := by decide +kernel
theorem dX4_takeBy_82 : decode cX4_takeBy 82 = .ok (.goto (-80), 3) := by decide +kernel
theorem dX4_takeBy_85 : decode cX4_takeBy 85 = .ok (.return_, 1) := by decide +kernel
theorem dX4_untakeBy_0 : decode cX4_untakeBy 0 = .ok (.aload_n 0, 1) := by decide +kernel
theorem dX4_untakeBy_1 : decode cX4_untakeBy 1 = .ok (.aload_n 2, 1) := by decide +kernel
theorem dX4_untakeBy_2 : decode cX4_untakeBy 2 = .ok (.invokevirtual 66, 3) := by decide +kernel
theorem dX4_untakeBy_5 : decode cX4_untakeBy 5 = .ok (.aload_n 0, 1) := by decide +kernel
theorem dX4_untakeBy_6 : decode cX4_untakeBy 6 = .ok (.aload_n 0, 1) := by decide +kernel
theorem dX4_untakeBy_7 : decode cX4_untakeBy 7 = .ok (.getfield 30, 3) := by decide +kernel
theorem dX4_untakeBy_10 : decode cX4_untakeBy 10 = .ok (.aload_n 0, 1) := by decide +kernel
theorem dX4_untakeBy_11 : decode cX4_untakeBy 11 = .ok (.getfield 27, 3) := by decide +kernel
theorem dX4_untakeBy_14 : decode cX4_untakeBy 14 = .ok (.invokevirtual 70, 3) := by decide +kernel
theorem dX4_untakeBy_17 : decode cX4_untakeBy 17 = .ok (.aload_n 0, 1) := by decide +kernel
theorem dX4_untakeBy_18 : decode cX4_untakeBy 18 = .ok (.aload_n 1, 1) := by decide +kernel
theorem dX4_untakeBy_19 : decode cX4_untakeBy 19 = .ok (.aload_n 0, 1) := by decide +kernel
theorem dX4_untakeBy_20 : decode cX4_untakeBy 20 = .ok (.getfield 30, 3) := by decide +kernel
theorem dX4_untakeBy_23 : decode cX4_untakeBy 23 = .ok (.invokevirtual 73, 3) := by decide +kernel
theorem dX4_untakeBy_26 : decode cX4_untakeBy 26 = .ok (.aload_n 1, 1) := by decide +kernel
theorem dX4_untakeBy_27 : decode cX4_untakeBy 27 = .ok (.invokestatic 76, 3) := by decide +kernel
theorem dX4_untakeBy_30 : decode cX4_untakeBy 30 = .ok (.iconst 1, 1) := by decide +kernel
theorem dX4_untakeBy_31 : decode cX4_untakeBy 31 = .ok (.istore_n 3, 1) := by decide +kernel
theorem dX4_untakeBy_32 : decode cX4_untakeBy 32 = .ok (.iload_n 3, 1) := by decide +kernel
theorem dX4_untakeBy_33 : decode cX4_untakeBy 33 = .ok (.bipush 9, 2) := by decide +kernel
theorem dX4_untakeBy_35 : decode cX4_untakeBy 35 = .ok (.if_icmp .ge 22, 3) := by decide +kernel
theorem dX4_untakeBy_38 : decode cX4_untakeBy 38 = .ok (.aload_n 1, 1) := by decide +kernel
theorem dX4_untakeBy_39 : decode cX4_untakeBy 39 = .ok (.iload_n 3, 1) := by decide +kernel
theorem dX4_untakeBy_40 : decode cX4_untakeBy 40 = .ok (.aload_n 1, 1) := by decide +kernel
theorem dX4_untakeBy_41 : decode cX4_untakeBy 41 = .ok (.iload_n 3, 1) := by decide +kernel
theorem dX4_untakeBy_42 : decode cX4_untakeBy 42 = .ok (.iaload, 1) := by decide +kernel
theorem dX4_untakeBy_43 : decode cX4_untakeBy 43 = .ok (.iload_n 3, 1) := by decide +kernel
theorem dX4_untakeBy_44 : decode cX4_untakeBy 44 = .ok (.invokestatic 36, 3) := by decide +kernel
theorem dX4_untakeBy_47 : decode cX4_untakeBy 47 = .ok (.invokestatic 42, 3) := by decide +kernel
theorem dX4_untakeBy_50 : decode cX4_untakeBy 50 = .ok (.iastore, 1) := by decide +kernel
theorem dX4_untakeBy_51 : decode cX4_untakeBy 51 = .ok (.iinc 3 1, 3) := by decide +kernel
theorem dX4_untakeBy_54 : decode cX4_untakeBy 54 = .ok (.goto (-22), 3) := by decide +kernel
theorem dX4_untakeBy_57 : decode cX4_untakeBy 57 = .ok (.return_, 1) := by decide +kernel
theorem dX4_tellPolynomials_0 : decode cX4_tellPolynomials 0 = .ok (.aload_n 2, 1) := by decide +kernel
theorem dX4_tellPolynomials_1 : decode cX4_tellPolynomials 1 = .ok (.aload_n 0, 1) := by decide +kernel
theorem dX4_tellPolynomials_2 : decode cX4_tellPolynomials 2 = .ok (.getfield 33, 3) := by decide +kernel
theorem dX4_tellPolynomials_5 : decode cX4_tellPolynomials 5 = .ok (.invokestatic 62, 3) := by decide +kernel
theorem dX4_tellPolynomials_8 : decode cX4_tellPolynomials 8 = .ok (.iconst 0, 1) := by decide +kernel
theorem dX4_tellPolynomials_9 : decode cX4_tellPolynomials 9 = .ok (.istore 4, 2) := by decide +kernel
theorem dX4_tellPolynomials_11 : decode cX4_tellPolynomials 11 = .ok (.iload 4, 2) := by decide +kernel
theorem dX4_tellPolynomials_13 : decode cX4_tellPolynomials 13 = .ok (.bipush 9, 2) := by decide +kernel
theorem dX4_tellPolynomials_15 : decode cX4_tellPolynomials 15 = .ok (.if_icmp .ge 76, 3) := by decide +kernel
theorem dX4_tellPolynomials_18 : decode cX4_tellPolynomials 18 = .ok (.iconst 0, 1) := by decide +kernel
theorem dX4_tellPolynomials_19 : decode cX4_tellPolynomials 19 = .ok (.istore 5, 2) := by decide +kernel
theorem dX4_tellPolynomials_21 : decode cX4_tellPolynomials 21 = .ok (.iload 5, 2) := by decide +kernel
theorem dX4_tellPolynomials_23 : decode cX4_tellPolynomials 23 = .ok (.bipush 9, 2) := by decide +kernel
theorem dX4_tellPolynomials_25 : decode cX4_tellPolynomials 25 = .ok (.if_icmp .ge 47, 3) := by decide +kernel
theorem dX4_tellPolynomials_28 : decode cX4_tellPolynomials 28 = .ok (.aload_n 0, 1) := by decide +kernel
theorem dX4_tellPolynomials_29 : decode cX4_tellPolynomials 29 = .ok (.getfield 21, 3) := by decide +kernel
theorem dX4_tellPolynomials_32 : decode cX4_tellPolynomials 32 = .ok (.iload 5, 2) := by decide +kernel
theorem dX4_tellPolynomials_34 : decode cX4_tellPolynomials 34 = .ok (.iaload, 1) := by decide +kernel
theorem dX4_tellPolynomials_35 : decode cX4_tellPolynomials 35 = .ok (.aload_n 0, 1) := by decide +kernel
theorem dX4_tellPolynomials_36 : decode cX4_tellPolynomials 36 = .ok (.getfield 9, 3) := by decide +kernel
theorem dX4_tellPolynomials_39 : decode cX4_tellPolynomials 39 = .ok (.iload 4, 2) := by decide +kernel
theorem dX4_tellPolynomials_41 : decode cX4_tellPolynomials 41 = .ok (.iaload, 1) := by decide +kernel
theorem dX4_tellPolynomials_42 : decode cX4_tellPolynomials 42 = .ok (.invokestatic 42, 3) := by decide +kernel
theorem dX4_tellPolynomials_45 : decode cX4_tellPolynomials 45 = .ok (.istore 6, 2) := by decide +kernel
theorem dX4_tellPolynomials_47 : decode cX4_tellPolynomials 47 = .ok (.aload_n 1, 1) := by decide +kernel
theorem dX4_tellPolynomials_48 : decode cX4_tellPolynomials 48 = .ok (.iload 5, 2) := by decide +kernel
theorem dX4_tellPolynomials_50 : decode cX4_tellPolynomials 50 = .ok (.aaload, 1) := by decide +kernel
theorem dX4_tellPolynomials_51 : decode cX4_tellPolynomials 51 = .ok (.iload 4, 2) := by decide +kernel
theorem dX4_tellPolynomials_53 : decode cX4_tellPolynomials 53 = .ok (.iload 6, 2) := by decide +kernel
theorem dX4_tellPolynomials_55 : decode cX4_tellPolynomials 55 = .ok (.aload_n 0, 1) := by decide +kernel
theorem dX4_tellPolynomials_56 : decode cX4_tellPolynomials 56 = .ok (.getfield 33, 3) := by decide +kernel
theorem dX4_tellPolynomials_59 : decode cX4_tellPolynomials 59 = .ok (.iload 5, 2) := by decide +kernel
theorem dX4_tellPolynomials_61 : decode cX4_tellPolynomials 61 = .ok (.iaload, 1) := by decide +kernel
theorem dX4_tellPolynomials_62 : decode cX4_tellPolynomials 62 = .ok (.invokestatic 42, 3) := by decide +kernel
theorem dX4_tellPolynomials_65 : decode cX4_tellPolynomials 65 = .ok (.iastore, 1) := by decide +kernel
theorem dX4_tellPolynomials_66 : decode cX4_tellPolynomials 66 = .ok (.iinc 5 1, 3) := by decide +kernel
theorem dX4_tellPolynomials_69 : decode cX4_tellPolynomials 69 = .ok (.goto (-48), 3) := by decide +kernel
theorem dX4_tellPolynomials_72 : decode cX4_tellPolynomials 72 = .ok (.aload_n 0, 1) := by decide +kernel
theorem dX4_tellPolynomials_73 : decode cX4_tellPolynomials 73 = .ok (.aload_n 0, 1) := by decide +kernel
theorem dX4_tellPolynomials_74 : decode cX4_tellPolynomials 74 = .ok (.getfield 33, 3) := by decide +kernel
theorem dX4_tellPolynomials_77 : decode cX4_tellPolynomials 77 = .ok (.aload_n 0, 1) := by decide +kernel
theorem dX4_tellPolynomials_78 : decode cX4_tellPolynomials 78 = .ok (.getfield 33, 3) := by decide +kernel
theorem dX4_tellPolynomials_81 : decode cX4_tellPolynomials 81 = .ok (.aload_n 3, 1) := by decide +kernel
theorem dX4_tellPolynomials_82 : decode cX4_tellPolynomials 82 = .ok (.invokevirtual 60, 3) := by decide +kernel
theorem dX4_tellPolynomials_85 : decode cX4_tellPolynomials 85 = .ok (.iinc 4 1, 3) := by decide +kernel
theorem dX4_tellPolynomials_88 : decode cX4_tellPolynomials 88 = .ok (.goto (-77), 3) := by decide +kernel
theorem dX4_tellPolynomials_91 : decode cX4_tellPolynomials 91 = .ok (.return_, 1) := by decide +kernel
theorem dX5_init_0 : decode cX5_init 0 = .ok (.aload_n 0, 1) := by decide +kernel
theorem dX5_init_1 : decode cX5_init 1 = .ok (.invokespecial 3, 3) := by decide +kernel
theorem dX5_init_4 : decode cX5_init 4 = .ok (.aload_n 0, 1) := by decide +kernel
theorem dX5_init_5 : decode cX5_init 5 = .ok (.bipush 9, 2) := by decide +kernel
theorem dX5_init_7 : decode cX5_init 7 = .ok (.newarray .int, 2) := by decide +kernel
theorem dX5_init_9 : decode cX5_init 9 = .ok (.putfield 9, 3) := by decide +kernel
theorem dX5_init_12 : decode cX5_init 12 = .ok (.aload_n 0, 1) := by decide +kernel
theorem dX5_init_13 : decode cX5_init 13 = .ok (.bipush 9, 2) := by decide +kernel
theorem dX5_init_15 : decode cX5_init 15 = .ok (.newarray .int, 2) := by decide +kernel
theorem dX5_init_17 : decode cX5_init 17 = .ok (.putfield 15, 3) := by decide +kernel
theorem dX5_init_20 : decode cX5_init 20 = .ok (.aload_n 0, 1) := by decide +kernel
theorem dX5_init_21 : decode cX5_init 21 = .ok (.bipush 9, 2) := by decide +kernel
theorem dX5_init_23 : decode cX5_init 23 = .ok (.newarray .int, 2) := by decide +kernel
theorem dX5_init_25 : decode cX5_init 25 = .ok (.putfield 18, 3) := by decide +kernel
theorem dX5_init_28 : decode cX5_init 28 = .ok (.aload_n 0, 1) := by decide +kernel
theorem dX5_init_29 : decode cX5_init 29 = .ok (.bipush 9, 2) := by decide +kernel
theorem dX5_init_31 : decode cX5_init 31 = .ok (.newarray .int, 2) := by decide +kernel
theorem dX5_init_33 : decode cX5_init 33 = .ok (.putfield 21, 3) := by decide +kernel
theorem dX5_init_36 : decode cX5_init 36 = .ok (.aload_n 0, 1) := by decide +kernel
theorem dX5_init_37 : decode cX5_init 37 = .ok (.bipush 9, 2) := by decide +kernel
theorem dX5_init_39 : decode cX5_init 39 = .ok (.bipush 9, 2) := by decide +kernel
theorem dX5_init_41 : decode cX5_init 41 = .ok (.multianewarray 24 2, 4) := by decide +kernel
theorem dX5_init_45 : decode cX5_init 45 = .ok (.putfield 26, 3) := by decide +kernel
theorem dX5_init_48 : decode cX5_init 48 = .ok (.aload_n 0, 1) := by decide +kernel
theorem dX5_init_49 : decode cX5_init 49 = .ok (.bipush 9, 2) := by decide +kernel
theorem dX5_init_51 : decode cX5_init 51 = .ok (.newarray .int, 2) := by decide +kernel
theorem dX5_init_53 : decode cX5_init 53 = .ok (.putfield 29, 3) := by decide +kernel
theorem dX5_init_56 : decode cX5_init 56 = .ok (.aload_n 0, 1) := by decide +kernel
theorem dX5_init_57 : decode cX5_init 57 = .ok (.bipush 9, 2) := by decide +kernel
theorem dX5_init_59 : decode cX5_init 59 = .ok (.newarray .int, 2) := by decide +kernel
theorem dX5_init_61 : decode cX5_init 61 = .ok (.putfield 32, 3) := by decide +kernel
theorem dX5_init_64 : decode cX5_init 64 = .ok (.aload_n 0, 1) := by decide +kernel
theorem dX5_init_65 : decode cX5_init 65 = .ok (.aload_n 1, 1) := by decide +kernel
theorem dX5_init_66 : decode cX5_init 66 = .ok (.putfield 35, 3) := by decide +kernel
theorem dX5_init_69 : decode cX5_init 69 = .ok (.aload_n 0, 1) := by decide +kernel
theorem dX5_init_70 : decode cX5_init 70 = .ok (.getfield 9, 3) := by decide +kernel
theorem dX5_init_73 : decode cX5_init 73 = .ok (.iconst 0, 1) := by decide +kernel
theorem dX5_init_74 : decode cX5_init 74 = .ok (.iconst 1, 1) := by decide +kernel
theorem dX5_init_75 : decode cX5_init 75 = .ok (.invokestatic 39, 3) := by decide +kernel
theorem dX5_init_78 : decode cX5_init 78 = .ok (.aload_n 0, 1) := by decide +kernel
theorem dX5_init_79 : decode cX5_init 79 = .ok (.getfield 15, 3) := by decide +kernel
theorem dX5_init_82 : decode cX5_init 82 = .ok (.iconst 1, 1) := by decide +kernel
theorem dX5_init_83 : decode cX5_init 83 = .ok (.iconst 1, 1) := by decide +kernel
theorem dX5_init_84 : decode cX5_init 84 = .ok (.invokestatic 39, 3) := by decide +kernel
theorem dX5_init_87 : decode cX5_init 87 = .ok (.aload_n 0, 1) := by decide +kernel
theorem dX5_init_88 : decode cX5_init 88 = .ok (.invokevirtual 43, 3) := by decide +kernel
theorem dX5_init_91 : decode cX5_init 91 = .ok (.return_, 1) := by decide +kernel
theorem dX5_become_0 : decode cX5_become 0 = .ok (.aload_n 1, 1) := by decide +kernel
theorem dX5_become_1 : decode cX5_become 1 = .ok (.aload_n 0, 1) := by decide +kernel
theorem dX5_become_2 : decode cX5_become 2 = .ok (.getfield 9, 3) := by decide +kernel
theorem dX5_become_5 : decode cX5_become 5 = .ok (.invokestatic 46, 3) := by decide +kernel
theorem dX5_become_8 : decode cX5_become 8 = .ok (.aload_n 2, 1) := by decide +kernel
theorem dX5_become_9 : decode cX5_become 9 = .ok (.aload_n 0, 1) := by decide +kernel
theorem dX5_become_10 : decode cX5_become 10 = .ok (.getfield 15, 3) := by decide +kernel
theorem dX5_become_13 : decode cX5_become 13 = .ok (.invokestatic 46, 3) := by decide +kernel
theorem dX5_become_16 : decode cX5_become 16 = .ok (.aload_n 0, 1) := by decide +kernel
theorem dX5_become_17 : decode cX5_become 17 = .ok (.invokevirtual 43, 3) := by decide +kernel
theorem dX5_become_20 : decode cX5_become 20 = .ok (.aload_n 0, 1) := by decide +kernel
theorem dX5_become_21 : decode cX5_become 21 = .ok (.getfield 15, 3) := by decide +kernel
theorem dX5_become_24 : decode cX5_become 24 = .ok (.iconst 1, 1) := by decide +kernel
theorem dX5_become_25 : decode cX5_become 25 = .ok (.iaload, 1) := by decide +kernel
theorem dX5_become_26 : decode cX5_become 26 = .ok (.ireturn, 1) := by decide +kernel
theorem dX5_reckonAll_0 : decode cX5_reckonAll 0 = .ok (.aload_n 0, 1) := by decide +kernel
theorem dX5_reckonAll_1 : decode cX5_reckonAll 1 = .ok (.getfield 35, 3) := by decide +kernel
theorem dX5_reckonAll_4 : decode cX5_reckonAll 4 = .ok (.aload_n 0, 1) := by decide +kernel
theorem dX5_reckonAll_5 : decode cX5_reckonAll 5 = .ok (.getfield 18, 3) := by decide +kernel
theorem dX5_reckonAll_8 : decode cX5_reckonAll 8 = .ok (.aload_n 0, 1) := by decide +kernel
theorem dX5_reckonAll_9 : decode cX5_reckonAll 9 = .ok (.getfield 9, 3) := by decide +kernel
theorem dX5_reckonAll_12 : decode cX5_reckonAll 12 = .ok (.invokevirtual 50, 3) := by decide +kernel
theorem dX5_reckonAll_15 : decode cX5_reckonAll 15 = .ok (.aload_n 0, 1) := by decide +kernel
theorem dX5_reckonAll_16 : decode cX5_reckonAll 16 = .ok (.getfield 35, 3) := by decide +kernel
theorem dX5_reckonAll_19 : decode cX5_reckonAll 19 = .ok (.aload_n 0, 1) := by decide +kernel
theorem dX5_reckonAll_20 : decode cX5_reckonAll 20 = .ok (.getfield 21, 3) := by decide +kernel
theorem dX5_reckonAll_23 : decode cX5_reckonAll 23 = .ok (.aload_n 0, 1) := by decide +kernel
theorem dX5_reckonAll_24 : decode cX5_reckonAll 24 = .ok (.getfield 15, 3) := by decide +kernel
theorem dX5_reckonAll_27 : decode cX5_reckonAll 27 = .ok (.invokevirtual 55, 3) := by decide +kernel
theorem dX5_reckonAll_30 : decode cX5_reckonAll 30 = .ok (.aload_n 0, 1) := by decide +kernel
theorem dX5_reckonAll_31 : decode cX5_reckonAll 31 = .ok (.getfield 35, 3) := by decide +kernel
theorem dX5_reckonAll_34 : decode cX5_reckonAll 34 = .ok (.aload_n 0, 1) := by decide +kernel
theorem dX5_reckonAll_35 : decode cX5_reckonAll 35 = .ok (.getfield 29, 3) := by decide +kernel
theorem dX5_reckonAll_38 : decode cX5_reckonAll 38 = .ok (.aload_n 0, 1) := by decide +kernel
theorem dX5_reckonAll_39 : decode cX5_reckonAll 39 = .ok (.getfield 18, 3) := by decide +kernel
theorem dX5_reckonAll_42 : decode cX5_reckonAll 42 = .ok (.aload_n 0, 1) := by decide +kernel
theorem dX5_reckonAll_43 : decode cX5_reckonAll 43 = .ok (.getfield 21, 3) := by decide +kernel
theorem dX5_reckonAll_46 : decode cX5_reckonAll 46 = .ok (.invokevirtual 58, 3) := by decide +kernel
theorem dX5_reckonAll_49 : decode cX5_reckonAll 49 = .ok (.aload_n 0, 1) := by decide +kernel
theorem dX5_reckonAll_50 : decode cX5_reckonAll 50 = .ok (.getfield 35, 3) := by decide +kernel
theorem dX5_reckonAll_53 : decode cX5_reckonAll 53 = .ok (.aload_n 0, 1) := by decide +kernel
theorem dX5_reckonAll_54 : decode cX5_reckonAll 54 = .ok (.getfield 26, 3) := by decide +kernel
theorem dX5_reckonAll_57 : decode cX5_reckonAll 57 = .ok (.aload_n 0, 1) := by decide +kernel
theorem dX5_reckonAll_58 : decode cX5_reckonAll 58 = .ok (.getfield 29, 3) := by decide +kernel
theorem dX5_reckonAll_61 : decode cX5_reckonAll 61 = .ok (.aload_n 0, 1) := by decide +kernel
theorem dX5_reckonAll_62 : decode cX5_reckonAll 62 = .ok (.getfield 21, 3) := by decide +kernel
theorem dX5_reckonAll_65 : decode cX5_reckonAll 65 = .ok (.invokevirtual 62, 3) := by decide +kernel
theorem dX5_reckonAll_68 : decode cX5_reckonAll 68 = .ok (.return_, 1) := by decide +kernel
theorem dX5_chosen_0 : decode cX5_chosen 0 = .ok (.iload_n 1, 1) := by decide +kernel
theorem dX5_chosen_1 : decode cX5_chosen 1 = .ok (.tableswitch 42 0 2 #[27, 32, 37], 27) := by decide +kernel
theorem dX5_chosen_28 : decode cX5_chosen 28 = .ok (.aload_n 0, 1) := by decide +kernel
theorem dX5_chosen_29 : decode cX5_chosen 29 = .ok (.getfield 9, 3) := by decide +kernel
theorem dX5_chosen_32 : decode cX5_chosen 32 = .ok (.areturn, 1) := by decide +kernel
theorem dX5_chosen_33 : decode cX5_chosen 33 = .ok (.aload_n 0, 1) := by decide +kernel
theorem dX5_chosen_34 : decode cX5_chosen 34 = .ok (.getfield 15, 3) := by decide +kernel
theorem dX5_chosen_37 : decode cX5_chosen 37 = .ok (.areturn, 1) := by decide +kernel
theorem dX5_chosen_38 : decode cX5_chosen 38 = .ok (.aload_n 0, 1) := by decide +kernel
theorem dX5_chosen_39 : decode cX5_chosen 39 = .ok (.getfield 18, 3) := by decide +kernel
theorem dX5_chosen_42 : decode cX5_chosen 42 = .ok (.areturn, 1) := by decide +kernel
theorem dX5_chosen_43 : decode cX5_chosen 43 = .ok (.aload_n 0, 1) := by decide +kernel
theorem dX5_chosen_44 : decode cX5_chosen 44 = .ok (.getfield 21, 3) := by decide +kernel
theorem dX5_chosen_47 : decode cX5_chosen 47 = .ok (.areturn, 1) := by decide +kernel
theorem dX5_tell_0 : decode cX5_tell 0 = .ok (.aload_n 2, 1) := by decide +kernel
theorem dX5_tell_1 : decode cX5_tell 1 = .ok (.aload_n 0, 1) := by decide +kernel
theorem dX5_tell_2 : decode cX5_tell 2 = .ok (.getfield 32, 3) := by decide +kernel
theorem dX5_tell_5 : decode cX5_tell 5 = .ok (.invokestatic 46, 3) := by decide +kernel
theorem dX5_tell_8 : decode cX5_tell 8 = .ok (.bipush 8, 2) := by decide +kernel
theorem dX5_tell_10 : decode cX5_tell 10 = .ok (.istore_n 3, 1) := by decide +kernel
theorem dX5_tell_11 : decode cX5_tell 11 = .ok (.iload_n 3, 1) := by decide +kernel
theorem dX5_tell_12 : decode cX5_tell 12 = .ok (.ifCond .lt 55, 3) := by decide +kernel
theorem dX5_tell_15 : decode cX5_tell 15 = .ok (.aload_n 0, 1) := by decide +kernel
theorem dX5_tell_16 : decode cX5_tell 16 = .ok (.getfield 32, 3) := by decide +kernel
theorem dX5_tell_19 : decode cX5_tell 19 = .ok (.iload_n 3, 1) := by decide +kernel
theorem dX5_tell_20 : decode cX5_tell 20 = .ok (.iaload, 1) := by decide +kernel
theorem dX5_tell_21 : decode cX5_tell 21 = .ok (.aload_n 0, 1) := by decide +kernel
theorem dX5_tell_22 : decode cX5_tell 22 = .ok (.getfield 26, 3) := by decide +kernel
theorem dX5_tell_25 : decode cX5_tell 25 = .ok (.iload_n 3, 1) := by decide +kernel
theorem dX5_tell_26 : decode cX5_tell 26 = .ok (.aaload, 1) := by decide +kernel
theorem dX5_tell_27 : decode cX5_tell 27 = .ok (.iload_n 3, 1) := by decide +kernel
theorem dX5_tell_28 : decode cX5_tell 28 = .ok (.iaload, 1) := by decide +kernel
theorem dX5_tell_29 : decode cX5_tell 29 = .ok (.invokestatic 66, 3) := by decide +kernel
theorem dX5_tell_32 : decode cX5_tell 32 = .ok (.invokestatic 72, 3) := by decide +kernel
theorem dX5_tell_35 : decode cX5_tell 35 = .ok (.istore 4, 2) := by decide +kernel
theorem dX5_tell_37 : decode cX5_tell 37 = .ok (.aload_n 0, 1) := by decide +kernel
theorem dX5_tell_38 : decode cX5_tell 38 = .ok (.getfield 32, 3) := by decide +kernel
theorem dX5_tell_41 : decode cX5_tell 41 = .ok (.aload_n 0, 1) := by decide +kernel
theorem dX5_tell_42 : decode cX5_tell 42 = .ok (.getfield 26, 3) := by decide +kernel
theorem dX5_tell_45 : decode cX5_tell 45 = .ok (.iload_n 3, 1) := by decide +kernel
theorem dX5_tell_46 : decode cX5_tell 46 = .ok (.aaload, 1) := by decide +kernel
theorem dX5_tell_47 : decode cX5_tell 47 = .ok (.iconst 0, 1) := by decide +kernel
theorem dX5_tell_48 : decode cX5_tell 48 = .ok (.iload 4, 2) := by decide +kernel
theorem dX5_tell_50 : decode cX5_tell 50 = .ok (.invokestatic 76, 3) := by decide +kernel
theorem dX5_tell_53 : decode cX5_tell 53 = .ok (.invokestatic 79, 3) := by decide +kernel
theorem dX5_tell_56 : decode cX5_tell 56 = .ok (.aload_n 1, 1) := by decide +kernel
theorem dX5_tell_57 : decode cX5_tell 57 = .ok (.iload_n 3, 1) := by decide +kernel
theorem dX5_tell_58 : decode cX5_tell 58 = .ok (.iload 4, 2) := by decide +kernel
theorem dX5_tell_60 : decode cX5_tell 60 = .ok (.iastore, 1) := by decide +kernel
theorem dX5_tell_61 : decode cX5_tell 61 = .ok (.iinc 3 (-1), 3) := by decide +kernel
theorem dX5_tell_64 : decode cX5_tell 64 = .ok (.goto (-53), 3) := by decide +kernel
theorem dX5_tell_67 : decode cX5_tell 67 = .ok (.return_, 1) := by decide +kernel
theorem dX5_gather_0 : decode cX5_gather 0 = .ok (.aload_n 1, 1) := by decide +kernel
theorem dX5_gather_1 : decode cX5_gather 1 = .ok (.iconst 0, 1) := by decide +kernel
theorem dX5_gather_2 : decode cX5_gather 2 = .ok (.iconst 0, 1) := by decide +kernel
theorem dX5_gather_3 : decode cX5_gather 3 = .ok (.invokestatic 39, 3) := by decide +kernel
theorem dX5_gather_6 : decode cX5_gather 6 = .ok (.iconst 0, 1) := by decide +kernel
theorem dX5_gather_7 : decode cX5_gather 7 = .ok (.istore_n 3, 1) := by decide +kernel
theorem dX5_gather_8 : decode cX5_gather 8 = .ok (.iload_n 3, 1) := by decide +kernel
theorem dX5_gather_9 : decode cX5_gather 9 = .ok (.bipush 9, 2) := by decide +kernel
theorem dX5_gather_11 : decode cX5_gather 11 = .ok (.if_icmp .ge 22, 3) := by decide +kernel
theorem dX5_gather_14 : decode cX5_gather 14 = .ok (.aload_n 1, 1) := by decide +kernel
theorem dX5_gather_15 : decode cX5_gather 15 = .ok (.aload_n 0, 1) := by decide +kernel
theorem dX5_gather_16 : decode cX5_gather 16 = .ok (.getfield 26, 3) := by decide +kernel
theorem dX5_gather_19 : decode cX5_gather 19 = .ok (.iload_n 3, 1) := by decide +kernel
theorem dX5_gather_20 : decode cX5_gather 20 = .ok (.aaload, 1) := by decide +kernel
theorem dX5_gather_21 : decode cX5_gather 21 = .ok (.aload_n 2, 1) := by decide +kernel
theorem dX5_gather_22 : decode cX5_gather 22 = .ok (.iload_n 3, 1) := by decide +kernel
theorem dX5_gather_23 : decode cX5_gather 23 = .ok (.iaload, 1) := by decide +kernel
theorem dX5_gather_24 : decode cX5_gather 24 = .ok (.invokestatic 79, 3) := by decide +kernel
theorem dX5_gather_27 : decode cX5_gather 27 = .ok (.iinc 3 1, 3) := by decide +kernel
theorem dX5_gather_30 : decode cX5_gather 30 = .ok (.goto (-22), 3) := by decide +kernel
theorem dX5_gather_33 : decode cX5_gather 33 = .ok (.return_, 1) := by decide +kernel
theorem dX5_secondPower_0 : decode cX5_secondPower 0 = .ok (.iconst 2, 1) := by decide +kernel
theorem dX5_secondPower_1 : decode cX5_secondPower 1 = .ok (.istore_n 1, 1) := by decide +kernel
theorem dX5_secondPower_2 : decode cX5_secondPower 2 = .ok (.iload_n 1, 1) := by decide +kernel
theorem dX5_secondPower_3 : decode cX5_secondPower 3 = .ok (.bipush 9, 2) := by decide +kernel
theorem dX5_secondPower_5 : decode cX5_secondPower 5 = .ok (.if_icmp .ge 20, 3) := by decide +kernel
theorem dX5_secondPower_8 : decode cX5_secondPower 8 = .ok (.aload_n 0, 1) := by decide +kernel
theorem dX5_secondPower_9 : decode cX5_secondPower 9 = .ok (.getfield 15, 3) := by decide +kernel
theorem dX5_secondPower_12 : decode cX5_secondPower 12 = .ok (.iload_n 1, 1) := by decide +kernel
theorem dX5_secondPower_13 : decode cX5_secondPower 13 = .ok (.iaload, 1) := by decide +kernel
theorem dX5_secondPower_14 : decode cX5_secondPower 14 = .ok (.ifCond .eq 5, 3) := by decide +kernel
theorem dX5_secondPower_17 : decode cX5_secondPower 17 = .ok (.iload_n 1, 1) := by decide +kernel
theorem dX5_secondPower_18 : decode cX5_secondPower 18 = .ok (.ireturn, 1) := by decide +kernel
theorem dX5_secondPower_19 : decode cX5_secondPower 19 = .ok (.iinc 1 1, 3) := by decide +kernel
theorem dX5_secondPower_22 : decode cX5_secondPower 22 = .ok (.goto (-20), 3) := by decide +kernel
theorem dX5_secondPower_25 : decode cX5_secondPower 25 = .ok (.iconst (-1), 1) := by decide +kernel
theorem dX5_secondPower_26 : decode cX5_secondPower 26 = .ok (.ireturn, 1) := by decide +kernel
theorem dX6_init_0 : decode cX6_init 0 = .ok (.aload_n 0, 1) := by decide +kernel
theorem dX6_init_1 : decode cX6_init 1 = .ok (.invokespecial 3, 3) := by decide +kernel
theorem dX6_init_4 : decode cX6_init 4 = .ok (.aload_n 0, 1) := by decide +kernel
theorem dX6_init_5 : decode cX6_init 5 = .ok (.bipush 120, 2) := by decide +kernel
theorem dX6_init_7 : decode cX6_init 7 = .ok (.newarray .int, 2) := by decide +kernel
theorem dX6_init_9 : decode cX6_init 9 = .ok (.putfield 9, 3) := by decide +kernel
theorem dX6_init_12 : decode cX6_init 12 = .ok (.aload_n 0, 1) := by decide +kernel
theorem dX6_init_13 : decode cX6_init 13 = .ok (.bipush 120, 2) := by decide +kernel
theorem dX6_init_15 : decode cX6_init 15 = .ok (.newarray .int, 2) := by decide +kernel
theorem dX6_init_17 : decode cX6_init 17 = .ok (.putfield 15, 3) := by decide +kernel
theorem dX6_init_20 : decode cX6_init 20 = .ok (.aload_n 0, 1) := by decide +kernel
theorem dX6_init_21 : decode cX6_init 21 = .ok (.iconst 0, 1) := by decide +kernel
theorem dX6_init_22 : decode cX6_init 22 = .ok (.putfield 18, 3) := by decide +kernel
theorem dX6_init_25 : decode cX6_init 25 = .ok (.aload_n 0, 1) := by decide +kernel
theorem dX6_init_26 : decode cX6_init 26 = .ok (.iconst 0, 1) := by decide +kernel
theorem dX6_init_27 : decode cX6_init 27 = .ok (.putfield 22, 3) := by decide +kernel
theorem dX6_init_30 : decode cX6_init 30 = .ok (.aload_n 0, 1) := by decide +kernel
theorem dX6_init_31 : decode cX6_init 31 = .ok (.bipush 120, 2) := by decide +kernel
theorem dX6_init_33 : decode cX6_init 33 = .ok (.newarray .int, 2) := by decide +kernel
theorem dX6_init_35 : decode cX6_init 35 = .ok (.putfield 25, 3) := by decide +kernel
theorem dX6_init_38 : decode cX6_init 38 = .ok (.aload_n 0, 1) := by decide +kernel
theorem dX6_init_39 : decode cX6_init 39 = .ok (.iconst 0, 1) := by decide +kernel
theorem dX6_init_40 : decode cX6_init 40 = .ok (.putfield 28, 3) := by decide +kernel
theorem dX6_init_43 : decode cX6_init 43 = .ok (.aload_n 0, 1) := by decide +kernel
theorem dX6_init_44 : decode cX6_init 44 = .ok (.iconst 0, 1) := by decide +kernel
theorem dX6_init_45 : decode cX6_init 45 = .ok (.putfield 31, 3) := by decide +kernel
theorem dX6_init_48 : decode cX6_init 48 = .ok (.aload_n 0, 1) := by decide +kernel
theorem dX6_init_49 : decode cX6_init 49 = .ok (.iconst (-1), 1) := by decide +kernel
theorem dX6_init_50 : decode cX6_init 50 = .ok (.putfield 34, 3) := by decide +kernel
theorem dX6_init_53 : decode cX6_init 53 = .ok (.return_, 1) := by decide +kernel
theorem dX6_append_0 : decode cX6_append 0 = .ok (.aload_n 0, 1) := by decide +kernel
theorem dX6_append_1 : decode cX6_append 1 = .ok (.getfield 22, 3) := by decide +kernel
theorem dX6_append_4 : decode cX6_append 4 = .ok (.bipush 120, 2) := by decide +kernel
theorem dX6_append_6 : decode cX6_append 6 = .ok (.if_icmp .lt 5, 3) := by decide +kernel
theorem dX6_append_9 : decode cX6_append 9 = .ok (.iconst 0, 1) := by decide +kernel
theorem dX6_append_10 : decode cX6_append 10 = .ok (.ireturn, 1) := by decide +kernel
theorem dX6_append_11 : decode cX6_append 11 = .ok (.aload_n 0, 1) := by decide +kernel
theorem dX6_append_12 : decode cX6_append 12 = .ok (.getfield 25, 3) := by decide +kernel
theorem dX6_append_15 : decode cX6_append 15 = .ok (.aload_n 0, 1) := by decide +kernel
theorem dX6_append_16 : decode cX6_append 16 = .ok (.getfield 22, 3) := by decide +kernel
theorem dX6_append_19 : decode cX6_append 19 = .ok (.iload_n 1, 1) := by decide +kernel
theorem dX6_append_20 : decode cX6_append 20 = .ok (.iastore, 1) := by decide +kernel
theorem dX6_append_21 : decode cX6_append 21 = .ok (.aload_n 0, 1) := by decide +kernel
theorem dX6_append_22 : decode cX6_append 22 = .ok (.dup, 1) := by decide +kernel
theorem dX6_append_23 : decode cX6_append 23 = .ok (.getfield 22, 3) := by decide +kernel
theorem dX6_append_26 : decode cX6_append 26 = .ok (.iconst 1, 1) := by decide +kernel
theorem dX6_append_27 : decode cX6_append 27 = .ok (.iadd, 1) := by decide +kernel
theorem dX6_append_28 : decode cX6_append 28 = .ok (.putfield 22, 3) := by decide +kernel
theorem dX6_append_31 : decode cX6_append 31 = .ok (.iconst 1, 1) := by decide +kernel
theorem dX6_append_32 : decode cX6_append 32 = .ok (.ireturn, 1) := by decide +kernel
theorem dX6_clear_0 : decode cX6_clear 0 = .ok (.aload_n 0, 1) := by decide +kernel
theorem dX6_clear_1 : decode cX6_clear 1 = .ok (.iconst 0, 1) := by decide +kernel
theorem dX6_clear_2 : decode cX6_clear 2 = .ok (.putfield 22, 3) := by decide +kernel
theorem dX6_clear_5 : decode cX6_clear 5 = .ok (.return_, 1) := by decide +kernel
theorem dX6_firstFault_0 : decode cX6_firstFault 0 = .ok (.aload_n 0, 1) := by decide +kernel
theorem dX6_firstFault_1 : decode cX6_firstFault 1 = .ok (.iconst 0, 1) := by decide +kernel
theorem dX6_firstFault_2 : decode cX6_firstFault 2 = .ok (.putfield 18, 3) := by decide +kernel
theorem dX6_firstFault_5 : decode cX6_firstFault 5 = .ok (.aload_n 0, 1) := by decide +kernel
theorem dX6_firstFault_6 : decode cX6_firstFault 6 = .ok (.iconst 0, 1) := by decide +kernel
theorem dX6_firstFault_7 : decode cX6_firstFault 7 = .ok (.putfield 31, 3) := by decide +kernel
theorem dX6_firstFault_10 : decode cX6_firstFault 10 = .ok (.aload_n 0, 1) := by decide +kernel
theorem dX6_firstFault_11 : decode cX6_firstFault 11 = .ok (.invokevirtual 37, 3) := by decide +kernel
theorem dX6_firstFault_14 : decode cX6_firstFault 14 = .ok (.aload_n 0, 1) := by decide +kernel
theorem dX6_firstFault_15 : decode cX6_firstFault 15 = .ok (.iconst 0, 1) := by decide +kernel
theorem dX6_firstFault_16 : decode cX6_firstFault 16 = .ok (.invokevirtual 40, 3) := by decide +kernel
theorem dX6_firstFault_19 : decode cX6_firstFault 19 = .ok (.ifCond .eq 12, 3) := by decide +kernel
theorem dX6_firstFault_22 : decode cX6_firstFault 22 = .ok (.aload_n 0, 1) := by decide +kernel
theorem dX6_firstFault_23 : decode cX6_firstFault 23 = .ok (.getfield 34, 3) := by decide +kernel
theorem dX6_firstFault_26 : decode cX6_firstFault 26 = .ok (.bipush 59, 2) := by decide +kernel
theorem dX6_firstFault_28 : decode cX6_firstFault 28 = .ok (.if_icmp .eq 8, 3) := by decide +kernel
theorem dX6_firstFault_31 : decode cX6_firstFault 31 = .ok (.aload_n 0, 1) := by decide +kernel
theorem dX6_firstFault_32 : decode cX6_firstFault 32 = .ok (.getfield 28, 3) := by decide +kernel
theorem dX6_firstFault_35 : decode cX6_firstFault 35 = .ok (.ireturn, 1) := by decide +kernel
theorem dX6_firstFault_36 : decode cX6_firstFault 36 = .ok (.aload_n 0, 1) := by decide +kernel
theorem dX6_firstFault_37 : decode cX6_firstFault 37 = .ok (.invokevirtual 37, 3) := by decide +kernel
theorem dX6_firstFault_40 : decode cX6_firstFault 40 = .ok (.aload_n 0, 1) := by decide +kernel
theorem dX6_firstFault_41 : decode cX6_firstFault 41 = .ok (.iconst 0, 1) := by decide +kernel
theorem dX6_firstFault_42 : decode cX6_firstFault 42 = .ok (.invokevirtual 40, 3) := by decide +kernel
theorem dX6_firstFault_45 : decode cX6_firstFault 45 = .ok (.ifCond .eq 18, 3) := by decide +kernel
theorem dX6_firstFault_48 : decode cX6_firstFault 48 = .ok (.aload_n 0, 1) := by decide +kernel
theorem dX6_firstFault_49 : decode cX6_firstFault 49 = .ok (.getfield 28, 3) := by decide +kernel
theorem dX6_firstFault_52 : decode cX6_firstFault 52 = .ok (.aload_n 0, 1) := by decide +kernel
theorem dX6_firstFault_53 : decode cX6_firstFault 53 = .ok (.getfield 22, 3) := by decide +kernel
theorem dX6_firstFault_56 : decode cX6_firstFault 56 = .ok (.if_icmp .ne 7, 3) := by decide +kernel
theorem dX6_firstFault_59 : decode cX6_firstFault 59 = .ok (.iconst (-1), 1) := by decide +kernel
theorem dX6_firstFault_60 : decode cX6_firstFault 60 = .ok (.goto 7, 3) := by decide +kernel
theorem dX6_firstFault_63 : decode cX6_firstFault 63 = .ok (.aload_n 0, 1) := by decide +kernel
theorem dX6_firstFault_64 : decode cX6_firstFault 64 = .ok (.getfield 28, 3) := by decide +kernel
theorem dX6_firstFault_67 : decode cX6_firstFault 67 = .ok (.ireturn, 1) := by decide +kernel
theorem dX6_standsSum_0 : decode cX6_standsSum 0 = .ok (.aload_n 0, 1) := by decide +kernel
theorem dX6_standsSum_1 : decode cX6_standsSum 1 = .ok (.iload_n 1, 1) := by decide +kernel
theorem dX6_standsSum_2 : decode cX6_standsSum 2 = .ok (.invokevirtual 44, 3) := by decide +kernel
theorem dX6_standsSum_5 : decode cX6_standsSum 5 = .ok (.ifCond .ne 5, 3) := by decide +kernel
theorem dX6_standsSum_8 : decode cX6_standsSum 8 = .ok (.iconst 0, 1) := by decide +kernel
theorem dX6_standsSum_9 : decode cX6_standsSum 9 = .ok (.ireturn, 1) := by decide +kernel
theorem dX6_standsSum_10 : decode cX6_standsSum 10 = .ok (.iconst 0, 1) := by decide +kernel
theorem dX6_standsSum_11 : decode cX6_standsSum 11 = .ok (.istore_n 2, 1) := by decide +kernel
theorem dX6_standsSum_12 : decode cX6_standsSum 12 = .ok (.iload_n 2, 1) := by decide +kernel
theorem dX6_standsSum_13 : decode cX6_standsSum 13 = .ok (.bipush 120, 2) := by decide +kernel
theorem dX6_standsSum_15 : decode cX6_standsSum 15 = .ok (.if_icmp .ge 52, 3) := by decide +kernel
theorem dX6_standsSum_18 : decode cX6_standsSum 18 = .ok (.aload_n 0, 1) := by decide +kernel
theorem dX6_standsSum_19 : decode cX6_standsSum 19 = .ok (.getfield 34, 3) := by decide +kernel
theorem dX6_standsSum_22 : decode cX6_standsSum 22 = .ok (.bipush 43, 2) := by decide +kernel
theorem dX6_standsSum_24 : decode cX6_standsSum 24 = .ok (.if_icmp .eq 12, 3) := by decide +kernel
theorem dX6_standsSum_27 : decode cX6_standsSum 27 = .ok (.aload_n 0, 1) := by decide +kernel
theorem dX6_standsSum_28 : decode cX6_standsSum 28 = .ok (.getfield 34, 3) := by decide +kernel
theorem dX6_standsSum_31 : decode cX6_standsSum 31 = .ok (.bipush 45, 2) := by decide +kernel
theorem dX6_standsSum_33 : decode cX6_standsSum 33 = .ok (.if_icmp .ne 34, 3) := by decide +kernel
theorem dX6_standsSum_36 : decode cX6_standsSum 36 = .ok (.aload_n 0, 1) := by decide +kernel
theorem dX6_standsSum_37 : decode cX6_standsSum 37 = .ok (.getfield 34, 3) := by decide +kernel
theorem dX6_standsSum_40 : decode cX6_standsSum 40 = .ok (.istore_n 3, 1) := by decide +kernel
theorem dX6_standsSum_41 : decode cX6_standsSum 41 = .ok (.aload_n 0, 1) := by decide +kernel
theorem dX6_standsSum_42 : decode cX6_standsSum 42 = .ok (.invokevirtual 37, 3) := by decide +kernel
theorem dX6_standsSum_45 : decode cX6_standsSum 45 = .ok (.aload_n 0, 1) := by decide +kernel
theorem dX6_standsSum_46 : decode cX6_standsSum 46 = .ok (.iload_n 1, 1) := by decide +kernel
theorem dX6_standsSum_47 : decode cX6_standsSum 47 = .ok (.invokevirtual 44, 3) := by decide +kernel
theorem dX6_standsSum_50 : decode cX6_standsSum 50 = .ok (.ifCond .ne 5, 3) := by decide +kernel
theorem dX6_standsSum_53 : decode cX6_standsSum 53 = .ok (.iconst 0, 1) := by decide +kernel
theorem dX6_standsSum_54 : decode cX6_standsSum 54 = .ok (.ireturn, 1) := by decide +kernel
theorem dX6_standsSum_55 : decode cX6_standsSum 55 = .ok (.aload_n 0, 1) := by decide +kernel
theorem dX6_standsSum_56 : decode cX6_standsSum 56 = .ok (.iload_n 3, 1) := by decide +kernel
theorem dX6_standsSum_57 : decode cX6_standsSum 57 = .ok (.iconst 0, 1) := by decide +kernel
theorem dX6_standsSum_58 : decode cX6_standsSum 58 = .ok (.invokevirtual 47, 3) := by decide +kernel
theorem dX6_standsSum_61 : decode cX6_standsSum 61 = .ok (.iinc 2 1, 3) := by decide +kernel
theorem dX6_standsSum_64 : decode cX6_standsSum 64 = .ok (.goto (-52), 3) := by decide +kernel
theorem dX6_standsSum_67 : decode cX6_standsSum 67 = .ok (.iconst 1, 1) := by decide +kernel
theorem dX6_standsSum_68 : decode cX6_standsSum 68 = .ok (.ireturn, 1) := by decide +kernel
theorem dX6_standsProduct_0 : decode cX6_standsProduct 0 = .ok (.aload_n 0, 1) := by decide +kernel
theorem dX6_standsProduct_1 : decode cX6_standsProduct 1 = .ok (.iload_n 1, 1) := by decide +kernel
theorem dX6_standsProduct_2 : decode cX6_standsProduct 2 = .ok (.invokevirtual 51, 3) := by decide +kernel
theorem dX6_standsProduct_5 : decode cX6_standsProduct 5 = .ok (.ifCond .ne 5, 3) := by decide +kernel
theorem dX6_standsProduct_8 : decode cX6_standsProduct 8 = .ok (.iconst 0, 1) := by decide +kernel
theorem dX6_standsProduct_9 : decode cX6_standsProduct 9 = .ok (.ireturn, 1) := by decide +kernel
theorem dX6_standsProduct_10 : decode cX6_standsProduct 10 = .ok (.iconst 0, 1) := by decide +kernel
theorem dX6_standsProduct_11 : decode cX6_standsProduct 11 = .ok (.istore_n 2, 1) := by decide +kernel
theorem dX6_standsProduct_12 : decode cX6_standsProduct 12 = .ok (.iload_n 2, 1) := by decide +kernel
theorem dX6_standsProduct_13 : decode cX6_standsProduct 13 = .ok (.bipush 120, 2) := by decide +kernel
theorem dX6_standsProduct_15 : decode cX6_standsProduct 15 = .ok (.if_icmp .ge 52, 3) := by decide +kernel
theorem dX6_standsProduct_18 : decode cX6_standsProduct 18 = .ok (.aload_n 0, 1) := by decide +kernel
theorem dX6_standsProduct_19 : decode cX6_standsProduct 19 = .ok (.getfield 34, 3) := by decide +kernel
theorem dX6_standsProduct_22 : decode cX6_standsProduct 22 = .ok (.bipush 42, 2) := by decide +kernel
theorem dX6_standsProduct_24 : decode cX6_standsProduct 24 = .ok (.if_icmp .eq 12, 3) := by decide +kernel
theorem dX6_standsProduct_27 : decode cX6_standsProduct 27 = .ok (.aload_n 0, 1) := by decide +kernel
theorem dX6_standsProduct_28 : decode cX6_standsProduct 28 = .ok (.getfield 34, 3) := by decide +kernel
theorem dX6_standsProduct_31 : decode cX6_standsProduct 31 = .ok (.bipush 47, 2) := by decide +kernel
theorem dX6_standsProduct_33 : decode cX6_standsProduct 33 = .ok (.if_icmp .ne 34, 3) := by decide +kernel
theorem dX6_standsProduct_36 : decode cX6_standsProduct 36 = .ok (.aload_n 0, 1) := by decide +kernel
theorem dX6_standsProduct_37 : decode cX6_standsProduct 37 = .ok (.getfield 34, 3) := by decide +kernel
theorem dX6_standsProduct_40 : decode cX6_standsProduct 40 = .ok (.istore_n 3, 1) := by decide +kernel
theorem dX6_standsProduct_41 : decode cX6_standsProduct 41 = .ok (.aload_n 0, 1) := by decide +kernel
theorem dX6_standsProduct_42 : decode cX6_standsProduct 42 = .ok (.invokevirtual 37, 3) := by decide +kernel
theorem dX6_standsProduct_45 : decode cX6_standsProduct 45 = .ok (.aload_n 0, 1) := by decide +kernel
theorem dX6_standsProduct_46 : decode cX6_standsProduct 46 = .ok (.iload_n 1, 1) := by decide +kernel
theorem dX6_standsProduct_47 : decode cX6_standsProduct 47 = .ok (.invokevirtual 51, 3) := by decide +kernel
theorem dX6_standsProduct_50 : decode cX6_standsProduct 50 = .ok (.ifCond .ne 5, 3) := by decide +kernel
theorem dX6_standsProduct_53 : decode cX6_standsProduct 53 = .ok (.iconst 0, 1) := by decide +kernel
theorem dX6_standsProduct_54 : decode cX6_standsProduct 54 = .ok (.ireturn, 1) := by decide +kernel
theorem dX6_standsProduct_55 : decode cX6_standsProduct 55 = .ok (.aload_n 0, 1) := by decide +kernel
theorem dX6_standsProduct_56 : decode cX6_standsProduct 56 = .ok (.iload_n 3, 1) := by decide +kernel
theorem dX6_standsProduct_57 : decode cX6_standsProduct 57 = .ok (.iconst 0, 1) := by decide +kernel
theorem dX6_standsProduct_58 : decode cX6_standsProduct 58 = .ok (.invokevirtual 47, 3) := by decide +kernel
theorem dX6_standsProduct_61 : decode cX6_standsProduct 61 = .ok (.iinc 2 1, 3) := by decide +kernel
theorem dX6_standsProduct_64 : decode cX6_standsProduct 64 = .ok (.goto (-52), 3) := by decide +kernel
theorem dX6_standsProduct_67 : decode cX6_standsProduct 67 = .ok (.iconst 1, 1) := by decide +kernel
theorem dX6_standsProduct_68 : decode cX6_standsProduct 68 = .ok (.ireturn, 1) := by decide +kernel
theorem dX6_standsPower_0 : decode cX6_standsPower 0 = .ok (.aload_n 0, 1) := by decide +kernel
theorem dX6_standsPower_1 : decode cX6_standsPower 1 = .ok (.iload_n 1, 1) := by decide +kernel
theorem dX6_standsPower_2 : decode cX6_standsPower 2 = .ok (.invokevirtual 54, 3) := by decide +kernel
theorem dX6_standsPower_5 : decode cX6_standsPower 5 = .ok (.ifCond .ne 5, 3) := by decide +kernel
theorem dX6_standsPower_8 : decode cX6_standsPower 8 = .ok (.iconst 0, 1) := by decide +kernel
theorem dX6_standsPower_9 : decode cX6_standsPower 9 = .ok (.ireturn, 1) := by decide +kernel
theorem dX6_standsPower_10 : decode cX6_standsPower 10 = .ok (.aload_n 0, 1) := by decide +kernel
theorem dX6_standsPower_11 : decode cX6_standsPower 11 = .ok (.getfield 34, 3) := by decide +kernel
theorem dX6_standsPower_14 : decode cX6_standsPower 14 = .ok (.bipush 94, 2) := by decide +kernel
theorem dX6_standsPower_16 : decode cX6_standsPower 16 = .ok (.if_icmp .eq 5, 3) := by decide +kernel
theorem dX6_standsPower_19 : decode cX6_standsPower 19 = .ok (.iconst 1, 1) := by decide +kernel
theorem dX6_standsPower_20 : decode cX6_standsPower 20 = .ok (.ireturn, 1) := by decide +kernel
theorem dX6_standsPower_21 : decode cX6_standsPower 21 = .ok (.aload_n 0, 1) := by decide +kernel
theorem dX6_standsPower_22 : decode cX6_standsPower 22 = .ok (.invokevirtual 37, 3) := by decide +kernel
theorem dX6_standsPower_25 : decode cX6_standsPower 25 = .ok (.aload_n 0, 1) := by decide +kernel
theorem dX6_standsPower_26 : decode cX6_standsPower 26 = .ok (.getfield 34, 3) := by decide +kernel
theorem dX6_standsPower_29 : decode cX6_standsPower 29 = .ok (.invokestatic 57, 3) := by decide +kernel
theorem dX6_standsPower_32 : decode cX6_standsPower 32 = .ok (.ifCond .eq 16, 3) := by decide +kernel
theorem dX6_standsPower_35 : decode cX6_standsPower 35 = .ok (.aload_n 0, 1) := by decide +kernel
theorem dX6_standsPower_36 : decode cX6_standsPower 36 = .ok (.getfield 31, 3) := by decide +kernel
theorem dX6_standsPower_39 : decode cX6_standsPower 39 = .ok (.aload_n 0, 1) := by decide +kernel
theorem dX6_standsPower_40 : decode cX6_standsPower 40 = .ok (.getfield 28, 3) := by decide +kernel
theorem dX6_standsPower_43 : decode cX6_standsPower 43 = .ok (.isub, 1) := by decide +kernel
theorem dX6_standsPower_44 : decode cX6_standsPower 44 = .ok (.iconst 1, 1) := by decide +kernel
theorem dX6_standsPower_45 : decode cX6_standsPower 45 = .ok (.if_icmp .eq 5, 3) := by decide +kernel
theorem dX6_standsPower_48 : decode cX6_standsPower 48 = .ok (.iconst 0, 1) := by decide +kernel
theorem dX6_standsPower_49 : decode cX6_standsPower 49 = .ok (.ireturn, 1) := by decide +kernel
theorem dX6_standsPower_50 : decode cX6_standsPower 50 = .ok (.aload_n 0, 1) := by decide +kernel
theorem dX6_standsPower_51 : decode cX6_standsPower 51 = .ok (.bipush 94, 2) := by decide +kernel
theorem dX6_standsPower_53 : decode cX6_standsPower 53 = .ok (.aload_n 0, 1) := by decide +kernel
theorem dX6_standsPower_54 : decode cX6_standsPower 54 = .ok (.invokevirtual 60, 3) := by decide +kernel
theorem dX6_standsPower_57 : decode cX6_standsPower 57 = .ok (.invokevirtual 47, 3) := by decide +kernel
theorem dX6_standsPower_60 : decode cX6_standsPower 60 = .ok (.aload_n 0, 1) := by decide +kernel
theorem dX6_standsPower_61 : decode cX6_standsPower 61 = .ok (.invokevirtual 37, 3) := by decide +kernel
theorem dX6_standsPower_64 : decode cX6_standsPower 64 = .ok (.iconst 1, 1) := by decide +kernel
theorem dX6_standsPower_65 : decode cX6_standsPower 65 = .ok (.ireturn, 1) := by decide +kernel
theorem dX6_standsThing_0 : decode cX6_standsThing 0 = .ok (.aload_n 0, 1) := by decide +kernel
theorem dX6_standsThing_1 : decode cX6_standsThing 1 = .ok (.getfield 34, 3) := by decide +kernel
theorem dX6_standsThing_4 : decode cX6_standsThing 4 = .ok (.bipush 116, 2) := by decide +kernel
theorem dX6_standsThing_6 : decode cX6_standsThing 6 = .ok (.if_icmp .ne 16, 3) := by decide +kernel
theorem dX6_standsThing_9 : decode cX6_standsThing 9 = .ok (.aload_n 0, 1) := by decide +kernel
theorem dX6_standsThing_10 : decode cX6_standsThing 10 = .ok (.bipush 116, 2) := by decide +kernel
theorem dX6_standsThing_12 : decode cX6_standsThing 12 = .ok (.iconst 0, 1) := by decide +kernel
theorem dX6_standsThing_13 : decode cX6_standsThing 13 = .ok (.invokevirtual 47, 3) := by decide +kernel
theorem dX6_standsThing_16 : decode cX6_standsThing 16 = .ok (.aload_n 0, 1) := by decide +kernel
theorem dX6_standsThing_17 : decode cX6_standsThing 17 = .ok (.invokevirtual 37, 3) := by decide +kernel
theorem dX6_standsThing_20 : decode cX6_standsThing 20 = .ok (.iconst 1, 1) := by decide +kernel
theorem dX6_standsThing_21 : decode cX6_standsThing 21 = .ok (.ireturn, 1) := by decide +kernel
theorem dX6_standsThing_22 : decode cX6_standsThing 22 = .ok (.aload_n 0, 1) := by decide +kernel
theorem dX6_standsThing_23 : decode cX6_standsThing 23 = .ok (.getfield 34, 3) := by decide +kernel
theorem dX6_standsThing_26 : decode cX6_standsThing 26 = .ok (.invokestatic 57, 3) := by decide +kernel
theorem dX6_standsThing_29 : decode cX6_standsThing 29 = .ok (.ifCond .eq 28, 3) := by decide +kernel
theorem dX6_standsThing_32 : decode cX6_standsThing 32 = .ok (.aload_n 0, 1) := by decide +kernel
theorem dX6_standsThing_33 : decode cX6_standsThing 33 = .ok (.invokevirtual 64, 3) := by decide +kernel
theorem dX6_standsThing_36 : decode cX6_standsThing 36 = .ok (.ifCond .ne 5, 3) := by decide +kernel
theorem dX6_standsThing_39 : decode cX6_standsThing 39 = .ok (.iconst 0, 1) := by decide +kernel
theorem dX6_standsThing_40 : decode cX6_standsThing 40 = .ok (.ireturn, 1) := by decide +kernel
theorem dX6_standsThing_41 : decode cX6_standsThing 41 = .ok (.aload_n 0, 1) := by decide +kernel
theorem dX6_standsThing_42 : decode cX6_standsThing 42 = .ok (.bipush 48, 2) := by decide +kernel
theorem dX6_standsThing_44 : decode cX6_standsThing 44 = .ok (.aload_n 0, 1) := by decide +kernel
theorem dX6_standsThing_45 : decode cX6_standsThing 45 = .ok (.invokevirtual 60, 3) := by decide +kernel
theorem dX6_standsThing_48 : decode cX6_standsThing 48 = .ok (.invokevirtual 47, 3) := by decide +kernel
theorem dX6_standsThing_51 : decode cX6_standsThing 51 = .ok (.aload_n 0, 1) := by decide +kernel
theorem dX6_standsThing_52 : decode cX6_standsThing 52 = .ok (.invokevirtual 37, 3) := by decide +kernel
theorem dX6_standsThing_55 : decode cX6_standsThing 55 = .ok (.iconst 1, 1) := by decide +kernel
theorem dX6_standsThing_56 : decode cX6_standsThing 56 = .ok (.ireturn, 1) := by decide +kernel
theorem dX6_standsThing_57 : decode cX6_standsThing 57 = .ok (.aload_n 0, 1) := by decide +kernel
theorem dX6_standsThing_58 : decode cX6_standsThing 58 = .ok (.getfield 34, 3) := by decide +kernel
theorem dX6_standsThing_61 : decode cX6_standsThing 61 = .ok (.istore_n 2, 1) := by decide +kernel
theorem dX6_standsThing_62 : decode cX6_standsThing 62 = .ok (.iload_n 2, 1) := by decide +kernel
theorem dX6_standsThing_63 : decode cX6_standsThing 63 = .ok (.invokestatic 68, 3) := by decide +kernel
theorem dX6_standsThing_66 : decode cX6_standsThing 66 = .ok (.ifCond .eq 7, 3) := by decide +kernel
theorem dX6_standsThing_69 : decode cX6_standsThing 69 = .ok (.aload_n 0, 1) := by decide +kernel
theorem dX6_standsThing_70 : decode cX6_standsThing 70 = .ok (.invokevirtual 37, 3) := by decide +kernel
theorem dX6_standsThing_73 : decode cX6_standsThing 73 = .ok (.aload_n 0, 1) := by decide +kernel
theorem dX6_standsThing_74 : decode cX6_standsThing 74 = .ok (.getfield 34, 3) := by decide +kernel
theorem dX6_standsThing_77 : decode cX6_standsThing 77 = .ok (.bipush 40, 2) := by decide +kernel
theorem dX6_standsThing_79 : decode cX6_standsThing 79 = .ok (.if_icmp .ne 9, 3) := by decide +kernel
theorem dX6_standsThing_82 : decode cX6_standsThing 82 = .ok (.iload_n 1, 1) := by decide +kernel
theorem dX6_standsThing_83 : decode cX6_standsThing 83 = .ok (.bipush 6, 2) := by decide +kernel
theorem dX6_standsThing_85 : decode cX6_standsThing 85 = .ok (.if_icmp .lt 5, 3) := by decide +kernel
theorem dX6_standsThing_88 : decode cX6_standsThing 88 = .ok (.iconst 0, 1) := by decide +kernel
theorem dX6_standsThing_89 : decode cX6_standsThing 89 = .ok (.ireturn, 1) := by decide +kernel
theorem dX6_standsThing_90 : decode cX6_standsThing 90 = .ok (.aload_n 0, 1) := by decide +kernel
theorem dX6_standsThing_91 : decode cX6_standsThing 91 = .ok (.invokevirtual 37, 3) := by decide +kernel
theorem dX6_standsThing_94 : decode cX6_standsThing 94 = .ok (.aload_n 0, 1) := by decide +kernel
theorem dX6_standsThing_95 : decode cX6_standsThing 95 = .ok (.iload_n 1, 1) := by decide +kernel
theorem dX6_standsThing_96 : decode cX6_standsThing 96 = .ok (.iconst 1, 1) := by decide +kernel
theorem dX6_standsThing_97 : decode cX6_standsThing 97 = .ok (.iadd, 1) := by decide +kernel
theorem dX6_standsThing_98 : decode cX6_standsThing 98 = .ok (.invokevirtual 40, 3) := by decide +kernel
theorem dX6_standsThing_101 : decode cX6_standsThing 101 = .ok (.ifCond .eq 12, 3) := by decide +kernel
theorem dX6_standsThing_104 : decode cX6_standsThing 104 = .ok (.aload_n 0, 1) := by decide +kernel
theorem dX6_standsThing_105 : decode cX6_standsThing 105 = .ok (.getfield 34, 3) := by decide +kernel
theorem dX6_standsThing_108 : decode cX6_standsThing 108 = .ok (.bipush 41, 2) := by decide +kernel
theorem dX6_standsThing_110 : decode cX6_standsThing 110 = .ok (.if_icmp .eq 5, 3) := by decide +kernel
theorem dX6_standsThing_113 : decode cX6_standsThing 113 = .ok (.iconst 0, 1) := by decide +kernel
theorem dX6_standsThing_114 : decode cX6_standsThing 114 = .ok (.ireturn, 1) := by decide +kernel
theorem dX6_standsThing_115 : decode cX6_standsThing 115 = .ok (.aload_n 0, 1) := by decide +kernel
theorem dX6_standsThing_116 : decode cX6_standsThing 116 = .ok (.invokevirtual 37, 3) := by decide +kernel
theorem dX6_standsThing_119 : decode cX6_standsThing 119 = .ok (.iload_n 2, 1) := by decide +kernel
theorem dX6_standsThing_120 : decode cX6_standsThing 120 = .ok (.invokestatic 68, 3) := by decide +kernel
theorem dX6_standsThing_123 : decode cX6_standsThing 123 = .ok (.ifCond .eq 9, 3) := by decide +kernel
theorem dX6_standsThing_126 : decode cX6_standsThing 126 = .ok (.aload_n 0, 1) := by decide +kernel
theorem dX6_standsThing_127 : decode cX6_standsThing 127 = .ok (.iload_n 2, 1) := by decide +kernel
theorem dX6_standsThing_128 : decode cX6_standsThing 128 = .ok (.iconst 0, 1) := by decide +kernel
theorem dX6_standsThing_129 : decode cX6_standsThing 129 = .ok (.invokevirtual 47, 3) := by decide +kernel
theorem dX6_standsThing_132 : decode cX6_standsThing 132 = .ok (.iconst 1, 1) := by decide +kernel
theorem dX6_standsThing_133 : decode cX6_standsThing 133 = .ok (.ireturn, 1) := by decide +kernel
theorem dX6_toNextToken_0 : decode cX6_toNextToken 0 = .ok (.aload_n 0, 1) := by decide +kernel
theorem dX6_toNextToken_1 : decode cX6_toNextToken 1 = .ok (.aload_n 0, 1) := by decide +kernel
theorem dX6_toNextToken_2 : decode cX6_toNextToken 2 = .ok (.getfield 31, 3) := by decide +kernel
theorem dX6_toNextToken_5 : decode cX6_toNextToken 5 = .ok (.putfield 28, 3) := by decide +kernel
theorem dX6_toNextToken_8 : decode cX6_toNextToken 8 = .ok (.aload_n 0, 1) := by decide +kernel
theorem dX6_toNextToken_9 : decode cX6_toNextToken 9 = .ok (.getfield 28, 3) := by decide +kernel
theorem dX6_toNextToken_12 : decode cX6_toNextToken 12 = .ok (.aload_n 0, 1) := by decide +kernel
theorem dX6_toNextToken_13 : decode cX6_toNextToken 13 = .ok (.getfield 22, 3) := by decide +kernel
theorem dX6_toNextToken_16 : decode cX6_toNextToken 16 = .ok (.if_icmp .ge 30, 3) := by decide +kernel
theorem dX6_toNextToken_19 : decode cX6_toNextToken 19 = .ok (.aload_n 0, 1) := by decide +kernel
theorem dX6_toNextToken_20 : decode cX6_toNextToken 20 = .ok (.getfield 25, 3) := by decide +kernel
theorem dX6_toNextToken_23 : decode cX6_toNextToken 23 = .ok (.aload_n 0, 1) := by decide +kernel
theorem dX6_toNextToken_24 : decode cX6_toNextToken 24 = .ok (.getfield 28, 3) := by decide +kernel
theorem dX6_toNextToken_27 : decode cX6_toNextToken 27 = .ok (.iaload, 1) := by decide +kernel
theorem dX6_toNextToken_28 : decode cX6_toNextToken 28 = .ok (.bipush 32, 2) := by decide +kernel
theorem dX6_toNextToken_30 : decode cX6_toNextToken 30 = .ok (.if_icmp .ne 16, 3) := by decide +kernel
theorem dX6_toNextToken_33 : decode cX6_toNextToken 33 = .ok (.aload_n 0, 1) := by decide +kernel
theorem dX6_toNextToken_34 : decode cX6_toNextToken 34 = .ok (.dup, 1) := by decide +kernel
theorem dX6_toNextToken_35 : decode cX6_toNextToken 35 = .ok (.getfield 28, 3) := by decide +kernel
theorem dX6_toNextToken_38 : decode cX6_toNextToken 38 = .ok (.iconst 1, 1) := by decide +kernel
theorem dX6_toNextToken_39 : decode cX6_toNextToken 39 = .ok (.iadd, 1) := by decide +kernel
theorem dX6_toNextToken_40 : decode cX6_toNextToken 40 = .ok (.putfield 28, 3) := by decide +kernel
theorem dX6_toNextToken_43 : decode cX6_toNextToken 43 = .ok (.goto (-35), 3) := by decide +kernel
theorem dX6_toNextToken_46 : decode cX6_toNextToken 46 = .ok (.aload_n 0, 1) := by decide +kernel
theorem dX6_toNextToken_47 : decode cX6_toNextToken 47 = .ok (.getfield 28, 3) := by decide +kernel
theorem dX6_toNextToken_50 : decode cX6_toNextToken 50 = .ok (.aload_n 0, 1) := by decide +kernel
theorem dX6_toNextToken_51 : decode cX6_toNextToken 51 = .ok (.getfield 22, 3) := by decide +kernel
theorem dX6_toNextToken_54 : decode cX6_toNextToken 54 = .ok (.if_icmp .lt 9, 3) := by decide +kernel
theorem dX6_toNextToken_57 : decode cX6_toNextToken 57 = .ok (.aload_n 0, 1) := by decide +kernel
theorem dX6_toNextToken_58 : decode cX6_toNextToken 58 = .ok (.iconst (-1), 1) := by decide +kernel
theorem dX6_toNextToken_59 : decode cX6_toNextToken 59 = .ok (.putfield 34, 3) := by decide +kernel
theorem dX6_toNextToken_62 : decode cX6_toNextToken 62 = .ok (.return_, 1) := by decide +kernel
theorem dX6_toNextToken_63 : decode cX6_toNextToken 63 = .ok (.aload_n 0, 1) := by decide +kernel
theorem dX6_toNextToken_64 : decode cX6_toNextToken 64 = .ok (.aload_n 0, 1) := by decide +kernel
theorem dX6_toNextToken_65 : decode cX6_toNextToken 65 = .ok (.getfield 25, 3) := by decide +kernel
theorem dX6_toNextToken_68 : decode cX6_toNextToken 68 = .ok (.aload_n 0, 1) := by decide +kernel
theorem dX6_toNextToken_69 : decode cX6_toNextToken 69 = .ok (.getfield 28, 3) := by decide +kernel
theorem dX6_toNextToken_72 : decode cX6_toNextToken 72 = .ok (.iaload, 1) := by decide +kernel
theorem dX6_toNextToken_73 : decode cX6_toNextToken 73 = .ok (.putfield 34, 3) := by decide +kernel
theorem dX6_toNextToken_76 : decode cX6_toNextToken 76 = .ok (.aload_n 0, 1) := by decide +kernel
theorem dX6_toNextToken_77 : decode cX6_toNextToken 77 = .ok (.aload_n 0, 1) := by decide +kernel
theorem dX6_toNextToken_78 : decode cX6_toNextToken 78 = .ok (.getfield 28, 3) := by decide +kernel
theorem dX6_toNextToken_81 : decode cX6_toNextToken 81 = .ok (.iconst 1, 1) := by decide +kernel
theorem dX6_toNextToken_82 : decode cX6_toNextToken 82 = .ok (.iadd, 1) := by decide +kernel
theorem dX6_toNextToken_83 : decode cX6_toNextToken 83 = .ok (.putfield 31, 3) := by decide +kernel
theorem dX6_toNextToken_86 : decode cX6_toNextToken 86 = .ok (.aload_n 0, 1) := by decide +kernel
theorem dX6_toNextToken_87 : decode cX6_toNextToken 87 = .ok (.getfield 34, 3) := by decide +kernel
theorem dX6_toNextToken_90 : decode cX6_toNextToken 90 = .ok (.invokestatic 57, 3) := by decide +kernel
theorem dX6_toNextToken_93 : decode cX6_toNextToken 93 = .ok (.ifCond .eq 42, 3) := by decide +kernel
theorem dX6_toNextToken_96 : decode cX6_toNextToken 96 = .ok (.aload_n 0, 1) := by decide +kernel
theorem dX6_toNextToken_97 : decode cX6_toNextToken 97 = .ok (.getfield 31, 3) := by decide +kernel
theorem dX6_toNextToken_100 : decode cX6_toNextToken 100 = .ok (.aload_n 0, 1) := by decide +kernel
theorem dX6_toNextToken_101 : decode cX6_toNextToken 101 = .ok (.getfield 22, 3) := by decide +kernel
theorem dX6_toNextToken_104 : decode cX6_toNextToken 104 = .ok (.if_icmp .ge 31, 3) := by decide +kernel
theorem dX6_toNextToken_107 : decode cX6_toNextToken 107 = .ok (.aload_n 0, 1) := by decide +kernel
theorem dX6_toNextToken_108 : decode cX6_toNextToken 108 = .ok (.getfield 25, 3) := by decide +kernel
theorem dX6_toNextToken_111 : decode cX6_toNextToken 111 = .ok (.aload_n 0, 1) := by decide +kernel
theorem dX6_toNextToken_112 : decode cX6_toNextToken 112 = .ok (.getfield 31, 3) := by decide +kernel
theorem dX6_toNextToken_115 : decode cX6_toNextToken 115 = .ok (.iaload, 1) := by decide +kernel
theorem dX6_toNextToken_116 : decode cX6_toNextToken 116 = .ok (.invokestatic 57, 3) := by decide +kernel
theorem dX6_toNextToken_119 : decode cX6_toNextToken 119 = .ok (.ifCond .eq 16, 3) := by decide +kernel
theorem dX6_toNextToken_122 : decode cX6_toNextToken 122 = .ok (.aload_n 0, 1) := by decide +kernel
theorem dX6_toNextToken_123 : decode cX6_toNextToken 123 = .ok (.dup, 1) := by decide +kernel
theorem dX6_toNextToken_124 : decode cX6_toNextToken 124 = .ok (.getfield 31, 3) := by decide +kernel
theorem dX6_toNextToken_127 : decode cX6_toNextToken 127 = .ok (.iconst 1, 1) := by decide +kernel
theorem dX6_toNextToken_128 : decode cX6_toNextToken 128 = .ok (.iadd, 1) := by decide +kernel
theorem dX6_toNextToken_129 : decode cX6_toNextToken 129 = .ok (.putfield 31, 3) := by decide +kernel
theorem dX6_toNextToken_132 : decode cX6_toNextToken 132 = .ok (.goto (-36), 3) := by decide +kernel
theorem dX6_toNextToken_135 : decode cX6_toNextToken 135 = .ok (.return_, 1) := by decide +kernel
theorem dX6_isName_0 : decode cX6_isName 0 = .ok (.iload_n 0, 1) := by decide +kernel
theorem dX6_isName_1 : decode cX6_isName 1 = .ok (.bipush 101, 2) := by decide +kernel
theorem dX6_isName_3 : decode cX6_isName 3 = .ok (.if_icmp .eq 21, 3) := by decide +kernel
theorem dX6_isName_6 : decode cX6_isName 6 = .ok (.iload_n 0, 1) := by decide +kernel
theorem dX6_isName_7 : decode cX6_isName 7 = .ok (.bipush 113, 2) := by decide +kernel
theorem dX6_isName_9 : decode cX6_isName 9 = .ok (.if_icmp .eq 15, 3) := by decide +kernel
theorem dX6_isName_12 : decode cX6_isName 12 = .ok (.iload_n 0, 1) := by decide +kernel
theorem dX6_isName_13 : decode cX6_isName 13 = .ok (.bipush 108, 2) := by decide +kernel
theorem dX6_isName_15 : decode cX6_isName 15 = .ok (.if_icmp .eq 9, 3) := by decide +kernel
theorem dX6_isName_18 : decode cX6_isName 18 = .ok (.iload_n 0, 1) := by decide +kernel
theorem dX6_isName_19 : decode cX6_isName 19 = .ok (.bipush 105, 2) := by decide +kernel
theorem dX6_isName_21 : decode cX6_isName 21 = .ok (.if_icmp .ne 7, 3) := by decide +kernel
theorem dX6_isName_24 : decode cX6_isName 24 = .ok (.iconst 1, 1) := by decide +kernel
theorem dX6_isName_25 : decode cX6_isName 25 = .ok (.goto 4, 3) := by decide +kernel
theorem dX6_isName_28 : decode cX6_isName 28 = .ok (.iconst 0, 1) := by decide +kernel
theorem dX6_isName_29 : decode cX6_isName 29 = .ok (.ireturn, 1) := by decide +kernel
theorem dX6_isNumber_0 : decode cX6_isNumber 0 = .ok (.aload_n 0, 1) := by decide +kernel
theorem dX6_isNumber_1 : decode cX6_isNumber 1 = .ok (.getfield 31, 3) := by decide +kernel
theorem dX6_isNumber_4 : decode cX6_isNumber 4 = .ok (.aload_n 0, 1) := by decide +kernel
theorem dX6_isNumber_5 : decode cX6_isNumber 5 = .ok (.getfield 28, 3) := by decide +kernel
theorem dX6_isNumber_8 : decode cX6_isNumber 8 = .ok (.isub, 1) := by decide +kernel
theorem dX6_isNumber_9 : decode cX6_isNumber 9 = .ok (.iconst 4, 1) := by decide +kernel
theorem dX6_isNumber_10 : decode cX6_isNumber 10 = .ok (.if_icmp .gt 17, 3) := by decide +kernel
theorem dX6_isNumber_13 : decode cX6_isNumber 13 = .ok (.aload_n 0, 1) := by decide +kernel
theorem dX6_isNumber_14 : decode cX6_isNumber 14 = .ok (.invokevirtual 60, 3) := by decide +kernel
theorem dX6_isNumber_17 : decode cX6_isNumber 17 = .ok (.invokestatic 71, 3) := by decide +kernel
theorem dX6_isNumber_20 : decode cX6_isNumber 20 = .ok (.ifCond .eq 7, 3) := by decide +kernel
theorem dX6_isNumber_23 : decode cX6_isNumber 23 = .ok (.iconst 1, 1) := by decide +kernel
theorem dX6_isNumber_24 : decode cX6_isNumber 24 = .ok (.goto 4, 3) := by decide +kernel
theorem dX6_isNumber_27 : decode cX6_isNumber 27 = .ok (.iconst 0, 1) := by decide +kernel
theorem dX6_isNumber_28 : decode cX6_isNumber 28 = .ok (.ireturn, 1) := by decide +kernel
theorem dX6_amount_0 : decode cX6_amount 0 = .ok (.iconst 0, 1) := by decide +kernel
theorem dX6_amount_1 : decode cX6_amount 1 = .ok (.istore_n 1, 1) := by decide +kernel
theorem dX6_amount_2 : decode cX6_amount 2 = .ok (.aload_n 0, 1) := by decide +kernel
theorem dX6_amount_3 : decode cX6_amount 3 = .ok (.getfield 28, 3) := by decide +kernel
theorem dX6_amount_6 : decode cX6_amount 6 = .ok (.istore_n 2, 1) := by decide +kernel
theorem dX6_amount_7 : decode cX6_amount 7 = .ok (.iload_n 2, 1) := by decide +kernel
theorem dX6_amount_8 : decode cX6_amount 8 = .ok (.aload_n 0, 1) := by decide +kernel
theorem dX6_amount_9 : decode cX6_amount 9 = .ok (.getfield 31, 3) := by decide +kernel
theorem dX6_amount_12 : decode cX6_amount 12 = .ok (.if_icmp .ge 24, 3) := by decide +kernel
theorem dX6_amount_15 : decode cX6_amount 15 = .ok (.bipush 10, 2) := by decide +kernel
theorem dX6_amount_17 : decode cX6_amount 17 = .ok (.iload_n 1, 1) := by decide +kernel
theorem dX6_amount_18 : decode cX6_amount 18 = .ok (.imul, 1) := by decide +kernel
theorem dX6_amount_19 : decode cX6_amount 19 = .ok (.aload_n 0, 1) := by decide +kernel
theorem dX6_amount_20 : decode cX6_amount 20 = .ok (.getfield 25, 3) := by decide +kernel
theorem dX6_amount_23 : decode cX6_amount 23 = .ok (.iload_n 2, 1) := by decide +kernel
theorem dX6_amount_24 : decode cX6_amount 24 = .ok (.iaload, 1) := by decide +kernel
theorem dX6_amount_25 : decode cX6_amount 25 = .ok (.bipush 48, 2) := by decide +kernel
theorem dX6_amount_27 : decode cX6_amount 27 = .ok (.isub, 1) := by decide +kernel
theorem dX6_amount_28 : decode cX6_amount 28 = .ok (.iadd, 1) := by decide +kernel
theorem dX6_amount_29 : decode cX6_amount 29 = .ok (.istore_n 1, 1) := by decide +kernel
theorem dX6_amount_30 : decode cX6_amount 30 = .ok (.iinc 2 1, 3) := by decide +kernel
theorem dX6_amount_33 : decode cX6_amount 33 = .ok (.goto (-26), 3) := by decide +kernel
theorem dX6_amount_36 : decode cX6_amount 36 = .ok (.iload_n 1, 1) := by decide +kernel
theorem dX6_amount_37 : decode cX6_amount 37 = .ok (.ireturn, 1) := by decide +kernel
theorem dX6_isDigit_0 : decode cX6_isDigit 0 = .ok (.iload_n 0, 1) := by decide +kernel
theorem dX6_isDigit_1 : decode cX6_isDigit 1 = .ok (.bipush 48, 2) := by decide +kernel
theorem dX6_isDigit_3 : decode cX6_isDigit 3 = .ok (.if_icmp .lt 13, 3) := by decide +kernel
theorem dX6_isDigit_6 : decode cX6_isDigit 6 = .ok (.iload_n 0, 1) := by decide +kernel
theorem dX6_isDigit_7 : decode cX6_isDigit 7 = .ok (.bipush 57, 2) := by decide +kernel
theorem dX6_isDigit_9 : decode cX6_isDigit 9 = .ok (.if_icmp .gt 7, 3) := by decide +kernel
theorem dX6_isDigit_12 : decode cX6_isDigit 12 = .ok (.iconst 1, 1) := by decide +kernel
theorem dX6_isDigit_13 : decode cX6_isDigit 13 = .ok (.goto 4, 3) := by decide +kernel
theorem dX6_isDigit_16 : decode cX6_isDigit 16 = .ok (.iconst 0, 1) := by decide +kernel
theorem dX6_isDigit_17 : decode cX6_isDigit 17 = .ok (.ireturn, 1) := by decide +kernel
theorem dX6_addStep_0 : decode cX6_addStep 0 = .ok (.aload_n 0, 1) := by decide +kernel
theorem dX6_addStep_1 : decode cX6_addStep 1 = .ok (.getfield 18, 3) := by decide +kernel
theorem dX6_addStep_4 : decode cX6_addStep 4 = .ok (.bipush 120, 2) := by decide +kernel
theorem dX6_addStep_6 : decode cX6_addStep 6 = .ok (.if_icmp .ge 33, 3) := by decide +kernel
theorem dX6_addStep_9 : decode cX6_addStep 9 = .ok (.aload_n 0, 1) := by decide +kernel
theorem dX6_addStep_10 : decode cX6_addStep 10 = .ok (.getfield 9, 3) := by decide +kernel
theorem dX6_addStep_13 : decode cX6_addStep 13 = .ok (.aload_n 0, 1) := by decide +kernel
theorem dX6_addStep_14 : decode cX6_addStep 14 = .ok (.getfield 18, 3) := by decide +kernel
theorem dX6_addStep_17 : decode cX6_addStep 17 = .ok (.iload_n 1, 1) := by decide +kernel
theorem dX6_addStep_18 : decode cX6_addStep 18 = .ok (.iastore, 1) := by decide +kernel
theorem dX6_addStep_19 : decode cX6_addStep 19 = .ok (.aload_n 0, 1) := by decide +kernel
theorem dX6_addStep_20 : decode cX6_addStep 20 = .ok (.getfield 15, 3) := by decide +kernel
theorem dX6_addStep_23 : decode cX6_addStep 23 = .ok (.aload_n 0, 1) := by decide +kernel
theorem dX6_addStep_24 : decode cX6_addStep 24 = .ok (.getfield 18, 3) := by decide +kernel
theorem dX6_addStep_27 : decode cX6_addStep 27 = .ok (.iload_n 2, 1) := by decide +kernel
theorem dX6_addStep_28 : decode cX6_addStep 28 = .ok (.iastore, 1) := by decide +kernel
theorem dX6_addStep_29 : decode cX6_addStep 29 = .ok (.aload_n 0, 1) := by decide +kernel
theorem dX6_addStep_30 : decode cX6_addStep 30 = .ok (.dup, 1) := by decide +kernel
theorem dX6_addStep_31 : decode cX6_addStep 31 = .ok (.getfield 18, 3) := by decide +kernel
theorem dX6_addStep_34 : decode cX6_addStep 34 = .ok (.iconst 1, 1) := by decide +kernel
theorem dX6_addStep_35 : decode cX6_addStep 35 = .ok (.iadd, 1) := by decide +kernel
theorem dX6_addStep_36 : decode cX6_addStep 36 = .ok (.putfield 18, 3) := by decide +kernel
theorem dX6_addStep_39 : decode cX6_addStep 39 = .ok (.return_, 1) := by decide +kernel
theorem dX7_init_0 : decode cX7_init 0 = .ok (.aload_n 0, 1) := by decide +kernel
theorem dX7_init_1 : decode cX7_init 1 = .ok (.invokespecial 3, 3) := by decide +kernel
theorem dX7_init_4 : decode cX7_init 4 = .ok (.aload_n 0, 1) := by decide +kernel
theorem dX7_init_5 : decode cX7_init 5 = .ok (.new 9, 3) := by decide +kernel
theorem dX7_init_8 : decode cX7_init 8 = .ok (.dup, 1) := by decide +kernel
theorem dX7_init_9 : decode cX7_init 9 = .ok (.invokespecial 11, 3) := by decide +kernel
theorem dX7_init_12 : decode cX7_init 12 = .ok (.putfield 12, 3) := by decide +kernel
theorem dX7_init_15 : decode cX7_init 15 = .ok (.aload_n 0, 1) := by decide +kernel
theorem dX7_init_16 : decode cX7_init 16 = .ok (.new 16, 3) := by decide +kernel
theorem dX7_init_19 : decode cX7_init 19 = .ok (.dup, 1) := by decide +kernel
theorem dX7_init_20 : decode cX7_init 20 = .ok (.invokespecial 18, 3) := by decide +kernel
theorem dX7_init_23 : decode cX7_init 23 = .ok (.putfield 19, 3) := by decide +kernel
theorem dX7_init_26 : decode cX7_init 26 = .ok (.aload_n 0, 1) := by decide +kernel
theorem dX7_init_27 : decode cX7_init 27 = .ok (.new 23, 3) := by decide +kernel
theorem dX7_init_30 : decode cX7_init 30 = .ok (.dup, 1) := by decide +kernel
theorem dX7_init_31 : decode cX7_init 31 = .ok (.aload_n 0, 1) := by decide +kernel
theorem dX7_init_32 : decode cX7_init 32 = .ok (.getfield 12, 3) := by decide +kernel
theorem dX7_init_35 : decode cX7_init 35 = .ok (.invokespecial 25, 3) := by decide +kernel
theorem dX7_init_38 : decode cX7_init 38 = .ok (.putfield 28, 3) := by decide +kernel
theorem dX7_init_41 : decode cX7_init 41 = .ok (.aload_n 0, 1) := by decide +kernel
theorem dX7_init_42 : decode cX7_init 42 = .ok (.iconst 4, 1) := by decide +kernel
theorem dX7_init_43 : decode cX7_init 43 = .ok (.anewarray 32, 3) := by decide +kernel
theorem dX7_init_46 : decode cX7_init 46 = .ok (.putfield 34, 3) := by decide +kernel
theorem dX7_init_49 : decode cX7_init 49 = .ok (.iconst 0, 1) := by decide +kernel
theorem dX7_init_50 : decode cX7_init 50 = .ok (.istore_n 1, 1) := by decide +kernel
theorem dX7_init_51 : decode cX7_init 51 = .ok (.iload_n 1, 1) := by decide +kernel
theorem dX7_init_52 : decode cX7_init 52 = .ok (.iconst 4, 1) := by decide +kernel
theorem dX7_init_53 : decode cX7_init 53 = .ok (.if_icmp .ge 26, 3) := by decide +kernel
theorem dX7_init_56 : decode cX7_init 56 = .ok (.aload_n 0, 1) := by decide +kernel
theorem dX7_init_57 : decode cX7_init 57 = .ok (.getfield 34, 3) := by decide +kernel
theorem dX7_init_60 : decode cX7_init 60 = .ok (.iload_n 1, 1) := by decide +kernel
theorem dX7_init_61 : decode cX7_init 61 = .ok (.new 32, 3) := by decide +kernel
theorem dX7_init_64 : decode cX7_init 64 = .ok (.dup, 1) := by decide +kernel
theorem dX7_init_65 : decode cX7_init 65 = .ok (.aload_n 0, 1) := by decide +kernel
theorem dX7_init_66 : decode cX7_init 66 = .ok (.getfield 12, 3) := by decide +kernel
theorem dX7_init_69 : decode cX7_init 69 = .ok (.invokespecial 38, 3) := by decide +kernel
theorem dX7_init_72 : decode cX7_init 72 = .ok (.aastore, 1) := by decide +kernel
theorem dX7_init_73 : decode cX7_init 73 = .ok (.iinc 1 1, 3) := by decide +kernel
theorem dX7_init_76 : decode cX7_init 76 = .ok (.goto (-25), 3) := by decide +kernel
theorem dX7_init_79 : decode cX7_init 79 = .ok (.aload_n 0, 1) := by decide +kernel
theorem dX7_init_80 : decode cX7_init 80 = .ok (.new 39, 3) := by decide +kernel
theorem dX7_init_83 : decode cX7_init 83 = .ok (.dup, 1) := by decide +kernel
theorem dX7_init_84 : decode cX7_init 84 = .ok (.invokespecial 41, 3) := by decide +kernel
theorem dX7_init_87 : decode cX7_init 87 = .ok (.putfield 42, 3) := by decide +kernel
theorem dX7_init_90 : decode cX7_init 90 = .ok (.aload_n 0, 1) := by decide +kernel
theorem dX7_init_91 : decode cX7_init 91 = .ok (.iconst 2, 1) := by decide +kernel
theorem dX7_init_92 : decode cX7_init 92 = .ok (.anewarray 46, 3) := by decide +kernel
theorem dX7_init_95 : decode cX7_init 95 = .ok (.putfield 48, 3) := by decide +kernel
theorem dX7_init_98 : decode cX7_init 98 = .ok (.iconst 0, 1) := by decide +kernel
theorem dX7_init_99 : decode cX7_init 99 = .ok (.istore_n 1, 1) := by decide +kernel
theorem dX7_init_100 : decode cX7_init 100 = .ok (.iload_n 1, 1) := by decide +kernel
theorem dX7_init_101 : decode cX7_init 101 = .ok (.iconst 2, 1) := by decide +kernel
theorem dX7_init_102 : decode cX7_init 102 = .ok (.if_icmp .ge 22, 3) := by decide +kernel
theorem dX7_init_105 : decode cX7_init 105 = .ok (.aload_n 0, 1) := by decide +kernel
theorem dX7_init_106 : decode cX7_init 106 = .ok (.getfield 48, 3) := by decide +kernel
theorem dX7_init_109 : decode cX7_init 109 = .ok (.iload_n 1, 1) := by decide +kernel
theorem dX7_init_110 : decode cX7_init 110 = .ok (.new 46, 3) := by decide +kernel
theorem dX7_init_113 : decode cX7_init 113 = .ok (.dup, 1) := by decide +kernel
theorem dX7_init_114 : decode cX7_init 114 = .ok (.invokespecial 52, 3) := by decide +kernel
theorem dX7_init_117 : decode cX7_init 117 = .ok (.aastore, 1) := by decide +kernel
theorem dX7_init_118 : decode cX7_init 118 = .ok (.iinc 1 1, 3) := by decide +kernel
theorem dX7_init_121 : decode cX7_init 121 = .ok (.goto (-21), 3) := by decide +kernel
theorem dX7_init_124 : decode cX7_init 124 = .ok (.aload_n 0, 1) := by decide +kernel
theorem dX7_init_125 : decode cX7_init 125 = .ok (.bipush 9, 2) := by decide +kernel
theorem dX7_init_127 : decode cX7_init 127 = .ok (.newarray .int, 2) := by decide +kernel
theorem dX7_init_129 : decode cX7_init 129 = .ok (.putfield 53, 3) := by decide +kernel
theorem dX7_init_132 : decode cX7_init 132 = .ok (.aload_n 0, 1) := by decide +kernel
theorem dX7_init_133 : decode cX7_init 133 = .ok (.bipush 9, 2) := by decide +kernel
theorem dX7_init_135 : decode cX7_init 135 = .ok (.newarray .int, 2) := by decide +kernel
theorem dX7_init_137 : decode cX7_init 137 = .ok (.putfield 57, 3) := by decide +kernel
theorem dX7_init_140 : decode cX7_init 140 = .ok (.aload_n 0, 1) := by decide +kernel
theorem dX7_init_141 : decode cX7_init 141 = .ok (.bipush 9, 2) := by decide +kernel
theorem dX7_init_143 : decode cX7_init 143 = .ok (.newarray .int, 2) := by decide +kernel
theorem dX7_init_145 : decode cX7_init 145 = .ok (.putfield 60, 3) := by decide +kernel
theorem dX7_init_148 : decode cX7_init 148 = .ok (.aload_n 0, 1) := by decide +kernel
theorem dX7_init_149 : decode cX7_init 149 = .ok (.bipush 9, 2) := by decide +kernel
theorem dX7_init_151 : decode cX7_init 151 = .ok (.newarray .int, 2) := by decide +kernel
theorem dX7_init_153 : decode cX7_init 153 = .ok (.putfield 63, 3) := by decide +kernel
theorem dX7_init_156 : decode cX7_init 156 = .ok (.return_, 1) := by decide +kernel
theorem dX7_write_0 : decode cX7_write 0 = .ok (.iload_n 1, 1) := by decide +kernel
theorem dX7_write_1 : decode cX7_write 1 = .ok (.ifCond .lt 10, 3) := by decide +kernel
theorem dX7_write_4 : decode cX7_write 4 = .ok (.iload_n 1, 1) := by decide +kernel
theorem dX7_write_5 : decode cX7_write 5 = .ok (.sipush 256, 3) := by decide +kernel
theorem dX7_write_8 : decode cX7_write 8 = .ok (.if_icmp .lt 6, 3) := by decide +kernel
theorem dX7_write_11 : decode cX7_write 11 = .ok (.bipush (-3), 2) := by decide +kernel
theorem dX7_write_13 : decode cX7_write 13 = .ok (.ireturn, 1) := by decide +kernel
theorem dX7_write_14 : decode cX7_write 14 = .ok (.aload_n 0, 1) := by decide +kernel
theorem dX7_write_15 : decode cX7_write 15 = .ok (.getfield 19, 3) := by decide +kernel
theorem dX7_write_18 : decode cX7_write 18 = .ok (.iload_n 1, 1) := by decide +kernel
theorem dX7_write_19 : decode cX7_write 19 = .ok (.invokevirtual 66, 3) := by decide +kernel
theorem dX7_write_22 : decode cX7_write 22 = .ok (.ifCond .eq 13, 3) := by decide +kernel
theorem dX7_write_25 : decode cX7_write 25 = .ok (.aload_n 0, 1) := by decide +kernel
theorem dX7_write_26 : decode cX7_write 26 = .ok (.getfield 19, 3) := by decide +kernel
theorem dX7_write_29 : decode cX7_write 29 = .ok (.getfield 70, 3) := by decide +kernel
theorem dX7_write_32 : decode cX7_write 32 = .ok (.goto 5, 3) := by decide +kernel
theorem dX7_write_35 : decode cX7_write 35 = .ok (.bipush (-5), 2) := by decide +kernel
theorem dX7_write_37 : decode cX7_write 37 = .ok (.ireturn, 1) := by decide +kernel
theorem dX7_erase_0 : decode cX7_erase 0 = .ok (.aload_n 0, 1) := by decide +kernel
theorem dX7_erase_1 : decode cX7_erase 1 = .ok (.getfield 19, 3) := by decide +kernel
theorem dX7_erase_4 : decode cX7_erase 4 = .ok (.getfield 70, 3) := by decide +kernel
theorem dX7_erase_7 : decode cX7_erase 7 = .ok (.istore_n 1, 1) := by decide +kernel
theorem dX7_erase_8 : decode cX7_erase 8 = .ok (.aload_n 0, 1) := by decide +kernel
theorem dX7_erase_9 : decode cX7_erase 9 = .ok (.getfield 19, 3) := by decide +kernel
theorem dX7_erase_12 : decode cX7_erase 12 = .ok (.invokevirtual 74, 3) := by decide +kernel
theorem dX7_erase_15 : decode cX7_erase 15 = .ok (.iload_n 1, 1) := by decide +kernel
theorem dX7_erase_16 : decode cX7_erase 16 = .ok (.ireturn, 1) := by decide +kernel
theorem dX7_fault_0 : decode cX7_fault 0 = .ok (.aload_n 0, 1) := by decide +kernel
theorem dX7_fault_1 : decode cX7_fault 1 = .ok (.getfield 19, 3) := by decide +kernel
theorem dX7_fault_4 : decode cX7_fault 4 = .ok (.invokevirtual 77, 3) := by decide +kernel
theorem dX7_fault_7 : decode cX7_fault 7 = .ok (.ireturn, 1) := by decide +kernel
theorem dX7_read_0 : decode cX7_read 0 = .ok (.iload_n 1, 1) := by decide +kernel
theorem dX7_read_1 : decode cX7_read 1 = .ok (.invokestatic 81, 3) := by decide +kernel
theorem dX7_read_4 : decode cX7_read 4 = .ok (.ifCond .ne 6, 3) := by decide +kernel
theorem dX7_read_7 : decode cX7_read 7 = .ok (.bipush (-2), 2) := by decide +kernel
theorem dX7_read_9 : decode cX7_read 9 = .ok (.ireturn, 1) := by decide +kernel
theorem dX7_read_10 : decode cX7_read 10 = .ok (.aload_n 0, 1) := by decide +kernel
theorem dX7_read_11 : decode cX7_read 11 = .ok (.getfield 19, 3) := by decide +kernel
theorem dX7_read_14 : decode cX7_read 14 = .ok (.invokevirtual 77, 3) := by decide +kernel
theorem dX7_read_17 : decode cX7_read 17 = .ok (.iconst (-1), 1) := by decide +kernel
theorem dX7_read_18 : decode cX7_read 18 = .ok (.if_icmp .eq 6, 3) := by decide +kernel
theorem dX7_read_21 : decode cX7_read 21 = .ok (.bipush (-4), 2) := by decide +kernel
theorem dX7_read_23 : decode cX7_read 23 = .ok (.ireturn, 1) := by decide +kernel
theorem dX7_read_24 : decode cX7_read 24 = .ok (.aload_n 0, 1) := by decide +kernel
theorem dX7_read_25 : decode cX7_read 25 = .ok (.getfield 28, 3) := by decide +kernel
theorem dX7_read_28 : decode cX7_read 28 = .ok (.aload_n 0, 1) := by decide +kernel
theorem dX7_read_29 : decode cX7_read 29 = .ok (.getfield 19, 3) := by decide +kernel
theorem dX7_read_32 : decode cX7_read 32 = .ok (.invokevirtual 84, 3) := by decide +kernel
theorem dX7_read_35 : decode cX7_read 35 = .ok (.ifCond .ne 6, 3) := by decide +kernel
theorem dX7_read_38 : decode cX7_read 38 = .ok (.bipush (-6), 2) := by decide +kernel
theorem dX7_read_40 : decode cX7_read 40 = .ok (.ireturn, 1) := by decide +kernel
theorem dX7_read_41 : decode cX7_read 41 = .ok (.aload_n 0, 1) := by decide +kernel
theorem dX7_read_42 : decode cX7_read 42 = .ok (.getfield 19, 3) := by decide +kernel
theorem dX7_read_45 : decode cX7_read 45 = .ok (.invokevirtual 74, 3) := by decide +kernel
theorem dX7_read_48 : decode cX7_read 48 = .ok (.aload_n 0, 1) := by decide +kernel
theorem dX7_read_49 : decode cX7_read 49 = .ok (.getfield 34, 3) := by decide +kernel
theorem dX7_read_52 : decode cX7_read 52 = .ok (.iload_n 1, 1) := by decide +kernel
theorem dX7_read_53 : decode cX7_read 53 = .ok (.aaload, 1) := by decide +kernel
theorem dX7_read_54 : decode cX7_read 54 = .ok (.aload_n 0, 1) := by decide +kernel
theorem dX7_read_55 : decode cX7_read 55 = .ok (.getfield 28, 3) := by decide +kernel
theorem dX7_read_58 : decode cX7_read 58 = .ok (.invokevirtual 88, 3) := by decide +kernel
theorem dX7_read_61 : decode cX7_read 61 = .ok (.aload_n 0, 1) := by decide +kernel
theorem dX7_read_62 : decode cX7_read 62 = .ok (.getfield 28, 3) := by decide +kernel
theorem dX7_read_65 : decode cX7_read 65 = .ok (.invokevirtual 92, 3) := by decide +kernel
theorem dX7_read_68 : decode cX7_read 68 = .ok (.invokevirtual 95, 3) := by decide +kernel
theorem dX7_read_71 : decode cX7_read 71 = .ok (.ireturn, 1) := by decide +kernel
theorem dX7_compose_0 : decode cX7_compose 0 = .ok (.iload_n 1, 1) := by decide +kernel
theorem dX7_compose_1 : decode cX7_compose 1 = .ok (.invokestatic 81, 3) := by decide +kernel
theorem dX7_compose_4 : decode cX7_compose 4 = .ok (.ifCond .eq 17, 3) := by decide +kernel
theorem dX7_compose_7 : decode cX7_compose 7 = .ok (.iload_n 2, 1) := by decide +kernel
theorem dX7_compose_8 : decode cX7_compose 8 = .ok (.invokestatic 81, 3) := by decide +kernel
theorem dX7_compose_11 : decode cX7_compose 11 = .ok (.ifCond .eq 10, 3) := by decide +kernel
theorem dX7_compose_14 : decode cX7_compose 14 = .ok (.iload_n 3, 1) := by decide +kernel
theorem dX7_compose_15 : decode cX7_compose 15 = .ok (.invokestatic 81, 3) := by decide +kernel
theorem dX7_compose_18 : decode cX7_compose 18 = .ok (.ifCond .ne 6, 3) := by decide +kernel
theorem dX7_compose_21 : decode cX7_compose 21 = .ok (.bipush (-2), 2) := by decide +kernel
theorem dX7_compose_23 : decode cX7_compose 23 = .ok (.ireturn, 1) := by decide +kernel
theorem dX7_compose_24 : decode cX7_compose 24 = .ok (.aload_n 0, 1) := by decide +kernel
theorem dX7_compose_25 : decode cX7_compose 25 = .ok (.getfield 34, 3) := by decide +kernel
theorem dX7_compose_28 : decode cX7_compose 28 = .ok (.iload_n 2, 1) := by decide +kernel
theorem dX7_compose_29 : decode cX7_compose 29 = .ok (.aaload, 1) := by decide +kernel
theorem dX7_compose_30 : decode cX7_compose 30 = .ok (.astore 4, 2) := by decide +kernel
theorem dX7_compose_32 : decode cX7_compose 32 = .ok (.aload_n 0, 1) := by decide +kernel
theorem dX7_compose_33 : decode cX7_compose 33 = .ok (.getfield 34, 3) := by decide +kernel
theorem dX7_compose_36 : decode cX7_compose 36 = .ok (.iload_n 3, 1) := by decide +kernel
theorem dX7_compose_37 : decode cX7_compose 37 = .ok (.aaload, 1) := by decide +kernel
theorem dX7_compose_38 : decode cX7_compose 38 = .ok (.astore 5, 2) := by decide +kernel
theorem dX7_compose_40 : decode cX7_compose 40 = .ok (.aload_n 0, 1) := by decide +kernel
theorem dX7_compose_41 : decode cX7_compose 41 = .ok (.getfield 12, 3) := by decide +kernel
theorem dX7_compose_44 : decode cX7_compose 44 = .ok (.aload_n 0, 1) := by decide +kernel
theorem dX7_compose_45 : decode cX7_compose 45 = .ok (.getfield 53, 3) := by decide +kernel
theorem dX7_compose_48 : decode cX7_compose 48 = .ok (.aload 4, 2) := by decide +kernel
theorem dX7_compose_50 : decode cX7_compose 50 = .ok (.getfield 99, 3) := by decide +kernel
theorem dX7_compose_53 : decode cX7_compose 53 = .ok (.aload 5, 2) := by decide +kernel
theorem dX7_compose_55 : decode cX7_compose 55 = .ok (.getfield 102, 3) := by decide +kernel
theorem dX7_compose_58 : decode cX7_compose 58 = .ok (.invokevirtual 105, 3) := by decide +kernel
theorem dX7_compose_61 : decode cX7_compose 61 = .ok (.aload_n 0, 1) := by decide +kernel
theorem dX7_compose_62 : decode cX7_compose 62 = .ok (.getfield 12, 3) := by decide +kernel
theorem dX7_compose_65 : decode cX7_compose 65 = .ok (.aload_n 0, 1) := by decide +kernel
theorem dX7_compose_66 : decode cX7_compose 66 = .ok (.getfield 53, 3) := by decide +kernel
theorem dX7_compose_69 : decode cX7_compose 69 = .ok (.aload_n 0, 1) := by decide +kernel
theorem dX7_compose_70 : decode cX7_compose 70 = .ok (.getfield 53, 3) := by decide +kernel
theorem dX7_compose_73 : decode cX7_compose 73 = .ok (.aload 5, 2) := by decide +kernel
theorem dX7_compose_75 : decode cX7_compose 75 = .ok (.getfield 99, 3) := by decide +kernel
theorem dX7_compose_78 : decode cX7_compose 78 = .ok (.invokevirtual 109, 3) := by decide +kernel
theorem dX7_compose_81 : decode cX7_compose 81 = .ok (.aload_n 0, 1) := by decide +kernel
theorem dX7_compose_82 : decode cX7_compose 82 = .ok (.getfield 12, 3) := by decide +kernel
theorem dX7_compose_85 : decode cX7_compose 85 = .ok (.aload_n 0, 1) := by decide +kernel
theorem dX7_compose_86 : decode cX7_compose 86 = .ok (.getfield 57, 3) := by decide +kernel
theorem dX7_compose_89 : decode cX7_compose 89 = .ok (.aload 4, 2) := by decide +kernel
theorem dX7_compose_91 : decode cX7_compose 91 = .ok (.getfield 102, 3) := by decide +kernel
theorem dX7_compose_94 : decode cX7_compose 94 = .ok (.aload 5, 2) := by decide +kernel
theorem dX7_compose_96 : decode cX7_compose 96 = .ok (.getfield 102, 3) := by decide +kernel
theorem dX7_compose_99 : decode cX7_compose 99 = .ok (.invokevirtual 105, 3) := by decide +kernel
theorem dX7_compose_102 : decode cX7_compose 102 = .ok (.aload_n 0, 1) := by decide +kernel
theorem dX7_compose_103 : decode cX7_compose 103 = .ok (.getfield 34, 3) := by decide +kernel
theorem dX7_compose_106 : decode cX7_compose 106 = .ok (.iload_n 1, 1) := by decide +kernel
theorem dX7_compose_107 : decode cX7_compose 107 = .ok (.aaload, 1) := by decide +kernel
theorem dX7_compose_108 : decode cX7_compose 108 = .ok (.aload_n 0, 1) := by decide +kernel
theorem dX7_compose_109 : decode cX7_compose 109 = .ok (.getfield 53, 3) := by decide +kernel
theorem dX7_compose_112 : decode cX7_compose 112 = .ok (.aload_n 0, 1) := by decide +kernel
theorem dX7_compose_113 : decode cX7_compose 113 = .ok (.getfield 57, 3) := by decide +kernel
theorem dX7_compose_116 : decode cX7_compose 116 = .ok (.invokevirtual 95, 3) := by decide +kernel
theorem dX7_compose_119 : decode cX7_compose 119 = .ok (.ireturn, 1) := by decide +kernel
theorem dX7_invert_0 : decode cX7_invert 0 = .ok (.iload_n 1, 1) := by decide +kernel
theorem dX7_invert_1 : decode cX7_invert 1 = .ok (.invokestatic 81, 3) := by decide +kernel
theorem dX7_invert_4 : decode cX7_invert 4 = .ok (.ifCond .eq 10, 3) := by decide +kernel
theorem dX7_invert_7 : decode cX7_invert 7 = .ok (.iload_n 2, 1) := by decide +kernel
theorem dX7_invert_8 : decode cX7_invert 8 = .ok (.invokestatic 81, 3) := by decide +kernel
theorem dX7_invert_11 : decode cX7_invert 11 = .ok (.ifCond .ne 6, 3) := by decide +kernel
theorem dX7_invert_14 : decode cX7_invert 14 = .ok (.bipush (-2), 2) := by decide +kernel
theorem dX7_invert_16 : decode cX7_invert 16 = .ok (.ireturn, 1) := by decide +kernel
theorem dX7_invert_17 : decode cX7_invert 17 = .ok (.aload_n 0, 1) := by decide +kernel
theorem dX7_invert_18 : decode cX7_invert 18 = .ok (.getfield 34, 3) := by decide +kernel
theorem dX7_invert_21 : decode cX7_invert 21 = .ok (.iload_n 2, 1) := by decide +kernel
theorem dX7_invert_22 : decode cX7_invert 22 = .ok (.aaload, 1) := by decide +kernel
theorem dX7_invert_23 : decode cX7_invert 23 = .ok (.astore_n 3, 1) := by decide +kernel
theorem dX7_invert_24 : decode cX7_invert 24 = .ok (.aload_n 0, 1) := by decide +kernel
theorem dX7_invert_25 : decode cX7_invert 25 = .ok (.getfield 12, 3) := by decide +kernel
theorem dX7_invert_28 : decode cX7_invert 28 = .ok (.aload_n 0, 1) := by decide +kernel
theorem dX7_invert_29 : decode cX7_invert 29 = .ok (.getfield 60, 3) := by decide +kernel
theorem dX7_invert_32 : decode cX7_invert 32 = .ok (.aload_n 3, 1) := by decide +kernel
theorem dX7_invert_33 : decode cX7_invert 33 = .ok (.getfield 99, 3) := by decide +kernel
theorem dX7_invert_36 : decode cX7_invert 36 = .ok (.aload_n 3, 1) := by decide +kernel
theorem dX7_invert_37 : decode cX7_invert 37 = .ok (.getfield 112, 3) := by decide +kernel
theorem dX7_invert_40 : decode cX7_invert 40 = .ok (.invokevirtual 105, 3) := by decide +kernel
theorem dX7_invert_43 : decode cX7_invert 43 = .ok (.aload_n 0, 1) := by decide +kernel
theorem dX7_invert_44 : decode cX7_invert 44 = .ok (.getfield 12, 3) := by decide +kernel
theorem dX7_invert_47 : decode cX7_invert 47 = .ok (.aload_n 0, 1) := by decide +kernel
theorem dX7_invert_48 : decode cX7_invert 48 = .ok (.getfield 53, 3) := by decide +kernel
theorem dX7_invert_51 : decode cX7_invert 51 = .ok (.aload_n 0, 1) := by decide +kernel
theorem dX7_invert_52 : decode cX7_invert 52 = .ok (.getfield 60, 3) := by decide +kernel
theorem dX7_invert_55 : decode cX7_invert 55 = .ok (.invokevirtual 115, 3) := by decide +kernel
theorem dX7_invert_58 : decode cX7_invert 58 = .ok (.aload_n 3, 1) := by decide +kernel
theorem dX7_invert_59 : decode cX7_invert 59 = .ok (.getfield 112, 3) := by decide +kernel
theorem dX7_invert_62 : decode cX7_invert 62 = .ok (.aload_n 0, 1) := by decide +kernel
theorem dX7_invert_63 : decode cX7_invert 63 = .ok (.getfield 57, 3) := by decide +kernel
theorem dX7_invert_66 : decode cX7_invert 66 = .ok (.invokestatic 119, 3) := by decide +kernel
theorem dX7_invert_69 : decode cX7_invert 69 = .ok (.aload_n 0, 1) := by decide +kernel
theorem dX7_invert_70 : decode cX7_invert 70 = .ok (.getfield 34, 3) := by decide +kernel
theorem dX7_invert_73 : decode cX7_invert 73 = .ok (.iload_n 1, 1) := by decide +kernel
theorem dX7_invert_74 : decode cX7_invert 74 = .ok (.aaload, 1) := by decide +kernel
theorem dX7_invert_75 : decode cX7_invert 75 = .ok (.aload_n 0, 1) := by decide +kernel
theorem dX7_invert_76 : decode cX7_invert 76 = .ok (.getfield 53, 3) := by decide +kernel
theorem dX7_invert_79 : decode cX7_invert 79 = .ok (.aload_n 0, 1) := by decide +kernel
theorem dX7_invert_80 : decode cX7_invert 80 = .ok (.getfield 57, 3) := by decide +kernel
theorem dX7_invert_83 : decode cX7_invert 83 = .ok (.invokevirtual 95, 3) := by decide +kernel
theorem dX7_invert_86 : decode cX7_invert 86 = .ok (.ireturn, 1) := by decide +kernel
theorem dX7_part_0 : decode cX7_part 0 = .ok (.iload_n 1, 1) := by decide +kernel
theorem dX7_part_1 : decode cX7_part 1 = .ok (.invokestatic 81, 3) := by decide +kernel
theorem dX7_part_4 : decode cX7_part 4 = .ok (.ifCond .eq 10, 3) := by decide +kernel
theorem dX7_part_7 : decode cX7_part 7 = .ok (.iload_n 2, 1) := by decide +kernel
theorem dX7_part_8 : decode cX7_part 8 = .ok (.invokestatic 81, 3) := by decide +kernel
theorem dX7_part_11 : decode cX7_part 11 = .ok (.ifCond .ne 6, 3) := by decide +kernel
theorem dX7_part_14 : decode cX7_part 14 = .ok (.bipush (-2), 2) := by decide +kernel
theorem dX7_part_16 : decode cX7_part 16 = .ok (.ireturn, 1) := by decide +kernel
theorem dX7_part_17 : decode cX7_part 17 = .ok (.iload_n 3, 1) := by decide +kernel
theorem dX7_part_18 : decode cX7_part 18 = .ok (.ifCond .eq 11, 3) := by decide +kernel
theorem dX7_part_21 : decode cX7_part 21 = .ok (.iload_n 3, 1) := by decide +kernel
theorem dX7_part_22 : decode cX7_part 22 = .ok (.iconst 1, 1) := by decide +kernel
theorem dX7_part_23 : decode cX7_part 23 = .ok (.if_icmp .eq 6, 3) := by decide +kernel
theorem dX7_part_26 : decode cX7_part 26 = .ok (.bipush (-3), 2) := by decide +kernel
theorem dX7_part_28 : decode cX7_part 28 = .ok (.ireturn, 1) := by decide +kernel
theorem dX7_part_29 : decode cX7_part 29 = .ok (.aload_n 0, 1) := by decide +kernel
theorem dX7_part_30 : decode cX7_part 30 = .ok (.getfield 34, 3) := by decide +kernel
theorem dX7_part_33 : decode cX7_part 33 = .ok (.iload_n 2, 1) := by decide +kernel
theorem dX7_part_34 : decode cX7_part 34 = .ok (.aaload, 1) := by decide +kernel
theorem dX7_part_35 : decode cX7_part 35 = .ok (.getfield 99, 3) := by decide +kernel
theorem dX7_part_38 : decode cX7_part 38 = .ok (.aload_n 0, 1) := by decide +kernel
theorem dX7_part_39 : decode cX7_part 39 = .ok (.getfield 53, 3) := by decide +kernel
theorem dX7_part_42 : decode cX7_part 42 = .ok (.invokestatic 119, 3) := by decide +kernel
theorem dX7_part_45 : decode cX7_part 45 = .ok (.aload_n 0, 1) := by decide +kernel
theorem dX7_part_46 : decode cX7_part 46 = .ok (.getfield 34, 3) := by decide +kernel
theorem dX7_part_49 : decode cX7_part 49 = .ok (.iload_n 2, 1) := by decide +kernel
theorem dX7_part_50 : decode cX7_part 50 = .ok (.aaload, 1) := by decide +kernel
theorem dX7_part_51 : decode cX7_part 51 = .ok (.getfield 102, 3) := by decide +kernel
theorem dX7_part_54 : decode cX7_part 54 = .ok (.aload_n 0, 1) := by decide +kernel
theorem dX7_part_55 : decode cX7_part 55 = .ok (.getfield 57, 3) := by decide +kernel
theorem dX7_part_58 : decode cX7_part 58 = .ok (.invokestatic 119, 3) := by decide +kernel
theorem dX7_part_61 : decode cX7_part 61 = .ok (.iload_n 3, 1) := by decide +kernel
theorem dX7_part_62 : decode cX7_part 62 = .ok (.ifCond .ne 15, 3) := by decide +kernel
theorem dX7_part_65 : decode cX7_part 65 = .ok (.aload_n 0, 1) := by decide +kernel
theorem dX7_part_66 : decode cX7_part 66 = .ok (.getfield 53, 3) := by decide +kernel
theorem dX7_part_69 : decode cX7_part 69 = .ok (.iconst 0, 1) := by decide +kernel
theorem dX7_part_70 : decode cX7_part 70 = .ok (.iconst 1, 1) := by decide +kernel
theorem dX7_part_71 : decode cX7_part 71 = .ok (.invokestatic 122, 3) := by decide +kernel
theorem dX7_part_74 : decode cX7_part 74 = .ok (.goto 12, 3) := by decide +kernel
theorem dX7_part_77 : decode cX7_part 77 = .ok (.aload_n 0, 1) := by decide +kernel
theorem dX7_part_78 : decode cX7_part 78 = .ok (.getfield 57, 3) := by decide +kernel
theorem dX7_part_81 : decode cX7_part 81 = .ok (.iconst 1, 1) := by decide +kernel
theorem dX7_part_82 : decode cX7_part 82 = .ok (.iconst 1, 1) := by decide +kernel
theorem dX7_part_83 : decode cX7_part 83 = .ok (.invokestatic 122, 3) := by decide +kernel
theorem dX7_part_86 : decode cX7_part 86 = .ok (.aload_n 0, 1) := by decide +kernel
theorem dX7_part_87 : decode cX7_part 87 = .ok (.getfield 34, 3) := by decide +kernel
theorem dX7_part_90 : decode cX7_part 90 = .ok (.iload_n 1, 1) := by decide +kernel
theorem dX7_part_91 : decode cX7_part 91 = .ok (.aaload, 1) := by decide +kernel
theorem dX7_part_92 : decode cX7_part 92 = .ok (.aload_n 0, 1) := by decide +kernel
theorem dX7_part_93 : decode cX7_part 93 = .ok (.getfield 53, 3) := by decide +kernel
theorem dX7_part_96 : decode cX7_part 96 = .ok (.aload_n 0, 1) := by decide +kernel
theorem dX7_part_97 : decode cX7_part 97 = .ok (.getfield 57, 3) := by decide +kernel
theorem dX7_part_100 : decode cX7_part 100 = .ok (.invokevirtual 95, 3) := by decide +kernel
theorem dX7_part_103 : decode cX7_part 103 = .ok (.ireturn, 1) := by decide +kernel
theorem dX7_move_0 : decode cX7_move 0 = .ok (.iload_n 1, 1) := by decide +kernel
theorem dX7_move_1 : decode cX7_move 1 = .ok (.invokestatic 81, 3) := by decide +kernel
theorem dX7_move_4 : decode cX7_move 4 = .ok (.ifCond .eq 10, 3) := by decide +kernel
theorem dX7_move_7 : decode cX7_move 7 = .ok (.iload_n 2, 1) := by decide +kernel
theorem dX7_move_8 : decode cX7_move 8 = .ok (.invokestatic 81, 3) := by decide +kernel
theorem dX7_move_11 : decode cX7_move 11 = .ok (.ifCond .ne 6, 3) := by decide +kernel
theorem dX7_move_14 : decode cX7_move 14 = .ok (.bipush (-2), 2) := by decide +kernel
theorem dX7_move_16 : decode cX7_move 16 = .ok (.ireturn, 1) := by decide +kernel
theorem dX7_move_17 : decode cX7_move 17 = .ok (.iload_n 3, 1) := by decide +kernel
theorem dX7_move_18 : decode cX7_move 18 = .ok (.invokestatic 126, 3) := by decide +kernel
theorem dX7_move_21 : decode cX7_move 21 = .ok (.ifCond .ne 6, 3) := by decide +kernel
theorem dX7_move_24 : decode cX7_move 24 = .ok (.bipush (-3), 2) := by decide +kernel
theorem dX7_move_26 : decode cX7_move 26 = .ok (.ireturn, 1) := by decide +kernel
theorem dX7_move_27 : decode cX7_move 27 = .ok (.aload_n 0, 1) := by decide +kernel
theorem dX7_move_28 : decode cX7_move 28 = .ok (.getfield 12, 3) := by decide +kernel
theorem dX7_move_31 : decode cX7_move 31 = .ok (.aload_n 0, 1) := by decide +kernel
theorem dX7_move_32 : decode cX7_move 32 = .ok (.getfield 60, 3) := by decide +kernel
theorem dX7_move_35 : decode cX7_move 35 = .ok (.iconst 0, 1) := by decide +kernel
theorem dX7_move_36 : decode cX7_move 36 = .ok (.iload_n 3, 1) := by decide +kernel
theorem dX7_move_37 : decode cX7_move 37 = .ok (.invokestatic 131, 3) := by decide +kernel
theorem dX7_move_40 : decode cX7_move 40 = .ok (.invokevirtual 135, 3) := by decide +kernel
theorem dX7_move_43 : decode cX7_move 43 = .ok (.aload_n 0, 1) := by decide +kernel
theorem dX7_move_44 : decode cX7_move 44 = .ok (.getfield 12, 3) := by decide +kernel
theorem dX7_move_47 : decode cX7_move 47 = .ok (.aload_n 0, 1) := by decide +kernel
theorem dX7_move_48 : decode cX7_move 48 = .ok (.getfield 53, 3) := by decide +kernel
theorem dX7_move_51 : decode cX7_move 51 = .ok (.aload_n 0, 1) := by decide +kernel
theorem dX7_move_52 : decode cX7_move 52 = .ok (.getfield 34, 3) := by decide +kernel
theorem dX7_move_55 : decode cX7_move 55 = .ok (.iload_n 2, 1) := by decide +kernel
theorem dX7_move_56 : decode cX7_move 56 = .ok (.aaload, 1) := by decide +kernel
theorem dX7_move_57 : decode cX7_move 57 = .ok (.getfield 99, 3) := by decide +kernel
theorem dX7_move_60 : decode cX7_move 60 = .ok (.aload_n 0, 1) := by decide +kernel
theorem dX7_move_61 : decode cX7_move 61 = .ok (.getfield 60, 3) := by decide +kernel
theorem dX7_move_64 : decode cX7_move 64 = .ok (.invokevirtual 109, 3) := by decide +kernel
theorem dX7_move_67 : decode cX7_move 67 = .ok (.aload_n 0, 1) := by decide +kernel
theorem dX7_move_68 : decode cX7_move 68 = .ok (.getfield 34, 3) := by decide +kernel
theorem dX7_move_71 : decode cX7_move 71 = .ok (.iload_n 2, 1) := by decide +kernel
theorem dX7_move_72 : decode cX7_move 72 = .ok (.aaload, 1) := by decide +kernel
theorem dX7_move_73 : decode cX7_move 73 = .ok (.getfield 102, 3) := by decide +kernel
theorem dX7_move_76 : decode cX7_move 76 = .ok (.aload_n 0, 1) := by decide +kernel
theorem dX7_move_77 : decode cX7_move 77 = .ok (.getfield 57, 3) := by decide +kernel
theorem dX7_move_80 : decode cX7_move 80 = .ok (.invokestatic 119, 3) := by decide +kernel
theorem dX7_move_83 : decode cX7_move 83 = .ok (.aload_n 0, 1) := by decide +kernel
theorem dX7_move_84 : decode cX7_move 84 = .ok (.getfield 34, 3) := by decide +kernel
theorem dX7_move_87 : decode cX7_move 87 = .ok (.iload_n 1, 1) := by decide +kernel
theorem dX7_move_88 : decode cX7_move 88 = .ok (.aaload, 1) := by decide +kernel
theorem dX7_move_89 : decode cX7_move 89 = .ok (.aload_n 0, 1) := by decide +kernel
theorem dX7_move_90 : decode cX7_move 90 = .ok (.getfield 53, 3) := by decide +kernel
theorem dX7_move_93 : decode cX7_move 93 = .ok (.aload_n 0, 1) := by decide +kernel
theorem dX7_move_94 : decode cX7_move 94 = .ok (.getfield 57, 3) := by decide +kernel
theorem dX7_move_97 : decode cX7_move 97 = .ok (.invokevirtual 95, 3) := by decide +kernel
theorem dX7_move_100 : decode cX7_move 100 = .ok (.ireturn, 1) := by decide +kernel
theorem dX7_stretch_0 : decode cX7_stretch 0 = .ok (.iload_n 1, 1) := by decide +kernel
theorem dX7_stretch_1 : decode cX7_stretch 1 = .ok (.invokestatic 81, 3) := by decide +kernel
theorem dX7_stretch_4 : decode cX7_stretch 4 = .ok (.ifCond .eq 10, 3) := by decide +kernel
theorem dX7_stretch_7 : decode cX7_stretch 7 = .ok (.iload_n 2, 1) := by decide +kernel
theorem dX7_stretch_8 : decode cX7_stretch 8 = .ok (.invokestatic 81, 3) := by decide +kernel
theorem dX7_stretch_11 : decode cX7_stretch 11 = .ok (.ifCond .ne 6, 3) := by decide +kernel
theorem dX7_stretch_14 : decode cX7_stretch 14 = .ok (.bipush (-2), 2) := by decide +kernel
theorem dX7_stretch_16 : decode cX7_stretch 16 = .ok (.ireturn, 1) := by decide +kernel
theorem dX7_stretch_17 : decode cX7_stretch 17 = .ok (.iload_n 3, 1) := by decide +kernel
theorem dX7_stretch_18 : decode cX7_stretch 18 = .ok (.ifCond .eq 10, 3) := by decide +kernel
theorem dX7_stretch_21 : decode cX7_stretch 21 = .ok (.iload_n 3, 1) := by decide +kernel
theorem dX7_stretch_22 : decode cX7_stretch 22 = .ok (.invokestatic 126, 3) := by decide +kernel
theorem dX7_stretch_25 : decode cX7_stretch 25 = .ok (.ifCond .ne 6, 3) := by decide +kernel
theorem dX7_stretch_28 : decode cX7_stretch 28 = .ok (.bipush (-3), 2) := by decide +kernel
theorem dX7_stretch_30 : decode cX7_stretch 30 = .ok (.ireturn, 1) := by decide +kernel
theorem dX7_stretch_31 : decode cX7_stretch 31 = .ok (.aload_n 0, 1) := by decide +kernel
theorem dX7_stretch_32 : decode cX7_stretch 32 = .ok (.getfield 60, 3) := by decide +kernel
theorem dX7_stretch_35 : decode cX7_stretch 35 = .ok (.iconst 1, 1) := by decide +kernel
theorem dX7_stretch_36 : decode cX7_stretch 36 = .ok (.iload_n 3, 1) := by decide +kernel
theorem dX7_stretch_37 : decode cX7_stretch 37 = .ok (.invokestatic 139, 3) := by decide +kernel
theorem dX7_stretch_40 : decode cX7_stretch 40 = .ok (.invokestatic 122, 3) := by decide +kernel
theorem dX7_stretch_43 : decode cX7_stretch 43 = .ok (.aload_n 0, 1) := by decide +kernel
theorem dX7_stretch_44 : decode cX7_stretch 44 = .ok (.getfield 12, 3) := by decide +kernel
theorem dX7_stretch_47 : decode cX7_stretch 47 = .ok (.aload_n 0, 1) := by decide +kernel
theorem dX7_stretch_48 : decode cX7_stretch 48 = .ok (.getfield 53, 3) := by decide +kernel
theorem dX7_stretch_51 : decode cX7_stretch 51 = .ok (.aload_n 0, 1) := by decide +kernel
theorem dX7_stretch_52 : decode cX7_stretch 52 = .ok (.getfield 34, 3) := by decide +kernel
theorem dX7_stretch_55 : decode cX7_stretch 55 = .ok (.iload_n 2, 1) := by decide +kernel
theorem dX7_stretch_56 : decode cX7_stretch 56 = .ok (.aaload, 1) := by decide +kernel
theorem dX7_stretch_57 : decode cX7_stretch 57 = .ok (.getfield 99, 3) := by decide +kernel
theorem dX7_stretch_60 : decode cX7_stretch 60 = .ok (.aload_n 0, 1) := by decide +kernel
theorem dX7_stretch_61 : decode cX7_stretch 61 = .ok (.getfield 60, 3) := by decide +kernel
theorem dX7_stretch_64 : decode cX7_stretch 64 = .ok (.invokevirtual 105, 3) := by decide +kernel
theorem dX7_stretch_67 : decode cX7_stretch 67 = .ok (.aload_n 0, 1) := by decide +kernel
theorem dX7_stretch_68 : decode cX7_stretch 68 = .ok (.getfield 12, 3) := by decide +kernel
theorem dX7_stretch_71 : decode cX7_stretch 71 = .ok (.aload_n 0, 1) := by decide +kernel
theorem dX7_stretch_72 : decode cX7_stretch 72 = .ok (.getfield 57, 3) := by decide +kernel
theorem dX7_stretch_75 : decode cX7_stretch 75 = .ok (.aload_n 0, 1) := by decide +kernel
theorem dX7_stretch_76 : decode cX7_stretch 76 = .ok (.getfield 34, 3) := by decide +kernel
theorem dX7_stretch_79 : decode cX7_stretch 79 = .ok (.iload_n 2, 1) := by decide +kernel
theorem dX7_stretch_80 : decode cX7_stretch 80 = .ok (.aaload, 1) := by decide +kernel
theorem dX7_stretch_81 : decode cX7_stretch 81 = .ok (.getfield 102, 3) := by decide +kernel
theorem dX7_stretch_84 : decode cX7_stretch 84 = .ok (.aload_n 0, 1) := by decide +kernel
theorem dX7_stretch_85 : decode cX7_stretch 85 = .ok (.getfield 60, 3) := by decide +kernel
theorem dX7_stretch_88 : decode cX7_stretch 88 = .ok (.invokevirtual 105, 3) := by decide +kernel
theorem dX7_stretch_91 : decode cX7_stretch 91 = .ok (.aload_n 0, 1) := by decide +kernel
theorem dX7_stretch_92 : decode cX7_stretch 92 = .ok (.getfield 34, 3) := by decide +kernel
theorem dX7_stretch_95 : decode cX7_stretch 95 = .ok (.iload_n 1, 1) := by decide +kernel
theorem dX7_stretch_96 : decode cX7_stretch 96 = .ok (.aaload, 1) := by decide +kernel
theorem dX7_stretch_97 : decode cX7_stretch 97 = .ok (.aload_n 0, 1) := by decide +kernel
theorem dX7_stretch_98 : decode cX7_stretch 98 = .ok (.getfield 53, 3) := by decide +kernel
theorem dX7_stretch_101 : decode cX7_stretch 101 = .ok (.aload_n 0, 1) := by decide +kernel
theorem dX7_stretch_102 : decode cX7_stretch 102 = .ok (.getfield 57, 3) := by decide +kernel
theorem dX7_stretch_105 : decode cX7_stretch 105 = .ok (.invokevirtual 95, 3) := by decide +kernel
theorem dX7_stretch_108 : decode cX7_stretch 108 = .ok (.ireturn, 1) := by decide +kernel
theorem dX7_series_0 : decode cX7_series 0 = .ok (.iload_n 1, 1) := by decide +kernel
theorem dX7_series_1 : decode cX7_series 1 = .ok (.invokestatic 81, 3) := by decide +kernel
theorem dX7_series_4 : decode cX7_series 4 = .ok (.ifCond .ne 6, 3) := by decide +kernel
theorem dX7_series_7 : decode cX7_series 7 = .ok (.bipush (-2), 2) := by decide +kernel
theorem dX7_series_9 : decode cX7_series 9 = .ok (.ireturn, 1) := by decide +kernel
theorem dX7_series_10 : decode cX7_series 10 = .ok (.iload_n 2, 1) := by decide +kernel
theorem dX7_series_11 : decode cX7_series 11 = .ok (.ifCond .lt 15, 3) := by decide +kernel
theorem dX7_series_14 : decode cX7_series 14 = .ok (.iload_n 2, 1) := by decide +kernel
theorem dX7_series_15 : decode cX7_series 15 = .ok (.iconst 3, 1) := by decide +kernel
theorem dX7_series_16 : decode cX7_series 16 = .ok (.if_icmp .gt 10, 3) := by decide +kernel
theorem dX7_series_19 : decode cX7_series 19 = .ok (.iload_n 3, 1) := by decide +kernel
theorem dX7_series_20 : decode cX7_series 20 = .ok (.invokestatic 143, 3) := by decide +kernel
theorem dX7_series_23 : decode cX7_series 23 = .ok (.ifCond .ne 6, 3) := by decide +kernel
theorem dX7_series_26 : decode cX7_series 26 = .ok (.bipush (-3), 2) := by decide +kernel
theorem dX7_series_28 : decode cX7_series 28 = .ok (.ireturn, 1) := by decide +kernel
theorem dX7_series_29 : decode cX7_series 29 = .ok (.aload_n 0, 1) := by decide +kernel
theorem dX7_series_30 : decode cX7_series 30 = .ok (.getfield 34, 3) := by decide +kernel
theorem dX7_series_33 : decode cX7_series 33 = .ok (.iload_n 1, 1) := by decide +kernel
theorem dX7_series_34 : decode cX7_series 34 = .ok (.aaload, 1) := by decide +kernel
theorem dX7_series_35 : decode cX7_series 35 = .ok (.iload_n 2, 1) := by decide +kernel
theorem dX7_series_36 : decode cX7_series 36 = .ok (.invokevirtual 146, 3) := by decide +kernel
theorem dX7_series_39 : decode cX7_series 39 = .ok (.iload_n 3, 1) := by decide +kernel
theorem dX7_series_40 : decode cX7_series 40 = .ok (.iaload, 1) := by decide +kernel
theorem dX7_series_41 : decode cX7_series 41 = .ok (.ireturn, 1) := by decide +kernel
theorem dX7_polynomial_0 : decode cX7_polynomial 0 = .ok (.iload_n 1, 1) := by decide +kernel
theorem dX7_polynomial_1 : decode cX7_polynomial 1 = .ok (.invokestatic 81, 3) := by decide +kernel
theorem dX7_polynomial_4 : decode cX7_polynomial 4 = .ok (.ifCond .ne 6, 3) := by decide +kernel
theorem dX7_polynomial_7 : decode cX7_polynomial 7 = .ok (.bipush (-2), 2) := by decide +kernel
theorem dX7_polynomial_9 : decode cX7_polynomial 9 = .ok (.ireturn, 1) := by decide +kernel
theorem dX7_polynomial_10 : decode cX7_polynomial 10 = .ok (.iload_n 2, 1) := by decide +kernel
theorem dX7_polynomial_11 : decode cX7_polynomial 11 = .ok (.invokestatic 143, 3) := by decide +kernel
theorem dX7_polynomial_14 : decode cX7_polynomial 14 = .ok (.ifCond .eq 10, 3) := by decide +kernel
theorem dX7_polynomial_17 : decode cX7_polynomial 17 = .ok (.iload_n 3, 1) := by decide +kernel
theorem dX7_polynomial_18 : decode cX7_polynomial 18 = .ok (.invokestatic 143, 3) := by decide +kernel
theorem dX7_polynomial_21 : decode cX7_polynomial 21 = .ok (.ifCond .ne 6, 3) := by decide +kernel
theorem dX7_polynomial_24 : decode cX7_polynomial 24 = .ok (.bipush (-3), 2) := by decide +kernel
theorem dX7_polynomial_26 : decode cX7_polynomial 26 = .ok (.ireturn, 1) := by decide +kernel
theorem dX7_polynomial_27 : decode cX7_polynomial 27 = .ok (.aload_n 0, 1) := by decide +kernel
theorem dX7_polynomial_28 : decode cX7_polynomial 28 = .ok (.getfield 34, 3) := by decide +kernel
theorem dX7_polynomial_31 : decode cX7_polynomial 31 = .ok (.iload_n 1, 1) := by decide +kernel
theorem dX7_polynomial_32 : decode cX7_polynomial 32 = .ok (.aaload, 1) := by decide +kernel
theorem dX7_polynomial_33 : decode cX7_polynomial 33 = .ok (.getfield 150, 3) := by decide +kernel
theorem dX7_polynomial_36 : decode cX7_polynomial 36 = .ok (.iload_n 2, 1) := by decide +kernel
theorem dX7_polynomial_37 : decode cX7_polynomial 37 = .ok (.aaload, 1) := by decide +kernel
theorem dX7_polynomial_38 : decode cX7_polynomial 38 = .ok (.iload_n 3, 1) := by decide +kernel
theorem dX7_polynomial_39 : decode cX7_polynomial 39 = .ok (.iaload, 1) := by decide +kernel
theorem dX7_polynomial_40 : decode cX7_polynomial 40 = .ok (.ireturn, 1) := by decide +kernel
theorem dX7_value_0 : decode cX7_value 0 = .ok (.iload_n 1, 1) := by decide +kernel
theorem dX7_value_1 : decode cX7_value 1 = .ok (.invokestatic 81, 3) := by decide +kernel
theorem dX7_value_4 : decode cX7_value 4 = .ok (.ifCond .ne 6, 3) := by decide +kernel
theorem dX7_value_7 : decode cX7_value 7 = .ok (.bipush (-2), 2) := by decide +kernel
theorem dX7_value_9 : decode cX7_value 9 = .ok (.ireturn, 1) := by decide +kernel
theorem dX7_value_10 : decode cX7_value 10 = .ok (.iload_n 2, 1) := by decide +kernel
theorem dX7_value_11 : decode cX7_value 11 = .ok (.invokestatic 143, 3) := by decide +kernel
theorem dX7_value_14 : decode cX7_value 14 = .ok (.ifCond .eq 10, 3) := by decide +kernel
theorem dX7_value_17 : decode cX7_value 17 = .ok (.iload_n 3, 1) := by decide +kernel
theorem dX7_value_18 : decode cX7_value 18 = .ok (.invokestatic 126, 3) := by decide +kernel
theorem dX7_value_21 : decode cX7_value 21 = .ok (.ifCond .ne 6, 3) := by decide +kernel
theorem dX7_value_24 : decode cX7_value 24 = .ok (.bipush (-3), 2) := by decide +kernel
theorem dX7_value_26 : decode cX7_value 26 = .ok (.ireturn, 1) := by decide +kernel
theorem dX7_value_27 : decode cX7_value 27 = .ok (.aload_n 0, 1) := by decide +kernel
theorem dX7_value_28 : decode cX7_value 28 = .ok (.getfield 34, 3) := by decide +kernel
theorem dX7_value_31 : decode cX7_value 31 = .ok (.iload_n 1, 1) := by decide +kernel
theorem dX7_value_32 : decode cX7_value 32 = .ok (.aaload, 1) := by decide +kernel
theorem dX7_value_33 : decode cX7_value 33 = .ok (.getfield 150, 3) := by decide +kernel
theorem dX7_value_36 : decode cX7_value 36 = .ok (.iload_n 2, 1) := by decide +kernel
theorem dX7_value_37 : decode cX7_value 37 = .ok (.aaload, 1) := by decide +kernel
theorem dX7_value_38 : decode cX7_value 38 = .ok (.iload_n 3, 1) := by decide +kernel
theorem dX7_value_39 : decode cX7_value 39 = .ok (.invokestatic 154, 3) := by decide +kernel
theorem dX7_value_42 : decode cX7_value 42 = .ok (.ireturn, 1) := by decide +kernel
theorem dX7_connect_0 : decode cX7_connect 0 = .ok (.iload_n 1, 1) := by decide +kernel
theorem dX7_connect_1 : decode cX7_connect 1 = .ok (.invokestatic 81, 3) := by decide +kernel
theorem dX7_connect_4 : decode cX7_connect 4 = .ok (.ifCond .eq 10, 3) := by decide +kernel
theorem dX7_connect_7 : decode cX7_connect 7 = .ok (.iload_n 2, 1) := by decide +kernel
theorem dX7_connect_8 : decode cX7_connect 8 = .ok (.invokestatic 81, 3) := by decide +kernel
theorem dX7_connect_11 : decode cX7_connect 11 = .ok (.ifCond .ne 6, 3) := by decide +kernel
theorem dX7_connect_14 : decode cX7_connect 14 = .ok (.bipush (-2), 2) := by decide +kernel
theorem dX7_connect_16 : decode cX7_connect 16 = .ok (.ireturn, 1) := by decide +kernel
theorem dX7_connect_17 : decode cX7_connect 17 = .ok (.iload_n 3, 1) := by decide +kernel
theorem dX7_connect_18 : decode cX7_connect 18 = .ok (.invokestatic 143, 3) := by decide +kernel
theorem dX7_connect_21 : decode cX7_connect 21 = .ok (.ifCond .eq 11, 3) := by decide +kernel
theorem dX7_connect_24 : decode cX7_connect 24 = .ok (.iload 4, 2) := by decide +kernel
theorem dX7_connect_26 : decode cX7_connect 26 = .ok (.invokestatic 143, 3) := by decide +kernel
theorem dX7_connect_29 : decode cX7_connect 29 = .ok (.ifCond .ne 6, 3) := by decide +kernel
theorem dX7_connect_32 : decode cX7_connect 32 = .ok (.bipush (-3), 2) := by decide +kernel
theorem dX7_connect_34 : decode cX7_connect 34 = .ok (.ireturn, 1) := by decide +kernel
theorem dX7_connect_35 : decode cX7_connect 35 = .ok (.aload_n 0, 1) := by decide +kernel
theorem dX7_connect_36 : decode cX7_connect 36 = .ok (.getfield 34, 3) := by decide +kernel
theorem dX7_connect_39 : decode cX7_connect 39 = .ok (.iload_n 2, 1) := by decide +kernel
theorem dX7_connect_40 : decode cX7_connect 40 = .ok (.aaload, 1) := by decide +kernel
theorem dX7_connect_41 : decode cX7_connect 41 = .ok (.aload_n 0, 1) := by decide +kernel
theorem dX7_connect_42 : decode cX7_connect 42 = .ok (.getfield 63, 3) := by decide +kernel
theorem dX7_connect_45 : decode cX7_connect 45 = .ok (.aload_n 0, 1) := by decide +kernel
theorem dX7_connect_46 : decode cX7_connect 46 = .ok (.getfield 34, 3) := by decide +kernel
theorem dX7_connect_49 : decode cX7_connect 49 = .ok (.iload_n 1, 1) := by decide +kernel
theorem dX7_connect_50 : decode cX7_connect 50 = .ok (.aaload, 1) := by decide +kernel
theorem dX7_connect_51 : decode cX7_connect 51 = .ok (.getfield 150, 3) := by decide +kernel
theorem dX7_connect_54 : decode cX7_connect 54 = .ok (.iload_n 3, 1) := by decide +kernel
theorem dX7_connect_55 : decode cX7_connect 55 = .ok (.aaload, 1) := by decide +kernel
theorem dX7_connect_56 : decode cX7_connect 56 = .ok (.invokevirtual 158, 3) := by decide +kernel
theorem dX7_connect_59 : decode cX7_connect 59 = .ok (.aload_n 0, 1) := by decide +kernel
theorem dX7_connect_60 : decode cX7_connect 60 = .ok (.getfield 63, 3) := by decide +kernel
theorem dX7_connect_63 : decode cX7_connect 63 = .ok (.iload 4, 2) := by decide +kernel
theorem dX7_connect_65 : decode cX7_connect 65 = .ok (.iaload, 1) := by decide +kernel
theorem dX7_connect_66 : decode cX7_connect 66 = .ok (.ireturn, 1) := by decide +kernel
theorem dX7_differ_0 : decode cX7_differ 0 = .ok (.iload_n 1, 1) := by decide +kernel
theorem dX7_differ_1 : decode cX7_differ 1 = .ok (.invokestatic 81, 3) := by decide +kernel
theorem dX7_differ_4 : decode cX7_differ 4 = .ok (.ifCond .eq 10, 3) := by decide +kernel
theorem dX7_differ_7 : decode cX7_differ 7 = .ok (.iload_n 2, 1) := by decide +kernel
theorem dX7_differ_8 : decode cX7_differ 8 = .ok (.invokestatic 81, 3) := by decide +kernel
theorem dX7_differ_11 : decode cX7_differ 11 = .ok (.ifCond .ne 6, 3) := by decide +kernel
theorem dX7_differ_14 : decode cX7_differ 14 = .ok (.bipush (-2), 2) := by decide +kernel
theorem dX7_differ_16 : decode cX7_differ 16 = .ok (.ireturn, 1) := by decide +kernel
theorem dX7_differ_17 : decode cX7_differ 17 = .ok (.iconst 0, 1) := by decide +kernel
theorem dX7_differ_18 : decode cX7_differ 18 = .ok (.istore_n 3, 1) := by decide +kernel
theorem dX7_differ_19 : decode cX7_differ 19 = .ok (.iload_n 3, 1) := by decide +kernel
theorem dX7_differ_20 : decode cX7_differ 20 = .ok (.bipush 9, 2) := by decide +kernel
theorem dX7_differ_22 : decode cX7_differ 22 = .ok (.if_icmp .ge 39, 3) := by decide +kernel
theorem dX7_differ_25 : decode cX7_differ 25 = .ok (.aload_n 0, 1) := by decide +kernel
theorem dX7_differ_26 : decode cX7_differ 26 = .ok (.getfield 34, 3) := by decide +kernel
theorem dX7_differ_29 : decode cX7_differ 29 = .ok (.iload_n 1, 1) := by decide +kernel
theorem dX7_differ_30 : decode cX7_differ 30 = .ok (.aaload, 1) := by decide +kernel
theorem dX7_differ_31 : decode cX7_differ 31 = .ok (.getfield 150, 3) := by decide +kernel
theorem dX7_differ_34 : decode cX7_differ 34 = .ok (.iload_n 3, 1) := by decide +kernel
theorem dX7_differ_35 : decode cX7_differ 35 = .ok (.aaload, 1) := by decide +kernel
theorem dX7_differ_36 : decode cX7_differ 36 = .ok (.aload_n 0, 1) := by decide +kernel
theorem dX7_differ_37 : decode cX7_differ 37 = .ok (.getfield 34, 3) := by decide +kernel
theorem dX7_differ_40 : decode cX7_differ 40 = .ok (.iload_n 2, 1) := by decide +kernel
theorem dX7_differ_41 : decode cX7_differ 41 = .ok (.aaload, 1) := by decide +kernel
theorem dX7_differ_42 : decode cX7_differ 42 = .ok (.getfield 150, 3) := by decide +kernel
theorem dX7_differ_45 : decode cX7_differ 45 = .ok (.iload_n 3, 1) := by decide +kernel
theorem dX7_differ_46 : decode cX7_differ 46 = .ok (.aaload, 1) := by decide +kernel
theorem dX7_differ_47 : decode cX7_differ 47 = .ok (.invokestatic 161, 3) := by decide +kernel
theorem dX7_differ_50 : decode cX7_differ 50 = .ok (.ifCond .ne 5, 3) := by decide +kernel
theorem dX7_differ_53 : decode cX7_differ 53 = .ok (.iload_n 3, 1) := by decide +kernel
theorem dX7_differ_54 : decode cX7_differ 54 = .ok (.ireturn, 1) := by decide +kernel
theorem dX7_differ_55 : decode cX7_differ 55 = .ok (.iinc 3 1, 3) := by decide +kernel
theorem dX7_differ_58 : decode cX7_differ 58 = .ok (.goto (-39), 3) := by decide +kernel
theorem dX7_differ_61 : decode cX7_differ 61 = .ok (.iconst (-1), 1) := by decide +kernel
theorem dX7_differ_62 : decode cX7_differ 62 = .ok (.ireturn, 1) := by decide +kernel
theorem dX7_take_0 : decode cX7_take 0 = .ok (.iload_n 1, 1) := by decide +kernel
theorem dX7_take_1 : decode cX7_take 1 = .ok (.invokestatic 81, 3) := by decide +kernel
theorem dX7_take_4 : decode cX7_take 4 = .ok (.ifCond .ne 6, 3) := by decide +kernel
theorem dX7_take_7 : decode cX7_take 7 = .ok (.bipush (-2), 2) := by decide +kernel
theorem dX7_take_9 : decode cX7_take 9 = .ok (.ireturn, 1) := by decide +kernel
theorem dX7_take_10 : decode cX7_take 10 = .ok (.iload_n 2, 1) := by decide +kernel
theorem dX7_take_11 : decode cX7_take 11 = .ok (.invokestatic 143, 3) := by decide +kernel
theorem dX7_take_14 : decode cX7_take 14 = .ok (.ifCond .ne 6, 3) := by decide +kernel
theorem dX7_take_17 : decode cX7_take 17 = .ok (.bipush (-3), 2) := by decide +kernel
theorem dX7_take_19 : decode cX7_take 19 = .ok (.ireturn, 1) := by decide +kernel
theorem dX7_take_20 : decode cX7_take 20 = .ok (.aload_n 0, 1) := by decide +kernel
theorem dX7_take_21 : decode cX7_take 21 = .ok (.getfield 42, 3) := by decide +kernel
theorem dX7_take_24 : decode cX7_take 24 = .ok (.invokevirtual 165, 3) := by decide +kernel
theorem dX7_take_27 : decode cX7_take 27 = .ok (.aload_n 0, 1) := by decide +kernel
theorem dX7_take_28 : decode cX7_take 28 = .ok (.getfield 34, 3) := by decide +kernel
theorem dX7_take_31 : decode cX7_take 31 = .ok (.iload_n 1, 1) := by decide +kernel
theorem dX7_take_32 : decode cX7_take 32 = .ok (.aaload, 1) := by decide +kernel
theorem dX7_take_33 : decode cX7_take 33 = .ok (.getfield 150, 3) := by decide +kernel
theorem dX7_take_36 : decode cX7_take 36 = .ok (.iload_n 2, 1) := by decide +kernel
theorem dX7_take_37 : decode cX7_take 37 = .ok (.aaload, 1) := by decide +kernel
theorem dX7_take_38 : decode cX7_take 38 = .ok (.aload_n 0, 1) := by decide +kernel
theorem dX7_take_39 : decode cX7_take 39 = .ok (.getfield 42, 3) := by decide +kernel
theorem dX7_take_42 : decode cX7_take 42 = .ok (.getfield 168, 3) := by decide +kernel
theorem dX7_take_45 : decode cX7_take 45 = .ok (.invokestatic 119, 3) := by decide +kernel
theorem dX7_take_48 : decode cX7_take 48 = .ok (.aload_n 0, 1) := by decide +kernel
theorem dX7_take_49 : decode cX7_take 49 = .ok (.getfield 42, 3) := by decide +kernel
theorem dX7_take_52 : decode cX7_take 52 = .ok (.getfield 168, 3) := by decide +kernel
theorem dX7_take_55 : decode cX7_take 55 = .ok (.iload_n 2, 1) := by decide +kernel
theorem dX7_take_56 : decode cX7_take 56 = .ok (.iaload, 1) := by decide +kernel
theorem dX7_take_57 : decode cX7_take 57 = .ok (.ireturn, 1) := by decide +kernel
theorem dX7_put_0 : decode cX7_put 0 = .ok (.iload_n 1, 1) := by decide +kernel
theorem dX7_put_1 : decode cX7_put 1 = .ok (.invokestatic 143, 3) := by decide +kernel
theorem dX7_put_4 : decode cX7_put 4 = .ok (.ifCond .eq 10, 3) := by decide +kernel
theorem dX7_put_7 : decode cX7_put 7 = .ok (.iload_n 2, 1) := by decide +kernel
theorem dX7_put_8 : decode cX7_put 8 = .ok (.invokestatic 126, 3) := by decide +kernel
theorem dX7_put_11 : decode cX7_put 11 = .ok (.ifCond .ne 6, 3) := by decide +kernel
theorem dX7_put_14 : decode cX7_put 14 = .ok (.bipush (-3), 2) := by decide +kernel
theorem dX7_put_16 : decode cX7_put 16 = .ok (.ireturn, 1) := by decide +kernel
theorem dX7_put_17 : decode cX7_put 17 = .ok (.aload_n 0, 1) := by decide +kernel
theorem dX7_put_18 : decode cX7_put 18 = .ok (.getfield 42, 3) := by decide +kernel
theorem dX7_put_21 : decode cX7_put 21 = .ok (.invokevirtual 165, 3) := by decide +kernel
theorem dX7_put_24 : decode cX7_put 24 = .ok (.aload_n 0, 1) := by decide +kernel
theorem dX7_put_25 : decode cX7_put 25 = .ok (.getfield 42, 3) := by decide +kernel
theorem dX7_put_28 : decode cX7_put 28 = .ok (.getfield 168, 3) := by decide +kernel
theorem dX7_put_31 : decode cX7_put 31 = .ok (.iload_n 1, 1) := by decide +kernel
theorem dX7_put_32 : decode cX7_put 32 = .ok (.iaload, 1) := by decide +kernel
theorem dX7_put_33 : decode cX7_put 33 = .ok (.istore_n 3, 1) := by decide +kernel
theorem dX7_put_34 : decode cX7_put 34 = .ok (.aload_n 0, 1) := by decide +kernel
theorem dX7_put_35 : decode cX7_put 35 = .ok (.getfield 42, 3) := by decide +kernel
theorem dX7_put_38 : decode cX7_put 38 = .ok (.getfield 168, 3) := by decide +kernel
theorem dX7_put_41 : decode cX7_put 41 = .ok (.iload_n 1, 1) := by decide +kernel
theorem dX7_put_42 : decode cX7_put 42 = .ok (.iload_n 2, 1) := by decide +kernel
theorem dX7_put_43 : decode cX7_put 43 = .ok (.iastore, 1) := by decide +kernel
theorem dX7_put_44 : decode cX7_put 44 = .ok (.iload_n 3, 1) := by decide +kernel
theorem dX7_put_45 : decode cX7_put 45 = .ok (.ireturn, 1) := by decide +kernel
theorem dX7_plus_0 : decode cX7_plus 0 = .ok (.iload_n 1, 1) := by decide +kernel
theorem dX7_plus_1 : decode cX7_plus 1 = .ok (.invokestatic 81, 3) := by decide +kernel
theorem dX7_plus_4 : decode cX7_plus 4 = .ok (.ifCond .ne 6, 3) := by decide +kernel
theorem dX7_plus_7 : decode cX7_plus 7 = .ok (.bipush (-2), 2) := by decide +kernel
theorem dX7_plus_9 : decode cX7_plus 9 = .ok (.ireturn, 1) := by decide +kernel
theorem dX7_plus_10 : decode cX7_plus 10 = .ok (.iload_n 2, 1) := by decide +kernel
theorem dX7_plus_11 : decode cX7_plus 11 = .ok (.invokestatic 143, 3) := by decide +kernel
theorem dX7_plus_14 : decode cX7_plus 14 = .ok (.ifCond .eq 10, 3) := by decide +kernel
theorem dX7_plus_17 : decode cX7_plus 17 = .ok (.iload_n 3, 1) := by decide +kernel
theorem dX7_plus_18 : decode cX7_plus 18 = .ok (.invokestatic 126, 3) := by decide +kernel
theorem dX7_plus_21 : decode cX7_plus 21 = .ok (.ifCond .ne 6, 3) := by decide +kernel
theorem dX7_plus_24 : decode cX7_plus 24 = .ok (.bipush (-3), 2) := by decide +kernel
theorem dX7_plus_26 : decode cX7_plus 26 = .ok (.ireturn, 1) := by decide +kernel
theorem dX7_plus_27 : decode cX7_plus 27 = .ok (.aload_n 0, 1) := by decide +kernel
theorem dX7_plus_28 : decode cX7_plus 28 = .ok (.getfield 42, 3) := by decide +kernel
theorem dX7_plus_31 : decode cX7_plus 31 = .ok (.invokevirtual 165, 3) := by decide +kernel
theorem dX7_plus_34 : decode cX7_plus 34 = .ok (.aload_n 0, 1) := by decide +kernel
theorem dX7_plus_35 : decode cX7_plus 35 = .ok (.getfield 42, 3) := by decide +kernel
theorem dX7_plus_38 : decode cX7_plus 38 = .ok (.getfield 168, 3) := by decide +kernel
theorem dX7_plus_41 : decode cX7_plus 41 = .ok (.aload_n 0, 1) := by decide +kernel
theorem dX7_plus_42 : decode cX7_plus 42 = .ok (.getfield 34, 3) := by decide +kernel
theorem dX7_plus_45 : decode cX7_plus 45 = .ok (.iload_n 1, 1) := by decide +kernel
theorem dX7_plus_46 : decode cX7_plus 46 = .ok (.aaload, 1) := by decide +kernel
theorem dX7_plus_47 : decode cX7_plus 47 = .ok (.getfield 150, 3) := by decide +kernel
theorem dX7_plus_50 : decode cX7_plus 50 = .ok (.iload_n 2, 1) := by decide +kernel
theorem dX7_plus_51 : decode cX7_plus 51 = .ok (.aaload, 1) := by decide +kernel
theorem dX7_plus_52 : decode cX7_plus 52 = .ok (.iload_n 3, 1) := by decide +kernel
theorem dX7_plus_53 : decode cX7_plus 53 = .ok (.invokestatic 171, 3) := by decide +kernel
theorem dX7_plus_56 : decode cX7_plus 56 = .ok (.aload_n 0, 1) := by decide +kernel
theorem dX7_plus_57 : decode cX7_plus 57 = .ok (.getfield 42, 3) := by decide +kernel
theorem dX7_plus_60 : decode cX7_plus 60 = .ok (.getfield 168, 3) := by decide +kernel
theorem dX7_plus_63 : decode cX7_plus 63 = .ok (.iconst 0, 1) := by decide +kernel
theorem dX7_plus_64 : decode cX7_plus 64 = .ok (.iaload, 1) := by decide +kernel
theorem dX7_plus_65 : decode cX7_plus 65 = .ok (.ireturn, 1) := by decide +kernel
theorem dX7_act_0 : decode cX7_act 0 = .ok (.iload_n 1, 1) := by decide +kernel
theorem dX7_act_1 : decode cX7_act 1 = .ok (.invokestatic 81, 3) := by decide +kernel
theorem dX7_act_4 : decode cX7_act 4 = .ok (.ifCond .ne 6, 3) := by decide +kernel
theorem dX7_act_7 : decode cX7_act 7 = .ok (.bipush (-2), 2) := by decide +kernel
theorem dX7_act_9 : decode cX7_act 9 = .ok (.ireturn, 1) := by decide +kernel
theorem dX7_act_10 : decode cX7_act 10 = .ok (.iload_n 2, 1) := by decide +kernel
theorem dX7_act_11 : decode cX7_act 11 = .ok (.ifCond .lt 8, 3) := by decide +kernel
theorem dX7_act_14 : decode cX7_act 14 = .ok (.iload_n 2, 1) := by decide +kernel
theorem dX7_act_15 : decode cX7_act 15 = .ok (.iconst 2, 1) := by decide +kernel
theorem dX7_act_16 : decode cX7_act 16 = .ok (.if_icmp .le 6, 3) := by decide +kernel
theorem dX7_act_19 : decode cX7_act 19 = .ok (.bipush (-3), 2) := by decide +kernel
theorem dX7_act_21 : decode cX7_act 21 = .ok (.ireturn, 1) := by decide +kernel
theorem dX7_act_22 : decode cX7_act 22 = .ok (.aload_n 0, 1) := by decide +kernel
theorem dX7_act_23 : decode cX7_act 23 = .ok (.getfield 42, 3) := by decide +kernel
theorem dX7_act_26 : decode cX7_act 26 = .ok (.invokevirtual 165, 3) := by decide +kernel
theorem dX7_act_29 : decode cX7_act 29 = .ok (.aload_n 0, 1) := by decide +kernel
theorem dX7_act_30 : decode cX7_act 30 = .ok (.getfield 12, 3) := by decide +kernel
theorem dX7_act_33 : decode cX7_act 33 = .ok (.aload_n 0, 1) := by decide +kernel
theorem dX7_act_34 : decode cX7_act 34 = .ok (.getfield 42, 3) := by decide +kernel
theorem dX7_act_37 : decode cX7_act 37 = .ok (.getfield 168, 3) := by decide +kernel
theorem dX7_act_40 : decode cX7_act 40 = .ok (.aload_n 0, 1) := by decide +kernel
theorem dX7_act_41 : decode cX7_act 41 = .ok (.getfield 34, 3) := by decide +kernel
theorem dX7_act_44 : decode cX7_act 44 = .ok (.iload_n 1, 1) := by decide +kernel
theorem dX7_act_45 : decode cX7_act 45 = .ok (.aaload, 1) := by decide +kernel
theorem dX7_act_46 : decode cX7_act 46 = .ok (.iload_n 2, 1) := by decide +kernel
theorem dX7_act_47 : decode cX7_act 47 = .ok (.invokevirtual 146, 3) := by decide +kernel
theorem dX7_act_50 : decode cX7_act 50 = .ok (.invokevirtual 175, 3) := by decide +kernel
theorem dX7_act_53 : decode cX7_act 53 = .ok (.aload_n 0, 1) := by decide +kernel
theorem dX7_act_54 : decode cX7_act 54 = .ok (.getfield 42, 3) := by decide +kernel
theorem dX7_act_57 : decode cX7_act 57 = .ok (.getfield 168, 3) := by decide +kernel
theorem dX7_act_60 : decode cX7_act 60 = .ok (.iconst 0, 1) := by decide +kernel
theorem dX7_act_61 : decode cX7_act 61 = .ok (.iaload, 1) := by decide +kernel
theorem dX7_act_62 : decode cX7_act 62 = .ok (.ireturn, 1) := by decide +kernel
theorem dX7_raise_0 : decode cX7_raise 0 = .ok (.iload_n 1, 1) := by decide +kernel
theorem dX7_raise_1 : decode cX7_raise 1 = .ok (.invokestatic 81, 3) := by decide +kernel
theorem dX7_raise_4 : decode cX7_raise 4 = .ok (.ifCond .ne 6, 3) := by decide +kernel
theorem dX7_raise_7 : decode cX7_raise 7 = .ok (.bipush (-2), 2) := by decide +kernel
theorem dX7_raise_9 : decode cX7_raise 9 = .ok (.ireturn, 1) := by decide +kernel
theorem dX7_raise_10 : decode cX7_raise 10 = .ok (.aload_n 0, 1) := by decide +kernel
theorem dX7_raise_11 : decode cX7_raise 11 = .ok (.getfield 42, 3) := by decide +kernel
theorem dX7_raise_14 : decode cX7_raise 14 = .ok (.invokevirtual 178, 3) := by decide +kernel
theorem dX7_raise_17 : decode cX7_raise 17 = .ok (.ifCond .eq 6, 3) := by decide +kernel
theorem dX7_raise_20 : decode cX7_raise 20 = .ok (.bipush (-4), 2) := by decide +kernel
theorem dX7_raise_22 : decode cX7_raise 22 = .ok (.ireturn, 1) := by decide +kernel
theorem dX7_raise_23 : decode cX7_raise 23 = .ok (.aload_n 0, 1) := by decide +kernel
theorem dX7_raise_24 : decode cX7_raise 24 = .ok (.getfield 42, 3) := by decide +kernel
theorem dX7_raise_27 : decode cX7_raise 27 = .ok (.invokevirtual 165, 3) := by decide +kernel
theorem dX7_raise_30 : decode cX7_raise 30 = .ok (.aload_n 0, 1) := by decide +kernel
theorem dX7_raise_31 : decode cX7_raise 31 = .ok (.getfield 12, 3) := by decide +kernel
theorem dX7_raise_34 : decode cX7_raise 34 = .ok (.aload_n 0, 1) := by decide +kernel
theorem dX7_raise_35 : decode cX7_raise 35 = .ok (.getfield 42, 3) := by decide +kernel
theorem dX7_raise_38 : decode cX7_raise 38 = .ok (.getfield 168, 3) := by decide +kernel
theorem dX7_raise_41 : decode cX7_raise 41 = .ok (.aload_n 0, 1) := by decide +kernel
theorem dX7_raise_42 : decode cX7_raise 42 = .ok (.getfield 34, 3) := by decide +kernel
theorem dX7_raise_45 : decode cX7_raise 45 = .ok (.iload_n 1, 1) := by decide +kernel
theorem dX7_raise_46 : decode cX7_raise 46 = .ok (.aaload, 1) := by decide +kernel
theorem dX7_raise_47 : decode cX7_raise 47 = .ok (.getfield 102, 3) := by decide +kernel
theorem dX7_raise_50 : decode cX7_raise 50 = .ok (.invokevirtual 182, 3) := by decide +kernel
theorem dX7_raise_53 : decode cX7_raise 53 = .ok (.aload_n 0, 1) := by decide +kernel
theorem dX7_raise_54 : decode cX7_raise 54 = .ok (.getfield 42, 3) := by decide +kernel
theorem dX7_raise_57 : decode cX7_raise 57 = .ok (.getfield 168, 3) := by decide +kernel
theorem dX7_raise_60 : decode cX7_raise 60 = .ok (.iconst 1, 1) := by decide +kernel
theorem dX7_raise_61 : decode cX7_raise 61 = .ok (.invokestatic 154, 3) := by decide +kernel
theorem dX7_raise_64 : decode cX7_raise 64 = .ok (.ireturn, 1) := by decide +kernel
theorem dX7_shift_0 : decode cX7_shift 0 = .ok (.iload_n 1, 1) := by decide +kernel
theorem dX7_shift_1 : decode cX7_shift 1 = .ok (.invokestatic 126, 3) := by decide +kernel
theorem dX7_shift_4 : decode cX7_shift 4 = .ok (.ifCond .ne 6, 3) := by decide +kernel
theorem dX7_shift_7 : decode cX7_shift 7 = .ok (.bipush (-3), 2) := by decide +kernel
theorem dX7_shift_9 : decode cX7_shift 9 = .ok (.ireturn, 1) := by decide +kernel
theorem dX7_shift_10 : decode cX7_shift 10 = .ok (.aload_n 0, 1) := by decide +kernel
theorem dX7_shift_11 : decode cX7_shift 11 = .ok (.getfield 42, 3) := by decide +kernel
theorem dX7_shift_14 : decode cX7_shift 14 = .ok (.invokevirtual 165, 3) := by decide +kernel
theorem dX7_shift_17 : decode cX7_shift 17 = .ok (.aload_n 0, 1) := by decide +kernel
theorem dX7_shift_18 : decode cX7_shift 18 = .ok (.getfield 12, 3) := by decide +kernel
theorem dX7_shift_21 : decode cX7_shift 21 = .ok (.aload_n 0, 1) := by decide +kernel
theorem dX7_shift_22 : decode cX7_shift 22 = .ok (.getfield 60, 3) := by decide +kernel
theorem dX7_shift_25 : decode cX7_shift 25 = .ok (.iload_n 1, 1) := by decide +kernel
theorem dX7_shift_26 : decode cX7_shift 26 = .ok (.invokevirtual 135, 3) := by decide +kernel
theorem dX7_shift_29 : decode cX7_shift 29 = .ok (.aload_n 0, 1) := by decide +kernel
theorem dX7_shift_30 : decode cX7_shift 30 = .ok (.getfield 12, 3) := by decide +kernel
theorem dX7_shift_33 : decode cX7_shift 33 = .ok (.aload_n 0, 1) := by decide +kernel
theorem dX7_shift_34 : decode cX7_shift 34 = .ok (.getfield 42, 3) := by decide +kernel
theorem dX7_shift_37 : decode cX7_shift 37 = .ok (.getfield 168, 3) := by decide +kernel
theorem dX7_shift_40 : decode cX7_shift 40 = .ok (.aload_n 0, 1) := by decide +kernel
theorem dX7_shift_41 : decode cX7_shift 41 = .ok (.getfield 60, 3) := by decide +kernel
theorem dX7_shift_44 : decode cX7_shift 44 = .ok (.invokevirtual 175, 3) := by decide +kernel
theorem dX7_shift_47 : decode cX7_shift 47 = .ok (.aload_n 0, 1) := by decide +kernel
theorem dX7_shift_48 : decode cX7_shift 48 = .ok (.getfield 42, 3) := by decide +kernel
theorem dX7_shift_51 : decode cX7_shift 51 = .ok (.getfield 168, 3) := by decide +kernel
theorem dX7_shift_54 : decode cX7_shift 54 = .ok (.iconst 0, 1) := by decide +kernel
theorem dX7_shift_55 : decode cX7_shift 55 = .ok (.iaload, 1) := by decide +kernel
theorem dX7_shift_56 : decode cX7_shift 56 = .ok (.ireturn, 1) := by decide +kernel
theorem dX7_times_0 : decode cX7_times 0 = .ok (.aload_n 0, 1) := by decide +kernel
theorem dX7_times_1 : decode cX7_times 1 = .ok (.getfield 42, 3) := by decide +kernel
theorem dX7_times_4 : decode cX7_times 4 = .ok (.invokevirtual 178, 3) := by decide +kernel
theorem dX7_times_7 : decode cX7_times 7 = .ok (.ifCond .eq 6, 3) := by decide +kernel
theorem dX7_times_10 : decode cX7_times 10 = .ok (.bipush (-4), 2) := by decide +kernel
theorem dX7_times_12 : decode cX7_times 12 = .ok (.ireturn, 1) := by decide +kernel
theorem dX7_times_13 : decode cX7_times 13 = .ok (.aload_n 0, 1) := by decide +kernel
theorem dX7_times_14 : decode cX7_times 14 = .ok (.getfield 42, 3) := by decide +kernel
theorem dX7_times_17 : decode cX7_times 17 = .ok (.invokevirtual 165, 3) := by decide +kernel
theorem dX7_times_20 : decode cX7_times 20 = .ok (.aload_n 0, 1) := by decide +kernel
theorem dX7_times_21 : decode cX7_times 21 = .ok (.getfield 42, 3) := by decide +kernel
theorem dX7_times_24 : decode cX7_times 24 = .ok (.getfield 168, 3) := by decide +kernel
theorem dX7_times_27 : decode cX7_times 27 = .ok (.invokestatic 185, 3) := by decide +kernel
theorem dX7_times_30 : decode cX7_times 30 = .ok (.aload_n 0, 1) := by decide +kernel
theorem dX7_times_31 : decode cX7_times 31 = .ok (.getfield 42, 3) := by decide +kernel
theorem dX7_times_34 : decode cX7_times 34 = .ok (.getfield 168, 3) := by decide +kernel
theorem dX7_times_37 : decode cX7_times 37 = .ok (.iconst 1, 1) := by decide +kernel
theorem dX7_times_38 : decode cX7_times 38 = .ok (.invokestatic 154, 3) := by decide +kernel
theorem dX7_times_41 : decode cX7_times 41 = .ok (.ireturn, 1) := by decide +kernel
theorem dX7_swap_0 : decode cX7_swap 0 = .ok (.iload_n 1, 1) := by decide +kernel
theorem dX7_swap_1 : decode cX7_swap 1 = .ok (.invokestatic 81, 3) := by decide +kernel
theorem dX7_swap_4 : decode cX7_swap 4 = .ok (.ifCond .eq 10, 3) := by decide +kernel
theorem dX7_swap_7 : decode cX7_swap 7 = .ok (.iload_n 2, 1) := by decide +kernel
theorem dX7_swap_8 : decode cX7_swap 8 = .ok (.invokestatic 81, 3) := by decide +kernel
theorem dX7_swap_11 : decode cX7_swap 11 = .ok (.ifCond .ne 6, 3) := by decide +kernel
theorem dX7_swap_14 : decode cX7_swap 14 = .ok (.bipush (-2), 2) := by decide +kernel
theorem dX7_swap_16 : decode cX7_swap 16 = .ok (.ireturn, 1) := by decide +kernel
theorem dX7_swap_17 : decode cX7_swap 17 = .ok (.aload_n 0, 1) := by decide +kernel
theorem dX7_swap_18 : decode cX7_swap 18 = .ok (.getfield 42, 3) := by decide +kernel
theorem dX7_swap_21 : decode cX7_swap 21 = .ok (.invokevirtual 165, 3) := by decide +kernel
theorem dX7_swap_24 : decode cX7_swap 24 = .ok (.aload_n 0, 1) := by decide +kernel
theorem dX7_swap_25 : decode cX7_swap 25 = .ok (.getfield 34, 3) := by decide +kernel
theorem dX7_swap_28 : decode cX7_swap 28 = .ok (.iload_n 1, 1) := by decide +kernel
theorem dX7_swap_29 : decode cX7_swap 29 = .ok (.aaload, 1) := by decide +kernel
theorem dX7_swap_30 : decode cX7_swap 30 = .ok (.aload_n 0, 1) := by decide +kernel
theorem dX7_swap_31 : decode cX7_swap 31 = .ok (.getfield 63, 3) := by decide +kernel
theorem dX7_swap_34 : decode cX7_swap 34 = .ok (.aload_n 0, 1) := by decide +kernel
theorem dX7_swap_35 : decode cX7_swap 35 = .ok (.getfield 42, 3) := by decide +kernel
theorem dX7_swap_38 : decode cX7_swap 38 = .ok (.getfield 168, 3) := by decide +kernel
theorem dX7_swap_41 : decode cX7_swap 41 = .ok (.invokevirtual 158, 3) := by decide +kernel
theorem dX7_swap_44 : decode cX7_swap 44 = .ok (.aload_n 0, 1) := by decide +kernel
theorem dX7_swap_45 : decode cX7_swap 45 = .ok (.getfield 34, 3) := by decide +kernel
theorem dX7_swap_48 : decode cX7_swap 48 = .ok (.iload_n 2, 1) := by decide +kernel
theorem dX7_swap_49 : decode cX7_swap 49 = .ok (.aaload, 1) := by decide +kernel
theorem dX7_swap_50 : decode cX7_swap 50 = .ok (.aload_n 0, 1) := by decide +kernel
theorem dX7_swap_51 : decode cX7_swap 51 = .ok (.getfield 42, 3) := by decide +kernel
theorem dX7_swap_54 : decode cX7_swap 54 = .ok (.getfield 168, 3) := by decide +kernel
theorem dX7_swap_57 : decode cX7_swap 57 = .ok (.aload_n 0, 1) := by decide +kernel
theorem dX7_swap_58 : decode cX7_swap 58 = .ok (.getfield 63, 3) := by decide +kernel
theorem dX7_swap_61 : decode cX7_swap 61 = .ok (.invokevirtual 189, 3) := by decide +kernel
theorem dX7_swap_64 : decode cX7_swap 64 = .ok (.aload_n 0, 1) := by decide +kernel
theorem dX7_swap_65 : decode cX7_swap 65 = .ok (.getfield 42, 3) := by decide +kernel
theorem dX7_swap_68 : decode cX7_swap 68 = .ok (.getfield 168, 3) := by decide +kernel
theorem dX7_swap_71 : decode cX7_swap 71 = .ok (.iconst 0, 1) := by decide +kernel
theorem dX7_swap_72 : decode cX7_swap 72 = .ok (.iaload, 1) := by decide +kernel
theorem dX7_swap_73 : decode cX7_swap 73 = .ok (.ireturn, 1) := by decide +kernel
theorem dX7_climb_0 : decode cX7_climb 0 = .ok (.iload_n 1, 1) := by decide +kernel
theorem dX7_climb_1 : decode cX7_climb 1 = .ok (.invokestatic 81, 3) := by decide +kernel
theorem dX7_climb_4 : decode cX7_climb 4 = .ok (.ifCond .ne 6, 3) := by decide +kernel
theorem dX7_climb_7 : decode cX7_climb 7 = .ok (.bipush (-2), 2) := by decide +kernel
theorem dX7_climb_9 : decode cX7_climb 9 = .ok (.ireturn, 1) := by decide +kernel
theorem dX7_climb_10 : decode cX7_climb 10 = .ok (.aload_n 0, 1) := by decide +kernel
theorem dX7_climb_11 : decode cX7_climb 11 = .ok (.getfield 42, 3) := by decide +kernel
theorem dX7_climb_14 : decode cX7_climb 14 = .ok (.invokevirtual 178, 3) := by decide +kernel
theorem dX7_climb_17 : decode cX7_climb 17 = .ok (.ifCond .eq 6, 3) := by decide +kernel
theorem dX7_climb_20 : decode cX7_climb 20 = .ok (.bipush (-4), 2) := by decide +kernel
theorem dX7_climb_22 : decode cX7_climb 22 = .ok (.ireturn, 1) := by decide +kernel
theorem dX7_climb_23 : decode cX7_climb 23 = .ok (.aload_n 0, 1) := by decide +kernel
theorem dX7_climb_24 : decode cX7_climb 24 = .ok (.getfield 42, 3) := by decide +kernel
theorem dX7_climb_27 : decode cX7_climb 27 = .ok (.invokevirtual 165, 3) := by decide +kernel
theorem dX7_climb_30 : decode cX7_climb 30 = .ok (.aload_n 0, 1) := by decide +kernel
theorem dX7_climb_31 : decode cX7_climb 31 = .ok (.getfield 34, 3) := by decide +kernel
theorem dX7_climb_34 : decode cX7_climb 34 = .ok (.iload_n 1, 1) := by decide +kernel
theorem dX7_climb_35 : decode cX7_climb 35 = .ok (.aaload, 1) := by decide +kernel
theorem dX7_climb_36 : decode cX7_climb 36 = .ok (.aload_n 0, 1) := by decide +kernel
theorem dX7_climb_37 : decode cX7_climb 37 = .ok (.getfield 63, 3) := by decide +kernel
theorem dX7_climb_40 : decode cX7_climb 40 = .ok (.aload_n 0, 1) := by decide +kernel
theorem dX7_climb_41 : decode cX7_climb 41 = .ok (.getfield 42, 3) := by decide +kernel
theorem dX7_climb_44 : decode cX7_climb 44 = .ok (.getfield 168, 3) := by decide +kernel
theorem dX7_climb_47 : decode cX7_climb 47 = .ok (.invokevirtual 158, 3) := by decide +kernel
theorem dX7_climb_50 : decode cX7_climb 50 = .ok (.aload_n 0, 1) := by decide +kernel
theorem dX7_climb_51 : decode cX7_climb 51 = .ok (.getfield 63, 3) := by decide +kernel
theorem dX7_climb_54 : decode cX7_climb 54 = .ok (.invokestatic 185, 3) := by decide +kernel
theorem dX7_climb_57 : decode cX7_climb 57 = .ok (.aload_n 0, 1) := by decide +kernel
theorem dX7_climb_58 : decode cX7_climb 58 = .ok (.getfield 34, 3) := by decide +kernel
theorem dX7_climb_61 : decode cX7_climb 61 = .ok (.iload_n 1, 1) := by decide +kernel
theorem dX7_climb_62 : decode cX7_climb 62 = .ok (.aaload, 1) := by decide +kernel
theorem dX7_climb_63 : decode cX7_climb 63 = .ok (.aload_n 0, 1) := by decide +kernel
theorem dX7_climb_64 : decode cX7_climb 64 = .ok (.getfield 42, 3) := by decide +kernel
theorem dX7_climb_67 : decode cX7_climb 67 = .ok (.getfield 168, 3) := by decide +kernel
theorem dX7_climb_70 : decode cX7_climb 70 = .ok (.aload_n 0, 1) := by decide +kernel
theorem dX7_climb_71 : decode cX7_climb 71 = .ok (.getfield 63, 3) := by decide +kernel
theorem dX7_climb_74 : decode cX7_climb 74 = .ok (.invokevirtual 189, 3) := by decide +kernel
theorem dX7_climb_77 : decode cX7_climb 77 = .ok (.aload_n 0, 1) := by decide +kernel
theorem dX7_climb_78 : decode cX7_climb 78 = .ok (.getfield 42, 3) := by decide +kernel
theorem dX7_climb_81 : decode cX7_climb 81 = .ok (.getfield 168, 3) := by decide +kernel
theorem dX7_climb_84 : decode cX7_climb 84 = .ok (.iconst 0, 1) := by decide +kernel
theorem dX7_climb_85 : decode cX7_climb 85 = .ok (.iaload, 1) := by decide +kernel
theorem dX7_climb_86 : decode cX7_climb 86 = .ok (.ireturn, 1) := by decide +kernel
theorem dX7_weigh_0 : decode cX7_weigh 0 = .ok (.iload_n 1, 1) := by decide +kernel
theorem dX7_weigh_1 : decode cX7_weigh 1 = .ok (.invokestatic 81, 3) := by decide +kernel
theorem dX7_weigh_4 : decode cX7_weigh 4 = .ok (.ifCond .ne 6, 3) := by decide +kernel
theorem dX7_weigh_7 : decode cX7_weigh 7 = .ok (.bipush (-2), 2) := by decide +kernel
theorem dX7_weigh_9 : decode cX7_weigh 9 = .ok (.ireturn, 1) := by decide +kernel
theorem dX7_weigh_10 : decode cX7_weigh 10 = .ok (.aload_n 0, 1) := by decide +kernel
theorem dX7_weigh_11 : decode cX7_weigh 11 = .ok (.getfield 42, 3) := by decide +kernel
theorem dX7_weigh_14 : decode cX7_weigh 14 = .ok (.invokevirtual 165, 3) := by decide +kernel
theorem dX7_weigh_17 : decode cX7_weigh 17 = .ok (.aload_n 0, 1) := by decide +kernel
theorem dX7_weigh_18 : decode cX7_weigh 18 = .ok (.getfield 34, 3) := by decide +kernel
theorem dX7_weigh_21 : decode cX7_weigh 21 = .ok (.iload_n 1, 1) := by decide +kernel
theorem dX7_weigh_22 : decode cX7_weigh 22 = .ok (.aaload, 1) := by decide +kernel
theorem dX7_weigh_23 : decode cX7_weigh 23 = .ok (.aload_n 0, 1) := by decide +kernel
theorem dX7_weigh_24 : decode cX7_weigh 24 = .ok (.getfield 63, 3) := by decide +kernel
theorem dX7_weigh_27 : decode cX7_weigh 27 = .ok (.aload_n 0, 1) := by decide +kernel
theorem dX7_weigh_28 : decode cX7_weigh 28 = .ok (.getfield 42, 3) := by decide +kernel
theorem dX7_weigh_31 : decode cX7_weigh 31 = .ok (.getfield 168, 3) := by decide +kernel
theorem dX7_weigh_34 : decode cX7_weigh 34 = .ok (.invokevirtual 158, 3) := by decide +kernel
theorem dX7_weigh_37 : decode cX7_weigh 37 = .ok (.iconst 0, 1) := by decide +kernel
theorem dX7_weigh_38 : decode cX7_weigh 38 = .ok (.istore_n 2, 1) := by decide +kernel
theorem dX7_weigh_39 : decode cX7_weigh 39 = .ok (.iload_n 2, 1) := by decide +kernel
theorem dX7_weigh_40 : decode cX7_weigh 40 = .ok (.bipush 9, 2) := by decide +kernel
theorem dX7_weigh_42 : decode cX7_weigh 42 = .ok (.if_icmp .ge 25, 3) := by decide +kernel
theorem dX7_weigh_45 : decode cX7_weigh 45 = .ok (.aload_n 0, 1) := by decide +kernel
theorem dX7_weigh_46 : decode cX7_weigh 46 = .ok (.getfield 63, 3) := by decide +kernel
theorem dX7_weigh_49 : decode cX7_weigh 49 = .ok (.iload_n 2, 1) := by decide +kernel
theorem dX7_weigh_50 : decode cX7_weigh 50 = .ok (.aload_n 0, 1) := by decide +kernel
theorem dX7_weigh_51 : decode cX7_weigh 51 = .ok (.getfield 63, 3) := by decide +kernel
theorem dX7_weigh_54 : decode cX7_weigh 54 = .ok (.iload_n 2, 1) := by decide +kernel
theorem dX7_weigh_55 : decode cX7_weigh 55 = .ok (.iaload, 1) := by decide +kernel
theorem dX7_weigh_56 : decode cX7_weigh 56 = .ok (.iload_n 2, 1) := by decide +kernel
theorem dX7_weigh_57 : decode cX7_weigh 57 = .ok (.invokestatic 192, 3) := by decide +kernel
theorem dX7_weigh_60 : decode cX7_weigh 60 = .ok (.iastore, 1) := by decide +kernel
theorem dX7_weigh_61 : decode cX7_weigh 61 = .ok (.iinc 2 1, 3) := by decide +kernel
theorem dX7_weigh_64 : decode cX7_weigh 64 = .ok (.goto (-25), 3) := by decide +kernel
theorem dX7_weigh_67 : decode cX7_weigh 67 = .ok (.aload_n 0, 1) := by decide +kernel
theorem dX7_weigh_68 : decode cX7_weigh 68 = .ok (.getfield 34, 3) := by decide +kernel
theorem dX7_weigh_71 : decode cX7_weigh 71 = .ok (.iload_n 1, 1) := by decide +kernel
theorem dX7_weigh_72 : decode cX7_weigh 72 = .ok (.aaload, 1) := by decide +kernel
theorem dX7_weigh_73 : decode cX7_weigh 73 = .ok (.aload_n 0, 1) := by decide +kernel
theorem dX7_weigh_74 : decode cX7_weigh 74 = .ok (.getfield 42, 3) := by decide +kernel
theorem dX7_weigh_77 : decode cX7_weigh 77 = .ok (.getfield 168, 3) := by decide +kernel
theorem dX7_weigh_80 : decode cX7_weigh 80 = .ok (.aload_n 0, 1) := by decide +kernel
theorem dX7_weigh_81 : decode cX7_weigh 81 = .ok (.getfield 63, 3) := by decide +kernel
theorem dX7_weigh_84 : decode cX7_weigh 84 = .ok (.invokevirtual 189, 3) := by decide +kernel
theorem dX7_weigh_87 : decode cX7_weigh 87 = .ok (.aload_n 0, 1) := by decide +kernel
theorem dX7_weigh_88 : decode cX7_weigh 88 = .ok (.getfield 42, 3) := by decide +kernel
theorem dX7_weigh_91 : decode cX7_weigh 91 = .ok (.getfield 168, 3) := by decide +kernel
theorem dX7_weigh_94 : decode cX7_weigh 94 = .ok (.iconst 0, 1) := by decide +kernel
theorem dX7_weigh_95 : decode cX7_weigh 95 = .ok (.iaload, 1) := by decide +kernel
theorem dX7_weigh_96 : decode cX7_weigh 96 = .ok (.ireturn, 1) := by decide +kernel
theorem dX7_undo_0 : decode cX7_undo 0 = .ok (.aload_n 0, 1) := by decide +kernel
theorem dX7_undo_1 : decode cX7_undo 1 = .ok (.getfield 42, 3) := by decide +kernel
theorem dX7_undo_4 : decode cX7_undo 4 = .ok (.invokevirtual 194, 3) := by decide +kernel
theorem dX7_undo_7 : decode cX7_undo 7 = .ok (.ifCond .eq 13, 3) := by decide +kernel
theorem dX7_undo_10 : decode cX7_undo 10 = .ok (.aload_n 0, 1) := by decide +kernel
theorem dX7_undo_11 : decode cX7_undo 11 = .ok (.getfield 42, 3) := by decide +kernel
theorem dX7_undo_14 : decode cX7_undo 14 = .ok (.getfield 197, 3) := by decide +kernel
theorem dX7_undo_17 : decode cX7_undo 17 = .ok (.goto 5, 3) := by decide +kernel
theorem dX7_undo_20 : decode cX7_undo 20 = .ok (.bipush (-4), 2) := by decide +kernel
theorem dX7_undo_22 : decode cX7_undo 22 = .ok (.ireturn, 1) := by decide +kernel
theorem dX7_hand_0 : decode cX7_hand 0 = .ok (.iload_n 1, 1) := by decide +kernel
theorem dX7_hand_1 : decode cX7_hand 1 = .ok (.invokestatic 143, 3) := by decide +kernel
theorem dX7_hand_4 : decode cX7_hand 4 = .ok (.ifCond .eq 15, 3) := by decide +kernel
theorem dX7_hand_7 : decode cX7_hand 7 = .ok (.aload_n 0, 1) := by decide +kernel
theorem dX7_hand_8 : decode cX7_hand 8 = .ok (.getfield 42, 3) := by decide +kernel
theorem dX7_hand_11 : decode cX7_hand 11 = .ok (.getfield 168, 3) := by decide +kernel
theorem dX7_hand_14 : decode cX7_hand 14 = .ok (.iload_n 1, 1) := by decide +kernel
theorem dX7_hand_15 : decode cX7_hand 15 = .ok (.iaload, 1) := by decide +kernel
theorem dX7_hand_16 : decode cX7_hand 16 = .ok (.goto 5, 3) := by decide +kernel
theorem dX7_hand_19 : decode cX7_hand 19 = .ok (.bipush (-3), 2) := by decide +kernel
theorem dX7_hand_21 : decode cX7_hand 21 = .ok (.ireturn, 1) := by decide +kernel
theorem dX7_at_0 : decode cX7_at 0 = .ok (.iload_n 1, 1) := by decide +kernel
theorem dX7_at_1 : decode cX7_at 1 = .ok (.invokestatic 126, 3) := by decide +kernel
theorem dX7_at_4 : decode cX7_at 4 = .ok (.ifCond .eq 17, 3) := by decide +kernel
theorem dX7_at_7 : decode cX7_at 7 = .ok (.aload_n 0, 1) := by decide +kernel
theorem dX7_at_8 : decode cX7_at 8 = .ok (.getfield 42, 3) := by decide +kernel
theorem dX7_at_11 : decode cX7_at 11 = .ok (.getfield 168, 3) := by decide +kernel
theorem dX7_at_14 : decode cX7_at 14 = .ok (.iload_n 1, 1) := by decide +kernel
theorem dX7_at_15 : decode cX7_at 15 = .ok (.invokestatic 154, 3) := by decide +kernel
theorem dX7_at_18 : decode cX7_at 18 = .ok (.goto 5, 3) := by decide +kernel
theorem dX7_at_21 : decode cX7_at 21 = .ok (.bipush (-3), 2) := by decide +kernel
theorem dX7_at_23 : decode cX7_at 23 = .ok (.ireturn, 1) := by decide +kernel
theorem dX7_expand_0 : decode cX7_expand 0 = .ok (.iload_n 1, 1) := by decide +kernel
theorem dX7_expand_1 : decode cX7_expand 1 = .ok (.invokestatic 81, 3) := by decide +kernel
theorem dX7_expand_4 : decode cX7_expand 4 = .ok (.ifCond .ne 6, 3) := by decide +kernel
theorem dX7_expand_7 : decode cX7_expand 7 = .ok (.bipush (-2), 2) := by decide +kernel
theorem dX7_expand_9 : decode cX7_expand 9 = .ok (.ireturn, 1) := by decide +kernel
theorem dX7_expand_10 : decode cX7_expand 10 = .ok (.iload_n 2, 1) := by decide +kernel
theorem dX7_expand_11 : decode cX7_expand 11 = .ok (.invokestatic 143, 3) := by decide +kernel
theorem dX7_expand_14 : decode cX7_expand 14 = .ok (.ifCond .ne 6, 3) := by decide +kernel
theorem dX7_expand_17 : decode cX7_expand 17 = .ok (.bipush (-3), 2) := by decide +kernel
theorem dX7_expand_19 : decode cX7_expand 19 = .ok (.ireturn, 1) := by decide +kernel
theorem dX7_expand_20 : decode cX7_expand 20 = .ok (.aload_n 0, 1) := by decide +kernel
theorem dX7_expand_21 : decode cX7_expand 21 = .ok (.getfield 34, 3) := by decide +kernel
theorem dX7_expand_24 : decode cX7_expand 24 = .ok (.iload_n 1, 1) := by decide +kernel
theorem dX7_expand_25 : decode cX7_expand 25 = .ok (.aaload, 1) := by decide +kernel
theorem dX7_expand_26 : decode cX7_expand 26 = .ok (.aload_n 0, 1) := by decide +kernel
theorem dX7_expand_27 : decode cX7_expand 27 = .ok (.getfield 63, 3) := by decide +kernel
theorem dX7_expand_30 : decode cX7_expand 30 = .ok (.aload_n 0, 1) := by decide +kernel
theorem dX7_expand_31 : decode cX7_expand 31 = .ok (.getfield 42, 3) := by decide +kernel
theorem dX7_expand_34 : decode cX7_expand 34 = .ok (.getfield 168, 3) := by decide +kernel
theorem dX7_expand_37 : decode cX7_expand 37 = .ok (.invokevirtual 158, 3) := by decide +kernel
theorem dX7_expand_40 : decode cX7_expand 40 = .ok (.aload_n 0, 1) := by decide +kernel
theorem dX7_expand_41 : decode cX7_expand 41 = .ok (.getfield 63, 3) := by decide +kernel
theorem dX7_expand_44 : decode cX7_expand 44 = .ok (.iload_n 2, 1) := by decide +kernel
theorem dX7_expand_45 : decode cX7_expand 45 = .ok (.iaload, 1) := by decide +kernel
theorem dX7_expand_46 : decode cX7_expand 46 = .ok (.ireturn, 1) := by decide +kernel
theorem dX7_sum_0 : decode cX7_sum 0 = .ok (.iload_n 1, 1) := by decide +kernel
theorem dX7_sum_1 : decode cX7_sum 1 = .ok (.ifCond .lt 10, 3) := by decide +kernel
theorem dX7_sum_4 : decode cX7_sum 4 = .ok (.iload_n 1, 1) := by decide +kernel
theorem dX7_sum_5 : decode cX7_sum 5 = .ok (.sipush 500, 3) := by decide +kernel
theorem dX7_sum_8 : decode cX7_sum 8 = .ok (.if_icmp .le 6, 3) := by decide +kernel
theorem dX7_sum_11 : decode cX7_sum 11 = .ok (.bipush (-3), 2) := by decide +kernel
theorem dX7_sum_13 : decode cX7_sum 13 = .ok (.ireturn, 1) := by decide +kernel
theorem dX7_sum_14 : decode cX7_sum 14 = .ok (.iconst 0, 1) := by decide +kernel
theorem dX7_sum_15 : decode cX7_sum 15 = .ok (.istore_n 2, 1) := by decide +kernel
theorem dX7_sum_16 : decode cX7_sum 16 = .ok (.iconst 0, 1) := by decide +kernel
theorem dX7_sum_17 : decode cX7_sum 17 = .ok (.istore_n 3, 1) := by decide +kernel
theorem dX7_sum_18 : decode cX7_sum 18 = .ok (.iload_n 3, 1) := by decide +kernel
theorem dX7_sum_19 : decode cX7_sum 19 = .ok (.iload_n 1, 1) := by decide +kernel
theorem dX7_sum_20 : decode cX7_sum 20 = .ok (.if_icmp .ge 25, 3) := by decide +kernel
theorem dX7_sum_23 : decode cX7_sum 23 = .ok (.iload_n 2, 1) := by decide +kernel
theorem dX7_sum_24 : decode cX7_sum 24 = .ok (.aload_n 0, 1) := by decide +kernel
theorem dX7_sum_25 : decode cX7_sum 25 = .ok (.getfield 42, 3) := by decide +kernel
theorem dX7_sum_28 : decode cX7_sum 28 = .ok (.getfield 168, 3) := by decide +kernel
theorem dX7_sum_31 : decode cX7_sum 31 = .ok (.iload_n 3, 1) := by decide +kernel
theorem dX7_sum_32 : decode cX7_sum 32 = .ok (.invokestatic 154, 3) := by decide +kernel
theorem dX7_sum_35 : decode cX7_sum 35 = .ok (.invokestatic 200, 3) := by decide +kernel
theorem dX7_sum_38 : decode cX7_sum 38 = .ok (.istore_n 2, 1) := by decide +kernel
theorem dX7_sum_39 : decode cX7_sum 39 = .ok (.iinc 3 1, 3) := by decide +kernel
theorem dX7_sum_42 : decode cX7_sum 42 = .ok (.goto (-24), 3) := by decide +kernel
theorem dX7_sum_45 : decode cX7_sum 45 = .ok (.iload_n 2, 1) := by decide +kernel
theorem dX7_sum_46 : decode cX7_sum 46 = .ok (.ireturn, 1) := by decide +kernel
theorem dX7_keep_0 : decode cX7_keep 0 = .ok (.iload_n 1, 1) := by decide +kernel
theorem dX7_keep_1 : decode cX7_keep 1 = .ok (.invokestatic 203, 3) := by decide +kernel
theorem dX7_keep_4 : decode cX7_keep 4 = .ok (.ifCond .ne 6, 3) := by decide +kernel
theorem dX7_keep_7 : decode cX7_keep 7 = .ok (.bipush (-3), 2) := by decide +kernel
theorem dX7_keep_9 : decode cX7_keep 9 = .ok (.ireturn, 1) := by decide +kernel
theorem dX7_keep_10 : decode cX7_keep 10 = .ok (.iconst 0, 1) := by decide +kernel
theorem dX7_keep_11 : decode cX7_keep 11 = .ok (.istore_n 2, 1) := by decide +kernel
theorem dX7_keep_12 : decode cX7_keep 12 = .ok (.iload_n 2, 1) := by decide +kernel
theorem dX7_keep_13 : decode cX7_keep 13 = .ok (.iconst 4, 1) := by decide +kernel
theorem dX7_keep_14 : decode cX7_keep 14 = .ok (.if_icmp .ge 55, 3) := by decide +kernel
theorem dX7_keep_17 : decode cX7_keep 17 = .ok (.aload_n 0, 1) := by decide +kernel
theorem dX7_keep_18 : decode cX7_keep 18 = .ok (.getfield 34, 3) := by decide +kernel
theorem dX7_keep_21 : decode cX7_keep 21 = .ok (.iload_n 2, 1) := by decide +kernel
theorem dX7_keep_22 : decode cX7_keep 22 = .ok (.aaload, 1) := by decide +kernel
theorem dX7_keep_23 : decode cX7_keep 23 = .ok (.getfield 99, 3) := by decide +kernel
theorem dX7_keep_26 : decode cX7_keep 26 = .ok (.aload_n 0, 1) := by decide +kernel
theorem dX7_keep_27 : decode cX7_keep 27 = .ok (.getfield 48, 3) := by decide +kernel
theorem dX7_keep_30 : decode cX7_keep 30 = .ok (.iload_n 1, 1) := by decide +kernel
theorem dX7_keep_31 : decode cX7_keep 31 = .ok (.aaload, 1) := by decide +kernel
theorem dX7_keep_32 : decode cX7_keep 32 = .ok (.getfield 206, 3) := by decide +kernel
theorem dX7_keep_35 : decode cX7_keep 35 = .ok (.iload_n 2, 1) := by decide +kernel
theorem dX7_keep_36 : decode cX7_keep 36 = .ok (.aaload, 1) := by decide +kernel
theorem dX7_keep_37 : decode cX7_keep 37 = .ok (.invokestatic 119, 3) := by decide +kernel
theorem dX7_keep_40 : decode cX7_keep 40 = .ok (.aload_n 0, 1) := by decide +kernel
theorem dX7_keep_41 : decode cX7_keep 41 = .ok (.getfield 34, 3) := by decide +kernel
theorem dX7_keep_44 : decode cX7_keep 44 = .ok (.iload_n 2, 1) := by decide +kernel
theorem dX7_keep_45 : decode cX7_keep 45 = .ok (.aaload, 1) := by decide +kernel
theorem dX7_keep_46 : decode cX7_keep 46 = .ok (.getfield 102, 3) := by decide +kernel
theorem dX7_keep_49 : decode cX7_keep 49 = .ok (.aload_n 0, 1) := by decide +kernel
theorem dX7_keep_50 : decode cX7_keep 50 = .ok (.getfield 48, 3) := by decide +kernel
theorem dX7_keep_53 : decode cX7_keep 53 = .ok (.iload_n 1, 1) := by decide +kernel
theorem dX7_keep_54 : decode cX7_keep 54 = .ok (.aaload, 1) := by decide +kernel
theorem dX7_keep_55 : decode cX7_keep 55 = .ok (.getfield 208, 3) := by decide +kernel
theorem dX7_keep_58 : decode cX7_keep 58 = .ok (.iload_n 2, 1) := by decide +kernel
theorem dX7_keep_59 : decode cX7_keep 59 = .ok (.aaload, 1) := by decide +kernel
theorem dX7_keep_60 : decode cX7_keep 60 = .ok (.invokestatic 119, 3) := by decide +kernel
theorem dX7_keep_63 : decode cX7_keep 63 = .ok (.iinc 2 1, 3) := by decide +kernel
theorem dX7_keep_66 : decode cX7_keep 66 = .ok (.goto (-54), 3) := by decide +kernel
theorem dX7_keep_69 : decode cX7_keep 69 = .ok (.aload_n 0, 1) := by decide +kernel
theorem dX7_keep_70 : decode cX7_keep 70 = .ok (.getfield 42, 3) := by decide +kernel
theorem dX7_keep_73 : decode cX7_keep 73 = .ok (.getfield 168, 3) := by decide +kernel
theorem dX7_keep_76 : decode cX7_keep 76 = .ok (.aload_n 0, 1) := by decide +kernel
theorem dX7_keep_77 : decode cX7_keep 77 = .ok (.getfield 48, 3) := by decide +kernel
theorem dX7_keep_80 : decode cX7_keep 80 = .ok (.iload_n 1, 1) := by decide +kernel
theorem dX7_keep_81 : decode cX7_keep 81 = .ok (.aaload, 1) := by decide +kernel
theorem dX7_keep_82 : decode cX7_keep 82 = .ok (.getfield 210, 3) := by decide +kernel
theorem dX7_keep_85 : decode cX7_keep 85 = .ok (.invokestatic 119, 3) := by decide +kernel
theorem dX7_keep_88 : decode cX7_keep 88 = .ok (.aload_n 0, 1) := by decide +kernel
theorem dX7_keep_89 : decode cX7_keep 89 = .ok (.getfield 48, 3) := by decide +kernel
theorem dX7_keep_92 : decode cX7_keep 92 = .ok (.iload_n 1, 1) := by decide +kernel
theorem dX7_keep_93 : decode cX7_keep 93 = .ok (.aaload, 1) := by decide +kernel
theorem dX7_keep_94 : decode cX7_keep 94 = .ok (.iconst 1, 1) := by decide +kernel
theorem dX7_keep_95 : decode cX7_keep 95 = .ok (.putfield 211, 3) := by decide +kernel
theorem dX7_keep_98 : decode cX7_keep 98 = .ok (.aload_n 0, 1) := by decide +kernel
theorem dX7_keep_99 : decode cX7_keep 99 = .ok (.getfield 42, 3) := by decide +kernel
theorem dX7_keep_102 : decode cX7_keep 102 = .ok (.invokevirtual 215, 3) := by decide +kernel
theorem dX7_keep_105 : decode cX7_keep 105 = .ok (.ireturn, 1) := by decide +kernel
theorem dX7_back_0 : decode cX7_back 0 = .ok (.iload_n 1, 1) := by decide +kernel
theorem dX7_back_1 : decode cX7_back 1 = .ok (.invokestatic 203, 3) := by decide +kernel
theorem dX7_back_4 : decode cX7_back 4 = .ok (.ifCond .ne 6, 3) := by decide +kernel
theorem dX7_back_7 : decode cX7_back 7 = .ok (.bipush (-3), 2) := by decide +kernel
theorem dX7_back_9 : decode cX7_back 9 = .ok (.ireturn, 1) := by decide +kernel
theorem dX7_back_10 : decode cX7_back 10 = .ok (.aload_n 0, 1) := by decide +kernel
theorem dX7_back_11 : decode cX7_back 11 = .ok (.getfield 48, 3) := by decide +kernel
theorem dX7_back_14 : decode cX7_back 14 = .ok (.iload_n 1, 1) := by decide +kernel
theorem dX7_back_15 : decode cX7_back 15 = .ok (.aaload, 1) := by decide +kernel
theorem dX7_back_16 : decode cX7_back 16 = .ok (.getfield 211, 3) := by decide +kernel
theorem dX7_back_19 : decode cX7_back 19 = .ok (.ifCond .ne 6, 3) := by decide +kernel
theorem dX7_back_22 : decode cX7_back 22 = .ok (.bipush (-4), 2) := by decide +kernel
theorem dX7_back_24 : decode cX7_back 24 = .ok (.ireturn, 1) := by decide +kernel
theorem dX7_back_25 : decode cX7_back 25 = .ok (.iconst 0, 1) := by decide +kernel
theorem dX7_back_26 : decode cX7_back 26 = .ok (.istore_n 2, 1) := by decide +kernel
theorem dX7_back_27 : decode cX7_back 27 = .ok (.iload_n 2, 1) := by decide +kernel
theorem dX7_back_28 : decode cX7_back 28 = .ok (.iconst 4, 1) := by decide +kernel
theorem dX7_back_29 : decode cX7_back 29 = .ok (.if_icmp .ge 41, 3) := by decide +kernel
theorem dX7_back_32 : decode cX7_back 32 = .ok (.aload_n 0, 1) := by decide +kernel
theorem dX7_back_33 : decode cX7_back 33 = .ok (.getfield 34, 3) := by decide +kernel
theorem dX7_back_36 : decode cX7_back 36 = .ok (.iload_n 2, 1) := by decide +kernel
theorem dX7_back_37 : decode cX7_back 37 = .ok (.aaload, 1) := by decide +kernel
theorem dX7_back_38 : decode cX7_back 38 = .ok (.aload_n 0, 1) := by decide +kernel
theorem dX7_back_39 : decode cX7_back 39 = .ok (.getfield 48, 3) := by decide +kernel
theorem dX7_back_42 : decode cX7_back 42 = .ok (.iload_n 1, 1) := by decide +kernel
theorem dX7_back_43 : decode cX7_back 43 = .ok (.aaload, 1) := by decide +kernel
theorem dX7_back_44 : decode cX7_back 44 = .ok (.getfield 206, 3) := by decide +kernel
theorem dX7_back_47 : decode cX7_back 47 = .ok (.iload_n 2, 1) := by decide +kernel
theorem dX7_back_48 : decode cX7_back 48 = .ok (.aaload, 1) := by decide +kernel
theorem dX7_back_49 : decode cX7_back 49 = .ok (.aload_n 0, 1) := by decide +kernel
theorem dX7_back_50 : decode cX7_back 50 = .ok (.getfield 48, 3) := by decide +kernel
theorem dX7_back_53 : decode cX7_back 53 = .ok (.iload_n 1, 1) := by decide +kernel
theorem dX7_back_54 : decode cX7_back 54 = .ok (.aaload, 1) := by decide +kernel
theorem dX7_back_55 : decode cX7_back 55 = .ok (.getfield 208, 3) := by decide +kernel
theorem dX7_back_58 : decode cX7_back 58 = .ok (.iload_n 2, 1) := by decide +kernel
theorem dX7_back_59 : decode cX7_back 59 = .ok (.aaload, 1) := by decide +kernel
theorem dX7_back_60 : decode cX7_back 60 = .ok (.invokevirtual 95, 3) := by decide +kernel
theorem dX7_back_63 : decode cX7_back 63 = .ok (.pop, 1) := by decide +kernel
theorem dX7_back_64 : decode cX7_back 64 = .ok (.iinc 2 1, 3) := by decide +kernel
theorem dX7_back_67 : decode cX7_back 67 = .ok (.goto (-40), 3) := by decide +kernel
theorem dX7_back_70 : decode cX7_back 70 = .ok (.aload_n 0, 1) := by decide +kernel
theorem dX7_back_71 : decode cX7_back 71 = .ok (.getfield 48, 3) := by decide +kernel
theorem dX7_back_74 : decode cX7_back 74 = .ok (.iload_n 1, 1) := by decide +kernel
theorem dX7_back_75 : decode cX7_back 75 = .ok (.aaload, 1) := by decide +kernel
theorem dX7_back_76 : decode cX7_back 76 = .ok (.getfield 210, 3) := by decide +kernel
theorem dX7_back_79 : decode cX7_back 79 = .ok (.aload_n 0, 1) := by decide +kernel
theorem dX7_back_80 : decode cX7_back 80 = .ok (.getfield 42, 3) := by decide +kernel
theorem dX7_back_83 : decode cX7_back 83 = .ok (.getfield 168, 3) := by decide +kernel
theorem dX7_back_86 : decode cX7_back 86 = .ok (.invokestatic 119, 3) := by decide +kernel
theorem dX7_back_89 : decode cX7_back 89 = .ok (.aload_n 0, 1) := by decide +kernel
theorem dX7_back_90 : decode cX7_back 90 = .ok (.getfield 42, 3) := by decide +kernel
theorem dX7_back_93 : decode cX7_back 93 = .ok (.invokevirtual 218, 3) := by decide +kernel
theorem dX7_back_96 : decode cX7_back 96 = .ok (.aload_n 0, 1) := by decide +kernel
theorem dX7_back_97 : decode cX7_back 97 = .ok (.getfield 42, 3) := by decide +kernel
theorem dX7_back_100 : decode cX7_back 100 = .ok (.invokevirtual 215, 3) := by decide +kernel
theorem dX7_back_103 : decode cX7_back 103 = .ok (.ireturn, 1) := by decide +kernel
theorem dX7_count_0 : decode cX7_count 0 = .ok (.iload_n 1, 1) := by decide +kernel
theorem dX7_count_1 : decode cX7_count 1 = .ok (.tableswitch 51 0 2 #[27, 35, 43], 27) := by decide +kernel
theorem dX7_count_28 : decode cX7_count 28 = .ok (.aload_n 0, 1) := by decide +kernel
theorem dX7_count_29 : decode cX7_count 29 = .ok (.getfield 42, 3) := by decide +kernel
theorem dX7_count_32 : decode cX7_count 32 = .ok (.invokevirtual 221, 3) := by decide +kernel
theorem dX7_count_35 : decode cX7_count 35 = .ok (.ireturn, 1) := by decide +kernel
theorem dX7_count_36 : decode cX7_count 36 = .ok (.aload_n 0, 1) := by decide +kernel
theorem dX7_count_37 : decode cX7_count 37 = .ok (.getfield 42, 3) := by decide +kernel
theorem dX7_count_40 : decode cX7_count 40 = .ok (.getfield 197, 3) := by decide +kernel
theorem dX7_count_43 : decode cX7_count 43 = .ok (.ireturn, 1) := by decide +kernel
theorem dX7_count_44 : decode cX7_count 44 = .ok (.aload_n 0, 1) := by decide +kernel
theorem dX7_count_45 : decode cX7_count 45 = .ok (.getfield 19, 3) := by decide +kernel
theorem dX7_count_48 : decode cX7_count 48 = .ok (.getfield 70, 3) := by decide +kernel
theorem dX7_count_51 : decode cX7_count 51 = .ok (.ireturn, 1) := by decide +kernel
theorem dX7_count_52 : decode cX7_count 52 = .ok (.iload_n 1, 1) := by decide +kernel
theorem dX7_count_53 : decode cX7_count 53 = .ok (.iconst 3, 1) := by decide +kernel
theorem dX7_count_54 : decode cX7_count 54 = .ok (.isub, 1) := by decide +kernel
theorem dX7_count_55 : decode cX7_count 55 = .ok (.invokestatic 81, 3) := by decide +kernel
theorem dX7_count_58 : decode cX7_count 58 = .ok (.ifCond .eq 17, 3) := by decide +kernel
theorem dX7_count_61 : decode cX7_count 61 = .ok (.aload_n 0, 1) := by decide +kernel
theorem dX7_count_62 : decode cX7_count 62 = .ok (.getfield 34, 3) := by decide +kernel
theorem dX7_count_65 : decode cX7_count 65 = .ok (.iload_n 1, 1) := by decide +kernel
theorem dX7_count_66 : decode cX7_count 66 = .ok (.iconst 3, 1) := by decide +kernel
theorem dX7_count_67 : decode cX7_count 67 = .ok (.isub, 1) := by decide +kernel
theorem dX7_count_68 : decode cX7_count 68 = .ok (.aaload, 1) := by decide +kernel
theorem dX7_count_69 : decode cX7_count 69 = .ok (.invokevirtual 224, 3) := by decide +kernel
theorem dX7_count_72 : decode cX7_count 72 = .ok (.goto 5, 3) := by decide +kernel
theorem dX7_count_75 : decode cX7_count 75 = .ok (.bipush (-3), 2) := by decide +kernel
theorem dX7_count_77 : decode cX7_count 77 = .ok (.ireturn, 1) := by decide +kernel
theorem dX7_isRow_0 : decode cX7_isRow 0 = .ok (.iload_n 0, 1) := by decide +kernel
theorem dX7_isRow_1 : decode cX7_isRow 1 = .ok (.ifCond .lt 12, 3) := by decide +kernel
theorem dX7_isRow_4 : decode cX7_isRow 4 = .ok (.iload_n 0, 1) := by decide +kernel
theorem dX7_isRow_5 : decode cX7_isRow 5 = .ok (.iconst 4, 1) := by decide +kernel
theorem dX7_isRow_6 : decode cX7_isRow 6 = .ok (.if_icmp .ge 7, 3) := by decide +kernel
theorem dX7_isRow_9 : decode cX7_isRow 9 = .ok (.iconst 1, 1) := by decide +kernel
theorem dX7_isRow_10 : decode cX7_isRow 10 = .ok (.goto 4, 3) := by decide +kernel
theorem dX7_isRow_13 : decode cX7_isRow 13 = .ok (.iconst 0, 1) := by decide +kernel
theorem dX7_isRow_14 : decode cX7_isRow 14 = .ok (.ireturn, 1) := by decide +kernel
theorem dX7_isPower_0 : decode cX7_isPower 0 = .ok (.iload_n 0, 1) := by decide +kernel
theorem dX7_isPower_1 : decode cX7_isPower 1 = .ok (.ifCond .lt 13, 3) := by decide +kernel
theorem dX7_isPower_4 : decode cX7_isPower 4 = .ok (.iload_n 0, 1) := by decide +kernel
theorem dX7_isPower_5 : decode cX7_isPower 5 = .ok (.bipush 8, 2) := by decide +kernel
theorem dX7_isPower_7 : decode cX7_isPower 7 = .ok (.if_icmp .gt 7, 3) := by decide +kernel
theorem dX7_isPower_10 : decode cX7_isPower 10 = .ok (.iconst 1, 1) := by decide +kernel
theorem dX7_isPower_11 : decode cX7_isPower 11 = .ok (.goto 4, 3) := by decide +kernel
theorem dX7_isPower_14 : decode cX7_isPower 14 = .ok (.iconst 0, 1) := by decide +kernel
theorem dX7_isPower_15 : decode cX7_isPower 15 = .ok (.ireturn, 1) := by decide +kernel
theorem dX7_isKeptPlace_0 : decode cX7_isKeptPlace 0 = .ok (.iload_n 0, 1) := by decide +kernel
theorem dX7_isKeptPlace_1 : decode cX7_isKeptPlace 1 = .ok (.ifCond .lt 12, 3) := by decide +kernel
theorem dX7_isKeptPlace_4 : decode cX7_isKeptPlace 4 = .ok (.iload_n 0, 1) := by decide +kernel
theorem dX7_isKeptPlace_5 : decode cX7_isKeptPlace 5 = .ok (.iconst 2, 1) := by decide +kernel
theorem dX7_isKeptPlace_6 : decode cX7_isKeptPlace 6 = .ok (.if_icmp .ge 7, 3) := by decide +kernel
theorem dX7_isKeptPlace_9 : decode cX7_isKeptPlace 9 = .ok (.iconst 1, 1) := by decide +kernel
theorem dX7_isKeptPlace_10 : decode cX7_isKeptPlace 10 = .ok (.goto 4, 3) := by decide +kernel
theorem dX7_isKeptPlace_13 : decode cX7_isKeptPlace 13 = .ok (.iconst 0, 1) := by decide +kernel
theorem dX7_isKeptPlace_14 : decode cX7_isKeptPlace 14 = .ok (.ireturn, 1) := by decide +kernel
theorem dX7_copy_0 : decode cX7_copy 0 = .ok (.aload_n 0, 1) := by decide +kernel
theorem dX7_copy_1 : decode cX7_copy 1 = .ok (.iconst 0, 1) := by decide +kernel
theorem dX7_copy_2 : decode cX7_copy 2 = .ok (.aload_n 1, 1) := by decide +kernel
theorem dX7_copy_3 : decode cX7_copy 3 = .ok (.iconst 0, 1) := by decide +kernel
theorem dX7_copy_4 : decode cX7_copy 4 = .ok (.bipush 9, 2) := by decide +kernel
theorem dX7_copy_6 : decode cX7_copy 6 = .ok (.invokestatic 227, 3) := by decide +kernel
theorem dX7_copy_9 : decode cX7_copy 9 = .ok (.return_, 1) := by decide +kernel
theorem dX7_areAlike_0 : decode cX7_areAlike 0 = .ok (.iconst 0, 1) := by decide +kernel
theorem dX7_areAlike_1 : decode cX7_areAlike 1 = .ok (.istore_n 2, 1) := by decide +kernel
theorem dX7_areAlike_2 : decode cX7_areAlike 2 = .ok (.iload_n 2, 1) := by decide +kernel
theorem dX7_areAlike_3 : decode cX7_areAlike 3 = .ok (.bipush 9, 2) := by decide +kernel
theorem dX7_areAlike_5 : decode cX7_areAlike 5 = .ok (.if_icmp .ge 20, 3) := by decide +kernel
theorem dX7_areAlike_8 : decode cX7_areAlike 8 = .ok (.aload_n 0, 1) := by decide +kernel
theorem dX7_areAlike_9 : decode cX7_areAlike 9 = .ok (.iload_n 2, 1) := by decide +kernel
theorem dX7_areAlike_10 : decode cX7_areAlike 10 = .ok (.iaload, 1) := by decide +kernel
theorem dX7_areAlike_11 : decode cX7_areAlike 11 = .ok (.aload_n 1, 1) := by decide +kernel
theorem dX7_areAlike_12 : decode cX7_areAlike 12 = .ok (.iload_n 2, 1) := by decide +kernel
theorem dX7_areAlike_13 : decode cX7_areAlike 13 = .ok (.iaload, 1) := by decide +kernel
theorem dX7_areAlike_14 : decode cX7_areAlike 14 = .ok (.if_icmp .eq 5, 3) := by decide +kernel
theorem dX7_areAlike_17 : decode cX7_areAlike 17 = .ok (.iconst 0, 1) := by decide +kernel
theorem dX7_areAlike_18 : decode cX7_areAlike 18 = .ok (.ireturn, 1) := by decide +kernel
theorem dX7_areAlike_19 : decode cX7_areAlike 19 = .ok (.iinc 2 1, 3) := by decide +kernel
theorem dX7_areAlike_22 : decode cX7_areAlike 22 = .ok (.goto (-20), 3) := by decide +kernel
theorem dX7_areAlike_25 : decode cX7_areAlike 25 = .ok (.iconst 1, 1) := by decide +kernel
theorem dX7_areAlike_26 : decode cX7_areAlike 26 = .ok (.ireturn, 1) := by decide +kernel
theorem dX7_setMonomial_0 : decode cX7_setMonomial 0 = .ok (.iconst 0, 1) := by decide +kernel
theorem dX7_setMonomial_1 : decode cX7_setMonomial 1 = .ok (.istore_n 3, 1) := by decide +kernel
theorem dX7_setMonomial_2 : decode cX7_setMonomial 2 = .ok (.iload_n 3, 1) := by decide +kernel
theorem dX7_setMonomial_3 : decode cX7_setMonomial 3 = .ok (.bipush 9, 2) := by decide +kernel
theorem dX7_setMonomial_5 : decode cX7_setMonomial 5 = .ok (.if_icmp .ge 22, 3) := by decide +kernel
theorem dX7_setMonomial_8 : decode cX7_setMonomial 8 = .ok (.aload_n 0, 1) := by decide +kernel
theorem dX7_setMonomial_9 : decode cX7_setMonomial 9 = .ok (.iload_n 3, 1) := by decide +kernel
theorem dX7_setMonomial_10 : decode cX7_setMonomial 10 = .ok (.iload_n 3, 1) := by decide +kernel
theorem dX7_setMonomial_11 : decode cX7_setMonomial 11 = .ok (.iload_n 1, 1) := by decide +kernel
theorem dX7_setMonomial_12 : decode cX7_setMonomial 12 = .ok (.if_icmp .ne 7, 3) := by decide +kernel
theorem dX7_setMonomial_15 : decode cX7_setMonomial 15 = .ok (.iload_n 2, 1) := by decide +kernel
theorem dX7_setMonomial_16 : decode cX7_setMonomial 16 = .ok (.goto 4, 3) := by decide +kernel
theorem dX7_setMonomial_19 : decode cX7_setMonomial 19 = .ok (.iconst 0, 1) := by decide +kernel
theorem dX7_setMonomial_20 : decode cX7_setMonomial 20 = .ok (.iastore, 1) := by decide +kernel
theorem dX7_setMonomial_21 : decode cX7_setMonomial 21 = .ok (.iinc 3 1, 3) := by decide +kernel
theorem dX7_setMonomial_24 : decode cX7_setMonomial 24 = .ok (.goto (-22), 3) := by decide +kernel
theorem dX7_setMonomial_27 : decode cX7_setMonomial 27 = .ok (.return_, 1) := by decide +kernel
theorem dX7_addMultiple_0 : decode cX7_addMultiple 0 = .ok (.iconst 0, 1) := by decide +kernel
theorem dX7_addMultiple_1 : decode cX7_addMultiple 1 = .ok (.istore_n 3, 1) := by decide +kernel
theorem dX7_addMultiple_2 : decode cX7_addMultiple 2 = .ok (.iload_n 3, 1) := by decide +kernel
theorem dX7_addMultiple_3 : decode cX7_addMultiple 3 = .ok (.bipush 9, 2) := by decide +kernel
theorem dX7_addMultiple_5 : decode cX7_addMultiple 5 = .ok (.if_icmp .ge 25, 3) := by decide +kernel
theorem dX7_addMultiple_8 : decode cX7_addMultiple 8 = .ok (.aload_n 0, 1) := by decide +kernel
theorem dX7_addMultiple_9 : decode cX7_addMultiple 9 = .ok (.iload_n 3, 1) := by decide +kernel
theorem dX7_addMultiple_10 : decode cX7_addMultiple 10 = .ok (.aload_n 0, 1) := by decide +kernel
theorem dX7_addMultiple_11 : decode cX7_addMultiple 11 = .ok (.iload_n 3, 1) := by decide +kernel
theorem dX7_addMultiple_12 : decode cX7_addMultiple 12 = .ok (.iaload, 1) := by decide +kernel
theorem dX7_addMultiple_13 : decode cX7_addMultiple 13 = .ok (.aload_n 1, 1) := by decide +kernel
theorem dX7_addMultiple_14 : decode cX7_addMultiple 14 = .ok (.iload_n 3, 1) := by decide +kernel
theorem dX7_addMultiple_15 : decode cX7_addMultiple 15 = .ok (.iaload, 1) := by decide +kernel
theorem dX7_addMultiple_16 : decode cX7_addMultiple 16 = .ok (.iload_n 2, 1) := by decide +kernel
theorem dX7_addMultiple_17 : decode cX7_addMultiple 17 = .ok (.invokestatic 192, 3) := by decide +kernel
theorem dX7_addMultiple_20 : decode cX7_addMultiple 20 = .ok (.invokestatic 200, 3) := by decide +kernel
theorem dX7_addMultiple_23 : decode cX7_addMultiple 23 = .ok (.iastore, 1) := by decide +kernel
theorem dX7_addMultiple_24 : decode cX7_addMultiple 24 = .ok (.iinc 3 1, 3) := by decide +kernel
theorem dX7_addMultiple_27 : decode cX7_addMultiple 27 = .ok (.goto (-25), 3) := by decide +kernel
theorem dX7_addMultiple_30 : decode cX7_addMultiple 30 = .ok (.return_, 1) := by decide +kernel
theorem dX7_moveUp_0 : decode cX7_moveUp 0 = .ok (.bipush 8, 2) := by decide +kernel
theorem dX7_moveUp_2 : decode cX7_moveUp 2 = .ok (.istore_n 1, 1) := by decide +kernel
theorem dX7_moveUp_3 : decode cX7_moveUp 3 = .ok (.iload_n 1, 1) := by decide +kernel
theorem dX7_moveUp_4 : decode cX7_moveUp 4 = .ok (.ifCond .le 17, 3) := by decide +kernel
theorem dX7_moveUp_7 : decode cX7_moveUp 7 = .ok (.aload_n 0, 1) := by decide +kernel
theorem dX7_moveUp_8 : decode cX7_moveUp 8 = .ok (.iload_n 1, 1) := by decide +kernel
theorem dX7_moveUp_9 : decode cX7_moveUp 9 = .ok (.aload_n 0, 1) := by decide +kernel
theorem dX7_moveUp_10 : decode cX7_moveUp 10 = .ok (.iload_n 1, 1) := by decide +kernel
theorem dX7_moveUp_11 : decode cX7_moveUp 11 = .ok (.iconst 1, 1) := by decide +kernel
theorem dX7_moveUp_12 : decode cX7_moveUp 12 = .ok (.isub, 1) := by decide +kernel
theorem dX7_moveUp_13 : decode cX7_moveUp 13 = .ok (.iaload, 1) := by decide +kernel
theorem dX7_moveUp_14 : decode cX7_moveUp 14 = .ok (.iastore, 1) := by decide +kernel
theorem dX7_moveUp_15 : decode cX7_moveUp 15 = .ok (.iinc 1 (-1), 3) := by decide +kernel
theorem dX7_moveUp_18 : decode cX7_moveUp 18 = .ok (.goto (-15), 3) := by decide +kernel
theorem dX7_moveUp_21 : decode cX7_moveUp 21 = .ok (.aload_n 0, 1) := by decide +kernel
theorem dX7_moveUp_22 : decode cX7_moveUp 22 = .ok (.iconst 0, 1) := by decide +kernel
theorem dX7_moveUp_23 : decode cX7_moveUp 23 = .ok (.iconst 0, 1) := by decide +kernel
theorem dX7_moveUp_24 : decode cX7_moveUp 24 = .ok (.iastore, 1) := by decide +kernel
theorem dX7_moveUp_25 : decode cX7_moveUp 25 = .ok (.return_, 1) := by decide +kernel
theorem dX7_valueAt_0 : decode cX7_valueAt 0 = .ok (.iconst 0, 1) := by decide +kernel
theorem dX7_valueAt_1 : decode cX7_valueAt 1 = .ok (.istore_n 2, 1) := by decide +kernel
theorem dX7_valueAt_2 : decode cX7_valueAt 2 = .ok (.bipush 8, 2) := by decide +kernel
theorem dX7_valueAt_4 : decode cX7_valueAt 4 = .ok (.istore_n 3, 1) := by decide +kernel
theorem dX7_valueAt_5 : decode cX7_valueAt 5 = .ok (.iload_n 3, 1) := by decide +kernel
theorem dX7_valueAt_6 : decode cX7_valueAt 6 = .ok (.ifCond .lt 21, 3) := by decide +kernel
theorem dX7_valueAt_9 : decode cX7_valueAt 9 = .ok (.iload_n 2, 1) := by decide +kernel
theorem dX7_valueAt_10 : decode cX7_valueAt 10 = .ok (.iload_n 1, 1) := by decide +kernel
theorem dX7_valueAt_11 : decode cX7_valueAt 11 = .ok (.invokestatic 192, 3) := by decide +kernel
theorem dX7_valueAt_14 : decode cX7_valueAt 14 = .ok (.aload_n 0, 1) := by decide +kernel
theorem dX7_valueAt_15 : decode cX7_valueAt 15 = .ok (.iload_n 3, 1) := by decide +kernel
theorem dX7_valueAt_16 : decode cX7_valueAt 16 = .ok (.iaload, 1) := by decide +kernel
theorem dX7_valueAt_17 : decode cX7_valueAt 17 = .ok (.invokestatic 200, 3) := by decide +kernel
theorem dX7_valueAt_20 : decode cX7_valueAt 20 = .ok (.istore_n 2, 1) := by decide +kernel
theorem dX7_valueAt_21 : decode cX7_valueAt 21 = .ok (.iinc 3 (-1), 3) := by decide +kernel
theorem dX7_valueAt_24 : decode cX7_valueAt 24 = .ok (.goto (-19), 3) := by decide +kernel
theorem dX7_valueAt_27 : decode cX7_valueAt 27 = .ok (.iload_n 2, 1) := by decide +kernel
theorem dX7_valueAt_28 : decode cX7_valueAt 28 = .ok (.ireturn, 1) := by decide +kernel
