theorem dX0_limbAt_0 : decode cX0_limbAt 0 = .ok (.iload_n 1, 1) := by decide +kernel
theorem dX0_limbAt_1 : decode cX0_limbAt 1 = .ok (.ifCond .lt 15, 3) := by decide +kernel
theorem dX0_limbAt_4 : decode cX0_limbAt 4 = .ok (.iload_n 1, 1) := by decide +kernel
theorem dX0_limbAt_5 : decode cX0_limbAt 5 = .ok (.aload_n 0, 1) := by decide +kernel
theorem dX0_limbAt_6 : decode cX0_limbAt 6 = .ok (.arraylength, 1) := by decide +kernel
theorem dX0_limbAt_7 : decode cX0_limbAt 7 = .ok (.if_icmp .ge 9, 3) := by decide +kernel
theorem dX0_limbAt_10 : decode cX0_limbAt 10 = .ok (.aload_n 0, 1) := by decide +kernel
theorem dX0_limbAt_11 : decode cX0_limbAt 11 = .ok (.iload_n 1, 1) := by decide +kernel
theorem dX0_limbAt_12 : decode cX0_limbAt 12 = .ok (.laload, 1) := by decide +kernel
theorem dX0_limbAt_13 : decode cX0_limbAt 13 = .ok (.goto 4, 3) := by decide +kernel
theorem dX0_limbAt_16 : decode cX0_limbAt 16 = .ok (.lconst 0, 1) := by decide +kernel
theorem dX0_limbAt_17 : decode cX0_limbAt 17 = .ok (.lreturn, 1) := by decide +kernel
theorem dX0_used_0 : decode cX0_used 0 = .ok (.aload_n 0, 1) := by decide +kernel
theorem dX0_used_1 : decode cX0_used 1 = .ok (.arraylength, 1) := by decide +kernel
theorem dX0_used_2 : decode cX0_used 2 = .ok (.iconst 1, 1) := by decide +kernel
theorem dX0_used_3 : decode cX0_used 3 = .ok (.isub, 1) := by decide +kernel
theorem dX0_used_4 : decode cX0_used 4 = .ok (.istore_n 1, 1) := by decide +kernel
theorem dX0_used_5 : decode cX0_used 5 = .ok (.iload_n 1, 1) := by decide +kernel
theorem dX0_used_6 : decode cX0_used 6 = .ok (.ifCond .lt 21, 3) := by decide +kernel
theorem dX0_used_9 : decode cX0_used 9 = .ok (.aload_n 0, 1) := by decide +kernel
theorem dX0_used_10 : decode cX0_used 10 = .ok (.iload_n 1, 1) := by decide +kernel
theorem dX0_used_11 : decode cX0_used 11 = .ok (.laload, 1) := by decide +kernel
theorem dX0_used_12 : decode cX0_used 12 = .ok (.lconst 0, 1) := by decide +kernel
theorem dX0_used_13 : decode cX0_used 13 = .ok (.lcmp, 1) := by decide +kernel
theorem dX0_used_14 : decode cX0_used 14 = .ok (.ifCond .eq 7, 3) := by decide +kernel
theorem dX0_used_17 : decode cX0_used 17 = .ok (.iload_n 1, 1) := by decide +kernel
theorem dX0_used_18 : decode cX0_used 18 = .ok (.iconst 1, 1) := by decide +kernel
theorem dX0_used_19 : decode cX0_used 19 = .ok (.iadd, 1) := by decide +kernel
theorem dX0_used_20 : decode cX0_used 20 = .ok (.ireturn, 1) := by decide +kernel
theorem dX0_used_21 : decode cX0_used 21 = .ok (.iinc 1 (-1), 3) := by decide +kernel
theorem dX0_used_24 : decode cX0_used 24 = .ok (.goto (-19), 3) := by decide +kernel
theorem dX0_used_27 : decode cX0_used 27 = .ok (.iconst 0, 1) := by decide +kernel
theorem dX0_used_28 : decode cX0_used 28 = .ok (.ireturn, 1) := by decide +kernel
theorem dX0_bitLength_0 : decode cX0_bitLength 0 = .ok (.aload_n 0, 1) := by decide +kernel
theorem dX0_bitLength_1 : decode cX0_bitLength 1 = .ok (.invokestatic 9, 3) := by decide +kernel
theorem dX0_bitLength_4 : decode cX0_bitLength 4 = .ok (.istore_n 1, 1) := by decide +kernel
theorem dX0_bitLength_5 : decode cX0_bitLength 5 = .ok (.iload_n 1, 1) := by decide +kernel
theorem dX0_bitLength_6 : decode cX0_bitLength 6 = .ok (.ifCond .ne 7, 3) := by decide +kernel
theorem dX0_bitLength_9 : decode cX0_bitLength 9 = .ok (.iconst 0, 1) := by decide +kernel
theorem dX0_bitLength_10 : decode cX0_bitLength 10 = .ok (.goto 19, 3) := by decide +kernel
theorem dX0_bitLength_13 : decode cX0_bitLength 13 = .ok (.iload_n 1, 1) := by decide +kernel
theorem dX0_bitLength_14 : decode cX0_bitLength 14 = .ok (.bipush 32, 2) := by decide +kernel
theorem dX0_bitLength_16 : decode cX0_bitLength 16 = .ok (.imul, 1) := by decide +kernel
theorem dX0_bitLength_17 : decode cX0_bitLength 17 = .ok (.aload_n 0, 1) := by decide +kernel
theorem dX0_bitLength_18 : decode cX0_bitLength 18 = .ok (.iload_n 1, 1) := by decide +kernel
theorem dX0_bitLength_19 : decode cX0_bitLength 19 = .ok (.iconst 1, 1) := by decide +kernel
theorem dX0_bitLength_20 : decode cX0_bitLength 20 = .ok (.isub, 1) := by decide +kernel
theorem dX0_bitLength_21 : decode cX0_bitLength 21 = .ok (.laload, 1) := by decide +kernel
theorem dX0_bitLength_22 : decode cX0_bitLength 22 = .ok (.invokestatic 15, 3) := by decide +kernel
theorem dX0_bitLength_25 : decode cX0_bitLength 25 = .ok (.bipush 32, 2) := by decide +kernel
theorem dX0_bitLength_27 : decode cX0_bitLength 27 = .ok (.isub, 1) := by decide +kernel
theorem dX0_bitLength_28 : decode cX0_bitLength 28 = .ok (.isub, 1) := by decide +kernel
theorem dX0_bitLength_29 : decode cX0_bitLength 29 = .ok (.ireturn, 1) := by decide +kernel
theorem dX0_lowZeros_0 : decode cX0_lowZeros 0 = .ok (.iconst 0, 1) := by decide +kernel
theorem dX0_lowZeros_1 : decode cX0_lowZeros 1 = .ok (.istore_n 1, 1) := by decide +kernel
theorem dX0_lowZeros_2 : decode cX0_lowZeros 2 = .ok (.iload_n 1, 1) := by decide +kernel
theorem dX0_lowZeros_3 : decode cX0_lowZeros 3 = .ok (.aload_n 0, 1) := by decide +kernel
theorem dX0_lowZeros_4 : decode cX0_lowZeros 4 = .ok (.arraylength, 1) := by decide +kernel
theorem dX0_lowZeros_5 : decode cX0_lowZeros 5 = .ok (.if_icmp .ge 29, 3) := by decide +kernel
theorem dX0_lowZeros_8 : decode cX0_lowZeros 8 = .ok (.aload_n 0, 1) := by decide +kernel
theorem dX0_lowZeros_9 : decode cX0_lowZeros 9 = .ok (.iload_n 1, 1) := by decide +kernel
theorem dX0_lowZeros_10 : decode cX0_lowZeros 10 = .ok (.laload, 1) := by decide +kernel
theorem dX0_lowZeros_11 : decode cX0_lowZeros 11 = .ok (.lconst 0, 1) := by decide +kernel
theorem dX0_lowZeros_12 : decode cX0_lowZeros 12 = .ok (.lcmp, 1) := by decide +kernel
theorem dX0_lowZeros_13 : decode cX0_lowZeros 13 = .ok (.ifCond .eq 15, 3) := by decide +kernel
theorem dX0_lowZeros_16 : decode cX0_lowZeros 16 = .ok (.iload_n 1, 1) := by decide +kernel
theorem dX0_lowZeros_17 : decode cX0_lowZeros 17 = .ok (.bipush 32, 2) := by decide +kernel
theorem dX0_lowZeros_19 : decode cX0_lowZeros 19 = .ok (.imul, 1) := by decide +kernel
theorem dX0_lowZeros_20 : decode cX0_lowZeros 20 = .ok (.aload_n 0, 1) := by decide +kernel
theorem dX0_lowZeros_21 : decode cX0_lowZeros 21 = .ok (.iload_n 1, 1) := by decide +kernel
theorem dX0_lowZeros_22 : decode cX0_lowZeros 22 = .ok (.laload, 1) := by decide +kernel
theorem dX0_lowZeros_23 : decode cX0_lowZeros 23 = .ok (.invokestatic 21, 3) := by decide +kernel
theorem dX0_lowZeros_26 : decode cX0_lowZeros 26 = .ok (.iadd, 1) := by decide +kernel
theorem dX0_lowZeros_27 : decode cX0_lowZeros 27 = .ok (.ireturn, 1) := by decide +kernel
theorem dX0_lowZeros_28 : decode cX0_lowZeros 28 = .ok (.iinc 1 1, 3) := by decide +kernel
theorem dX0_lowZeros_31 : decode cX0_lowZeros 31 = .ok (.goto (-29), 3) := by decide +kernel
theorem dX0_lowZeros_34 : decode cX0_lowZeros 34 = .ok (.aload_n 0, 1) := by decide +kernel
theorem dX0_lowZeros_35 : decode cX0_lowZeros 35 = .ok (.arraylength, 1) := by decide +kernel
theorem dX0_lowZeros_36 : decode cX0_lowZeros 36 = .ok (.bipush 32, 2) := by decide +kernel
theorem dX0_lowZeros_38 : decode cX0_lowZeros 38 = .ok (.imul, 1) := by decide +kernel
theorem dX0_lowZeros_39 : decode cX0_lowZeros 39 = .ok (.ireturn, 1) := by decide +kernel
theorem dX0_order_0 : decode cX0_order 0 = .ok (.bipush 15, 2) := by decide +kernel
theorem dX0_order_2 : decode cX0_order 2 = .ok (.istore_n 2, 1) := by decide +kernel
theorem dX0_order_3 : decode cX0_order 3 = .ok (.iload_n 2, 1) := by decide +kernel
theorem dX0_order_4 : decode cX0_order 4 = .ok (.ifCond .lt 43, 3) := by decide +kernel
theorem dX0_order_7 : decode cX0_order 7 = .ok (.aload_n 0, 1) := by decide +kernel
theorem dX0_order_8 : decode cX0_order 8 = .ok (.iload_n 2, 1) := by decide +kernel
theorem dX0_order_9 : decode cX0_order 9 = .ok (.invokestatic 24, 3) := by decide +kernel
theorem dX0_order_12 : decode cX0_order 12 = .ok (.aload_n 1, 1) := by decide +kernel
theorem dX0_order_13 : decode cX0_order 13 = .ok (.iload_n 2, 1) := by decide +kernel
theorem dX0_order_14 : decode cX0_order 14 = .ok (.invokestatic 24, 3) := by decide +kernel
theorem dX0_order_17 : decode cX0_order 17 = .ok (.lcmp, 1) := by decide +kernel
theorem dX0_order_18 : decode cX0_order 18 = .ok (.ifCond .eq 23, 3) := by decide +kernel
theorem dX0_order_21 : decode cX0_order 21 = .ok (.aload_n 0, 1) := by decide +kernel
theorem dX0_order_22 : decode cX0_order 22 = .ok (.iload_n 2, 1) := by decide +kernel
theorem dX0_order_23 : decode cX0_order 23 = .ok (.invokestatic 24, 3) := by decide +kernel
theorem dX0_order_26 : decode cX0_order 26 = .ok (.aload_n 1, 1) := by decide +kernel
theorem dX0_order_27 : decode cX0_order 27 = .ok (.iload_n 2, 1) := by decide +kernel
theorem dX0_order_28 : decode cX0_order 28 = .ok (.invokestatic 24, 3) := by decide +kernel
theorem dX0_order_31 : decode cX0_order 31 = .ok (.lcmp, 1) := by decide +kernel
theorem dX0_order_32 : decode cX0_order 32 = .ok (.ifCond .ge 7, 3) := by decide +kernel
theorem dX0_order_35 : decode cX0_order 35 = .ok (.iconst (-1), 1) := by decide +kernel
theorem dX0_order_36 : decode cX0_order 36 = .ok (.goto 4, 3) := by decide +kernel
theorem dX0_order_39 : decode cX0_order 39 = .ok (.iconst 1, 1) := by decide +kernel
theorem dX0_order_40 : decode cX0_order 40 = .ok (.ireturn, 1) := by decide +kernel
theorem dX0_order_41 : decode cX0_order 41 = .ok (.iinc 2 (-1), 3) := by decide +kernel
theorem dX0_order_44 : decode cX0_order 44 = .ok (.goto (-41), 3) := by decide +kernel
theorem dX0_order_47 : decode cX0_order 47 = .ok (.iconst 0, 1) := by decide +kernel
theorem dX0_order_48 : decode cX0_order 48 = .ok (.ireturn, 1) := by decide +kernel
theorem dX0_copy_0 : decode cX0_copy 0 = .ok (.iconst 0, 1) := by decide +kernel
theorem dX0_copy_1 : decode cX0_copy 1 = .ok (.istore_n 2, 1) := by decide +kernel
theorem dX0_copy_2 : decode cX0_copy 2 = .ok (.iload_n 2, 1) := by decide +kernel
theorem dX0_copy_3 : decode cX0_copy 3 = .ok (.aload_n 1, 1) := by decide +kernel
theorem dX0_copy_4 : decode cX0_copy 4 = .ok (.arraylength, 1) := by decide +kernel
theorem dX0_copy_5 : decode cX0_copy 5 = .ok (.if_icmp .ge 17, 3) := by decide +kernel
theorem dX0_copy_8 : decode cX0_copy 8 = .ok (.aload_n 1, 1) := by decide +kernel
theorem dX0_copy_9 : decode cX0_copy 9 = .ok (.iload_n 2, 1) := by decide +kernel
theorem dX0_copy_10 : decode cX0_copy 10 = .ok (.aload_n 0, 1) := by decide +kernel
theorem dX0_copy_11 : decode cX0_copy 11 = .ok (.iload_n 2, 1) := by decide +kernel
theorem dX0_copy_12 : decode cX0_copy 12 = .ok (.invokestatic 24, 3) := by decide +kernel
theorem dX0_copy_15 : decode cX0_copy 15 = .ok (.lastore, 1) := by decide +kernel
theorem dX0_copy_16 : decode cX0_copy 16 = .ok (.iinc 2 1, 3) := by decide +kernel
theorem dX0_copy_19 : decode cX0_copy 19 = .ok (.goto (-17), 3) := by decide +kernel
theorem dX0_copy_22 : decode cX0_copy 22 = .ok (.return_, 1) := by decide +kernel
theorem dX0_increase_0 : decode cX0_increase 0 = .ok (.iconst 0, 1) := by decide +kernel
theorem dX0_increase_1 : decode cX0_increase 1 = .ok (.istore_n 1, 1) := by decide +kernel
theorem dX0_increase_2 : decode cX0_increase 2 = .ok (.iload_n 1, 1) := by decide +kernel
theorem dX0_increase_3 : decode cX0_increase 3 = .ok (.aload_n 0, 1) := by decide +kernel
theorem dX0_increase_4 : decode cX0_increase 4 = .ok (.arraylength, 1) := by decide +kernel
theorem dX0_increase_5 : decode cX0_increase 5 = .ok (.if_icmp .ge 30, 3) := by decide +kernel
theorem dX0_increase_8 : decode cX0_increase 8 = .ok (.aload_n 0, 1) := by decide +kernel
theorem dX0_increase_9 : decode cX0_increase 9 = .ok (.iload_n 1, 1) := by decide +kernel
theorem dX0_increase_10 : decode cX0_increase 10 = .ok (.aload_n 0, 1) := by decide +kernel
theorem dX0_increase_11 : decode cX0_increase 11 = .ok (.iload_n 1, 1) := by decide +kernel
theorem dX0_increase_12 : decode cX0_increase 12 = .ok (.laload, 1) := by decide +kernel
theorem dX0_increase_13 : decode cX0_increase 13 = .ok (.lconst 1, 1) := by decide +kernel
theorem dX0_increase_14 : decode cX0_increase 14 = .ok (.ladd, 1) := by decide +kernel
theorem dX0_increase_15 : decode cX0_increase 15 = .ok (.ldc2_w 28, 3) := by decide +kernel
theorem dX0_increase_18 : decode cX0_increase 18 = .ok (.land, 1) := by decide +kernel
theorem dX0_increase_19 : decode cX0_increase 19 = .ok (.lastore, 1) := by decide +kernel
theorem dX0_increase_20 : decode cX0_increase 20 = .ok (.aload_n 0, 1) := by decide +kernel
theorem dX0_increase_21 : decode cX0_increase 21 = .ok (.iload_n 1, 1) := by decide +kernel
theorem dX0_increase_22 : decode cX0_increase 22 = .ok (.laload, 1) := by decide +kernel
theorem dX0_increase_23 : decode cX0_increase 23 = .ok (.lconst 0, 1) := by decide +kernel
theorem dX0_increase_24 : decode cX0_increase 24 = .ok (.lcmp, 1) := by decide +kernel
theorem dX0_increase_25 : decode cX0_increase 25 = .ok (.ifCond .eq 4, 3) := by decide +kernel
theorem dX0_increase_28 : decode cX0_increase 28 = .ok (.return_, 1) := by decide +kernel
theorem dX0_increase_29 : decode cX0_increase 29 = .ok (.iinc 1 1, 3) := by decide +kernel
theorem dX0_increase_32 : decode cX0_increase 32 = .ok (.goto (-30), 3) := by decide +kernel
theorem dX0_increase_35 : decode cX0_increase 35 = .ok (.return_, 1) := by decide +kernel
theorem dX0_decrease_0 : decode cX0_decrease 0 = .ok (.iconst 0, 1) := by decide +kernel
theorem dX0_decrease_1 : decode cX0_decrease 1 = .ok (.istore_n 1, 1) := by decide +kernel
theorem dX0_decrease_2 : decode cX0_decrease 2 = .ok (.iload_n 1, 1) := by decide +kernel
theorem dX0_decrease_3 : decode cX0_decrease 3 = .ok (.aload_n 0, 1) := by decide +kernel
theorem dX0_decrease_4 : decode cX0_decrease 4 = .ok (.arraylength, 1) := by decide +kernel
theorem dX0_decrease_5 : decode cX0_decrease 5 = .ok (.if_icmp .ge 32, 3) := by decide +kernel
theorem dX0_decrease_8 : decode cX0_decrease 8 = .ok (.aload_n 0, 1) := by decide +kernel
theorem dX0_decrease_9 : decode cX0_decrease 9 = .ok (.iload_n 1, 1) := by decide +kernel
theorem dX0_decrease_10 : decode cX0_decrease 10 = .ok (.aload_n 0, 1) := by decide +kernel
theorem dX0_decrease_11 : decode cX0_decrease 11 = .ok (.iload_n 1, 1) := by decide +kernel
theorem dX0_decrease_12 : decode cX0_decrease 12 = .ok (.laload, 1) := by decide +kernel
theorem dX0_decrease_13 : decode cX0_decrease 13 = .ok (.lconst 1, 1) := by decide +kernel
theorem dX0_decrease_14 : decode cX0_decrease 14 = .ok (.lsub, 1) := by decide +kernel
theorem dX0_decrease_15 : decode cX0_decrease 15 = .ok (.ldc2_w 28, 3) := by decide +kernel
theorem dX0_decrease_18 : decode cX0_decrease 18 = .ok (.land, 1) := by decide +kernel
theorem dX0_decrease_19 : decode cX0_decrease 19 = .ok (.lastore, 1) := by decide +kernel
theorem dX0_decrease_20 : decode cX0_decrease 20 = .ok (.aload_n 0, 1) := by decide +kernel
theorem dX0_decrease_21 : decode cX0_decrease 21 = .ok (.iload_n 1, 1) := by decide +kernel
theorem dX0_decrease_22 : decode cX0_decrease 22 = .ok (.laload, 1) := by decide +kernel
theorem dX0_decrease_23 : decode cX0_decrease 23 = .ok (.ldc2_w 28, 3) := by decide +kernel
theorem dX0_decrease_26 : decode cX0_decrease 26 = .ok (.lcmp, 1) := by decide +kernel
theorem dX0_decrease_27 : decode cX0_decrease 27 = .ok (.ifCond .eq 4, 3) := by decide +kernel
theorem dX0_decrease_30 : decode cX0_decrease 30 = .ok (.return_, 1) := by decide +kernel
theorem dX0_decrease_31 : decode cX0_decrease 31 = .ok (.iinc 1 1, 3) := by decide +kernel
theorem dX0_decrease_34 : decode cX0_decrease 34 = .ok (.goto (-32), 3) := by decide +kernel
theorem dX0_decrease_37 : decode cX0_decrease 37 = .ok (.return_, 1) := by decide +kernel
theorem dX0_negate_0 : decode cX0_negate 0 = .ok (.iconst 0, 1) := by decide +kernel
theorem dX0_negate_1 : decode cX0_negate 1 = .ok (.istore_n 1, 1) := by decide +kernel
theorem dX0_negate_2 : decode cX0_negate 2 = .ok (.iload_n 1, 1) := by decide +kernel
theorem dX0_negate_3 : decode cX0_negate 3 = .ok (.aload_n 0, 1) := by decide +kernel
theorem dX0_negate_4 : decode cX0_negate 4 = .ok (.arraylength, 1) := by decide +kernel
theorem dX0_negate_5 : decode cX0_negate 5 = .ok (.if_icmp .ge 23, 3) := by decide +kernel
theorem dX0_negate_8 : decode cX0_negate 8 = .ok (.aload_n 0, 1) := by decide +kernel
theorem dX0_negate_9 : decode cX0_negate 9 = .ok (.iload_n 1, 1) := by decide +kernel
theorem dX0_negate_10 : decode cX0_negate 10 = .ok (.aload_n 0, 1) := by decide +kernel
theorem dX0_negate_11 : decode cX0_negate 11 = .ok (.iload_n 1, 1) := by decide +kernel
theorem dX0_negate_12 : decode cX0_negate 12 = .ok (.laload, 1) := by decide +kernel
theorem dX0_negate_13 : decode cX0_negate 13 = .ok (.ldc2_w 30, 3) := by decide +kernel
theorem dX0_negate_16 : decode cX0_negate 16 = .ok (.lxor, 1) := by decide +kernel
theorem dX0_negate_17 : decode cX0_negate 17 = .ok (.ldc2_w 28, 3) := by decide +kernel
theorem dX0_negate_20 : decode cX0_negate 20 = .ok (.land, 1) := by decide +kernel
theorem dX0_negate_21 : decode cX0_negate 21 = .ok (.lastore, 1) := by decide +kernel
theorem dX0_negate_22 : decode cX0_negate 22 = .ok (.iinc 1 1, 3) := by decide +kernel
theorem dX0_negate_25 : decode cX0_negate 25 = .ok (.goto (-23), 3) := by decide +kernel
theorem dX0_negate_28 : decode cX0_negate 28 = .ok (.aload_n 0, 1) := by decide +kernel
theorem dX0_negate_29 : decode cX0_negate 29 = .ok (.invokestatic 32, 3) := by decide +kernel
theorem dX0_negate_32 : decode cX0_negate 32 = .ok (.return_, 1) := by decide +kernel
theorem dX0_add_0 : decode cX0_add 0 = .ok (.lconst 0, 1) := by decide +kernel
theorem dX0_add_1 : decode cX0_add 1 = .ok (.lstore_n 3, 1) := by decide +kernel
theorem dX0_add_2 : decode cX0_add 2 = .ok (.iconst 0, 1) := by decide +kernel
theorem dX0_add_3 : decode cX0_add 3 = .ok (.istore 5, 2) := by decide +kernel
theorem dX0_add_5 : decode cX0_add 5 = .ok (.iload 5, 2) := by decide +kernel
theorem dX0_add_7 : decode cX0_add 7 = .ok (.aload_n 2, 1) := by decide +kernel
theorem dX0_add_8 : decode cX0_add 8 = .ok (.arraylength, 1) := by decide +kernel
theorem dX0_add_9 : decode cX0_add 9 = .ok (.if_icmp .ge 42, 3) := by decide +kernel
theorem dX0_add_12 : decode cX0_add 12 = .ok (.aload_n 0, 1) := by decide +kernel
theorem dX0_add_13 : decode cX0_add 13 = .ok (.iload 5, 2) := by decide +kernel
theorem dX0_add_15 : decode cX0_add 15 = .ok (.invokestatic 24, 3) := by decide +kernel
theorem dX0_add_18 : decode cX0_add 18 = .ok (.aload_n 1, 1) := by decide +kernel
theorem dX0_add_19 : decode cX0_add 19 = .ok (.iload 5, 2) := by decide +kernel
theorem dX0_add_21 : decode cX0_add 21 = .ok (.invokestatic 24, 3) := by decide +kernel
theorem dX0_add_24 : decode cX0_add 24 = .ok (.ladd, 1) := by decide +kernel
theorem dX0_add_25 : decode cX0_add 25 = .ok (.lload_n 3, 1) := by decide +kernel
theorem dX0_add_26 : decode cX0_add 26 = .ok (.ladd, 1) := by decide +kernel
theorem dX0_add_27 : decode cX0_add 27 = .ok (.lstore 6, 2) := by decide +kernel
theorem dX0_add_29 : decode cX0_add 29 = .ok (.aload_n 2, 1) := by decide +kernel
theorem dX0_add_30 : decode cX0_add 30 = .ok (.iload 5, 2) := by decide +kernel
theorem dX0_add_32 : decode cX0_add 32 = .ok (.lload 6, 2) := by decide +kernel
theorem dX0_add_34 : decode cX0_add 34 = .ok (.ldc2_w 28, 3) := by decide +kernel
theorem dX0_add_37 : decode cX0_add 37 = .ok (.land, 1) := by decide +kernel
theorem dX0_add_38 : decode cX0_add 38 = .ok (.lastore, 1) := by decide +kernel
theorem dX0_add_39 : decode cX0_add 39 = .ok (.lload 6, 2) := by decide +kernel
theorem dX0_add_41 : decode cX0_add 41 = .ok (.bipush 32, 2) := by decide +kernel
theorem dX0_add_43 : decode cX0_add 43 = .ok (.lushr, 1) := by decide +kernel
theorem dX0_add_44 : decode cX0_add 44 = .ok (.lstore_n 3, 1) := by decide +kernel
theorem dX0_add_45 : decode cX0_add 45 = .ok (.iinc 5 1, 3) := by decide +kernel
theorem dX0_add_48 : decode cX0_add 48 = .ok (.goto (-43), 3) := by decide +kernel
theorem dX0_add_51 : decode cX0_add 51 = .ok (.return_, 1) := by decide +kernel
theorem dX0_subtract_0 : decode cX0_subtract 0 = .ok (.lconst 0, 1) := by decide +kernel
theorem dX0_subtract_1 : decode cX0_subtract 1 = .ok (.lstore_n 3, 1) := by decide +kernel
theorem dX0_subtract_2 : decode cX0_subtract 2 = .ok (.iconst 0, 1) := by decide +kernel
theorem dX0_subtract_3 : decode cX0_subtract 3 = .ok (.istore 5, 2) := by decide +kernel
theorem dX0_subtract_5 : decode cX0_subtract 5 = .ok (.iload 5, 2) := by decide +kernel
theorem dX0_subtract_7 : decode cX0_subtract 7 = .ok (.aload_n 2, 1) := by decide +kernel
theorem dX0_subtract_8 : decode cX0_subtract 8 = .ok (.arraylength, 1) := by decide +kernel
theorem dX0_subtract_9 : decode cX0_subtract 9 = .ok (.if_icmp .ge 49, 3) := by decide +kernel
theorem dX0_subtract_12 : decode cX0_subtract 12 = .ok (.aload_n 0, 1) := by decide +kernel
theorem dX0_subtract_13 : decode cX0_subtract 13 = .ok (.iload 5, 2) := by decide +kernel
theorem dX0_subtract_15 : decode cX0_subtract 15 = .ok (.invokestatic 24, 3) := by decide +kernel
theorem dX0_subtract_18 : decode cX0_subtract 18 = .ok (.aload_n 1, 1) := by decide +kernel
theorem dX0_subtract_19 : decode cX0_subtract 19 = .ok (.iload 5, 2) := by decide +kernel
theorem dX0_subtract_21 : decode cX0_subtract 21 = .ok (.invokestatic 24, 3) := by decide +kernel
theorem dX0_subtract_24 : decode cX0_subtract 24 = .ok (.lsub, 1) := by decide +kernel
theorem dX0_subtract_25 : decode cX0_subtract 25 = .ok (.lload_n 3, 1) := by decide +kernel
theorem dX0_subtract_26 : decode cX0_subtract 26 = .ok (.lsub, 1) := by decide +kernel
theorem dX0_subtract_27 : decode cX0_subtract 27 = .ok (.lstore 6, 2) := by decide +kernel
theorem dX0_subtract_29 : decode cX0_subtract 29 = .ok (.aload_n 2, 1) := by decide +kernel
theorem dX0_subtract_30 : decode cX0_subtract 30 = .ok (.iload 5, 2) := by decide +kernel
theorem dX0_subtract_32 : decode cX0_subtract 32 = .ok (.lload 6, 2) := by decide +kernel
theorem dX0_subtract_34 : decode cX0_subtract 34 = .ok (.ldc2_w 28, 3) := by decide +kernel
theorem dX0_subtract_37 : decode cX0_subtract 37 = .ok (.land, 1) := by decide +kernel
theorem dX0_subtract_38 : decode cX0_subtract 38 = .ok (.lastore, 1) := by decide +kernel
theorem dX0_subtract_39 : decode cX0_subtract 39 = .ok (.lload 6, 2) := by decide +kernel
theorem dX0_subtract_41 : decode cX0_subtract 41 = .ok (.lconst 0, 1) := by decide +kernel
theorem dX0_subtract_42 : decode cX0_subtract 42 = .ok (.lcmp, 1) := by decide +kernel
theorem dX0_subtract_43 : decode cX0_subtract 43 = .ok (.ifCond .ge 7, 3) := by decide +kernel
theorem dX0_subtract_46 : decode cX0_subtract 46 = .ok (.lconst 1, 1) := by decide +kernel
theorem dX0_subtract_47 : decode cX0_subtract 47 = .ok (.goto 4, 3) := by decide +kernel
theorem dX0_subtract_50 : decode cX0_subtract 50 = .ok (.lconst 0, 1) := by decide +kernel
theorem dX0_subtract_51 : decode cX0_subtract 51 = .ok (.lstore_n 3, 1) := by decide +kernel
theorem dX0_subtract_52 : decode cX0_subtract 52 = .ok (.iinc 5 1, 3) := by decide +kernel
theorem dX0_subtract_55 : decode cX0_subtract 55 = .ok (.goto (-50), 3) := by decide +kernel
theorem dX0_subtract_58 : decode cX0_subtract 58 = .ok (.return_, 1) := by decide +kernel
theorem dX0_multiply_0 : decode cX0_multiply 0 = .ok (.aload_n 2, 1) := by decide +kernel
theorem dX0_multiply_1 : decode cX0_multiply 1 = .ok (.lconst 0, 1) := by decide +kernel
theorem dX0_multiply_2 : decode cX0_multiply 2 = .ok (.invokestatic 36, 3) := by decide +kernel
theorem dX0_multiply_5 : decode cX0_multiply 5 = .ok (.aload_n 0, 1) := by decide +kernel
theorem dX0_multiply_6 : decode cX0_multiply 6 = .ok (.invokestatic 9, 3) := by decide +kernel
theorem dX0_multiply_9 : decode cX0_multiply 9 = .ok (.istore_n 3, 1) := by decide +kernel
theorem dX0_multiply_10 : decode cX0_multiply 10 = .ok (.aload_n 1, 1) := by decide +kernel
theorem dX0_multiply_11 : decode cX0_multiply 11 = .ok (.invokestatic 9, 3) := by decide +kernel
theorem dX0_multiply_14 : decode cX0_multiply 14 = .ok (.istore 4, 2) := by decide +kernel
theorem dX0_multiply_16 : decode cX0_multiply 16 = .ok (.iconst 0, 1) := by decide +kernel
theorem dX0_multiply_17 : decode cX0_multiply 17 = .ok (.istore 5, 2) := by decide +kernel
theorem dX0_multiply_19 : decode cX0_multiply 19 = .ok (.iload 5, 2) := by decide +kernel
theorem dX0_multiply_21 : decode cX0_multiply 21 = .ok (.iload_n 3, 1) := by decide +kernel
theorem dX0_multiply_22 : decode cX0_multiply 22 = .ok (.if_icmp .ge 89, 3) := by decide +kernel
theorem dX0_multiply_25 : decode cX0_multiply 25 = .ok (.iload 5, 2) := by decide +kernel
theorem dX0_multiply_27 : decode cX0_multiply 27 = .ok (.iload 4, 2) := by decide +kernel
theorem dX0_multiply_29 : decode cX0_multiply 29 = .ok (.iadd, 1) := by decide +kernel
theorem dX0_multiply_30 : decode cX0_multiply 30 = .ok (.aload_n 2, 1) := by decide +kernel
theorem dX0_multiply_31 : decode cX0_multiply 31 = .ok (.arraylength, 1) := by decide +kernel
theorem dX0_multiply_32 : decode cX0_multiply 32 = .ok (.if_icmp .ge 79, 3) := by decide +kernel
theorem dX0_multiply_35 : decode cX0_multiply 35 = .ok (.lconst 0, 1) := by decide +kernel
theorem dX0_multiply_36 : decode cX0_multiply 36 = .ok (.lstore 6, 2) := by decide +kernel
theorem dX0_multiply_38 : decode cX0_multiply 38 = .ok (.iconst 0, 1) := by decide +kernel
theorem dX0_multiply_39 : decode cX0_multiply 39 = .ok (.istore 8, 2) := by decide +kernel
theorem dX0_multiply_41 : decode cX0_multiply 41 = .ok (.iload 8, 2) := by decide +kernel
theorem dX0_multiply_43 : decode cX0_multiply 43 = .ok (.iload 4, 2) := by decide +kernel
theorem dX0_multiply_45 : decode cX0_multiply 45 = .ok (.if_icmp .ge 51, 3) := by decide +kernel
theorem dX0_multiply_48 : decode cX0_multiply 48 = .ok (.aload_n 0, 1) := by decide +kernel
theorem dX0_multiply_49 : decode cX0_multiply 49 = .ok (.iload 5, 2) := by decide +kernel
theorem dX0_multiply_51 : decode cX0_multiply 51 = .ok (.laload, 1) := by decide +kernel
theorem dX0_multiply_52 : decode cX0_multiply 52 = .ok (.aload_n 1, 1) := by decide +kernel
theorem dX0_multiply_53 : decode cX0_multiply 53 = .ok (.iload 8, 2) := by decide +kernel
theorem dX0_multiply_55 : decode cX0_multiply 55 = .ok (.laload, 1) := by decide +kernel
theorem dX0_multiply_56 : decode cX0_multiply 56 = .ok (.lmul, 1) := by decide +kernel
theorem dX0_multiply_57 : decode cX0_multiply 57 = .ok (.aload_n 2, 1) := by decide +kernel
theorem dX0_multiply_58 : decode cX0_multiply 58 = .ok (.iload 5, 2) := by decide +kernel
theorem dX0_multiply_60 : decode cX0_multiply 60 = .ok (.iload 8, 2) := by decide +kernel
theorem dX0_multiply_62 : decode cX0_multiply 62 = .ok (.iadd, 1) := by decide +kernel
theorem dX0_multiply_63 : decode cX0_multiply 63 = .ok (.laload, 1) := by decide +kernel
theorem dX0_multiply_64 : decode cX0_multiply 64 = .ok (.ladd, 1) := by decide +kernel
theorem dX0_multiply_65 : decode cX0_multiply 65 = .ok (.lload 6, 2) := by decide +kernel
theorem dX0_multiply_67 : decode cX0_multiply 67 = .ok (.ladd, 1) := by decide +kernel
theorem dX0_multiply_68 : decode cX0_multiply 68 = .ok (.lstore 9, 2) := by decide +kernel
theorem dX0_multiply_70 : decode cX0_multiply 70 = .ok (.aload_n 2, 1) := by decide +kernel
theorem dX0_multiply_71 : decode cX0_multiply 71 = .ok (.iload 5, 2) := by decide +kernel
theorem dX0_multiply_73 : decode cX0_multiply 73 = .ok (.iload 8, 2) := by decide +kernel
theorem dX0_multiply_75 : decode cX0_multiply 75 = .ok (.iadd, 1) := by decide +kernel
theorem dX0_multiply_76 : decode cX0_multiply 76 = .ok (.lload 9, 2) := by decide +kernel
theorem dX0_multiply_78 : decode cX0_multiply 78 = .ok (.ldc2_w 28, 3) := by decide +kernel
theorem dX0_multiply_81 : decode cX0_multiply 81 = .ok (.land, 1) := by decide +kernel
theorem dX0_multiply_82 : decode cX0_multiply 82 = .ok (.lastore, 1) := by decide +kernel
theorem dX0_multiply_83 : decode cX0_multiply 83 = .ok (.lload 9, 2) := by decide +kernel
theorem dX0_multiply_85 : decode cX0_multiply 85 = .ok (.bipush 32, 2) := by decide +kernel
theorem dX0_multiply_87 : decode cX0_multiply 87 = .ok (.lushr, 1) := by decide +kernel
theorem dX0_multiply_88 : decode cX0_multiply 88 = .ok (.lstore 6, 2) := by decide +kernel
theorem dX0_multiply_90 : decode cX0_multiply 90 = .ok (.iinc 8 1, 3) := by decide +kernel
theorem dX0_multiply_93 : decode cX0_multiply 93 = .ok (.goto (-52), 3) := by decide +kernel
theorem dX0_multiply_96 : decode cX0_multiply 96 = .ok (.aload_n 2, 1) := by decide +kernel
theorem dX0_multiply_97 : decode cX0_multiply 97 = .ok (.iload 5, 2) := by decide +kernel
theorem dX0_multiply_99 : decode cX0_multiply 99 = .ok (.iload 4, 2) := by decide +kernel
theorem dX0_multiply_101 : decode cX0_multiply 101 = .ok (.iadd, 1) := by decide +kernel
theorem dX0_multiply_102 : decode cX0_multiply 102 = .ok (.lload 6, 2) := by decide +kernel
theorem dX0_multiply_104 : decode cX0_multiply 104 = .ok (.lastore, 1) := by decide +kernel
theorem dX0_multiply_105 : decode cX0_multiply 105 = .ok (.iinc 5 1, 3) := by decide +kernel
theorem dX0_multiply_108 : decode cX0_multiply 108 = .ok (.goto (-89), 3) := by decide +kernel
theorem dX0_multiply_111 : decode cX0_multiply 111 = .ok (.return_, 1) := by decide +kernel
theorem dX0_multiplyAndAdd_0 : decode cX0_multiplyAndAdd 0 = .ok (.lload_n 3, 1) := by decide +kernel
theorem dX0_multiplyAndAdd_1 : decode cX0_multiplyAndAdd 1 = .ok (.lstore 5, 2) := by decide +kernel
theorem dX0_multiplyAndAdd_3 : decode cX0_multiplyAndAdd 3 = .ok (.iconst 0, 1) := by decide +kernel
theorem dX0_multiplyAndAdd_4 : decode cX0_multiplyAndAdd 4 = .ok (.istore 7, 2) := by decide +kernel
theorem dX0_multiplyAndAdd_6 : decode cX0_multiplyAndAdd 6 = .ok (.iload 7, 2) := by decide +kernel
theorem dX0_multiplyAndAdd_8 : decode cX0_multiplyAndAdd 8 = .ok (.aload_n 0, 1) := by decide +kernel
theorem dX0_multiplyAndAdd_9 : decode cX0_multiplyAndAdd 9 = .ok (.arraylength, 1) := by decide +kernel
theorem dX0_multiplyAndAdd_10 : decode cX0_multiplyAndAdd 10 = .ok (.if_icmp .ge 37, 3) := by decide +kernel
theorem dX0_multiplyAndAdd_13 : decode cX0_multiplyAndAdd 13 = .ok (.aload_n 0, 1) := by decide +kernel
theorem dX0_multiplyAndAdd_14 : decode cX0_multiplyAndAdd 14 = .ok (.iload 7, 2) := by decide +kernel
theorem dX0_multiplyAndAdd_16 : decode cX0_multiplyAndAdd 16 = .ok (.laload, 1) := by decide +kernel
theorem dX0_multiplyAndAdd_17 : decode cX0_multiplyAndAdd 17 = .ok (.lload_n 1, 1) := by decide +kernel
theorem dX0_multiplyAndAdd_18 : decode cX0_multiplyAndAdd 18 = .ok (.lmul, 1) := by decide +kernel
theorem dX0_multiplyAndAdd_19 : decode cX0_multiplyAndAdd 19 = .ok (.lload 5, 2) := by decide +kernel
theorem dX0_multiplyAndAdd_21 : decode cX0_multiplyAndAdd 21 = .ok (.ladd, 1) := by decide +kernel
theorem dX0_multiplyAndAdd_22 : decode cX0_multiplyAndAdd 22 = .ok (.lstore 8, 2) := by decide +kernel
theorem dX0_multiplyAndAdd_24 : decode cX0_multiplyAndAdd 24 = .ok (.aload_n 0, 1) := by decide +kernel
theorem dX0_multiplyAndAdd_25 : decode cX0_multiplyAndAdd 25 = .ok (.iload 7, 2) := by decide +kernel
theorem dX0_multiplyAndAdd_27 : decode cX0_multiplyAndAdd 27 = .ok (.lload 8, 2) := by decide +kernel
theorem dX0_multiplyAndAdd_29 : decode cX0_multiplyAndAdd 29 = .ok (.ldc2_w 28, 3) := by decide +kernel
theorem dX0_multiplyAndAdd_32 : decode cX0_multiplyAndAdd 32 = .ok (.land, 1) := by decide +kernel
theorem dX0_multiplyAndAdd_33 : decode cX0_multiplyAndAdd 33 = .ok (.lastore, 1) := by decide +kernel
theorem dX0_multiplyAndAdd_34 : decode cX0_multiplyAndAdd 34 = .ok (.lload 8, 2) := by decide +kernel
theorem dX0_multiplyAndAdd_36 : decode cX0_multiplyAndAdd 36 = .ok (.bipush 32, 2) := by decide +kernel
theorem dX0_multiplyAndAdd_38 : decode cX0_multiplyAndAdd 38 = .ok (.lushr, 1) := by decide +kernel
theorem dX0_multiplyAndAdd_39 : decode cX0_multiplyAndAdd 39 = .ok (.lstore 5, 2) := by decide +kernel
theorem dX0_multiplyAndAdd_41 : decode cX0_multiplyAndAdd 41 = .ok (.iinc 7 1, 3) := by decide +kernel
theorem dX0_multiplyAndAdd_44 : decode cX0_multiplyAndAdd 44 = .ok (.goto (-38), 3) := by decide +kernel
theorem dX0_multiplyAndAdd_47 : decode cX0_multiplyAndAdd 47 = .ok (.return_, 1) := by decide +kernel
theorem dX0_divideBySmall_0 : decode cX0_divideBySmall 0 = .ok (.lconst 0, 1) := by decide +kernel
theorem dX0_divideBySmall_1 : decode cX0_divideBySmall 1 = .ok (.lstore 4, 2) := by decide +kernel
theorem dX0_divideBySmall_3 : decode cX0_divideBySmall 3 = .ok (.lload_n 2, 1) := by decide +kernel
theorem dX0_divideBySmall_4 : decode cX0_divideBySmall 4 = .ok (.lconst 1, 1) := by decide +kernel
theorem dX0_divideBySmall_5 : decode cX0_divideBySmall 5 = .ok (.lcmp, 1) := by decide +kernel
theorem dX0_divideBySmall_6 : decode cX0_divideBySmall 6 = .ok (.ifCond .lt 17, 3) := by decide +kernel
theorem dX0_divideBySmall_9 : decode cX0_divideBySmall 9 = .ok (.lload_n 2, 1) := by decide +kernel
theorem dX0_divideBySmall_10 : decode cX0_divideBySmall 10 = .ok (.ldc2_w 42, 3) := by decide +kernel
theorem dX0_divideBySmall_13 : decode cX0_divideBySmall 13 = .ok (.lcmp, 1) := by decide +kernel
theorem dX0_divideBySmall_14 : decode cX0_divideBySmall 14 = .ok (.ifCond .gt 9, 3) := by decide +kernel
theorem dX0_divideBySmall_17 : decode cX0_divideBySmall 17 = .ok (.iload_n 1, 1) := by decide +kernel
theorem dX0_divideBySmall_18 : decode cX0_divideBySmall 18 = .ok (.aload_n 0, 1) := by decide +kernel
theorem dX0_divideBySmall_19 : decode cX0_divideBySmall 19 = .ok (.arraylength, 1) := by decide +kernel
theorem dX0_divideBySmall_20 : decode cX0_divideBySmall 20 = .ok (.if_icmp .le 6, 3) := by decide +kernel
theorem dX0_divideBySmall_23 : decode cX0_divideBySmall 23 = .ok (.lload 4, 2) := by decide +kernel
theorem dX0_divideBySmall_25 : decode cX0_divideBySmall 25 = .ok (.lreturn, 1) := by decide +kernel
theorem dX0_divideBySmall_26 : decode cX0_divideBySmall 26 = .ok (.iload_n 1, 1) := by decide +kernel
theorem dX0_divideBySmall_27 : decode cX0_divideBySmall 27 = .ok (.iconst 1, 1) := by decide +kernel
theorem dX0_divideBySmall_28 : decode cX0_divideBySmall 28 = .ok (.isub, 1) := by decide +kernel
theorem dX0_divideBySmall_29 : decode cX0_divideBySmall 29 = .ok (.istore 6, 2) := by decide +kernel
theorem dX0_divideBySmall_31 : decode cX0_divideBySmall 31 = .ok (.iload 6, 2) := by decide +kernel
theorem dX0_divideBySmall_33 : decode cX0_divideBySmall 33 = .ok (.ifCond .lt 35, 3) := by decide +kernel
theorem dX0_divideBySmall_36 : decode cX0_divideBySmall 36 = .ok (.lload 4, 2) := by decide +kernel
theorem dX0_divideBySmall_38 : decode cX0_divideBySmall 38 = .ok (.bipush 32, 2) := by decide +kernel
theorem dX0_divideBySmall_40 : decode cX0_divideBySmall 40 = .ok (.lshl, 1) := by decide +kernel
theorem dX0_divideBySmall_41 : decode cX0_divideBySmall 41 = .ok (.aload_n 0, 1) := by decide +kernel
theorem dX0_divideBySmall_42 : decode cX0_divideBySmall 42 = .ok (.iload 6, 2) := by decide +kernel
theorem dX0_divideBySmall_44 : decode cX0_divideBySmall 44 = .ok (.laload, 1) := by decide +kernel
theorem dX0_divideBySmall_45 : decode cX0_divideBySmall 45 = .ok (.lor, 1) := by decide +kernel
theorem dX0_divideBySmall_46 : decode cX0_divideBySmall 46 = .ok (.lstore 7, 2) := by decide +kernel
theorem dX0_divideBySmall_48 : decode cX0_divideBySmall 48 = .ok (.aload_n 0, 1) := by decide +kernel
theorem dX0_divideBySmall_49 : decode cX0_divideBySmall 49 = .ok (.iload 6, 2) := by decide +kernel
theorem dX0_divideBySmall_51 : decode cX0_divideBySmall 51 = .ok (.lload 7, 2) := by decide +kernel
theorem dX0_divideBySmall_53 : decode cX0_divideBySmall 53 = .ok (.lload_n 2, 1) := by decide +kernel
theorem dX0_divideBySmall_54 : decode cX0_divideBySmall 54 = .ok (.ldiv, 1) := by decide +kernel
theorem dX0_divideBySmall_55 : decode cX0_divideBySmall 55 = .ok (.lastore, 1) := by decide +kernel
theorem dX0_divideBySmall_56 : decode cX0_divideBySmall 56 = .ok (.lload 7, 2) := by decide +kernel
theorem dX0_divideBySmall_58 : decode cX0_divideBySmall 58 = .ok (.lload_n 2, 1) := by decide +kernel
theorem dX0_divideBySmall_59 : decode cX0_divideBySmall 59 = .ok (.lrem, 1) := by decide +kernel
theorem dX0_divideBySmall_60 : decode cX0_divideBySmall 60 = .ok (.lstore 4, 2) := by decide +kernel
theorem dX0_divideBySmall_62 : decode cX0_divideBySmall 62 = .ok (.iinc 6 (-1), 3) := by decide +kernel
theorem dX0_divideBySmall_65 : decode cX0_divideBySmall 65 = .ok (.goto (-34), 3) := by decide +kernel
theorem dX0_divideBySmall_68 : decode cX0_divideBySmall 68 = .ok (.lload 4, 2) := by decide +kernel
theorem dX0_divideBySmall_70 : decode cX0_divideBySmall 70 = .ok (.lreturn, 1) := by decide +kernel
theorem dX0_moveUp_0 : decode cX0_moveUp 0 = .ok (.iload_n 1, 1) := by decide +kernel
theorem dX0_moveUp_1 : decode cX0_moveUp 1 = .ok (.bipush 32, 2) := by decide +kernel
theorem dX0_moveUp_3 : decode cX0_moveUp 3 = .ok (.idiv, 1) := by decide +kernel
theorem dX0_moveUp_4 : decode cX0_moveUp 4 = .ok (.istore_n 3, 1) := by decide +kernel
theorem dX0_moveUp_5 : decode cX0_moveUp 5 = .ok (.iload_n 1, 1) := by decide +kernel
theorem dX0_moveUp_6 : decode cX0_moveUp 6 = .ok (.bipush 32, 2) := by decide +kernel
theorem dX0_moveUp_8 : decode cX0_moveUp 8 = .ok (.irem, 1) := by decide +kernel
theorem dX0_moveUp_9 : decode cX0_moveUp 9 = .ok (.istore 4, 2) := by decide +kernel
theorem dX0_moveUp_11 : decode cX0_moveUp 11 = .ok (.iconst 0, 1) := by decide +kernel
theorem dX0_moveUp_12 : decode cX0_moveUp 12 = .ok (.istore 5, 2) := by decide +kernel
theorem dX0_moveUp_14 : decode cX0_moveUp 14 = .ok (.iload 5, 2) := by decide +kernel
theorem dX0_moveUp_16 : decode cX0_moveUp 16 = .ok (.aload_n 2, 1) := by decide +kernel
theorem dX0_moveUp_17 : decode cX0_moveUp 17 = .ok (.arraylength, 1) := by decide +kernel
theorem dX0_moveUp_18 : decode cX0_moveUp 18 = .ok (.if_icmp .ge 53, 3) := by decide +kernel
theorem dX0_moveUp_21 : decode cX0_moveUp 21 = .ok (.aload_n 0, 1) := by decide +kernel
theorem dX0_moveUp_22 : decode cX0_moveUp 22 = .ok (.iload 5, 2) := by decide +kernel
theorem dX0_moveUp_24 : decode cX0_moveUp 24 = .ok (.iload_n 3, 1) := by decide +kernel
theorem dX0_moveUp_25 : decode cX0_moveUp 25 = .ok (.isub, 1) := by decide +kernel
theorem dX0_moveUp_26 : decode cX0_moveUp 26 = .ok (.invokestatic 24, 3) := by decide +kernel
theorem dX0_moveUp_29 : decode cX0_moveUp 29 = .ok (.iload 4, 2) := by decide +kernel
theorem dX0_moveUp_31 : decode cX0_moveUp 31 = .ok (.lshl, 1) := by decide +kernel
theorem dX0_moveUp_32 : decode cX0_moveUp 32 = .ok (.lstore 6, 2) := by decide +kernel
theorem dX0_moveUp_34 : decode cX0_moveUp 34 = .ok (.aload_n 0, 1) := by decide +kernel
theorem dX0_moveUp_35 : decode cX0_moveUp 35 = .ok (.iload 5, 2) := by decide +kernel
theorem dX0_moveUp_37 : decode cX0_moveUp 37 = .ok (.iload_n 3, 1) := by decide +kernel
theorem dX0_moveUp_38 : decode cX0_moveUp 38 = .ok (.isub, 1) := by decide +kernel
theorem dX0_moveUp_39 : decode cX0_moveUp 39 = .ok (.iconst 1, 1) := by decide +kernel
theorem dX0_moveUp_40 : decode cX0_moveUp 40 = .ok (.isub, 1) := by decide +kernel
theorem dX0_moveUp_41 : decode cX0_moveUp 41 = .ok (.invokestatic 24, 3) := by decide +kernel
theorem dX0_moveUp_44 : decode cX0_moveUp 44 = .ok (.bipush 32, 2) := by decide +kernel
theorem dX0_moveUp_46 : decode cX0_moveUp 46 = .ok (.iload 4, 2) := by decide +kernel
theorem dX0_moveUp_48 : decode cX0_moveUp 48 = .ok (.isub, 1) := by decide +kernel
theorem dX0_moveUp_49 : decode cX0_moveUp 49 = .ok (.lushr, 1) := by decide +kernel
theorem dX0_moveUp_50 : decode cX0_moveUp 50 = .ok (.lstore 8, 2) := by decide +kernel
theorem dX0_moveUp_52 : decode cX0_moveUp 52 = .ok (.aload_n 2, 1) := by decide +kernel
theorem dX0_moveUp_53 : decode cX0_moveUp 53 = .ok (.iload 5, 2) := by decide +kernel
theorem dX0_moveUp_55 : decode cX0_moveUp 55 = .ok (.lload 6, 2) := by decide +kernel
theorem dX0_moveUp_57 : decode cX0_moveUp 57 = .ok (.lload 8, 2) := by decide +kernel
theorem dX0_moveUp_59 : decode cX0_moveUp 59 = .ok (.lor, 1) := by decide +kernel
theorem dX0_moveUp_60 : decode cX0_moveUp 60 = .ok (.ldc2_w 28, 3) := by decide +kernel
theorem dX0_moveUp_63 : decode cX0_moveUp 63 = .ok (.land, 1) := by decide +kernel
theorem dX0_moveUp_64 : decode cX0_moveUp 64 = .ok (.lastore, 1) := by decide +kernel
theorem dX0_moveUp_65 : decode cX0_moveUp 65 = .ok (.iinc 5 1, 3) := by decide +kernel
theorem dX0_moveUp_68 : decode cX0_moveUp 68 = .ok (.goto (-54), 3) := by decide +kernel
theorem dX0_moveUp_71 : decode cX0_moveUp 71 = .ok (.return_, 1) := by decide +kernel
theorem dX0_moveDown_0 : decode cX0_moveDown 0 = .ok (.iload_n 1, 1) := by decide +kernel
theorem dX0_moveDown_1 : decode cX0_moveDown 1 = .ok (.bipush 32, 2) := by decide +kernel
theorem dX0_moveDown_3 : decode cX0_moveDown 3 = .ok (.idiv, 1) := by decide +kernel
theorem dX0_moveDown_4 : decode cX0_moveDown 4 = .ok (.istore_n 3, 1) := by decide +kernel
theorem dX0_moveDown_5 : decode cX0_moveDown 5 = .ok (.iload_n 1, 1) := by decide +kernel
theorem dX0_moveDown_6 : decode cX0_moveDown 6 = .ok (.bipush 32, 2) := by decide +kernel
theorem dX0_moveDown_8 : decode cX0_moveDown 8 = .ok (.irem, 1) := by decide +kernel
theorem dX0_moveDown_9 : decode cX0_moveDown 9 = .ok (.istore 4, 2) := by decide +kernel
theorem dX0_moveDown_11 : decode cX0_moveDown 11 = .ok (.iconst 0, 1) := by decide +kernel
theorem dX0_moveDown_12 : decode cX0_moveDown 12 = .ok (.istore 5, 2) := by decide +kernel
theorem dX0_moveDown_14 : decode cX0_moveDown 14 = .ok (.iload 5, 2) := by decide +kernel
theorem dX0_moveDown_16 : decode cX0_moveDown 16 = .ok (.aload_n 2, 1) := by decide +kernel
theorem dX0_moveDown_17 : decode cX0_moveDown 17 = .ok (.arraylength, 1) := by decide +kernel
theorem dX0_moveDown_18 : decode cX0_moveDown 18 = .ok (.if_icmp .ge 53, 3) := by decide +kernel
theorem dX0_moveDown_21 : decode cX0_moveDown 21 = .ok (.aload_n 0, 1) := by decide +kernel
theorem dX0_moveDown_22 : decode cX0_moveDown 22 = .ok (.iload 5, 2) := by decide +kernel
theorem dX0_moveDown_24 : decode cX0_moveDown 24 = .ok (.iload_n 3, 1) := by decide +kernel
theorem dX0_moveDown_25 : decode cX0_moveDown 25 = .ok (.iadd, 1) := by decide +kernel
theorem dX0_moveDown_26 : decode cX0_moveDown 26 = .ok (.invokestatic 24, 3) := by decide +kernel
theorem dX0_moveDown_29 : decode cX0_moveDown 29 = .ok (.iload 4, 2) := by decide +kernel
theorem dX0_moveDown_31 : decode cX0_moveDown 31 = .ok (.lushr, 1) := by decide +kernel
theorem dX0_moveDown_32 : decode cX0_moveDown 32 = .ok (.lstore 6, 2) := by decide +kernel
theorem dX0_moveDown_34 : decode cX0_moveDown 34 = .ok (.aload_n 0, 1) := by decide +kernel
theorem dX0_moveDown_35 : decode cX0_moveDown 35 = .ok (.iload 5, 2) := by decide +kernel
theorem dX0_moveDown_37 : decode cX0_moveDown 37 = .ok (.iload_n 3, 1) := by decide +kernel
theorem dX0_moveDown_38 : decode cX0_moveDown 38 = .ok (.iadd, 1) := by decide +kernel
theorem dX0_moveDown_39 : decode cX0_moveDown 39 = .ok (.iconst 1, 1) := by decide +kernel
theorem dX0_moveDown_40 : decode cX0_moveDown 40 = .ok (.iadd, 1) := by decide +kernel
theorem dX0_moveDown_41 : decode cX0_moveDown 41 = .ok (.invokestatic 24, 3) := by decide +kernel
theorem dX0_moveDown_44 : decode cX0_moveDown 44 = .ok (.bipush 32, 2) := by decide +kernel
theorem dX0_moveDown_46 : decode cX0_moveDown 46 = .ok (.iload 4, 2) := by decide +kernel
theorem dX0_moveDown_48 : decode cX0_moveDown 48 = .ok (.isub, 1) := by decide +kernel
theorem dX0_moveDown_49 : decode cX0_moveDown 49 = .ok (.lshl, 1) := by decide +kernel
theorem dX0_moveDown_50 : decode cX0_moveDown 50 = .ok (.lstore 8, 2) := by decide +kernel
theorem dX0_moveDown_52 : decode cX0_moveDown 52 = .ok (.aload_n 2, 1) := by decide +kernel
theorem dX0_moveDown_53 : decode cX0_moveDown 53 = .ok (.iload 5, 2) := by decide +kernel
theorem dX0_moveDown_55 : decode cX0_moveDown 55 = .ok (.lload 8, 2) := by decide +kernel
theorem dX0_moveDown_57 : decode cX0_moveDown 57 = .ok (.lload 6, 2) := by decide +kernel
theorem dX0_moveDown_59 : decode cX0_moveDown 59 = .ok (.lor, 1) := by decide +kernel
theorem dX0_moveDown_60 : decode cX0_moveDown 60 = .ok (.ldc2_w 28, 3) := by decide +kernel
theorem dX0_moveDown_63 : decode cX0_moveDown 63 = .ok (.land, 1) := by decide +kernel
theorem dX0_moveDown_64 : decode cX0_moveDown 64 = .ok (.lastore, 1) := by decide +kernel
theorem dX0_moveDown_65 : decode cX0_moveDown 65 = .ok (.iinc 5 1, 3) := by decide +kernel
theorem dX0_moveDown_68 : decode cX0_moveDown 68 = .ok (.goto (-54), 3) := by decide +kernel
theorem dX0_moveDown_71 : decode cX0_moveDown 71 = .ok (.return_, 1) := by decide +kernel
theorem dX0_takeOut_0 : decode cX0_takeOut 0 = .ok (.iload_n 3, 1) := by decide +kernel
theorem dX0_takeOut_1 : decode cX0_takeOut 1 = .ok (.iload_n 2, 1) := by decide +kernel
theorem dX0_takeOut_2 : decode cX0_takeOut 2 = .ok (.iadd, 1) := by decide +kernel
theorem dX0_takeOut_3 : decode cX0_takeOut 3 = .ok (.istore 4, 2) := by decide +kernel
theorem dX0_takeOut_5 : decode cX0_takeOut 5 = .ok (.iload_n 2, 1) := by decide +kernel
theorem dX0_takeOut_6 : decode cX0_takeOut 6 = .ok (.iconst 1, 1) := by decide +kernel
theorem dX0_takeOut_7 : decode cX0_takeOut 7 = .ok (.if_icmp .lt 20, 3) := by decide +kernel
theorem dX0_takeOut_10 : decode cX0_takeOut 10 = .ok (.iload_n 2, 1) := by decide +kernel
theorem dX0_takeOut_11 : decode cX0_takeOut 11 = .ok (.aload_n 1, 1) := by decide +kernel
theorem dX0_takeOut_12 : decode cX0_takeOut 12 = .ok (.arraylength, 1) := by decide +kernel
theorem dX0_takeOut_13 : decode cX0_takeOut 13 = .ok (.if_icmp .gt 14, 3) := by decide +kernel
theorem dX0_takeOut_16 : decode cX0_takeOut 16 = .ok (.iload_n 3, 1) := by decide +kernel
theorem dX0_takeOut_17 : decode cX0_takeOut 17 = .ok (.ifCond .lt 10, 3) := by decide +kernel
theorem dX0_takeOut_20 : decode cX0_takeOut 20 = .ok (.iload 4, 2) := by decide +kernel
theorem dX0_takeOut_22 : decode cX0_takeOut 22 = .ok (.aload_n 0, 1) := by decide +kernel
theorem dX0_takeOut_23 : decode cX0_takeOut 23 = .ok (.arraylength, 1) := by decide +kernel
theorem dX0_takeOut_24 : decode cX0_takeOut 24 = .ok (.if_icmp .lt 5, 3) := by decide +kernel
theorem dX0_takeOut_27 : decode cX0_takeOut 27 = .ok (.lconst 0, 1) := by decide +kernel
theorem dX0_takeOut_28 : decode cX0_takeOut 28 = .ok (.lreturn, 1) := by decide +kernel
theorem dX0_takeOut_29 : decode cX0_takeOut 29 = .ok (.aload_n 0, 1) := by decide +kernel
theorem dX0_takeOut_30 : decode cX0_takeOut 30 = .ok (.iload 4, 2) := by decide +kernel
theorem dX0_takeOut_32 : decode cX0_takeOut 32 = .ok (.laload, 1) := by decide +kernel
theorem dX0_takeOut_33 : decode cX0_takeOut 33 = .ok (.aload_n 0, 1) := by decide +kernel
theorem dX0_takeOut_34 : decode cX0_takeOut 34 = .ok (.iload 4, 2) := by decide +kernel
theorem dX0_takeOut_36 : decode cX0_takeOut 36 = .ok (.iconst 1, 1) := by decide +kernel
theorem dX0_takeOut_37 : decode cX0_takeOut 37 = .ok (.isub, 1) := by decide +kernel
theorem dX0_takeOut_38 : decode cX0_takeOut 38 = .ok (.laload, 1) := by decide +kernel
theorem dX0_takeOut_39 : decode cX0_takeOut 39 = .ok (.aload_n 1, 1) := by decide +kernel
theorem dX0_takeOut_40 : decode cX0_takeOut 40 = .ok (.iload_n 2, 1) := by decide +kernel
theorem dX0_takeOut_41 : decode cX0_takeOut 41 = .ok (.iconst 1, 1) := by decide +kernel
theorem dX0_takeOut_42 : decode cX0_takeOut 42 = .ok (.isub, 1) := by decide +kernel
theorem dX0_takeOut_43 : decode cX0_takeOut 43 = .ok (.laload, 1) := by decide +kernel
theorem dX0_takeOut_44 : decode cX0_takeOut 44 = .ok (.invokestatic 44, 3) := by decide +kernel
theorem dX0_takeOut_47 : decode cX0_takeOut 47 = .ok (.lstore 5, 2) := by decide +kernel
theorem dX0_takeOut_49 : decode cX0_takeOut 49 = .ok (.aload_n 0, 1) := by decide +kernel
theorem dX0_takeOut_50 : decode cX0_takeOut 50 = .ok (.aload_n 1, 1) := by decide +kernel
theorem dX0_takeOut_51 : decode cX0_takeOut 51 = .ok (.iload_n 2, 1) := by decide +kernel
theorem dX0_takeOut_52 : decode cX0_takeOut 52 = .ok (.iload_n 3, 1) := by decide +kernel
theorem dX0_takeOut_53 : decode cX0_takeOut 53 = .ok (.lload 5, 2) := by decide +kernel
theorem dX0_takeOut_55 : decode cX0_takeOut 55 = .ok (.invokestatic 48, 3) := by decide +kernel
theorem dX0_takeOut_58 : decode cX0_takeOut 58 = .ok (.istore 7, 2) := by decide +kernel
theorem dX0_takeOut_60 : decode cX0_takeOut 60 = .ok (.iconst 0, 1) := by decide +kernel
theorem dX0_takeOut_61 : decode cX0_takeOut 61 = .ok (.istore 8, 2) := by decide +kernel
theorem dX0_takeOut_63 : decode cX0_takeOut 63 = .ok (.iload 8, 2) := by decide +kernel
theorem dX0_takeOut_65 : decode cX0_takeOut 65 = .ok (.iconst 2, 1) := by decide +kernel
theorem dX0_takeOut_66 : decode cX0_takeOut 66 = .ok (.if_icmp .ge 37, 3) := by decide +kernel
theorem dX0_takeOut_69 : decode cX0_takeOut 69 = .ok (.iload 7, 2) := by decide +kernel
theorem dX0_takeOut_71 : decode cX0_takeOut 71 = .ok (.ifCond .eq 32, 3) := by decide +kernel
theorem dX0_takeOut_74 : decode cX0_takeOut 74 = .ok (.lload 5, 2) := by decide +kernel
theorem dX0_takeOut_76 : decode cX0_takeOut 76 = .ok (.lconst 1, 1) := by decide +kernel
theorem dX0_takeOut_77 : decode cX0_takeOut 77 = .ok (.lsub, 1) := by decide +kernel
theorem dX0_takeOut_78 : decode cX0_takeOut 78 = .ok (.lstore 5, 2) := by decide +kernel
theorem dX0_takeOut_80 : decode cX0_takeOut 80 = .ok (.aload_n 0, 1) := by decide +kernel
theorem dX0_takeOut_81 : decode cX0_takeOut 81 = .ok (.aload_n 1, 1) := by decide +kernel
theorem dX0_takeOut_82 : decode cX0_takeOut 82 = .ok (.iload_n 2, 1) := by decide +kernel
theorem dX0_takeOut_83 : decode cX0_takeOut 83 = .ok (.iload_n 3, 1) := by decide +kernel
theorem dX0_takeOut_84 : decode cX0_takeOut 84 = .ok (.invokestatic 52, 3) := by decide +kernel
theorem dX0_takeOut_87 : decode cX0_takeOut 87 = .ok (.ifCond .ne 7, 3) := by decide +kernel
theorem dX0_takeOut_90 : decode cX0_takeOut 90 = .ok (.iconst 1, 1) := by decide +kernel
theorem dX0_takeOut_91 : decode cX0_takeOut 91 = .ok (.goto 4, 3) := by decide +kernel
theorem dX0_takeOut_94 : decode cX0_takeOut 94 = .ok (.iconst 0, 1) := by decide +kernel
theorem dX0_takeOut_95 : decode cX0_takeOut 95 = .ok (.istore 7, 2) := by decide +kernel
theorem dX0_takeOut_97 : decode cX0_takeOut 97 = .ok (.iinc 8 1, 3) := by decide +kernel
theorem dX0_takeOut_100 : decode cX0_takeOut 100 = .ok (.goto (-37), 3) := by decide +kernel
theorem dX0_takeOut_103 : decode cX0_takeOut 103 = .ok (.lload 5, 2) := by decide +kernel
theorem dX0_takeOut_105 : decode cX0_takeOut 105 = .ok (.lreturn, 1) := by decide +kernel
theorem dX0_guess_0 : decode cX0_guess 0 = .ok (.lload_n 0, 1) := by decide +kernel
theorem dX0_guess_1 : decode cX0_guess 1 = .ok (.lload 4, 2) := by decide +kernel
theorem dX0_guess_3 : decode cX0_guess 3 = .ok (.lcmp, 1) := by decide +kernel
theorem dX0_guess_4 : decode cX0_guess 4 = .ok (.ifCond .lt 7, 3) := by decide +kernel
theorem dX0_guess_7 : decode cX0_guess 7 = .ok (.ldc2_w 28, 3) := by decide +kernel
theorem dX0_guess_10 : decode cX0_guess 10 = .ok (.lreturn, 1) := by decide +kernel
theorem dX0_guess_11 : decode cX0_guess 11 = .ok (.lload_n 0, 1) := by decide +kernel
theorem dX0_guess_12 : decode cX0_guess 12 = .ok (.bipush 32, 2) := by decide +kernel
theorem dX0_guess_14 : decode cX0_guess 14 = .ok (.lshl, 1) := by decide +kernel
theorem dX0_guess_15 : decode cX0_guess 15 = .ok (.lload_n 2, 1) := by decide +kernel
theorem dX0_guess_16 : decode cX0_guess 16 = .ok (.lor, 1) := by decide +kernel
theorem dX0_guess_17 : decode cX0_guess 17 = .ok (.lstore 6, 2) := by decide +kernel
theorem dX0_guess_19 : decode cX0_guess 19 = .ok (.lload 6, 2) := by decide +kernel
theorem dX0_guess_21 : decode cX0_guess 21 = .ok (.iconst 1, 1) := by decide +kernel
theorem dX0_guess_22 : decode cX0_guess 22 = .ok (.lushr, 1) := by decide +kernel
theorem dX0_guess_23 : decode cX0_guess 23 = .ok (.lload 4, 2) := by decide +kernel
theorem dX0_guess_25 : decode cX0_guess 25 = .ok (.ldiv, 1) := by decide +kernel
theorem dX0_guess_26 : decode cX0_guess 26 = .ok (.iconst 1, 1) := by decide +kernel
theorem dX0_guess_27 : decode cX0_guess 27 = .ok (.lshl, 1) := by decide +kernel
theorem dX0_guess_28 : decode cX0_guess 28 = .ok (.lstore 8, 2) := by decide +kernel
theorem dX0_guess_30 : decode cX0_guess 30 = .ok (.lload 6, 2) := by decide +kernel
theorem dX0_guess_32 : decode cX0_guess 32 = .ok (.lload 8, 2) := by decide +kernel
theorem dX0_guess_34 : decode cX0_guess 34 = .ok (.lload 4, 2) := by decide +kernel
theorem dX0_guess_36 : decode cX0_guess 36 = .ok (.lmul, 1) := by decide +kernel
theorem dX0_guess_37 : decode cX0_guess 37 = .ok (.lsub, 1) := by decide +kernel
theorem dX0_guess_38 : decode cX0_guess 38 = .ok (.lload 4, 2) := by decide +kernel
theorem dX0_guess_40 : decode cX0_guess 40 = .ok (.lcmp, 1) := by decide +kernel
theorem dX0_guess_41 : decode cX0_guess 41 = .ok (.ifCond .lt 10, 3) := by decide +kernel
theorem dX0_guess_44 : decode cX0_guess 44 = .ok (.lload 8, 2) := by decide +kernel
theorem dX0_guess_46 : decode cX0_guess 46 = .ok (.lconst 1, 1) := by decide +kernel
theorem dX0_guess_47 : decode cX0_guess 47 = .ok (.ladd, 1) := by decide +kernel
theorem dX0_guess_48 : decode cX0_guess 48 = .ok (.goto 5, 3) := by decide +kernel
theorem dX0_guess_51 : decode cX0_guess 51 = .ok (.lload 8, 2) := by decide +kernel
theorem dX0_guess_53 : decode cX0_guess 53 = .ok (.lreturn, 1) := by decide +kernel
theorem dX0_subtractProduct_0 : decode cX0_subtractProduct 0 = .ok (.lconst 0, 1) := by decide +kernel
theorem dX0_subtractProduct_1 : decode cX0_subtractProduct 1 = .ok (.lstore 6, 2) := by decide +kernel
theorem dX0_subtractProduct_3 : decode cX0_subtractProduct 3 = .ok (.iconst 0, 1) := by decide +kernel
theorem dX0_subtractProduct_4 : decode cX0_subtractProduct 4 = .ok (.istore 8, 2) := by decide +kernel
theorem dX0_subtractProduct_6 : decode cX0_subtractProduct 6 = .ok (.iload 8, 2) := by decide +kernel
theorem dX0_subtractProduct_8 : decode cX0_subtractProduct 8 = .ok (.iload_n 2, 1) := by decide +kernel
theorem dX0_subtractProduct_9 : decode cX0_subtractProduct 9 = .ok (.if_icmp .ge 69, 3) := by decide +kernel
theorem dX0_subtractProduct_12 : decode cX0_subtractProduct 12 = .ok (.aload_n 1, 1) := by decide +kernel
theorem dX0_subtractProduct_13 : decode cX0_subtractProduct 13 = .ok (.iload 8, 2) := by decide +kernel
theorem dX0_subtractProduct_15 : decode cX0_subtractProduct 15 = .ok (.laload, 1) := by decide +kernel
theorem dX0_subtractProduct_16 : decode cX0_subtractProduct 16 = .ok (.lload 4, 2) := by decide +kernel
theorem dX0_subtractProduct_18 : decode cX0_subtractProduct 18 = .ok (.lmul, 1) := by decide +kernel
theorem dX0_subtractProduct_19 : decode cX0_subtractProduct 19 = .ok (.lload 6, 2) := by decide +kernel
theorem dX0_subtractProduct_21 : decode cX0_subtractProduct 21 = .ok (.ladd, 1) := by decide +kernel
theorem dX0_subtractProduct_22 : decode cX0_subtractProduct 22 = .ok (.lstore 9, 2) := by decide +kernel
theorem dX0_subtractProduct_24 : decode cX0_subtractProduct 24 = .ok (.aload_n 0, 1) := by decide +kernel
theorem dX0_subtractProduct_25 : decode cX0_subtractProduct 25 = .ok (.iload_n 3, 1) := by decide +kernel
theorem dX0_subtractProduct_26 : decode cX0_subtractProduct 26 = .ok (.iload 8, 2) := by decide +kernel
theorem dX0_subtractProduct_28 : decode cX0_subtractProduct 28 = .ok (.iadd, 1) := by decide +kernel
theorem dX0_subtractProduct_29 : decode cX0_subtractProduct 29 = .ok (.laload, 1) := by decide +kernel
theorem dX0_subtractProduct_30 : decode cX0_subtractProduct 30 = .ok (.lload 9, 2) := by decide +kernel
theorem dX0_subtractProduct_32 : decode cX0_subtractProduct 32 = .ok (.ldc2_w 28, 3) := by decide +kernel
theorem dX0_subtractProduct_35 : decode cX0_subtractProduct 35 = .ok (.land, 1) := by decide +kernel
theorem dX0_subtractProduct_36 : decode cX0_subtractProduct 36 = .ok (.lsub, 1) := by decide +kernel
theorem dX0_subtractProduct_37 : decode cX0_subtractProduct 37 = .ok (.lstore 11, 2) := by decide +kernel
theorem dX0_subtractProduct_39 : decode cX0_subtractProduct 39 = .ok (.aload_n 0, 1) := by decide +kernel
theorem dX0_subtractProduct_40 : decode cX0_subtractProduct 40 = .ok (.iload_n 3, 1) := by decide +kernel
theorem dX0_subtractProduct_41 : decode cX0_subtractProduct 41 = .ok (.iload 8, 2) := by decide +kernel
theorem dX0_subtractProduct_43 : decode cX0_subtractProduct 43 = .ok (.iadd, 1) := by decide +kernel
theorem dX0_subtractProduct_44 : decode cX0_subtractProduct 44 = .ok (.lload 11, 2) := by decide +kernel
theorem dX0_subtractProduct_46 : decode cX0_subtractProduct 46 = .ok (.ldc2_w 28, 3) := by decide +kernel
theorem dX0_subtractProduct_49 : decode cX0_subtractProduct 49 = .ok (.land, 1) := by decide +kernel
theorem dX0_subtractProduct_50 : decode cX0_subtractProduct 50 = .ok (.lastore, 1) := by decide +kernel
theorem dX0_subtractProduct_51 : decode cX0_subtractProduct 51 = .ok (.lload 9, 2) := by decide +kernel
theorem dX0_subtractProduct_53 : decode cX0_subtractProduct 53 = .ok (.bipush 32, 2) := by decide +kernel
theorem dX0_subtractProduct_55 : decode cX0_subtractProduct 55 = .ok (.lushr, 1) := by decide +kernel
theorem dX0_subtractProduct_56 : decode cX0_subtractProduct 56 = .ok (.lload 11, 2) := by decide +kernel
theorem dX0_subtractProduct_58 : decode cX0_subtractProduct 58 = .ok (.lconst 0, 1) := by decide +kernel
theorem dX0_subtractProduct_59 : decode cX0_subtractProduct 59 = .ok (.lcmp, 1) := by decide +kernel
theorem dX0_subtractProduct_60 : decode cX0_subtractProduct 60 = .ok (.ifCond .ge 7, 3) := by decide +kernel
theorem dX0_subtractProduct_63 : decode cX0_subtractProduct 63 = .ok (.iconst 1, 1) := by decide +kernel
theorem dX0_subtractProduct_64 : decode cX0_subtractProduct 64 = .ok (.goto 4, 3) := by decide +kernel
theorem dX0_subtractProduct_67 : decode cX0_subtractProduct 67 = .ok (.iconst 0, 1) := by decide +kernel
theorem dX0_subtractProduct_68 : decode cX0_subtractProduct 68 = .ok (.i2l, 1) := by decide +kernel
theorem dX0_subtractProduct_69 : decode cX0_subtractProduct 69 = .ok (.ladd, 1) := by decide +kernel
theorem dX0_subtractProduct_70 : decode cX0_subtractProduct 70 = .ok (.lstore 6, 2) := by decide +kernel
theorem dX0_subtractProduct_72 : decode cX0_subtractProduct 72 = .ok (.iinc 8 1, 3) := by decide +kernel
theorem dX0_subtractProduct_75 : decode cX0_subtractProduct 75 = .ok (.goto (-69), 3) := by decide +kernel
theorem dX0_subtractProduct_78 : decode cX0_subtractProduct 78 = .ok (.aload_n 0, 1) := by decide +kernel
theorem dX0_subtractProduct_79 : decode cX0_subtractProduct 79 = .ok (.iload_n 3, 1) := by decide +kernel
theorem dX0_subtractProduct_80 : decode cX0_subtractProduct 80 = .ok (.iload_n 2, 1) := by decide +kernel
theorem dX0_subtractProduct_81 : decode cX0_subtractProduct 81 = .ok (.iadd, 1) := by decide +kernel
theorem dX0_subtractProduct_82 : decode cX0_subtractProduct 82 = .ok (.laload, 1) := by decide +kernel
theorem dX0_subtractProduct_83 : decode cX0_subtractProduct 83 = .ok (.lload 6, 2) := by decide +kernel
theorem dX0_subtractProduct_85 : decode cX0_subtractProduct 85 = .ok (.lsub, 1) := by decide +kernel
theorem dX0_subtractProduct_86 : decode cX0_subtractProduct 86 = .ok (.lstore 8, 2) := by decide +kernel
theorem dX0_subtractProduct_88 : decode cX0_subtractProduct 88 = .ok (.aload_n 0, 1) := by decide +kernel
theorem dX0_subtractProduct_89 : decode cX0_subtractProduct 89 = .ok (.iload_n 3, 1) := by decide +kernel
theorem dX0_subtractProduct_90 : decode cX0_subtractProduct 90 = .ok (.iload_n 2, 1) := by decide +kernel
theorem dX0_subtractProduct_91 : decode cX0_subtractProduct 91 = .ok (.iadd, 1) := by decide +kernel
theorem dX0_subtractProduct_92 : decode cX0_subtractProduct 92 = .ok (.lload 8, 2) := by decide +kernel
theorem dX0_subtractProduct_94 : decode cX0_subtractProduct 94 = .ok (.ldc2_w 28, 3) := by decide +kernel
theorem dX0_subtractProduct_97 : decode cX0_subtractProduct 97 = .ok (.land, 1) := by decide +kernel
theorem dX0_subtractProduct_98 : decode cX0_subtractProduct 98 = .ok (.lastore, 1) := by decide +kernel
theorem dX0_subtractProduct_99 : decode cX0_subtractProduct 99 = .ok (.lload 8, 2) := by decide +kernel
theorem dX0_subtractProduct_101 : decode cX0_subtractProduct 101 = .ok (.lconst 0, 1) := by decide +kernel
theorem dX0_subtractProduct_102 : decode cX0_subtractProduct 102 = .ok (.lcmp, 1) := by decide +kernel
theorem dX0_subtractProduct_103 : decode cX0_subtractProduct 103 = .ok (.ifCond .ge 7, 3) := by decide +kernel
theorem dX0_subtractProduct_106 : decode cX0_subtractProduct 106 = .ok (.iconst 1, 1) := by decide +kernel
theorem dX0_subtractProduct_107 : decode cX0_subtractProduct 107 = .ok (.goto 4, 3) := by decide +kernel
theorem dX0_subtractProduct_110 : decode cX0_subtractProduct 110 = .ok (.iconst 0, 1) := by decide +kernel
theorem dX0_subtractProduct_111 : decode cX0_subtractProduct 111 = .ok (.ireturn, 1) := by decide +kernel
theorem dX0_addBack_0 : decode cX0_addBack 0 = .ok (.lconst 0, 1) := by decide +kernel
theorem dX0_addBack_1 : decode cX0_addBack 1 = .ok (.lstore 4, 2) := by decide +kernel
theorem dX0_addBack_3 : decode cX0_addBack 3 = .ok (.iconst 0, 1) := by decide +kernel
theorem dX0_addBack_4 : decode cX0_addBack 4 = .ok (.istore 6, 2) := by decide +kernel
theorem dX0_addBack_6 : decode cX0_addBack 6 = .ok (.iload 6, 2) := by decide +kernel
theorem dX0_addBack_8 : decode cX0_addBack 8 = .ok (.iload_n 2, 1) := by decide +kernel
theorem dX0_addBack_9 : decode cX0_addBack 9 = .ok (.if_icmp .ge 44, 3) := by decide +kernel
theorem dX0_addBack_12 : decode cX0_addBack 12 = .ok (.aload_n 0, 1) := by decide +kernel
theorem dX0_addBack_13 : decode cX0_addBack 13 = .ok (.iload_n 3, 1) := by decide +kernel
theorem dX0_addBack_14 : decode cX0_addBack 14 = .ok (.iload 6, 2) := by decide +kernel
theorem dX0_addBack_16 : decode cX0_addBack 16 = .ok (.iadd, 1) := by decide +kernel
theorem dX0_addBack_17 : decode cX0_addBack 17 = .ok (.laload, 1) := by decide +kernel
theorem dX0_addBack_18 : decode cX0_addBack 18 = .ok (.aload_n 1, 1) := by decide +kernel
theorem dX0_addBack_19 : decode cX0_addBack 19 = .ok (.iload 6, 2) := by decide +kernel
theorem dX0_addBack_21 : decode cX0_addBack 21 = .ok (.laload, 1) := by decide +kernel
theorem dX0_addBack_22 : decode cX0_addBack 22 = .ok (.ladd, 1) := by decide +kernel
theorem dX0_addBack_23 : decode cX0_addBack 23 = .ok (.lload 4, 2) := by decide +kernel
theorem dX0_addBack_25 : decode cX0_addBack 25 = .ok (.ladd, 1) := by decide +kernel
theorem dX0_addBack_26 : decode cX0_addBack 26 = .ok (.lstore 7, 2) := by decide +kernel
theorem dX0_addBack_28 : decode cX0_addBack 28 = .ok (.aload_n 0, 1) := by decide +kernel
theorem dX0_addBack_29 : decode cX0_addBack 29 = .ok (.iload_n 3, 1) := by decide +kernel
theorem dX0_addBack_30 : decode cX0_addBack 30 = .ok (.iload 6, 2) := by decide +kernel
theorem dX0_addBack_32 : decode cX0_addBack 32 = .ok (.iadd, 1) := by decide +kernel
theorem dX0_addBack_33 : decode cX0_addBack 33 = .ok (.lload 7, 2) := by decide +kernel
theorem dX0_addBack_35 : decode cX0_addBack 35 = .ok (.ldc2_w 28, 3) := by decide +kernel
theorem dX0_addBack_38 : decode cX0_addBack 38 = .ok (.land, 1) := by decide +kernel
theorem dX0_addBack_39 : decode cX0_addBack 39 = .ok (.lastore, 1) := by decide +kernel
theorem dX0_addBack_40 : decode cX0_addBack 40 = .ok (.lload 7, 2) := by decide +kernel
theorem dX0_addBack_42 : decode cX0_addBack 42 = .ok (.bipush 32, 2) := by decide +kernel
theorem dX0_addBack_44 : decode cX0_addBack 44 = .ok (.lushr, 1) := by decide +kernel
theorem dX0_addBack_45 : decode cX0_addBack 45 = .ok (.lstore 4, 2) := by decide +kernel
theorem dX0_addBack_47 : decode cX0_addBack 47 = .ok (.iinc 6 1, 3) := by decide +kernel
theorem dX0_addBack_50 : decode cX0_addBack 50 = .ok (.goto (-44), 3) := by decide +kernel
theorem dX0_addBack_53 : decode cX0_addBack 53 = .ok (.aload_n 0, 1) := by decide +kernel
theorem dX0_addBack_54 : decode cX0_addBack 54 = .ok (.iload_n 3, 1) := by decide +kernel
theorem dX0_addBack_55 : decode cX0_addBack 55 = .ok (.iload_n 2, 1) := by decide +kernel
theorem dX0_addBack_56 : decode cX0_addBack 56 = .ok (.iadd, 1) := by decide +kernel
theorem dX0_addBack_57 : decode cX0_addBack 57 = .ok (.laload, 1) := by decide +kernel
theorem dX0_addBack_58 : decode cX0_addBack 58 = .ok (.lload 4, 2) := by decide +kernel
theorem dX0_addBack_60 : decode cX0_addBack 60 = .ok (.ladd, 1) := by decide +kernel
theorem dX0_addBack_61 : decode cX0_addBack 61 = .ok (.lstore 6, 2) := by decide +kernel
theorem dX0_addBack_63 : decode cX0_addBack 63 = .ok (.aload_n 0, 1) := by decide +kernel
theorem dX0_addBack_64 : decode cX0_addBack 64 = .ok (.iload_n 3, 1) := by decide +kernel
theorem dX0_addBack_65 : decode cX0_addBack 65 = .ok (.iload_n 2, 1) := by decide +kernel
theorem dX0_addBack_66 : decode cX0_addBack 66 = .ok (.iadd, 1) := by decide +kernel
theorem dX0_addBack_67 : decode cX0_addBack 67 = .ok (.lload 6, 2) := by decide +kernel
theorem dX0_addBack_69 : decode cX0_addBack 69 = .ok (.ldc2_w 28, 3) := by decide +kernel
theorem dX0_addBack_72 : decode cX0_addBack 72 = .ok (.land, 1) := by decide +kernel
theorem dX0_addBack_73 : decode cX0_addBack 73 = .ok (.lastore, 1) := by decide +kernel
theorem dX0_addBack_74 : decode cX0_addBack 74 = .ok (.lload 6, 2) := by decide +kernel
theorem dX0_addBack_76 : decode cX0_addBack 76 = .ok (.ldc2_w 28, 3) := by decide +kernel
theorem dX0_addBack_79 : decode cX0_addBack 79 = .ok (.lcmp, 1) := by decide +kernel
theorem dX0_addBack_80 : decode cX0_addBack 80 = .ok (.ifCond .le 7, 3) := by decide +kernel
theorem dX0_addBack_83 : decode cX0_addBack 83 = .ok (.iconst 1, 1) := by decide +kernel
theorem dX0_addBack_84 : decode cX0_addBack 84 = .ok (.goto 4, 3) := by decide +kernel
theorem dX0_addBack_87 : decode cX0_addBack 87 = .ok (.iconst 0, 1) := by decide +kernel
theorem dX0_addBack_88 : decode cX0_addBack 88 = .ok (.ireturn, 1) := by decide +kernel
theorem dX1_init_0 : decode cX1_init 0 = .ok (.aload_n 0, 1) := by decide +kernel
theorem dX1_init_1 : decode cX1_init 1 = .ok (.invokespecial 3, 3) := by decide +kernel
theorem dX1_init_4 : decode cX1_init 4 = .ok (.aload_n 0, 1) := by decide +kernel
theorem dX1_init_5 : decode cX1_init 5 = .ok (.bipush 64, 2) := by decide +kernel
theorem dX1_init_7 : decode cX1_init 7 = .ok (.bipush 16, 2) := by decide +kernel
theorem dX1_init_9 : decode cX1_init 9 = .ok (.multianewarray 9 2, 4) := by decide +kernel
theorem dX1_init_13 : decode cX1_init 13 = .ok (.putfield 11, 3) := by decide +kernel
theorem dX1_init_16 : decode cX1_init 16 = .ok (.aload_n 0, 1) := by decide +kernel
theorem dX1_init_17 : decode cX1_init 17 = .ok (.bipush 64, 2) := by decide +kernel
theorem dX1_init_19 : decode cX1_init 19 = .ok (.newarray .boolean, 2) := by decide +kernel
theorem dX1_init_21 : decode cX1_init 21 = .ok (.putfield 14, 3) := by decide +kernel
theorem dX1_init_24 : decode cX1_init 24 = .ok (.aload_n 0, 1) := by decide +kernel
theorem dX1_init_25 : decode cX1_init 25 = .ok (.sipush 1008, 3) := by decide +kernel
theorem dX1_init_28 : decode cX1_init 28 = .ok (.newarray .byte, 2) := by decide +kernel
theorem dX1_init_30 : decode cX1_init 30 = .ok (.putfield 18, 3) := by decide +kernel
theorem dX1_init_33 : decode cX1_init 33 = .ok (.aload_n 0, 1) := by decide +kernel
theorem dX1_init_34 : decode cX1_init 34 = .ok (.iconst 0, 1) := by decide +kernel
theorem dX1_init_35 : decode cX1_init 35 = .ok (.putfield 22, 3) := by decide +kernel
theorem dX1_init_38 : decode cX1_init 38 = .ok (.aload_n 0, 1) := by decide +kernel
theorem dX1_init_39 : decode cX1_init 39 = .ok (.sipush 513, 3) := by decide +kernel
theorem dX1_init_42 : decode cX1_init 42 = .ok (.newarray .byte, 2) := by decide +kernel
theorem dX1_init_44 : decode cX1_init 44 = .ok (.putfield 26, 3) := by decide +kernel
theorem dX1_init_47 : decode cX1_init 47 = .ok (.aload_n 0, 1) := by decide +kernel
theorem dX1_init_48 : decode cX1_init 48 = .ok (.aload_n 0, 1) := by decide +kernel
theorem dX1_init_49 : decode cX1_init 49 = .ok (.getfield 26, 3) := by decide +kernel
theorem dX1_init_52 : decode cX1_init 52 = .ok (.arraylength, 1) := by decide +kernel
theorem dX1_init_53 : decode cX1_init 53 = .ok (.putfield 29, 3) := by decide +kernel
theorem dX1_init_56 : decode cX1_init 56 = .ok (.aload_n 0, 1) := by decide +kernel
theorem dX1_init_57 : decode cX1_init 57 = .ok (.bipush 17, 2) := by decide +kernel
theorem dX1_init_59 : decode cX1_init 59 = .ok (.newarray .long, 2) := by decide +kernel
theorem dX1_init_61 : decode cX1_init 61 = .ok (.putfield 32, 3) := by decide +kernel
theorem dX1_init_64 : decode cX1_init 64 = .ok (.aload_n 0, 1) := by decide +kernel
theorem dX1_init_65 : decode cX1_init 65 = .ok (.bipush 17, 2) := by decide +kernel
theorem dX1_init_67 : decode cX1_init 67 = .ok (.newarray .long, 2) := by decide +kernel
theorem dX1_init_69 : decode cX1_init 69 = .ok (.putfield 36, 3) := by decide +kernel
theorem dX1_init_72 : decode cX1_init 72 = .ok (.aload_n 0, 1) := by decide +kernel
theorem dX1_init_73 : decode cX1_init 73 = .ok (.bipush 32, 2) := by decide +kernel
theorem dX1_init_75 : decode cX1_init 75 = .ok (.newarray .long, 2) := by decide +kernel
theorem dX1_init_77 : decode cX1_init 77 = .ok (.putfield 39, 3) := by decide +kernel
theorem dX1_init_80 : decode cX1_init 80 = .ok (.return_, 1) := by decide +kernel
theorem dX1_set_0 : decode cX1_set 0 = .ok (.iload_n 1, 1) := by decide +kernel
theorem dX1_set_1 : decode cX1_set 1 = .ok (.invokestatic 42, 3) := by decide +kernel
theorem dX1_set_4 : decode cX1_set 4 = .ok (.ifCond .ne 5, 3) := by decide +kernel
theorem dX1_set_7 : decode cX1_set 7 = .ok (.iconst 3, 1) := by decide +kernel
theorem dX1_set_8 : decode cX1_set 8 = .ok (.ireturn, 1) := by decide +kernel
theorem dX1_set_9 : decode cX1_set 9 = .ok (.iload 4, 2) := by decide +kernel
theorem dX1_set_11 : decode cX1_set 11 = .ok (.ifCond .eq 13, 3) := by decide +kernel
theorem dX1_set_14 : decode cX1_set 14 = .ok (.lload_n 2, 1) := by decide +kernel
theorem dX1_set_15 : decode cX1_set 15 = .ok (.lconst 0, 1) := by decide +kernel
theorem dX1_set_16 : decode cX1_set 16 = .ok (.lcmp, 1) := by decide +kernel
theorem dX1_set_17 : decode cX1_set 17 = .ok (.ifCond .ge 7, 3) := by decide +kernel
theorem dX1_set_20 : decode cX1_set 20 = .ok (.iconst 1, 1) := by decide +kernel
theorem dX1_set_21 : decode cX1_set 21 = .ok (.goto 4, 3) := by decide +kernel
theorem dX1_set_24 : decode cX1_set 24 = .ok (.iconst 0, 1) := by decide +kernel
theorem dX1_set_25 : decode cX1_set 25 = .ok (.istore 5, 2) := by decide +kernel
theorem dX1_set_27 : decode cX1_set 27 = .ok (.iload 5, 2) := by decide +kernel
theorem dX1_set_29 : decode cX1_set 29 = .ok (.ifCond .eq 8, 3) := by decide +kernel
theorem dX1_set_32 : decode cX1_set 32 = .ok (.lload_n 2, 1) := by decide +kernel
theorem dX1_set_33 : decode cX1_set 33 = .ok (.lneg, 1) := by decide +kernel
theorem dX1_set_34 : decode cX1_set 34 = .ok (.goto 4, 3) := by decide +kernel
theorem dX1_set_37 : decode cX1_set 37 = .ok (.lload_n 2, 1) := by decide +kernel
theorem dX1_set_38 : decode cX1_set 38 = .ok (.lstore 6, 2) := by decide +kernel
theorem dX1_set_40 : decode cX1_set 40 = .ok (.aload_n 0, 1) := by decide +kernel
theorem dX1_set_41 : decode cX1_set 41 = .ok (.getfield 32, 3) := by decide +kernel
theorem dX1_set_44 : decode cX1_set 44 = .ok (.lconst 0, 1) := by decide +kernel
theorem dX1_set_45 : decode cX1_set 45 = .ok (.invokestatic 46, 3) := by decide +kernel
theorem dX1_set_48 : decode cX1_set 48 = .ok (.aload_n 0, 1) := by decide +kernel
theorem dX1_set_49 : decode cX1_set 49 = .ok (.getfield 32, 3) := by decide +kernel
theorem dX1_set_52 : decode cX1_set 52 = .ok (.iconst 0, 1) := by decide +kernel
theorem dX1_set_53 : decode cX1_set 53 = .ok (.lload 6, 2) := by decide +kernel
theorem dX1_set_55 : decode cX1_set 55 = .ok (.ldc2_w 52, 3) := by decide +kernel
theorem dX1_set_58 : decode cX1_set 58 = .ok (.land, 1) := by decide +kernel
theorem dX1_set_59 : decode cX1_set 59 = .ok (.lastore, 1) := by decide +kernel
theorem dX1_set_60 : decode cX1_set 60 = .ok (.aload_n 0, 1) := by decide +kernel
theorem dX1_set_61 : decode cX1_set 61 = .ok (.getfield 32, 3) := by decide +kernel
theorem dX1_set_64 : decode cX1_set 64 = .ok (.iconst 1, 1) := by decide +kernel
theorem dX1_set_65 : decode cX1_set 65 = .ok (.lload 6, 2) := by decide +kernel
theorem dX1_set_67 : decode cX1_set 67 = .ok (.bipush 32, 2) := by decide +kernel
theorem dX1_set_69 : decode cX1_set 69 = .ok (.lushr, 1) := by decide +kernel
theorem dX1_set_70 : decode cX1_set 70 = .ok (.lastore, 1) := by decide +kernel
theorem dX1_set_71 : decode cX1_set 71 = .ok (.aload_n 0, 1) := by decide +kernel
theorem dX1_set_72 : decode cX1_set 72 = .ok (.iload_n 1, 1) := by decide +kernel
theorem dX1_set_73 : decode cX1_set 73 = .ok (.aload_n 0, 1) := by decide +kernel
theorem dX1_set_74 : decode cX1_set 74 = .ok (.getfield 32, 3) := by decide +kernel
theorem dX1_set_77 : decode cX1_set 77 = .ok (.iload 5, 2) := by decide +kernel
theorem dX1_set_79 : decode cX1_set 79 = .ok (.invokevirtual 54, 3) := by decide +kernel
theorem dX1_set_82 : decode cX1_set 82 = .ok (.ireturn, 1) := by decide +kernel
theorem dX1_digits_0 : decode cX1_digits 0 = .ok (.aload_n 0, 1) := by decide +kernel
theorem dX1_digits_1 : decode cX1_digits 1 = .ok (.getfield 22, 3) := by decide +kernel
theorem dX1_digits_4 : decode cX1_digits 4 = .ok (.istore_n 3, 1) := by decide +kernel
theorem dX1_digits_5 : decode cX1_digits 5 = .ok (.bipush 56, 2) := by decide +kernel
theorem dX1_digits_7 : decode cX1_digits 7 = .ok (.istore 4, 2) := by decide +kernel
theorem dX1_digits_9 : decode cX1_digits 9 = .ok (.iload 4, 2) := by decide +kernel
theorem dX1_digits_11 : decode cX1_digits 11 = .ok (.ifCond .lt 52, 3) := by decide +kernel
theorem dX1_digits_14 : decode cX1_digits 14 = .ok (.lload_n 1, 1) := by decide +kernel
theorem dX1_digits_15 : decode cX1_digits 15 = .ok (.iload 4, 2) := by decide +kernel
theorem dX1_digits_17 : decode cX1_digits 17 = .ok (.lushr, 1) := by decide +kernel
theorem dX1_digits_18 : decode cX1_digits 18 = .ok (.l2i, 1) := by decide +kernel
theorem dX1_digits_19 : decode cX1_digits 19 = .ok (.sipush 255, 3) := by decide +kernel
theorem dX1_digits_22 : decode cX1_digits 22 = .ok (.iand, 1) := by decide +kernel
theorem dX1_digits_23 : decode cX1_digits 23 = .ok (.istore 5, 2) := by decide +kernel
theorem dX1_digits_25 : decode cX1_digits 25 = .ok (.iload 5, 2) := by decide +kernel
theorem dX1_digits_27 : decode cX1_digits 27 = .ok (.ifCond .eq 30, 3) := by decide +kernel
theorem dX1_digits_30 : decode cX1_digits 30 = .ok (.iload 5, 2) := by decide +kernel
theorem dX1_digits_32 : decode cX1_digits 32 = .ok (.invokestatic 58, 3) := by decide +kernel
theorem dX1_digits_35 : decode cX1_digits 35 = .ok (.istore 6, 2) := by decide +kernel
theorem dX1_digits_37 : decode cX1_digits 37 = .ok (.iload 6, 2) := by decide +kernel
theorem dX1_digits_39 : decode cX1_digits 39 = .ok (.iconst (-1), 1) := by decide +kernel
theorem dX1_digits_40 : decode cX1_digits 40 = .ok (.if_icmp .ne 5, 3) := by decide +kernel
theorem dX1_digits_43 : decode cX1_digits 43 = .ok (.iconst 0, 1) := by decide +kernel
theorem dX1_digits_44 : decode cX1_digits 44 = .ok (.ireturn, 1) := by decide +kernel
theorem dX1_digits_45 : decode cX1_digits 45 = .ok (.aload_n 0, 1) := by decide +kernel
theorem dX1_digits_46 : decode cX1_digits 46 = .ok (.getfield 18, 3) := by decide +kernel
theorem dX1_digits_49 : decode cX1_digits 49 = .ok (.iload_n 3, 1) := by decide +kernel
theorem dX1_digits_50 : decode cX1_digits 50 = .ok (.iload 6, 2) := by decide +kernel
theorem dX1_digits_52 : decode cX1_digits 52 = .ok (.i2b, 1) := by decide +kernel
theorem dX1_digits_53 : decode cX1_digits 53 = .ok (.bastore, 1) := by decide +kernel
theorem dX1_digits_54 : decode cX1_digits 54 = .ok (.iinc 3 1, 3) := by decide +kernel
theorem dX1_digits_57 : decode cX1_digits 57 = .ok (.iinc 4 (-8), 3) := by decide +kernel
theorem dX1_digits_60 : decode cX1_digits 60 = .ok (.goto (-51), 3) := by decide +kernel
theorem dX1_digits_63 : decode cX1_digits 63 = .ok (.iload_n 3, 1) := by decide +kernel
theorem dX1_digits_64 : decode cX1_digits 64 = .ok (.sipush 1000, 3) := by decide +kernel
theorem dX1_digits_67 : decode cX1_digits 67 = .ok (.if_icmp .le 5, 3) := by decide +kernel
theorem dX1_digits_70 : decode cX1_digits 70 = .ok (.iconst 0, 1) := by decide +kernel
theorem dX1_digits_71 : decode cX1_digits 71 = .ok (.ireturn, 1) := by decide +kernel
theorem dX1_digits_72 : decode cX1_digits 72 = .ok (.aload_n 0, 1) := by decide +kernel
theorem dX1_digits_73 : decode cX1_digits 73 = .ok (.iload_n 3, 1) := by decide +kernel
theorem dX1_digits_74 : decode cX1_digits 74 = .ok (.putfield 22, 3) := by decide +kernel
theorem dX1_digits_77 : decode cX1_digits 77 = .ok (.iconst 1, 1) := by decide +kernel
theorem dX1_digits_78 : decode cX1_digits 78 = .ok (.ireturn, 1) := by decide +kernel
theorem dX1_read_0 : decode cX1_read 0 = .ok (.aload_n 0, 1) := by decide +kernel
theorem dX1_read_1 : decode cX1_read 1 = .ok (.getfield 22, 3) := by decide +kernel
theorem dX1_read_4 : decode cX1_read 4 = .ok (.istore_n 3, 1) := by decide +kernel
theorem dX1_read_5 : decode cX1_read 5 = .ok (.aload_n 0, 1) := by decide +kernel
theorem dX1_read_6 : decode cX1_read 6 = .ok (.iconst 0, 1) := by decide +kernel
theorem dX1_read_7 : decode cX1_read 7 = .ok (.putfield 22, 3) := by decide +kernel
theorem dX1_read_10 : decode cX1_read 10 = .ok (.iload_n 1, 1) := by decide +kernel
theorem dX1_read_11 : decode cX1_read 11 = .ok (.invokestatic 42, 3) := by decide +kernel
theorem dX1_read_14 : decode cX1_read 14 = .ok (.ifCond .eq 23, 3) := by decide +kernel
theorem dX1_read_17 : decode cX1_read 17 = .ok (.iload_n 2, 1) := by decide +kernel
theorem dX1_read_18 : decode cX1_read 18 = .ok (.invokestatic 62, 3) := by decide +kernel
theorem dX1_read_21 : decode cX1_read 21 = .ok (.ifCond .eq 16, 3) := by decide +kernel
theorem dX1_read_24 : decode cX1_read 24 = .ok (.iload_n 3, 1) := by decide +kernel
theorem dX1_read_25 : decode cX1_read 25 = .ok (.ifCond .eq 12, 3) := by decide +kernel
theorem dX1_read_28 : decode cX1_read 28 = .ok (.aload_n 0, 1) := by decide +kernel
theorem dX1_read_29 : decode cX1_read 29 = .ok (.iload_n 2, 1) := by decide +kernel
theorem dX1_read_30 : decode cX1_read 30 = .ok (.iload_n 3, 1) := by decide +kernel
theorem dX1_read_31 : decode cX1_read 31 = .ok (.invokevirtual 65, 3) := by decide +kernel
theorem dX1_read_34 : decode cX1_read 34 = .ok (.ifCond .ne 5, 3) := by decide +kernel
theorem dX1_read_37 : decode cX1_read 37 = .ok (.iconst 3, 1) := by decide +kernel
theorem dX1_read_38 : decode cX1_read 38 = .ok (.ireturn, 1) := by decide +kernel
theorem dX1_read_39 : decode cX1_read 39 = .ok (.aload_n 0, 1) := by decide +kernel
theorem dX1_read_40 : decode cX1_read 40 = .ok (.getfield 32, 3) := by decide +kernel
theorem dX1_read_43 : decode cX1_read 43 = .ok (.lconst 0, 1) := by decide +kernel
theorem dX1_read_44 : decode cX1_read 44 = .ok (.invokestatic 46, 3) := by decide +kernel
theorem dX1_read_47 : decode cX1_read 47 = .ok (.lconst 1, 1) := by decide +kernel
theorem dX1_read_48 : decode cX1_read 48 = .ok (.lstore 4, 2) := by decide +kernel
theorem dX1_read_50 : decode cX1_read 50 = .ok (.lconst 0, 1) := by decide +kernel
theorem dX1_read_51 : decode cX1_read 51 = .ok (.lstore 6, 2) := by decide +kernel
theorem dX1_read_53 : decode cX1_read 53 = .ok (.iconst 0, 1) := by decide +kernel
theorem dX1_read_54 : decode cX1_read 54 = .ok (.istore 8, 2) := by decide +kernel
theorem dX1_read_56 : decode cX1_read 56 = .ok (.iload 8, 2) := by decide +kernel
theorem dX1_read_58 : decode cX1_read 58 = .ok (.iload_n 3, 1) := by decide +kernel
theorem dX1_read_59 : decode cX1_read 59 = .ok (.if_icmp .ge 83, 3) := by decide +kernel
theorem dX1_read_62 : decode cX1_read 62 = .ok (.lload 4, 2) := by decide +kernel
theorem dX1_read_64 : decode cX1_read 64 = .ok (.iload_n 2, 1) := by decide +kernel
theorem dX1_read_65 : decode cX1_read 65 = .ok (.i2l, 1) := by decide +kernel
theorem dX1_read_66 : decode cX1_read 66 = .ok (.lmul, 1) := by decide +kernel
theorem dX1_read_67 : decode cX1_read 67 = .ok (.lstore 4, 2) := by decide +kernel
theorem dX1_read_69 : decode cX1_read 69 = .ok (.lload 6, 2) := by decide +kernel
theorem dX1_read_71 : decode cX1_read 71 = .ok (.iload_n 2, 1) := by decide +kernel
theorem dX1_read_72 : decode cX1_read 72 = .ok (.i2l, 1) := by decide +kernel
theorem dX1_read_73 : decode cX1_read 73 = .ok (.lmul, 1) := by decide +kernel
theorem dX1_read_74 : decode cX1_read 74 = .ok (.aload_n 0, 1) := by decide +kernel
theorem dX1_read_75 : decode cX1_read 75 = .ok (.getfield 18, 3) := by decide +kernel
theorem dX1_read_78 : decode cX1_read 78 = .ok (.iload 8, 2) := by decide +kernel
theorem dX1_read_80 : decode cX1_read 80 = .ok (.baload, 1) := by decide +kernel
theorem dX1_read_81 : decode cX1_read 81 = .ok (.i2l, 1) := by decide +kernel
theorem dX1_read_82 : decode cX1_read 82 = .ok (.ladd, 1) := by decide +kernel
theorem dX1_read_83 : decode cX1_read 83 = .ok (.lstore 6, 2) := by decide +kernel
theorem dX1_read_85 : decode cX1_read 85 = .ok (.lload 4, 2) := by decide +kernel
theorem dX1_read_87 : decode cX1_read 87 = .ok (.iload_n 2, 1) := by decide +kernel
theorem dX1_read_88 : decode cX1_read 88 = .ok (.i2l, 1) := by decide +kernel
theorem dX1_read_89 : decode cX1_read 89 = .ok (.lmul, 1) := by decide +kernel
theorem dX1_read_90 : decode cX1_read 90 = .ok (.ldc2_w 69, 3) := by decide +kernel
theorem dX1_read_93 : decode cX1_read 93 = .ok (.lcmp, 1) := by decide +kernel
theorem dX1_read_94 : decode cX1_read 94 = .ok (.ifCond .gt 11, 3) := by decide +kernel
theorem dX1_read_97 : decode cX1_read 97 = .ok (.iload 8, 2) := by decide +kernel
theorem dX1_read_99 : decode cX1_read 99 = .ok (.iload_n 3, 1) := by decide +kernel
theorem dX1_read_100 : decode cX1_read 100 = .ok (.iconst 1, 1) := by decide +kernel
theorem dX1_read_101 : decode cX1_read 101 = .ok (.isub, 1) := by decide +kernel
theorem dX1_read_102 : decode cX1_read 102 = .ok (.if_icmp .ne 34, 3) := by decide +kernel
theorem dX1_read_105 : decode cX1_read 105 = .ok (.aload_n 0, 1) := by decide +kernel
theorem dX1_read_106 : decode cX1_read 106 = .ok (.getfield 32, 3) := by decide +kernel
theorem dX1_read_109 : decode cX1_read 109 = .ok (.lload 4, 2) := by decide +kernel
theorem dX1_read_111 : decode cX1_read 111 = .ok (.lload 6, 2) := by decide +kernel
theorem dX1_read_113 : decode cX1_read 113 = .ok (.invokestatic 71, 3) := by decide +kernel
theorem dX1_read_116 : decode cX1_read 116 = .ok (.aload_n 0, 1) := by decide +kernel
theorem dX1_read_117 : decode cX1_read 117 = .ok (.getfield 32, 3) := by decide +kernel
theorem dX1_read_120 : decode cX1_read 120 = .ok (.bipush 16, 2) := by decide +kernel
theorem dX1_read_122 : decode cX1_read 122 = .ok (.laload, 1) := by decide +kernel
theorem dX1_read_123 : decode cX1_read 123 = .ok (.lconst 0, 1) := by decide +kernel
theorem dX1_read_124 : decode cX1_read 124 = .ok (.lcmp, 1) := by decide +kernel
theorem dX1_read_125 : decode cX1_read 125 = .ok (.ifCond .eq 5, 3) := by decide +kernel
theorem dX1_read_128 : decode cX1_read 128 = .ok (.iconst 1, 1) := by decide +kernel
theorem dX1_read_129 : decode cX1_read 129 = .ok (.ireturn, 1) := by decide +kernel
theorem dX1_read_130 : decode cX1_read 130 = .ok (.lconst 1, 1) := by decide +kernel
theorem dX1_read_131 : decode cX1_read 131 = .ok (.lstore 4, 2) := by decide +kernel
theorem dX1_read_133 : decode cX1_read 133 = .ok (.lconst 0, 1) := by decide +kernel
theorem dX1_read_134 : decode cX1_read 134 = .ok (.lstore 6, 2) := by decide +kernel
theorem dX1_read_136 : decode cX1_read 136 = .ok (.iinc 8 1, 3) := by decide +kernel
theorem dX1_read_139 : decode cX1_read 139 = .ok (.goto (-83), 3) := by decide +kernel
theorem dX1_read_142 : decode cX1_read 142 = .ok (.aload_n 0, 1) := by decide +kernel
theorem dX1_read_143 : decode cX1_read 143 = .ok (.iload_n 1, 1) := by decide +kernel
theorem dX1_read_144 : decode cX1_read 144 = .ok (.aload_n 0, 1) := by decide +kernel
theorem dX1_read_145 : decode cX1_read 145 = .ok (.getfield 32, 3) := by decide +kernel
theorem dX1_read_148 : decode cX1_read 148 = .ok (.iconst 0, 1) := by decide +kernel
theorem dX1_read_149 : decode cX1_read 149 = .ok (.invokevirtual 54, 3) := by decide +kernel
theorem dX1_read_152 : decode cX1_read 152 = .ok (.ireturn, 1) := by decide +kernel
theorem dX1_work_0 : decode cX1_work 0 = .ok (.iload_n 2, 1) := by decide +kernel
theorem dX1_work_1 : decode cX1_work 1 = .ok (.invokestatic 42, 3) := by decide +kernel
theorem dX1_work_4 : decode cX1_work 4 = .ok (.ifCond .eq 18, 3) := by decide +kernel
theorem dX1_work_7 : decode cX1_work 7 = .ok (.iload_n 3, 1) := by decide +kernel
theorem dX1_work_8 : decode cX1_work 8 = .ok (.invokestatic 42, 3) := by decide +kernel
theorem dX1_work_11 : decode cX1_work 11 = .ok (.ifCond .eq 11, 3) := by decide +kernel
theorem dX1_work_14 : decode cX1_work 14 = .ok (.iload 4, 2) := by decide +kernel
theorem dX1_work_16 : decode cX1_work 16 = .ok (.invokestatic 42, 3) := by decide +kernel
theorem dX1_work_19 : decode cX1_work 19 = .ok (.ifCond .ne 5, 3) := by decide +kernel
theorem dX1_work_22 : decode cX1_work 22 = .ok (.iconst 3, 1) := by decide +kernel
theorem dX1_work_23 : decode cX1_work 23 = .ok (.ireturn, 1) := by decide +kernel
theorem dX1_work_24 : decode cX1_work 24 = .ok (.iload_n 1, 1) := by decide +kernel
theorem dX1_work_25 : decode cX1_work 25 = .ok (.tableswitch 172 0 8 #[51, 67, 91, 142, 152, 162, 162, 162, 162], 51) := by decide +kernel
theorem dX1_work_76 : decode cX1_work 76 = .ok (.aload_n 0, 1) := by decide +kernel
theorem dX1_work_77 : decode cX1_work 77 = .ok (.iload_n 2, 1) := by decide +kernel
theorem dX1_work_78 : decode cX1_work 78 = .ok (.iload_n 3, 1) := by decide +kernel
theorem dX1_work_79 : decode cX1_work 79 = .ok (.iload 4, 2) := by decide +kernel
theorem dX1_work_81 : decode cX1_work 81 = .ok (.aload_n 0, 1) := by decide +kernel
theorem dX1_work_82 : decode cX1_work 82 = .ok (.getfield 14, 3) := by decide +kernel
theorem dX1_work_85 : decode cX1_work 85 = .ok (.iload 4, 2) := by decide +kernel
theorem dX1_work_87 : decode cX1_work 87 = .ok (.baload, 1) := by decide +kernel
theorem dX1_work_88 : decode cX1_work 88 = .ok (.invokevirtual 77, 3) := by decide +kernel
theorem dX1_work_91 : decode cX1_work 91 = .ok (.ireturn, 1) := by decide +kernel
theorem dX1_work_92 : decode cX1_work 92 = .ok (.aload_n 0, 1) := by decide +kernel
theorem dX1_work_93 : decode cX1_work 93 = .ok (.iload_n 2, 1) := by decide +kernel
theorem dX1_work_94 : decode cX1_work 94 = .ok (.iload_n 3, 1) := by decide +kernel
theorem dX1_work_95 : decode cX1_work 95 = .ok (.iload 4, 2) := by decide +kernel
theorem dX1_work_97 : decode cX1_work 97 = .ok (.aload_n 0, 1) := by decide +kernel
theorem dX1_work_98 : decode cX1_work 98 = .ok (.getfield 14, 3) := by decide +kernel
theorem dX1_work_101 : decode cX1_work 101 = .ok (.iload 4, 2) := by decide +kernel
theorem dX1_work_103 : decode cX1_work 103 = .ok (.baload, 1) := by decide +kernel
theorem dX1_work_104 : decode cX1_work 104 = .ok (.ifCond .ne 7, 3) := by decide +kernel
theorem dX1_work_107 : decode cX1_work 107 = .ok (.iconst 1, 1) := by decide +kernel
theorem dX1_work_108 : decode cX1_work 108 = .ok (.goto 4, 3) := by decide +kernel
theorem dX1_work_111 : decode cX1_work 111 = .ok (.iconst 0, 1) := by decide +kernel
theorem dX1_work_112 : decode cX1_work 112 = .ok (.invokevirtual 77, 3) := by decide +kernel
theorem dX1_work_115 : decode cX1_work 115 = .ok (.ireturn, 1) := by decide +kernel
theorem dX1_work_116 : decode cX1_work 116 = .ok (.aload_n 0, 1) := by decide +kernel
theorem dX1_work_117 : decode cX1_work 117 = .ok (.getfield 11, 3) := by decide +kernel
theorem dX1_work_120 : decode cX1_work 120 = .ok (.iload_n 3, 1) := by decide +kernel
theorem dX1_work_121 : decode cX1_work 121 = .ok (.aaload, 1) := by decide +kernel
theorem dX1_work_122 : decode cX1_work 122 = .ok (.aload_n 0, 1) := by decide +kernel
theorem dX1_work_123 : decode cX1_work 123 = .ok (.getfield 11, 3) := by decide +kernel
theorem dX1_work_126 : decode cX1_work 126 = .ok (.iload 4, 2) := by decide +kernel
theorem dX1_work_128 : decode cX1_work 128 = .ok (.aaload, 1) := by decide +kernel
theorem dX1_work_129 : decode cX1_work 129 = .ok (.aload_n 0, 1) := by decide +kernel
theorem dX1_work_130 : decode cX1_work 130 = .ok (.getfield 39, 3) := by decide +kernel
theorem dX1_work_133 : decode cX1_work 133 = .ok (.invokestatic 81, 3) := by decide +kernel
theorem dX1_work_136 : decode cX1_work 136 = .ok (.aload_n 0, 1) := by decide +kernel
theorem dX1_work_137 : decode cX1_work 137 = .ok (.iload_n 2, 1) := by decide +kernel
theorem dX1_work_138 : decode cX1_work 138 = .ok (.aload_n 0, 1) := by decide +kernel
theorem dX1_work_139 : decode cX1_work 139 = .ok (.getfield 39, 3) := by decide +kernel
theorem dX1_work_142 : decode cX1_work 142 = .ok (.aload_n 0, 1) := by decide +kernel
theorem dX1_work_143 : decode cX1_work 143 = .ok (.getfield 14, 3) := by decide +kernel
theorem dX1_work_146 : decode cX1_work 146 = .ok (.iload_n 3, 1) := by decide +kernel
theorem dX1_work_147 : decode cX1_work 147 = .ok (.baload, 1) := by decide +kernel
theorem dX1_work_148 : decode cX1_work 148 = .ok (.aload_n 0, 1) := by decide +kernel
theorem dX1_work_149 : decode cX1_work 149 = .ok (.getfield 14, 3) := by decide +kernel
theorem dX1_work_152 : decode cX1_work 152 = .ok (.iload 4, 2) := by decide +kernel
theorem dX1_work_154 : decode cX1_work 154 = .ok (.baload, 1) := by decide +kernel
theorem dX1_work_155 : decode cX1_work 155 = .ok (.if_icmp .eq 7, 3) := by decide +kernel
theorem dX1_work_158 : decode cX1_work 158 = .ok (.iconst 1, 1) := by decide +kernel
theorem dX1_work_159 : decode cX1_work 159 = .ok (.goto 4, 3) := by decide +kernel
theorem dX1_work_162 : decode cX1_work 162 = .ok (.iconst 0, 1) := by decide +kernel
theorem dX1_work_163 : decode cX1_work 163 = .ok (.invokevirtual 54, 3) := by decide +kernel
theorem dX1_work_166 : decode cX1_work 166 = .ok (.ireturn, 1) := by decide +kernel
theorem dX1_work_167 : decode cX1_work 167 = .ok (.aload_n 0, 1) := by decide +kernel
theorem dX1_work_168 : decode cX1_work 168 = .ok (.iload_n 2, 1) := by decide +kernel
theorem dX1_work_169 : decode cX1_work 169 = .ok (.iload_n 3, 1) := by decide +kernel
theorem dX1_work_170 : decode cX1_work 170 = .ok (.iload 4, 2) := by decide +kernel
theorem dX1_work_172 : decode cX1_work 172 = .ok (.iconst 0, 1) := by decide +kernel
theorem dX1_work_173 : decode cX1_work 173 = .ok (.invokevirtual 85, 3) := by decide +kernel
theorem dX1_work_176 : decode cX1_work 176 = .ok (.ireturn, 1) := by decide +kernel
theorem dX1_work_177 : decode cX1_work 177 = .ok (.aload_n 0, 1) := by decide +kernel
theorem dX1_work_178 : decode cX1_work 178 = .ok (.iload_n 2, 1) := by decide +kernel
theorem dX1_work_179 : decode cX1_work 179 = .ok (.iload_n 3, 1) := by decide +kernel
theorem dX1_work_180 : decode cX1_work 180 = .ok (.iload 4, 2) := by decide +kernel
theorem dX1_work_182 : decode cX1_work 182 = .ok (.iconst 1, 1) := by decide +kernel
theorem dX1_work_183 : decode cX1_work 183 = .ok (.invokevirtual 85, 3) := by decide +kernel
theorem dX1_work_186 : decode cX1_work 186 = .ok (.ireturn, 1) := by decide +kernel
theorem dX1_work_187 : decode cX1_work 187 = .ok (.aload_n 0, 1) := by decide +kernel
theorem dX1_work_188 : decode cX1_work 188 = .ok (.iload_n 1, 1) := by decide +kernel
theorem dX1_work_189 : decode cX1_work 189 = .ok (.iload_n 2, 1) := by decide +kernel
theorem dX1_work_190 : decode cX1_work 190 = .ok (.iload_n 3, 1) := by decide +kernel
theorem dX1_work_191 : decode cX1_work 191 = .ok (.iload 4, 2) := by decide +kernel
theorem dX1_work_193 : decode cX1_work 193 = .ok (.invokevirtual 88, 3) := by decide +kernel
theorem dX1_work_196 : decode cX1_work 196 = .ok (.ireturn, 1) := by decide +kernel
theorem dX1_work_197 : decode cX1_work 197 = .ok (.iconst 3, 1) := by decide +kernel
theorem dX1_work_198 : decode cX1_work 198 = .ok (.ireturn, 1) := by decide +kernel
theorem dX1_shift_0 : decode cX1_shift 0 = .ok (.iload_n 1, 1) := by decide +kernel
theorem dX1_shift_1 : decode cX1_shift 1 = .ok (.invokestatic 42, 3) := by decide +kernel
theorem dX1_shift_4 : decode cX1_shift 4 = .ok (.ifCond .eq 21, 3) := by decide +kernel
theorem dX1_shift_7 : decode cX1_shift 7 = .ok (.iload_n 2, 1) := by decide +kernel
theorem dX1_shift_8 : decode cX1_shift 8 = .ok (.invokestatic 42, 3) := by decide +kernel
theorem dX1_shift_11 : decode cX1_shift 11 = .ok (.ifCond .eq 14, 3) := by decide +kernel
theorem dX1_shift_14 : decode cX1_shift 14 = .ok (.iload_n 3, 1) := by decide +kernel
theorem dX1_shift_15 : decode cX1_shift 15 = .ok (.ifCond .lt 10, 3) := by decide +kernel
theorem dX1_shift_18 : decode cX1_shift 18 = .ok (.iload_n 3, 1) := by decide +kernel
theorem dX1_shift_19 : decode cX1_shift 19 = .ok (.sipush 1000, 3) := by decide +kernel
theorem dX1_shift_22 : decode cX1_shift 22 = .ok (.if_icmp .le 5, 3) := by decide +kernel
theorem dX1_shift_25 : decode cX1_shift 25 = .ok (.iconst 3, 1) := by decide +kernel
theorem dX1_shift_26 : decode cX1_shift 26 = .ok (.ireturn, 1) := by decide +kernel
theorem dX1_shift_27 : decode cX1_shift 27 = .ok (.aload_n 0, 1) := by decide +kernel
theorem dX1_shift_28 : decode cX1_shift 28 = .ok (.getfield 11, 3) := by decide +kernel
theorem dX1_shift_31 : decode cX1_shift 31 = .ok (.iload_n 2, 1) := by decide +kernel
theorem dX1_shift_32 : decode cX1_shift 32 = .ok (.aaload, 1) := by decide +kernel
theorem dX1_shift_33 : decode cX1_shift 33 = .ok (.astore 5, 2) := by decide +kernel
theorem dX1_shift_35 : decode cX1_shift 35 = .ok (.iload 4, 2) := by decide +kernel
theorem dX1_shift_37 : decode cX1_shift 37 = .ok (.ifCond .eq 40, 3) := by decide +kernel
theorem dX1_shift_40 : decode cX1_shift 40 = .ok (.aload 5, 2) := by decide +kernel
theorem dX1_shift_42 : decode cX1_shift 42 = .ok (.invokestatic 92, 3) := by decide +kernel
theorem dX1_shift_45 : decode cX1_shift 45 = .ok (.istore 6, 2) := by decide +kernel
theorem dX1_shift_47 : decode cX1_shift 47 = .ok (.iload 6, 2) := by decide +kernel
theorem dX1_shift_49 : decode cX1_shift 49 = .ok (.ifCond .le 15, 3) := by decide +kernel
theorem dX1_shift_52 : decode cX1_shift 52 = .ok (.iload 6, 2) := by decide +kernel
theorem dX1_shift_54 : decode cX1_shift 54 = .ok (.iload_n 3, 1) := by decide +kernel
theorem dX1_shift_55 : decode cX1_shift 55 = .ok (.iadd, 1) := by decide +kernel
theorem dX1_shift_56 : decode cX1_shift 56 = .ok (.sipush 512, 3) := by decide +kernel
theorem dX1_shift_59 : decode cX1_shift 59 = .ok (.if_icmp .le 5, 3) := by decide +kernel
theorem dX1_shift_62 : decode cX1_shift 62 = .ok (.iconst 1, 1) := by decide +kernel
theorem dX1_shift_63 : decode cX1_shift 63 = .ok (.ireturn, 1) := by decide +kernel
theorem dX1_shift_64 : decode cX1_shift 64 = .ok (.aload 5, 2) := by decide +kernel
theorem dX1_shift_66 : decode cX1_shift 66 = .ok (.iload_n 3, 1) := by decide +kernel
theorem dX1_shift_67 : decode cX1_shift 67 = .ok (.aload_n 0, 1) := by decide +kernel
theorem dX1_shift_68 : decode cX1_shift 68 = .ok (.getfield 32, 3) := by decide +kernel
theorem dX1_shift_71 : decode cX1_shift 71 = .ok (.invokestatic 96, 3) := by decide +kernel
theorem dX1_shift_74 : decode cX1_shift 74 = .ok (.goto 38, 3) := by decide +kernel
theorem dX1_shift_77 : decode cX1_shift 77 = .ok (.aload 5, 2) := by decide +kernel
theorem dX1_shift_79 : decode cX1_shift 79 = .ok (.iload_n 3, 1) := by decide +kernel
theorem dX1_shift_80 : decode cX1_shift 80 = .ok (.aload_n 0, 1) := by decide +kernel
theorem dX1_shift_81 : decode cX1_shift 81 = .ok (.getfield 32, 3) := by decide +kernel
theorem dX1_shift_84 : decode cX1_shift 84 = .ok (.invokestatic 100, 3) := by decide +kernel
theorem dX1_shift_87 : decode cX1_shift 87 = .ok (.aload_n 0, 1) := by decide +kernel
theorem dX1_shift_88 : decode cX1_shift 88 = .ok (.getfield 14, 3) := by decide +kernel
theorem dX1_shift_91 : decode cX1_shift 91 = .ok (.iload_n 2, 1) := by decide +kernel
theorem dX1_shift_92 : decode cX1_shift 92 = .ok (.baload, 1) := by decide +kernel
theorem dX1_shift_93 : decode cX1_shift 93 = .ok (.ifCond .eq 19, 3) := by decide +kernel
theorem dX1_shift_96 : decode cX1_shift 96 = .ok (.aload 5, 2) := by decide +kernel
theorem dX1_shift_98 : decode cX1_shift 98 = .ok (.invokestatic 103, 3) := by decide +kernel
theorem dX1_shift_101 : decode cX1_shift 101 = .ok (.iload_n 3, 1) := by decide +kernel
theorem dX1_shift_102 : decode cX1_shift 102 = .ok (.if_icmp .ge 10, 3) := by decide +kernel
theorem dX1_shift_105 : decode cX1_shift 105 = .ok (.aload_n 0, 1) := by decide +kernel
theorem dX1_shift_106 : decode cX1_shift 106 = .ok (.getfield 32, 3) := by decide +kernel
theorem dX1_shift_109 : decode cX1_shift 109 = .ok (.invokestatic 106, 3) := by decide +kernel
theorem dX1_shift_112 : decode cX1_shift 112 = .ok (.aload_n 0, 1) := by decide +kernel
theorem dX1_shift_113 : decode cX1_shift 113 = .ok (.iload_n 1, 1) := by decide +kernel
theorem dX1_shift_114 : decode cX1_shift 114 = .ok (.aload_n 0, 1) := by decide +kernel
theorem dX1_shift_115 : decode cX1_shift 115 = .ok (.getfield 32, 3) := by decide +kernel
theorem dX1_shift_118 : decode cX1_shift 118 = .ok (.aload_n 0, 1) := by decide +kernel
theorem dX1_shift_119 : decode cX1_shift 119 = .ok (.getfield 14, 3) := by decide +kernel
theorem dX1_shift_122 : decode cX1_shift 122 = .ok (.iload_n 2, 1) := by decide +kernel
theorem dX1_shift_123 : decode cX1_shift 123 = .ok (.baload, 1) := by decide +kernel
theorem dX1_shift_124 : decode cX1_shift 124 = .ok (.invokevirtual 54, 3) := by decide +kernel
theorem dX1_shift_127 : decode cX1_shift 127 = .ok (.ireturn, 1) := by decide +kernel
theorem dX1_turn_0 : decode cX1_turn 0 = .ok (.iload_n 1, 1) := by decide +kernel
theorem dX1_turn_1 : decode cX1_turn 1 = .ok (.invokestatic 42, 3) := by decide +kernel
theorem dX1_turn_4 : decode cX1_turn 4 = .ok (.ifCond .eq 10, 3) := by decide +kernel
theorem dX1_turn_7 : decode cX1_turn 7 = .ok (.iload_n 2, 1) := by decide +kernel
theorem dX1_turn_8 : decode cX1_turn 8 = .ok (.invokestatic 42, 3) := by decide +kernel
theorem dX1_turn_11 : decode cX1_turn 11 = .ok (.ifCond .ne 5, 3) := by decide +kernel
theorem dX1_turn_14 : decode cX1_turn 14 = .ok (.iconst 3, 1) := by decide +kernel
theorem dX1_turn_15 : decode cX1_turn 15 = .ok (.ireturn, 1) := by decide +kernel
theorem dX1_turn_16 : decode cX1_turn 16 = .ok (.aload_n 0, 1) := by decide +kernel
theorem dX1_turn_17 : decode cX1_turn 17 = .ok (.getfield 11, 3) := by decide +kernel
theorem dX1_turn_20 : decode cX1_turn 20 = .ok (.iload_n 2, 1) := by decide +kernel
theorem dX1_turn_21 : decode cX1_turn 21 = .ok (.aaload, 1) := by decide +kernel
theorem dX1_turn_22 : decode cX1_turn 22 = .ok (.aload_n 0, 1) := by decide +kernel
theorem dX1_turn_23 : decode cX1_turn 23 = .ok (.getfield 32, 3) := by decide +kernel
theorem dX1_turn_26 : decode cX1_turn 26 = .ok (.invokestatic 110, 3) := by decide +kernel
theorem dX1_turn_29 : decode cX1_turn 29 = .ok (.iload_n 3, 1) := by decide +kernel
theorem dX1_turn_30 : decode cX1_turn 30 = .ok (.ifCond .eq 29, 3) := by decide +kernel
theorem dX1_turn_33 : decode cX1_turn 33 = .ok (.aload_n 0, 1) := by decide +kernel
theorem dX1_turn_34 : decode cX1_turn 34 = .ok (.getfield 14, 3) := by decide +kernel
theorem dX1_turn_37 : decode cX1_turn 37 = .ok (.iload_n 2, 1) := by decide +kernel
theorem dX1_turn_38 : decode cX1_turn 38 = .ok (.baload, 1) := by decide +kernel
theorem dX1_turn_39 : decode cX1_turn 39 = .ok (.ifCond .eq 13, 3) := by decide +kernel
theorem dX1_turn_42 : decode cX1_turn 42 = .ok (.aload_n 0, 1) := by decide +kernel
theorem dX1_turn_43 : decode cX1_turn 43 = .ok (.getfield 32, 3) := by decide +kernel
theorem dX1_turn_46 : decode cX1_turn 46 = .ok (.invokestatic 114, 3) := by decide +kernel
theorem dX1_turn_49 : decode cX1_turn 49 = .ok (.goto 10, 3) := by decide +kernel
theorem dX1_turn_52 : decode cX1_turn 52 = .ok (.aload_n 0, 1) := by decide +kernel
theorem dX1_turn_53 : decode cX1_turn 53 = .ok (.getfield 32, 3) := by decide +kernel
theorem dX1_turn_56 : decode cX1_turn 56 = .ok (.invokestatic 106, 3) := by decide +kernel
theorem dX1_turn_59 : decode cX1_turn 59 = .ok (.aload_n 0, 1) := by decide +kernel
theorem dX1_turn_60 : decode cX1_turn 60 = .ok (.iload_n 1, 1) := by decide +kernel
theorem dX1_turn_61 : decode cX1_turn 61 = .ok (.aload_n 0, 1) := by decide +kernel
theorem dX1_turn_62 : decode cX1_turn 62 = .ok (.getfield 32, 3) := by decide +kernel
theorem dX1_turn_65 : decode cX1_turn 65 = .ok (.aload_n 0, 1) := by decide +kernel
theorem dX1_turn_66 : decode cX1_turn 66 = .ok (.getfield 14, 3) := by decide +kernel
theorem dX1_turn_69 : decode cX1_turn 69 = .ok (.iload_n 2, 1) := by decide +kernel
theorem dX1_turn_70 : decode cX1_turn 70 = .ok (.baload, 1) := by decide +kernel
theorem dX1_turn_71 : decode cX1_turn 71 = .ok (.ifCond .ne 7, 3) := by decide +kernel
theorem dX1_turn_74 : decode cX1_turn 74 = .ok (.iconst 1, 1) := by decide +kernel
theorem dX1_turn_75 : decode cX1_turn 75 = .ok (.goto 4, 3) := by decide +kernel
theorem dX1_turn_78 : decode cX1_turn 78 = .ok (.iconst 0, 1) := by decide +kernel
theorem dX1_turn_79 : decode cX1_turn 79 = .ok (.invokevirtual 54, 3) := by decide +kernel
theorem dX1_turn_82 : decode cX1_turn 82 = .ok (.ireturn, 1) := by decide +kernel
theorem dX1_compare_0 : decode cX1_compare 0 = .ok (.iload_n 1, 1) := by decide +kernel
theorem dX1_compare_1 : decode cX1_compare 1 = .ok (.invokestatic 42, 3) := by decide +kernel
theorem dX1_compare_4 : decode cX1_compare 4 = .ok (.ifCond .eq 10, 3) := by decide +kernel
theorem dX1_compare_7 : decode cX1_compare 7 = .ok (.iload_n 2, 1) := by decide +kernel
theorem dX1_compare_8 : decode cX1_compare 8 = .ok (.invokestatic 42, 3) := by decide +kernel
theorem dX1_compare_11 : decode cX1_compare 11 = .ok (.ifCond .ne 6, 3) := by decide +kernel
theorem dX1_compare_14 : decode cX1_compare 14 = .ok (.bipush (-2), 2) := by decide +kernel
theorem dX1_compare_16 : decode cX1_compare 16 = .ok (.ireturn, 1) := by decide +kernel
theorem dX1_compare_17 : decode cX1_compare 17 = .ok (.aload_n 0, 1) := by decide +kernel
theorem dX1_compare_18 : decode cX1_compare 18 = .ok (.getfield 14, 3) := by decide +kernel
theorem dX1_compare_21 : decode cX1_compare 21 = .ok (.iload_n 1, 1) := by decide +kernel
theorem dX1_compare_22 : decode cX1_compare 22 = .ok (.baload, 1) := by decide +kernel
theorem dX1_compare_23 : decode cX1_compare 23 = .ok (.aload_n 0, 1) := by decide +kernel
theorem dX1_compare_24 : decode cX1_compare 24 = .ok (.getfield 14, 3) := by decide +kernel
theorem dX1_compare_27 : decode cX1_compare 27 = .ok (.iload_n 2, 1) := by decide +kernel
theorem dX1_compare_28 : decode cX1_compare 28 = .ok (.baload, 1) := by decide +kernel
theorem dX1_compare_29 : decode cX1_compare 29 = .ok (.if_icmp .eq 18, 3) := by decide +kernel
theorem dX1_compare_32 : decode cX1_compare 32 = .ok (.aload_n 0, 1) := by decide +kernel
theorem dX1_compare_33 : decode cX1_compare 33 = .ok (.getfield 14, 3) := by decide +kernel
theorem dX1_compare_36 : decode cX1_compare 36 = .ok (.iload_n 1, 1) := by decide +kernel
theorem dX1_compare_37 : decode cX1_compare 37 = .ok (.baload, 1) := by decide +kernel
theorem dX1_compare_38 : decode cX1_compare 38 = .ok (.ifCond .eq 7, 3) := by decide +kernel
theorem dX1_compare_41 : decode cX1_compare 41 = .ok (.iconst (-1), 1) := by decide +kernel
theorem dX1_compare_42 : decode cX1_compare 42 = .ok (.goto 4, 3) := by decide +kernel
theorem dX1_compare_45 : decode cX1_compare 45 = .ok (.iconst 1, 1) := by decide +kernel
theorem dX1_compare_46 : decode cX1_compare 46 = .ok (.ireturn, 1) := by decide +kernel
theorem dX1_compare_47 : decode cX1_compare 47 = .ok (.aload_n 0, 1) := by decide +kernel
theorem dX1_compare_48 : decode cX1_compare 48 = .ok (.getfield 11, 3) := by decide +kernel
theorem dX1_compare_51 : decode cX1_compare 51 = .ok (.iload_n 1, 1) := by decide +kernel
theorem dX1_compare_52 : decode cX1_compare 52 = .ok (.aaload, 1) := by decide +kernel
theorem dX1_compare_53 : decode cX1_compare 53 = .ok (.aload_n 0, 1) := by decide +kernel
theorem dX1_compare_54 : decode cX1_compare 54 = .ok (.getfield 11, 3) := by decide +kernel
theorem dX1_compare_57 : decode cX1_compare 57 = .ok (.iload_n 2, 1) := by decide +kernel
theorem dX1_compare_58 : decode cX1_compare 58 = .ok (.aaload, 1) := by decide +kernel
theorem dX1_compare_59 : decode cX1_compare 59 = .ok (.invokestatic 117, 3) := by decide +kernel
theorem dX1_compare_62 : decode cX1_compare 62 = .ok (.istore_n 3, 1) := by decide +kernel
theorem dX1_compare_63 : decode cX1_compare 63 = .ok (.aload_n 0, 1) := by decide +kernel
theorem dX1_compare_64 : decode cX1_compare 64 = .ok (.getfield 14, 3) := by decide +kernel
theorem dX1_compare_67 : decode cX1_compare 67 = .ok (.iload_n 1, 1) := by decide +kernel
theorem dX1_compare_68 : decode cX1_compare 68 = .ok (.baload, 1) := by decide +kernel
theorem dX1_compare_69 : decode cX1_compare 69 = .ok (.ifCond .eq 8, 3) := by decide +kernel
theorem dX1_compare_72 : decode cX1_compare 72 = .ok (.iload_n 3, 1) := by decide +kernel
theorem dX1_compare_73 : decode cX1_compare 73 = .ok (.ineg, 1) := by decide +kernel
theorem dX1_compare_74 : decode cX1_compare 74 = .ok (.goto 4, 3) := by decide +kernel
theorem dX1_compare_77 : decode cX1_compare 77 = .ok (.iload_n 3, 1) := by decide +kernel
theorem dX1_compare_78 : decode cX1_compare 78 = .ok (.ireturn, 1) := by decide +kernel
theorem dX1_bits_0 : decode cX1_bits 0 = .ok (.iload_n 1, 1) := by decide +kernel
theorem dX1_bits_1 : decode cX1_bits 1 = .ok (.invokestatic 42, 3) := by decide +kernel
theorem dX1_bits_4 : decode cX1_bits 4 = .ok (.ifCond .eq 15, 3) := by decide +kernel
theorem dX1_bits_7 : decode cX1_bits 7 = .ok (.aload_n 0, 1) := by decide +kernel
theorem dX1_bits_8 : decode cX1_bits 8 = .ok (.getfield 11, 3) := by decide +kernel
theorem dX1_bits_11 : decode cX1_bits 11 = .ok (.iload_n 1, 1) := by decide +kernel
theorem dX1_bits_12 : decode cX1_bits 12 = .ok (.aaload, 1) := by decide +kernel
theorem dX1_bits_13 : decode cX1_bits 13 = .ok (.invokestatic 92, 3) := by decide +kernel
theorem dX1_bits_16 : decode cX1_bits 16 = .ok (.goto 4, 3) := by decide +kernel
theorem dX1_bits_19 : decode cX1_bits 19 = .ok (.iconst (-1), 1) := by decide +kernel
theorem dX1_bits_20 : decode cX1_bits 20 = .ok (.ireturn, 1) := by decide +kernel
theorem dX1_fits_0 : decode cX1_fits 0 = .ok (.iload_n 1, 1) := by decide +kernel
theorem dX1_fits_1 : decode cX1_fits 1 = .ok (.invokestatic 42, 3) := by decide +kernel
theorem dX1_fits_4 : decode cX1_fits 4 = .ok (.ifCond .eq 10, 3) := by decide +kernel
theorem dX1_fits_7 : decode cX1_fits 7 = .ok (.iload_n 2, 1) := by decide +kernel
theorem dX1_fits_8 : decode cX1_fits 8 = .ok (.invokestatic 121, 3) := by decide +kernel
theorem dX1_fits_11 : decode cX1_fits 11 = .ok (.ifCond .ne 5, 3) := by decide +kernel
theorem dX1_fits_14 : decode cX1_fits 14 = .ok (.iconst 0, 1) := by decide +kernel
theorem dX1_fits_15 : decode cX1_fits 15 = .ok (.ireturn, 1) := by decide +kernel
theorem dX1_fits_16 : decode cX1_fits 16 = .ok (.aload_n 0, 1) := by decide +kernel
theorem dX1_fits_17 : decode cX1_fits 17 = .ok (.getfield 11, 3) := by decide +kernel
theorem dX1_fits_20 : decode cX1_fits 20 = .ok (.iload_n 1, 1) := by decide +kernel
theorem dX1_fits_21 : decode cX1_fits 21 = .ok (.aaload, 1) := by decide +kernel
theorem dX1_fits_22 : decode cX1_fits 22 = .ok (.invokestatic 92, 3) := by decide +kernel
theorem dX1_fits_25 : decode cX1_fits 25 = .ok (.istore 4, 2) := by decide +kernel
theorem dX1_fits_27 : decode cX1_fits 27 = .ok (.iload_n 3, 1) := by decide +kernel
theorem dX1_fits_28 : decode cX1_fits 28 = .ok (.ifCond .ne 24, 3) := by decide +kernel
theorem dX1_fits_31 : decode cX1_fits 31 = .ok (.aload_n 0, 1) := by decide +kernel
theorem dX1_fits_32 : decode cX1_fits 32 = .ok (.getfield 14, 3) := by decide +kernel
theorem dX1_fits_35 : decode cX1_fits 35 = .ok (.iload_n 1, 1) := by decide +kernel
theorem dX1_fits_36 : decode cX1_fits 36 = .ok (.baload, 1) := by decide +kernel
theorem dX1_fits_37 : decode cX1_fits 37 = .ok (.ifCond .ne 13, 3) := by decide +kernel
theorem dX1_fits_40 : decode cX1_fits 40 = .ok (.iload 4, 2) := by decide +kernel
theorem dX1_fits_42 : decode cX1_fits 42 = .ok (.iload_n 2, 1) := by decide +kernel
theorem dX1_fits_43 : decode cX1_fits 43 = .ok (.if_icmp .gt 7, 3) := by decide +kernel
theorem dX1_fits_46 : decode cX1_fits 46 = .ok (.iconst 1, 1) := by decide +kernel
theorem dX1_fits_47 : decode cX1_fits 47 = .ok (.goto 4, 3) := by decide +kernel
theorem dX1_fits_50 : decode cX1_fits 50 = .ok (.iconst 0, 1) := by decide +kernel
theorem dX1_fits_51 : decode cX1_fits 51 = .ok (.ireturn, 1) := by decide +kernel
theorem dX1_fits_52 : decode cX1_fits 52 = .ok (.aload_n 0, 1) := by decide +kernel
theorem dX1_fits_53 : decode cX1_fits 53 = .ok (.getfield 14, 3) := by decide +kernel
theorem dX1_fits_56 : decode cX1_fits 56 = .ok (.iload_n 1, 1) := by decide +kernel
theorem dX1_fits_57 : decode cX1_fits 57 = .ok (.baload, 1) := by decide +kernel
theorem dX1_fits_58 : decode cX1_fits 58 = .ok (.ifCond .eq 28, 3) := by decide +kernel
theorem dX1_fits_61 : decode cX1_fits 61 = .ok (.iload 4, 2) := by decide +kernel
theorem dX1_fits_63 : decode cX1_fits 63 = .ok (.iload_n 2, 1) := by decide +kernel
theorem dX1_fits_64 : decode cX1_fits 64 = .ok (.if_icmp .ne 22, 3) := by decide +kernel
theorem dX1_fits_67 : decode cX1_fits 67 = .ok (.aload_n 0, 1) := by decide +kernel
theorem dX1_fits_68 : decode cX1_fits 68 = .ok (.getfield 11, 3) := by decide +kernel
theorem dX1_fits_71 : decode cX1_fits 71 = .ok (.iload_n 1, 1) := by decide +kernel
theorem dX1_fits_72 : decode cX1_fits 72 = .ok (.aaload, 1) := by decide +kernel
theorem dX1_fits_73 : decode cX1_fits 73 = .ok (.invokestatic 103, 3) := by decide +kernel
theorem dX1_fits_76 : decode cX1_fits 76 = .ok (.iload_n 2, 1) := by decide +kernel
theorem dX1_fits_77 : decode cX1_fits 77 = .ok (.iconst 1, 1) := by decide +kernel
theorem dX1_fits_78 : decode cX1_fits 78 = .ok (.isub, 1) := by decide +kernel
theorem dX1_fits_79 : decode cX1_fits 79 = .ok (.if_icmp .ne 7, 3) := by decide +kernel
theorem dX1_fits_82 : decode cX1_fits 82 = .ok (.iconst 1, 1) := by decide +kernel
theorem dX1_fits_83 : decode cX1_fits 83 = .ok (.goto 4, 3) := by decide +kernel
theorem dX1_fits_86 : decode cX1_fits 86 = .ok (.iconst 0, 1) := by decide +kernel
theorem dX1_fits_87 : decode cX1_fits 87 = .ok (.istore 5, 2) := by decide +kernel
theorem dX1_fits_89 : decode cX1_fits 89 = .ok (.iload 4, 2) := by decide +kernel
theorem dX1_fits_91 : decode cX1_fits 91 = .ok (.iload_n 2, 1) := by decide +kernel
theorem dX1_fits_92 : decode cX1_fits 92 = .ok (.if_icmp .lt 8, 3) := by decide +kernel
theorem dX1_fits_95 : decode cX1_fits 95 = .ok (.iload 5, 2) := by decide +kernel
theorem dX1_fits_97 : decode cX1_fits 97 = .ok (.ifCond .eq 7, 3) := by decide +kernel
theorem dX1_fits_100 : decode cX1_fits 100 = .ok (.iconst 1, 1) := by decide +kernel
theorem dX1_fits_101 : decode cX1_fits 101 = .ok (.goto 4, 3) := by decide +kernel
theorem dX1_fits_104 : decode cX1_fits 104 = .ok (.iconst 0, 1) := by decide +kernel
theorem dX1_fits_105 : decode cX1_fits 105 = .ok (.ireturn, 1) := by decide +kernel
theorem dX1_cut_0 : decode cX1_cut 0 = .ok (.iload_n 1, 1) := by decide +kernel
theorem dX1_cut_1 : decode cX1_cut 1 = .ok (.invokestatic 42, 3) := by decide +kernel
theorem dX1_cut_4 : decode cX1_cut 4 = .ok (.ifCond .eq 10, 3) := by decide +kernel
theorem dX1_cut_7 : decode cX1_cut 7 = .ok (.iload_n 2, 1) := by decide +kernel
theorem dX1_cut_8 : decode cX1_cut 8 = .ok (.invokestatic 121, 3) := by decide +kernel
theorem dX1_cut_11 : decode cX1_cut 11 = .ok (.ifCond .ne 5, 3) := by decide +kernel
theorem dX1_cut_14 : decode cX1_cut 14 = .ok (.lconst 0, 1) := by decide +kernel
theorem dX1_cut_15 : decode cX1_cut 15 = .ok (.lreturn, 1) := by decide +kernel
theorem dX1_cut_16 : decode cX1_cut 16 = .ok (.aload_n 0, 1) := by decide +kernel
theorem dX1_cut_17 : decode cX1_cut 17 = .ok (.getfield 11, 3) := by decide +kernel
theorem dX1_cut_20 : decode cX1_cut 20 = .ok (.iload_n 1, 1) := by decide +kernel
theorem dX1_cut_21 : decode cX1_cut 21 = .ok (.aaload, 1) := by decide +kernel
theorem dX1_cut_22 : decode cX1_cut 22 = .ok (.iconst 0, 1) := by decide +kernel
theorem dX1_cut_23 : decode cX1_cut 23 = .ok (.laload, 1) := by decide +kernel
theorem dX1_cut_24 : decode cX1_cut 24 = .ok (.aload_n 0, 1) := by decide +kernel
theorem dX1_cut_25 : decode cX1_cut 25 = .ok (.getfield 11, 3) := by decide +kernel
theorem dX1_cut_28 : decode cX1_cut 28 = .ok (.iload_n 1, 1) := by decide +kernel
theorem dX1_cut_29 : decode cX1_cut 29 = .ok (.aaload, 1) := by decide +kernel
theorem dX1_cut_30 : decode cX1_cut 30 = .ok (.iconst 1, 1) := by decide +kernel
theorem dX1_cut_31 : decode cX1_cut 31 = .ok (.laload, 1) := by decide +kernel
theorem dX1_cut_32 : decode cX1_cut 32 = .ok (.bipush 32, 2) := by decide +kernel
theorem dX1_cut_34 : decode cX1_cut 34 = .ok (.lshl, 1) := by decide +kernel
theorem dX1_cut_35 : decode cX1_cut 35 = .ok (.lor, 1) := by decide +kernel
theorem dX1_cut_36 : decode cX1_cut 36 = .ok (.lstore 4, 2) := by decide +kernel
theorem dX1_cut_38 : decode cX1_cut 38 = .ok (.aload_n 0, 1) := by decide +kernel
theorem dX1_cut_39 : decode cX1_cut 39 = .ok (.getfield 14, 3) := by decide +kernel
theorem dX1_cut_42 : decode cX1_cut 42 = .ok (.iload_n 1, 1) := by decide +kernel
theorem dX1_cut_43 : decode cX1_cut 43 = .ok (.baload, 1) := by decide +kernel
theorem dX1_cut_44 : decode cX1_cut 44 = .ok (.ifCond .eq 8, 3) := by decide +kernel
theorem dX1_cut_47 : decode cX1_cut 47 = .ok (.lload 4, 2) := by decide +kernel
theorem dX1_cut_49 : decode cX1_cut 49 = .ok (.lneg, 1) := by decide +kernel
theorem dX1_cut_50 : decode cX1_cut 50 = .ok (.lstore 4, 2) := by decide +kernel
theorem dX1_cut_52 : decode cX1_cut 52 = .ok (.bipush 64, 2) := by decide +kernel
theorem dX1_cut_54 : decode cX1_cut 54 = .ok (.iload_n 2, 1) := by decide +kernel
theorem dX1_cut_55 : decode cX1_cut 55 = .ok (.isub, 1) := by decide +kernel
theorem dX1_cut_56 : decode cX1_cut 56 = .ok (.istore 6, 2) := by decide +kernel
theorem dX1_cut_58 : decode cX1_cut 58 = .ok (.iload_n 3, 1) := by decide +kernel
theorem dX1_cut_59 : decode cX1_cut 59 = .ok (.ifCond .eq 14, 3) := by decide +kernel
theorem dX1_cut_62 : decode cX1_cut 62 = .ok (.lload 4, 2) := by decide +kernel
theorem dX1_cut_64 : decode cX1_cut 64 = .ok (.iload 6, 2) := by decide +kernel
theorem dX1_cut_66 : decode cX1_cut 66 = .ok (.lshl, 1) := by decide +kernel
theorem dX1_cut_67 : decode cX1_cut 67 = .ok (.iload 6, 2) := by decide +kernel
theorem dX1_cut_69 : decode cX1_cut 69 = .ok (.lshr, 1) := by decide +kernel
theorem dX1_cut_70 : decode cX1_cut 70 = .ok (.goto 11, 3) := by decide +kernel
theorem dX1_cut_73 : decode cX1_cut 73 = .ok (.lload 4, 2) := by decide +kernel
theorem dX1_cut_75 : decode cX1_cut 75 = .ok (.iload 6, 2) := by decide +kernel
theorem dX1_cut_77 : decode cX1_cut 77 = .ok (.lshl, 1) := by decide +kernel
theorem dX1_cut_78 : decode cX1_cut 78 = .ok (.iload 6, 2) := by decide +kernel
theorem dX1_cut_80 : decode cX1_cut 80 = .ok (.lushr, 1) := by decide +kernel
theorem dX1_cut_81 : decode cX1_cut 81 = .ok (.lreturn, 1) := by decide +kernel
theorem dX1_write_0 : decode cX1_write 0 = .ok (.iload_n 1, 1) := by decide +kernel
theorem dX1_write_1 : decode cX1_write 1 = .ok (.invokestatic 42, 3) := by decide +kernel
theorem dX1_write_4 : decode cX1_write 4 = .ok (.ifCond .eq 10, 3) := by decide +kernel
theorem dX1_write_7 : decode cX1_write 7 = .ok (.iload_n 2, 1) := by decide +kernel
theorem dX1_write_8 : decode cX1_write 8 = .ok (.invokestatic 62, 3) := by decide +kernel
theorem dX1_write_11 : decode cX1_write 11 = .ok (.ifCond .ne 6, 3) := by decide +kernel
theorem dX1_write_14 : decode cX1_write 14 = .ok (.bipush (-3), 2) := by decide +kernel
theorem dX1_write_16 : decode cX1_write 16 = .ok (.ireturn, 1) := by decide +kernel
theorem dX1_write_17 : decode cX1_write 17 = .ok (.iload_n 2, 1) := by decide +kernel
theorem dX1_write_18 : decode cX1_write 18 = .ok (.invokestatic 124, 3) := by decide +kernel
theorem dX1_write_21 : decode cX1_write 21 = .ok (.istore_n 3, 1) := by decide +kernel
theorem dX1_write_22 : decode cX1_write 22 = .ok (.iload_n 2, 1) := by decide +kernel
theorem dX1_write_23 : decode cX1_write 23 = .ok (.iload_n 3, 1) := by decide +kernel
theorem dX1_write_24 : decode cX1_write 24 = .ok (.invokestatic 127, 3) := by decide +kernel
theorem dX1_write_27 : decode cX1_write 27 = .ok (.lstore 4, 2) := by decide +kernel
theorem dX1_write_29 : decode cX1_write 29 = .ok (.aload_n 0, 1) := by decide +kernel
theorem dX1_write_30 : decode cX1_write 30 = .ok (.getfield 11, 3) := by decide +kernel
theorem dX1_write_33 : decode cX1_write 33 = .ok (.iload_n 1, 1) := by decide +kernel
theorem dX1_write_34 : decode cX1_write 34 = .ok (.aaload, 1) := by decide +kernel
theorem dX1_write_35 : decode cX1_write 35 = .ok (.aload_n 0, 1) := by decide +kernel
theorem dX1_write_36 : decode cX1_write 36 = .ok (.getfield 32, 3) := by decide +kernel
theorem dX1_write_39 : decode cX1_write 39 = .ok (.invokestatic 110, 3) := by decide +kernel
theorem dX1_write_42 : decode cX1_write 42 = .ok (.aload_n 0, 1) := by decide +kernel
theorem dX1_write_43 : decode cX1_write 43 = .ok (.aload_n 0, 1) := by decide +kernel
theorem dX1_write_44 : decode cX1_write 44 = .ok (.getfield 26, 3) := by decide +kernel
theorem dX1_write_47 : decode cX1_write 47 = .ok (.arraylength, 1) := by decide +kernel
theorem dX1_write_48 : decode cX1_write 48 = .ok (.putfield 29, 3) := by decide +kernel
theorem dX1_write_51 : decode cX1_write 51 = .ok (.aload_n 0, 1) := by decide +kernel
theorem dX1_write_52 : decode cX1_write 52 = .ok (.getfield 32, 3) := by decide +kernel
theorem dX1_write_55 : decode cX1_write 55 = .ok (.invokestatic 131, 3) := by decide +kernel
theorem dX1_write_58 : decode cX1_write 58 = .ok (.istore 6, 2) := by decide +kernel
theorem dX1_write_60 : decode cX1_write 60 = .ok (.iconst 0, 1) := by decide +kernel
theorem dX1_write_61 : decode cX1_write 61 = .ok (.istore 7, 2) := by decide +kernel
theorem dX1_write_63 : decode cX1_write 63 = .ok (.iload 7, 2) := by decide +kernel
theorem dX1_write_65 : decode cX1_write 65 = .ok (.sipush 512, 3) := by decide +kernel
theorem dX1_write_68 : decode cX1_write 68 = .ok (.if_icmp .ge 53, 3) := by decide +kernel
theorem dX1_write_71 : decode cX1_write 71 = .ok (.iload 6, 2) := by decide +kernel
theorem dX1_write_73 : decode cX1_write 73 = .ok (.ifCond .le 48, 3) := by decide +kernel
theorem dX1_write_76 : decode cX1_write 76 = .ok (.aload_n 0, 1) := by decide +kernel
theorem dX1_write_77 : decode cX1_write 77 = .ok (.getfield 32, 3) := by decide +kernel
theorem dX1_write_80 : decode cX1_write 80 = .ok (.iload 6, 2) := by decide +kernel
theorem dX1_write_82 : decode cX1_write 82 = .ok (.lload 4, 2) := by decide +kernel
theorem dX1_write_84 : decode cX1_write 84 = .ok (.invokestatic 134, 3) := by decide +kernel
theorem dX1_write_87 : decode cX1_write 87 = .ok (.lstore 8, 2) := by decide +kernel
theorem dX1_write_89 : decode cX1_write 89 = .ok (.aload_n 0, 1) := by decide +kernel
theorem dX1_write_90 : decode cX1_write 90 = .ok (.getfield 32, 3) := by decide +kernel
theorem dX1_write_93 : decode cX1_write 93 = .ok (.invokestatic 131, 3) := by decide +kernel
theorem dX1_write_96 : decode cX1_write 96 = .ok (.istore 6, 2) := by decide +kernel
theorem dX1_write_98 : decode cX1_write 98 = .ok (.aload_n 0, 1) := by decide +kernel
theorem dX1_write_99 : decode cX1_write 99 = .ok (.lload 8, 2) := by decide +kernel
theorem dX1_write_101 : decode cX1_write 101 = .ok (.iload_n 2, 1) := by decide +kernel
theorem dX1_write_102 : decode cX1_write 102 = .ok (.iload 6, 2) := by decide +kernel
theorem dX1_write_104 : decode cX1_write 104 = .ok (.ifCond .le 7, 3) := by decide +kernel
theorem dX1_write_107 : decode cX1_write 107 = .ok (.iload_n 3, 1) := by decide +kernel
theorem dX1_write_108 : decode cX1_write 108 = .ok (.goto 4, 3) := by decide +kernel
theorem dX1_write_111 : decode cX1_write 111 = .ok (.iconst 0, 1) := by decide +kernel
theorem dX1_write_112 : decode cX1_write 112 = .ok (.invokevirtual 138, 3) := by decide +kernel
theorem dX1_write_115 : decode cX1_write 115 = .ok (.iinc 7 1, 3) := by decide +kernel
theorem dX1_write_118 : decode cX1_write 118 = .ok (.goto (-55), 3) := by decide +kernel
theorem dX1_write_121 : decode cX1_write 121 = .ok (.aload_n 0, 1) := by decide +kernel
theorem dX1_write_122 : decode cX1_write 122 = .ok (.getfield 29, 3) := by decide +kernel
theorem dX1_write_125 : decode cX1_write 125 = .ok (.aload_n 0, 1) := by decide +kernel
theorem dX1_write_126 : decode cX1_write 126 = .ok (.getfield 26, 3) := by decide +kernel
theorem dX1_write_129 : decode cX1_write 129 = .ok (.arraylength, 1) := by decide +kernel
theorem dX1_write_130 : decode cX1_write 130 = .ok (.if_icmp .ne 9, 3) := by decide +kernel
theorem dX1_write_133 : decode cX1_write 133 = .ok (.aload_n 0, 1) := by decide +kernel
theorem dX1_write_134 : decode cX1_write 134 = .ok (.bipush 48, 2) := by decide +kernel
theorem dX1_write_136 : decode cX1_write 136 = .ok (.invokevirtual 142, 3) := by decide +kernel
theorem dX1_write_139 : decode cX1_write 139 = .ok (.aload_n 0, 1) := by decide +kernel
theorem dX1_write_140 : decode cX1_write 140 = .ok (.getfield 14, 3) := by decide +kernel
theorem dX1_write_143 : decode cX1_write 143 = .ok (.iload_n 1, 1) := by decide +kernel
theorem dX1_write_144 : decode cX1_write 144 = .ok (.baload, 1) := by decide +kernel
theorem dX1_write_145 : decode cX1_write 145 = .ok (.ifCond .eq 9, 3) := by decide +kernel
theorem dX1_write_148 : decode cX1_write 148 = .ok (.aload_n 0, 1) := by decide +kernel
theorem dX1_write_149 : decode cX1_write 149 = .ok (.bipush 45, 2) := by decide +kernel
theorem dX1_write_151 : decode cX1_write 151 = .ok (.invokevirtual 142, 3) := by decide +kernel
theorem dX1_write_154 : decode cX1_write 154 = .ok (.aload_n 0, 1) := by decide +kernel
theorem dX1_write_155 : decode cX1_write 155 = .ok (.getfield 26, 3) := by decide +kernel
theorem dX1_write_158 : decode cX1_write 158 = .ok (.arraylength, 1) := by decide +kernel
theorem dX1_write_159 : decode cX1_write 159 = .ok (.aload_n 0, 1) := by decide +kernel
theorem dX1_write_160 : decode cX1_write 160 = .ok (.getfield 29, 3) := by decide +kernel
theorem dX1_write_163 : decode cX1_write 163 = .ok (.isub, 1) := by decide +kernel
theorem dX1_write_164 : decode cX1_write 164 = .ok (.ireturn, 1) := by decide +kernel
theorem dX1_byteOf_0 : decode cX1_byteOf 0 = .ok (.iload_n 1, 1) := by decide +kernel
theorem dX1_byteOf_1 : decode cX1_byteOf 1 = .ok (.ifCond .lt 31, 3) := by decide +kernel
theorem dX1_byteOf_4 : decode cX1_byteOf 4 = .ok (.iload_n 1, 1) := by decide +kernel
theorem dX1_byteOf_5 : decode cX1_byteOf 5 = .ok (.aload_n 0, 1) := by decide +kernel
theorem dX1_byteOf_6 : decode cX1_byteOf 6 = .ok (.getfield 26, 3) := by decide +kernel
theorem dX1_byteOf_9 : decode cX1_byteOf 9 = .ok (.arraylength, 1) := by decide +kernel
theorem dX1_byteOf_10 : decode cX1_byteOf 10 = .ok (.aload_n 0, 1) := by decide +kernel
theorem dX1_byteOf_11 : decode cX1_byteOf 11 = .ok (.getfield 29, 3) := by decide +kernel
theorem dX1_byteOf_14 : decode cX1_byteOf 14 = .ok (.isub, 1) := by decide +kernel
theorem dX1_byteOf_15 : decode cX1_byteOf 15 = .ok (.if_icmp .ge 17, 3) := by decide +kernel
theorem dX1_byteOf_18 : decode cX1_byteOf 18 = .ok (.aload_n 0, 1) := by decide +kernel
theorem dX1_byteOf_19 : decode cX1_byteOf 19 = .ok (.getfield 26, 3) := by decide +kernel
theorem dX1_byteOf_22 : decode cX1_byteOf 22 = .ok (.aload_n 0, 1) := by decide +kernel
theorem dX1_byteOf_23 : decode cX1_byteOf 23 = .ok (.getfield 29, 3) := by decide +kernel
theorem dX1_byteOf_26 : decode cX1_byteOf 26 = .ok (.iload_n 1, 1) := by decide +kernel
theorem dX1_byteOf_27 : decode cX1_byteOf 27 = .ok (.iadd, 1) := by decide +kernel
theorem dX1_byteOf_28 : decode cX1_byteOf 28 = .ok (.baload, 1) := by decide +kernel
theorem dX1_byteOf_29 : decode cX1_byteOf 29 = .ok (.goto 4, 3) := by decide +kernel
theorem dX1_byteOf_32 : decode cX1_byteOf 32 = .ok (.iconst (-1), 1) := by decide +kernel
theorem dX1_byteOf_33 : decode cX1_byteOf 33 = .ok (.ireturn, 1) := by decide +kernel
theorem dX1_isSlot_0 : decode cX1_isSlot 0 = .ok (.iload_n 0, 1) := by decide +kernel
theorem dX1_isSlot_1 : decode cX1_isSlot 1 = .ok (.ifCond .lt 13, 3) := by decide +kernel
theorem dX1_isSlot_4 : decode cX1_isSlot 4 = .ok (.iload_n 0, 1) := by decide +kernel
theorem dX1_isSlot_5 : decode cX1_isSlot 5 = .ok (.bipush 64, 2) := by decide +kernel
theorem dX1_isSlot_7 : decode cX1_isSlot 7 = .ok (.if_icmp .ge 7, 3) := by decide +kernel
theorem dX1_isSlot_10 : decode cX1_isSlot 10 = .ok (.iconst 1, 1) := by decide +kernel
theorem dX1_isSlot_11 : decode cX1_isSlot 11 = .ok (.goto 4, 3) := by decide +kernel
theorem dX1_isSlot_14 : decode cX1_isSlot 14 = .ok (.iconst 0, 1) := by decide +kernel
theorem dX1_isSlot_15 : decode cX1_isSlot 15 = .ok (.ireturn, 1) := by decide +kernel
theorem dX1_isBase_0 : decode cX1_isBase 0 = .ok (.iload_n 0, 1) := by decide +kernel
theorem dX1_isBase_1 : decode cX1_isBase 1 = .ok (.iconst 2, 1) := by decide +kernel
theorem dX1_isBase_2 : decode cX1_isBase 2 = .ok (.if_icmp .lt 13, 3) := by decide +kernel
theorem dX1_isBase_5 : decode cX1_isBase 5 = .ok (.iload_n 0, 1) := by decide +kernel
theorem dX1_isBase_6 : decode cX1_isBase 6 = .ok (.bipush 36, 2) := by decide +kernel
theorem dX1_isBase_8 : decode cX1_isBase 8 = .ok (.if_icmp .gt 7, 3) := by decide +kernel
theorem dX1_isBase_11 : decode cX1_isBase 11 = .ok (.iconst 1, 1) := by decide +kernel
theorem dX1_isBase_12 : decode cX1_isBase 12 = .ok (.goto 4, 3) := by decide +kernel
theorem dX1_isBase_15 : decode cX1_isBase 15 = .ok (.iconst 0, 1) := by decide +kernel
theorem dX1_isBase_16 : decode cX1_isBase 16 = .ok (.ireturn, 1) := by decide +kernel
theorem dX1_isWordLength_0 : decode cX1_isWordLength 0 = .ok (.iload_n 0, 1) := by decide +kernel
theorem dX1_isWordLength_1 : decode cX1_isWordLength 1 = .ok (.iconst 1, 1) := by decide +kernel
theorem dX1_isWordLength_2 : decode cX1_isWordLength 2 = .ok (.if_icmp .lt 13, 3) := by decide +kernel
theorem dX1_isWordLength_5 : decode cX1_isWordLength 5 = .ok (.iload_n 0, 1) := by decide +kernel
theorem dX1_isWordLength_6 : decode cX1_isWordLength 6 = .ok (.bipush 64, 2) := by decide +kernel
theorem dX1_isWordLength_8 : decode cX1_isWordLength 8 = .ok (.if_icmp .gt 7, 3) := by decide +kernel
theorem dX1_isWordLength_11 : decode cX1_isWordLength 11 = .ok (.iconst 1, 1) := by decide +kernel
theorem dX1_isWordLength_12 : decode cX1_isWordLength 12 = .ok (.goto 4, 3) := by decide +kernel
theorem dX1_isWordLength_15 : decode cX1_isWordLength 15 = .ok (.iconst 0, 1) := by decide +kernel
theorem dX1_isWordLength_16 : decode cX1_isWordLength 16 = .ok (.ireturn, 1) := by decide +kernel
theorem dX1_digitValue_0 : decode cX1_digitValue 0 = .ok (.iload_n 0, 1) := by decide +kernel
theorem dX1_digitValue_1 : decode cX1_digitValue 1 = .ok (.bipush 48, 2) := by decide +kernel
theorem dX1_digitValue_3 : decode cX1_digitValue 3 = .ok (.if_icmp .lt 14, 3) := by decide +kernel
theorem dX1_digitValue_6 : decode cX1_digitValue 6 = .ok (.iload_n 0, 1) := by decide +kernel
theorem dX1_digitValue_7 : decode cX1_digitValue 7 = .ok (.bipush 57, 2) := by decide +kernel
theorem dX1_digitValue_9 : decode cX1_digitValue 9 = .ok (.if_icmp .gt 8, 3) := by decide +kernel
theorem dX1_digitValue_12 : decode cX1_digitValue 12 = .ok (.iload_n 0, 1) := by decide +kernel
theorem dX1_digitValue_13 : decode cX1_digitValue 13 = .ok (.bipush 48, 2) := by decide +kernel
theorem dX1_digitValue_15 : decode cX1_digitValue 15 = .ok (.isub, 1) := by decide +kernel
theorem dX1_digitValue_16 : decode cX1_digitValue 16 = .ok (.ireturn, 1) := by decide +kernel
theorem dX1_digitValue_17 : decode cX1_digitValue 17 = .ok (.iload_n 0, 1) := by decide +kernel
theorem dX1_digitValue_18 : decode cX1_digitValue 18 = .ok (.bipush 97, 2) := by decide +kernel
theorem dX1_digitValue_20 : decode cX1_digitValue 20 = .ok (.if_icmp .lt 17, 3) := by decide +kernel
theorem dX1_digitValue_23 : decode cX1_digitValue 23 = .ok (.iload_n 0, 1) := by decide +kernel
theorem dX1_digitValue_24 : decode cX1_digitValue 24 = .ok (.bipush 122, 2) := by decide +kernel
theorem dX1_digitValue_26 : decode cX1_digitValue 26 = .ok (.if_icmp .gt 11, 3) := by decide +kernel
theorem dX1_digitValue_29 : decode cX1_digitValue 29 = .ok (.iload_n 0, 1) := by decide +kernel
theorem dX1_digitValue_30 : decode cX1_digitValue 30 = .ok (.bipush 97, 2) := by decide +kernel
theorem dX1_digitValue_32 : decode cX1_digitValue 32 = .ok (.isub, 1) := by decide +kernel
theorem dX1_digitValue_33 : decode cX1_digitValue 33 = .ok (.bipush 10, 2) := by decide +kernel
theorem dX1_digitValue_35 : decode cX1_digitValue 35 = .ok (.iadd, 1) := by decide +kernel
theorem dX1_digitValue_36 : decode cX1_digitValue 36 = .ok (.ireturn, 1) := by decide +kernel
theorem dX1_digitValue_37 : decode cX1_digitValue 37 = .ok (.iload_n 0, 1) := by decide +kernel
theorem dX1_digitValue_38 : decode cX1_digitValue 38 = .ok (.bipush 65, 2) := by decide +kernel
theorem dX1_digitValue_40 : decode cX1_digitValue 40 = .ok (.if_icmp .lt 17, 3) := by decide +kernel
theorem dX1_digitValue_43 : decode cX1_digitValue 43 = .ok (.iload_n 0, 1) := by decide +kernel
theorem dX1_digitValue_44 : decode cX1_digitValue 44 = .ok (.bipush 90, 2) := by decide +kernel
theorem dX1_digitValue_46 : decode cX1_digitValue 46 = .ok (.if_icmp .gt 11, 3) := by decide +kernel
theorem dX1_digitValue_49 : decode cX1_digitValue 49 = .ok (.iload_n 0, 1) := by decide +kernel
theorem dX1_digitValue_50 : decode cX1_digitValue 50 = .ok (.bipush 65, 2) := by decide +kernel
theorem dX1_digitValue_52 : decode cX1_digitValue 52 = .ok (.isub, 1) := by decide +kernel
theorem dX1_digitValue_53 : decode cX1_digitValue 53 = .ok (.bipush 10, 2) := by decide +kernel
theorem dX1_digitValue_55 : decode cX1_digitValue 55 = .ok (.iadd, 1) := by decide +kernel
theorem dX1_digitValue_56 : decode cX1_digitValue 56 = .ok (.ireturn, 1) := by decide +kernel
theorem dX1_digitValue_57 : decode cX1_digitValue 57 = .ok (.iconst (-1), 1) := by decide +kernel
theorem dX1_digitValue_58 : decode cX1_digitValue 58 = .ok (.ireturn, 1) := by decide +kernel
theorem dX1_areDigitsOf_0 : decode cX1_areDigitsOf 0 = .ok (.iconst 0, 1) := by decide +kernel
theorem dX1_areDigitsOf_1 : decode cX1_areDigitsOf 1 = .ok (.istore_n 3, 1) := by decide +kernel
theorem dX1_areDigitsOf_2 : decode cX1_areDigitsOf 2 = .ok (.iload_n 3, 1) := by decide +kernel
theorem dX1_areDigitsOf_3 : decode cX1_areDigitsOf 3 = .ok (.iload_n 2, 1) := by decide +kernel
theorem dX1_areDigitsOf_4 : decode cX1_areDigitsOf 4 = .ok (.if_icmp .ge 21, 3) := by decide +kernel
theorem dX1_areDigitsOf_7 : decode cX1_areDigitsOf 7 = .ok (.aload_n 0, 1) := by decide +kernel
theorem dX1_areDigitsOf_8 : decode cX1_areDigitsOf 8 = .ok (.getfield 18, 3) := by decide +kernel
theorem dX1_areDigitsOf_11 : decode cX1_areDigitsOf 11 = .ok (.iload_n 3, 1) := by decide +kernel
theorem dX1_areDigitsOf_12 : decode cX1_areDigitsOf 12 = .ok (.baload, 1) := by decide +kernel
theorem dX1_areDigitsOf_13 : decode cX1_areDigitsOf 13 = .ok (.iload_n 1, 1) := by decide +kernel
theorem dX1_areDigitsOf_14 : decode cX1_areDigitsOf 14 = .ok (.if_icmp .lt 5, 3) := by decide +kernel
theorem dX1_areDigitsOf_17 : decode cX1_areDigitsOf 17 = .ok (.iconst 0, 1) := by decide +kernel
theorem dX1_areDigitsOf_18 : decode cX1_areDigitsOf 18 = .ok (.ireturn, 1) := by decide +kernel
theorem dX1_areDigitsOf_19 : decode cX1_areDigitsOf 19 = .ok (.iinc 3 1, 3) := by decide +kernel
theorem dX1_areDigitsOf_22 : decode cX1_areDigitsOf 22 = .ok (.goto (-20), 3) := by decide +kernel
theorem dX1_areDigitsOf_25 : decode cX1_areDigitsOf 25 = .ok (.iconst 1, 1) := by decide +kernel
theorem dX1_areDigitsOf_26 : decode cX1_areDigitsOf 26 = .ok (.ireturn, 1) := by decide +kernel
theorem dX1_store_0 : decode cX1_store 0 = .ok (.aload_n 2, 1) := by decide +kernel
theorem dX1_store_1 : decode cX1_store 1 = .ok (.invokestatic 131, 3) := by decide +kernel
theorem dX1_store_4 : decode cX1_store 4 = .ok (.istore 4, 2) := by decide +kernel
theorem dX1_store_6 : decode cX1_store 6 = .ok (.iload 4, 2) := by decide +kernel
theorem dX1_store_8 : decode cX1_store 8 = .ok (.bipush 16, 2) := by decide +kernel
theorem dX1_store_10 : decode cX1_store 10 = .ok (.if_icmp .le 5, 3) := by decide +kernel
theorem dX1_store_13 : decode cX1_store 13 = .ok (.iconst 1, 1) := by decide +kernel
theorem dX1_store_14 : decode cX1_store 14 = .ok (.ireturn, 1) := by decide +kernel
theorem dX1_store_15 : decode cX1_store 15 = .ok (.aload_n 2, 1) := by decide +kernel
theorem dX1_store_16 : decode cX1_store 16 = .ok (.iconst 0, 1) := by decide +kernel
theorem dX1_store_17 : decode cX1_store 17 = .ok (.aload_n 0, 1) := by decide +kernel
theorem dX1_store_18 : decode cX1_store 18 = .ok (.getfield 11, 3) := by decide +kernel
theorem dX1_store_21 : decode cX1_store 21 = .ok (.iload_n 1, 1) := by decide +kernel
theorem dX1_store_22 : decode cX1_store 22 = .ok (.aaload, 1) := by decide +kernel
theorem dX1_store_23 : decode cX1_store 23 = .ok (.iconst 0, 1) := by decide +kernel
theorem dX1_store_24 : decode cX1_store 24 = .ok (.bipush 16, 2) := by decide +kernel
theorem dX1_store_26 : decode cX1_store 26 = .ok (.invokestatic 146, 3) := by decide +kernel
theorem dX1_store_29 : decode cX1_store 29 = .ok (.aload_n 0, 1) := by decide +kernel
theorem dX1_store_30 : decode cX1_store 30 = .ok (.getfield 14, 3) := by decide +kernel
theorem dX1_store_33 : decode cX1_store 33 = .ok (.iload_n 1, 1) := by decide +kernel
theorem dX1_store_34 : decode cX1_store 34 = .ok (.iload_n 3, 1) := by decide +kernel
theorem dX1_store_35 : decode cX1_store 35 = .ok (.ifCond .eq 12, 3) := by decide +kernel
theorem dX1_store_38 : decode cX1_store 38 = .ok (.iload 4, 2) := by decide +kernel
theorem dX1_store_40 : decode cX1_store 40 = .ok (.ifCond .le 7, 3) := by decide +kernel
theorem dX1_store_43 : decode cX1_store 43 = .ok (.iconst 1, 1) := by decide +kernel
theorem dX1_store_44 : decode cX1_store 44 = .ok (.goto 4, 3) := by decide +kernel
theorem dX1_store_47 : decode cX1_store 47 = .ok (.iconst 0, 1) := by decide +kernel
theorem dX1_store_48 : decode cX1_store 48 = .ok (.bastore, 1) := by decide +kernel
theorem dX1_store_49 : decode cX1_store 49 = .ok (.iconst 0, 1) := by decide +kernel
theorem dX1_store_50 : decode cX1_store 50 = .ok (.ireturn, 1) := by decide +kernel
theorem dX1_sum_0 : decode cX1_sum 0 = .ok (.aload_n 0, 1) := by decide +kernel
theorem dX1_sum_1 : decode cX1_sum 1 = .ok (.getfield 14, 3) := by decide +kernel
theorem dX1_sum_4 : decode cX1_sum 4 = .ok (.iload_n 2, 1) := by decide +kernel
theorem dX1_sum_5 : decode cX1_sum 5 = .ok (.baload, 1) := by decide +kernel
theorem dX1_sum_6 : decode cX1_sum 6 = .ok (.iload 4, 2) := by decide +kernel
theorem dX1_sum_8 : decode cX1_sum 8 = .ok (.if_icmp .ne 34, 3) := by decide +kernel
theorem dX1_sum_11 : decode cX1_sum 11 = .ok (.aload_n 0, 1) := by decide +kernel
theorem dX1_sum_12 : decode cX1_sum 12 = .ok (.getfield 11, 3) := by decide +kernel
theorem dX1_sum_15 : decode cX1_sum 15 = .ok (.iload_n 2, 1) := by decide +kernel
theorem dX1_sum_16 : decode cX1_sum 16 = .ok (.aaload, 1) := by decide +kernel
theorem dX1_sum_17 : decode cX1_sum 17 = .ok (.aload_n 0, 1) := by decide +kernel
theorem dX1_sum_18 : decode cX1_sum 18 = .ok (.getfield 11, 3) := by decide +kernel
theorem dX1_sum_21 : decode cX1_sum 21 = .ok (.iload_n 3, 1) := by decide +kernel
theorem dX1_sum_22 : decode cX1_sum 22 = .ok (.aaload, 1) := by decide +kernel
theorem dX1_sum_23 : decode cX1_sum 23 = .ok (.aload_n 0, 1) := by decide +kernel
theorem dX1_sum_24 : decode cX1_sum 24 = .ok (.getfield 32, 3) := by decide +kernel
theorem dX1_sum_27 : decode cX1_sum 27 = .ok (.invokestatic 152, 3) := by decide +kernel
theorem dX1_sum_30 : decode cX1_sum 30 = .ok (.aload_n 0, 1) := by decide +kernel
theorem dX1_sum_31 : decode cX1_sum 31 = .ok (.iload_n 1, 1) := by decide +kernel
theorem dX1_sum_32 : decode cX1_sum 32 = .ok (.aload_n 0, 1) := by decide +kernel
theorem dX1_sum_33 : decode cX1_sum 33 = .ok (.getfield 32, 3) := by decide +kernel
theorem dX1_sum_36 : decode cX1_sum 36 = .ok (.iload 4, 2) := by decide +kernel
theorem dX1_sum_38 : decode cX1_sum 38 = .ok (.invokevirtual 54, 3) := by decide +kernel
theorem dX1_sum_41 : decode cX1_sum 41 = .ok (.ireturn, 1) := by decide +kernel
theorem dX1_sum_42 : decode cX1_sum 42 = .ok (.aload_n 0, 1) := by decide +kernel
theorem dX1_sum_43 : decode cX1_sum 43 = .ok (.getfield 11, 3) := by decide +kernel
theorem dX1_sum_46 : decode cX1_sum 46 = .ok (.iload_n 2, 1) := by decide +kernel
theorem dX1_sum_47 : decode cX1_sum 47 = .ok (.aaload, 1) := by decide +kernel
theorem dX1_sum_48 : decode cX1_sum 48 = .ok (.aload_n 0, 1) := by decide +kernel
theorem dX1_sum_49 : decode cX1_sum 49 = .ok (.getfield 11, 3) := by decide +kernel
theorem dX1_sum_52 : decode cX1_sum 52 = .ok (.iload_n 3, 1) := by decide +kernel
theorem dX1_sum_53 : decode cX1_sum 53 = .ok (.aaload, 1) := by decide +kernel
theorem dX1_sum_54 : decode cX1_sum 54 = .ok (.invokestatic 117, 3) := by decide +kernel
theorem dX1_sum_57 : decode cX1_sum 57 = .ok (.ifCond .lt 38, 3) := by decide +kernel
theorem dX1_sum_60 : decode cX1_sum 60 = .ok (.aload_n 0, 1) := by decide +kernel
theorem dX1_sum_61 : decode cX1_sum 61 = .ok (.getfield 11, 3) := by decide +kernel
theorem dX1_sum_64 : decode cX1_sum 64 = .ok (.iload_n 2, 1) := by decide +kernel
theorem dX1_sum_65 : decode cX1_sum 65 = .ok (.aaload, 1) := by decide +kernel
theorem dX1_sum_66 : decode cX1_sum 66 = .ok (.aload_n 0, 1) := by decide +kernel
theorem dX1_sum_67 : decode cX1_sum 67 = .ok (.getfield 11, 3) := by decide +kernel
theorem dX1_sum_70 : decode cX1_sum 70 = .ok (.iload_n 3, 1) := by decide +kernel
theorem dX1_sum_71 : decode cX1_sum 71 = .ok (.aaload, 1) := by decide +kernel
theorem dX1_sum_72 : decode cX1_sum 72 = .ok (.aload_n 0, 1) := by decide +kernel
theorem dX1_sum_73 : decode cX1_sum 73 = .ok (.getfield 32, 3) := by decide +kernel
theorem dX1_sum_76 : decode cX1_sum 76 = .ok (.invokestatic 155, 3) := by decide +kernel
theorem dX1_sum_79 : decode cX1_sum 79 = .ok (.aload_n 0, 1) := by decide +kernel
theorem dX1_sum_80 : decode cX1_sum 80 = .ok (.iload_n 1, 1) := by decide +kernel
theorem dX1_sum_81 : decode cX1_sum 81 = .ok (.aload_n 0, 1) := by decide +kernel
theorem dX1_sum_82 : decode cX1_sum 82 = .ok (.getfield 32, 3) := by decide +kernel
theorem dX1_sum_85 : decode cX1_sum 85 = .ok (.aload_n 0, 1) := by decide +kernel
theorem dX1_sum_86 : decode cX1_sum 86 = .ok (.getfield 14, 3) := by decide +kernel
theorem dX1_sum_89 : decode cX1_sum 89 = .ok (.iload_n 2, 1) := by decide +kernel
theorem dX1_sum_90 : decode cX1_sum 90 = .ok (.baload, 1) := by decide +kernel
theorem dX1_sum_91 : decode cX1_sum 91 = .ok (.invokevirtual 54, 3) := by decide +kernel
theorem dX1_sum_94 : decode cX1_sum 94 = .ok (.ireturn, 1) := by decide +kernel
theorem dX1_sum_95 : decode cX1_sum 95 = .ok (.aload_n 0, 1) := by decide +kernel
theorem dX1_sum_96 : decode cX1_sum 96 = .ok (.getfield 11, 3) := by decide +kernel
theorem dX1_sum_99 : decode cX1_sum 99 = .ok (.iload_n 3, 1) := by decide +kernel
theorem dX1_sum_100 : decode cX1_sum 100 = .ok (.aaload, 1) := by decide +kernel
theorem dX1_sum_101 : decode cX1_sum 101 = .ok (.aload_n 0, 1) := by decide +kernel
theorem dX1_sum_102 : decode cX1_sum 102 = .ok (.getfield 11, 3) := by decide +kernel
theorem dX1_sum_105 : decode cX1_sum 105 = .ok (.iload_n 2, 1) := by decide +kernel
theorem dX1_sum_106 : decode cX1_sum 106 = .ok (.aaload, 1) := by decide +kernel
theorem dX1_sum_107 : decode cX1_sum 107 = .ok (.aload_n 0, 1) := by decide +kernel
theorem dX1_sum_108 : decode cX1_sum 108 = .ok (.getfield 32, 3) := by decide +kernel
theorem dX1_sum_111 : decode cX1_sum 111 = .ok (.invokestatic 155, 3) := by decide +kernel
theorem dX1_sum_114 : decode cX1_sum 114 = .ok (.aload_n 0, 1) := by decide +kernel
theorem dX1_sum_115 : decode cX1_sum 115 = .ok (.iload_n 1, 1) := by decide +kernel
theorem dX1_sum_116 : decode cX1_sum 116 = .ok (.aload_n 0, 1) := by decide +kernel
theorem dX1_sum_117 : decode cX1_sum 117 = .ok (.getfield 32, 3) := by decide +kernel
theorem dX1_sum_120 : decode cX1_sum 120 = .ok (.iload 4, 2) := by decide +kernel
theorem dX1_sum_122 : decode cX1_sum 122 = .ok (.invokevirtual 54, 3) := by decide +kernel
theorem dX1_sum_125 : decode cX1_sum 125 = .ok (.ireturn, 1) := by decide +kernel
theorem dX1_quotientOrRest_0 : decode cX1_quotientOrRest 0 = .ok (.aload_n 0, 1) := by decide +kernel
theorem dX1_quotientOrRest_1 : decode cX1_quotientOrRest 1 = .ok (.getfield 11, 3) := by decide +kernel
theorem dX1_quotientOrRest_4 : decode cX1_quotientOrRest 4 = .ok (.iload_n 3, 1) := by decide +kernel
theorem dX1_quotientOrRest_5 : decode cX1_quotientOrRest 5 = .ok (.aaload, 1) := by decide +kernel
theorem dX1_quotientOrRest_6 : decode cX1_quotientOrRest 6 = .ok (.invokestatic 131, 3) := by decide +kernel
theorem dX1_quotientOrRest_9 : decode cX1_quotientOrRest 9 = .ok (.istore 5, 2) := by decide +kernel
theorem dX1_quotientOrRest_11 : decode cX1_quotientOrRest 11 = .ok (.iload 5, 2) := by decide +kernel
theorem dX1_quotientOrRest_13 : decode cX1_quotientOrRest 13 = .ok (.ifCond .ne 5, 3) := by decide +kernel
theorem dX1_quotientOrRest_16 : decode cX1_quotientOrRest 16 = .ok (.iconst 2, 1) := by decide +kernel
theorem dX1_quotientOrRest_17 : decode cX1_quotientOrRest 17 = .ok (.ireturn, 1) := by decide +kernel
theorem dX1_quotientOrRest_18 : decode cX1_quotientOrRest 18 = .ok (.iload 5, 2) := by decide +kernel
theorem dX1_quotientOrRest_20 : decode cX1_quotientOrRest 20 = .ok (.bipush 32, 2) := by decide +kernel
theorem dX1_quotientOrRest_22 : decode cX1_quotientOrRest 22 = .ok (.imul, 1) := by decide +kernel
theorem dX1_quotientOrRest_23 : decode cX1_quotientOrRest 23 = .ok (.aload_n 0, 1) := by decide +kernel
theorem dX1_quotientOrRest_24 : decode cX1_quotientOrRest 24 = .ok (.getfield 11, 3) := by decide +kernel
theorem dX1_quotientOrRest_27 : decode cX1_quotientOrRest 27 = .ok (.iload_n 3, 1) := by decide +kernel
theorem dX1_quotientOrRest_28 : decode cX1_quotientOrRest 28 = .ok (.aaload, 1) := by decide +kernel
theorem dX1_quotientOrRest_29 : decode cX1_quotientOrRest 29 = .ok (.invokestatic 92, 3) := by decide +kernel
theorem dX1_quotientOrRest_32 : decode cX1_quotientOrRest 32 = .ok (.isub, 1) := by decide +kernel
theorem dX1_quotientOrRest_33 : decode cX1_quotientOrRest 33 = .ok (.istore 6, 2) := by decide +kernel
theorem dX1_quotientOrRest_35 : decode cX1_quotientOrRest 35 = .ok (.aload_n 0, 1) := by decide +kernel
theorem dX1_quotientOrRest_36 : decode cX1_quotientOrRest 36 = .ok (.getfield 11, 3) := by decide +kernel
theorem dX1_quotientOrRest_39 : decode cX1_quotientOrRest 39 = .ok (.iload_n 2, 1) := by decide +kernel
theorem dX1_quotientOrRest_40 : decode cX1_quotientOrRest 40 = .ok (.aaload, 1) := by decide +kernel
theorem dX1_quotientOrRest_41 : decode cX1_quotientOrRest 41 = .ok (.iload 6, 2) := by decide +kernel
theorem dX1_quotientOrRest_43 : decode cX1_quotientOrRest 43 = .ok (.aload_n 0, 1) := by decide +kernel
theorem dX1_quotientOrRest_44 : decode cX1_quotientOrRest 44 = .ok (.getfield 32, 3) := by decide +kernel
theorem dX1_quotientOrRest_47 : decode cX1_quotientOrRest 47 = .ok (.invokestatic 96, 3) := by decide +kernel
theorem dX1_quotientOrRest_50 : decode cX1_quotientOrRest 50 = .ok (.aload_n 0, 1) := by decide +kernel
theorem dX1_quotientOrRest_51 : decode cX1_quotientOrRest 51 = .ok (.getfield 11, 3) := by decide +kernel
theorem dX1_quotientOrRest_54 : decode cX1_quotientOrRest 54 = .ok (.iload_n 3, 1) := by decide +kernel
theorem dX1_quotientOrRest_55 : decode cX1_quotientOrRest 55 = .ok (.aaload, 1) := by decide +kernel
theorem dX1_quotientOrRest_56 : decode cX1_quotientOrRest 56 = .ok (.iload 6, 2) := by decide +kernel
theorem dX1_quotientOrRest_58 : decode cX1_quotientOrRest 58 = .ok (.aload_n 0, 1) := by decide +kernel
theorem dX1_quotientOrRest_59 : decode cX1_quotientOrRest 59 = .ok (.getfield 36, 3) := by decide +kernel
theorem dX1_quotientOrRest_62 : decode cX1_quotientOrRest 62 = .ok (.invokestatic 96, 3) := by decide +kernel
theorem dX1_quotientOrRest_65 : decode cX1_quotientOrRest 65 = .ok (.aload_n 0, 1) := by decide +kernel
theorem dX1_quotientOrRest_66 : decode cX1_quotientOrRest 66 = .ok (.getfield 39, 3) := by decide +kernel
theorem dX1_quotientOrRest_69 : decode cX1_quotientOrRest 69 = .ok (.lconst 0, 1) := by decide +kernel
theorem dX1_quotientOrRest_70 : decode cX1_quotientOrRest 70 = .ok (.invokestatic 46, 3) := by decide +kernel
theorem dX1_quotientOrRest_73 : decode cX1_quotientOrRest 73 = .ok (.bipush 16, 2) := by decide +kernel
theorem dX1_quotientOrRest_75 : decode cX1_quotientOrRest 75 = .ok (.iload 5, 2) := by decide +kernel
theorem dX1_quotientOrRest_77 : decode cX1_quotientOrRest 77 = .ok (.isub, 1) := by decide +kernel
theorem dX1_quotientOrRest_78 : decode cX1_quotientOrRest 78 = .ok (.istore 7, 2) := by decide +kernel
theorem dX1_quotientOrRest_80 : decode cX1_quotientOrRest 80 = .ok (.iload 7, 2) := by decide +kernel
theorem dX1_quotientOrRest_82 : decode cX1_quotientOrRest 82 = .ok (.ifCond .lt 31, 3) := by decide +kernel
theorem dX1_quotientOrRest_85 : decode cX1_quotientOrRest 85 = .ok (.aload_n 0, 1) := by decide +kernel
theorem dX1_quotientOrRest_86 : decode cX1_quotientOrRest 86 = .ok (.getfield 39, 3) := by decide +kernel
theorem dX1_quotientOrRest_89 : decode cX1_quotientOrRest 89 = .ok (.iload 7, 2) := by decide +kernel
theorem dX1_quotientOrRest_91 : decode cX1_quotientOrRest 91 = .ok (.aload_n 0, 1) := by decide +kernel
theorem dX1_quotientOrRest_92 : decode cX1_quotientOrRest 92 = .ok (.getfield 32, 3) := by decide +kernel
theorem dX1_quotientOrRest_95 : decode cX1_quotientOrRest 95 = .ok (.aload_n 0, 1) := by decide +kernel
theorem dX1_quotientOrRest_96 : decode cX1_quotientOrRest 96 = .ok (.getfield 36, 3) := by decide +kernel
theorem dX1_quotientOrRest_99 : decode cX1_quotientOrRest 99 = .ok (.iload 5, 2) := by decide +kernel
theorem dX1_quotientOrRest_101 : decode cX1_quotientOrRest 101 = .ok (.iload 7, 2) := by decide +kernel
theorem dX1_quotientOrRest_103 : decode cX1_quotientOrRest 103 = .ok (.invokestatic 158, 3) := by decide +kernel
theorem dX1_quotientOrRest_106 : decode cX1_quotientOrRest 106 = .ok (.lastore, 1) := by decide +kernel
theorem dX1_quotientOrRest_107 : decode cX1_quotientOrRest 107 = .ok (.iinc 7 (-1), 3) := by decide +kernel
theorem dX1_quotientOrRest_110 : decode cX1_quotientOrRest 110 = .ok (.goto (-30), 3) := by decide +kernel
theorem dX1_quotientOrRest_113 : decode cX1_quotientOrRest 113 = .ok (.iload 4, 2) := by decide +kernel
theorem dX1_quotientOrRest_115 : decode cX1_quotientOrRest 115 = .ok (.ifCond .eq 32, 3) := by decide +kernel
theorem dX1_quotientOrRest_118 : decode cX1_quotientOrRest 118 = .ok (.aload_n 0, 1) := by decide +kernel
theorem dX1_quotientOrRest_119 : decode cX1_quotientOrRest 119 = .ok (.getfield 32, 3) := by decide +kernel
theorem dX1_quotientOrRest_122 : decode cX1_quotientOrRest 122 = .ok (.iload 6, 2) := by decide +kernel
theorem dX1_quotientOrRest_124 : decode cX1_quotientOrRest 124 = .ok (.aload_n 0, 1) := by decide +kernel
theorem dX1_quotientOrRest_125 : decode cX1_quotientOrRest 125 = .ok (.getfield 39, 3) := by decide +kernel
theorem dX1_quotientOrRest_128 : decode cX1_quotientOrRest 128 = .ok (.invokestatic 100, 3) := by decide +kernel
theorem dX1_quotientOrRest_131 : decode cX1_quotientOrRest 131 = .ok (.aload_n 0, 1) := by decide +kernel
theorem dX1_quotientOrRest_132 : decode cX1_quotientOrRest 132 = .ok (.iload_n 1, 1) := by decide +kernel
theorem dX1_quotientOrRest_133 : decode cX1_quotientOrRest 133 = .ok (.aload_n 0, 1) := by decide +kernel
theorem dX1_quotientOrRest_134 : decode cX1_quotientOrRest 134 = .ok (.getfield 39, 3) := by decide +kernel
theorem dX1_quotientOrRest_137 : decode cX1_quotientOrRest 137 = .ok (.aload_n 0, 1) := by decide +kernel
theorem dX1_quotientOrRest_138 : decode cX1_quotientOrRest 138 = .ok (.getfield 14, 3) := by decide +kernel
theorem dX1_quotientOrRest_141 : decode cX1_quotientOrRest 141 = .ok (.iload_n 2, 1) := by decide +kernel
theorem dX1_quotientOrRest_142 : decode cX1_quotientOrRest 142 = .ok (.baload, 1) := by decide +kernel
theorem dX1_quotientOrRest_143 : decode cX1_quotientOrRest 143 = .ok (.invokevirtual 54, 3) := by decide +kernel
theorem dX1_quotientOrRest_146 : decode cX1_quotientOrRest 146 = .ok (.ireturn, 1) := by decide +kernel
theorem dX1_quotientOrRest_147 : decode cX1_quotientOrRest 147 = .ok (.aload_n 0, 1) := by decide +kernel
theorem dX1_quotientOrRest_148 : decode cX1_quotientOrRest 148 = .ok (.iload_n 1, 1) := by decide +kernel
theorem dX1_quotientOrRest_149 : decode cX1_quotientOrRest 149 = .ok (.aload_n 0, 1) := by decide +kernel
theorem dX1_quotientOrRest_150 : decode cX1_quotientOrRest 150 = .ok (.getfield 39, 3) := by decide +kernel
theorem dX1_quotientOrRest_153 : decode cX1_quotientOrRest 153 = .ok (.aload_n 0, 1) := by decide +kernel
theorem dX1_quotientOrRest_154 : decode cX1_quotientOrRest 154 = .ok (.getfield 14, 3) := by decide +kernel
theorem dX1_quotientOrRest_157 : decode cX1_quotientOrRest 157 = .ok (.iload_n 2, 1) := by decide +kernel
theorem dX1_quotientOrRest_158 : decode cX1_quotientOrRest 158 = .ok (.baload, 1) := by decide +kernel
theorem dX1_quotientOrRest_159 : decode cX1_quotientOrRest 159 = .ok (.aload_n 0, 1) := by decide +kernel
theorem dX1_quotientOrRest_160 : decode cX1_quotientOrRest 160 = .ok (.getfield 14, 3) := by decide +kernel
theorem dX1_quotientOrRest_163 : decode cX1_quotientOrRest 163 = .ok (.iload_n 3, 1) := by decide +kernel
theorem dX1_quotientOrRest_164 : decode cX1_quotientOrRest 164 = .ok (.baload, 1) := by decide +kernel
theorem dX1_quotientOrRest_165 : decode cX1_quotientOrRest 165 = .ok (.if_icmp .eq 7, 3) := by decide +kernel
theorem dX1_quotientOrRest_168 : decode cX1_quotientOrRest 168 = .ok (.iconst 1, 1) := by decide +kernel
theorem dX1_quotientOrRest_169 : decode cX1_quotientOrRest 169 = .ok (.goto 4, 3) := by decide +kernel
theorem dX1_quotientOrRest_172 : decode cX1_quotientOrRest 172 = .ok (.iconst 0, 1) := by decide +kernel
theorem dX1_quotientOrRest_173 : decode cX1_quotientOrRest 173 = .ok (.invokevirtual 54, 3) := by decide +kernel
theorem dX1_quotientOrRest_176 : decode cX1_quotientOrRest 176 = .ok (.ireturn, 1) := by decide +kernel
theorem dX1_bitByBit_0 : decode cX1_bitByBit 0 = .ok (.aload_n 0, 1) := by decide +kernel
theorem dX1_bitByBit_1 : decode cX1_bitByBit 1 = .ok (.iload_n 3, 1) := by decide +kernel
theorem dX1_bitByBit_2 : decode cX1_bitByBit 2 = .ok (.aload_n 0, 1) := by decide +kernel
theorem dX1_bitByBit_3 : decode cX1_bitByBit 3 = .ok (.getfield 32, 3) := by decide +kernel
theorem dX1_bitByBit_6 : decode cX1_bitByBit 6 = .ok (.invokevirtual 162, 3) := by decide +kernel
theorem dX1_bitByBit_9 : decode cX1_bitByBit 9 = .ok (.aload_n 0, 1) := by decide +kernel
theorem dX1_bitByBit_10 : decode cX1_bitByBit 10 = .ok (.iload 4, 2) := by decide +kernel
theorem dX1_bitByBit_12 : decode cX1_bitByBit 12 = .ok (.aload_n 0, 1) := by decide +kernel
theorem dX1_bitByBit_13 : decode cX1_bitByBit 13 = .ok (.getfield 36, 3) := by decide +kernel
theorem dX1_bitByBit_16 : decode cX1_bitByBit 16 = .ok (.invokevirtual 162, 3) := by decide +kernel
theorem dX1_bitByBit_19 : decode cX1_bitByBit 19 = .ok (.iconst 0, 1) := by decide +kernel
theorem dX1_bitByBit_20 : decode cX1_bitByBit 20 = .ok (.istore 5, 2) := by decide +kernel
theorem dX1_bitByBit_22 : decode cX1_bitByBit 22 = .ok (.iload 5, 2) := by decide +kernel
theorem dX1_bitByBit_24 : decode cX1_bitByBit 24 = .ok (.aload_n 0, 1) := by decide +kernel
theorem dX1_bitByBit_25 : decode cX1_bitByBit 25 = .ok (.getfield 32, 3) := by decide +kernel
theorem dX1_bitByBit_28 : decode cX1_bitByBit 28 = .ok (.arraylength, 1) := by decide +kernel
theorem dX1_bitByBit_29 : decode cX1_bitByBit 29 = .ok (.if_icmp .ge 34, 3) := by decide +kernel
theorem dX1_bitByBit_32 : decode cX1_bitByBit 32 = .ok (.aload_n 0, 1) := by decide +kernel
theorem dX1_bitByBit_33 : decode cX1_bitByBit 33 = .ok (.getfield 32, 3) := by decide +kernel
theorem dX1_bitByBit_36 : decode cX1_bitByBit 36 = .ok (.iload 5, 2) := by decide +kernel
theorem dX1_bitByBit_38 : decode cX1_bitByBit 38 = .ok (.iload_n 1, 1) := by decide +kernel
theorem dX1_bitByBit_39 : decode cX1_bitByBit 39 = .ok (.aload_n 0, 1) := by decide +kernel
theorem dX1_bitByBit_40 : decode cX1_bitByBit 40 = .ok (.getfield 32, 3) := by decide +kernel
theorem dX1_bitByBit_43 : decode cX1_bitByBit 43 = .ok (.iload 5, 2) := by decide +kernel
theorem dX1_bitByBit_45 : decode cX1_bitByBit 45 = .ok (.laload, 1) := by decide +kernel
theorem dX1_bitByBit_46 : decode cX1_bitByBit 46 = .ok (.aload_n 0, 1) := by decide +kernel
theorem dX1_bitByBit_47 : decode cX1_bitByBit 47 = .ok (.getfield 36, 3) := by decide +kernel
theorem dX1_bitByBit_50 : decode cX1_bitByBit 50 = .ok (.iload 5, 2) := by decide +kernel
theorem dX1_bitByBit_52 : decode cX1_bitByBit 52 = .ok (.laload, 1) := by decide +kernel
theorem dX1_bitByBit_53 : decode cX1_bitByBit 53 = .ok (.invokestatic 166, 3) := by decide +kernel
theorem dX1_bitByBit_56 : decode cX1_bitByBit 56 = .ok (.lastore, 1) := by decide +kernel
theorem dX1_bitByBit_57 : decode cX1_bitByBit 57 = .ok (.iinc 5 1, 3) := by decide +kernel
theorem dX1_bitByBit_60 : decode cX1_bitByBit 60 = .ok (.goto (-38), 3) := by decide +kernel
theorem dX1_bitByBit_63 : decode cX1_bitByBit 63 = .ok (.aload_n 0, 1) := by decide +kernel
theorem dX1_bitByBit_64 : decode cX1_bitByBit 64 = .ok (.getfield 32, 3) := by decide +kernel
theorem dX1_bitByBit_67 : decode cX1_bitByBit 67 = .ok (.bipush 16, 2) := by decide +kernel
theorem dX1_bitByBit_69 : decode cX1_bitByBit 69 = .ok (.laload, 1) := by decide +kernel
theorem dX1_bitByBit_70 : decode cX1_bitByBit 70 = .ok (.lconst 0, 1) := by decide +kernel
theorem dX1_bitByBit_71 : decode cX1_bitByBit 71 = .ok (.lcmp, 1) := by decide +kernel
theorem dX1_bitByBit_72 : decode cX1_bitByBit 72 = .ok (.ifCond .eq 7, 3) := by decide +kernel
theorem dX1_bitByBit_75 : decode cX1_bitByBit 75 = .ok (.iconst 1, 1) := by decide +kernel
theorem dX1_bitByBit_76 : decode cX1_bitByBit 76 = .ok (.goto 4, 3) := by decide +kernel
theorem dX1_bitByBit_79 : decode cX1_bitByBit 79 = .ok (.iconst 0, 1) := by decide +kernel
theorem dX1_bitByBit_80 : decode cX1_bitByBit 80 = .ok (.istore 5, 2) := by decide +kernel
theorem dX1_bitByBit_82 : decode cX1_bitByBit 82 = .ok (.iload 5, 2) := by decide +kernel
theorem dX1_bitByBit_84 : decode cX1_bitByBit 84 = .ok (.ifCond .eq 10, 3) := by decide +kernel
theorem dX1_bitByBit_87 : decode cX1_bitByBit 87 = .ok (.aload_n 0, 1) := by decide +kernel
theorem dX1_bitByBit_88 : decode cX1_bitByBit 88 = .ok (.getfield 32, 3) := by decide +kernel
theorem dX1_bitByBit_91 : decode cX1_bitByBit 91 = .ok (.invokestatic 170, 3) := by decide +kernel
theorem dX1_bitByBit_94 : decode cX1_bitByBit 94 = .ok (.aload_n 0, 1) := by decide +kernel
theorem dX1_bitByBit_95 : decode cX1_bitByBit 95 = .ok (.iload_n 2, 1) := by decide +kernel
theorem dX1_bitByBit_96 : decode cX1_bitByBit 96 = .ok (.aload_n 0, 1) := by decide +kernel
theorem dX1_bitByBit_97 : decode cX1_bitByBit 97 = .ok (.getfield 32, 3) := by decide +kernel
theorem dX1_bitByBit_100 : decode cX1_bitByBit 100 = .ok (.iload 5, 2) := by decide +kernel
theorem dX1_bitByBit_102 : decode cX1_bitByBit 102 = .ok (.invokevirtual 54, 3) := by decide +kernel
theorem dX1_bitByBit_105 : decode cX1_bitByBit 105 = .ok (.ireturn, 1) := by decide +kernel
theorem dX1_signedCopy_0 : decode cX1_signedCopy 0 = .ok (.aload_n 0, 1) := by decide +kernel
theorem dX1_signedCopy_1 : decode cX1_signedCopy 1 = .ok (.getfield 11, 3) := by decide +kernel
theorem dX1_signedCopy_4 : decode cX1_signedCopy 4 = .ok (.iload_n 1, 1) := by decide +kernel
theorem dX1_signedCopy_5 : decode cX1_signedCopy 5 = .ok (.aaload, 1) := by decide +kernel
theorem dX1_signedCopy_6 : decode cX1_signedCopy 6 = .ok (.aload_n 2, 1) := by decide +kernel
theorem dX1_signedCopy_7 : decode cX1_signedCopy 7 = .ok (.invokestatic 110, 3) := by decide +kernel
theorem dX1_signedCopy_10 : decode cX1_signedCopy 10 = .ok (.aload_n 0, 1) := by decide +kernel
theorem dX1_signedCopy_11 : decode cX1_signedCopy 11 = .ok (.getfield 14, 3) := by decide +kernel
theorem dX1_signedCopy_14 : decode cX1_signedCopy 14 = .ok (.iload_n 1, 1) := by decide +kernel
theorem dX1_signedCopy_15 : decode cX1_signedCopy 15 = .ok (.baload, 1) := by decide +kernel
theorem dX1_signedCopy_16 : decode cX1_signedCopy 16 = .ok (.ifCond .eq 7, 3) := by decide +kernel
theorem dX1_signedCopy_19 : decode cX1_signedCopy 19 = .ok (.aload_n 2, 1) := by decide +kernel
theorem dX1_signedCopy_20 : decode cX1_signedCopy 20 = .ok (.invokestatic 170, 3) := by decide +kernel
theorem dX1_signedCopy_23 : decode cX1_signedCopy 23 = .ok (.return_, 1) := by decide +kernel
theorem dX1_joined_0 : decode cX1_joined 0 = .ok (.iload_n 0, 1) := by decide +kernel
theorem dX1_joined_1 : decode cX1_joined 1 = .ok (.tableswitch 39 5 7 #[27, 31, 35], 27) := by decide +kernel
theorem dX1_joined_28 : decode cX1_joined 28 = .ok (.lload_n 1, 1) := by decide +kernel
theorem dX1_joined_29 : decode cX1_joined 29 = .ok (.lload_n 3, 1) := by decide +kernel
theorem dX1_joined_30 : decode cX1_joined 30 = .ok (.land, 1) := by decide +kernel
theorem dX1_joined_31 : decode cX1_joined 31 = .ok (.lreturn, 1) := by decide +kernel
theorem dX1_joined_32 : decode cX1_joined 32 = .ok (.lload_n 1, 1) := by decide +kernel
theorem dX1_joined_33 : decode cX1_joined 33 = .ok (.lload_n 3, 1) := by decide +kernel
theorem dX1_joined_34 : decode cX1_joined 34 = .ok (.lor, 1) := by decide +kernel
theorem dX1_joined_35 : decode cX1_joined 35 = .ok (.lreturn, 1) := by decide +kernel
theorem dX1_joined_36 : decode cX1_joined 36 = .ok (.lload_n 1, 1) := by decide +kernel
theorem dX1_joined_37 : decode cX1_joined 37 = .ok (.lload_n 3, 1) := by decide +kernel
theorem dX1_joined_38 : decode cX1_joined 38 = .ok (.lxor, 1) := by decide +kernel
theorem dX1_joined_39 : decode cX1_joined 39 = .ok (.lreturn, 1) := by decide +kernel
theorem dX1_joined_40 : decode cX1_joined 40 = .ok (.lload_n 1, 1) := by decide +kernel
theorem dX1_joined_41 : decode cX1_joined 41 = .ok (.lload_n 3, 1) := by decide +kernel
theorem dX1_joined_42 : decode cX1_joined 42 = .ok (.ldc2_w 173, 3) := by decide +kernel
theorem dX1_joined_45 : decode cX1_joined 45 = .ok (.lxor, 1) := by decide +kernel
theorem dX1_joined_46 : decode cX1_joined 46 = .ok (.land, 1) := by decide +kernel
theorem dX1_joined_47 : decode cX1_joined 47 = .ok (.lreturn, 1) := by decide +kernel
theorem dX1_groupLength_0 : decode cX1_groupLength 0 = .ok (.iconst 1, 1) := by decide +kernel
theorem dX1_groupLength_1 : decode cX1_groupLength 1 = .ok (.istore_n 1, 1) := by decide +kernel
theorem dX1_groupLength_2 : decode cX1_groupLength 2 = .ok (.iload_n 0, 1) := by decide +kernel
theorem dX1_groupLength_3 : decode cX1_groupLength 3 = .ok (.i2l, 1) := by decide +kernel
theorem dX1_groupLength_4 : decode cX1_groupLength 4 = .ok (.lstore_n 2, 1) := by decide +kernel
theorem dX1_groupLength_5 : decode cX1_groupLength 5 = .ok (.iload_n 1, 1) := by decide +kernel
theorem dX1_groupLength_6 : decode cX1_groupLength 6 = .ok (.bipush 32, 2) := by decide +kernel
theorem dX1_groupLength_8 : decode cX1_groupLength 8 = .ok (.if_icmp .ge 25, 3) := by decide +kernel
theorem dX1_groupLength_11 : decode cX1_groupLength 11 = .ok (.lload_n 2, 1) := by decide +kernel
theorem dX1_groupLength_12 : decode cX1_groupLength 12 = .ok (.iload_n 0, 1) := by decide +kernel
theorem dX1_groupLength_13 : decode cX1_groupLength 13 = .ok (.i2l, 1) := by decide +kernel
theorem dX1_groupLength_14 : decode cX1_groupLength 14 = .ok (.lmul, 1) := by decide +kernel
theorem dX1_groupLength_15 : decode cX1_groupLength 15 = .ok (.ldc2_w 69, 3) := by decide +kernel
theorem dX1_groupLength_18 : decode cX1_groupLength 18 = .ok (.lcmp, 1) := by decide +kernel
theorem dX1_groupLength_19 : decode cX1_groupLength 19 = .ok (.ifCond .gt 14, 3) := by decide +kernel
theorem dX1_groupLength_22 : decode cX1_groupLength 22 = .ok (.lload_n 2, 1) := by decide +kernel
theorem dX1_groupLength_23 : decode cX1_groupLength 23 = .ok (.iload_n 0, 1) := by decide +kernel
theorem dX1_groupLength_24 : decode cX1_groupLength 24 = .ok (.i2l, 1) := by decide +kernel
theorem dX1_groupLength_25 : decode cX1_groupLength 25 = .ok (.lmul, 1) := by decide +kernel
theorem dX1_groupLength_26 : decode cX1_groupLength 26 = .ok (.lstore_n 2, 1) := by decide +kernel
theorem dX1_groupLength_27 : decode cX1_groupLength 27 = .ok (.iinc 1 1, 3) := by decide +kernel
theorem dX1_groupLength_30 : decode cX1_groupLength 30 = .ok (.goto (-25), 3) := by decide +kernel
theorem dX1_groupLength_33 : decode cX1_groupLength 33 = .ok (.iload_n 1, 1) := by decide +kernel
theorem dX1_groupLength_34 : decode cX1_groupLength 34 = .ok (.ireturn, 1) := by decide +kernel
theorem dX1_powerOf_0 : decode cX1_powerOf 0 = .ok (.lconst 1, 1) := by decide +kernel
theorem dX1_powerOf_1 : decode cX1_powerOf 1 = .ok (.lstore_n 2, 1) := by decide +kernel
theorem dX1_powerOf_2 : decode cX1_powerOf 2 = .ok (.iconst 0, 1) := by decide +kernel
theorem dX1_powerOf_3 : decode cX1_powerOf 3 = .ok (.istore 4, 2) := by decide +kernel
theorem dX1_powerOf_5 : decode cX1_powerOf 5 = .ok (.iload 4, 2) := by decide +kernel
theorem dX1_powerOf_7 : decode cX1_powerOf 7 = .ok (.iload_n 1, 1) := by decide +kernel
theorem dX1_powerOf_8 : decode cX1_powerOf 8 = .ok (.if_icmp .ge 14, 3) := by decide +kernel
theorem dX1_powerOf_11 : decode cX1_powerOf 11 = .ok (.lload_n 2, 1) := by decide +kernel
theorem dX1_powerOf_12 : decode cX1_powerOf 12 = .ok (.iload_n 0, 1) := by decide +kernel
theorem dX1_powerOf_13 : decode cX1_powerOf 13 = .ok (.i2l, 1) := by decide +kernel
theorem dX1_powerOf_14 : decode cX1_powerOf 14 = .ok (.lmul, 1) := by decide +kernel
theorem dX1_powerOf_15 : decode cX1_powerOf 15 = .ok (.lstore_n 2, 1) := by decide +kernel
theorem dX1_powerOf_16 : decode cX1_powerOf 16 = .ok (.iinc 4 1, 3) := by decide +kernel
theorem dX1_powerOf_19 : decode cX1_powerOf 19 = .ok (.goto (-14), 3) := by decide +kernel
theorem dX1_powerOf_22 : decode cX1_powerOf 22 = .ok (.lload_n 2, 1) := by decide +kernel
theorem dX1_powerOf_23 : decode cX1_powerOf 23 = .ok (.lreturn, 1) := by decide +kernel
theorem dX1_putGroup_0 : decode cX1_putGroup 0 = .ok (.lload_n 1, 1) := by decide +kernel
theorem dX1_putGroup_1 : decode cX1_putGroup 1 = .ok (.lstore 5, 2) := by decide +kernel
theorem dX1_putGroup_3 : decode cX1_putGroup 3 = .ok (.iconst 0, 1) := by decide +kernel
theorem dX1_putGroup_4 : decode cX1_putGroup 4 = .ok (.istore 7, 2) := by decide +kernel
theorem dX1_putGroup_6 : decode cX1_putGroup 6 = .ok (.iload 7, 2) := by decide +kernel
theorem dX1_putGroup_8 : decode cX1_putGroup 8 = .ok (.bipush 32, 2) := by decide +kernel
theorem dX1_putGroup_10 : decode cX1_putGroup 10 = .ok (.if_icmp .ge 65, 3) := by decide +kernel
theorem dX1_putGroup_13 : decode cX1_putGroup 13 = .ok (.lload 5, 2) := by decide +kernel
theorem dX1_putGroup_15 : decode cX1_putGroup 15 = .ok (.lconst 0, 1) := by decide +kernel
theorem dX1_putGroup_16 : decode cX1_putGroup 16 = .ok (.lcmp, 1) := by decide +kernel
theorem dX1_putGroup_17 : decode cX1_putGroup 17 = .ok (.ifCond .gt 10, 3) := by decide +kernel
theorem dX1_putGroup_20 : decode cX1_putGroup 20 = .ok (.iload 7, 2) := by decide +kernel
theorem dX1_putGroup_22 : decode cX1_putGroup 22 = .ok (.iload 4, 2) := by decide +kernel
theorem dX1_putGroup_24 : decode cX1_putGroup 24 = .ok (.if_icmp .ge 51, 3) := by decide +kernel
theorem dX1_putGroup_27 : decode cX1_putGroup 27 = .ok (.lload 5, 2) := by decide +kernel
theorem dX1_putGroup_29 : decode cX1_putGroup 29 = .ok (.iload_n 3, 1) := by decide +kernel
theorem dX1_putGroup_30 : decode cX1_putGroup 30 = .ok (.i2l, 1) := by decide +kernel
theorem dX1_putGroup_31 : decode cX1_putGroup 31 = .ok (.lrem, 1) := by decide +kernel
theorem dX1_putGroup_32 : decode cX1_putGroup 32 = .ok (.l2i, 1) := by decide +kernel
theorem dX1_putGroup_33 : decode cX1_putGroup 33 = .ok (.istore 8, 2) := by decide +kernel
theorem dX1_putGroup_35 : decode cX1_putGroup 35 = .ok (.aload_n 0, 1) := by decide +kernel
theorem dX1_putGroup_36 : decode cX1_putGroup 36 = .ok (.iload 8, 2) := by decide +kernel
theorem dX1_putGroup_38 : decode cX1_putGroup 38 = .ok (.bipush 10, 2) := by decide +kernel
theorem dX1_putGroup_40 : decode cX1_putGroup 40 = .ok (.if_icmp .ge 11, 3) := by decide +kernel
theorem dX1_putGroup_43 : decode cX1_putGroup 43 = .ok (.bipush 48, 2) := by decide +kernel
theorem dX1_putGroup_45 : decode cX1_putGroup 45 = .ok (.iload 8, 2) := by decide +kernel
theorem dX1_putGroup_47 : decode cX1_putGroup 47 = .ok (.iadd, 1) := by decide +kernel
theorem dX1_putGroup_48 : decode cX1_putGroup 48 = .ok (.goto 11, 3) := by decide +kernel
theorem dX1_putGroup_51 : decode cX1_putGroup 51 = .ok (.bipush 97, 2) := by decide +kernel
theorem dX1_putGroup_53 : decode cX1_putGroup 53 = .ok (.iload 8, 2) := by decide +kernel
theorem dX1_putGroup_55 : decode cX1_putGroup 55 = .ok (.iadd, 1) := by decide +kernel
theorem dX1_putGroup_56 : decode cX1_putGroup 56 = .ok (.bipush 10, 2) := by decide +kernel
theorem dX1_putGroup_58 : decode cX1_putGroup 58 = .ok (.isub, 1) := by decide +kernel
theorem dX1_putGroup_59 : decode cX1_putGroup 59 = .ok (.invokevirtual 142, 3) := by decide +kernel
theorem dX1_putGroup_62 : decode cX1_putGroup 62 = .ok (.lload 5, 2) := by decide +kernel
theorem dX1_putGroup_64 : decode cX1_putGroup 64 = .ok (.iload_n 3, 1) := by decide +kernel
theorem dX1_putGroup_65 : decode cX1_putGroup 65 = .ok (.i2l, 1) := by decide +kernel
theorem dX1_putGroup_66 : decode cX1_putGroup 66 = .ok (.ldiv, 1) := by decide +kernel
theorem dX1_putGroup_67 : decode cX1_putGroup 67 = .ok (.lstore 5, 2) := by decide +kernel
theorem dX1_putGroup_69 : decode cX1_putGroup 69 = .ok (.iinc 7 1, 3) := by decide +kernel
theorem dX1_putGroup_72 : decode cX1_putGroup 72 = .ok (.goto (-66), 3) := by decide +kernel
theorem dX1_putGroup_75 : decode cX1_putGroup 75 = .ok (.return_, 1) := by decide +kernel
theorem dX1_put_0 : decode cX1_put 0 = .ok (.aload_n 0, 1) := by decide +kernel
theorem dX1_put_1 : decode cX1_put 1 = .ok (.getfield 29, 3) := by decide +kernel
theorem dX1_put_4 : decode cX1_put 4 = .ok (.ifCond .le 24, 3) := by decide +kernel
theorem dX1_put_7 : decode cX1_put 7 = .ok (.aload_n 0, 1) := by decide +kernel
theorem dX1_put_8 : decode cX1_put 8 = .ok (.dup, 1) := by decide +kernel
theorem dX1_put_9 : decode cX1_put 9 = .ok (.getfield 29, 3) := by decide +kernel
theorem dX1_put_12 : decode cX1_put 12 = .ok (.iconst 1, 1) := by decide +kernel
theorem dX1_put_13 : decode cX1_put 13 = .ok (.isub, 1) := by decide +kernel
theorem dX1_put_14 : decode cX1_put 14 = .ok (.putfield 29, 3) := by decide +kernel
theorem dX1_put_17 : decode cX1_put 17 = .ok (.aload_n 0, 1) := by decide +kernel
theorem dX1_put_18 : decode cX1_put 18 = .ok (.getfield 26, 3) := by decide +kernel
theorem dX1_put_21 : decode cX1_put 21 = .ok (.aload_n 0, 1) := by decide +kernel
theorem dX1_put_22 : decode cX1_put 22 = .ok (.getfield 29, 3) := by decide +kernel
theorem dX1_put_25 : decode cX1_put 25 = .ok (.iload_n 1, 1) := by decide +kernel
theorem dX1_put_26 : decode cX1_put 26 = .ok (.i2b, 1) := by decide +kernel
theorem dX1_put_27 : decode cX1_put 27 = .ok (.bastore, 1) := by decide +kernel
theorem dX1_put_28 : decode cX1_put 28 = .ok (.return_, 1) := by decide +kernel
theorem dJ6_numberOfLeadingZeros_0f7a4_0 : decode cJ6_numberOfLeadingZeros_0f7a4 0 = .ok (.iload_n 0, 1) := by decide +kernel
theorem dJ6_numberOfLeadingZeros_0f7a4_1 : decode cJ6_numberOfLeadingZeros_0f7a4 1 = .ok (.ifCond .gt 14, 3) := by decide +kernel
theorem dJ6_numberOfLeadingZeros_0f7a4_4 : decode cJ6_numberOfLeadingZeros_0f7a4 4 = .ok (.iload_n 0, 1) := by decide +kernel
theorem dJ6_numberOfLeadingZeros_0f7a4_5 : decode cJ6_numberOfLeadingZeros_0f7a4 5 = .ok (.ifCond .ne 8, 3) := by decide +kernel
theorem dJ6_numberOfLeadingZeros_0f7a4_8 : decode cJ6_numberOfLeadingZeros_0f7a4 8 = .ok (.bipush 32, 2) := by decide +kernel
theorem dJ6_numberOfLeadingZeros_0f7a4_10 : decode cJ6_numberOfLeadingZeros_0f7a4 10 = .ok (.goto 4, 3) := by decide +kernel
theorem dJ6_numberOfLeadingZeros_0f7a4_13 : decode cJ6_numberOfLeadingZeros_0f7a4 13 = .ok (.iconst 0, 1) := by decide +kernel
theorem dJ6_numberOfLeadingZeros_0f7a4_14 : decode cJ6_numberOfLeadingZeros_0f7a4 14 = .ok (.ireturn, 1) := by decide +kernel
theorem dJ6_numberOfLeadingZeros_0f7a4_15 : decode cJ6_numberOfLeadingZeros_0f7a4 15 = .ok (.bipush 31, 2) := by decide +kernel
theorem dJ6_numberOfLeadingZeros_0f7a4_17 : decode cJ6_numberOfLeadingZeros_0f7a4 17 = .ok (.istore_n 1, 1) := by decide +kernel
theorem dJ6_numberOfLeadingZeros_0f7a4_18 : decode cJ6_numberOfLeadingZeros_0f7a4 18 = .ok (.iload_n 0, 1) := by decide +kernel
theorem dJ6_numberOfLeadingZeros_0f7a4_19 : decode cJ6_numberOfLeadingZeros_0f7a4 19 = .ok (.ldc_w 264, 3) := by decide +kernel
theorem dJ6_numberOfLeadingZeros_0f7a4_22 : decode cJ6_numberOfLeadingZeros_0f7a4 22 = .ok (.if_icmp .lt 11, 3) := by decide +kernel
theorem dJ6_numberOfLeadingZeros_0f7a4_25 : decode cJ6_numberOfLeadingZeros_0f7a4 25 = .ok (.iinc 1 (-16), 3) := by decide +kernel
theorem dJ6_numberOfLeadingZeros_0f7a4_28 : decode cJ6_numberOfLeadingZeros_0f7a4 28 = .ok (.iload_n 0, 1) := by decide +kernel
theorem dJ6_numberOfLeadingZeros_0f7a4_29 : decode cJ6_numberOfLeadingZeros_0f7a4 29 = .ok (.bipush 16, 2) := by decide +kernel
theorem dJ6_numberOfLeadingZeros_0f7a4_31 : decode cJ6_numberOfLeadingZeros_0f7a4 31 = .ok (.iushr, 1) := by decide +kernel
theorem dJ6_numberOfLeadingZeros_0f7a4_32 : decode cJ6_numberOfLeadingZeros_0f7a4 32 = .ok (.istore_n 0, 1) := by decide +kernel
theorem dJ6_numberOfLeadingZeros_0f7a4_33 : decode cJ6_numberOfLeadingZeros_0f7a4 33 = .ok (.iload_n 0, 1) := by decide +kernel
theorem dJ6_numberOfLeadingZeros_0f7a4_34 : decode cJ6_numberOfLeadingZeros_0f7a4 34 = .ok (.sipush 256, 3) := by decide +kernel
theorem dJ6_numberOfLeadingZeros_0f7a4_37 : decode cJ6_numberOfLeadingZeros_0f7a4 37 = .ok (.if_icmp .lt 11, 3) := by decide +kernel
theorem dJ6_numberOfLeadingZeros_0f7a4_40 : decode cJ6_numberOfLeadingZeros_0f7a4 40 = .ok (.iinc 1 (-8), 3) := by decide +kernel
theorem dJ6_numberOfLeadingZeros_0f7a4_43 : decode cJ6_numberOfLeadingZeros_0f7a4 43 = .ok (.iload_n 0, 1) := by decide +kernel
theorem dJ6_numberOfLeadingZeros_0f7a4_44 : decode cJ6_numberOfLeadingZeros_0f7a4 44 = .ok (.bipush 8, 2) := by decide +kernel
theorem dJ6_numberOfLeadingZeros_0f7a4_46 : decode cJ6_numberOfLeadingZeros_0f7a4 46 = .ok (.iushr, 1) := by decide +kernel
theorem dJ6_numberOfLeadingZeros_0f7a4_47 : decode cJ6_numberOfLeadingZeros_0f7a4 47 = .ok (.istore_n 0, 1) := by decide +kernel
theorem dJ6_numberOfLeadingZeros_0f7a4_48 : decode cJ6_numberOfLeadingZeros_0f7a4 48 = .ok (.iload_n 0, 1) := by decide +kernel
theorem dJ6_numberOfLeadingZeros_0f7a4_49 : decode cJ6_numberOfLeadingZeros_0f7a4 49 = .ok (.bipush 16, 2) := by decide +kernel
theorem dJ6_numberOfLeadingZeros_0f7a4_51 : decode cJ6_numberOfLeadingZeros_0f7a4 51 = .ok (.if_icmp .lt 10, 3) := by decide +kernel
theorem dJ6_numberOfLeadingZeros_0f7a4_54 : decode cJ6_numberOfLeadingZeros_0f7a4 54 = .ok (.iinc 1 (-4), 3) := by decide +kernel
theorem dJ6_numberOfLeadingZeros_0f7a4_57 : decode cJ6_numberOfLeadingZeros_0f7a4 57 = .ok (.iload_n 0, 1) := by decide +kernel
theorem dJ6_numberOfLeadingZeros_0f7a4_58 : decode cJ6_numberOfLeadingZeros_0f7a4 58 = .ok (.iconst 4, 1) := by decide +kernel
theorem dJ6_numberOfLeadingZeros_0f7a4_59 : decode cJ6_numberOfLeadingZeros_0f7a4 59 = .ok (.iushr, 1) := by decide +kernel
theorem dJ6_numberOfLeadingZeros_0f7a4_60 : decode cJ6_numberOfLeadingZeros_0f7a4 60 = .ok (.istore_n 0, 1) := by decide +kernel
theorem dJ6_numberOfLeadingZeros_0f7a4_61 : decode cJ6_numberOfLeadingZeros_0f7a4 61 = .ok (.iload_n 0, 1) := by decide +kernel
theorem dJ6_numberOfLeadingZeros_0f7a4_62 : decode cJ6_numberOfLeadingZeros_0f7a4 62 = .ok (.iconst 4, 1) := by decide +kernel
theorem dJ6_numberOfLeadingZeros_0f7a4_63 : decode cJ6_numberOfLeadingZeros_0f7a4 63 = .ok (.if_icmp .lt 10, 3) := by decide +kernel
theorem dJ6_numberOfLeadingZeros_0f7a4_66 : decode cJ6_numberOfLeadingZeros_0f7a4 66 = .ok (.iinc 1 (-2), 3) := by decide +kernel
theorem dJ6_numberOfLeadingZeros_0f7a4_69 : decode cJ6_numberOfLeadingZeros_0f7a4 69 = .ok (.iload_n 0, 1) := by decide +kernel
theorem dJ6_numberOfLeadingZeros_0f7a4_70 : decode cJ6_numberOfLeadingZeros_0f7a4 70 = .ok (.iconst 2, 1) := by decide +kernel
theorem dJ6_numberOfLeadingZeros_0f7a4_71 : decode cJ6_numberOfLeadingZeros_0f7a4 71 = .ok (.iushr, 1) := by decide +kernel
theorem dJ6_numberOfLeadingZeros_0f7a4_72 : decode cJ6_numberOfLeadingZeros_0f7a4 72 = .ok (.istore_n 0, 1) := by decide +kernel
theorem dJ6_numberOfLeadingZeros_0f7a4_73 : decode cJ6_numberOfLeadingZeros_0f7a4 73 = .ok (.iload_n 1, 1) := by decide +kernel
theorem dJ6_numberOfLeadingZeros_0f7a4_74 : decode cJ6_numberOfLeadingZeros_0f7a4 74 = .ok (.iload_n 0, 1) := by decide +kernel
theorem dJ6_numberOfLeadingZeros_0f7a4_75 : decode cJ6_numberOfLeadingZeros_0f7a4 75 = .ok (.iconst 1, 1) := by decide +kernel
theorem dJ6_numberOfLeadingZeros_0f7a4_76 : decode cJ6_numberOfLeadingZeros_0f7a4 76 = .ok (.iushr, 1) := by decide +kernel
theorem dJ6_numberOfLeadingZeros_0f7a4_77 : decode cJ6_numberOfLeadingZeros_0f7a4 77 = .ok (.isub, 1) := by decide +kernel
theorem dJ6_numberOfLeadingZeros_0f7a4_78 : decode cJ6_numberOfLeadingZeros_0f7a4 78 = .ok (.ireturn, 1) := by decide +kernel
theorem dJ6_numberOfTrailingZeros_0f7a4_0 : decode cJ6_numberOfTrailingZeros_0f7a4 0 = .ok (.iload_n 0, 1) := by decide +kernel
theorem dJ6_numberOfTrailingZeros_0f7a4_1 : decode cJ6_numberOfTrailingZeros_0f7a4 1 = .ok (.iconst (-1), 1) := by decide +kernel
theorem dJ6_numberOfTrailingZeros_0f7a4_2 : decode cJ6_numberOfTrailingZeros_0f7a4 2 = .ok (.ixor, 1) := by decide +kernel
theorem dJ6_numberOfTrailingZeros_0f7a4_3 : decode cJ6_numberOfTrailingZeros_0f7a4 3 = .ok (.iload_n 0, 1) := by decide +kernel
theorem dJ6_numberOfTrailingZeros_0f7a4_4 : decode cJ6_numberOfTrailingZeros_0f7a4 4 = .ok (.iconst 1, 1) := by decide +kernel
theorem dJ6_numberOfTrailingZeros_0f7a4_5 : decode cJ6_numberOfTrailingZeros_0f7a4 5 = .ok (.isub, 1) := by decide +kernel
theorem dJ6_numberOfTrailingZeros_0f7a4_6 : decode cJ6_numberOfTrailingZeros_0f7a4 6 = .ok (.iand, 1) := by decide +kernel
theorem dJ6_numberOfTrailingZeros_0f7a4_7 : decode cJ6_numberOfTrailingZeros_0f7a4 7 = .ok (.istore_n 0, 1) := by decide +kernel
theorem dJ6_numberOfTrailingZeros_0f7a4_8 : decode cJ6_numberOfTrailingZeros_0f7a4 8 = .ok (.iload_n 0, 1) := by decide +kernel
theorem dJ6_numberOfTrailingZeros_0f7a4_9 : decode cJ6_numberOfTrailingZeros_0f7a4 9 = .ok (.ifCond .gt 8, 3) := by decide +kernel
theorem dJ6_numberOfTrailingZeros_0f7a4_12 : decode cJ6_numberOfTrailingZeros_0f7a4 12 = .ok (.iload_n 0, 1) := by decide +kernel
theorem dJ6_numberOfTrailingZeros_0f7a4_13 : decode cJ6_numberOfTrailingZeros_0f7a4 13 = .ok (.bipush 32, 2) := by decide +kernel
theorem dJ6_numberOfTrailingZeros_0f7a4_15 : decode cJ6_numberOfTrailingZeros_0f7a4 15 = .ok (.iand, 1) := by decide +kernel
theorem dJ6_numberOfTrailingZeros_0f7a4_16 : decode cJ6_numberOfTrailingZeros_0f7a4 16 = .ok (.ireturn, 1) := by decide +kernel
theorem dJ6_numberOfTrailingZeros_0f7a4_17 : decode cJ6_numberOfTrailingZeros_0f7a4 17 = .ok (.iconst 1, 1) := by decide +kernel
theorem dJ6_numberOfTrailingZeros_0f7a4_18 : decode cJ6_numberOfTrailingZeros_0f7a4 18 = .ok (.istore_n 1, 1) := by decide +kernel
theorem dJ6_numberOfTrailingZeros_0f7a4_19 : decode cJ6_numberOfTrailingZeros_0f7a4 19 = .ok (.iload_n 0, 1) := by decide +kernel
theorem dJ6_numberOfTrailingZeros_0f7a4_20 : decode cJ6_numberOfTrailingZeros_0f7a4 20 = .ok (.ldc_w 264, 3) := by decide +kernel
theorem dJ6_numberOfTrailingZeros_0f7a4_23 : decode cJ6_numberOfTrailingZeros_0f7a4 23 = .ok (.if_icmp .le 11, 3) := by decide +kernel
theorem dJ6_numberOfTrailingZeros_0f7a4_26 : decode cJ6_numberOfTrailingZeros_0f7a4 26 = .ok (.iinc 1 16, 3) := by decide +kernel
theorem dJ6_numberOfTrailingZeros_0f7a4_29 : decode cJ6_numberOfTrailingZeros_0f7a4 29 = .ok (.iload_n 0, 1) := by decide +kernel
theorem dJ6_numberOfTrailingZeros_0f7a4_30 : decode cJ6_numberOfTrailingZeros_0f7a4 30 = .ok (.bipush 16, 2) := by decide +kernel
theorem dJ6_numberOfTrailingZeros_0f7a4_32 : decode cJ6_numberOfTrailingZeros_0f7a4 32 = .ok (.iushr, 1) := by decide +kernel
theorem dJ6_numberOfTrailingZeros_0f7a4_33 : decode cJ6_numberOfTrailingZeros_0f7a4 33 = .ok (.istore_n 0, 1) := by decide +kernel
theorem dJ6_numberOfTrailingZeros_0f7a4_34 : decode cJ6_numberOfTrailingZeros_0f7a4 34 = .ok (.iload_n 0, 1) := by decide +kernel
theorem dJ6_numberOfTrailingZeros_0f7a4_35 : decode cJ6_numberOfTrailingZeros_0f7a4 35 = .ok (.sipush 256, 3) := by decide +kernel
theorem dJ6_numberOfTrailingZeros_0f7a4_38 : decode cJ6_numberOfTrailingZeros_0f7a4 38 = .ok (.if_icmp .le 11, 3) := by decide +kernel
theorem dJ6_numberOfTrailingZeros_0f7a4_41 : decode cJ6_numberOfTrailingZeros_0f7a4 41 = .ok (.iinc 1 8, 3) := by decide +kernel
theorem dJ6_numberOfTrailingZeros_0f7a4_44 : decode cJ6_numberOfTrailingZeros_0f7a4 44 = .ok (.iload_n 0, 1) := by decide +kernel
theorem dJ6_numberOfTrailingZeros_0f7a4_45 : decode cJ6_numberOfTrailingZeros_0f7a4 45 = .ok (.bipush 8, 2) := by decide +kernel
theorem dJ6_numberOfTrailingZeros_0f7a4_47 : decode cJ6_numberOfTrailingZeros_0f7a4 47 = .ok (.iushr, 1) := by decide +kernel
theorem dJ6_numberOfTrailingZeros_0f7a4_48 : decode cJ6_numberOfTrailingZeros_0f7a4 48 = .ok (.istore_n 0, 1) := by decide +kernel
theorem dJ6_numberOfTrailingZeros_0f7a4_49 : decode cJ6_numberOfTrailingZeros_0f7a4 49 = .ok (.iload_n 0, 1) := by decide +kernel
theorem dJ6_numberOfTrailingZeros_0f7a4_50 : decode cJ6_numberOfTrailingZeros_0f7a4 50 = .ok (.bipush 16, 2) := by decide +kernel
theorem dJ6_numberOfTrailingZeros_0f7a4_52 : decode cJ6_numberOfTrailingZeros_0f7a4 52 = .ok (.if_icmp .le 10, 3) := by decide +kernel
theorem dJ6_numberOfTrailingZeros_0f7a4_55 : decode cJ6_numberOfTrailingZeros_0f7a4 55 = .ok (.iinc 1 4, 3) := by decide +kernel
theorem dJ6_numberOfTrailingZeros_0f7a4_58 : decode cJ6_numberOfTrailingZeros_0f7a4 58 = .ok (.iload_n 0, 1) := by decide +kernel
theorem dJ6_numberOfTrailingZeros_0f7a4_59 : decode cJ6_numberOfTrailingZeros_0f7a4 59 = .ok (.iconst 4, 1) := by decide +kernel
theorem dJ6_numberOfTrailingZeros_0f7a4_60 : decode cJ6_numberOfTrailingZeros_0f7a4 60 = .ok (.iushr, 1) := by decide +kernel
theorem dJ6_numberOfTrailingZeros_0f7a4_61 : decode cJ6_numberOfTrailingZeros_0f7a4 61 = .ok (.istore_n 0, 1) := by decide +kernel
theorem dJ6_numberOfTrailingZeros_0f7a4_62 : decode cJ6_numberOfTrailingZeros_0f7a4 62 = .ok (.iload_n 0, 1) := by decide +kernel
theorem dJ6_numberOfTrailingZeros_0f7a4_63 : decode cJ6_numberOfTrailingZeros_0f7a4 63 = .ok (.iconst 4, 1) := by decide +kernel
theorem dJ6_numberOfTrailingZeros_0f7a4_64 : decode cJ6_numberOfTrailingZeros_0f7a4 64 = .ok (.if_icmp .le 10, 3) := by decide +kernel
theorem dJ6_numberOfTrailingZeros_0f7a4_67 : decode cJ6_numberOfTrailingZeros_0f7a4 67 = .ok (.iinc 1 2, 3) := by decide +kernel
theorem dJ6_numberOfTrailingZeros_0f7a4_70 : decode cJ6_numberOfTrailingZeros_0f7a4 70 = .ok (.iload_n 0, 1) := by decide +kernel
theorem dJ6_numberOfTrailingZeros_0f7a4_71 : decode cJ6_numberOfTrailingZeros_0f7a4 71 = .ok (.iconst 2, 1) := by decide +kernel
theorem dJ6_numberOfTrailingZeros_0f7a4_72 : decode cJ6_numberOfTrailingZeros_0f7a4 72 = .ok (.iushr, 1) := by decide +kernel
theorem dJ6_numberOfTrailingZeros_0f7a4_73 : decode cJ6_numberOfTrailingZeros_0f7a4 73 = .ok (.istore_n 0, 1) := by decide +kernel
theorem dJ6_numberOfTrailingZeros_0f7a4_74 : decode cJ6_numberOfTrailingZeros_0f7a4 74 = .ok (.iload_n 1, 1) := by decide +kernel
theorem dJ6_numberOfTrailingZeros_0f7a4_75 : decode cJ6_numberOfTrailingZeros_0f7a4 75 = .ok (.iload_n 0, 1) := by decide +kernel
theorem dJ6_numberOfTrailingZeros_0f7a4_76 : decode cJ6_numberOfTrailingZeros_0f7a4 76 = .ok (.iconst 1, 1) := by decide +kernel
theorem dJ6_numberOfTrailingZeros_0f7a4_77 : decode cJ6_numberOfTrailingZeros_0f7a4 77 = .ok (.iushr, 1) := by decide +kernel
theorem dJ6_numberOfTrailingZeros_0f7a4_78 : decode cJ6_numberOfTrailingZeros_0f7a4 78 = .ok (.iadd, 1) := by decide +kernel
theorem dJ6_numberOfTrailingZeros_0f7a4_79 : decode cJ6_numberOfTrailingZeros_0f7a4 79 = .ok (.ireturn, 1) := by decide +kernel
theorem dJ13_numberOfLeadingZeros_95d88_0 : decode cJ13_numberOfLeadingZeros_95d88 0 = .ok (.lload_n 0, 1) := by decide +kernel
theorem dJ13_numberOfLeadingZeros_95d88_1 : decode cJ13_numberOfLeadingZeros_95d88 1 = .ok (.bipush 32, 2) := by decide +kernel
theorem dJ13_numberOfLeadingZeros_95d88_3 : decode cJ13_numberOfLeadingZeros_95d88 3 = .ok (.lushr, 1) := by decide +kernel
theorem dJ13_numberOfLeadingZeros_95d88_4 : decode cJ13_numberOfLeadingZeros_95d88 4 = .ok (.l2i, 1) := by decide +kernel
theorem dJ13_numberOfLeadingZeros_95d88_5 : decode cJ13_numberOfLeadingZeros_95d88 5 = .ok (.istore_n 2, 1) := by decide +kernel
theorem dJ13_numberOfLeadingZeros_95d88_6 : decode cJ13_numberOfLeadingZeros_95d88 6 = .ok (.iload_n 2, 1) := by decide +kernel
theorem dJ13_numberOfLeadingZeros_95d88_7 : decode cJ13_numberOfLeadingZeros_95d88 7 = .ok (.ifCond .ne 14, 3) := by decide +kernel
theorem dJ13_numberOfLeadingZeros_95d88_10 : decode cJ13_numberOfLeadingZeros_95d88 10 = .ok (.bipush 32, 2) := by decide +kernel
theorem dJ13_numberOfLeadingZeros_95d88_12 : decode cJ13_numberOfLeadingZeros_95d88 12 = .ok (.lload_n 0, 1) := by decide +kernel
theorem dJ13_numberOfLeadingZeros_95d88_13 : decode cJ13_numberOfLeadingZeros_95d88 13 = .ok (.l2i, 1) := by decide +kernel
theorem dJ13_numberOfLeadingZeros_95d88_14 : decode cJ13_numberOfLeadingZeros_95d88 14 = .ok (.invokestatic 308, 3) := by decide +kernel
theorem dJ13_numberOfLeadingZeros_95d88_17 : decode cJ13_numberOfLeadingZeros_95d88 17 = .ok (.iadd, 1) := by decide +kernel
theorem dJ13_numberOfLeadingZeros_95d88_18 : decode cJ13_numberOfLeadingZeros_95d88 18 = .ok (.goto 7, 3) := by decide +kernel
theorem dJ13_numberOfLeadingZeros_95d88_21 : decode cJ13_numberOfLeadingZeros_95d88 21 = .ok (.iload_n 2, 1) := by decide +kernel
theorem dJ13_numberOfLeadingZeros_95d88_22 : decode cJ13_numberOfLeadingZeros_95d88 22 = .ok (.invokestatic 308, 3) := by decide +kernel
theorem dJ13_numberOfLeadingZeros_95d88_25 : decode cJ13_numberOfLeadingZeros_95d88 25 = .ok (.ireturn, 1) := by decide +kernel
theorem dJ13_numberOfTrailingZeros_95d88_0 : decode cJ13_numberOfTrailingZeros_95d88 0 = .ok (.lload_n 0, 1) := by decide +kernel
theorem dJ13_numberOfTrailingZeros_95d88_1 : decode cJ13_numberOfTrailingZeros_95d88 1 = .ok (.l2i, 1) := by decide +kernel
theorem dJ13_numberOfTrailingZeros_95d88_2 : decode cJ13_numberOfTrailingZeros_95d88 2 = .ok (.istore_n 2, 1) := by decide +kernel
theorem dJ13_numberOfTrailingZeros_95d88_3 : decode cJ13_numberOfTrailingZeros_95d88 3 = .ok (.iload_n 2, 1) := by decide +kernel
theorem dJ13_numberOfTrailingZeros_95d88_4 : decode cJ13_numberOfTrailingZeros_95d88 4 = .ok (.ifCond .ne 17, 3) := by decide +kernel
theorem dJ13_numberOfTrailingZeros_95d88_7 : decode cJ13_numberOfTrailingZeros_95d88 7 = .ok (.bipush 32, 2) := by decide +kernel
theorem dJ13_numberOfTrailingZeros_95d88_9 : decode cJ13_numberOfTrailingZeros_95d88 9 = .ok (.lload_n 0, 1) := by decide +kernel
theorem dJ13_numberOfTrailingZeros_95d88_10 : decode cJ13_numberOfTrailingZeros_95d88 10 = .ok (.bipush 32, 2) := by decide +kernel
theorem dJ13_numberOfTrailingZeros_95d88_12 : decode cJ13_numberOfTrailingZeros_95d88 12 = .ok (.lushr, 1) := by decide +kernel
theorem dJ13_numberOfTrailingZeros_95d88_13 : decode cJ13_numberOfTrailingZeros_95d88 13 = .ok (.l2i, 1) := by decide +kernel
theorem dJ13_numberOfTrailingZeros_95d88_14 : decode cJ13_numberOfTrailingZeros_95d88 14 = .ok (.invokestatic 311, 3) := by decide +kernel
theorem dJ13_numberOfTrailingZeros_95d88_17 : decode cJ13_numberOfTrailingZeros_95d88 17 = .ok (.iadd, 1) := by decide +kernel
theorem dJ13_numberOfTrailingZeros_95d88_18 : decode cJ13_numberOfTrailingZeros_95d88 18 = .ok (.goto 7, 3) := by decide +kernel
theorem dJ13_numberOfTrailingZeros_95d88_21 : decode cJ13_numberOfTrailingZeros_95d88 21 = .ok (.iload_n 2, 1) := by decide +kernel
theorem dJ13_numberOfTrailingZeros_95d88_22 : decode cJ13_numberOfTrailingZeros_95d88 22 = .ok (.invokestatic 311, 3) := by decide +kernel
theorem dJ13_numberOfTrailingZeros_95d88_25 : decode cJ13_numberOfTrailingZeros_95d88 25 = .ok (.ireturn, 1) := by decide +kernel
theorem dJ7_fill_d0a16_0 : decode cJ7_fill_d0a16 0 = .ok (.iconst 0, 1) := by decide +kernel
theorem dJ7_fill_d0a16_1 : decode cJ7_fill_d0a16 1 = .ok (.istore_n 3, 1) := by decide +kernel
theorem dJ7_fill_d0a16_2 : decode cJ7_fill_d0a16 2 = .ok (.aload_n 0, 1) := by decide +kernel
theorem dJ7_fill_d0a16_3 : decode cJ7_fill_d0a16 3 = .ok (.arraylength, 1) := by decide +kernel
theorem dJ7_fill_d0a16_4 : decode cJ7_fill_d0a16 4 = .ok (.istore 4, 2) := by decide +kernel
theorem dJ7_fill_d0a16_6 : decode cJ7_fill_d0a16 6 = .ok (.iload_n 3, 1) := by decide +kernel
theorem dJ7_fill_d0a16_7 : decode cJ7_fill_d0a16 7 = .ok (.iload 4, 2) := by decide +kernel
theorem dJ7_fill_d0a16_9 : decode cJ7_fill_d0a16 9 = .ok (.if_icmp .ge 13, 3) := by decide +kernel
theorem dJ7_fill_d0a16_12 : decode cJ7_fill_d0a16 12 = .ok (.aload_n 0, 1) := by decide +kernel
theorem dJ7_fill_d0a16_13 : decode cJ7_fill_d0a16 13 = .ok (.iload_n 3, 1) := by decide +kernel
theorem dJ7_fill_d0a16_14 : decode cJ7_fill_d0a16 14 = .ok (.lload_n 1, 1) := by decide +kernel
theorem dJ7_fill_d0a16_15 : decode cJ7_fill_d0a16 15 = .ok (.lastore, 1) := by decide +kernel
theorem dJ7_fill_d0a16_16 : decode cJ7_fill_d0a16 16 = .ok (.iinc 3 1, 3) := by decide +kernel
theorem dJ7_fill_d0a16_19 : decode cJ7_fill_d0a16 19 = .ok (.goto (-13), 3) := by decide +kernel
theorem dJ7_fill_d0a16_22 : decode cJ7_fill_d0a16 22 = .ok (.return_, 1) := by decide +kernel
