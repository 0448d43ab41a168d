theorem dM0_init_0 : decode cM0_init 0 = .ok (.aload_n 0, 1) := by decide +kernel
theorem dM0_init_1 : decode cM0_init 1 = .ok (.invokespecial 1, 3) := by decide +kernel
theorem dM0_init_4 : decode cM0_init 4 = .ok (.aload_n 0, 1) := by decide +kernel
theorem dM0_init_5 : decode cM0_init 5 = .ok (.sipush 10240, 3) := by decide +kernel
theorem dM0_init_8 : decode cM0_init 8 = .ok (.newarray .int, 2) := by decide +kernel
theorem dM0_init_10 : decode cM0_init 10 = .ok (.putfield 7, 3) := by decide +kernel
theorem dM0_init_13 : decode cM0_init 13 = .ok (.aload_n 0, 1) := by decide +kernel
theorem dM0_init_14 : decode cM0_init 14 = .ok (.bipush 64, 2) := by decide +kernel
theorem dM0_init_16 : decode cM0_init 16 = .ok (.newarray .boolean, 2) := by decide +kernel
theorem dM0_init_18 : decode cM0_init 18 = .ok (.putfield 13, 3) := by decide +kernel
theorem dM0_init_21 : decode cM0_init 21 = .ok (.aload_n 0, 1) := by decide +kernel
theorem dM0_init_22 : decode cM0_init 22 = .ok (.sipush 330, 3) := by decide +kernel
theorem dM0_init_25 : decode cM0_init 25 = .ok (.newarray .int, 2) := by decide +kernel
theorem dM0_init_27 : decode cM0_init 27 = .ok (.putfield 17, 3) := by decide +kernel
theorem dM0_init_30 : decode cM0_init 30 = .ok (.aload_n 0, 1) := by decide +kernel
theorem dM0_init_31 : decode cM0_init 31 = .ok (.sipush 330, 3) := by decide +kernel
theorem dM0_init_34 : decode cM0_init 34 = .ok (.newarray .int, 2) := by decide +kernel
theorem dM0_init_36 : decode cM0_init 36 = .ok (.putfield 20, 3) := by decide +kernel
theorem dM0_init_39 : decode cM0_init 39 = .ok (.aload_n 0, 1) := by decide +kernel
theorem dM0_init_40 : decode cM0_init 40 = .ok (.sipush 330, 3) := by decide +kernel
theorem dM0_init_43 : decode cM0_init 43 = .ok (.newarray .int, 2) := by decide +kernel
theorem dM0_init_45 : decode cM0_init 45 = .ok (.putfield 23, 3) := by decide +kernel
theorem dM0_init_48 : decode cM0_init 48 = .ok (.aload_n 0, 1) := by decide +kernel
theorem dM0_init_49 : decode cM0_init 49 = .ok (.sipush 330, 3) := by decide +kernel
theorem dM0_init_52 : decode cM0_init 52 = .ok (.newarray .int, 2) := by decide +kernel
theorem dM0_init_54 : decode cM0_init 54 = .ok (.putfield 26, 3) := by decide +kernel
theorem dM0_init_57 : decode cM0_init 57 = .ok (.aload_n 0, 1) := by decide +kernel
theorem dM0_init_58 : decode cM0_init 58 = .ok (.sipush 330, 3) := by decide +kernel
theorem dM0_init_61 : decode cM0_init 61 = .ok (.newarray .int, 2) := by decide +kernel
theorem dM0_init_63 : decode cM0_init 63 = .ok (.putfield 29, 3) := by decide +kernel
theorem dM0_init_66 : decode cM0_init 66 = .ok (.aload_n 0, 1) := by decide +kernel
theorem dM0_init_67 : decode cM0_init 67 = .ok (.sipush 514, 3) := by decide +kernel
theorem dM0_init_70 : decode cM0_init 70 = .ok (.newarray .int, 2) := by decide +kernel
theorem dM0_init_72 : decode cM0_init 72 = .ok (.putfield 32, 3) := by decide +kernel
theorem dM0_init_75 : decode cM0_init 75 = .ok (.aload_n 0, 1) := by decide +kernel
theorem dM0_init_76 : decode cM0_init 76 = .ok (.sipush 514, 3) := by decide +kernel
theorem dM0_init_79 : decode cM0_init 79 = .ok (.newarray .int, 2) := by decide +kernel
theorem dM0_init_81 : decode cM0_init 81 = .ok (.putfield 35, 3) := by decide +kernel
theorem dM0_init_84 : decode cM0_init 84 = .ok (.aload_n 0, 1) := by decide +kernel
theorem dM0_init_85 : decode cM0_init 85 = .ok (.sipush 1000, 3) := by decide +kernel
theorem dM0_init_88 : decode cM0_init 88 = .ok (.newarray .int, 2) := by decide +kernel
theorem dM0_init_90 : decode cM0_init 90 = .ok (.putfield 38, 3) := by decide +kernel
theorem dM0_init_93 : decode cM0_init 93 = .ok (.aload_n 0, 1) := by decide +kernel
theorem dM0_init_94 : decode cM0_init 94 = .ok (.sipush 520, 3) := by decide +kernel
theorem dM0_init_97 : decode cM0_init 97 = .ok (.newarray .int, 2) := by decide +kernel
theorem dM0_init_99 : decode cM0_init 99 = .ok (.putfield 41, 3) := by decide +kernel
theorem dM0_init_102 : decode cM0_init 102 = .ok (.aload_n 0, 1) := by decide +kernel
theorem dM0_init_103 : decode cM0_init 103 = .ok (.getfield 17, 3) := by decide +kernel
theorem dM0_init_106 : decode cM0_init 106 = .ok (.sipush 512, 3) := by decide +kernel
theorem dM0_init_109 : decode cM0_init 109 = .ok (.invokestatic 44, 3) := by decide +kernel
theorem dM0_init_112 : decode cM0_init 112 = .ok (.return_, 1) := by decide +kernel
theorem dM0_power_0 : decode cM0_power 0 = .ok (.aload_n 0, 1) := by decide +kernel
theorem dM0_power_1 : decode cM0_power 1 = .ok (.invokestatic 52, 3) := by decide +kernel
theorem dM0_power_4 : decode cM0_power 4 = .ok (.aload_n 0, 1) := by decide +kernel
theorem dM0_power_5 : decode cM0_power 5 = .ok (.iconst 0, 1) := by decide +kernel
theorem dM0_power_6 : decode cM0_power 6 = .ok (.iconst 1, 1) := by decide +kernel
theorem dM0_power_7 : decode cM0_power 7 = .ok (.iastore, 1) := by decide +kernel
theorem dM0_power_8 : decode cM0_power 8 = .ok (.iconst 0, 1) := by decide +kernel
theorem dM0_power_9 : decode cM0_power 9 = .ok (.istore_n 2, 1) := by decide +kernel
theorem dM0_power_10 : decode cM0_power 10 = .ok (.iload_n 2, 1) := by decide +kernel
theorem dM0_power_11 : decode cM0_power 11 = .ok (.iload_n 1, 1) := by decide +kernel
theorem dM0_power_12 : decode cM0_power 12 = .ok (.if_icmp .ge 15, 3) := by decide +kernel
theorem dM0_power_15 : decode cM0_power 15 = .ok (.aload_n 0, 1) := by decide +kernel
theorem dM0_power_16 : decode cM0_power 16 = .ok (.iconst 2, 1) := by decide +kernel
theorem dM0_power_17 : decode cM0_power 17 = .ok (.iconst 0, 1) := by decide +kernel
theorem dM0_power_18 : decode cM0_power 18 = .ok (.invokestatic 56, 3) := by decide +kernel
theorem dM0_power_21 : decode cM0_power 21 = .ok (.iinc 2 1, 3) := by decide +kernel
theorem dM0_power_24 : decode cM0_power 24 = .ok (.goto (-14), 3) := by decide +kernel
theorem dM0_power_27 : decode cM0_power 27 = .ok (.return_, 1) := by decide +kernel
theorem dM0_clear_0 : decode cM0_clear 0 = .ok (.iconst 0, 1) := by decide +kernel
theorem dM0_clear_1 : decode cM0_clear 1 = .ok (.istore_n 1, 1) := by decide +kernel
theorem dM0_clear_2 : decode cM0_clear 2 = .ok (.iload_n 1, 1) := by decide +kernel
theorem dM0_clear_3 : decode cM0_clear 3 = .ok (.sipush 330, 3) := by decide +kernel
theorem dM0_clear_6 : decode cM0_clear 6 = .ok (.if_icmp .ge 13, 3) := by decide +kernel
theorem dM0_clear_9 : decode cM0_clear 9 = .ok (.aload_n 0, 1) := by decide +kernel
theorem dM0_clear_10 : decode cM0_clear 10 = .ok (.iload_n 1, 1) := by decide +kernel
theorem dM0_clear_11 : decode cM0_clear 11 = .ok (.iconst 0, 1) := by decide +kernel
theorem dM0_clear_12 : decode cM0_clear 12 = .ok (.iastore, 1) := by decide +kernel
theorem dM0_clear_13 : decode cM0_clear 13 = .ok (.iinc 1 1, 3) := by decide +kernel
theorem dM0_clear_16 : decode cM0_clear 16 = .ok (.goto (-14), 3) := by decide +kernel
theorem dM0_clear_19 : decode cM0_clear 19 = .ok (.return_, 1) := by decide +kernel
theorem dM0_grow_0 : decode cM0_grow 0 = .ok (.iload_n 2, 1) := by decide +kernel
theorem dM0_grow_1 : decode cM0_grow 1 = .ok (.istore_n 3, 1) := by decide +kernel
theorem dM0_grow_2 : decode cM0_grow 2 = .ok (.iconst 0, 1) := by decide +kernel
theorem dM0_grow_3 : decode cM0_grow 3 = .ok (.istore 4, 2) := by decide +kernel
theorem dM0_grow_5 : decode cM0_grow 5 = .ok (.iload 4, 2) := by decide +kernel
theorem dM0_grow_7 : decode cM0_grow 7 = .ok (.sipush 330, 3) := by decide +kernel
theorem dM0_grow_10 : decode cM0_grow 10 = .ok (.if_icmp .ge 34, 3) := by decide +kernel
theorem dM0_grow_13 : decode cM0_grow 13 = .ok (.aload_n 0, 1) := by decide +kernel
theorem dM0_grow_14 : decode cM0_grow 14 = .ok (.iload 4, 2) := by decide +kernel
theorem dM0_grow_16 : decode cM0_grow 16 = .ok (.iaload, 1) := by decide +kernel
theorem dM0_grow_17 : decode cM0_grow 17 = .ok (.iload_n 1, 1) := by decide +kernel
theorem dM0_grow_18 : decode cM0_grow 18 = .ok (.imul, 1) := by decide +kernel
theorem dM0_grow_19 : decode cM0_grow 19 = .ok (.iload_n 3, 1) := by decide +kernel
theorem dM0_grow_20 : decode cM0_grow 20 = .ok (.iadd, 1) := by decide +kernel
theorem dM0_grow_21 : decode cM0_grow 21 = .ok (.istore 5, 2) := by decide +kernel
theorem dM0_grow_23 : decode cM0_grow 23 = .ok (.aload_n 0, 1) := by decide +kernel
theorem dM0_grow_24 : decode cM0_grow 24 = .ok (.iload 4, 2) := by decide +kernel
theorem dM0_grow_26 : decode cM0_grow 26 = .ok (.iload 5, 2) := by decide +kernel
theorem dM0_grow_28 : decode cM0_grow 28 = .ok (.bipush 10, 2) := by decide +kernel
theorem dM0_grow_30 : decode cM0_grow 30 = .ok (.irem, 1) := by decide +kernel
theorem dM0_grow_31 : decode cM0_grow 31 = .ok (.iastore, 1) := by decide +kernel
theorem dM0_grow_32 : decode cM0_grow 32 = .ok (.iload 5, 2) := by decide +kernel
theorem dM0_grow_34 : decode cM0_grow 34 = .ok (.bipush 10, 2) := by decide +kernel
theorem dM0_grow_36 : decode cM0_grow 36 = .ok (.idiv, 1) := by decide +kernel
theorem dM0_grow_37 : decode cM0_grow 37 = .ok (.istore_n 3, 1) := by decide +kernel
theorem dM0_grow_38 : decode cM0_grow 38 = .ok (.iinc 4 1, 3) := by decide +kernel
theorem dM0_grow_41 : decode cM0_grow 41 = .ok (.goto (-36), 3) := by decide +kernel
theorem dM0_grow_44 : decode cM0_grow 44 = .ok (.return_, 1) := by decide +kernel
theorem dM0_set_0 : decode cM0_set 0 = .ok (.aload_n 0, 1) := by decide +kernel
theorem dM0_set_1 : decode cM0_set 1 = .ok (.iconst 0, 1) := by decide +kernel
theorem dM0_set_2 : decode cM0_set 2 = .ok (.putfield 48, 3) := by decide +kernel
theorem dM0_set_5 : decode cM0_set 5 = .ok (.iload_n 1, 1) := by decide +kernel
theorem dM0_set_6 : decode cM0_set 6 = .ok (.invokestatic 82, 3) := by decide +kernel
theorem dM0_set_9 : decode cM0_set 9 = .ok (.ifCond .ne 5, 3) := by decide +kernel
theorem dM0_set_12 : decode cM0_set 12 = .ok (.iconst 3, 1) := by decide +kernel
theorem dM0_set_13 : decode cM0_set 13 = .ok (.ireturn, 1) := by decide +kernel
theorem dM0_set_14 : decode cM0_set 14 = .ok (.aload_n 0, 1) := by decide +kernel
theorem dM0_set_15 : decode cM0_set 15 = .ok (.iload 4, 2) := by decide +kernel
theorem dM0_set_17 : decode cM0_set 17 = .ok (.ifCond .eq 13, 3) := by decide +kernel
theorem dM0_set_20 : decode cM0_set 20 = .ok (.lload_n 2, 1) := by decide +kernel
theorem dM0_set_21 : decode cM0_set 21 = .ok (.lconst 0, 1) := by decide +kernel
theorem dM0_set_22 : decode cM0_set 22 = .ok (.lcmp, 1) := by decide +kernel
theorem dM0_set_23 : decode cM0_set 23 = .ok (.ifCond .ge 7, 3) := by decide +kernel
theorem dM0_set_26 : decode cM0_set 26 = .ok (.iconst 1, 1) := by decide +kernel
theorem dM0_set_27 : decode cM0_set 27 = .ok (.goto 4, 3) := by decide +kernel
theorem dM0_set_30 : decode cM0_set 30 = .ok (.iconst 0, 1) := by decide +kernel
theorem dM0_set_31 : decode cM0_set 31 = .ok (.putfield 75, 3) := by decide +kernel
theorem dM0_set_34 : decode cM0_set 34 = .ok (.aload_n 0, 1) := by decide +kernel
theorem dM0_set_35 : decode cM0_set 35 = .ok (.getfield 26, 3) := by decide +kernel
theorem dM0_set_38 : decode cM0_set 38 = .ok (.invokestatic 52, 3) := by decide +kernel
theorem dM0_set_41 : decode cM0_set 41 = .ok (.aload_n 0, 1) := by decide +kernel
theorem dM0_set_42 : decode cM0_set 42 = .ok (.getfield 75, 3) := by decide +kernel
theorem dM0_set_45 : decode cM0_set 45 = .ok (.ifCond .eq 8, 3) := by decide +kernel
theorem dM0_set_48 : decode cM0_set 48 = .ok (.lload_n 2, 1) := by decide +kernel
theorem dM0_set_49 : decode cM0_set 49 = .ok (.lneg, 1) := by decide +kernel
theorem dM0_set_50 : decode cM0_set 50 = .ok (.goto 4, 3) := by decide +kernel
theorem dM0_set_53 : decode cM0_set 53 = .ok (.lload_n 2, 1) := by decide +kernel
theorem dM0_set_54 : decode cM0_set 54 = .ok (.lstore 5, 2) := by decide +kernel
theorem dM0_set_56 : decode cM0_set 56 = .ok (.bipush 63, 2) := by decide +kernel
theorem dM0_set_58 : decode cM0_set 58 = .ok (.istore 7, 2) := by decide +kernel
theorem dM0_set_60 : decode cM0_set 60 = .ok (.iload 7, 2) := by decide +kernel
theorem dM0_set_62 : decode cM0_set 62 = .ok (.ifCond .lt 25, 3) := by decide +kernel
theorem dM0_set_65 : decode cM0_set 65 = .ok (.aload_n 0, 1) := by decide +kernel
theorem dM0_set_66 : decode cM0_set 66 = .ok (.getfield 26, 3) := by decide +kernel
theorem dM0_set_69 : decode cM0_set 69 = .ok (.iconst 2, 1) := by decide +kernel
theorem dM0_set_70 : decode cM0_set 70 = .ok (.lload 5, 2) := by decide +kernel
theorem dM0_set_72 : decode cM0_set 72 = .ok (.iload 7, 2) := by decide +kernel
theorem dM0_set_74 : decode cM0_set 74 = .ok (.lushr, 1) := by decide +kernel
theorem dM0_set_75 : decode cM0_set 75 = .ok (.lconst 1, 1) := by decide +kernel
theorem dM0_set_76 : decode cM0_set 76 = .ok (.land, 1) := by decide +kernel
theorem dM0_set_77 : decode cM0_set 77 = .ok (.l2i, 1) := by decide +kernel
theorem dM0_set_78 : decode cM0_set 78 = .ok (.invokestatic 56, 3) := by decide +kernel
theorem dM0_set_81 : decode cM0_set 81 = .ok (.iinc 7 (-1), 3) := by decide +kernel
theorem dM0_set_84 : decode cM0_set 84 = .ok (.goto (-24), 3) := by decide +kernel
theorem dM0_set_87 : decode cM0_set 87 = .ok (.aload_n 0, 1) := by decide +kernel
theorem dM0_set_88 : decode cM0_set 88 = .ok (.iload_n 1, 1) := by decide +kernel
theorem dM0_set_89 : decode cM0_set 89 = .ok (.invokevirtual 86, 3) := by decide +kernel
theorem dM0_set_92 : decode cM0_set 92 = .ok (.ireturn, 1) := by decide +kernel
theorem dM0_isSlot_0 : decode cM0_isSlot 0 = .ok (.iload_n 0, 1) := by decide +kernel
theorem dM0_isSlot_1 : decode cM0_isSlot 1 = .ok (.ifCond .lt 13, 3) := by decide +kernel
theorem dM0_isSlot_4 : decode cM0_isSlot 4 = .ok (.iload_n 0, 1) := by decide +kernel
theorem dM0_isSlot_5 : decode cM0_isSlot 5 = .ok (.bipush 64, 2) := by decide +kernel
theorem dM0_isSlot_7 : decode cM0_isSlot 7 = .ok (.if_icmp .ge 7, 3) := by decide +kernel
theorem dM0_isSlot_10 : decode cM0_isSlot 10 = .ok (.iconst 1, 1) := by decide +kernel
theorem dM0_isSlot_11 : decode cM0_isSlot 11 = .ok (.goto 4, 3) := by decide +kernel
theorem dM0_isSlot_14 : decode cM0_isSlot 14 = .ok (.iconst 0, 1) := by decide +kernel
theorem dM0_isSlot_15 : decode cM0_isSlot 15 = .ok (.ireturn, 1) := by decide +kernel
theorem dM0_keep_0 : decode cM0_keep 0 = .ok (.aload_n 0, 1) := by decide +kernel
theorem dM0_keep_1 : decode cM0_keep 1 = .ok (.getfield 26, 3) := by decide +kernel
theorem dM0_keep_4 : decode cM0_keep 4 = .ok (.aload_n 0, 1) := by decide +kernel
theorem dM0_keep_5 : decode cM0_keep 5 = .ok (.getfield 17, 3) := by decide +kernel
theorem dM0_keep_8 : decode cM0_keep 8 = .ok (.invokestatic 71, 3) := by decide +kernel
theorem dM0_keep_11 : decode cM0_keep 11 = .ok (.ifCond .lt 5, 3) := by decide +kernel
theorem dM0_keep_14 : decode cM0_keep 14 = .ok (.iconst 1, 1) := by decide +kernel
theorem dM0_keep_15 : decode cM0_keep 15 = .ok (.ireturn, 1) := by decide +kernel
theorem dM0_keep_16 : decode cM0_keep 16 = .ok (.iconst 0, 1) := by decide +kernel
theorem dM0_keep_17 : decode cM0_keep 17 = .ok (.istore_n 2, 1) := by decide +kernel
theorem dM0_keep_18 : decode cM0_keep 18 = .ok (.iload_n 2, 1) := by decide +kernel
theorem dM0_keep_19 : decode cM0_keep 19 = .ok (.sipush 160, 3) := by decide +kernel
theorem dM0_keep_22 : decode cM0_keep 22 = .ok (.if_icmp .ge 27, 3) := by decide +kernel
theorem dM0_keep_25 : decode cM0_keep 25 = .ok (.aload_n 0, 1) := by decide +kernel
theorem dM0_keep_26 : decode cM0_keep 26 = .ok (.getfield 7, 3) := by decide +kernel
theorem dM0_keep_29 : decode cM0_keep 29 = .ok (.sipush 160, 3) := by decide +kernel
theorem dM0_keep_32 : decode cM0_keep 32 = .ok (.iload_n 1, 1) := by decide +kernel
theorem dM0_keep_33 : decode cM0_keep 33 = .ok (.imul, 1) := by decide +kernel
theorem dM0_keep_34 : decode cM0_keep 34 = .ok (.iload_n 2, 1) := by decide +kernel
theorem dM0_keep_35 : decode cM0_keep 35 = .ok (.iadd, 1) := by decide +kernel
theorem dM0_keep_36 : decode cM0_keep 36 = .ok (.aload_n 0, 1) := by decide +kernel
theorem dM0_keep_37 : decode cM0_keep 37 = .ok (.getfield 26, 3) := by decide +kernel
theorem dM0_keep_40 : decode cM0_keep 40 = .ok (.iload_n 2, 1) := by decide +kernel
theorem dM0_keep_41 : decode cM0_keep 41 = .ok (.iaload, 1) := by decide +kernel
theorem dM0_keep_42 : decode cM0_keep 42 = .ok (.iastore, 1) := by decide +kernel
theorem dM0_keep_43 : decode cM0_keep 43 = .ok (.iinc 2 1, 3) := by decide +kernel
theorem dM0_keep_46 : decode cM0_keep 46 = .ok (.goto (-28), 3) := by decide +kernel
theorem dM0_keep_49 : decode cM0_keep 49 = .ok (.aload_n 0, 1) := by decide +kernel
theorem dM0_keep_50 : decode cM0_keep 50 = .ok (.getfield 13, 3) := by decide +kernel
theorem dM0_keep_53 : decode cM0_keep 53 = .ok (.iload_n 1, 1) := by decide +kernel
theorem dM0_keep_54 : decode cM0_keep 54 = .ok (.aload_n 0, 1) := by decide +kernel
theorem dM0_keep_55 : decode cM0_keep 55 = .ok (.getfield 75, 3) := by decide +kernel
theorem dM0_keep_58 : decode cM0_keep 58 = .ok (.ifCond .eq 17, 3) := by decide +kernel
theorem dM0_keep_61 : decode cM0_keep 61 = .ok (.aload_n 0, 1) := by decide +kernel
theorem dM0_keep_62 : decode cM0_keep 62 = .ok (.getfield 26, 3) := by decide +kernel
theorem dM0_keep_65 : decode cM0_keep 65 = .ok (.invokestatic 78, 3) := by decide +kernel
theorem dM0_keep_68 : decode cM0_keep 68 = .ok (.ifCond .ne 7, 3) := by decide +kernel
theorem dM0_keep_71 : decode cM0_keep 71 = .ok (.iconst 1, 1) := by decide +kernel
theorem dM0_keep_72 : decode cM0_keep 72 = .ok (.goto 4, 3) := by decide +kernel
theorem dM0_keep_75 : decode cM0_keep 75 = .ok (.iconst 0, 1) := by decide +kernel
theorem dM0_keep_76 : decode cM0_keep 76 = .ok (.bastore, 1) := by decide +kernel
theorem dM0_keep_77 : decode cM0_keep 77 = .ok (.iconst 0, 1) := by decide +kernel
theorem dM0_keep_78 : decode cM0_keep 78 = .ok (.ireturn, 1) := by decide +kernel
theorem dM0_order_0 : decode cM0_order 0 = .ok (.sipush 329, 3) := by decide +kernel
theorem dM0_order_3 : decode cM0_order 3 = .ok (.istore_n 2, 1) := by decide +kernel
theorem dM0_order_4 : decode cM0_order 4 = .ok (.iload_n 2, 1) := by decide +kernel
theorem dM0_order_5 : decode cM0_order 5 = .ok (.ifCond .lt 33, 3) := by decide +kernel
theorem dM0_order_8 : decode cM0_order 8 = .ok (.aload_n 0, 1) := by decide +kernel
theorem dM0_order_9 : decode cM0_order 9 = .ok (.iload_n 2, 1) := by decide +kernel
theorem dM0_order_10 : decode cM0_order 10 = .ok (.iaload, 1) := by decide +kernel
theorem dM0_order_11 : decode cM0_order 11 = .ok (.aload_n 1, 1) := by decide +kernel
theorem dM0_order_12 : decode cM0_order 12 = .ok (.iload_n 2, 1) := by decide +kernel
theorem dM0_order_13 : decode cM0_order 13 = .ok (.iaload, 1) := by decide +kernel
theorem dM0_order_14 : decode cM0_order 14 = .ok (.if_icmp .eq 18, 3) := by decide +kernel
theorem dM0_order_17 : decode cM0_order 17 = .ok (.aload_n 0, 1) := by decide +kernel
theorem dM0_order_18 : decode cM0_order 18 = .ok (.iload_n 2, 1) := by decide +kernel
theorem dM0_order_19 : decode cM0_order 19 = .ok (.iaload, 1) := by decide +kernel
theorem dM0_order_20 : decode cM0_order 20 = .ok (.aload_n 1, 1) := by decide +kernel
theorem dM0_order_21 : decode cM0_order 21 = .ok (.iload_n 2, 1) := by decide +kernel
theorem dM0_order_22 : decode cM0_order 22 = .ok (.iaload, 1) := by decide +kernel
theorem dM0_order_23 : decode cM0_order 23 = .ok (.if_icmp .ge 7, 3) := by decide +kernel
theorem dM0_order_26 : decode cM0_order 26 = .ok (.iconst (-1), 1) := by decide +kernel
theorem dM0_order_27 : decode cM0_order 27 = .ok (.goto 4, 3) := by decide +kernel
theorem dM0_order_30 : decode cM0_order 30 = .ok (.iconst 1, 1) := by decide +kernel
theorem dM0_order_31 : decode cM0_order 31 = .ok (.ireturn, 1) := by decide +kernel
theorem dM0_order_32 : decode cM0_order 32 = .ok (.iinc 2 (-1), 3) := by decide +kernel
theorem dM0_order_35 : decode cM0_order 35 = .ok (.goto (-31), 3) := by decide +kernel
theorem dM0_order_38 : decode cM0_order 38 = .ok (.iconst 0, 1) := by decide +kernel
theorem dM0_order_39 : decode cM0_order 39 = .ok (.ireturn, 1) := by decide +kernel
theorem dM0_isZero_0 : decode cM0_isZero 0 = .ok (.iconst 1, 1) := by decide +kernel
theorem dM0_isZero_1 : decode cM0_isZero 1 = .ok (.istore_n 1, 1) := by decide +kernel
theorem dM0_isZero_2 : decode cM0_isZero 2 = .ok (.iconst 0, 1) := by decide +kernel
theorem dM0_isZero_3 : decode cM0_isZero 3 = .ok (.istore_n 2, 1) := by decide +kernel
theorem dM0_isZero_4 : decode cM0_isZero 4 = .ok (.iload_n 2, 1) := by decide +kernel
theorem dM0_isZero_5 : decode cM0_isZero 5 = .ok (.sipush 330, 3) := by decide +kernel
theorem dM0_isZero_8 : decode cM0_isZero 8 = .ok (.if_icmp .ge 25, 3) := by decide +kernel
theorem dM0_isZero_11 : decode cM0_isZero 11 = .ok (.iload_n 1, 1) := by decide +kernel
theorem dM0_isZero_12 : decode cM0_isZero 12 = .ok (.ifCond .eq 13, 3) := by decide +kernel
theorem dM0_isZero_15 : decode cM0_isZero 15 = .ok (.aload_n 0, 1) := by decide +kernel
theorem dM0_isZero_16 : decode cM0_isZero 16 = .ok (.iload_n 2, 1) := by decide +kernel
theorem dM0_isZero_17 : decode cM0_isZero 17 = .ok (.iaload, 1) := by decide +kernel
theorem dM0_isZero_18 : decode cM0_isZero 18 = .ok (.ifCond .ne 7, 3) := by decide +kernel
theorem dM0_isZero_21 : decode cM0_isZero 21 = .ok (.iconst 1, 1) := by decide +kernel
theorem dM0_isZero_22 : decode cM0_isZero 22 = .ok (.goto 4, 3) := by decide +kernel
theorem dM0_isZero_25 : decode cM0_isZero 25 = .ok (.iconst 0, 1) := by decide +kernel
theorem dM0_isZero_26 : decode cM0_isZero 26 = .ok (.istore_n 1, 1) := by decide +kernel
theorem dM0_isZero_27 : decode cM0_isZero 27 = .ok (.iinc 2 1, 3) := by decide +kernel
theorem dM0_isZero_30 : decode cM0_isZero 30 = .ok (.goto (-26), 3) := by decide +kernel
theorem dM0_isZero_33 : decode cM0_isZero 33 = .ok (.iload_n 1, 1) := by decide +kernel
theorem dM0_isZero_34 : decode cM0_isZero 34 = .ok (.ireturn, 1) := by decide +kernel
theorem dM0_digits_0 : decode cM0_digits 0 = .ok (.aload_n 0, 1) := by decide +kernel
theorem dM0_digits_1 : decode cM0_digits 1 = .ok (.iconst 0, 1) := by decide +kernel
theorem dM0_digits_2 : decode cM0_digits 2 = .ok (.putfield 48, 3) := by decide +kernel
theorem dM0_digits_5 : decode cM0_digits 5 = .ok (.iconst 0, 1) := by decide +kernel
theorem dM0_digits_6 : decode cM0_digits 6 = .ok (.istore_n 3, 1) := by decide +kernel
theorem dM0_digits_7 : decode cM0_digits 7 = .ok (.bipush 7, 2) := by decide +kernel
theorem dM0_digits_9 : decode cM0_digits 9 = .ok (.istore 4, 2) := by decide +kernel
theorem dM0_digits_11 : decode cM0_digits 11 = .ok (.iload 4, 2) := by decide +kernel
theorem dM0_digits_13 : decode cM0_digits 13 = .ok (.ifCond .lt 53, 3) := by decide +kernel
theorem dM0_digits_16 : decode cM0_digits 16 = .ok (.lload_n 1, 1) := by decide +kernel
theorem dM0_digits_17 : decode cM0_digits 17 = .ok (.bipush 8, 2) := by decide +kernel
theorem dM0_digits_19 : decode cM0_digits 19 = .ok (.iload 4, 2) := by decide +kernel
theorem dM0_digits_21 : decode cM0_digits 21 = .ok (.imul, 1) := by decide +kernel
theorem dM0_digits_22 : decode cM0_digits 22 = .ok (.lshr, 1) := by decide +kernel
theorem dM0_digits_23 : decode cM0_digits 23 = .ok (.ldc2_w 90, 3) := by decide +kernel
theorem dM0_digits_26 : decode cM0_digits 26 = .ok (.land, 1) := by decide +kernel
theorem dM0_digits_27 : decode cM0_digits 27 = .ok (.l2i, 1) := by decide +kernel
theorem dM0_digits_28 : decode cM0_digits 28 = .ok (.istore 5, 2) := by decide +kernel
theorem dM0_digits_30 : decode cM0_digits 30 = .ok (.iload 5, 2) := by decide +kernel
theorem dM0_digits_32 : decode cM0_digits 32 = .ok (.ifCond .eq 15, 3) := by decide +kernel
theorem dM0_digits_35 : decode cM0_digits 35 = .ok (.iload 5, 2) := by decide +kernel
theorem dM0_digits_37 : decode cM0_digits 37 = .ok (.invokestatic 92, 3) := by decide +kernel
theorem dM0_digits_40 : decode cM0_digits 40 = .ok (.bipush 35, 2) := by decide +kernel
theorem dM0_digits_42 : decode cM0_digits 42 = .ok (.if_icmp .le 5, 3) := by decide +kernel
theorem dM0_digits_45 : decode cM0_digits 45 = .ok (.iconst 0, 1) := by decide +kernel
theorem dM0_digits_46 : decode cM0_digits 46 = .ok (.ireturn, 1) := by decide +kernel
theorem dM0_digits_47 : decode cM0_digits 47 = .ok (.iload_n 3, 1) := by decide +kernel
theorem dM0_digits_48 : decode cM0_digits 48 = .ok (.iload 5, 2) := by decide +kernel
theorem dM0_digits_50 : decode cM0_digits 50 = .ok (.ifCond .ne 7, 3) := by decide +kernel
theorem dM0_digits_53 : decode cM0_digits 53 = .ok (.iconst 0, 1) := by decide +kernel
theorem dM0_digits_54 : decode cM0_digits 54 = .ok (.goto 4, 3) := by decide +kernel
theorem dM0_digits_57 : decode cM0_digits 57 = .ok (.iconst 1, 1) := by decide +kernel
theorem dM0_digits_58 : decode cM0_digits 58 = .ok (.iadd, 1) := by decide +kernel
theorem dM0_digits_59 : decode cM0_digits 59 = .ok (.istore_n 3, 1) := by decide +kernel
theorem dM0_digits_60 : decode cM0_digits 60 = .ok (.iinc 4 (-1), 3) := by decide +kernel
theorem dM0_digits_63 : decode cM0_digits 63 = .ok (.goto (-52), 3) := by decide +kernel
theorem dM0_digits_66 : decode cM0_digits 66 = .ok (.aload_n 0, 1) := by decide +kernel
theorem dM0_digits_67 : decode cM0_digits 67 = .ok (.getfield 95, 3) := by decide +kernel
theorem dM0_digits_70 : decode cM0_digits 70 = .ok (.iload_n 3, 1) := by decide +kernel
theorem dM0_digits_71 : decode cM0_digits 71 = .ok (.iadd, 1) := by decide +kernel
theorem dM0_digits_72 : decode cM0_digits 72 = .ok (.sipush 1000, 3) := by decide +kernel
theorem dM0_digits_75 : decode cM0_digits 75 = .ok (.if_icmp .le 5, 3) := by decide +kernel
theorem dM0_digits_78 : decode cM0_digits 78 = .ok (.iconst 0, 1) := by decide +kernel
theorem dM0_digits_79 : decode cM0_digits 79 = .ok (.ireturn, 1) := by decide +kernel
theorem dM0_digits_80 : decode cM0_digits 80 = .ok (.bipush 7, 2) := by decide +kernel
theorem dM0_digits_82 : decode cM0_digits 82 = .ok (.istore 4, 2) := by decide +kernel
theorem dM0_digits_84 : decode cM0_digits 84 = .ok (.iload 4, 2) := by decide +kernel
theorem dM0_digits_86 : decode cM0_digits 86 = .ok (.ifCond .lt 55, 3) := by decide +kernel
theorem dM0_digits_89 : decode cM0_digits 89 = .ok (.lload_n 1, 1) := by decide +kernel
theorem dM0_digits_90 : decode cM0_digits 90 = .ok (.bipush 8, 2) := by decide +kernel
theorem dM0_digits_92 : decode cM0_digits 92 = .ok (.iload 4, 2) := by decide +kernel
theorem dM0_digits_94 : decode cM0_digits 94 = .ok (.imul, 1) := by decide +kernel
theorem dM0_digits_95 : decode cM0_digits 95 = .ok (.lshr, 1) := by decide +kernel
theorem dM0_digits_96 : decode cM0_digits 96 = .ok (.ldc2_w 90, 3) := by decide +kernel
theorem dM0_digits_99 : decode cM0_digits 99 = .ok (.land, 1) := by decide +kernel
theorem dM0_digits_100 : decode cM0_digits 100 = .ok (.l2i, 1) := by decide +kernel
theorem dM0_digits_101 : decode cM0_digits 101 = .ok (.istore 5, 2) := by decide +kernel
theorem dM0_digits_103 : decode cM0_digits 103 = .ok (.iload 5, 2) := by decide +kernel
theorem dM0_digits_105 : decode cM0_digits 105 = .ok (.ifCond .ne 6, 3) := by decide +kernel
theorem dM0_digits_108 : decode cM0_digits 108 = .ok (.goto 27, 3) := by decide +kernel
theorem dM0_digits_111 : decode cM0_digits 111 = .ok (.aload_n 0, 1) := by decide +kernel
theorem dM0_digits_112 : decode cM0_digits 112 = .ok (.getfield 38, 3) := by decide +kernel
theorem dM0_digits_115 : decode cM0_digits 115 = .ok (.aload_n 0, 1) := by decide +kernel
theorem dM0_digits_116 : decode cM0_digits 116 = .ok (.getfield 95, 3) := by decide +kernel
theorem dM0_digits_119 : decode cM0_digits 119 = .ok (.iload 5, 2) := by decide +kernel
theorem dM0_digits_121 : decode cM0_digits 121 = .ok (.invokestatic 92, 3) := by decide +kernel
theorem dM0_digits_124 : decode cM0_digits 124 = .ok (.iastore, 1) := by decide +kernel
theorem dM0_digits_125 : decode cM0_digits 125 = .ok (.aload_n 0, 1) := by decide +kernel
theorem dM0_digits_126 : decode cM0_digits 126 = .ok (.dup, 1) := by decide +kernel
theorem dM0_digits_127 : decode cM0_digits 127 = .ok (.getfield 95, 3) := by decide +kernel
theorem dM0_digits_130 : decode cM0_digits 130 = .ok (.iconst 1, 1) := by decide +kernel
theorem dM0_digits_131 : decode cM0_digits 131 = .ok (.iadd, 1) := by decide +kernel
theorem dM0_digits_132 : decode cM0_digits 132 = .ok (.putfield 95, 3) := by decide +kernel
theorem dM0_digits_135 : decode cM0_digits 135 = .ok (.iinc 4 (-1), 3) := by decide +kernel
theorem dM0_digits_138 : decode cM0_digits 138 = .ok (.goto (-54), 3) := by decide +kernel
theorem dM0_digits_141 : decode cM0_digits 141 = .ok (.iconst 1, 1) := by decide +kernel
theorem dM0_digits_142 : decode cM0_digits 142 = .ok (.ireturn, 1) := by decide +kernel
theorem dM0_worth_0 : decode cM0_worth 0 = .ok (.iload_n 0, 1) := by decide +kernel
theorem dM0_worth_1 : decode cM0_worth 1 = .ok (.bipush 48, 2) := by decide +kernel
theorem dM0_worth_3 : decode cM0_worth 3 = .ok (.if_icmp .lt 16, 3) := by decide +kernel
theorem dM0_worth_6 : decode cM0_worth 6 = .ok (.iload_n 0, 1) := by decide +kernel
theorem dM0_worth_7 : decode cM0_worth 7 = .ok (.bipush 57, 2) := by decide +kernel
theorem dM0_worth_9 : decode cM0_worth 9 = .ok (.if_icmp .gt 10, 3) := by decide +kernel
theorem dM0_worth_12 : decode cM0_worth 12 = .ok (.iload_n 0, 1) := by decide +kernel
theorem dM0_worth_13 : decode cM0_worth 13 = .ok (.bipush 48, 2) := by decide +kernel
theorem dM0_worth_15 : decode cM0_worth 15 = .ok (.isub, 1) := by decide +kernel
theorem dM0_worth_16 : decode cM0_worth 16 = .ok (.goto 49, 3) := by decide +kernel
theorem dM0_worth_19 : decode cM0_worth 19 = .ok (.iload_n 0, 1) := by decide +kernel
theorem dM0_worth_20 : decode cM0_worth 20 = .ok (.bipush 97, 2) := by decide +kernel
theorem dM0_worth_22 : decode cM0_worth 22 = .ok (.if_icmp .lt 19, 3) := by decide +kernel
theorem dM0_worth_25 : decode cM0_worth 25 = .ok (.iload_n 0, 1) := by decide +kernel
theorem dM0_worth_26 : decode cM0_worth 26 = .ok (.bipush 122, 2) := by decide +kernel
theorem dM0_worth_28 : decode cM0_worth 28 = .ok (.if_icmp .gt 13, 3) := by decide +kernel
theorem dM0_worth_31 : decode cM0_worth 31 = .ok (.iload_n 0, 1) := by decide +kernel
theorem dM0_worth_32 : decode cM0_worth 32 = .ok (.bipush 97, 2) := by decide +kernel
theorem dM0_worth_34 : decode cM0_worth 34 = .ok (.isub, 1) := by decide +kernel
theorem dM0_worth_35 : decode cM0_worth 35 = .ok (.bipush 10, 2) := by decide +kernel
theorem dM0_worth_37 : decode cM0_worth 37 = .ok (.iadd, 1) := by decide +kernel
theorem dM0_worth_38 : decode cM0_worth 38 = .ok (.goto 27, 3) := by decide +kernel
theorem dM0_worth_41 : decode cM0_worth 41 = .ok (.iload_n 0, 1) := by decide +kernel
theorem dM0_worth_42 : decode cM0_worth 42 = .ok (.bipush 65, 2) := by decide +kernel
theorem dM0_worth_44 : decode cM0_worth 44 = .ok (.if_icmp .lt 19, 3) := by decide +kernel
theorem dM0_worth_47 : decode cM0_worth 47 = .ok (.iload_n 0, 1) := by decide +kernel
theorem dM0_worth_48 : decode cM0_worth 48 = .ok (.bipush 90, 2) := by decide +kernel
theorem dM0_worth_50 : decode cM0_worth 50 = .ok (.if_icmp .gt 13, 3) := by decide +kernel
theorem dM0_worth_53 : decode cM0_worth 53 = .ok (.iload_n 0, 1) := by decide +kernel
theorem dM0_worth_54 : decode cM0_worth 54 = .ok (.bipush 65, 2) := by decide +kernel
theorem dM0_worth_56 : decode cM0_worth 56 = .ok (.isub, 1) := by decide +kernel
theorem dM0_worth_57 : decode cM0_worth 57 = .ok (.bipush 10, 2) := by decide +kernel
theorem dM0_worth_59 : decode cM0_worth 59 = .ok (.iadd, 1) := by decide +kernel
theorem dM0_worth_60 : decode cM0_worth 60 = .ok (.goto 5, 3) := by decide +kernel
theorem dM0_worth_63 : decode cM0_worth 63 = .ok (.bipush 99, 2) := by decide +kernel
theorem dM0_worth_65 : decode cM0_worth 65 = .ok (.ireturn, 1) := by decide +kernel
theorem dM0_read_0 : decode cM0_read 0 = .ok (.aload_n 0, 1) := by decide +kernel
theorem dM0_read_1 : decode cM0_read 1 = .ok (.iconst 0, 1) := by decide +kernel
theorem dM0_read_2 : decode cM0_read 2 = .ok (.putfield 48, 3) := by decide +kernel
theorem dM0_read_5 : decode cM0_read 5 = .ok (.aload_n 0, 1) := by decide +kernel
theorem dM0_read_6 : decode cM0_read 6 = .ok (.getfield 95, 3) := by decide +kernel
theorem dM0_read_9 : decode cM0_read 9 = .ok (.istore_n 3, 1) := by decide +kernel
theorem dM0_read_10 : decode cM0_read 10 = .ok (.aload_n 0, 1) := by decide +kernel
theorem dM0_read_11 : decode cM0_read 11 = .ok (.iconst 0, 1) := by decide +kernel
theorem dM0_read_12 : decode cM0_read 12 = .ok (.putfield 95, 3) := by decide +kernel
theorem dM0_read_15 : decode cM0_read 15 = .ok (.iload_n 1, 1) := by decide +kernel
theorem dM0_read_16 : decode cM0_read 16 = .ok (.invokestatic 82, 3) := by decide +kernel
theorem dM0_read_19 : decode cM0_read 19 = .ok (.ifCond .eq 18, 3) := by decide +kernel
theorem dM0_read_22 : decode cM0_read 22 = .ok (.iload_n 2, 1) := by decide +kernel
theorem dM0_read_23 : decode cM0_read 23 = .ok (.iconst 2, 1) := by decide +kernel
theorem dM0_read_24 : decode cM0_read 24 = .ok (.if_icmp .lt 13, 3) := by decide +kernel
theorem dM0_read_27 : decode cM0_read 27 = .ok (.iload_n 2, 1) := by decide +kernel
theorem dM0_read_28 : decode cM0_read 28 = .ok (.bipush 36, 2) := by decide +kernel
theorem dM0_read_30 : decode cM0_read 30 = .ok (.if_icmp .gt 7, 3) := by decide +kernel
theorem dM0_read_33 : decode cM0_read 33 = .ok (.iload_n 3, 1) := by decide +kernel
theorem dM0_read_34 : decode cM0_read 34 = .ok (.ifCond .ne 5, 3) := by decide +kernel
theorem dM0_read_37 : decode cM0_read 37 = .ok (.iconst 3, 1) := by decide +kernel
theorem dM0_read_38 : decode cM0_read 38 = .ok (.ireturn, 1) := by decide +kernel
theorem dM0_read_39 : decode cM0_read 39 = .ok (.iconst 0, 1) := by decide +kernel
theorem dM0_read_40 : decode cM0_read 40 = .ok (.istore 4, 2) := by decide +kernel
theorem dM0_read_42 : decode cM0_read 42 = .ok (.aload_n 0, 1) := by decide +kernel
theorem dM0_read_43 : decode cM0_read 43 = .ok (.getfield 26, 3) := by decide +kernel
theorem dM0_read_46 : decode cM0_read 46 = .ok (.invokestatic 52, 3) := by decide +kernel
theorem dM0_read_49 : decode cM0_read 49 = .ok (.iconst 0, 1) := by decide +kernel
theorem dM0_read_50 : decode cM0_read 50 = .ok (.istore 5, 2) := by decide +kernel
theorem dM0_read_52 : decode cM0_read 52 = .ok (.iload 5, 2) := by decide +kernel
theorem dM0_read_54 : decode cM0_read 54 = .ok (.iload_n 3, 1) := by decide +kernel
theorem dM0_read_55 : decode cM0_read 55 = .ok (.if_icmp .ge 68, 3) := by decide +kernel
theorem dM0_read_58 : decode cM0_read 58 = .ok (.aload_n 0, 1) := by decide +kernel
theorem dM0_read_59 : decode cM0_read 59 = .ok (.getfield 38, 3) := by decide +kernel
theorem dM0_read_62 : decode cM0_read 62 = .ok (.iload 5, 2) := by decide +kernel
theorem dM0_read_64 : decode cM0_read 64 = .ok (.iaload, 1) := by decide +kernel
theorem dM0_read_65 : decode cM0_read 65 = .ok (.iload_n 2, 1) := by decide +kernel
theorem dM0_read_66 : decode cM0_read 66 = .ok (.if_icmp .lt 5, 3) := by decide +kernel
theorem dM0_read_69 : decode cM0_read 69 = .ok (.iconst 3, 1) := by decide +kernel
theorem dM0_read_70 : decode cM0_read 70 = .ok (.ireturn, 1) := by decide +kernel
theorem dM0_read_71 : decode cM0_read 71 = .ok (.iload 4, 2) := by decide +kernel
theorem dM0_read_73 : decode cM0_read 73 = .ok (.ifCond .ne 18, 3) := by decide +kernel
theorem dM0_read_76 : decode cM0_read 76 = .ok (.aload_n 0, 1) := by decide +kernel
theorem dM0_read_77 : decode cM0_read 77 = .ok (.getfield 26, 3) := by decide +kernel
theorem dM0_read_80 : decode cM0_read 80 = .ok (.iload_n 2, 1) := by decide +kernel
theorem dM0_read_81 : decode cM0_read 81 = .ok (.aload_n 0, 1) := by decide +kernel
theorem dM0_read_82 : decode cM0_read 82 = .ok (.getfield 38, 3) := by decide +kernel
theorem dM0_read_85 : decode cM0_read 85 = .ok (.iload 5, 2) := by decide +kernel
theorem dM0_read_87 : decode cM0_read 87 = .ok (.iaload, 1) := by decide +kernel
theorem dM0_read_88 : decode cM0_read 88 = .ok (.invokestatic 56, 3) := by decide +kernel
theorem dM0_read_91 : decode cM0_read 91 = .ok (.iload 4, 2) := by decide +kernel
theorem dM0_read_93 : decode cM0_read 93 = .ok (.ifCond .ne 17, 3) := by decide +kernel
theorem dM0_read_96 : decode cM0_read 96 = .ok (.aload_n 0, 1) := by decide +kernel
theorem dM0_read_97 : decode cM0_read 97 = .ok (.getfield 26, 3) := by decide +kernel
theorem dM0_read_100 : decode cM0_read 100 = .ok (.aload_n 0, 1) := by decide +kernel
theorem dM0_read_101 : decode cM0_read 101 = .ok (.getfield 17, 3) := by decide +kernel
theorem dM0_read_104 : decode cM0_read 104 = .ok (.invokestatic 71, 3) := by decide +kernel
theorem dM0_read_107 : decode cM0_read 107 = .ok (.ifCond .lt 7, 3) := by decide +kernel
theorem dM0_read_110 : decode cM0_read 110 = .ok (.iconst 1, 1) := by decide +kernel
theorem dM0_read_111 : decode cM0_read 111 = .ok (.goto 4, 3) := by decide +kernel
theorem dM0_read_114 : decode cM0_read 114 = .ok (.iconst 0, 1) := by decide +kernel
theorem dM0_read_115 : decode cM0_read 115 = .ok (.istore 4, 2) := by decide +kernel
theorem dM0_read_117 : decode cM0_read 117 = .ok (.iinc 5 1, 3) := by decide +kernel
theorem dM0_read_120 : decode cM0_read 120 = .ok (.goto (-68), 3) := by decide +kernel
theorem dM0_read_123 : decode cM0_read 123 = .ok (.aload_n 0, 1) := by decide +kernel
theorem dM0_read_124 : decode cM0_read 124 = .ok (.iconst 0, 1) := by decide +kernel
theorem dM0_read_125 : decode cM0_read 125 = .ok (.putfield 75, 3) := by decide +kernel
theorem dM0_read_128 : decode cM0_read 128 = .ok (.iload 4, 2) := by decide +kernel
theorem dM0_read_130 : decode cM0_read 130 = .ok (.ifCond .eq 7, 3) := by decide +kernel
theorem dM0_read_133 : decode cM0_read 133 = .ok (.iconst 1, 1) := by decide +kernel
theorem dM0_read_134 : decode cM0_read 134 = .ok (.goto 8, 3) := by decide +kernel
theorem dM0_read_137 : decode cM0_read 137 = .ok (.aload_n 0, 1) := by decide +kernel
theorem dM0_read_138 : decode cM0_read 138 = .ok (.iload_n 1, 1) := by decide +kernel
theorem dM0_read_139 : decode cM0_read 139 = .ok (.invokevirtual 86, 3) := by decide +kernel
theorem dM0_read_142 : decode cM0_read 142 = .ok (.ireturn, 1) := by decide +kernel
theorem dM0_work_0 : decode cM0_work 0 = .ok (.aload_n 0, 1) := by decide +kernel
theorem dM0_work_1 : decode cM0_work 1 = .ok (.iconst 0, 1) := by decide +kernel
theorem dM0_work_2 : decode cM0_work 2 = .ok (.putfield 48, 3) := by decide +kernel
theorem dM0_work_5 : decode cM0_work 5 = .ok (.iload_n 1, 1) := by decide +kernel
theorem dM0_work_6 : decode cM0_work 6 = .ok (.ifCond .lt 31, 3) := by decide +kernel
theorem dM0_work_9 : decode cM0_work 9 = .ok (.iload_n 1, 1) := by decide +kernel
theorem dM0_work_10 : decode cM0_work 10 = .ok (.bipush 8, 2) := by decide +kernel
theorem dM0_work_12 : decode cM0_work 12 = .ok (.if_icmp .gt 25, 3) := by decide +kernel
theorem dM0_work_15 : decode cM0_work 15 = .ok (.iload_n 2, 1) := by decide +kernel
theorem dM0_work_16 : decode cM0_work 16 = .ok (.invokestatic 82, 3) := by decide +kernel
theorem dM0_work_19 : decode cM0_work 19 = .ok (.ifCond .eq 18, 3) := by decide +kernel
theorem dM0_work_22 : decode cM0_work 22 = .ok (.iload_n 3, 1) := by decide +kernel
theorem dM0_work_23 : decode cM0_work 23 = .ok (.invokestatic 82, 3) := by decide +kernel
theorem dM0_work_26 : decode cM0_work 26 = .ok (.ifCond .eq 11, 3) := by decide +kernel
theorem dM0_work_29 : decode cM0_work 29 = .ok (.iload 4, 2) := by decide +kernel
theorem dM0_work_31 : decode cM0_work 31 = .ok (.invokestatic 82, 3) := by decide +kernel
theorem dM0_work_34 : decode cM0_work 34 = .ok (.ifCond .ne 5, 3) := by decide +kernel
theorem dM0_work_37 : decode cM0_work 37 = .ok (.iconst 3, 1) := by decide +kernel
theorem dM0_work_38 : decode cM0_work 38 = .ok (.ireturn, 1) := by decide +kernel
theorem dM0_work_39 : decode cM0_work 39 = .ok (.aload_n 0, 1) := by decide +kernel
theorem dM0_work_40 : decode cM0_work 40 = .ok (.iload_n 3, 1) := by decide +kernel
theorem dM0_work_41 : decode cM0_work 41 = .ok (.iload 4, 2) := by decide +kernel
theorem dM0_work_43 : decode cM0_work 43 = .ok (.invokevirtual 119, 3) := by decide +kernel
theorem dM0_work_46 : decode cM0_work 46 = .ok (.iload_n 1, 1) := by decide +kernel
theorem dM0_work_47 : decode cM0_work 47 = .ok (.iconst 3, 1) := by decide +kernel
theorem dM0_work_48 : decode cM0_work 48 = .ok (.if_icmp .eq 8, 3) := by decide +kernel
theorem dM0_work_51 : decode cM0_work 51 = .ok (.iload_n 1, 1) := by decide +kernel
theorem dM0_work_52 : decode cM0_work 52 = .ok (.iconst 4, 1) := by decide +kernel
theorem dM0_work_53 : decode cM0_work 53 = .ok (.if_icmp .ne 15, 3) := by decide +kernel
theorem dM0_work_56 : decode cM0_work 56 = .ok (.aload_n 0, 1) := by decide +kernel
theorem dM0_work_57 : decode cM0_work 57 = .ok (.getfield 23, 3) := by decide +kernel
theorem dM0_work_60 : decode cM0_work 60 = .ok (.invokestatic 78, 3) := by decide +kernel
theorem dM0_work_63 : decode cM0_work 63 = .ok (.ifCond .eq 5, 3) := by decide +kernel
theorem dM0_work_66 : decode cM0_work 66 = .ok (.iconst 2, 1) := by decide +kernel
theorem dM0_work_67 : decode cM0_work 67 = .ok (.ireturn, 1) := by decide +kernel
theorem dM0_work_68 : decode cM0_work 68 = .ok (.iload_n 1, 1) := by decide +kernel
theorem dM0_work_69 : decode cM0_work 69 = .ok (.iconst 2, 1) := by decide +kernel
theorem dM0_work_70 : decode cM0_work 70 = .ok (.if_icmp .ge 20, 3) := by decide +kernel
theorem dM0_work_73 : decode cM0_work 73 = .ok (.aload_n 0, 1) := by decide +kernel
theorem dM0_work_74 : decode cM0_work 74 = .ok (.iload_n 1, 1) := by decide +kernel
theorem dM0_work_75 : decode cM0_work 75 = .ok (.iconst 1, 1) := by decide +kernel
theorem dM0_work_76 : decode cM0_work 76 = .ok (.if_icmp .ne 7, 3) := by decide +kernel
theorem dM0_work_79 : decode cM0_work 79 = .ok (.iconst 1, 1) := by decide +kernel
theorem dM0_work_80 : decode cM0_work 80 = .ok (.goto 4, 3) := by decide +kernel
theorem dM0_work_83 : decode cM0_work 83 = .ok (.iconst 0, 1) := by decide +kernel
theorem dM0_work_84 : decode cM0_work 84 = .ok (.invokevirtual 123, 3) := by decide +kernel
theorem dM0_work_87 : decode cM0_work 87 = .ok (.goto 56, 3) := by decide +kernel
theorem dM0_work_90 : decode cM0_work 90 = .ok (.iload_n 1, 1) := by decide +kernel
theorem dM0_work_91 : decode cM0_work 91 = .ok (.iconst 2, 1) := by decide +kernel
theorem dM0_work_92 : decode cM0_work 92 = .ok (.if_icmp .ne 10, 3) := by decide +kernel
theorem dM0_work_95 : decode cM0_work 95 = .ok (.aload_n 0, 1) := by decide +kernel
theorem dM0_work_96 : decode cM0_work 96 = .ok (.invokevirtual 127, 3) := by decide +kernel
theorem dM0_work_99 : decode cM0_work 99 = .ok (.goto 44, 3) := by decide +kernel
theorem dM0_work_102 : decode cM0_work 102 = .ok (.iload_n 1, 1) := by decide +kernel
theorem dM0_work_103 : decode cM0_work 103 = .ok (.iconst 5, 1) := by decide +kernel
theorem dM0_work_104 : decode cM0_work 104 = .ok (.if_icmp .ge 34, 3) := by decide +kernel
theorem dM0_work_107 : decode cM0_work 107 = .ok (.aload_n 0, 1) := by decide +kernel
theorem dM0_work_108 : decode cM0_work 108 = .ok (.invokevirtual 130, 3) := by decide +kernel
theorem dM0_work_111 : decode cM0_work 111 = .ok (.iload_n 1, 1) := by decide +kernel
theorem dM0_work_112 : decode cM0_work 112 = .ok (.iconst 4, 1) := by decide +kernel
theorem dM0_work_113 : decode cM0_work 113 = .ok (.if_icmp .ne 30, 3) := by decide +kernel
theorem dM0_work_116 : decode cM0_work 116 = .ok (.aload_n 0, 1) := by decide +kernel
theorem dM0_work_117 : decode cM0_work 117 = .ok (.getfield 29, 3) := by decide +kernel
theorem dM0_work_120 : decode cM0_work 120 = .ok (.aload_n 0, 1) := by decide +kernel
theorem dM0_work_121 : decode cM0_work 121 = .ok (.getfield 26, 3) := by decide +kernel
theorem dM0_work_124 : decode cM0_work 124 = .ok (.invokestatic 98, 3) := by decide +kernel
theorem dM0_work_127 : decode cM0_work 127 = .ok (.aload_n 0, 1) := by decide +kernel
theorem dM0_work_128 : decode cM0_work 128 = .ok (.aload_n 0, 1) := by decide +kernel
theorem dM0_work_129 : decode cM0_work 129 = .ok (.getfield 64, 3) := by decide +kernel
theorem dM0_work_132 : decode cM0_work 132 = .ok (.putfield 75, 3) := by decide +kernel
theorem dM0_work_135 : decode cM0_work 135 = .ok (.goto 8, 3) := by decide +kernel
theorem dM0_work_138 : decode cM0_work 138 = .ok (.aload_n 0, 1) := by decide +kernel
theorem dM0_work_139 : decode cM0_work 139 = .ok (.iload_n 1, 1) := by decide +kernel
theorem dM0_work_140 : decode cM0_work 140 = .ok (.invokevirtual 133, 3) := by decide +kernel
theorem dM0_work_143 : decode cM0_work 143 = .ok (.aload_n 0, 1) := by decide +kernel
theorem dM0_work_144 : decode cM0_work 144 = .ok (.iload_n 2, 1) := by decide +kernel
theorem dM0_work_145 : decode cM0_work 145 = .ok (.invokevirtual 86, 3) := by decide +kernel
theorem dM0_work_148 : decode cM0_work 148 = .ok (.ireturn, 1) := by decide +kernel
theorem dM0_loadBoth_0 : decode cM0_loadBoth 0 = .ok (.aload_n 0, 1) := by decide +kernel
theorem dM0_loadBoth_1 : decode cM0_loadBoth 1 = .ok (.iload_n 1, 1) := by decide +kernel
theorem dM0_loadBoth_2 : decode cM0_loadBoth 2 = .ok (.aload_n 0, 1) := by decide +kernel
theorem dM0_loadBoth_3 : decode cM0_loadBoth 3 = .ok (.getfield 20, 3) := by decide +kernel
theorem dM0_loadBoth_6 : decode cM0_loadBoth 6 = .ok (.invokevirtual 60, 3) := by decide +kernel
theorem dM0_loadBoth_9 : decode cM0_loadBoth 9 = .ok (.aload_n 0, 1) := by decide +kernel
theorem dM0_loadBoth_10 : decode cM0_loadBoth 10 = .ok (.iload_n 2, 1) := by decide +kernel
theorem dM0_loadBoth_11 : decode cM0_loadBoth 11 = .ok (.aload_n 0, 1) := by decide +kernel
theorem dM0_loadBoth_12 : decode cM0_loadBoth 12 = .ok (.getfield 23, 3) := by decide +kernel
theorem dM0_loadBoth_15 : decode cM0_loadBoth 15 = .ok (.invokevirtual 60, 3) := by decide +kernel
theorem dM0_loadBoth_18 : decode cM0_loadBoth 18 = .ok (.aload_n 0, 1) := by decide +kernel
theorem dM0_loadBoth_19 : decode cM0_loadBoth 19 = .ok (.aload_n 0, 1) := by decide +kernel
theorem dM0_loadBoth_20 : decode cM0_loadBoth 20 = .ok (.getfield 13, 3) := by decide +kernel
theorem dM0_loadBoth_23 : decode cM0_loadBoth 23 = .ok (.iload_n 1, 1) := by decide +kernel
theorem dM0_loadBoth_24 : decode cM0_loadBoth 24 = .ok (.baload, 1) := by decide +kernel
theorem dM0_loadBoth_25 : decode cM0_loadBoth 25 = .ok (.putfield 64, 3) := by decide +kernel
theorem dM0_loadBoth_28 : decode cM0_loadBoth 28 = .ok (.aload_n 0, 1) := by decide +kernel
theorem dM0_loadBoth_29 : decode cM0_loadBoth 29 = .ok (.aload_n 0, 1) := by decide +kernel
theorem dM0_loadBoth_30 : decode cM0_loadBoth 30 = .ok (.getfield 13, 3) := by decide +kernel
theorem dM0_loadBoth_33 : decode cM0_loadBoth 33 = .ok (.iload_n 2, 1) := by decide +kernel
theorem dM0_loadBoth_34 : decode cM0_loadBoth 34 = .ok (.baload, 1) := by decide +kernel
theorem dM0_loadBoth_35 : decode cM0_loadBoth 35 = .ok (.putfield 68, 3) := by decide +kernel
theorem dM0_loadBoth_38 : decode cM0_loadBoth 38 = .ok (.return_, 1) := by decide +kernel
theorem dM0_load_0 : decode cM0_load 0 = .ok (.aload_n 2, 1) := by decide +kernel
theorem dM0_load_1 : decode cM0_load 1 = .ok (.invokestatic 52, 3) := by decide +kernel
theorem dM0_load_4 : decode cM0_load 4 = .ok (.iconst 0, 1) := by decide +kernel
theorem dM0_load_5 : decode cM0_load 5 = .ok (.istore_n 3, 1) := by decide +kernel
theorem dM0_load_6 : decode cM0_load 6 = .ok (.iload_n 3, 1) := by decide +kernel
theorem dM0_load_7 : decode cM0_load 7 = .ok (.sipush 160, 3) := by decide +kernel
theorem dM0_load_10 : decode cM0_load 10 = .ok (.if_icmp .ge 24, 3) := by decide +kernel
theorem dM0_load_13 : decode cM0_load 13 = .ok (.aload_n 2, 1) := by decide +kernel
theorem dM0_load_14 : decode cM0_load 14 = .ok (.iload_n 3, 1) := by decide +kernel
theorem dM0_load_15 : decode cM0_load 15 = .ok (.aload_n 0, 1) := by decide +kernel
theorem dM0_load_16 : decode cM0_load 16 = .ok (.getfield 7, 3) := by decide +kernel
theorem dM0_load_19 : decode cM0_load 19 = .ok (.sipush 160, 3) := by decide +kernel
theorem dM0_load_22 : decode cM0_load 22 = .ok (.iload_n 1, 1) := by decide +kernel
theorem dM0_load_23 : decode cM0_load 23 = .ok (.imul, 1) := by decide +kernel
theorem dM0_load_24 : decode cM0_load 24 = .ok (.iload_n 3, 1) := by decide +kernel
theorem dM0_load_25 : decode cM0_load 25 = .ok (.iadd, 1) := by decide +kernel
theorem dM0_load_26 : decode cM0_load 26 = .ok (.iaload, 1) := by decide +kernel
theorem dM0_load_27 : decode cM0_load 27 = .ok (.iastore, 1) := by decide +kernel
theorem dM0_load_28 : decode cM0_load 28 = .ok (.iinc 3 1, 3) := by decide +kernel
theorem dM0_load_31 : decode cM0_load 31 = .ok (.goto (-25), 3) := by decide +kernel
theorem dM0_load_34 : decode cM0_load 34 = .ok (.return_, 1) := by decide +kernel
theorem dM0_sum_0 : decode cM0_sum 0 = .ok (.aload_n 0, 1) := by decide +kernel
theorem dM0_sum_1 : decode cM0_sum 1 = .ok (.getfield 68, 3) := by decide +kernel
theorem dM0_sum_4 : decode cM0_sum 4 = .ok (.iload_n 1, 1) := by decide +kernel
theorem dM0_sum_5 : decode cM0_sum 5 = .ok (.if_icmp .eq 7, 3) := by decide +kernel
theorem dM0_sum_8 : decode cM0_sum 8 = .ok (.iconst 1, 1) := by decide +kernel
theorem dM0_sum_9 : decode cM0_sum 9 = .ok (.goto 4, 3) := by decide +kernel
theorem dM0_sum_12 : decode cM0_sum 12 = .ok (.iconst 0, 1) := by decide +kernel
theorem dM0_sum_13 : decode cM0_sum 13 = .ok (.istore_n 2, 1) := by decide +kernel
theorem dM0_sum_14 : decode cM0_sum 14 = .ok (.aload_n 0, 1) := by decide +kernel
theorem dM0_sum_15 : decode cM0_sum 15 = .ok (.getfield 20, 3) := by decide +kernel
theorem dM0_sum_18 : decode cM0_sum 18 = .ok (.aload_n 0, 1) := by decide +kernel
theorem dM0_sum_19 : decode cM0_sum 19 = .ok (.getfield 26, 3) := by decide +kernel
theorem dM0_sum_22 : decode cM0_sum 22 = .ok (.invokestatic 98, 3) := by decide +kernel
theorem dM0_sum_25 : decode cM0_sum 25 = .ok (.aload_n 0, 1) := by decide +kernel
theorem dM0_sum_26 : decode cM0_sum 26 = .ok (.aload_n 0, 1) := by decide +kernel
theorem dM0_sum_27 : decode cM0_sum 27 = .ok (.getfield 64, 3) := by decide +kernel
theorem dM0_sum_30 : decode cM0_sum 30 = .ok (.putfield 75, 3) := by decide +kernel
theorem dM0_sum_33 : decode cM0_sum 33 = .ok (.aload_n 0, 1) := by decide +kernel
theorem dM0_sum_34 : decode cM0_sum 34 = .ok (.getfield 64, 3) := by decide +kernel
theorem dM0_sum_37 : decode cM0_sum 37 = .ok (.iload_n 2, 1) := by decide +kernel
theorem dM0_sum_38 : decode cM0_sum 38 = .ok (.if_icmp .ne 17, 3) := by decide +kernel
theorem dM0_sum_41 : decode cM0_sum 41 = .ok (.aload_n 0, 1) := by decide +kernel
theorem dM0_sum_42 : decode cM0_sum 42 = .ok (.getfield 26, 3) := by decide +kernel
theorem dM0_sum_45 : decode cM0_sum 45 = .ok (.aload_n 0, 1) := by decide +kernel
theorem dM0_sum_46 : decode cM0_sum 46 = .ok (.getfield 23, 3) := by decide +kernel
theorem dM0_sum_49 : decode cM0_sum 49 = .ok (.invokestatic 102, 3) := by decide +kernel
theorem dM0_sum_52 : decode cM0_sum 52 = .ok (.goto 58, 3) := by decide +kernel
theorem dM0_sum_55 : decode cM0_sum 55 = .ok (.aload_n 0, 1) := by decide +kernel
theorem dM0_sum_56 : decode cM0_sum 56 = .ok (.getfield 20, 3) := by decide +kernel
theorem dM0_sum_59 : decode cM0_sum 59 = .ok (.aload_n 0, 1) := by decide +kernel
theorem dM0_sum_60 : decode cM0_sum 60 = .ok (.getfield 23, 3) := by decide +kernel
theorem dM0_sum_63 : decode cM0_sum 63 = .ok (.invokestatic 71, 3) := by decide +kernel
theorem dM0_sum_66 : decode cM0_sum 66 = .ok (.ifCond .lt 17, 3) := by decide +kernel
theorem dM0_sum_69 : decode cM0_sum 69 = .ok (.aload_n 0, 1) := by decide +kernel
theorem dM0_sum_70 : decode cM0_sum 70 = .ok (.getfield 26, 3) := by decide +kernel
theorem dM0_sum_73 : decode cM0_sum 73 = .ok (.aload_n 0, 1) := by decide +kernel
theorem dM0_sum_74 : decode cM0_sum 74 = .ok (.getfield 23, 3) := by decide +kernel
theorem dM0_sum_77 : decode cM0_sum 77 = .ok (.invokestatic 105, 3) := by decide +kernel
theorem dM0_sum_80 : decode cM0_sum 80 = .ok (.goto 30, 3) := by decide +kernel
theorem dM0_sum_83 : decode cM0_sum 83 = .ok (.aload_n 0, 1) := by decide +kernel
theorem dM0_sum_84 : decode cM0_sum 84 = .ok (.getfield 23, 3) := by decide +kernel
theorem dM0_sum_87 : decode cM0_sum 87 = .ok (.aload_n 0, 1) := by decide +kernel
theorem dM0_sum_88 : decode cM0_sum 88 = .ok (.getfield 26, 3) := by decide +kernel
theorem dM0_sum_91 : decode cM0_sum 91 = .ok (.invokestatic 98, 3) := by decide +kernel
theorem dM0_sum_94 : decode cM0_sum 94 = .ok (.aload_n 0, 1) := by decide +kernel
theorem dM0_sum_95 : decode cM0_sum 95 = .ok (.getfield 26, 3) := by decide +kernel
theorem dM0_sum_98 : decode cM0_sum 98 = .ok (.aload_n 0, 1) := by decide +kernel
theorem dM0_sum_99 : decode cM0_sum 99 = .ok (.getfield 20, 3) := by decide +kernel
theorem dM0_sum_102 : decode cM0_sum 102 = .ok (.invokestatic 105, 3) := by decide +kernel
theorem dM0_sum_105 : decode cM0_sum 105 = .ok (.aload_n 0, 1) := by decide +kernel
theorem dM0_sum_106 : decode cM0_sum 106 = .ok (.iload_n 2, 1) := by decide +kernel
theorem dM0_sum_107 : decode cM0_sum 107 = .ok (.putfield 75, 3) := by decide +kernel
theorem dM0_sum_110 : decode cM0_sum 110 = .ok (.return_, 1) := by decide +kernel
theorem dM0_copy_0 : decode cM0_copy 0 = .ok (.iconst 0, 1) := by decide +kernel
theorem dM0_copy_1 : decode cM0_copy 1 = .ok (.istore_n 2, 1) := by decide +kernel
theorem dM0_copy_2 : decode cM0_copy 2 = .ok (.iload_n 2, 1) := by decide +kernel
theorem dM0_copy_3 : decode cM0_copy 3 = .ok (.sipush 330, 3) := by decide +kernel
theorem dM0_copy_6 : decode cM0_copy 6 = .ok (.if_icmp .ge 15, 3) := by decide +kernel
theorem dM0_copy_9 : decode cM0_copy 9 = .ok (.aload_n 1, 1) := by decide +kernel
theorem dM0_copy_10 : decode cM0_copy 10 = .ok (.iload_n 2, 1) := by decide +kernel
theorem dM0_copy_11 : decode cM0_copy 11 = .ok (.aload_n 0, 1) := by decide +kernel
theorem dM0_copy_12 : decode cM0_copy 12 = .ok (.iload_n 2, 1) := by decide +kernel
theorem dM0_copy_13 : decode cM0_copy 13 = .ok (.iaload, 1) := by decide +kernel
theorem dM0_copy_14 : decode cM0_copy 14 = .ok (.iastore, 1) := by decide +kernel
theorem dM0_copy_15 : decode cM0_copy 15 = .ok (.iinc 2 1, 3) := by decide +kernel
theorem dM0_copy_18 : decode cM0_copy 18 = .ok (.goto (-16), 3) := by decide +kernel
theorem dM0_copy_21 : decode cM0_copy 21 = .ok (.return_, 1) := by decide +kernel
theorem dM0_add_0 : decode cM0_add 0 = .ok (.iconst 0, 1) := by decide +kernel
theorem dM0_add_1 : decode cM0_add 1 = .ok (.istore_n 2, 1) := by decide +kernel
theorem dM0_add_2 : decode cM0_add 2 = .ok (.iconst 0, 1) := by decide +kernel
theorem dM0_add_3 : decode cM0_add 3 = .ok (.istore_n 3, 1) := by decide +kernel
theorem dM0_add_4 : decode cM0_add 4 = .ok (.iload_n 3, 1) := by decide +kernel
theorem dM0_add_5 : decode cM0_add 5 = .ok (.sipush 330, 3) := by decide +kernel
theorem dM0_add_8 : decode cM0_add 8 = .ok (.if_icmp .ge 34, 3) := by decide +kernel
theorem dM0_add_11 : decode cM0_add 11 = .ok (.aload_n 0, 1) := by decide +kernel
theorem dM0_add_12 : decode cM0_add 12 = .ok (.iload_n 3, 1) := by decide +kernel
theorem dM0_add_13 : decode cM0_add 13 = .ok (.iaload, 1) := by decide +kernel
theorem dM0_add_14 : decode cM0_add 14 = .ok (.aload_n 1, 1) := by decide +kernel
theorem dM0_add_15 : decode cM0_add 15 = .ok (.iload_n 3, 1) := by decide +kernel
theorem dM0_add_16 : decode cM0_add 16 = .ok (.iaload, 1) := by decide +kernel
theorem dM0_add_17 : decode cM0_add 17 = .ok (.iadd, 1) := by decide +kernel
theorem dM0_add_18 : decode cM0_add 18 = .ok (.iload_n 2, 1) := by decide +kernel
theorem dM0_add_19 : decode cM0_add 19 = .ok (.iadd, 1) := by decide +kernel
theorem dM0_add_20 : decode cM0_add 20 = .ok (.istore 4, 2) := by decide +kernel
theorem dM0_add_22 : decode cM0_add 22 = .ok (.aload_n 0, 1) := by decide +kernel
theorem dM0_add_23 : decode cM0_add 23 = .ok (.iload_n 3, 1) := by decide +kernel
theorem dM0_add_24 : decode cM0_add 24 = .ok (.iload 4, 2) := by decide +kernel
theorem dM0_add_26 : decode cM0_add 26 = .ok (.bipush 10, 2) := by decide +kernel
theorem dM0_add_28 : decode cM0_add 28 = .ok (.irem, 1) := by decide +kernel
theorem dM0_add_29 : decode cM0_add 29 = .ok (.iastore, 1) := by decide +kernel
theorem dM0_add_30 : decode cM0_add 30 = .ok (.iload 4, 2) := by decide +kernel
theorem dM0_add_32 : decode cM0_add 32 = .ok (.bipush 10, 2) := by decide +kernel
theorem dM0_add_34 : decode cM0_add 34 = .ok (.idiv, 1) := by decide +kernel
theorem dM0_add_35 : decode cM0_add 35 = .ok (.istore_n 2, 1) := by decide +kernel
theorem dM0_add_36 : decode cM0_add 36 = .ok (.iinc 3 1, 3) := by decide +kernel
theorem dM0_add_39 : decode cM0_add 39 = .ok (.goto (-35), 3) := by decide +kernel
theorem dM0_add_42 : decode cM0_add 42 = .ok (.return_, 1) := by decide +kernel
theorem dM0_subtract_0 : decode cM0_subtract 0 = .ok (.iconst 0, 1) := by decide +kernel
theorem dM0_subtract_1 : decode cM0_subtract 1 = .ok (.istore_n 2, 1) := by decide +kernel
theorem dM0_subtract_2 : decode cM0_subtract 2 = .ok (.iconst 0, 1) := by decide +kernel
theorem dM0_subtract_3 : decode cM0_subtract 3 = .ok (.istore_n 3, 1) := by decide +kernel
theorem dM0_subtract_4 : decode cM0_subtract 4 = .ok (.iload_n 3, 1) := by decide +kernel
theorem dM0_subtract_5 : decode cM0_subtract 5 = .ok (.sipush 330, 3) := by decide +kernel
theorem dM0_subtract_8 : decode cM0_subtract 8 = .ok (.if_icmp .ge 41, 3) := by decide +kernel
theorem dM0_subtract_11 : decode cM0_subtract 11 = .ok (.aload_n 0, 1) := by decide +kernel
theorem dM0_subtract_12 : decode cM0_subtract 12 = .ok (.iload_n 3, 1) := by decide +kernel
theorem dM0_subtract_13 : decode cM0_subtract 13 = .ok (.iaload, 1) := by decide +kernel
theorem dM0_subtract_14 : decode cM0_subtract 14 = .ok (.aload_n 1, 1) := by decide +kernel
theorem dM0_subtract_15 : decode cM0_subtract 15 = .ok (.iload_n 3, 1) := by decide +kernel
theorem dM0_subtract_16 : decode cM0_subtract 16 = .ok (.iaload, 1) := by decide +kernel
theorem dM0_subtract_17 : decode cM0_subtract 17 = .ok (.isub, 1) := by decide +kernel
theorem dM0_subtract_18 : decode cM0_subtract 18 = .ok (.iload_n 2, 1) := by decide +kernel
theorem dM0_subtract_19 : decode cM0_subtract 19 = .ok (.isub, 1) := by decide +kernel
theorem dM0_subtract_20 : decode cM0_subtract 20 = .ok (.istore 4, 2) := by decide +kernel
theorem dM0_subtract_22 : decode cM0_subtract 22 = .ok (.iload 4, 2) := by decide +kernel
theorem dM0_subtract_24 : decode cM0_subtract 24 = .ok (.ifCond .ge 7, 3) := by decide +kernel
theorem dM0_subtract_27 : decode cM0_subtract 27 = .ok (.iconst 1, 1) := by decide +kernel
theorem dM0_subtract_28 : decode cM0_subtract 28 = .ok (.goto 4, 3) := by decide +kernel
theorem dM0_subtract_31 : decode cM0_subtract 31 = .ok (.iconst 0, 1) := by decide +kernel
theorem dM0_subtract_32 : decode cM0_subtract 32 = .ok (.istore_n 2, 1) := by decide +kernel
theorem dM0_subtract_33 : decode cM0_subtract 33 = .ok (.aload_n 0, 1) := by decide +kernel
theorem dM0_subtract_34 : decode cM0_subtract 34 = .ok (.iload_n 3, 1) := by decide +kernel
theorem dM0_subtract_35 : decode cM0_subtract 35 = .ok (.iload 4, 2) := by decide +kernel
theorem dM0_subtract_37 : decode cM0_subtract 37 = .ok (.bipush 10, 2) := by decide +kernel
theorem dM0_subtract_39 : decode cM0_subtract 39 = .ok (.iload_n 2, 1) := by decide +kernel
theorem dM0_subtract_40 : decode cM0_subtract 40 = .ok (.imul, 1) := by decide +kernel
theorem dM0_subtract_41 : decode cM0_subtract 41 = .ok (.iadd, 1) := by decide +kernel
theorem dM0_subtract_42 : decode cM0_subtract 42 = .ok (.iastore, 1) := by decide +kernel
theorem dM0_subtract_43 : decode cM0_subtract 43 = .ok (.iinc 3 1, 3) := by decide +kernel
theorem dM0_subtract_46 : decode cM0_subtract 46 = .ok (.goto (-42), 3) := by decide +kernel
theorem dM0_subtract_49 : decode cM0_subtract 49 = .ok (.return_, 1) := by decide +kernel
theorem dM0_times_0 : decode cM0_times 0 = .ok (.aload_n 0, 1) := by decide +kernel
theorem dM0_times_1 : decode cM0_times 1 = .ok (.getfield 26, 3) := by decide +kernel
theorem dM0_times_4 : decode cM0_times 4 = .ok (.invokestatic 52, 3) := by decide +kernel
theorem dM0_times_7 : decode cM0_times 7 = .ok (.sipush 159, 3) := by decide +kernel
theorem dM0_times_10 : decode cM0_times 10 = .ok (.istore_n 1, 1) := by decide +kernel
theorem dM0_times_11 : decode cM0_times 11 = .ok (.iload_n 1, 1) := by decide +kernel
theorem dM0_times_12 : decode cM0_times 12 = .ok (.ifCond .lt 48, 3) := by decide +kernel
theorem dM0_times_15 : decode cM0_times 15 = .ok (.aload_n 0, 1) := by decide +kernel
theorem dM0_times_16 : decode cM0_times 16 = .ok (.getfield 26, 3) := by decide +kernel
theorem dM0_times_19 : decode cM0_times 19 = .ok (.bipush 10, 2) := by decide +kernel
theorem dM0_times_21 : decode cM0_times 21 = .ok (.iconst 0, 1) := by decide +kernel
theorem dM0_times_22 : decode cM0_times 22 = .ok (.invokestatic 56, 3) := by decide +kernel
theorem dM0_times_25 : decode cM0_times 25 = .ok (.iconst 0, 1) := by decide +kernel
theorem dM0_times_26 : decode cM0_times 26 = .ok (.istore_n 2, 1) := by decide +kernel
theorem dM0_times_27 : decode cM0_times 27 = .ok (.iload_n 2, 1) := by decide +kernel
theorem dM0_times_28 : decode cM0_times 28 = .ok (.aload_n 0, 1) := by decide +kernel
theorem dM0_times_29 : decode cM0_times 29 = .ok (.getfield 23, 3) := by decide +kernel
theorem dM0_times_32 : decode cM0_times 32 = .ok (.iload_n 1, 1) := by decide +kernel
theorem dM0_times_33 : decode cM0_times 33 = .ok (.iaload, 1) := by decide +kernel
theorem dM0_times_34 : decode cM0_times 34 = .ok (.if_icmp .ge 20, 3) := by decide +kernel
theorem dM0_times_37 : decode cM0_times 37 = .ok (.aload_n 0, 1) := by decide +kernel
theorem dM0_times_38 : decode cM0_times 38 = .ok (.getfield 26, 3) := by decide +kernel
theorem dM0_times_41 : decode cM0_times 41 = .ok (.aload_n 0, 1) := by decide +kernel
theorem dM0_times_42 : decode cM0_times 42 = .ok (.getfield 20, 3) := by decide +kernel
theorem dM0_times_45 : decode cM0_times 45 = .ok (.invokestatic 102, 3) := by decide +kernel
theorem dM0_times_48 : decode cM0_times 48 = .ok (.iinc 2 1, 3) := by decide +kernel
theorem dM0_times_51 : decode cM0_times 51 = .ok (.goto (-24), 3) := by decide +kernel
theorem dM0_times_54 : decode cM0_times 54 = .ok (.iinc 1 (-1), 3) := by decide +kernel
theorem dM0_times_57 : decode cM0_times 57 = .ok (.goto (-46), 3) := by decide +kernel
theorem dM0_times_60 : decode cM0_times 60 = .ok (.aload_n 0, 1) := by decide +kernel
theorem dM0_times_61 : decode cM0_times 61 = .ok (.aload_n 0, 1) := by decide +kernel
theorem dM0_times_62 : decode cM0_times 62 = .ok (.getfield 64, 3) := by decide +kernel
theorem dM0_times_65 : decode cM0_times 65 = .ok (.aload_n 0, 1) := by decide +kernel
theorem dM0_times_66 : decode cM0_times 66 = .ok (.getfield 68, 3) := by decide +kernel
theorem dM0_times_69 : decode cM0_times 69 = .ok (.if_icmp .eq 7, 3) := by decide +kernel
theorem dM0_times_72 : decode cM0_times 72 = .ok (.iconst 1, 1) := by decide +kernel
theorem dM0_times_73 : decode cM0_times 73 = .ok (.goto 4, 3) := by decide +kernel
theorem dM0_times_76 : decode cM0_times 76 = .ok (.iconst 0, 1) := by decide +kernel
theorem dM0_times_77 : decode cM0_times 77 = .ok (.putfield 75, 3) := by decide +kernel
theorem dM0_times_80 : decode cM0_times 80 = .ok (.return_, 1) := by decide +kernel
theorem dM0_divide_0 : decode cM0_divide 0 = .ok (.aload_n 0, 1) := by decide +kernel
theorem dM0_divide_1 : decode cM0_divide 1 = .ok (.getfield 26, 3) := by decide +kernel
theorem dM0_divide_4 : decode cM0_divide 4 = .ok (.invokestatic 52, 3) := by decide +kernel
theorem dM0_divide_7 : decode cM0_divide 7 = .ok (.aload_n 0, 1) := by decide +kernel
theorem dM0_divide_8 : decode cM0_divide 8 = .ok (.getfield 29, 3) := by decide +kernel
theorem dM0_divide_11 : decode cM0_divide 11 = .ok (.invokestatic 52, 3) := by decide +kernel
theorem dM0_divide_14 : decode cM0_divide 14 = .ok (.sipush 159, 3) := by decide +kernel
theorem dM0_divide_17 : decode cM0_divide 17 = .ok (.istore_n 1, 1) := by decide +kernel
theorem dM0_divide_18 : decode cM0_divide 18 = .ok (.iload_n 1, 1) := by decide +kernel
theorem dM0_divide_19 : decode cM0_divide 19 = .ok (.ifCond .lt 72, 3) := by decide +kernel
theorem dM0_divide_22 : decode cM0_divide 22 = .ok (.aload_n 0, 1) := by decide +kernel
theorem dM0_divide_23 : decode cM0_divide 23 = .ok (.getfield 29, 3) := by decide +kernel
theorem dM0_divide_26 : decode cM0_divide 26 = .ok (.bipush 10, 2) := by decide +kernel
theorem dM0_divide_28 : decode cM0_divide 28 = .ok (.aload_n 0, 1) := by decide +kernel
theorem dM0_divide_29 : decode cM0_divide 29 = .ok (.getfield 20, 3) := by decide +kernel
theorem dM0_divide_32 : decode cM0_divide 32 = .ok (.iload_n 1, 1) := by decide +kernel
theorem dM0_divide_33 : decode cM0_divide 33 = .ok (.iaload, 1) := by decide +kernel
theorem dM0_divide_34 : decode cM0_divide 34 = .ok (.invokestatic 56, 3) := by decide +kernel
theorem dM0_divide_37 : decode cM0_divide 37 = .ok (.aload_n 0, 1) := by decide +kernel
theorem dM0_divide_38 : decode cM0_divide 38 = .ok (.getfield 26, 3) := by decide +kernel
theorem dM0_divide_41 : decode cM0_divide 41 = .ok (.bipush 10, 2) := by decide +kernel
theorem dM0_divide_43 : decode cM0_divide 43 = .ok (.iconst 0, 1) := by decide +kernel
theorem dM0_divide_44 : decode cM0_divide 44 = .ok (.invokestatic 56, 3) := by decide +kernel
theorem dM0_divide_47 : decode cM0_divide 47 = .ok (.aload_n 0, 1) := by decide +kernel
theorem dM0_divide_48 : decode cM0_divide 48 = .ok (.getfield 29, 3) := by decide +kernel
theorem dM0_divide_51 : decode cM0_divide 51 = .ok (.aload_n 0, 1) := by decide +kernel
theorem dM0_divide_52 : decode cM0_divide 52 = .ok (.getfield 23, 3) := by decide +kernel
theorem dM0_divide_55 : decode cM0_divide 55 = .ok (.invokestatic 71, 3) := by decide +kernel
theorem dM0_divide_58 : decode cM0_divide 58 = .ok (.ifCond .lt 27, 3) := by decide +kernel
theorem dM0_divide_61 : decode cM0_divide 61 = .ok (.aload_n 0, 1) := by decide +kernel
theorem dM0_divide_62 : decode cM0_divide 62 = .ok (.getfield 29, 3) := by decide +kernel
theorem dM0_divide_65 : decode cM0_divide 65 = .ok (.aload_n 0, 1) := by decide +kernel
theorem dM0_divide_66 : decode cM0_divide 66 = .ok (.getfield 23, 3) := by decide +kernel
theorem dM0_divide_69 : decode cM0_divide 69 = .ok (.invokestatic 105, 3) := by decide +kernel
theorem dM0_divide_72 : decode cM0_divide 72 = .ok (.aload_n 0, 1) := by decide +kernel
theorem dM0_divide_73 : decode cM0_divide 73 = .ok (.getfield 26, 3) := by decide +kernel
theorem dM0_divide_76 : decode cM0_divide 76 = .ok (.iconst 0, 1) := by decide +kernel
theorem dM0_divide_77 : decode cM0_divide 77 = .ok (.dup2, 1) := by decide +kernel
theorem dM0_divide_78 : decode cM0_divide 78 = .ok (.iaload, 1) := by decide +kernel
theorem dM0_divide_79 : decode cM0_divide 79 = .ok (.iconst 1, 1) := by decide +kernel
theorem dM0_divide_80 : decode cM0_divide 80 = .ok (.iadd, 1) := by decide +kernel
theorem dM0_divide_81 : decode cM0_divide 81 = .ok (.iastore, 1) := by decide +kernel
theorem dM0_divide_82 : decode cM0_divide 82 = .ok (.goto (-35), 3) := by decide +kernel
theorem dM0_divide_85 : decode cM0_divide 85 = .ok (.iinc 1 (-1), 3) := by decide +kernel
theorem dM0_divide_88 : decode cM0_divide 88 = .ok (.goto (-70), 3) := by decide +kernel
theorem dM0_divide_91 : decode cM0_divide 91 = .ok (.aload_n 0, 1) := by decide +kernel
theorem dM0_divide_92 : decode cM0_divide 92 = .ok (.aload_n 0, 1) := by decide +kernel
theorem dM0_divide_93 : decode cM0_divide 93 = .ok (.getfield 64, 3) := by decide +kernel
theorem dM0_divide_96 : decode cM0_divide 96 = .ok (.aload_n 0, 1) := by decide +kernel
theorem dM0_divide_97 : decode cM0_divide 97 = .ok (.getfield 68, 3) := by decide +kernel
theorem dM0_divide_100 : decode cM0_divide 100 = .ok (.if_icmp .eq 7, 3) := by decide +kernel
theorem dM0_divide_103 : decode cM0_divide 103 = .ok (.iconst 1, 1) := by decide +kernel
theorem dM0_divide_104 : decode cM0_divide 104 = .ok (.goto 4, 3) := by decide +kernel
theorem dM0_divide_107 : decode cM0_divide 107 = .ok (.iconst 0, 1) := by decide +kernel
theorem dM0_divide_108 : decode cM0_divide 108 = .ok (.putfield 75, 3) := by decide +kernel
theorem dM0_divide_111 : decode cM0_divide 111 = .ok (.return_, 1) := by decide +kernel
theorem dM0_bitwise_0 : decode cM0_bitwise 0 = .ok (.aload_n 0, 1) := by decide +kernel
theorem dM0_bitwise_1 : decode cM0_bitwise 1 = .ok (.aload_n 0, 1) := by decide +kernel
theorem dM0_bitwise_2 : decode cM0_bitwise 2 = .ok (.getfield 20, 3) := by decide +kernel
theorem dM0_bitwise_5 : decode cM0_bitwise 5 = .ok (.aload_n 0, 1) := by decide +kernel
theorem dM0_bitwise_6 : decode cM0_bitwise 6 = .ok (.getfield 64, 3) := by decide +kernel
theorem dM0_bitwise_9 : decode cM0_bitwise 9 = .ok (.aload_n 0, 1) := by decide +kernel
theorem dM0_bitwise_10 : decode cM0_bitwise 10 = .ok (.getfield 32, 3) := by decide +kernel
theorem dM0_bitwise_13 : decode cM0_bitwise 13 = .ok (.invokevirtual 112, 3) := by decide +kernel
theorem dM0_bitwise_16 : decode cM0_bitwise 16 = .ok (.aload_n 0, 1) := by decide +kernel
theorem dM0_bitwise_17 : decode cM0_bitwise 17 = .ok (.aload_n 0, 1) := by decide +kernel
theorem dM0_bitwise_18 : decode cM0_bitwise 18 = .ok (.getfield 23, 3) := by decide +kernel
theorem dM0_bitwise_21 : decode cM0_bitwise 21 = .ok (.aload_n 0, 1) := by decide +kernel
theorem dM0_bitwise_22 : decode cM0_bitwise 22 = .ok (.getfield 68, 3) := by decide +kernel
theorem dM0_bitwise_25 : decode cM0_bitwise 25 = .ok (.aload_n 0, 1) := by decide +kernel
theorem dM0_bitwise_26 : decode cM0_bitwise 26 = .ok (.getfield 35, 3) := by decide +kernel
theorem dM0_bitwise_29 : decode cM0_bitwise 29 = .ok (.invokevirtual 112, 3) := by decide +kernel
theorem dM0_bitwise_32 : decode cM0_bitwise 32 = .ok (.iconst 0, 1) := by decide +kernel
theorem dM0_bitwise_33 : decode cM0_bitwise 33 = .ok (.istore_n 2, 1) := by decide +kernel
theorem dM0_bitwise_34 : decode cM0_bitwise 34 = .ok (.iload_n 2, 1) := by decide +kernel
theorem dM0_bitwise_35 : decode cM0_bitwise 35 = .ok (.sipush 514, 3) := by decide +kernel
theorem dM0_bitwise_38 : decode cM0_bitwise 38 = .ok (.if_icmp .ge 74, 3) := by decide +kernel
theorem dM0_bitwise_41 : decode cM0_bitwise 41 = .ok (.aload_n 0, 1) := by decide +kernel
theorem dM0_bitwise_42 : decode cM0_bitwise 42 = .ok (.getfield 32, 3) := by decide +kernel
theorem dM0_bitwise_45 : decode cM0_bitwise 45 = .ok (.iload_n 2, 1) := by decide +kernel
theorem dM0_bitwise_46 : decode cM0_bitwise 46 = .ok (.iaload, 1) := by decide +kernel
theorem dM0_bitwise_47 : decode cM0_bitwise 47 = .ok (.istore_n 3, 1) := by decide +kernel
theorem dM0_bitwise_48 : decode cM0_bitwise 48 = .ok (.aload_n 0, 1) := by decide +kernel
theorem dM0_bitwise_49 : decode cM0_bitwise 49 = .ok (.getfield 35, 3) := by decide +kernel
theorem dM0_bitwise_52 : decode cM0_bitwise 52 = .ok (.iload_n 2, 1) := by decide +kernel
theorem dM0_bitwise_53 : decode cM0_bitwise 53 = .ok (.iaload, 1) := by decide +kernel
theorem dM0_bitwise_54 : decode cM0_bitwise 54 = .ok (.istore 4, 2) := by decide +kernel
theorem dM0_bitwise_56 : decode cM0_bitwise 56 = .ok (.aload_n 0, 1) := by decide +kernel
theorem dM0_bitwise_57 : decode cM0_bitwise 57 = .ok (.getfield 32, 3) := by decide +kernel
theorem dM0_bitwise_60 : decode cM0_bitwise 60 = .ok (.iload_n 2, 1) := by decide +kernel
theorem dM0_bitwise_61 : decode cM0_bitwise 61 = .ok (.iload_n 1, 1) := by decide +kernel
theorem dM0_bitwise_62 : decode cM0_bitwise 62 = .ok (.iconst 5, 1) := by decide +kernel
theorem dM0_bitwise_63 : decode cM0_bitwise 63 = .ok (.if_icmp .ne 10, 3) := by decide +kernel
theorem dM0_bitwise_66 : decode cM0_bitwise 66 = .ok (.iload_n 3, 1) := by decide +kernel
theorem dM0_bitwise_67 : decode cM0_bitwise 67 = .ok (.iload 4, 2) := by decide +kernel
theorem dM0_bitwise_69 : decode cM0_bitwise 69 = .ok (.iand, 1) := by decide +kernel
theorem dM0_bitwise_70 : decode cM0_bitwise 70 = .ok (.goto 35, 3) := by decide +kernel
theorem dM0_bitwise_73 : decode cM0_bitwise 73 = .ok (.iload_n 1, 1) := by decide +kernel
theorem dM0_bitwise_74 : decode cM0_bitwise 74 = .ok (.bipush 6, 2) := by decide +kernel
theorem dM0_bitwise_76 : decode cM0_bitwise 76 = .ok (.if_icmp .ne 10, 3) := by decide +kernel
theorem dM0_bitwise_79 : decode cM0_bitwise 79 = .ok (.iload_n 3, 1) := by decide +kernel
theorem dM0_bitwise_80 : decode cM0_bitwise 80 = .ok (.iload 4, 2) := by decide +kernel
theorem dM0_bitwise_82 : decode cM0_bitwise 82 = .ok (.ior, 1) := by decide +kernel
theorem dM0_bitwise_83 : decode cM0_bitwise 83 = .ok (.goto 22, 3) := by decide +kernel
theorem dM0_bitwise_86 : decode cM0_bitwise 86 = .ok (.iload_n 1, 1) := by decide +kernel
theorem dM0_bitwise_87 : decode cM0_bitwise 87 = .ok (.bipush 7, 2) := by decide +kernel
theorem dM0_bitwise_89 : decode cM0_bitwise 89 = .ok (.if_icmp .ne 10, 3) := by decide +kernel
theorem dM0_bitwise_92 : decode cM0_bitwise 92 = .ok (.iload_n 3, 1) := by decide +kernel
theorem dM0_bitwise_93 : decode cM0_bitwise 93 = .ok (.iload 4, 2) := by decide +kernel
theorem dM0_bitwise_95 : decode cM0_bitwise 95 = .ok (.ixor, 1) := by decide +kernel
theorem dM0_bitwise_96 : decode cM0_bitwise 96 = .ok (.goto 9, 3) := by decide +kernel
theorem dM0_bitwise_99 : decode cM0_bitwise 99 = .ok (.iload_n 3, 1) := by decide +kernel
theorem dM0_bitwise_100 : decode cM0_bitwise 100 = .ok (.iconst 1, 1) := by decide +kernel
theorem dM0_bitwise_101 : decode cM0_bitwise 101 = .ok (.iload 4, 2) := by decide +kernel
theorem dM0_bitwise_103 : decode cM0_bitwise 103 = .ok (.isub, 1) := by decide +kernel
theorem dM0_bitwise_104 : decode cM0_bitwise 104 = .ok (.iand, 1) := by decide +kernel
theorem dM0_bitwise_105 : decode cM0_bitwise 105 = .ok (.iastore, 1) := by decide +kernel
theorem dM0_bitwise_106 : decode cM0_bitwise 106 = .ok (.iinc 2 1, 3) := by decide +kernel
theorem dM0_bitwise_109 : decode cM0_bitwise 109 = .ok (.goto (-75), 3) := by decide +kernel
theorem dM0_bitwise_112 : decode cM0_bitwise 112 = .ok (.aload_n 0, 1) := by decide +kernel
theorem dM0_bitwise_113 : decode cM0_bitwise 113 = .ok (.aload_n 0, 1) := by decide +kernel
theorem dM0_bitwise_114 : decode cM0_bitwise 114 = .ok (.getfield 32, 3) := by decide +kernel
theorem dM0_bitwise_117 : decode cM0_bitwise 117 = .ok (.invokevirtual 116, 3) := by decide +kernel
theorem dM0_bitwise_120 : decode cM0_bitwise 120 = .ok (.return_, 1) := by decide +kernel
theorem dM0_toBits_0 : decode cM0_toBits 0 = .ok (.aload_n 1, 1) := by decide +kernel
theorem dM0_toBits_1 : decode cM0_toBits 1 = .ok (.aload_n 0, 1) := by decide +kernel
theorem dM0_toBits_2 : decode cM0_toBits 2 = .ok (.getfield 29, 3) := by decide +kernel
theorem dM0_toBits_5 : decode cM0_toBits 5 = .ok (.invokestatic 98, 3) := by decide +kernel
theorem dM0_toBits_8 : decode cM0_toBits 8 = .ok (.iconst 1, 1) := by decide +kernel
theorem dM0_toBits_9 : decode cM0_toBits 9 = .ok (.istore 4, 2) := by decide +kernel
theorem dM0_toBits_11 : decode cM0_toBits 11 = .ok (.iconst 0, 1) := by decide +kernel
theorem dM0_toBits_12 : decode cM0_toBits 12 = .ok (.istore 5, 2) := by decide +kernel
theorem dM0_toBits_14 : decode cM0_toBits 14 = .ok (.iload 5, 2) := by decide +kernel
theorem dM0_toBits_16 : decode cM0_toBits 16 = .ok (.sipush 514, 3) := by decide +kernel
theorem dM0_toBits_19 : decode cM0_toBits 19 = .ok (.if_icmp .ge 50, 3) := by decide +kernel
theorem dM0_toBits_22 : decode cM0_toBits 22 = .ok (.aload_n 0, 1) := by decide +kernel
theorem dM0_toBits_23 : decode cM0_toBits 23 = .ok (.getfield 29, 3) := by decide +kernel
theorem dM0_toBits_26 : decode cM0_toBits 26 = .ok (.iconst 2, 1) := by decide +kernel
theorem dM0_toBits_27 : decode cM0_toBits 27 = .ok (.invokestatic 108, 3) := by decide +kernel
theorem dM0_toBits_30 : decode cM0_toBits 30 = .ok (.istore 6, 2) := by decide +kernel
theorem dM0_toBits_32 : decode cM0_toBits 32 = .ok (.iload_n 2, 1) := by decide +kernel
theorem dM0_toBits_33 : decode cM0_toBits 33 = .ok (.ifCond .eq 24, 3) := by decide +kernel
theorem dM0_toBits_36 : decode cM0_toBits 36 = .ok (.iconst 1, 1) := by decide +kernel
theorem dM0_toBits_37 : decode cM0_toBits 37 = .ok (.iload 6, 2) := by decide +kernel
theorem dM0_toBits_39 : decode cM0_toBits 39 = .ok (.isub, 1) := by decide +kernel
theorem dM0_toBits_40 : decode cM0_toBits 40 = .ok (.iload 4, 2) := by decide +kernel
theorem dM0_toBits_42 : decode cM0_toBits 42 = .ok (.iadd, 1) := by decide +kernel
theorem dM0_toBits_43 : decode cM0_toBits 43 = .ok (.istore 6, 2) := by decide +kernel
theorem dM0_toBits_45 : decode cM0_toBits 45 = .ok (.iload 6, 2) := by decide +kernel
theorem dM0_toBits_47 : decode cM0_toBits 47 = .ok (.iconst 1, 1) := by decide +kernel
theorem dM0_toBits_48 : decode cM0_toBits 48 = .ok (.ishr, 1) := by decide +kernel
theorem dM0_toBits_49 : decode cM0_toBits 49 = .ok (.istore 4, 2) := by decide +kernel
theorem dM0_toBits_51 : decode cM0_toBits 51 = .ok (.iload 6, 2) := by decide +kernel
theorem dM0_toBits_53 : decode cM0_toBits 53 = .ok (.iconst 1, 1) := by decide +kernel
theorem dM0_toBits_54 : decode cM0_toBits 54 = .ok (.iand, 1) := by decide +kernel
theorem dM0_toBits_55 : decode cM0_toBits 55 = .ok (.istore 6, 2) := by decide +kernel
theorem dM0_toBits_57 : decode cM0_toBits 57 = .ok (.aload_n 3, 1) := by decide +kernel
theorem dM0_toBits_58 : decode cM0_toBits 58 = .ok (.iload 5, 2) := by decide +kernel
theorem dM0_toBits_60 : decode cM0_toBits 60 = .ok (.iload 6, 2) := by decide +kernel
theorem dM0_toBits_62 : decode cM0_toBits 62 = .ok (.iastore, 1) := by decide +kernel
theorem dM0_toBits_63 : decode cM0_toBits 63 = .ok (.iinc 5 1, 3) := by decide +kernel
theorem dM0_toBits_66 : decode cM0_toBits 66 = .ok (.goto (-52), 3) := by decide +kernel
theorem dM0_toBits_69 : decode cM0_toBits 69 = .ok (.return_, 1) := by decide +kernel
theorem dM0_shrink_0 : decode cM0_shrink 0 = .ok (.iconst 0, 1) := by decide +kernel
theorem dM0_shrink_1 : decode cM0_shrink 1 = .ok (.istore_n 2, 1) := by decide +kernel
theorem dM0_shrink_2 : decode cM0_shrink 2 = .ok (.sipush 329, 3) := by decide +kernel
theorem dM0_shrink_5 : decode cM0_shrink 5 = .ok (.istore_n 3, 1) := by decide +kernel
theorem dM0_shrink_6 : decode cM0_shrink 6 = .ok (.iload_n 3, 1) := by decide +kernel
theorem dM0_shrink_7 : decode cM0_shrink 7 = .ok (.ifCond .lt 31, 3) := by decide +kernel
theorem dM0_shrink_10 : decode cM0_shrink 10 = .ok (.bipush 10, 2) := by decide +kernel
theorem dM0_shrink_12 : decode cM0_shrink 12 = .ok (.iload_n 2, 1) := by decide +kernel
theorem dM0_shrink_13 : decode cM0_shrink 13 = .ok (.imul, 1) := by decide +kernel
theorem dM0_shrink_14 : decode cM0_shrink 14 = .ok (.aload_n 0, 1) := by decide +kernel
theorem dM0_shrink_15 : decode cM0_shrink 15 = .ok (.iload_n 3, 1) := by decide +kernel
theorem dM0_shrink_16 : decode cM0_shrink 16 = .ok (.iaload, 1) := by decide +kernel
theorem dM0_shrink_17 : decode cM0_shrink 17 = .ok (.iadd, 1) := by decide +kernel
theorem dM0_shrink_18 : decode cM0_shrink 18 = .ok (.istore 4, 2) := by decide +kernel
theorem dM0_shrink_20 : decode cM0_shrink 20 = .ok (.aload_n 0, 1) := by decide +kernel
theorem dM0_shrink_21 : decode cM0_shrink 21 = .ok (.iload_n 3, 1) := by decide +kernel
theorem dM0_shrink_22 : decode cM0_shrink 22 = .ok (.iload 4, 2) := by decide +kernel
theorem dM0_shrink_24 : decode cM0_shrink 24 = .ok (.iload_n 1, 1) := by decide +kernel
theorem dM0_shrink_25 : decode cM0_shrink 25 = .ok (.idiv, 1) := by decide +kernel
theorem dM0_shrink_26 : decode cM0_shrink 26 = .ok (.iastore, 1) := by decide +kernel
theorem dM0_shrink_27 : decode cM0_shrink 27 = .ok (.iload 4, 2) := by decide +kernel
theorem dM0_shrink_29 : decode cM0_shrink 29 = .ok (.iload_n 1, 1) := by decide +kernel
theorem dM0_shrink_30 : decode cM0_shrink 30 = .ok (.irem, 1) := by decide +kernel
theorem dM0_shrink_31 : decode cM0_shrink 31 = .ok (.istore_n 2, 1) := by decide +kernel
theorem dM0_shrink_32 : decode cM0_shrink 32 = .ok (.iinc 3 (-1), 3) := by decide +kernel
theorem dM0_shrink_35 : decode cM0_shrink 35 = .ok (.goto (-29), 3) := by decide +kernel
theorem dM0_shrink_38 : decode cM0_shrink 38 = .ok (.iload_n 2, 1) := by decide +kernel
theorem dM0_shrink_39 : decode cM0_shrink 39 = .ok (.ireturn, 1) := by decide +kernel
theorem dM0_fromBits_0 : decode cM0_fromBits 0 = .ok (.aload_n 0, 1) := by decide +kernel
theorem dM0_fromBits_1 : decode cM0_fromBits 1 = .ok (.aload_n 1, 1) := by decide +kernel
theorem dM0_fromBits_2 : decode cM0_fromBits 2 = .ok (.sipush 513, 3) := by decide +kernel
theorem dM0_fromBits_5 : decode cM0_fromBits 5 = .ok (.iaload, 1) := by decide +kernel
theorem dM0_fromBits_6 : decode cM0_fromBits 6 = .ok (.iconst 1, 1) := by decide +kernel
theorem dM0_fromBits_7 : decode cM0_fromBits 7 = .ok (.if_icmp .ne 7, 3) := by decide +kernel
theorem dM0_fromBits_10 : decode cM0_fromBits 10 = .ok (.iconst 1, 1) := by decide +kernel
theorem dM0_fromBits_11 : decode cM0_fromBits 11 = .ok (.goto 4, 3) := by decide +kernel
theorem dM0_fromBits_14 : decode cM0_fromBits 14 = .ok (.iconst 0, 1) := by decide +kernel
theorem dM0_fromBits_15 : decode cM0_fromBits 15 = .ok (.putfield 75, 3) := by decide +kernel
theorem dM0_fromBits_18 : decode cM0_fromBits 18 = .ok (.aload_n 0, 1) := by decide +kernel
theorem dM0_fromBits_19 : decode cM0_fromBits 19 = .ok (.getfield 26, 3) := by decide +kernel
theorem dM0_fromBits_22 : decode cM0_fromBits 22 = .ok (.invokestatic 52, 3) := by decide +kernel
theorem dM0_fromBits_25 : decode cM0_fromBits 25 = .ok (.sipush 513, 3) := by decide +kernel
theorem dM0_fromBits_28 : decode cM0_fromBits 28 = .ok (.istore_n 2, 1) := by decide +kernel
theorem dM0_fromBits_29 : decode cM0_fromBits 29 = .ok (.iload_n 2, 1) := by decide +kernel
theorem dM0_fromBits_30 : decode cM0_fromBits 30 = .ok (.ifCond .lt 35, 3) := by decide +kernel
theorem dM0_fromBits_33 : decode cM0_fromBits 33 = .ok (.aload_n 0, 1) := by decide +kernel
theorem dM0_fromBits_34 : decode cM0_fromBits 34 = .ok (.getfield 26, 3) := by decide +kernel
theorem dM0_fromBits_37 : decode cM0_fromBits 37 = .ok (.iconst 2, 1) := by decide +kernel
theorem dM0_fromBits_38 : decode cM0_fromBits 38 = .ok (.aload_n 0, 1) := by decide +kernel
theorem dM0_fromBits_39 : decode cM0_fromBits 39 = .ok (.getfield 75, 3) := by decide +kernel
theorem dM0_fromBits_42 : decode cM0_fromBits 42 = .ok (.ifCond .eq 11, 3) := by decide +kernel
theorem dM0_fromBits_45 : decode cM0_fromBits 45 = .ok (.iconst 1, 1) := by decide +kernel
theorem dM0_fromBits_46 : decode cM0_fromBits 46 = .ok (.aload_n 1, 1) := by decide +kernel
theorem dM0_fromBits_47 : decode cM0_fromBits 47 = .ok (.iload_n 2, 1) := by decide +kernel
theorem dM0_fromBits_48 : decode cM0_fromBits 48 = .ok (.iaload, 1) := by decide +kernel
theorem dM0_fromBits_49 : decode cM0_fromBits 49 = .ok (.isub, 1) := by decide +kernel
theorem dM0_fromBits_50 : decode cM0_fromBits 50 = .ok (.goto 6, 3) := by decide +kernel
theorem dM0_fromBits_53 : decode cM0_fromBits 53 = .ok (.aload_n 1, 1) := by decide +kernel
theorem dM0_fromBits_54 : decode cM0_fromBits 54 = .ok (.iload_n 2, 1) := by decide +kernel
theorem dM0_fromBits_55 : decode cM0_fromBits 55 = .ok (.iaload, 1) := by decide +kernel
theorem dM0_fromBits_56 : decode cM0_fromBits 56 = .ok (.invokestatic 56, 3) := by decide +kernel
theorem dM0_fromBits_59 : decode cM0_fromBits 59 = .ok (.iinc 2 (-1), 3) := by decide +kernel
theorem dM0_fromBits_62 : decode cM0_fromBits 62 = .ok (.goto (-33), 3) := by decide +kernel
theorem dM0_fromBits_65 : decode cM0_fromBits 65 = .ok (.aload_n 0, 1) := by decide +kernel
theorem dM0_fromBits_66 : decode cM0_fromBits 66 = .ok (.getfield 75, 3) := by decide +kernel
theorem dM0_fromBits_69 : decode cM0_fromBits 69 = .ok (.ifCond .ne 4, 3) := by decide +kernel
theorem dM0_fromBits_72 : decode cM0_fromBits 72 = .ok (.return_, 1) := by decide +kernel
theorem dM0_fromBits_73 : decode cM0_fromBits 73 = .ok (.aload_n 0, 1) := by decide +kernel
theorem dM0_fromBits_74 : decode cM0_fromBits 74 = .ok (.getfield 29, 3) := by decide +kernel
theorem dM0_fromBits_77 : decode cM0_fromBits 77 = .ok (.invokestatic 52, 3) := by decide +kernel
theorem dM0_fromBits_80 : decode cM0_fromBits 80 = .ok (.aload_n 0, 1) := by decide +kernel
theorem dM0_fromBits_81 : decode cM0_fromBits 81 = .ok (.getfield 29, 3) := by decide +kernel
theorem dM0_fromBits_84 : decode cM0_fromBits 84 = .ok (.iconst 0, 1) := by decide +kernel
theorem dM0_fromBits_85 : decode cM0_fromBits 85 = .ok (.iconst 1, 1) := by decide +kernel
theorem dM0_fromBits_86 : decode cM0_fromBits 86 = .ok (.iastore, 1) := by decide +kernel
theorem dM0_fromBits_87 : decode cM0_fromBits 87 = .ok (.aload_n 0, 1) := by decide +kernel
theorem dM0_fromBits_88 : decode cM0_fromBits 88 = .ok (.getfield 26, 3) := by decide +kernel
theorem dM0_fromBits_91 : decode cM0_fromBits 91 = .ok (.aload_n 0, 1) := by decide +kernel
theorem dM0_fromBits_92 : decode cM0_fromBits 92 = .ok (.getfield 29, 3) := by decide +kernel
theorem dM0_fromBits_95 : decode cM0_fromBits 95 = .ok (.invokestatic 102, 3) := by decide +kernel
theorem dM0_fromBits_98 : decode cM0_fromBits 98 = .ok (.return_, 1) := by decide +kernel
theorem dM0_shift_0 : decode cM0_shift 0 = .ok (.aload_n 0, 1) := by decide +kernel
theorem dM0_shift_1 : decode cM0_shift 1 = .ok (.iconst 0, 1) := by decide +kernel
theorem dM0_shift_2 : decode cM0_shift 2 = .ok (.putfield 48, 3) := by decide +kernel
theorem dM0_shift_5 : decode cM0_shift 5 = .ok (.iload_n 1, 1) := by decide +kernel
theorem dM0_shift_6 : decode cM0_shift 6 = .ok (.invokestatic 82, 3) := by decide +kernel
theorem dM0_shift_9 : decode cM0_shift 9 = .ok (.ifCond .eq 21, 3) := by decide +kernel
theorem dM0_shift_12 : decode cM0_shift 12 = .ok (.iload_n 2, 1) := by decide +kernel
theorem dM0_shift_13 : decode cM0_shift 13 = .ok (.invokestatic 82, 3) := by decide +kernel
theorem dM0_shift_16 : decode cM0_shift 16 = .ok (.ifCond .eq 14, 3) := by decide +kernel
theorem dM0_shift_19 : decode cM0_shift 19 = .ok (.iload_n 3, 1) := by decide +kernel
theorem dM0_shift_20 : decode cM0_shift 20 = .ok (.ifCond .lt 10, 3) := by decide +kernel
theorem dM0_shift_23 : decode cM0_shift 23 = .ok (.iload_n 3, 1) := by decide +kernel
theorem dM0_shift_24 : decode cM0_shift 24 = .ok (.sipush 1000, 3) := by decide +kernel
theorem dM0_shift_27 : decode cM0_shift 27 = .ok (.if_icmp .le 5, 3) := by decide +kernel
theorem dM0_shift_30 : decode cM0_shift 30 = .ok (.iconst 3, 1) := by decide +kernel
theorem dM0_shift_31 : decode cM0_shift 31 = .ok (.ireturn, 1) := by decide +kernel
theorem dM0_shift_32 : decode cM0_shift 32 = .ok (.aload_n 0, 1) := by decide +kernel
theorem dM0_shift_33 : decode cM0_shift 33 = .ok (.iload_n 2, 1) := by decide +kernel
theorem dM0_shift_34 : decode cM0_shift 34 = .ok (.aload_n 0, 1) := by decide +kernel
theorem dM0_shift_35 : decode cM0_shift 35 = .ok (.getfield 26, 3) := by decide +kernel
theorem dM0_shift_38 : decode cM0_shift 38 = .ok (.invokevirtual 60, 3) := by decide +kernel
theorem dM0_shift_41 : decode cM0_shift 41 = .ok (.aload_n 0, 1) := by decide +kernel
theorem dM0_shift_42 : decode cM0_shift 42 = .ok (.aload_n 0, 1) := by decide +kernel
theorem dM0_shift_43 : decode cM0_shift 43 = .ok (.getfield 13, 3) := by decide +kernel
theorem dM0_shift_46 : decode cM0_shift 46 = .ok (.iload_n 2, 1) := by decide +kernel
theorem dM0_shift_47 : decode cM0_shift 47 = .ok (.baload, 1) := by decide +kernel
theorem dM0_shift_48 : decode cM0_shift 48 = .ok (.putfield 75, 3) := by decide +kernel
theorem dM0_shift_51 : decode cM0_shift 51 = .ok (.iconst 0, 1) := by decide +kernel
theorem dM0_shift_52 : decode cM0_shift 52 = .ok (.istore 5, 2) := by decide +kernel
theorem dM0_shift_54 : decode cM0_shift 54 = .ok (.iload 5, 2) := by decide +kernel
theorem dM0_shift_56 : decode cM0_shift 56 = .ok (.iload_n 3, 1) := by decide +kernel
theorem dM0_shift_57 : decode cM0_shift 57 = .ok (.if_icmp .ge 71, 3) := by decide +kernel
theorem dM0_shift_60 : decode cM0_shift 60 = .ok (.iload 4, 2) := by decide +kernel
theorem dM0_shift_62 : decode cM0_shift 62 = .ok (.ifCond .eq 28, 3) := by decide +kernel
theorem dM0_shift_65 : decode cM0_shift 65 = .ok (.aload_n 0, 1) := by decide +kernel
theorem dM0_shift_66 : decode cM0_shift 66 = .ok (.getfield 26, 3) := by decide +kernel
theorem dM0_shift_69 : decode cM0_shift 69 = .ok (.iconst 2, 1) := by decide +kernel
theorem dM0_shift_70 : decode cM0_shift 70 = .ok (.iconst 0, 1) := by decide +kernel
theorem dM0_shift_71 : decode cM0_shift 71 = .ok (.invokestatic 56, 3) := by decide +kernel
theorem dM0_shift_74 : decode cM0_shift 74 = .ok (.aload_n 0, 1) := by decide +kernel
theorem dM0_shift_75 : decode cM0_shift 75 = .ok (.getfield 26, 3) := by decide +kernel
theorem dM0_shift_78 : decode cM0_shift 78 = .ok (.aload_n 0, 1) := by decide +kernel
theorem dM0_shift_79 : decode cM0_shift 79 = .ok (.getfield 17, 3) := by decide +kernel
theorem dM0_shift_82 : decode cM0_shift 82 = .ok (.invokestatic 71, 3) := by decide +kernel
theorem dM0_shift_85 : decode cM0_shift 85 = .ok (.ifCond .lt 37, 3) := by decide +kernel
theorem dM0_shift_88 : decode cM0_shift 88 = .ok (.iconst 1, 1) := by decide +kernel
theorem dM0_shift_89 : decode cM0_shift 89 = .ok (.ireturn, 1) := by decide +kernel
theorem dM0_shift_90 : decode cM0_shift 90 = .ok (.aload_n 0, 1) := by decide +kernel
theorem dM0_shift_91 : decode cM0_shift 91 = .ok (.getfield 26, 3) := by decide +kernel
theorem dM0_shift_94 : decode cM0_shift 94 = .ok (.iconst 2, 1) := by decide +kernel
theorem dM0_shift_95 : decode cM0_shift 95 = .ok (.invokestatic 108, 3) := by decide +kernel
theorem dM0_shift_98 : decode cM0_shift 98 = .ok (.istore 6, 2) := by decide +kernel
theorem dM0_shift_100 : decode cM0_shift 100 = .ok (.aload_n 0, 1) := by decide +kernel
theorem dM0_shift_101 : decode cM0_shift 101 = .ok (.getfield 75, 3) := by decide +kernel
theorem dM0_shift_104 : decode cM0_shift 104 = .ok (.ifCond .eq 18, 3) := by decide +kernel
theorem dM0_shift_107 : decode cM0_shift 107 = .ok (.iload 6, 2) := by decide +kernel
theorem dM0_shift_109 : decode cM0_shift 109 = .ok (.iconst 1, 1) := by decide +kernel
theorem dM0_shift_110 : decode cM0_shift 110 = .ok (.if_icmp .ne 12, 3) := by decide +kernel
theorem dM0_shift_113 : decode cM0_shift 113 = .ok (.aload_n 0, 1) := by decide +kernel
theorem dM0_shift_114 : decode cM0_shift 114 = .ok (.getfield 26, 3) := by decide +kernel
theorem dM0_shift_117 : decode cM0_shift 117 = .ok (.iconst 1, 1) := by decide +kernel
theorem dM0_shift_118 : decode cM0_shift 118 = .ok (.iconst 1, 1) := by decide +kernel
theorem dM0_shift_119 : decode cM0_shift 119 = .ok (.invokestatic 56, 3) := by decide +kernel
theorem dM0_shift_122 : decode cM0_shift 122 = .ok (.iinc 5 1, 3) := by decide +kernel
theorem dM0_shift_125 : decode cM0_shift 125 = .ok (.goto (-71), 3) := by decide +kernel
theorem dM0_shift_128 : decode cM0_shift 128 = .ok (.aload_n 0, 1) := by decide +kernel
theorem dM0_shift_129 : decode cM0_shift 129 = .ok (.iload_n 1, 1) := by decide +kernel
theorem dM0_shift_130 : decode cM0_shift 130 = .ok (.invokevirtual 86, 3) := by decide +kernel
theorem dM0_shift_133 : decode cM0_shift 133 = .ok (.ireturn, 1) := by decide +kernel
theorem dM0_turn_0 : decode cM0_turn 0 = .ok (.aload_n 0, 1) := by decide +kernel
theorem dM0_turn_1 : decode cM0_turn 1 = .ok (.iconst 0, 1) := by decide +kernel
theorem dM0_turn_2 : decode cM0_turn 2 = .ok (.putfield 48, 3) := by decide +kernel
theorem dM0_turn_5 : decode cM0_turn 5 = .ok (.iload_n 1, 1) := by decide +kernel
theorem dM0_turn_6 : decode cM0_turn 6 = .ok (.invokestatic 82, 3) := by decide +kernel
theorem dM0_turn_9 : decode cM0_turn 9 = .ok (.ifCond .eq 10, 3) := by decide +kernel
theorem dM0_turn_12 : decode cM0_turn 12 = .ok (.iload_n 2, 1) := by decide +kernel
theorem dM0_turn_13 : decode cM0_turn 13 = .ok (.invokestatic 82, 3) := by decide +kernel
theorem dM0_turn_16 : decode cM0_turn 16 = .ok (.ifCond .ne 5, 3) := by decide +kernel
theorem dM0_turn_19 : decode cM0_turn 19 = .ok (.iconst 3, 1) := by decide +kernel
theorem dM0_turn_20 : decode cM0_turn 20 = .ok (.ireturn, 1) := by decide +kernel
theorem dM0_turn_21 : decode cM0_turn 21 = .ok (.iload_n 3, 1) := by decide +kernel
theorem dM0_turn_22 : decode cM0_turn 22 = .ok (.ifCond .ne 36, 3) := by decide +kernel
theorem dM0_turn_25 : decode cM0_turn 25 = .ok (.aload_n 0, 1) := by decide +kernel
theorem dM0_turn_26 : decode cM0_turn 26 = .ok (.iload_n 2, 1) := by decide +kernel
theorem dM0_turn_27 : decode cM0_turn 27 = .ok (.aload_n 0, 1) := by decide +kernel
theorem dM0_turn_28 : decode cM0_turn 28 = .ok (.getfield 26, 3) := by decide +kernel
theorem dM0_turn_31 : decode cM0_turn 31 = .ok (.invokevirtual 60, 3) := by decide +kernel
theorem dM0_turn_34 : decode cM0_turn 34 = .ok (.aload_n 0, 1) := by decide +kernel
theorem dM0_turn_35 : decode cM0_turn 35 = .ok (.aload_n 0, 1) := by decide +kernel
theorem dM0_turn_36 : decode cM0_turn 36 = .ok (.getfield 13, 3) := by decide +kernel
theorem dM0_turn_39 : decode cM0_turn 39 = .ok (.iload_n 2, 1) := by decide +kernel
theorem dM0_turn_40 : decode cM0_turn 40 = .ok (.baload, 1) := by decide +kernel
theorem dM0_turn_41 : decode cM0_turn 41 = .ok (.ifCond .ne 7, 3) := by decide +kernel
theorem dM0_turn_44 : decode cM0_turn 44 = .ok (.iconst 1, 1) := by decide +kernel
theorem dM0_turn_45 : decode cM0_turn 45 = .ok (.goto 4, 3) := by decide +kernel
theorem dM0_turn_48 : decode cM0_turn 48 = .ok (.iconst 0, 1) := by decide +kernel
theorem dM0_turn_49 : decode cM0_turn 49 = .ok (.putfield 75, 3) := by decide +kernel
theorem dM0_turn_52 : decode cM0_turn 52 = .ok (.aload_n 0, 1) := by decide +kernel
theorem dM0_turn_53 : decode cM0_turn 53 = .ok (.iload_n 1, 1) := by decide +kernel
theorem dM0_turn_54 : decode cM0_turn 54 = .ok (.invokevirtual 86, 3) := by decide +kernel
theorem dM0_turn_57 : decode cM0_turn 57 = .ok (.ireturn, 1) := by decide +kernel
theorem dM0_turn_58 : decode cM0_turn 58 = .ok (.aload_n 0, 1) := by decide +kernel
theorem dM0_turn_59 : decode cM0_turn 59 = .ok (.iload_n 2, 1) := by decide +kernel
theorem dM0_turn_60 : decode cM0_turn 60 = .ok (.iload_n 2, 1) := by decide +kernel
theorem dM0_turn_61 : decode cM0_turn 61 = .ok (.invokevirtual 119, 3) := by decide +kernel
theorem dM0_turn_64 : decode cM0_turn 64 = .ok (.aload_n 0, 1) := by decide +kernel
theorem dM0_turn_65 : decode cM0_turn 65 = .ok (.getfield 20, 3) := by decide +kernel
theorem dM0_turn_68 : decode cM0_turn 68 = .ok (.aload_n 0, 1) := by decide +kernel
theorem dM0_turn_69 : decode cM0_turn 69 = .ok (.getfield 23, 3) := by decide +kernel
theorem dM0_turn_72 : decode cM0_turn 72 = .ok (.invokestatic 98, 3) := by decide +kernel
theorem dM0_turn_75 : decode cM0_turn 75 = .ok (.aload_n 0, 1) := by decide +kernel
theorem dM0_turn_76 : decode cM0_turn 76 = .ok (.aload_n 0, 1) := by decide +kernel
theorem dM0_turn_77 : decode cM0_turn 77 = .ok (.getfield 64, 3) := by decide +kernel
theorem dM0_turn_80 : decode cM0_turn 80 = .ok (.putfield 68, 3) := by decide +kernel
theorem dM0_turn_83 : decode cM0_turn 83 = .ok (.aload_n 0, 1) := by decide +kernel
theorem dM0_turn_84 : decode cM0_turn 84 = .ok (.getfield 20, 3) := by decide +kernel
theorem dM0_turn_87 : decode cM0_turn 87 = .ok (.invokestatic 52, 3) := by decide +kernel
theorem dM0_turn_90 : decode cM0_turn 90 = .ok (.aload_n 0, 1) := by decide +kernel
theorem dM0_turn_91 : decode cM0_turn 91 = .ok (.getfield 20, 3) := by decide +kernel
theorem dM0_turn_94 : decode cM0_turn 94 = .ok (.iconst 0, 1) := by decide +kernel
theorem dM0_turn_95 : decode cM0_turn 95 = .ok (.iconst 1, 1) := by decide +kernel
theorem dM0_turn_96 : decode cM0_turn 96 = .ok (.iastore, 1) := by decide +kernel
theorem dM0_turn_97 : decode cM0_turn 97 = .ok (.aload_n 0, 1) := by decide +kernel
theorem dM0_turn_98 : decode cM0_turn 98 = .ok (.iconst 1, 1) := by decide +kernel
theorem dM0_turn_99 : decode cM0_turn 99 = .ok (.putfield 64, 3) := by decide +kernel
theorem dM0_turn_102 : decode cM0_turn 102 = .ok (.aload_n 0, 1) := by decide +kernel
theorem dM0_turn_103 : decode cM0_turn 103 = .ok (.iconst 1, 1) := by decide +kernel
theorem dM0_turn_104 : decode cM0_turn 104 = .ok (.invokevirtual 123, 3) := by decide +kernel
theorem dM0_turn_107 : decode cM0_turn 107 = .ok (.aload_n 0, 1) := by decide +kernel
theorem dM0_turn_108 : decode cM0_turn 108 = .ok (.iload_n 1, 1) := by decide +kernel
theorem dM0_turn_109 : decode cM0_turn 109 = .ok (.invokevirtual 86, 3) := by decide +kernel
theorem dM0_turn_112 : decode cM0_turn 112 = .ok (.ireturn, 1) := by decide +kernel
theorem dM0_compare_0 : decode cM0_compare 0 = .ok (.aload_n 0, 1) := by decide +kernel
theorem dM0_compare_1 : decode cM0_compare 1 = .ok (.iconst 0, 1) := by decide +kernel
theorem dM0_compare_2 : decode cM0_compare 2 = .ok (.putfield 48, 3) := by decide +kernel
theorem dM0_compare_5 : decode cM0_compare 5 = .ok (.iload_n 1, 1) := by decide +kernel
theorem dM0_compare_6 : decode cM0_compare 6 = .ok (.invokestatic 82, 3) := by decide +kernel
theorem dM0_compare_9 : decode cM0_compare 9 = .ok (.ifCond .eq 10, 3) := by decide +kernel
theorem dM0_compare_12 : decode cM0_compare 12 = .ok (.iload_n 2, 1) := by decide +kernel
theorem dM0_compare_13 : decode cM0_compare 13 = .ok (.invokestatic 82, 3) := by decide +kernel
theorem dM0_compare_16 : decode cM0_compare 16 = .ok (.ifCond .ne 6, 3) := by decide +kernel
theorem dM0_compare_19 : decode cM0_compare 19 = .ok (.bipush (-2), 2) := by decide +kernel
theorem dM0_compare_21 : decode cM0_compare 21 = .ok (.ireturn, 1) := by decide +kernel
theorem dM0_compare_22 : decode cM0_compare 22 = .ok (.aload_n 0, 1) := by decide +kernel
theorem dM0_compare_23 : decode cM0_compare 23 = .ok (.iload_n 1, 1) := by decide +kernel
theorem dM0_compare_24 : decode cM0_compare 24 = .ok (.iload_n 2, 1) := by decide +kernel
theorem dM0_compare_25 : decode cM0_compare 25 = .ok (.invokevirtual 119, 3) := by decide +kernel
theorem dM0_compare_28 : decode cM0_compare 28 = .ok (.aload_n 0, 1) := by decide +kernel
theorem dM0_compare_29 : decode cM0_compare 29 = .ok (.getfield 64, 3) := by decide +kernel
theorem dM0_compare_32 : decode cM0_compare 32 = .ok (.aload_n 0, 1) := by decide +kernel
theorem dM0_compare_33 : decode cM0_compare 33 = .ok (.getfield 68, 3) := by decide +kernel
theorem dM0_compare_36 : decode cM0_compare 36 = .ok (.if_icmp .eq 16, 3) := by decide +kernel
theorem dM0_compare_39 : decode cM0_compare 39 = .ok (.aload_n 0, 1) := by decide +kernel
theorem dM0_compare_40 : decode cM0_compare 40 = .ok (.getfield 64, 3) := by decide +kernel
theorem dM0_compare_43 : decode cM0_compare 43 = .ok (.ifCond .eq 7, 3) := by decide +kernel
theorem dM0_compare_46 : decode cM0_compare 46 = .ok (.iconst (-1), 1) := by decide +kernel
theorem dM0_compare_47 : decode cM0_compare 47 = .ok (.goto 4, 3) := by decide +kernel
theorem dM0_compare_50 : decode cM0_compare 50 = .ok (.iconst 1, 1) := by decide +kernel
theorem dM0_compare_51 : decode cM0_compare 51 = .ok (.ireturn, 1) := by decide +kernel
theorem dM0_compare_52 : decode cM0_compare 52 = .ok (.aload_n 0, 1) := by decide +kernel
theorem dM0_compare_53 : decode cM0_compare 53 = .ok (.getfield 20, 3) := by decide +kernel
theorem dM0_compare_56 : decode cM0_compare 56 = .ok (.aload_n 0, 1) := by decide +kernel
theorem dM0_compare_57 : decode cM0_compare 57 = .ok (.getfield 23, 3) := by decide +kernel
theorem dM0_compare_60 : decode cM0_compare 60 = .ok (.invokestatic 71, 3) := by decide +kernel
theorem dM0_compare_63 : decode cM0_compare 63 = .ok (.istore_n 3, 1) := by decide +kernel
theorem dM0_compare_64 : decode cM0_compare 64 = .ok (.aload_n 0, 1) := by decide +kernel
theorem dM0_compare_65 : decode cM0_compare 65 = .ok (.getfield 64, 3) := by decide +kernel
theorem dM0_compare_68 : decode cM0_compare 68 = .ok (.ifCond .eq 8, 3) := by decide +kernel
theorem dM0_compare_71 : decode cM0_compare 71 = .ok (.iload_n 3, 1) := by decide +kernel
theorem dM0_compare_72 : decode cM0_compare 72 = .ok (.ineg, 1) := by decide +kernel
theorem dM0_compare_73 : decode cM0_compare 73 = .ok (.goto 4, 3) := by decide +kernel
theorem dM0_compare_76 : decode cM0_compare 76 = .ok (.iload_n 3, 1) := by decide +kernel
theorem dM0_compare_77 : decode cM0_compare 77 = .ok (.ireturn, 1) := by decide +kernel
theorem dM0_bits_0 : decode cM0_bits 0 = .ok (.aload_n 0, 1) := by decide +kernel
theorem dM0_bits_1 : decode cM0_bits 1 = .ok (.iconst 0, 1) := by decide +kernel
theorem dM0_bits_2 : decode cM0_bits 2 = .ok (.putfield 48, 3) := by decide +kernel
theorem dM0_bits_5 : decode cM0_bits 5 = .ok (.iload_n 1, 1) := by decide +kernel
theorem dM0_bits_6 : decode cM0_bits 6 = .ok (.invokestatic 82, 3) := by decide +kernel
theorem dM0_bits_9 : decode cM0_bits 9 = .ok (.ifCond .ne 5, 3) := by decide +kernel
theorem dM0_bits_12 : decode cM0_bits 12 = .ok (.iconst (-1), 1) := by decide +kernel
theorem dM0_bits_13 : decode cM0_bits 13 = .ok (.ireturn, 1) := by decide +kernel
theorem dM0_bits_14 : decode cM0_bits 14 = .ok (.aload_n 0, 1) := by decide +kernel
theorem dM0_bits_15 : decode cM0_bits 15 = .ok (.iload_n 1, 1) := by decide +kernel
theorem dM0_bits_16 : decode cM0_bits 16 = .ok (.aload_n 0, 1) := by decide +kernel
theorem dM0_bits_17 : decode cM0_bits 17 = .ok (.getfield 20, 3) := by decide +kernel
theorem dM0_bits_20 : decode cM0_bits 20 = .ok (.invokevirtual 60, 3) := by decide +kernel
theorem dM0_bits_23 : decode cM0_bits 23 = .ok (.iconst 0, 1) := by decide +kernel
theorem dM0_bits_24 : decode cM0_bits 24 = .ok (.istore_n 2, 1) := by decide +kernel
theorem dM0_bits_25 : decode cM0_bits 25 = .ok (.aload_n 0, 1) := by decide +kernel
theorem dM0_bits_26 : decode cM0_bits 26 = .ok (.getfield 20, 3) := by decide +kernel
theorem dM0_bits_29 : decode cM0_bits 29 = .ok (.invokestatic 78, 3) := by decide +kernel
theorem dM0_bits_32 : decode cM0_bits 32 = .ok (.ifCond .ne 18, 3) := by decide +kernel
theorem dM0_bits_35 : decode cM0_bits 35 = .ok (.aload_n 0, 1) := by decide +kernel
theorem dM0_bits_36 : decode cM0_bits 36 = .ok (.getfield 20, 3) := by decide +kernel
theorem dM0_bits_39 : decode cM0_bits 39 = .ok (.iconst 2, 1) := by decide +kernel
theorem dM0_bits_40 : decode cM0_bits 40 = .ok (.invokestatic 108, 3) := by decide +kernel
theorem dM0_bits_43 : decode cM0_bits 43 = .ok (.istore_n 3, 1) := by decide +kernel
theorem dM0_bits_44 : decode cM0_bits 44 = .ok (.iinc 2 1, 3) := by decide +kernel
theorem dM0_bits_47 : decode cM0_bits 47 = .ok (.goto (-22), 3) := by decide +kernel
theorem dM0_bits_50 : decode cM0_bits 50 = .ok (.iload_n 2, 1) := by decide +kernel
theorem dM0_bits_51 : decode cM0_bits 51 = .ok (.ireturn, 1) := by decide +kernel
theorem dM0_fits_0 : decode cM0_fits 0 = .ok (.aload_n 0, 1) := by decide +kernel
theorem dM0_fits_1 : decode cM0_fits 1 = .ok (.iconst 0, 1) := by decide +kernel
theorem dM0_fits_2 : decode cM0_fits 2 = .ok (.putfield 48, 3) := by decide +kernel
theorem dM0_fits_5 : decode cM0_fits 5 = .ok (.iload_n 1, 1) := by decide +kernel
theorem dM0_fits_6 : decode cM0_fits 6 = .ok (.invokestatic 82, 3) := by decide +kernel
theorem dM0_fits_9 : decode cM0_fits 9 = .ok (.ifCond .eq 14, 3) := by decide +kernel
theorem dM0_fits_12 : decode cM0_fits 12 = .ok (.iload_n 2, 1) := by decide +kernel
theorem dM0_fits_13 : decode cM0_fits 13 = .ok (.iconst 1, 1) := by decide +kernel
theorem dM0_fits_14 : decode cM0_fits 14 = .ok (.if_icmp .lt 9, 3) := by decide +kernel
theorem dM0_fits_17 : decode cM0_fits 17 = .ok (.iload_n 2, 1) := by decide +kernel
theorem dM0_fits_18 : decode cM0_fits 18 = .ok (.bipush 64, 2) := by decide +kernel
theorem dM0_fits_20 : decode cM0_fits 20 = .ok (.if_icmp .le 5, 3) := by decide +kernel
theorem dM0_fits_23 : decode cM0_fits 23 = .ok (.iconst 0, 1) := by decide +kernel
theorem dM0_fits_24 : decode cM0_fits 24 = .ok (.ireturn, 1) := by decide +kernel
theorem dM0_fits_25 : decode cM0_fits 25 = .ok (.aload_n 0, 1) := by decide +kernel
theorem dM0_fits_26 : decode cM0_fits 26 = .ok (.iload_n 1, 1) := by decide +kernel
theorem dM0_fits_27 : decode cM0_fits 27 = .ok (.aload_n 0, 1) := by decide +kernel
theorem dM0_fits_28 : decode cM0_fits 28 = .ok (.getfield 20, 3) := by decide +kernel
theorem dM0_fits_31 : decode cM0_fits 31 = .ok (.invokevirtual 60, 3) := by decide +kernel
theorem dM0_fits_34 : decode cM0_fits 34 = .ok (.aload_n 0, 1) := by decide +kernel
theorem dM0_fits_35 : decode cM0_fits 35 = .ok (.getfield 23, 3) := by decide +kernel
theorem dM0_fits_38 : decode cM0_fits 38 = .ok (.iload_n 3, 1) := by decide +kernel
theorem dM0_fits_39 : decode cM0_fits 39 = .ok (.ifCond .eq 9, 3) := by decide +kernel
theorem dM0_fits_42 : decode cM0_fits 42 = .ok (.iload_n 2, 1) := by decide +kernel
theorem dM0_fits_43 : decode cM0_fits 43 = .ok (.iconst 1, 1) := by decide +kernel
theorem dM0_fits_44 : decode cM0_fits 44 = .ok (.isub, 1) := by decide +kernel
theorem dM0_fits_45 : decode cM0_fits 45 = .ok (.goto 4, 3) := by decide +kernel
theorem dM0_fits_48 : decode cM0_fits 48 = .ok (.iload_n 2, 1) := by decide +kernel
theorem dM0_fits_49 : decode cM0_fits 49 = .ok (.invokestatic 44, 3) := by decide +kernel
theorem dM0_fits_52 : decode cM0_fits 52 = .ok (.aload_n 0, 1) := by decide +kernel
theorem dM0_fits_53 : decode cM0_fits 53 = .ok (.getfield 20, 3) := by decide +kernel
theorem dM0_fits_56 : decode cM0_fits 56 = .ok (.aload_n 0, 1) := by decide +kernel
theorem dM0_fits_57 : decode cM0_fits 57 = .ok (.getfield 23, 3) := by decide +kernel
theorem dM0_fits_60 : decode cM0_fits 60 = .ok (.invokestatic 71, 3) := by decide +kernel
theorem dM0_fits_63 : decode cM0_fits 63 = .ok (.istore 4, 2) := by decide +kernel
theorem dM0_fits_65 : decode cM0_fits 65 = .ok (.aload_n 0, 1) := by decide +kernel
theorem dM0_fits_66 : decode cM0_fits 66 = .ok (.getfield 13, 3) := by decide +kernel
theorem dM0_fits_69 : decode cM0_fits 69 = .ok (.iload_n 1, 1) := by decide +kernel
theorem dM0_fits_70 : decode cM0_fits 70 = .ok (.baload, 1) := by decide +kernel
theorem dM0_fits_71 : decode cM0_fits 71 = .ok (.ifCond .eq 20, 3) := by decide +kernel
theorem dM0_fits_74 : decode cM0_fits 74 = .ok (.iload_n 3, 1) := by decide +kernel
theorem dM0_fits_75 : decode cM0_fits 75 = .ok (.ifCond .eq 12, 3) := by decide +kernel
theorem dM0_fits_78 : decode cM0_fits 78 = .ok (.iload 4, 2) := by decide +kernel
theorem dM0_fits_80 : decode cM0_fits 80 = .ok (.ifCond .gt 7, 3) := by decide +kernel
theorem dM0_fits_83 : decode cM0_fits 83 = .ok (.iconst 1, 1) := by decide +kernel
theorem dM0_fits_84 : decode cM0_fits 84 = .ok (.goto 17, 3) := by decide +kernel
theorem dM0_fits_87 : decode cM0_fits 87 = .ok (.iconst 0, 1) := by decide +kernel
theorem dM0_fits_88 : decode cM0_fits 88 = .ok (.goto 13, 3) := by decide +kernel
theorem dM0_fits_91 : decode cM0_fits 91 = .ok (.iload 4, 2) := by decide +kernel
theorem dM0_fits_93 : decode cM0_fits 93 = .ok (.ifCond .ge 7, 3) := by decide +kernel
theorem dM0_fits_96 : decode cM0_fits 96 = .ok (.iconst 1, 1) := by decide +kernel
theorem dM0_fits_97 : decode cM0_fits 97 = .ok (.goto 4, 3) := by decide +kernel
theorem dM0_fits_100 : decode cM0_fits 100 = .ok (.iconst 0, 1) := by decide +kernel
theorem dM0_fits_101 : decode cM0_fits 101 = .ok (.ireturn, 1) := by decide +kernel
theorem dM0_cut_0 : decode cM0_cut 0 = .ok (.aload_n 0, 1) := by decide +kernel
theorem dM0_cut_1 : decode cM0_cut 1 = .ok (.iconst 0, 1) := by decide +kernel
theorem dM0_cut_2 : decode cM0_cut 2 = .ok (.putfield 48, 3) := by decide +kernel
theorem dM0_cut_5 : decode cM0_cut 5 = .ok (.iload_n 1, 1) := by decide +kernel
theorem dM0_cut_6 : decode cM0_cut 6 = .ok (.invokestatic 82, 3) := by decide +kernel
theorem dM0_cut_9 : decode cM0_cut 9 = .ok (.ifCond .eq 14, 3) := by decide +kernel
theorem dM0_cut_12 : decode cM0_cut 12 = .ok (.iload_n 2, 1) := by decide +kernel
theorem dM0_cut_13 : decode cM0_cut 13 = .ok (.iconst 1, 1) := by decide +kernel
theorem dM0_cut_14 : decode cM0_cut 14 = .ok (.if_icmp .lt 9, 3) := by decide +kernel
theorem dM0_cut_17 : decode cM0_cut 17 = .ok (.iload_n 2, 1) := by decide +kernel
theorem dM0_cut_18 : decode cM0_cut 18 = .ok (.bipush 64, 2) := by decide +kernel
theorem dM0_cut_20 : decode cM0_cut 20 = .ok (.if_icmp .le 5, 3) := by decide +kernel
theorem dM0_cut_23 : decode cM0_cut 23 = .ok (.lconst 0, 1) := by decide +kernel
theorem dM0_cut_24 : decode cM0_cut 24 = .ok (.lreturn, 1) := by decide +kernel
theorem dM0_cut_25 : decode cM0_cut 25 = .ok (.lconst 0, 1) := by decide +kernel
theorem dM0_cut_26 : decode cM0_cut 26 = .ok (.lstore 4, 2) := by decide +kernel
theorem dM0_cut_28 : decode cM0_cut 28 = .ok (.sipush 159, 3) := by decide +kernel
theorem dM0_cut_31 : decode cM0_cut 31 = .ok (.istore 6, 2) := by decide +kernel
theorem dM0_cut_33 : decode cM0_cut 33 = .ok (.iload 6, 2) := by decide +kernel
theorem dM0_cut_35 : decode cM0_cut 35 = .ok (.ifCond .lt 32, 3) := by decide +kernel
theorem dM0_cut_38 : decode cM0_cut 38 = .ok (.ldc2_w 137, 3) := by decide +kernel
theorem dM0_cut_41 : decode cM0_cut 41 = .ok (.lload 4, 2) := by decide +kernel
theorem dM0_cut_43 : decode cM0_cut 43 = .ok (.lmul, 1) := by decide +kernel
theorem dM0_cut_44 : decode cM0_cut 44 = .ok (.aload_n 0, 1) := by decide +kernel
theorem dM0_cut_45 : decode cM0_cut 45 = .ok (.getfield 7, 3) := by decide +kernel
theorem dM0_cut_48 : decode cM0_cut 48 = .ok (.sipush 160, 3) := by decide +kernel
theorem dM0_cut_51 : decode cM0_cut 51 = .ok (.iload_n 1, 1) := by decide +kernel
theorem dM0_cut_52 : decode cM0_cut 52 = .ok (.imul, 1) := by decide +kernel
theorem dM0_cut_53 : decode cM0_cut 53 = .ok (.iload 6, 2) := by decide +kernel
theorem dM0_cut_55 : decode cM0_cut 55 = .ok (.iadd, 1) := by decide +kernel
theorem dM0_cut_56 : decode cM0_cut 56 = .ok (.iaload, 1) := by decide +kernel
theorem dM0_cut_57 : decode cM0_cut 57 = .ok (.i2l, 1) := by decide +kernel
theorem dM0_cut_58 : decode cM0_cut 58 = .ok (.ladd, 1) := by decide +kernel
theorem dM0_cut_59 : decode cM0_cut 59 = .ok (.lstore 4, 2) := by decide +kernel
theorem dM0_cut_61 : decode cM0_cut 61 = .ok (.iinc 6 (-1), 3) := by decide +kernel
theorem dM0_cut_64 : decode cM0_cut 64 = .ok (.goto (-31), 3) := by decide +kernel
theorem dM0_cut_67 : decode cM0_cut 67 = .ok (.aload_n 0, 1) := by decide +kernel
theorem dM0_cut_68 : decode cM0_cut 68 = .ok (.getfield 13, 3) := by decide +kernel
theorem dM0_cut_71 : decode cM0_cut 71 = .ok (.iload_n 1, 1) := by decide +kernel
theorem dM0_cut_72 : decode cM0_cut 72 = .ok (.baload, 1) := by decide +kernel
theorem dM0_cut_73 : decode cM0_cut 73 = .ok (.ifCond .eq 9, 3) := by decide +kernel
theorem dM0_cut_76 : decode cM0_cut 76 = .ok (.lload 4, 2) := by decide +kernel
theorem dM0_cut_78 : decode cM0_cut 78 = .ok (.lneg, 1) := by decide +kernel
theorem dM0_cut_79 : decode cM0_cut 79 = .ok (.goto 5, 3) := by decide +kernel
theorem dM0_cut_82 : decode cM0_cut 82 = .ok (.lload 4, 2) := by decide +kernel
theorem dM0_cut_84 : decode cM0_cut 84 = .ok (.lstore 4, 2) := by decide +kernel
theorem dM0_cut_86 : decode cM0_cut 86 = .ok (.iload_n 2, 1) := by decide +kernel
theorem dM0_cut_87 : decode cM0_cut 87 = .ok (.istore 6, 2) := by decide +kernel
theorem dM0_cut_89 : decode cM0_cut 89 = .ok (.iload 6, 2) := by decide +kernel
theorem dM0_cut_91 : decode cM0_cut 91 = .ok (.bipush 64, 2) := by decide +kernel
theorem dM0_cut_93 : decode cM0_cut 93 = .ok (.if_icmp .ge 15, 3) := by decide +kernel
theorem dM0_cut_96 : decode cM0_cut 96 = .ok (.lload 4, 2) := by decide +kernel
theorem dM0_cut_98 : decode cM0_cut 98 = .ok (.iconst 1, 1) := by decide +kernel
theorem dM0_cut_99 : decode cM0_cut 99 = .ok (.lshl, 1) := by decide +kernel
theorem dM0_cut_100 : decode cM0_cut 100 = .ok (.lstore 4, 2) := by decide +kernel
theorem dM0_cut_102 : decode cM0_cut 102 = .ok (.iinc 6 1, 3) := by decide +kernel
theorem dM0_cut_105 : decode cM0_cut 105 = .ok (.goto (-16), 3) := by decide +kernel
theorem dM0_cut_108 : decode cM0_cut 108 = .ok (.iload_n 2, 1) := by decide +kernel
theorem dM0_cut_109 : decode cM0_cut 109 = .ok (.istore 6, 2) := by decide +kernel
theorem dM0_cut_111 : decode cM0_cut 111 = .ok (.iload 6, 2) := by decide +kernel
theorem dM0_cut_113 : decode cM0_cut 113 = .ok (.bipush 64, 2) := by decide +kernel
theorem dM0_cut_115 : decode cM0_cut 115 = .ok (.if_icmp .ge 26, 3) := by decide +kernel
theorem dM0_cut_118 : decode cM0_cut 118 = .ok (.iload_n 3, 1) := by decide +kernel
theorem dM0_cut_119 : decode cM0_cut 119 = .ok (.ifCond .eq 10, 3) := by decide +kernel
theorem dM0_cut_122 : decode cM0_cut 122 = .ok (.lload 4, 2) := by decide +kernel
theorem dM0_cut_124 : decode cM0_cut 124 = .ok (.iconst 1, 1) := by decide +kernel
theorem dM0_cut_125 : decode cM0_cut 125 = .ok (.lshr, 1) := by decide +kernel
theorem dM0_cut_126 : decode cM0_cut 126 = .ok (.goto 7, 3) := by decide +kernel
theorem dM0_cut_129 : decode cM0_cut 129 = .ok (.lload 4, 2) := by decide +kernel
theorem dM0_cut_131 : decode cM0_cut 131 = .ok (.iconst 1, 1) := by decide +kernel
theorem dM0_cut_132 : decode cM0_cut 132 = .ok (.lushr, 1) := by decide +kernel
theorem dM0_cut_133 : decode cM0_cut 133 = .ok (.lstore 4, 2) := by decide +kernel
theorem dM0_cut_135 : decode cM0_cut 135 = .ok (.iinc 6 1, 3) := by decide +kernel
theorem dM0_cut_138 : decode cM0_cut 138 = .ok (.goto (-27), 3) := by decide +kernel
theorem dM0_cut_141 : decode cM0_cut 141 = .ok (.lload 4, 2) := by decide +kernel
theorem dM0_cut_143 : decode cM0_cut 143 = .ok (.lreturn, 1) := by decide +kernel
theorem dM0_write_0 : decode cM0_write 0 = .ok (.aload_n 0, 1) := by decide +kernel
theorem dM0_write_1 : decode cM0_write 1 = .ok (.iconst 0, 1) := by decide +kernel
theorem dM0_write_2 : decode cM0_write 2 = .ok (.putfield 48, 3) := by decide +kernel
theorem dM0_write_5 : decode cM0_write 5 = .ok (.iload_n 1, 1) := by decide +kernel
theorem dM0_write_6 : decode cM0_write 6 = .ok (.invokestatic 82, 3) := by decide +kernel
theorem dM0_write_9 : decode cM0_write 9 = .ok (.ifCond .eq 14, 3) := by decide +kernel
theorem dM0_write_12 : decode cM0_write 12 = .ok (.iload_n 2, 1) := by decide +kernel
theorem dM0_write_13 : decode cM0_write 13 = .ok (.iconst 2, 1) := by decide +kernel
theorem dM0_write_14 : decode cM0_write 14 = .ok (.if_icmp .lt 9, 3) := by decide +kernel
theorem dM0_write_17 : decode cM0_write 17 = .ok (.iload_n 2, 1) := by decide +kernel
theorem dM0_write_18 : decode cM0_write 18 = .ok (.bipush 36, 2) := by decide +kernel
theorem dM0_write_20 : decode cM0_write 20 = .ok (.if_icmp .le 6, 3) := by decide +kernel
theorem dM0_write_23 : decode cM0_write 23 = .ok (.bipush (-3), 2) := by decide +kernel
theorem dM0_write_25 : decode cM0_write 25 = .ok (.ireturn, 1) := by decide +kernel
theorem dM0_write_26 : decode cM0_write 26 = .ok (.aload_n 0, 1) := by decide +kernel
theorem dM0_write_27 : decode cM0_write 27 = .ok (.iload_n 1, 1) := by decide +kernel
theorem dM0_write_28 : decode cM0_write 28 = .ok (.aload_n 0, 1) := by decide +kernel
theorem dM0_write_29 : decode cM0_write 29 = .ok (.getfield 20, 3) := by decide +kernel
theorem dM0_write_32 : decode cM0_write 32 = .ok (.invokevirtual 60, 3) := by decide +kernel
theorem dM0_write_35 : decode cM0_write 35 = .ok (.iconst 0, 1) := by decide +kernel
theorem dM0_write_36 : decode cM0_write 36 = .ok (.istore_n 3, 1) := by decide +kernel
theorem dM0_write_37 : decode cM0_write 37 = .ok (.iload_n 3, 1) := by decide +kernel
theorem dM0_write_38 : decode cM0_write 38 = .ok (.ifCond .eq 13, 3) := by decide +kernel
theorem dM0_write_41 : decode cM0_write 41 = .ok (.aload_n 0, 1) := by decide +kernel
theorem dM0_write_42 : decode cM0_write 42 = .ok (.getfield 20, 3) := by decide +kernel
theorem dM0_write_45 : decode cM0_write 45 = .ok (.invokestatic 78, 3) := by decide +kernel
theorem dM0_write_48 : decode cM0_write 48 = .ok (.ifCond .ne 48, 3) := by decide +kernel
theorem dM0_write_51 : decode cM0_write 51 = .ok (.aload_n 0, 1) := by decide +kernel
theorem dM0_write_52 : decode cM0_write 52 = .ok (.getfield 20, 3) := by decide +kernel
theorem dM0_write_55 : decode cM0_write 55 = .ok (.iload_n 2, 1) := by decide +kernel
theorem dM0_write_56 : decode cM0_write 56 = .ok (.invokestatic 108, 3) := by decide +kernel
theorem dM0_write_59 : decode cM0_write 59 = .ok (.istore 4, 2) := by decide +kernel
theorem dM0_write_61 : decode cM0_write 61 = .ok (.aload_n 0, 1) := by decide +kernel
theorem dM0_write_62 : decode cM0_write 62 = .ok (.getfield 41, 3) := by decide +kernel
theorem dM0_write_65 : decode cM0_write 65 = .ok (.iload_n 3, 1) := by decide +kernel
theorem dM0_write_66 : decode cM0_write 66 = .ok (.iload 4, 2) := by decide +kernel
theorem dM0_write_68 : decode cM0_write 68 = .ok (.bipush 10, 2) := by decide +kernel
theorem dM0_write_70 : decode cM0_write 70 = .ok (.if_icmp .ge 11, 3) := by decide +kernel
theorem dM0_write_73 : decode cM0_write 73 = .ok (.bipush 48, 2) := by decide +kernel
theorem dM0_write_75 : decode cM0_write 75 = .ok (.iload 4, 2) := by decide +kernel
theorem dM0_write_77 : decode cM0_write 77 = .ok (.iadd, 1) := by decide +kernel
theorem dM0_write_78 : decode cM0_write 78 = .ok (.goto 11, 3) := by decide +kernel
theorem dM0_write_81 : decode cM0_write 81 = .ok (.bipush 97, 2) := by decide +kernel
theorem dM0_write_83 : decode cM0_write 83 = .ok (.iload 4, 2) := by decide +kernel
theorem dM0_write_85 : decode cM0_write 85 = .ok (.iadd, 1) := by decide +kernel
theorem dM0_write_86 : decode cM0_write 86 = .ok (.bipush 10, 2) := by decide +kernel
theorem dM0_write_88 : decode cM0_write 88 = .ok (.isub, 1) := by decide +kernel
theorem dM0_write_89 : decode cM0_write 89 = .ok (.iastore, 1) := by decide +kernel
theorem dM0_write_90 : decode cM0_write 90 = .ok (.iinc 3 1, 3) := by decide +kernel
theorem dM0_write_93 : decode cM0_write 93 = .ok (.goto (-56), 3) := by decide +kernel
theorem dM0_write_96 : decode cM0_write 96 = .ok (.aload_n 0, 1) := by decide +kernel
theorem dM0_write_97 : decode cM0_write 97 = .ok (.getfield 13, 3) := by decide +kernel
theorem dM0_write_100 : decode cM0_write 100 = .ok (.iload_n 1, 1) := by decide +kernel
theorem dM0_write_101 : decode cM0_write 101 = .ok (.baload, 1) := by decide +kernel
theorem dM0_write_102 : decode cM0_write 102 = .ok (.ifCond .eq 14, 3) := by decide +kernel
theorem dM0_write_105 : decode cM0_write 105 = .ok (.aload_n 0, 1) := by decide +kernel
theorem dM0_write_106 : decode cM0_write 106 = .ok (.getfield 41, 3) := by decide +kernel
theorem dM0_write_109 : decode cM0_write 109 = .ok (.iload_n 3, 1) := by decide +kernel
theorem dM0_write_110 : decode cM0_write 110 = .ok (.bipush 45, 2) := by decide +kernel
theorem dM0_write_112 : decode cM0_write 112 = .ok (.iastore, 1) := by decide +kernel
theorem dM0_write_113 : decode cM0_write 113 = .ok (.iinc 3 1, 3) := by decide +kernel
theorem dM0_write_116 : decode cM0_write 116 = .ok (.aload_n 0, 1) := by decide +kernel
theorem dM0_write_117 : decode cM0_write 117 = .ok (.iload_n 3, 1) := by decide +kernel
theorem dM0_write_118 : decode cM0_write 118 = .ok (.putfield 139, 3) := by decide +kernel
theorem dM0_write_121 : decode cM0_write 121 = .ok (.iload_n 3, 1) := by decide +kernel
theorem dM0_write_122 : decode cM0_write 122 = .ok (.ireturn, 1) := by decide +kernel
theorem dM0_byteOf_0 : decode cM0_byteOf 0 = .ok (.aload_n 0, 1) := by decide +kernel
theorem dM0_byteOf_1 : decode cM0_byteOf 1 = .ok (.iconst 0, 1) := by decide +kernel
theorem dM0_byteOf_2 : decode cM0_byteOf 2 = .ok (.putfield 48, 3) := by decide +kernel
theorem dM0_byteOf_5 : decode cM0_byteOf 5 = .ok (.iload_n 1, 1) := by decide +kernel
theorem dM0_byteOf_6 : decode cM0_byteOf 6 = .ok (.ifCond .lt 27, 3) := by decide +kernel
theorem dM0_byteOf_9 : decode cM0_byteOf 9 = .ok (.iload_n 1, 1) := by decide +kernel
theorem dM0_byteOf_10 : decode cM0_byteOf 10 = .ok (.aload_n 0, 1) := by decide +kernel
theorem dM0_byteOf_11 : decode cM0_byteOf 11 = .ok (.getfield 139, 3) := by decide +kernel
theorem dM0_byteOf_14 : decode cM0_byteOf 14 = .ok (.if_icmp .ge 19, 3) := by decide +kernel
theorem dM0_byteOf_17 : decode cM0_byteOf 17 = .ok (.aload_n 0, 1) := by decide +kernel
theorem dM0_byteOf_18 : decode cM0_byteOf 18 = .ok (.getfield 41, 3) := by decide +kernel
theorem dM0_byteOf_21 : decode cM0_byteOf 21 = .ok (.aload_n 0, 1) := by decide +kernel
theorem dM0_byteOf_22 : decode cM0_byteOf 22 = .ok (.getfield 139, 3) := by decide +kernel
theorem dM0_byteOf_25 : decode cM0_byteOf 25 = .ok (.iconst 1, 1) := by decide +kernel
theorem dM0_byteOf_26 : decode cM0_byteOf 26 = .ok (.isub, 1) := by decide +kernel
theorem dM0_byteOf_27 : decode cM0_byteOf 27 = .ok (.iload_n 1, 1) := by decide +kernel
theorem dM0_byteOf_28 : decode cM0_byteOf 28 = .ok (.isub, 1) := by decide +kernel
theorem dM0_byteOf_29 : decode cM0_byteOf 29 = .ok (.iaload, 1) := by decide +kernel
theorem dM0_byteOf_30 : decode cM0_byteOf 30 = .ok (.goto 4, 3) := by decide +kernel
theorem dM0_byteOf_33 : decode cM0_byteOf 33 = .ok (.iconst (-1), 1) := by decide +kernel
theorem dM0_byteOf_34 : decode cM0_byteOf 34 = .ok (.ireturn, 1) := by decide +kernel
