/-! instructions of Bus (written by wip/whole/gen_dec.py) -/
theorem e_Bus_init_0 : decode M_Bus_init.2.1 0 = .ok (.aload_n 0, 1) := by decide +kernel
theorem e_Bus_init_1 : decode M_Bus_init.2.1 1 = .ok (.invokespecial 3, 3) := by decide +kernel
theorem e_Bus_init_4 : decode M_Bus_init.2.1 4 = .ok (.aload_n 0, 1) := by decide +kernel
theorem e_Bus_init_5 : decode M_Bus_init.2.1 5 = .ok (.sipush 900, 3) := by decide +kernel
theorem e_Bus_init_8 : decode M_Bus_init.2.1 8 = .ok (.newarray .byte, 2) := by decide +kernel
theorem e_Bus_init_10 : decode M_Bus_init.2.1 10 = .ok (.putfield 9, 3) := by decide +kernel
theorem e_Bus_init_13 : decode M_Bus_init.2.1 13 = .ok (.aload_n 0, 1) := by decide +kernel
theorem e_Bus_init_14 : decode M_Bus_init.2.1 14 = .ok (.iconst 0, 1) := by decide +kernel
theorem e_Bus_init_15 : decode M_Bus_init.2.1 15 = .ok (.putfield 13, 3) := by decide +kernel
theorem e_Bus_init_18 : decode M_Bus_init.2.1 18 = .ok (.aload_n 0, 1) := by decide +kernel
theorem e_Bus_init_19 : decode M_Bus_init.2.1 19 = .ok (.iconst (-1), 1) := by decide +kernel
theorem e_Bus_init_20 : decode M_Bus_init.2.1 20 = .ok (.putfield 17, 3) := by decide +kernel
theorem e_Bus_init_23 : decode M_Bus_init.2.1 23 = .ok (.aload_n 0, 1) := by decide +kernel
theorem e_Bus_init_24 : decode M_Bus_init.2.1 24 = .ok (.new 20, 3) := by decide +kernel
theorem e_Bus_init_27 : decode M_Bus_init.2.1 27 = .ok (.dup, 1) := by decide +kernel
theorem e_Bus_init_28 : decode M_Bus_init.2.1 28 = .ok (.invokespecial 22, 3) := by decide +kernel
theorem e_Bus_init_31 : decode M_Bus_init.2.1 31 = .ok (.putfield 23, 3) := by decide +kernel
theorem e_Bus_init_34 : decode M_Bus_init.2.1 34 = .ok (.aload_n 0, 1) := by decide +kernel
theorem e_Bus_init_35 : decode M_Bus_init.2.1 35 = .ok (.new 27, 3) := by decide +kernel
theorem e_Bus_init_38 : decode M_Bus_init.2.1 38 = .ok (.dup, 1) := by decide +kernel
theorem e_Bus_init_39 : decode M_Bus_init.2.1 39 = .ok (.invokespecial 29, 3) := by decide +kernel
theorem e_Bus_init_42 : decode M_Bus_init.2.1 42 = .ok (.putfield 30, 3) := by decide +kernel
theorem e_Bus_init_45 : decode M_Bus_init.2.1 45 = .ok (.aload_n 0, 1) := by decide +kernel
theorem e_Bus_init_46 : decode M_Bus_init.2.1 46 = .ok (.new 34, 3) := by decide +kernel
theorem e_Bus_init_49 : decode M_Bus_init.2.1 49 = .ok (.dup, 1) := by decide +kernel
theorem e_Bus_init_50 : decode M_Bus_init.2.1 50 = .ok (.invokespecial 36, 3) := by decide +kernel
theorem e_Bus_init_53 : decode M_Bus_init.2.1 53 = .ok (.putfield 37, 3) := by decide +kernel
theorem e_Bus_init_56 : decode M_Bus_init.2.1 56 = .ok (.aload_n 0, 1) := by decide +kernel
theorem e_Bus_init_57 : decode M_Bus_init.2.1 57 = .ok (.new 34, 3) := by decide +kernel
theorem e_Bus_init_60 : decode M_Bus_init.2.1 60 = .ok (.dup, 1) := by decide +kernel
theorem e_Bus_init_61 : decode M_Bus_init.2.1 61 = .ok (.invokespecial 36, 3) := by decide +kernel
theorem e_Bus_init_64 : decode M_Bus_init.2.1 64 = .ok (.putfield 41, 3) := by decide +kernel
theorem e_Bus_init_67 : decode M_Bus_init.2.1 67 = .ok (.aload_n 0, 1) := by decide +kernel
theorem e_Bus_init_68 : decode M_Bus_init.2.1 68 = .ok (.iconst 0, 1) := by decide +kernel
theorem e_Bus_init_69 : decode M_Bus_init.2.1 69 = .ok (.putfield 44, 3) := by decide +kernel
theorem e_Bus_init_72 : decode M_Bus_init.2.1 72 = .ok (.aload_n 0, 1) := by decide +kernel
theorem e_Bus_init_73 : decode M_Bus_init.2.1 73 = .ok (.new 48, 3) := by decide +kernel
theorem e_Bus_init_76 : decode M_Bus_init.2.1 76 = .ok (.dup, 1) := by decide +kernel
theorem e_Bus_init_77 : decode M_Bus_init.2.1 77 = .ok (.invokespecial 50, 3) := by decide +kernel
theorem e_Bus_init_80 : decode M_Bus_init.2.1 80 = .ok (.putfield 51, 3) := by decide +kernel
theorem e_Bus_init_83 : decode M_Bus_init.2.1 83 = .ok (.aload_n 0, 1) := by decide +kernel
theorem e_Bus_init_84 : decode M_Bus_init.2.1 84 = .ok (.new 48, 3) := by decide +kernel
theorem e_Bus_init_87 : decode M_Bus_init.2.1 87 = .ok (.dup, 1) := by decide +kernel
theorem e_Bus_init_88 : decode M_Bus_init.2.1 88 = .ok (.invokespecial 50, 3) := by decide +kernel
theorem e_Bus_init_91 : decode M_Bus_init.2.1 91 = .ok (.putfield 55, 3) := by decide +kernel
theorem e_Bus_init_94 : decode M_Bus_init.2.1 94 = .ok (.aload_n 0, 1) := by decide +kernel
theorem e_Bus_init_95 : decode M_Bus_init.2.1 95 = .ok (.new 58, 3) := by decide +kernel
theorem e_Bus_init_98 : decode M_Bus_init.2.1 98 = .ok (.dup, 1) := by decide +kernel
theorem e_Bus_init_99 : decode M_Bus_init.2.1 99 = .ok (.invokespecial 60, 3) := by decide +kernel
theorem e_Bus_init_102 : decode M_Bus_init.2.1 102 = .ok (.putfield 61, 3) := by decide +kernel
theorem e_Bus_init_105 : decode M_Bus_init.2.1 105 = .ok (.aload_n 0, 1) := by decide +kernel
theorem e_Bus_init_106 : decode M_Bus_init.2.1 106 = .ok (.new 65, 3) := by decide +kernel
theorem e_Bus_init_109 : decode M_Bus_init.2.1 109 = .ok (.dup, 1) := by decide +kernel
theorem e_Bus_init_110 : decode M_Bus_init.2.1 110 = .ok (.invokespecial 67, 3) := by decide +kernel
theorem e_Bus_init_113 : decode M_Bus_init.2.1 113 = .ok (.putfield 68, 3) := by decide +kernel
theorem e_Bus_init_116 : decode M_Bus_init.2.1 116 = .ok (.aload_n 0, 1) := by decide +kernel
theorem e_Bus_init_117 : decode M_Bus_init.2.1 117 = .ok (.bipush 10, 2) := by decide +kernel
theorem e_Bus_init_119 : decode M_Bus_init.2.1 119 = .ok (.newarray .int, 2) := by decide +kernel
theorem e_Bus_init_121 : decode M_Bus_init.2.1 121 = .ok (.putfield 72, 3) := by decide +kernel
theorem e_Bus_init_124 : decode M_Bus_init.2.1 124 = .ok (.aload_n 0, 1) := by decide +kernel
theorem e_Bus_init_125 : decode M_Bus_init.2.1 125 = .ok (.getfield 37, 3) := by decide +kernel
theorem e_Bus_init_128 : decode M_Bus_init.2.1 128 = .ok (.getfield 76, 3) := by decide +kernel
theorem e_Bus_init_131 : decode M_Bus_init.2.1 131 = .ok (.aload_n 0, 1) := by decide +kernel
theorem e_Bus_init_132 : decode M_Bus_init.2.1 132 = .ok (.getfield 23, 3) := by decide +kernel
theorem e_Bus_init_135 : decode M_Bus_init.2.1 135 = .ok (.invokevirtual 79, 3) := by decide +kernel
theorem e_Bus_init_138 : decode M_Bus_init.2.1 138 = .ok (.return_, 1) := by decide +kernel
theorem e_Bus_feed_0 : decode M_Bus_feed.2.1 0 = .ok (.aload_n 0, 1) := by decide +kernel
theorem e_Bus_feed_1 : decode M_Bus_feed.2.1 1 = .ok (.getfield 13, 3) := by decide +kernel
theorem e_Bus_feed_4 : decode M_Bus_feed.2.1 4 = .ok (.bipush 20, 2) := by decide +kernel
theorem e_Bus_feed_6 : decode M_Bus_feed.2.1 6 = .ok (.iadd, 1) := by decide +kernel
theorem e_Bus_feed_7 : decode M_Bus_feed.2.1 7 = .ok (.sipush 900, 3) := by decide +kernel
theorem e_Bus_feed_10 : decode M_Bus_feed.2.1 10 = .ok (.if_icmp .le 5, 3) := by decide +kernel
theorem e_Bus_feed_13 : decode M_Bus_feed.2.1 13 = .ok (.iconst (-1), 1) := by decide +kernel
theorem e_Bus_feed_14 : decode M_Bus_feed.2.1 14 = .ok (.ireturn, 1) := by decide +kernel
theorem e_Bus_feed_15 : decode M_Bus_feed.2.1 15 = .ok (.aload_n 0, 1) := by decide +kernel
theorem e_Bus_feed_16 : decode M_Bus_feed.2.1 16 = .ok (.iload_n 1, 1) := by decide +kernel
theorem e_Bus_feed_17 : decode M_Bus_feed.2.1 17 = .ok (.invokevirtual 83, 3) := by decide +kernel
theorem e_Bus_feed_20 : decode M_Bus_feed.2.1 20 = .ok (.aload_n 0, 1) := by decide +kernel
theorem e_Bus_feed_21 : decode M_Bus_feed.2.1 21 = .ok (.iload_n 2, 1) := by decide +kernel
theorem e_Bus_feed_22 : decode M_Bus_feed.2.1 22 = .ok (.invokevirtual 83, 3) := by decide +kernel
theorem e_Bus_feed_25 : decode M_Bus_feed.2.1 25 = .ok (.aload_n 0, 1) := by decide +kernel
theorem e_Bus_feed_26 : decode M_Bus_feed.2.1 26 = .ok (.iload_n 3, 1) := by decide +kernel
theorem e_Bus_feed_27 : decode M_Bus_feed.2.1 27 = .ok (.invokevirtual 83, 3) := by decide +kernel
theorem e_Bus_feed_30 : decode M_Bus_feed.2.1 30 = .ok (.aload_n 0, 1) := by decide +kernel
theorem e_Bus_feed_31 : decode M_Bus_feed.2.1 31 = .ok (.iload 4, 2) := by decide +kernel
theorem e_Bus_feed_33 : decode M_Bus_feed.2.1 33 = .ok (.invokevirtual 83, 3) := by decide +kernel
theorem e_Bus_feed_36 : decode M_Bus_feed.2.1 36 = .ok (.aload_n 0, 1) := by decide +kernel
theorem e_Bus_feed_37 : decode M_Bus_feed.2.1 37 = .ok (.iload 5, 2) := by decide +kernel
theorem e_Bus_feed_39 : decode M_Bus_feed.2.1 39 = .ok (.invokevirtual 83, 3) := by decide +kernel
theorem e_Bus_feed_42 : decode M_Bus_feed.2.1 42 = .ok (.aload_n 0, 1) := by decide +kernel
theorem e_Bus_feed_43 : decode M_Bus_feed.2.1 43 = .ok (.getfield 13, 3) := by decide +kernel
theorem e_Bus_feed_46 : decode M_Bus_feed.2.1 46 = .ok (.ireturn, 1) := by decide +kernel
theorem e_Bus_putBytes_0 : decode M_Bus_putBytes.2.1 0 = .ok (.bipush 24, 2) := by decide +kernel
theorem e_Bus_putBytes_2 : decode M_Bus_putBytes.2.1 2 = .ok (.istore_n 2, 1) := by decide +kernel
theorem e_Bus_putBytes_3 : decode M_Bus_putBytes.2.1 3 = .ok (.iload_n 2, 1) := by decide +kernel
theorem e_Bus_putBytes_4 : decode M_Bus_putBytes.2.1 4 = .ok (.ifCond .lt 32, 3) := by decide +kernel
theorem e_Bus_putBytes_7 : decode M_Bus_putBytes.2.1 7 = .ok (.aload_n 0, 1) := by decide +kernel
theorem e_Bus_putBytes_8 : decode M_Bus_putBytes.2.1 8 = .ok (.getfield 9, 3) := by decide +kernel
theorem e_Bus_putBytes_11 : decode M_Bus_putBytes.2.1 11 = .ok (.aload_n 0, 1) := by decide +kernel
theorem e_Bus_putBytes_12 : decode M_Bus_putBytes.2.1 12 = .ok (.getfield 13, 3) := by decide +kernel
theorem e_Bus_putBytes_15 : decode M_Bus_putBytes.2.1 15 = .ok (.iload_n 1, 1) := by decide +kernel
theorem e_Bus_putBytes_16 : decode M_Bus_putBytes.2.1 16 = .ok (.iload_n 2, 1) := by decide +kernel
theorem e_Bus_putBytes_17 : decode M_Bus_putBytes.2.1 17 = .ok (.iushr, 1) := by decide +kernel
theorem e_Bus_putBytes_18 : decode M_Bus_putBytes.2.1 18 = .ok (.i2b, 1) := by decide +kernel
theorem e_Bus_putBytes_19 : decode M_Bus_putBytes.2.1 19 = .ok (.bastore, 1) := by decide +kernel
theorem e_Bus_putBytes_20 : decode M_Bus_putBytes.2.1 20 = .ok (.aload_n 0, 1) := by decide +kernel
theorem e_Bus_putBytes_21 : decode M_Bus_putBytes.2.1 21 = .ok (.dup, 1) := by decide +kernel
theorem e_Bus_putBytes_22 : decode M_Bus_putBytes.2.1 22 = .ok (.getfield 13, 3) := by decide +kernel
theorem e_Bus_putBytes_25 : decode M_Bus_putBytes.2.1 25 = .ok (.iconst 1, 1) := by decide +kernel
theorem e_Bus_putBytes_26 : decode M_Bus_putBytes.2.1 26 = .ok (.iadd, 1) := by decide +kernel
theorem e_Bus_putBytes_27 : decode M_Bus_putBytes.2.1 27 = .ok (.putfield 13, 3) := by decide +kernel
theorem e_Bus_putBytes_30 : decode M_Bus_putBytes.2.1 30 = .ok (.iinc 2 (-8), 3) := by decide +kernel
theorem e_Bus_putBytes_33 : decode M_Bus_putBytes.2.1 33 = .ok (.goto (-30), 3) := by decide +kernel
theorem e_Bus_putBytes_36 : decode M_Bus_putBytes.2.1 36 = .ok (.return_, 1) := by decide +kernel
theorem e_Bus_fault_0 : decode M_Bus_fault.2.1 0 = .ok (.aload_n 0, 1) := by decide +kernel
theorem e_Bus_fault_1 : decode M_Bus_fault.2.1 1 = .ok (.getfield 17, 3) := by decide +kernel
theorem e_Bus_fault_4 : decode M_Bus_fault.2.1 4 = .ok (.ireturn, 1) := by decide +kernel
theorem e_Bus_target_0 : decode M_Bus_target.2.1 0 = .ok (.aload_n 0, 1) := by decide +kernel
theorem e_Bus_target_1 : decode M_Bus_target.2.1 1 = .ok (.iload_n 1, 1) := by decide +kernel
theorem e_Bus_target_2 : decode M_Bus_target.2.1 2 = .ok (.invokevirtual 207, 3) := by decide +kernel
theorem e_Bus_target_5 : decode M_Bus_target.2.1 5 = .ok (.ifCond .eq 22, 3) := by decide +kernel
theorem e_Bus_target_8 : decode M_Bus_target.2.1 8 = .ok (.aload_n 0, 1) := by decide +kernel
theorem e_Bus_target_9 : decode M_Bus_target.2.1 9 = .ok (.getfield 37, 3) := by decide +kernel
theorem e_Bus_target_12 : decode M_Bus_target.2.1 12 = .ok (.getfield 76, 3) := by decide +kernel
theorem e_Bus_target_15 : decode M_Bus_target.2.1 15 = .ok (.aload_n 0, 1) := by decide +kernel
theorem e_Bus_target_16 : decode M_Bus_target.2.1 16 = .ok (.getfield 23, 3) := by decide +kernel
theorem e_Bus_target_19 : decode M_Bus_target.2.1 19 = .ok (.iload_n 1, 1) := by decide +kernel
theorem e_Bus_target_20 : decode M_Bus_target.2.1 20 = .ok (.iload_n 2, 1) := by decide +kernel
theorem e_Bus_target_21 : decode M_Bus_target.2.1 21 = .ok (.invokevirtual 211, 3) := by decide +kernel
theorem e_Bus_target_24 : decode M_Bus_target.2.1 24 = .ok (.ifCond .ne 8, 3) := by decide +kernel
theorem e_Bus_target_27 : decode M_Bus_target.2.1 27 = .ok (.aload_n 0, 1) := by decide +kernel
theorem e_Bus_target_28 : decode M_Bus_target.2.1 28 = .ok (.invokevirtual 215, 3) := by decide +kernel
theorem e_Bus_target_31 : decode M_Bus_target.2.1 31 = .ok (.ireturn, 1) := by decide +kernel
theorem e_Bus_target_32 : decode M_Bus_target.2.1 32 = .ok (.aload_n 0, 1) := by decide +kernel
theorem e_Bus_target_33 : decode M_Bus_target.2.1 33 = .ok (.iload_n 1, 1) := by decide +kernel
theorem e_Bus_target_34 : decode M_Bus_target.2.1 34 = .ok (.bipush 9, 2) := by decide +kernel
theorem e_Bus_target_36 : decode M_Bus_target.2.1 36 = .ok (.imul, 1) := by decide +kernel
theorem e_Bus_target_37 : decode M_Bus_target.2.1 37 = .ok (.iconst 0, 1) := by decide +kernel
theorem e_Bus_target_38 : decode M_Bus_target.2.1 38 = .ok (.iadd, 1) := by decide +kernel
theorem e_Bus_target_39 : decode M_Bus_target.2.1 39 = .ok (.iload_n 2, 1) := by decide +kernel
theorem e_Bus_target_40 : decode M_Bus_target.2.1 40 = .ok (.invokevirtual 219, 3) := by decide +kernel
theorem e_Bus_target_43 : decode M_Bus_target.2.1 43 = .ok (.ireturn, 1) := by decide +kernel
theorem e_Bus_isBlock_0 : decode M_Bus_isBlock.2.1 0 = .ok (.iload_n 1, 1) := by decide +kernel
theorem e_Bus_isBlock_1 : decode M_Bus_isBlock.2.1 1 = .ok (.ifCond .lt 18, 3) := by decide +kernel
theorem e_Bus_isBlock_4 : decode M_Bus_isBlock.2.1 4 = .ok (.iload_n 1, 1) := by decide +kernel
theorem e_Bus_isBlock_5 : decode M_Bus_isBlock.2.1 5 = .ok (.aload_n 0, 1) := by decide +kernel
theorem e_Bus_isBlock_6 : decode M_Bus_isBlock.2.1 6 = .ok (.getfield 23, 3) := by decide +kernel
theorem e_Bus_isBlock_9 : decode M_Bus_isBlock.2.1 9 = .ok (.getfield 133, 3) := by decide +kernel
theorem e_Bus_isBlock_12 : decode M_Bus_isBlock.2.1 12 = .ok (.if_icmp .ge 7, 3) := by decide +kernel
theorem e_Bus_isBlock_15 : decode M_Bus_isBlock.2.1 15 = .ok (.iconst 1, 1) := by decide +kernel
theorem e_Bus_isBlock_16 : decode M_Bus_isBlock.2.1 16 = .ok (.goto 4, 3) := by decide +kernel
theorem e_Bus_isBlock_19 : decode M_Bus_isBlock.2.1 19 = .ok (.iconst 0, 1) := by decide +kernel
theorem e_Bus_isBlock_20 : decode M_Bus_isBlock.2.1 20 = .ok (.ireturn, 1) := by decide +kernel
theorem e_Bus_refuseAct_0 : decode M_Bus_refuseAct.2.1 0 = .ok (.aload_n 0, 1) := by decide +kernel
theorem e_Bus_refuseAct_1 : decode M_Bus_refuseAct.2.1 1 = .ok (.getfield 37, 3) := by decide +kernel
theorem e_Bus_refuseAct_4 : decode M_Bus_refuseAct.2.1 4 = .ok (.getfield 97, 3) := by decide +kernel
theorem e_Bus_refuseAct_7 : decode M_Bus_refuseAct.2.1 7 = .ok (.iconst 1, 1) := by decide +kernel
theorem e_Bus_refuseAct_8 : decode M_Bus_refuseAct.2.1 8 = .ok (.dup2, 1) := by decide +kernel
theorem e_Bus_refuseAct_9 : decode M_Bus_refuseAct.2.1 9 = .ok (.iaload, 1) := by decide +kernel
theorem e_Bus_refuseAct_10 : decode M_Bus_refuseAct.2.1 10 = .ok (.iconst 1, 1) := by decide +kernel
theorem e_Bus_refuseAct_11 : decode M_Bus_refuseAct.2.1 11 = .ok (.iadd, 1) := by decide +kernel
theorem e_Bus_refuseAct_12 : decode M_Bus_refuseAct.2.1 12 = .ok (.iastore, 1) := by decide +kernel
theorem e_Bus_refuseAct_13 : decode M_Bus_refuseAct.2.1 13 = .ok (.iconst (-1), 1) := by decide +kernel
theorem e_Bus_refuseAct_14 : decode M_Bus_refuseAct.2.1 14 = .ok (.ireturn, 1) := by decide +kernel
theorem e_Bus_putCell_0 : decode M_Bus_putCell.2.1 0 = .ok (.aload_n 0, 1) := by decide +kernel
theorem e_Bus_putCell_1 : decode M_Bus_putCell.2.1 1 = .ok (.getfield 37, 3) := by decide +kernel
theorem e_Bus_putCell_4 : decode M_Bus_putCell.2.1 4 = .ok (.invokevirtual 227, 3) := by decide +kernel
theorem e_Bus_putCell_7 : decode M_Bus_putCell.2.1 7 = .ok (.aload_n 0, 1) := by decide +kernel
theorem e_Bus_putCell_8 : decode M_Bus_putCell.2.1 8 = .ok (.getfield 37, 3) := by decide +kernel
theorem e_Bus_putCell_11 : decode M_Bus_putCell.2.1 11 = .ok (.getfield 76, 3) := by decide +kernel
theorem e_Bus_putCell_14 : decode M_Bus_putCell.2.1 14 = .ok (.getfield 127, 3) := by decide +kernel
theorem e_Bus_putCell_17 : decode M_Bus_putCell.2.1 17 = .ok (.iload_n 1, 1) := by decide +kernel
theorem e_Bus_putCell_18 : decode M_Bus_putCell.2.1 18 = .ok (.iaload, 1) := by decide +kernel
theorem e_Bus_putCell_19 : decode M_Bus_putCell.2.1 19 = .ok (.istore_n 3, 1) := by decide +kernel
theorem e_Bus_putCell_20 : decode M_Bus_putCell.2.1 20 = .ok (.aload_n 0, 1) := by decide +kernel
theorem e_Bus_putCell_21 : decode M_Bus_putCell.2.1 21 = .ok (.getfield 37, 3) := by decide +kernel
theorem e_Bus_putCell_24 : decode M_Bus_putCell.2.1 24 = .ok (.getfield 76, 3) := by decide +kernel
theorem e_Bus_putCell_27 : decode M_Bus_putCell.2.1 27 = .ok (.getfield 127, 3) := by decide +kernel
theorem e_Bus_putCell_30 : decode M_Bus_putCell.2.1 30 = .ok (.iload_n 1, 1) := by decide +kernel
theorem e_Bus_putCell_31 : decode M_Bus_putCell.2.1 31 = .ok (.iload_n 2, 1) := by decide +kernel
theorem e_Bus_putCell_32 : decode M_Bus_putCell.2.1 32 = .ok (.iastore, 1) := by decide +kernel
theorem e_Bus_putCell_33 : decode M_Bus_putCell.2.1 33 = .ok (.iload_n 3, 1) := by decide +kernel
theorem e_Bus_putCell_34 : decode M_Bus_putCell.2.1 34 = .ok (.ireturn, 1) := by decide +kernel
theorem e_Bus_hand_0 : decode M_Bus_hand.2.1 0 = .ok (.aload_n 0, 1) := by decide +kernel
theorem e_Bus_hand_1 : decode M_Bus_hand.2.1 1 = .ok (.iload_n 1, 1) := by decide +kernel
theorem e_Bus_hand_2 : decode M_Bus_hand.2.1 2 = .ok (.invokevirtual 207, 3) := by decide +kernel
theorem e_Bus_hand_5 : decode M_Bus_hand.2.1 5 = .ok (.ifCond .eq 14, 3) := by decide +kernel
theorem e_Bus_hand_8 : decode M_Bus_hand.2.1 8 = .ok (.iload_n 2, 1) := by decide +kernel
theorem e_Bus_hand_9 : decode M_Bus_hand.2.1 9 = .ok (.ifCond .lt 10, 3) := by decide +kernel
theorem e_Bus_hand_12 : decode M_Bus_hand.2.1 12 = .ok (.iload_n 2, 1) := by decide +kernel
theorem e_Bus_hand_13 : decode M_Bus_hand.2.1 13 = .ok (.sipush 1000, 3) := by decide +kernel
theorem e_Bus_hand_16 : decode M_Bus_hand.2.1 16 = .ok (.if_icmp .le 8, 3) := by decide +kernel
theorem e_Bus_hand_19 : decode M_Bus_hand.2.1 19 = .ok (.aload_n 0, 1) := by decide +kernel
theorem e_Bus_hand_20 : decode M_Bus_hand.2.1 20 = .ok (.invokevirtual 215, 3) := by decide +kernel
theorem e_Bus_hand_23 : decode M_Bus_hand.2.1 23 = .ok (.ireturn, 1) := by decide +kernel
theorem e_Bus_hand_24 : decode M_Bus_hand.2.1 24 = .ok (.aload_n 0, 1) := by decide +kernel
theorem e_Bus_hand_25 : decode M_Bus_hand.2.1 25 = .ok (.getfield 37, 3) := by decide +kernel
theorem e_Bus_hand_28 : decode M_Bus_hand.2.1 28 = .ok (.getfield 76, 3) := by decide +kernel
theorem e_Bus_hand_31 : decode M_Bus_hand.2.1 31 = .ok (.aload_n 0, 1) := by decide +kernel
theorem e_Bus_hand_32 : decode M_Bus_hand.2.1 32 = .ok (.getfield 23, 3) := by decide +kernel
theorem e_Bus_hand_35 : decode M_Bus_hand.2.1 35 = .ok (.iload_n 1, 1) := by decide +kernel
theorem e_Bus_hand_36 : decode M_Bus_hand.2.1 36 = .ok (.invokevirtual 223, 3) := by decide +kernel
theorem e_Bus_hand_39 : decode M_Bus_hand.2.1 39 = .ok (.istore_n 3, 1) := by decide +kernel
theorem e_Bus_hand_40 : decode M_Bus_hand.2.1 40 = .ok (.iload_n 3, 1) := by decide +kernel
theorem e_Bus_hand_41 : decode M_Bus_hand.2.1 41 = .ok (.iconst (-1), 1) := by decide +kernel
theorem e_Bus_hand_42 : decode M_Bus_hand.2.1 42 = .ok (.if_icmp .ne 10, 3) := by decide +kernel
theorem e_Bus_hand_45 : decode M_Bus_hand.2.1 45 = .ok (.aload_n 0, 1) := by decide +kernel
theorem e_Bus_hand_46 : decode M_Bus_hand.2.1 46 = .ok (.invokevirtual 215, 3) := by decide +kernel
theorem e_Bus_hand_49 : decode M_Bus_hand.2.1 49 = .ok (.goto 9, 3) := by decide +kernel
theorem e_Bus_hand_52 : decode M_Bus_hand.2.1 52 = .ok (.aload_n 0, 1) := by decide +kernel
theorem e_Bus_hand_53 : decode M_Bus_hand.2.1 53 = .ok (.iload_n 3, 1) := by decide +kernel
theorem e_Bus_hand_54 : decode M_Bus_hand.2.1 54 = .ok (.iload_n 2, 1) := by decide +kernel
theorem e_Bus_hand_55 : decode M_Bus_hand.2.1 55 = .ok (.invokevirtual 219, 3) := by decide +kernel
theorem e_Bus_hand_58 : decode M_Bus_hand.2.1 58 = .ok (.ireturn, 1) := by decide +kernel
theorem e_Bus_power_0 : decode M_Bus_power.2.1 0 = .ok (.aload_n 0, 1) := by decide +kernel
theorem e_Bus_power_1 : decode M_Bus_power.2.1 1 = .ok (.iload_n 1, 1) := by decide +kernel
theorem e_Bus_power_2 : decode M_Bus_power.2.1 2 = .ok (.invokevirtual 230, 3) := by decide +kernel
theorem e_Bus_power_5 : decode M_Bus_power.2.1 5 = .ok (.ifCond .eq 18, 3) := by decide +kernel
theorem e_Bus_power_8 : decode M_Bus_power.2.1 8 = .ok (.aload_n 0, 1) := by decide +kernel
theorem e_Bus_power_9 : decode M_Bus_power.2.1 9 = .ok (.getfield 37, 3) := by decide +kernel
theorem e_Bus_power_12 : decode M_Bus_power.2.1 12 = .ok (.getfield 76, 3) := by decide +kernel
theorem e_Bus_power_15 : decode M_Bus_power.2.1 15 = .ok (.iload_n 1, 1) := by decide +kernel
theorem e_Bus_power_16 : decode M_Bus_power.2.1 16 = .ok (.invokevirtual 233, 3) := by decide +kernel
theorem e_Bus_power_19 : decode M_Bus_power.2.1 19 = .ok (.iload_n 2, 1) := by decide +kernel
theorem e_Bus_power_20 : decode M_Bus_power.2.1 20 = .ok (.if_icmp .ne 8, 3) := by decide +kernel
theorem e_Bus_power_23 : decode M_Bus_power.2.1 23 = .ok (.aload_n 0, 1) := by decide +kernel
theorem e_Bus_power_24 : decode M_Bus_power.2.1 24 = .ok (.invokevirtual 215, 3) := by decide +kernel
theorem e_Bus_power_27 : decode M_Bus_power.2.1 27 = .ok (.ireturn, 1) := by decide +kernel
theorem e_Bus_power_28 : decode M_Bus_power.2.1 28 = .ok (.aload_n 0, 1) := by decide +kernel
theorem e_Bus_power_29 : decode M_Bus_power.2.1 29 = .ok (.getfield 37, 3) := by decide +kernel
theorem e_Bus_power_32 : decode M_Bus_power.2.1 32 = .ok (.invokevirtual 227, 3) := by decide +kernel
theorem e_Bus_power_35 : decode M_Bus_power.2.1 35 = .ok (.aload_n 0, 1) := by decide +kernel
theorem e_Bus_power_36 : decode M_Bus_power.2.1 36 = .ok (.getfield 37, 3) := by decide +kernel
theorem e_Bus_power_39 : decode M_Bus_power.2.1 39 = .ok (.getfield 76, 3) := by decide +kernel
theorem e_Bus_power_42 : decode M_Bus_power.2.1 42 = .ok (.iload_n 1, 1) := by decide +kernel
theorem e_Bus_power_43 : decode M_Bus_power.2.1 43 = .ok (.iload_n 2, 1) := by decide +kernel
theorem e_Bus_power_44 : decode M_Bus_power.2.1 44 = .ok (.aload_n 0, 1) := by decide +kernel
theorem e_Bus_power_45 : decode M_Bus_power.2.1 45 = .ok (.getfield 23, 3) := by decide +kernel
theorem e_Bus_power_48 : decode M_Bus_power.2.1 48 = .ok (.getfield 236, 3) := by decide +kernel
theorem e_Bus_power_51 : decode M_Bus_power.2.1 51 = .ok (.invokevirtual 239, 3) := by decide +kernel
theorem e_Bus_power_54 : decode M_Bus_power.2.1 54 = .ok (.aload_n 0, 1) := by decide +kernel
theorem e_Bus_power_55 : decode M_Bus_power.2.1 55 = .ok (.getfield 37, 3) := by decide +kernel
theorem e_Bus_power_58 : decode M_Bus_power.2.1 58 = .ok (.getfield 76, 3) := by decide +kernel
theorem e_Bus_power_61 : decode M_Bus_power.2.1 61 = .ok (.getfield 127, 3) := by decide +kernel
theorem e_Bus_power_64 : decode M_Bus_power.2.1 64 = .ok (.sipush 220, 3) := by decide +kernel
theorem e_Bus_power_67 : decode M_Bus_power.2.1 67 = .ok (.iaload, 1) := by decide +kernel
theorem e_Bus_power_68 : decode M_Bus_power.2.1 68 = .ok (.ireturn, 1) := by decide +kernel
theorem e_Bus_isDevice_0 : decode M_Bus_isDevice.2.1 0 = .ok (.iload_n 1, 1) := by decide +kernel
theorem e_Bus_isDevice_1 : decode M_Bus_isDevice.2.1 1 = .ok (.ifCond .lt 18, 3) := by decide +kernel
theorem e_Bus_isDevice_4 : decode M_Bus_isDevice.2.1 4 = .ok (.iload_n 1, 1) := by decide +kernel
theorem e_Bus_isDevice_5 : decode M_Bus_isDevice.2.1 5 = .ok (.aload_n 0, 1) := by decide +kernel
theorem e_Bus_isDevice_6 : decode M_Bus_isDevice.2.1 6 = .ok (.getfield 23, 3) := by decide +kernel
theorem e_Bus_isDevice_9 : decode M_Bus_isDevice.2.1 9 = .ok (.getfield 130, 3) := by decide +kernel
theorem e_Bus_isDevice_12 : decode M_Bus_isDevice.2.1 12 = .ok (.if_icmp .ge 7, 3) := by decide +kernel
theorem e_Bus_isDevice_15 : decode M_Bus_isDevice.2.1 15 = .ok (.iconst 1, 1) := by decide +kernel
theorem e_Bus_isDevice_16 : decode M_Bus_isDevice.2.1 16 = .ok (.goto 4, 3) := by decide +kernel
theorem e_Bus_isDevice_19 : decode M_Bus_isDevice.2.1 19 = .ok (.iconst 0, 1) := by decide +kernel
theorem e_Bus_isDevice_20 : decode M_Bus_isDevice.2.1 20 = .ok (.ireturn, 1) := by decide +kernel
theorem e_Bus_hasBit_0 : decode M_Bus_hasBit.2.1 0 = .ok (.iload_n 0, 1) := by decide +kernel
theorem e_Bus_hasBit_1 : decode M_Bus_hasBit.2.1 1 = .ok (.iload_n 1, 1) := by decide +kernel
theorem e_Bus_hasBit_2 : decode M_Bus_hasBit.2.1 2 = .ok (.ishr, 1) := by decide +kernel
theorem e_Bus_hasBit_3 : decode M_Bus_hasBit.2.1 3 = .ok (.iconst 1, 1) := by decide +kernel
theorem e_Bus_hasBit_4 : decode M_Bus_hasBit.2.1 4 = .ok (.iand, 1) := by decide +kernel
theorem e_Bus_hasBit_5 : decode M_Bus_hasBit.2.1 5 = .ok (.iconst 1, 1) := by decide +kernel
theorem e_Bus_hasBit_6 : decode M_Bus_hasBit.2.1 6 = .ok (.if_icmp .ne 7, 3) := by decide +kernel
theorem e_Bus_hasBit_9 : decode M_Bus_hasBit.2.1 9 = .ok (.iconst 1, 1) := by decide +kernel
theorem e_Bus_hasBit_10 : decode M_Bus_hasBit.2.1 10 = .ok (.goto 4, 3) := by decide +kernel
theorem e_Bus_hasBit_13 : decode M_Bus_hasBit.2.1 13 = .ok (.iconst 0, 1) := by decide +kernel
theorem e_Bus_hasBit_14 : decode M_Bus_hasBit.2.1 14 = .ok (.ireturn, 1) := by decide +kernel
theorem e_Bus_broken_0 : decode M_Bus_broken.2.1 0 = .ok (.iload_n 1, 1) := by decide +kernel
theorem e_Bus_broken_1 : decode M_Bus_broken.2.1 1 = .ok (.ifCond .lt 23, 3) := by decide +kernel
theorem e_Bus_broken_4 : decode M_Bus_broken.2.1 4 = .ok (.iload_n 1, 1) := by decide +kernel
theorem e_Bus_broken_5 : decode M_Bus_broken.2.1 5 = .ok (.iconst 4, 1) := by decide +kernel
theorem e_Bus_broken_6 : decode M_Bus_broken.2.1 6 = .ok (.if_icmp .ge 18, 3) := by decide +kernel
theorem e_Bus_broken_9 : decode M_Bus_broken.2.1 9 = .ok (.aload_n 0, 1) := by decide +kernel
theorem e_Bus_broken_10 : decode M_Bus_broken.2.1 10 = .ok (.getfield 37, 3) := by decide +kernel
theorem e_Bus_broken_13 : decode M_Bus_broken.2.1 13 = .ok (.getfield 76, 3) := by decide +kernel
theorem e_Bus_broken_16 : decode M_Bus_broken.2.1 16 = .ok (.iload_n 1, 1) := by decide +kernel
theorem e_Bus_broken_17 : decode M_Bus_broken.2.1 17 = .ok (.invokevirtual 243, 3) := by decide +kernel
theorem e_Bus_broken_20 : decode M_Bus_broken.2.1 20 = .ok (.iload_n 2, 1) := by decide +kernel
theorem e_Bus_broken_21 : decode M_Bus_broken.2.1 21 = .ok (.if_icmp .ne 8, 3) := by decide +kernel
theorem e_Bus_broken_24 : decode M_Bus_broken.2.1 24 = .ok (.aload_n 0, 1) := by decide +kernel
theorem e_Bus_broken_25 : decode M_Bus_broken.2.1 25 = .ok (.invokevirtual 215, 3) := by decide +kernel
theorem e_Bus_broken_28 : decode M_Bus_broken.2.1 28 = .ok (.ireturn, 1) := by decide +kernel
theorem e_Bus_broken_29 : decode M_Bus_broken.2.1 29 = .ok (.aload_n 0, 1) := by decide +kernel
theorem e_Bus_broken_30 : decode M_Bus_broken.2.1 30 = .ok (.getfield 37, 3) := by decide +kernel
theorem e_Bus_broken_33 : decode M_Bus_broken.2.1 33 = .ok (.invokevirtual 227, 3) := by decide +kernel
theorem e_Bus_broken_36 : decode M_Bus_broken.2.1 36 = .ok (.aload_n 0, 1) := by decide +kernel
theorem e_Bus_broken_37 : decode M_Bus_broken.2.1 37 = .ok (.getfield 37, 3) := by decide +kernel
theorem e_Bus_broken_40 : decode M_Bus_broken.2.1 40 = .ok (.getfield 76, 3) := by decide +kernel
theorem e_Bus_broken_43 : decode M_Bus_broken.2.1 43 = .ok (.iload_n 1, 1) := by decide +kernel
theorem e_Bus_broken_44 : decode M_Bus_broken.2.1 44 = .ok (.invokevirtual 246, 3) := by decide +kernel
theorem e_Bus_broken_47 : decode M_Bus_broken.2.1 47 = .ok (.aload_n 0, 1) := by decide +kernel
theorem e_Bus_broken_48 : decode M_Bus_broken.2.1 48 = .ok (.getfield 37, 3) := by decide +kernel
theorem e_Bus_broken_51 : decode M_Bus_broken.2.1 51 = .ok (.getfield 76, 3) := by decide +kernel
theorem e_Bus_broken_54 : decode M_Bus_broken.2.1 54 = .ok (.getfield 127, 3) := by decide +kernel
theorem e_Bus_broken_57 : decode M_Bus_broken.2.1 57 = .ok (.sipush 219, 3) := by decide +kernel
theorem e_Bus_broken_60 : decode M_Bus_broken.2.1 60 = .ok (.iaload, 1) := by decide +kernel
theorem e_Bus_broken_61 : decode M_Bus_broken.2.1 61 = .ok (.ireturn, 1) := by decide +kernel
theorem e_Bus_cycles_0 : decode M_Bus_cycles.2.1 0 = .ok (.iload_n 1, 1) := by decide +kernel
theorem e_Bus_cycles_1 : decode M_Bus_cycles.2.1 1 = .ok (.iconst 1, 1) := by decide +kernel
theorem e_Bus_cycles_2 : decode M_Bus_cycles.2.1 2 = .ok (.if_icmp .lt 31, 3) := by decide +kernel
theorem e_Bus_cycles_5 : decode M_Bus_cycles.2.1 5 = .ok (.iload_n 1, 1) := by decide +kernel
theorem e_Bus_cycles_6 : decode M_Bus_cycles.2.1 6 = .ok (.bipush 30, 2) := by decide +kernel
theorem e_Bus_cycles_8 : decode M_Bus_cycles.2.1 8 = .ok (.if_icmp .gt 25, 3) := by decide +kernel
theorem e_Bus_cycles_11 : decode M_Bus_cycles.2.1 11 = .ok (.aload_n 0, 1) := by decide +kernel
theorem e_Bus_cycles_12 : decode M_Bus_cycles.2.1 12 = .ok (.getfield 37, 3) := by decide +kernel
theorem e_Bus_cycles_15 : decode M_Bus_cycles.2.1 15 = .ok (.getfield 76, 3) := by decide +kernel
theorem e_Bus_cycles_18 : decode M_Bus_cycles.2.1 18 = .ok (.getfield 127, 3) := by decide +kernel
theorem e_Bus_cycles_21 : decode M_Bus_cycles.2.1 21 = .ok (.sipush 223, 3) := by decide +kernel
theorem e_Bus_cycles_24 : decode M_Bus_cycles.2.1 24 = .ok (.iaload, 1) := by decide +kernel
theorem e_Bus_cycles_25 : decode M_Bus_cycles.2.1 25 = .ok (.iload_n 1, 1) := by decide +kernel
theorem e_Bus_cycles_26 : decode M_Bus_cycles.2.1 26 = .ok (.iadd, 1) := by decide +kernel
theorem e_Bus_cycles_27 : decode M_Bus_cycles.2.1 27 = .ok (.sipush 2000, 3) := by decide +kernel
theorem e_Bus_cycles_30 : decode M_Bus_cycles.2.1 30 = .ok (.if_icmp .le 8, 3) := by decide +kernel
theorem e_Bus_cycles_33 : decode M_Bus_cycles.2.1 33 = .ok (.aload_n 0, 1) := by decide +kernel
theorem e_Bus_cycles_34 : decode M_Bus_cycles.2.1 34 = .ok (.invokevirtual 215, 3) := by decide +kernel
theorem e_Bus_cycles_37 : decode M_Bus_cycles.2.1 37 = .ok (.ireturn, 1) := by decide +kernel
theorem e_Bus_cycles_38 : decode M_Bus_cycles.2.1 38 = .ok (.aload_n 0, 1) := by decide +kernel
theorem e_Bus_cycles_39 : decode M_Bus_cycles.2.1 39 = .ok (.getfield 37, 3) := by decide +kernel
theorem e_Bus_cycles_42 : decode M_Bus_cycles.2.1 42 = .ok (.invokevirtual 227, 3) := by decide +kernel
theorem e_Bus_cycles_45 : decode M_Bus_cycles.2.1 45 = .ok (.aload_n 0, 1) := by decide +kernel
theorem e_Bus_cycles_46 : decode M_Bus_cycles.2.1 46 = .ok (.aload_n 0, 1) := by decide +kernel
theorem e_Bus_cycles_47 : decode M_Bus_cycles.2.1 47 = .ok (.getfield 37, 3) := by decide +kernel
theorem e_Bus_cycles_50 : decode M_Bus_cycles.2.1 50 = .ok (.getfield 76, 3) := by decide +kernel
theorem e_Bus_cycles_53 : decode M_Bus_cycles.2.1 53 = .ok (.iload_n 1, 1) := by decide +kernel
theorem e_Bus_cycles_54 : decode M_Bus_cycles.2.1 54 = .ok (.invokevirtual 249, 3) := by decide +kernel
theorem e_Bus_cycles_57 : decode M_Bus_cycles.2.1 57 = .ok (.aload_n 0, 1) := by decide +kernel
theorem e_Bus_cycles_58 : decode M_Bus_cycles.2.1 58 = .ok (.getfield 37, 3) := by decide +kernel
theorem e_Bus_cycles_61 : decode M_Bus_cycles.2.1 61 = .ok (.getfield 76, 3) := by decide +kernel
theorem e_Bus_cycles_64 : decode M_Bus_cycles.2.1 64 = .ok (.getfield 127, 3) := by decide +kernel
theorem e_Bus_cycles_67 : decode M_Bus_cycles.2.1 67 = .ok (.sipush 223, 3) := by decide +kernel
theorem e_Bus_cycles_70 : decode M_Bus_cycles.2.1 70 = .ok (.iaload, 1) := by decide +kernel
theorem e_Bus_cycles_71 : decode M_Bus_cycles.2.1 71 = .ok (.ireturn, 1) := by decide +kernel
theorem e_Bus_passCycles_0 : decode M_Bus_passCycles.2.1 0 = .ok (.iconst 0, 1) := by decide +kernel
theorem e_Bus_passCycles_1 : decode M_Bus_passCycles.2.1 1 = .ok (.istore_n 3, 1) := by decide +kernel
theorem e_Bus_passCycles_2 : decode M_Bus_passCycles.2.1 2 = .ok (.iload_n 3, 1) := by decide +kernel
theorem e_Bus_passCycles_3 : decode M_Bus_passCycles.2.1 3 = .ok (.iload_n 2, 1) := by decide +kernel
theorem e_Bus_passCycles_4 : decode M_Bus_passCycles.2.1 4 = .ok (.if_icmp .ge 20, 3) := by decide +kernel
theorem e_Bus_passCycles_7 : decode M_Bus_passCycles.2.1 7 = .ok (.aload_n 0, 1) := by decide +kernel
theorem e_Bus_passCycles_8 : decode M_Bus_passCycles.2.1 8 = .ok (.getfield 23, 3) := by decide +kernel
theorem e_Bus_passCycles_11 : decode M_Bus_passCycles.2.1 11 = .ok (.aload_n 1, 1) := by decide +kernel
theorem e_Bus_passCycles_12 : decode M_Bus_passCycles.2.1 12 = .ok (.getfield 127, 3) := by decide +kernel
theorem e_Bus_passCycles_15 : decode M_Bus_passCycles.2.1 15 = .ok (.invokestatic 269, 3) := by decide +kernel
theorem e_Bus_passCycles_18 : decode M_Bus_passCycles.2.1 18 = .ok (.iinc 3 1, 3) := by decide +kernel
theorem e_Bus_passCycles_21 : decode M_Bus_passCycles.2.1 21 = .ok (.goto (-19), 3) := by decide +kernel
theorem e_Bus_passCycles_24 : decode M_Bus_passCycles.2.1 24 = .ok (.return_, 1) := by decide +kernel
theorem e_Bus_undo_0 : decode M_Bus_undo.2.1 0 = .ok (.aload_n 0, 1) := by decide +kernel
theorem e_Bus_undo_1 : decode M_Bus_undo.2.1 1 = .ok (.getfield 37, 3) := by decide +kernel
theorem e_Bus_undo_4 : decode M_Bus_undo.2.1 4 = .ok (.getfield 111, 3) := by decide +kernel
theorem e_Bus_undo_7 : decode M_Bus_undo.2.1 7 = .ok (.aload_n 0, 1) := by decide +kernel
theorem e_Bus_undo_8 : decode M_Bus_undo.2.1 8 = .ok (.getfield 37, 3) := by decide +kernel
theorem e_Bus_undo_11 : decode M_Bus_undo.2.1 11 = .ok (.getfield 76, 3) := by decide +kernel
theorem e_Bus_undo_14 : decode M_Bus_undo.2.1 14 = .ok (.invokevirtual 253, 3) := by decide +kernel
theorem e_Bus_undo_17 : decode M_Bus_undo.2.1 17 = .ok (.ireturn, 1) := by decide +kernel
theorem e_Bus_toRide_0 : decode M_Bus_toRide.2.1 0 = .ok (.aload_n 0, 1) := by decide +kernel
theorem e_Bus_toRide_1 : decode M_Bus_toRide.2.1 1 = .ok (.getfield 37, 3) := by decide +kernel
theorem e_Bus_toRide_4 : decode M_Bus_toRide.2.1 4 = .ok (.getfield 76, 3) := by decide +kernel
theorem e_Bus_toRide_7 : decode M_Bus_toRide.2.1 7 = .ok (.getfield 127, 3) := by decide +kernel
theorem e_Bus_toRide_10 : decode M_Bus_toRide.2.1 10 = .ok (.sipush 221, 3) := by decide +kernel
theorem e_Bus_toRide_13 : decode M_Bus_toRide.2.1 13 = .ok (.iaload, 1) := by decide +kernel
theorem e_Bus_toRide_14 : decode M_Bus_toRide.2.1 14 = .ok (.istore_n 1, 1) := by decide +kernel
theorem e_Bus_toRide_15 : decode M_Bus_toRide.2.1 15 = .ok (.aload_n 0, 1) := by decide +kernel
theorem e_Bus_toRide_16 : decode M_Bus_toRide.2.1 16 = .ok (.iload_n 1, 1) := by decide +kernel
theorem e_Bus_toRide_17 : decode M_Bus_toRide.2.1 17 = .ok (.invokevirtual 230, 3) := by decide +kernel
theorem e_Bus_toRide_20 : decode M_Bus_toRide.2.1 20 = .ok (.ifCond .ne 5, 3) := by decide +kernel
theorem e_Bus_toRide_23 : decode M_Bus_toRide.2.1 23 = .ok (.iconst (-1), 1) := by decide +kernel
theorem e_Bus_toRide_24 : decode M_Bus_toRide.2.1 24 = .ok (.ireturn, 1) := by decide +kernel
theorem e_Bus_toRide_25 : decode M_Bus_toRide.2.1 25 = .ok (.iconst 0, 1) := by decide +kernel
theorem e_Bus_toRide_26 : decode M_Bus_toRide.2.1 26 = .ok (.istore_n 2, 1) := by decide +kernel
theorem e_Bus_toRide_27 : decode M_Bus_toRide.2.1 27 = .ok (.iconst 0, 1) := by decide +kernel
theorem e_Bus_toRide_28 : decode M_Bus_toRide.2.1 28 = .ok (.istore_n 3, 1) := by decide +kernel
theorem e_Bus_toRide_29 : decode M_Bus_toRide.2.1 29 = .ok (.iload_n 3, 1) := by decide +kernel
theorem e_Bus_toRide_30 : decode M_Bus_toRide.2.1 30 = .ok (.aload_n 0, 1) := by decide +kernel
theorem e_Bus_toRide_31 : decode M_Bus_toRide.2.1 31 = .ok (.getfield 23, 3) := by decide +kernel
theorem e_Bus_toRide_34 : decode M_Bus_toRide.2.1 34 = .ok (.getfield 133, 3) := by decide +kernel
theorem e_Bus_toRide_37 : decode M_Bus_toRide.2.1 37 = .ok (.if_icmp .ge 28, 3) := by decide +kernel
theorem e_Bus_toRide_40 : decode M_Bus_toRide.2.1 40 = .ok (.aload_n 0, 1) := by decide +kernel
theorem e_Bus_toRide_41 : decode M_Bus_toRide.2.1 41 = .ok (.getfield 23, 3) := by decide +kernel
theorem e_Bus_toRide_44 : decode M_Bus_toRide.2.1 44 = .ok (.getfield 162, 3) := by decide +kernel
theorem e_Bus_toRide_47 : decode M_Bus_toRide.2.1 47 = .ok (.iload_n 3, 1) := by decide +kernel
theorem e_Bus_toRide_48 : decode M_Bus_toRide.2.1 48 = .ok (.iaload, 1) := by decide +kernel
theorem e_Bus_toRide_49 : decode M_Bus_toRide.2.1 49 = .ok (.iload_n 1, 1) := by decide +kernel
theorem e_Bus_toRide_50 : decode M_Bus_toRide.2.1 50 = .ok (.if_icmp .eq 9, 3) := by decide +kernel
theorem e_Bus_toRide_53 : decode M_Bus_toRide.2.1 53 = .ok (.iload_n 2, 1) := by decide +kernel
theorem e_Bus_toRide_54 : decode M_Bus_toRide.2.1 54 = .ok (.iconst 1, 1) := by decide +kernel
theorem e_Bus_toRide_55 : decode M_Bus_toRide.2.1 55 = .ok (.iload_n 3, 1) := by decide +kernel
theorem e_Bus_toRide_56 : decode M_Bus_toRide.2.1 56 = .ok (.ishl, 1) := by decide +kernel
theorem e_Bus_toRide_57 : decode M_Bus_toRide.2.1 57 = .ok (.ior, 1) := by decide +kernel
theorem e_Bus_toRide_58 : decode M_Bus_toRide.2.1 58 = .ok (.istore_n 2, 1) := by decide +kernel
theorem e_Bus_toRide_59 : decode M_Bus_toRide.2.1 59 = .ok (.iinc 3 1, 3) := by decide +kernel
theorem e_Bus_toRide_62 : decode M_Bus_toRide.2.1 62 = .ok (.goto (-33), 3) := by decide +kernel
theorem e_Bus_toRide_65 : decode M_Bus_toRide.2.1 65 = .ok (.iconst 1, 1) := by decide +kernel
theorem e_Bus_toRide_66 : decode M_Bus_toRide.2.1 66 = .ok (.istore_n 3, 1) := by decide +kernel
theorem e_Bus_toRide_67 : decode M_Bus_toRide.2.1 67 = .ok (.iload_n 3, 1) := by decide +kernel
theorem e_Bus_toRide_68 : decode M_Bus_toRide.2.1 68 = .ok (.bipush 9, 2) := by decide +kernel
theorem e_Bus_toRide_70 : decode M_Bus_toRide.2.1 70 = .ok (.if_icmp .gt 24, 3) := by decide +kernel
theorem e_Bus_toRide_73 : decode M_Bus_toRide.2.1 73 = .ok (.aload_n 0, 1) := by decide +kernel
theorem e_Bus_toRide_74 : decode M_Bus_toRide.2.1 74 = .ok (.iload_n 1, 1) := by decide +kernel
theorem e_Bus_toRide_75 : decode M_Bus_toRide.2.1 75 = .ok (.bipush 20, 2) := by decide +kernel
theorem e_Bus_toRide_77 : decode M_Bus_toRide.2.1 77 = .ok (.iload_n 3, 1) := by decide +kernel
theorem e_Bus_toRide_78 : decode M_Bus_toRide.2.1 78 = .ok (.invokevirtual 281, 3) := by decide +kernel
theorem e_Bus_toRide_81 : decode M_Bus_toRide.2.1 81 = .ok (.iload_n 2, 1) := by decide +kernel
theorem e_Bus_toRide_82 : decode M_Bus_toRide.2.1 82 = .ok (.iand, 1) := by decide +kernel
theorem e_Bus_toRide_83 : decode M_Bus_toRide.2.1 83 = .ok (.ifCond .ne 5, 3) := by decide +kernel
theorem e_Bus_toRide_86 : decode M_Bus_toRide.2.1 86 = .ok (.iload_n 3, 1) := by decide +kernel
theorem e_Bus_toRide_87 : decode M_Bus_toRide.2.1 87 = .ok (.ireturn, 1) := by decide +kernel
theorem e_Bus_toRide_88 : decode M_Bus_toRide.2.1 88 = .ok (.iinc 3 1, 3) := by decide +kernel
theorem e_Bus_toRide_91 : decode M_Bus_toRide.2.1 91 = .ok (.goto (-24), 3) := by decide +kernel
theorem e_Bus_toRide_94 : decode M_Bus_toRide.2.1 94 = .ok (.iconst (-1), 1) := by decide +kernel
theorem e_Bus_toRide_95 : decode M_Bus_toRide.2.1 95 = .ok (.ireturn, 1) := by decide +kernel
theorem e_Bus_unlikeWithout_0 : decode M_Bus_unlikeWithout.2.1 0 = .ok (.aload_n 0, 1) := by decide +kernel
theorem e_Bus_unlikeWithout_1 : decode M_Bus_unlikeWithout.2.1 1 = .ok (.getfield 55, 3) := by decide +kernel
theorem e_Bus_unlikeWithout_4 : decode M_Bus_unlikeWithout.2.1 4 = .ok (.aload_n 0, 1) := by decide +kernel
theorem e_Bus_unlikeWithout_5 : decode M_Bus_unlikeWithout.2.1 5 = .ok (.getfield 37, 3) := by decide +kernel
theorem e_Bus_unlikeWithout_8 : decode M_Bus_unlikeWithout.2.1 8 = .ok (.getfield 76, 3) := by decide +kernel
theorem e_Bus_unlikeWithout_11 : decode M_Bus_unlikeWithout.2.1 11 = .ok (.invokevirtual 265, 3) := by decide +kernel
theorem e_Bus_unlikeWithout_14 : decode M_Bus_unlikeWithout.2.1 14 = .ok (.aload_n 0, 1) := by decide +kernel
theorem e_Bus_unlikeWithout_15 : decode M_Bus_unlikeWithout.2.1 15 = .ok (.getfield 55, 3) := by decide +kernel
theorem e_Bus_unlikeWithout_18 : decode M_Bus_unlikeWithout.2.1 18 = .ok (.getfield 127, 3) := by decide +kernel
theorem e_Bus_unlikeWithout_21 : decode M_Bus_unlikeWithout.2.1 21 = .ok (.sipush 224, 3) := by decide +kernel
theorem e_Bus_unlikeWithout_24 : decode M_Bus_unlikeWithout.2.1 24 = .ok (.iload_n 3, 1) := by decide +kernel
theorem e_Bus_unlikeWithout_25 : decode M_Bus_unlikeWithout.2.1 25 = .ok (.iastore, 1) := by decide +kernel
theorem e_Bus_unlikeWithout_26 : decode M_Bus_unlikeWithout.2.1 26 = .ok (.aload_n 0, 1) := by decide +kernel
theorem e_Bus_unlikeWithout_27 : decode M_Bus_unlikeWithout.2.1 27 = .ok (.getfield 51, 3) := by decide +kernel
theorem e_Bus_unlikeWithout_30 : decode M_Bus_unlikeWithout.2.1 30 = .ok (.aload_n 0, 1) := by decide +kernel
theorem e_Bus_unlikeWithout_31 : decode M_Bus_unlikeWithout.2.1 31 = .ok (.getfield 55, 3) := by decide +kernel
theorem e_Bus_unlikeWithout_34 : decode M_Bus_unlikeWithout.2.1 34 = .ok (.invokevirtual 265, 3) := by decide +kernel
theorem e_Bus_unlikeWithout_37 : decode M_Bus_unlikeWithout.2.1 37 = .ok (.aload_n 0, 1) := by decide +kernel
theorem e_Bus_unlikeWithout_38 : decode M_Bus_unlikeWithout.2.1 38 = .ok (.getfield 51, 3) := by decide +kernel
theorem e_Bus_unlikeWithout_41 : decode M_Bus_unlikeWithout.2.1 41 = .ok (.iload_n 1, 1) := by decide +kernel
theorem e_Bus_unlikeWithout_42 : decode M_Bus_unlikeWithout.2.1 42 = .ok (.invokevirtual 233, 3) := by decide +kernel
theorem e_Bus_unlikeWithout_45 : decode M_Bus_unlikeWithout.2.1 45 = .ok (.ifCond .eq 19, 3) := by decide +kernel
theorem e_Bus_unlikeWithout_48 : decode M_Bus_unlikeWithout.2.1 48 = .ok (.aload_n 0, 1) := by decide +kernel
theorem e_Bus_unlikeWithout_49 : decode M_Bus_unlikeWithout.2.1 49 = .ok (.getfield 51, 3) := by decide +kernel
theorem e_Bus_unlikeWithout_52 : decode M_Bus_unlikeWithout.2.1 52 = .ok (.iload_n 1, 1) := by decide +kernel
theorem e_Bus_unlikeWithout_53 : decode M_Bus_unlikeWithout.2.1 53 = .ok (.iconst 0, 1) := by decide +kernel
theorem e_Bus_unlikeWithout_54 : decode M_Bus_unlikeWithout.2.1 54 = .ok (.aload_n 0, 1) := by decide +kernel
theorem e_Bus_unlikeWithout_55 : decode M_Bus_unlikeWithout.2.1 55 = .ok (.getfield 23, 3) := by decide +kernel
theorem e_Bus_unlikeWithout_58 : decode M_Bus_unlikeWithout.2.1 58 = .ok (.getfield 236, 3) := by decide +kernel
theorem e_Bus_unlikeWithout_61 : decode M_Bus_unlikeWithout.2.1 61 = .ok (.invokevirtual 239, 3) := by decide +kernel
theorem e_Bus_unlikeWithout_64 : decode M_Bus_unlikeWithout.2.1 64 = .ok (.iconst 0, 1) := by decide +kernel
theorem e_Bus_unlikeWithout_65 : decode M_Bus_unlikeWithout.2.1 65 = .ok (.istore 4, 2) := by decide +kernel
theorem e_Bus_unlikeWithout_67 : decode M_Bus_unlikeWithout.2.1 67 = .ok (.iconst 0, 1) := by decide +kernel
theorem e_Bus_unlikeWithout_68 : decode M_Bus_unlikeWithout.2.1 68 = .ok (.istore 5, 2) := by decide +kernel
theorem e_Bus_unlikeWithout_70 : decode M_Bus_unlikeWithout.2.1 70 = .ok (.iload 5, 2) := by decide +kernel
theorem e_Bus_unlikeWithout_72 : decode M_Bus_unlikeWithout.2.1 72 = .ok (.iload_n 2, 1) := by decide +kernel
theorem e_Bus_unlikeWithout_73 : decode M_Bus_unlikeWithout.2.1 73 = .ok (.if_icmp .ge 99, 3) := by decide +kernel
theorem e_Bus_unlikeWithout_76 : decode M_Bus_unlikeWithout.2.1 76 = .ok (.aload_n 0, 1) := by decide +kernel
theorem e_Bus_unlikeWithout_77 : decode M_Bus_unlikeWithout.2.1 77 = .ok (.getfield 23, 3) := by decide +kernel
theorem e_Bus_unlikeWithout_80 : decode M_Bus_unlikeWithout.2.1 80 = .ok (.aload_n 0, 1) := by decide +kernel
theorem e_Bus_unlikeWithout_81 : decode M_Bus_unlikeWithout.2.1 81 = .ok (.getfield 55, 3) := by decide +kernel
theorem e_Bus_unlikeWithout_84 : decode M_Bus_unlikeWithout.2.1 84 = .ok (.getfield 127, 3) := by decide +kernel
theorem e_Bus_unlikeWithout_87 : decode M_Bus_unlikeWithout.2.1 87 = .ok (.invokestatic 269, 3) := by decide +kernel
theorem e_Bus_unlikeWithout_90 : decode M_Bus_unlikeWithout.2.1 90 = .ok (.aload_n 0, 1) := by decide +kernel
theorem e_Bus_unlikeWithout_91 : decode M_Bus_unlikeWithout.2.1 91 = .ok (.getfield 23, 3) := by decide +kernel
theorem e_Bus_unlikeWithout_94 : decode M_Bus_unlikeWithout.2.1 94 = .ok (.aload_n 0, 1) := by decide +kernel
theorem e_Bus_unlikeWithout_95 : decode M_Bus_unlikeWithout.2.1 95 = .ok (.getfield 51, 3) := by decide +kernel
theorem e_Bus_unlikeWithout_98 : decode M_Bus_unlikeWithout.2.1 98 = .ok (.getfield 127, 3) := by decide +kernel
theorem e_Bus_unlikeWithout_101 : decode M_Bus_unlikeWithout.2.1 101 = .ok (.invokestatic 269, 3) := by decide +kernel
theorem e_Bus_unlikeWithout_104 : decode M_Bus_unlikeWithout.2.1 104 = .ok (.iconst 0, 1) := by decide +kernel
theorem e_Bus_unlikeWithout_105 : decode M_Bus_unlikeWithout.2.1 105 = .ok (.istore 6, 2) := by decide +kernel
theorem e_Bus_unlikeWithout_107 : decode M_Bus_unlikeWithout.2.1 107 = .ok (.iload 6, 2) := by decide +kernel
theorem e_Bus_unlikeWithout_109 : decode M_Bus_unlikeWithout.2.1 109 = .ok (.aload_n 0, 1) := by decide +kernel
theorem e_Bus_unlikeWithout_110 : decode M_Bus_unlikeWithout.2.1 110 = .ok (.getfield 23, 3) := by decide +kernel
theorem e_Bus_unlikeWithout_113 : decode M_Bus_unlikeWithout.2.1 113 = .ok (.getfield 133, 3) := by decide +kernel
theorem e_Bus_unlikeWithout_116 : decode M_Bus_unlikeWithout.2.1 116 = .ok (.if_icmp .ge 50, 3) := by decide +kernel
theorem e_Bus_unlikeWithout_119 : decode M_Bus_unlikeWithout.2.1 119 = .ok (.iload 6, 2) := by decide +kernel
theorem e_Bus_unlikeWithout_121 : decode M_Bus_unlikeWithout.2.1 121 = .ok (.bipush 9, 2) := by decide +kernel
theorem e_Bus_unlikeWithout_123 : decode M_Bus_unlikeWithout.2.1 123 = .ok (.imul, 1) := by decide +kernel
theorem e_Bus_unlikeWithout_124 : decode M_Bus_unlikeWithout.2.1 124 = .ok (.iconst 1, 1) := by decide +kernel
theorem e_Bus_unlikeWithout_125 : decode M_Bus_unlikeWithout.2.1 125 = .ok (.iadd, 1) := by decide +kernel
theorem e_Bus_unlikeWithout_126 : decode M_Bus_unlikeWithout.2.1 126 = .ok (.istore 7, 2) := by decide +kernel
theorem e_Bus_unlikeWithout_128 : decode M_Bus_unlikeWithout.2.1 128 = .ok (.aload_n 0, 1) := by decide +kernel
theorem e_Bus_unlikeWithout_129 : decode M_Bus_unlikeWithout.2.1 129 = .ok (.getfield 55, 3) := by decide +kernel
theorem e_Bus_unlikeWithout_132 : decode M_Bus_unlikeWithout.2.1 132 = .ok (.getfield 127, 3) := by decide +kernel
theorem e_Bus_unlikeWithout_135 : decode M_Bus_unlikeWithout.2.1 135 = .ok (.iload 7, 2) := by decide +kernel
theorem e_Bus_unlikeWithout_137 : decode M_Bus_unlikeWithout.2.1 137 = .ok (.iaload, 1) := by decide +kernel
theorem e_Bus_unlikeWithout_138 : decode M_Bus_unlikeWithout.2.1 138 = .ok (.aload_n 0, 1) := by decide +kernel
theorem e_Bus_unlikeWithout_139 : decode M_Bus_unlikeWithout.2.1 139 = .ok (.getfield 51, 3) := by decide +kernel
theorem e_Bus_unlikeWithout_142 : decode M_Bus_unlikeWithout.2.1 142 = .ok (.getfield 127, 3) := by decide +kernel
theorem e_Bus_unlikeWithout_145 : decode M_Bus_unlikeWithout.2.1 145 = .ok (.iload 7, 2) := by decide +kernel
theorem e_Bus_unlikeWithout_147 : decode M_Bus_unlikeWithout.2.1 147 = .ok (.iaload, 1) := by decide +kernel
theorem e_Bus_unlikeWithout_148 : decode M_Bus_unlikeWithout.2.1 148 = .ok (.if_icmp .eq 12, 3) := by decide +kernel
theorem e_Bus_unlikeWithout_151 : decode M_Bus_unlikeWithout.2.1 151 = .ok (.iload 4, 2) := by decide +kernel
theorem e_Bus_unlikeWithout_153 : decode M_Bus_unlikeWithout.2.1 153 = .ok (.iconst 1, 1) := by decide +kernel
theorem e_Bus_unlikeWithout_154 : decode M_Bus_unlikeWithout.2.1 154 = .ok (.iload 6, 2) := by decide +kernel
theorem e_Bus_unlikeWithout_156 : decode M_Bus_unlikeWithout.2.1 156 = .ok (.ishl, 1) := by decide +kernel
theorem e_Bus_unlikeWithout_157 : decode M_Bus_unlikeWithout.2.1 157 = .ok (.ior, 1) := by decide +kernel
theorem e_Bus_unlikeWithout_158 : decode M_Bus_unlikeWithout.2.1 158 = .ok (.istore 4, 2) := by decide +kernel
theorem e_Bus_unlikeWithout_160 : decode M_Bus_unlikeWithout.2.1 160 = .ok (.iinc 6 1, 3) := by decide +kernel
theorem e_Bus_unlikeWithout_163 : decode M_Bus_unlikeWithout.2.1 163 = .ok (.goto (-56), 3) := by decide +kernel
theorem e_Bus_unlikeWithout_166 : decode M_Bus_unlikeWithout.2.1 166 = .ok (.iinc 5 1, 3) := by decide +kernel
theorem e_Bus_unlikeWithout_169 : decode M_Bus_unlikeWithout.2.1 169 = .ok (.goto (-99), 3) := by decide +kernel
theorem e_Bus_unlikeWithout_172 : decode M_Bus_unlikeWithout.2.1 172 = .ok (.iload 4, 2) := by decide +kernel
theorem e_Bus_unlikeWithout_174 : decode M_Bus_unlikeWithout.2.1 174 = .ok (.ireturn, 1) := by decide +kernel
theorem e_Bus_note_0 : decode M_Bus_note.2.1 0 = .ok (.aload_n 0, 1) := by decide +kernel
theorem e_Bus_note_1 : decode M_Bus_note.2.1 1 = .ok (.iload_n 1, 1) := by decide +kernel
theorem e_Bus_note_2 : decode M_Bus_note.2.1 2 = .ok (.invokevirtual 207, 3) := by decide +kernel
theorem e_Bus_note_5 : decode M_Bus_note.2.1 5 = .ok (.ifCond .eq 27, 3) := by decide +kernel
theorem e_Bus_note_8 : decode M_Bus_note.2.1 8 = .ok (.iload_n 2, 1) := by decide +kernel
theorem e_Bus_note_9 : decode M_Bus_note.2.1 9 = .ok (.iconst 1, 1) := by decide +kernel
theorem e_Bus_note_10 : decode M_Bus_note.2.1 10 = .ok (.if_icmp .lt 22, 3) := by decide +kernel
theorem e_Bus_note_13 : decode M_Bus_note.2.1 13 = .ok (.iload_n 2, 1) := by decide +kernel
theorem e_Bus_note_14 : decode M_Bus_note.2.1 14 = .ok (.bipush 20, 2) := by decide +kernel
theorem e_Bus_note_16 : decode M_Bus_note.2.1 16 = .ok (.if_icmp .gt 16, 3) := by decide +kernel
theorem e_Bus_note_19 : decode M_Bus_note.2.1 19 = .ok (.iload_n 3, 1) := by decide +kernel
theorem e_Bus_note_20 : decode M_Bus_note.2.1 20 = .ok (.ifCond .lt 12, 3) := by decide +kernel
theorem e_Bus_note_23 : decode M_Bus_note.2.1 23 = .ok (.iload_n 3, 1) := by decide +kernel
theorem e_Bus_note_24 : decode M_Bus_note.2.1 24 = .ok (.iconst 3, 1) := by decide +kernel
theorem e_Bus_note_25 : decode M_Bus_note.2.1 25 = .ok (.if_icmp .gt 7, 3) := by decide +kernel
theorem e_Bus_note_28 : decode M_Bus_note.2.1 28 = .ok (.iconst 1, 1) := by decide +kernel
theorem e_Bus_note_29 : decode M_Bus_note.2.1 29 = .ok (.goto 4, 3) := by decide +kernel
theorem e_Bus_note_32 : decode M_Bus_note.2.1 32 = .ok (.iconst 0, 1) := by decide +kernel
theorem e_Bus_note_33 : decode M_Bus_note.2.1 33 = .ok (.istore 4, 2) := by decide +kernel
theorem e_Bus_note_35 : decode M_Bus_note.2.1 35 = .ok (.iload 4, 2) := by decide +kernel
theorem e_Bus_note_37 : decode M_Bus_note.2.1 37 = .ok (.ifCond .eq 18, 3) := by decide +kernel
theorem e_Bus_note_40 : decode M_Bus_note.2.1 40 = .ok (.aload_n 0, 1) := by decide +kernel
theorem e_Bus_note_41 : decode M_Bus_note.2.1 41 = .ok (.getfield 37, 3) := by decide +kernel
theorem e_Bus_note_44 : decode M_Bus_note.2.1 44 = .ok (.getfield 120, 3) := by decide +kernel
theorem e_Bus_note_47 : decode M_Bus_note.2.1 47 = .ok (.getfield 152, 3) := by decide +kernel
theorem e_Bus_note_50 : decode M_Bus_note.2.1 50 = .ok (.bipush 6, 2) := by decide +kernel
theorem e_Bus_note_52 : decode M_Bus_note.2.1 52 = .ok (.if_icmp .lt 18, 3) := by decide +kernel
theorem e_Bus_note_55 : decode M_Bus_note.2.1 55 = .ok (.aload_n 0, 1) := by decide +kernel
theorem e_Bus_note_56 : decode M_Bus_note.2.1 56 = .ok (.getfield 37, 3) := by decide +kernel
theorem e_Bus_note_59 : decode M_Bus_note.2.1 59 = .ok (.getfield 97, 3) := by decide +kernel
theorem e_Bus_note_62 : decode M_Bus_note.2.1 62 = .ok (.iconst 2, 1) := by decide +kernel
theorem e_Bus_note_63 : decode M_Bus_note.2.1 63 = .ok (.dup2, 1) := by decide +kernel
theorem e_Bus_note_64 : decode M_Bus_note.2.1 64 = .ok (.iaload, 1) := by decide +kernel
theorem e_Bus_note_65 : decode M_Bus_note.2.1 65 = .ok (.iconst 1, 1) := by decide +kernel
theorem e_Bus_note_66 : decode M_Bus_note.2.1 66 = .ok (.iadd, 1) := by decide +kernel
theorem e_Bus_note_67 : decode M_Bus_note.2.1 67 = .ok (.iastore, 1) := by decide +kernel
theorem e_Bus_note_68 : decode M_Bus_note.2.1 68 = .ok (.iconst (-1), 1) := by decide +kernel
theorem e_Bus_note_69 : decode M_Bus_note.2.1 69 = .ok (.ireturn, 1) := by decide +kernel
theorem e_Bus_note_70 : decode M_Bus_note.2.1 70 = .ok (.aload_n 0, 1) := by decide +kernel
theorem e_Bus_note_71 : decode M_Bus_note.2.1 71 = .ok (.getfield 37, 3) := by decide +kernel
theorem e_Bus_note_74 : decode M_Bus_note.2.1 74 = .ok (.getfield 120, 3) := by decide +kernel
theorem e_Bus_note_77 : decode M_Bus_note.2.1 77 = .ok (.iload_n 1, 1) := by decide +kernel
theorem e_Bus_note_78 : decode M_Bus_note.2.1 78 = .ok (.iload_n 2, 1) := by decide +kernel
theorem e_Bus_note_79 : decode M_Bus_note.2.1 79 = .ok (.iload_n 3, 1) := by decide +kernel
theorem e_Bus_note_80 : decode M_Bus_note.2.1 80 = .ok (.invokevirtual 292, 3) := by decide +kernel
theorem e_Bus_note_83 : decode M_Bus_note.2.1 83 = .ok (.aload_n 0, 1) := by decide +kernel
theorem e_Bus_note_84 : decode M_Bus_note.2.1 84 = .ok (.getfield 37, 3) := by decide +kernel
theorem e_Bus_note_87 : decode M_Bus_note.2.1 87 = .ok (.getfield 120, 3) := by decide +kernel
theorem e_Bus_note_90 : decode M_Bus_note.2.1 90 = .ok (.getfield 152, 3) := by decide +kernel
theorem e_Bus_note_93 : decode M_Bus_note.2.1 93 = .ok (.ireturn, 1) := by decide +kernel
theorem e_Bus_fits_0 : decode M_Bus_fits.2.1 0 = .ok (.iconst 0, 1) := by decide +kernel
theorem e_Bus_fits_1 : decode M_Bus_fits.2.1 1 = .ok (.istore_n 1, 1) := by decide +kernel
theorem e_Bus_fits_2 : decode M_Bus_fits.2.1 2 = .ok (.iconst 0, 1) := by decide +kernel
theorem e_Bus_fits_3 : decode M_Bus_fits.2.1 3 = .ok (.istore_n 2, 1) := by decide +kernel
theorem e_Bus_fits_4 : decode M_Bus_fits.2.1 4 = .ok (.iload_n 2, 1) := by decide +kernel
theorem e_Bus_fits_5 : decode M_Bus_fits.2.1 5 = .ok (.bipush 10, 2) := by decide +kernel
theorem e_Bus_fits_7 : decode M_Bus_fits.2.1 7 = .ok (.if_icmp .ge 30, 3) := by decide +kernel
theorem e_Bus_fits_10 : decode M_Bus_fits.2.1 10 = .ok (.aload_n 0, 1) := by decide +kernel
theorem e_Bus_fits_11 : decode M_Bus_fits.2.1 11 = .ok (.iload_n 2, 1) := by decide +kernel
theorem e_Bus_fits_12 : decode M_Bus_fits.2.1 12 = .ok (.invokevirtual 295, 3) := by decide +kernel
theorem e_Bus_fits_15 : decode M_Bus_fits.2.1 15 = .ok (.ifCond .eq 16, 3) := by decide +kernel
theorem e_Bus_fits_18 : decode M_Bus_fits.2.1 18 = .ok (.aload_n 0, 1) := by decide +kernel
theorem e_Bus_fits_19 : decode M_Bus_fits.2.1 19 = .ok (.invokevirtual 298, 3) := by decide +kernel
theorem e_Bus_fits_22 : decode M_Bus_fits.2.1 22 = .ok (.ifCond .eq 9, 3) := by decide +kernel
theorem e_Bus_fits_25 : decode M_Bus_fits.2.1 25 = .ok (.iload_n 1, 1) := by decide +kernel
theorem e_Bus_fits_26 : decode M_Bus_fits.2.1 26 = .ok (.iconst 1, 1) := by decide +kernel
theorem e_Bus_fits_27 : decode M_Bus_fits.2.1 27 = .ok (.iload_n 2, 1) := by decide +kernel
theorem e_Bus_fits_28 : decode M_Bus_fits.2.1 28 = .ok (.ishl, 1) := by decide +kernel
theorem e_Bus_fits_29 : decode M_Bus_fits.2.1 29 = .ok (.ior, 1) := by decide +kernel
theorem e_Bus_fits_30 : decode M_Bus_fits.2.1 30 = .ok (.istore_n 1, 1) := by decide +kernel
theorem e_Bus_fits_31 : decode M_Bus_fits.2.1 31 = .ok (.iinc 2 1, 3) := by decide +kernel
theorem e_Bus_fits_34 : decode M_Bus_fits.2.1 34 = .ok (.goto (-30), 3) := by decide +kernel
theorem e_Bus_fits_37 : decode M_Bus_fits.2.1 37 = .ok (.iload_n 1, 1) := by decide +kernel
theorem e_Bus_fits_38 : decode M_Bus_fits.2.1 38 = .ok (.ireturn, 1) := by decide +kernel
theorem e_Bus_startTrialBy_0 : decode M_Bus_startTrialBy.2.1 0 = .ok (.aload_n 0, 1) := by decide +kernel
theorem e_Bus_startTrialBy_1 : decode M_Bus_startTrialBy.2.1 1 = .ok (.getfield 51, 3) := by decide +kernel
theorem e_Bus_startTrialBy_4 : decode M_Bus_startTrialBy.2.1 4 = .ok (.aload_n 0, 1) := by decide +kernel
theorem e_Bus_startTrialBy_5 : decode M_Bus_startTrialBy.2.1 5 = .ok (.getfield 37, 3) := by decide +kernel
theorem e_Bus_startTrialBy_8 : decode M_Bus_startTrialBy.2.1 8 = .ok (.getfield 76, 3) := by decide +kernel
theorem e_Bus_startTrialBy_11 : decode M_Bus_startTrialBy.2.1 11 = .ok (.invokevirtual 265, 3) := by decide +kernel
theorem e_Bus_startTrialBy_14 : decode M_Bus_startTrialBy.2.1 14 = .ok (.iload_n 1, 1) := by decide +kernel
theorem e_Bus_startTrialBy_15 : decode M_Bus_startTrialBy.2.1 15 = .ok (.iconst 1, 1) := by decide +kernel
theorem e_Bus_startTrialBy_16 : decode M_Bus_startTrialBy.2.1 16 = .ok (.if_icmp .ge 5, 3) := by decide +kernel
theorem e_Bus_startTrialBy_19 : decode M_Bus_startTrialBy.2.1 19 = .ok (.iconst 1, 1) := by decide +kernel
theorem e_Bus_startTrialBy_20 : decode M_Bus_startTrialBy.2.1 20 = .ok (.ireturn, 1) := by decide +kernel
theorem e_Bus_startTrialBy_21 : decode M_Bus_startTrialBy.2.1 21 = .ok (.iload_n 1, 1) := by decide +kernel
theorem e_Bus_startTrialBy_22 : decode M_Bus_startTrialBy.2.1 22 = .ok (.bipush 6, 2) := by decide +kernel
theorem e_Bus_startTrialBy_24 : decode M_Bus_startTrialBy.2.1 24 = .ok (.if_icmp .ge 46, 3) := by decide +kernel
theorem e_Bus_startTrialBy_27 : decode M_Bus_startTrialBy.2.1 27 = .ok (.iload_n 1, 1) := by decide +kernel
theorem e_Bus_startTrialBy_28 : decode M_Bus_startTrialBy.2.1 28 = .ok (.iconst 1, 1) := by decide +kernel
theorem e_Bus_startTrialBy_29 : decode M_Bus_startTrialBy.2.1 29 = .ok (.isub, 1) := by decide +kernel
theorem e_Bus_startTrialBy_30 : decode M_Bus_startTrialBy.2.1 30 = .ok (.istore_n 2, 1) := by decide +kernel
theorem e_Bus_startTrialBy_31 : decode M_Bus_startTrialBy.2.1 31 = .ok (.aload_n 0, 1) := by decide +kernel
theorem e_Bus_startTrialBy_32 : decode M_Bus_startTrialBy.2.1 32 = .ok (.iload_n 2, 1) := by decide +kernel
theorem e_Bus_startTrialBy_33 : decode M_Bus_startTrialBy.2.1 33 = .ok (.invokevirtual 230, 3) := by decide +kernel
theorem e_Bus_startTrialBy_36 : decode M_Bus_startTrialBy.2.1 36 = .ok (.ifCond .eq 14, 3) := by decide +kernel
theorem e_Bus_startTrialBy_39 : decode M_Bus_startTrialBy.2.1 39 = .ok (.aload_n 0, 1) := by decide +kernel
theorem e_Bus_startTrialBy_40 : decode M_Bus_startTrialBy.2.1 40 = .ok (.getfield 51, 3) := by decide +kernel
theorem e_Bus_startTrialBy_43 : decode M_Bus_startTrialBy.2.1 43 = .ok (.iload_n 2, 1) := by decide +kernel
theorem e_Bus_startTrialBy_44 : decode M_Bus_startTrialBy.2.1 44 = .ok (.invokevirtual 233, 3) := by decide +kernel
theorem e_Bus_startTrialBy_47 : decode M_Bus_startTrialBy.2.1 47 = .ok (.ifCond .ne 5, 3) := by decide +kernel
theorem e_Bus_startTrialBy_50 : decode M_Bus_startTrialBy.2.1 50 = .ok (.iconst 0, 1) := by decide +kernel
theorem e_Bus_startTrialBy_51 : decode M_Bus_startTrialBy.2.1 51 = .ok (.ireturn, 1) := by decide +kernel
theorem e_Bus_startTrialBy_52 : decode M_Bus_startTrialBy.2.1 52 = .ok (.aload_n 0, 1) := by decide +kernel
theorem e_Bus_startTrialBy_53 : decode M_Bus_startTrialBy.2.1 53 = .ok (.getfield 51, 3) := by decide +kernel
theorem e_Bus_startTrialBy_56 : decode M_Bus_startTrialBy.2.1 56 = .ok (.iload_n 2, 1) := by decide +kernel
theorem e_Bus_startTrialBy_57 : decode M_Bus_startTrialBy.2.1 57 = .ok (.iconst 0, 1) := by decide +kernel
theorem e_Bus_startTrialBy_58 : decode M_Bus_startTrialBy.2.1 58 = .ok (.aload_n 0, 1) := by decide +kernel
theorem e_Bus_startTrialBy_59 : decode M_Bus_startTrialBy.2.1 59 = .ok (.getfield 23, 3) := by decide +kernel
theorem e_Bus_startTrialBy_62 : decode M_Bus_startTrialBy.2.1 62 = .ok (.getfield 236, 3) := by decide +kernel
theorem e_Bus_startTrialBy_65 : decode M_Bus_startTrialBy.2.1 65 = .ok (.invokevirtual 239, 3) := by decide +kernel
theorem e_Bus_startTrialBy_68 : decode M_Bus_startTrialBy.2.1 68 = .ok (.iconst 1, 1) := by decide +kernel
theorem e_Bus_startTrialBy_69 : decode M_Bus_startTrialBy.2.1 69 = .ok (.ireturn, 1) := by decide +kernel
theorem e_Bus_startTrialBy_70 : decode M_Bus_startTrialBy.2.1 70 = .ok (.iload_n 1, 1) := by decide +kernel
theorem e_Bus_startTrialBy_71 : decode M_Bus_startTrialBy.2.1 71 = .ok (.bipush 6, 2) := by decide +kernel
theorem e_Bus_startTrialBy_73 : decode M_Bus_startTrialBy.2.1 73 = .ok (.isub, 1) := by decide +kernel
theorem e_Bus_startTrialBy_74 : decode M_Bus_startTrialBy.2.1 74 = .ok (.istore_n 2, 1) := by decide +kernel
theorem e_Bus_startTrialBy_75 : decode M_Bus_startTrialBy.2.1 75 = .ok (.aload_n 0, 1) := by decide +kernel
theorem e_Bus_startTrialBy_76 : decode M_Bus_startTrialBy.2.1 76 = .ok (.getfield 51, 3) := by decide +kernel
theorem e_Bus_startTrialBy_79 : decode M_Bus_startTrialBy.2.1 79 = .ok (.iload_n 2, 1) := by decide +kernel
theorem e_Bus_startTrialBy_80 : decode M_Bus_startTrialBy.2.1 80 = .ok (.invokevirtual 243, 3) := by decide +kernel
theorem e_Bus_startTrialBy_83 : decode M_Bus_startTrialBy.2.1 83 = .ok (.ifCond .ne 14, 3) := by decide +kernel
theorem e_Bus_startTrialBy_86 : decode M_Bus_startTrialBy.2.1 86 = .ok (.aload_n 0, 1) := by decide +kernel
theorem e_Bus_startTrialBy_87 : decode M_Bus_startTrialBy.2.1 87 = .ok (.getfield 23, 3) := by decide +kernel
theorem e_Bus_startTrialBy_90 : decode M_Bus_startTrialBy.2.1 90 = .ok (.iload_n 2, 1) := by decide +kernel
theorem e_Bus_startTrialBy_91 : decode M_Bus_startTrialBy.2.1 91 = .ok (.invokevirtual 302, 3) := by decide +kernel
theorem e_Bus_startTrialBy_94 : decode M_Bus_startTrialBy.2.1 94 = .ok (.ifCond .ne 5, 3) := by decide +kernel
theorem e_Bus_startTrialBy_97 : decode M_Bus_startTrialBy.2.1 97 = .ok (.iconst 0, 1) := by decide +kernel
theorem e_Bus_startTrialBy_98 : decode M_Bus_startTrialBy.2.1 98 = .ok (.ireturn, 1) := by decide +kernel
theorem e_Bus_startTrialBy_99 : decode M_Bus_startTrialBy.2.1 99 = .ok (.aload_n 0, 1) := by decide +kernel
theorem e_Bus_startTrialBy_100 : decode M_Bus_startTrialBy.2.1 100 = .ok (.getfield 51, 3) := by decide +kernel
theorem e_Bus_startTrialBy_103 : decode M_Bus_startTrialBy.2.1 103 = .ok (.iload_n 2, 1) := by decide +kernel
theorem e_Bus_startTrialBy_104 : decode M_Bus_startTrialBy.2.1 104 = .ok (.invokevirtual 246, 3) := by decide +kernel
theorem e_Bus_startTrialBy_107 : decode M_Bus_startTrialBy.2.1 107 = .ok (.iconst 1, 1) := by decide +kernel
theorem e_Bus_startTrialBy_108 : decode M_Bus_startTrialBy.2.1 108 = .ok (.ireturn, 1) := by decide +kernel
theorem e_Bus_trialIsAsNoted_0 : decode M_Bus_trialIsAsNoted.2.1 0 = .ok (.aload_n 0, 1) := by decide +kernel
theorem e_Bus_trialIsAsNoted_1 : decode M_Bus_trialIsAsNoted.2.1 1 = .ok (.getfield 37, 3) := by decide +kernel
theorem e_Bus_trialIsAsNoted_4 : decode M_Bus_trialIsAsNoted.2.1 4 = .ok (.getfield 120, 3) := by decide +kernel
theorem e_Bus_trialIsAsNoted_7 : decode M_Bus_trialIsAsNoted.2.1 7 = .ok (.invokevirtual 305, 3) := by decide +kernel
theorem e_Bus_trialIsAsNoted_10 : decode M_Bus_trialIsAsNoted.2.1 10 = .ok (.istore_n 1, 1) := by decide +kernel
theorem e_Bus_trialIsAsNoted_11 : decode M_Bus_trialIsAsNoted.2.1 11 = .ok (.iconst 1, 1) := by decide +kernel
theorem e_Bus_trialIsAsNoted_12 : decode M_Bus_trialIsAsNoted.2.1 12 = .ok (.istore_n 2, 1) := by decide +kernel
theorem e_Bus_trialIsAsNoted_13 : decode M_Bus_trialIsAsNoted.2.1 13 = .ok (.iload_n 2, 1) := by decide +kernel
theorem e_Bus_trialIsAsNoted_14 : decode M_Bus_trialIsAsNoted.2.1 14 = .ok (.iload_n 1, 1) := by decide +kernel
theorem e_Bus_trialIsAsNoted_15 : decode M_Bus_trialIsAsNoted.2.1 15 = .ok (.if_icmp .gt 46, 3) := by decide +kernel
theorem e_Bus_trialIsAsNoted_18 : decode M_Bus_trialIsAsNoted.2.1 18 = .ok (.aload_n 0, 1) := by decide +kernel
theorem e_Bus_trialIsAsNoted_19 : decode M_Bus_trialIsAsNoted.2.1 19 = .ok (.getfield 23, 3) := by decide +kernel
theorem e_Bus_trialIsAsNoted_22 : decode M_Bus_trialIsAsNoted.2.1 22 = .ok (.aload_n 0, 1) := by decide +kernel
theorem e_Bus_trialIsAsNoted_23 : decode M_Bus_trialIsAsNoted.2.1 23 = .ok (.getfield 51, 3) := by decide +kernel
theorem e_Bus_trialIsAsNoted_26 : decode M_Bus_trialIsAsNoted.2.1 26 = .ok (.getfield 127, 3) := by decide +kernel
theorem e_Bus_trialIsAsNoted_29 : decode M_Bus_trialIsAsNoted.2.1 29 = .ok (.invokestatic 269, 3) := by decide +kernel
theorem e_Bus_trialIsAsNoted_32 : decode M_Bus_trialIsAsNoted.2.1 32 = .ok (.aload_n 0, 1) := by decide +kernel
theorem e_Bus_trialIsAsNoted_33 : decode M_Bus_trialIsAsNoted.2.1 33 = .ok (.getfield 37, 3) := by decide +kernel
theorem e_Bus_trialIsAsNoted_36 : decode M_Bus_trialIsAsNoted.2.1 36 = .ok (.getfield 120, 3) := by decide +kernel
theorem e_Bus_trialIsAsNoted_39 : decode M_Bus_trialIsAsNoted.2.1 39 = .ok (.aload_n 0, 1) := by decide +kernel
theorem e_Bus_trialIsAsNoted_40 : decode M_Bus_trialIsAsNoted.2.1 40 = .ok (.getfield 51, 3) := by decide +kernel
theorem e_Bus_trialIsAsNoted_43 : decode M_Bus_trialIsAsNoted.2.1 43 = .ok (.getfield 127, 3) := by decide +kernel
theorem e_Bus_trialIsAsNoted_46 : decode M_Bus_trialIsAsNoted.2.1 46 = .ok (.iload_n 2, 1) := by decide +kernel
theorem e_Bus_trialIsAsNoted_47 : decode M_Bus_trialIsAsNoted.2.1 47 = .ok (.invokevirtual 308, 3) := by decide +kernel
theorem e_Bus_trialIsAsNoted_50 : decode M_Bus_trialIsAsNoted.2.1 50 = .ok (.ifCond .ne 5, 3) := by decide +kernel
theorem e_Bus_trialIsAsNoted_53 : decode M_Bus_trialIsAsNoted.2.1 53 = .ok (.iconst 0, 1) := by decide +kernel
theorem e_Bus_trialIsAsNoted_54 : decode M_Bus_trialIsAsNoted.2.1 54 = .ok (.ireturn, 1) := by decide +kernel
theorem e_Bus_trialIsAsNoted_55 : decode M_Bus_trialIsAsNoted.2.1 55 = .ok (.iinc 2 1, 3) := by decide +kernel
theorem e_Bus_trialIsAsNoted_58 : decode M_Bus_trialIsAsNoted.2.1 58 = .ok (.goto (-45), 3) := by decide +kernel
theorem e_Bus_trialIsAsNoted_61 : decode M_Bus_trialIsAsNoted.2.1 61 = .ok (.iconst 1, 1) := by decide +kernel
theorem e_Bus_trialIsAsNoted_62 : decode M_Bus_trialIsAsNoted.2.1 62 = .ok (.ireturn, 1) := by decide +kernel
theorem e_Bus_forget_0 : decode M_Bus_forget.2.1 0 = .ok (.aload_n 0, 1) := by decide +kernel
theorem e_Bus_forget_1 : decode M_Bus_forget.2.1 1 = .ok (.getfield 37, 3) := by decide +kernel
theorem e_Bus_forget_4 : decode M_Bus_forget.2.1 4 = .ok (.getfield 120, 3) := by decide +kernel
theorem e_Bus_forget_7 : decode M_Bus_forget.2.1 7 = .ok (.invokevirtual 124, 3) := by decide +kernel
theorem e_Bus_forget_10 : decode M_Bus_forget.2.1 10 = .ok (.return_, 1) := by decide +kernel
theorem e_Bus_image_0 : decode M_Bus_image.2.1 0 = .ok (.aload_n 0, 1) := by decide +kernel
theorem e_Bus_image_1 : decode M_Bus_image.2.1 1 = .ok (.getfield 41, 3) := by decide +kernel
theorem e_Bus_image_4 : decode M_Bus_image.2.1 4 = .ok (.aload_n 0, 1) := by decide +kernel
theorem e_Bus_image_5 : decode M_Bus_image.2.1 5 = .ok (.getfield 37, 3) := by decide +kernel
theorem e_Bus_image_8 : decode M_Bus_image.2.1 8 = .ok (.invokevirtual 337, 3) := by decide +kernel
theorem e_Bus_image_11 : decode M_Bus_image.2.1 11 = .ok (.aload_n 0, 1) := by decide +kernel
theorem e_Bus_image_12 : decode M_Bus_image.2.1 12 = .ok (.iconst 1, 1) := by decide +kernel
theorem e_Bus_image_13 : decode M_Bus_image.2.1 13 = .ok (.putfield 44, 3) := by decide +kernel
theorem e_Bus_image_16 : decode M_Bus_image.2.1 16 = .ok (.return_, 1) := by decide +kernel
theorem e_Bus_restore_0 : decode M_Bus_restore.2.1 0 = .ok (.aload_n 0, 1) := by decide +kernel
theorem e_Bus_restore_1 : decode M_Bus_restore.2.1 1 = .ok (.getfield 44, 3) := by decide +kernel
theorem e_Bus_restore_4 : decode M_Bus_restore.2.1 4 = .ok (.ifCond .eq 14, 3) := by decide +kernel
theorem e_Bus_restore_7 : decode M_Bus_restore.2.1 7 = .ok (.aload_n 0, 1) := by decide +kernel
theorem e_Bus_restore_8 : decode M_Bus_restore.2.1 8 = .ok (.getfield 37, 3) := by decide +kernel
theorem e_Bus_restore_11 : decode M_Bus_restore.2.1 11 = .ok (.aload_n 0, 1) := by decide +kernel
theorem e_Bus_restore_12 : decode M_Bus_restore.2.1 12 = .ok (.getfield 41, 3) := by decide +kernel
theorem e_Bus_restore_15 : decode M_Bus_restore.2.1 15 = .ok (.invokevirtual 337, 3) := by decide +kernel
theorem e_Bus_restore_18 : decode M_Bus_restore.2.1 18 = .ok (.aload_n 0, 1) := by decide +kernel
theorem e_Bus_restore_19 : decode M_Bus_restore.2.1 19 = .ok (.getfield 44, 3) := by decide +kernel
theorem e_Bus_restore_22 : decode M_Bus_restore.2.1 22 = .ok (.ireturn, 1) := by decide +kernel
theorem e_Bus_bus_0 : decode M_Bus_bus.2.1 0 = .ok (.iload_n 1, 1) := by decide +kernel
theorem e_Bus_bus_1 : decode M_Bus_bus.2.1 1 = .ok (.ifCond .lt 11, 3) := by decide +kernel
theorem e_Bus_bus_4 : decode M_Bus_bus.2.1 4 = .ok (.iload_n 1, 1) := by decide +kernel
theorem e_Bus_bus_5 : decode M_Bus_bus.2.1 5 = .ok (.aload_n 0, 1) := by decide +kernel
theorem e_Bus_bus_6 : decode M_Bus_bus.2.1 6 = .ok (.getfield 13, 3) := by decide +kernel
theorem e_Bus_bus_9 : decode M_Bus_bus.2.1 9 = .ok (.if_icmp .le 11, 3) := by decide +kernel
theorem e_Bus_bus_12 : decode M_Bus_bus.2.1 12 = .ok (.new 87, 3) := by decide +kernel
theorem e_Bus_bus_15 : decode M_Bus_bus.2.1 15 = .ok (.dup, 1) := by decide +kernel
theorem e_Bus_bus_16 : decode M_Bus_bus.2.1 16 = .ok (.invokespecial 89, 3) := by decide +kernel
theorem e_Bus_bus_19 : decode M_Bus_bus.2.1 19 = .ok (.athrow, 1) := by decide +kernel
theorem e_Bus_bus_20 : decode M_Bus_bus.2.1 20 = .ok (.aload_n 0, 1) := by decide +kernel
theorem e_Bus_bus_21 : decode M_Bus_bus.2.1 21 = .ok (.iconst 0, 1) := by decide +kernel
theorem e_Bus_bus_22 : decode M_Bus_bus.2.1 22 = .ok (.putfield 13, 3) := by decide +kernel
theorem e_Bus_bus_25 : decode M_Bus_bus.2.1 25 = .ok (.aload_n 0, 1) := by decide +kernel
theorem e_Bus_bus_26 : decode M_Bus_bus.2.1 26 = .ok (.getfield 30, 3) := by decide +kernel
theorem e_Bus_bus_29 : decode M_Bus_bus.2.1 29 = .ok (.aload_n 0, 1) := by decide +kernel
theorem e_Bus_bus_30 : decode M_Bus_bus.2.1 30 = .ok (.getfield 9, 3) := by decide +kernel
theorem e_Bus_bus_33 : decode M_Bus_bus.2.1 33 = .ok (.iload_n 1, 1) := by decide +kernel
theorem e_Bus_bus_34 : decode M_Bus_bus.2.1 34 = .ok (.invokevirtual 90, 3) := by decide +kernel
theorem e_Bus_bus_37 : decode M_Bus_bus.2.1 37 = .ok (.istore_n 2, 1) := by decide +kernel
theorem e_Bus_bus_38 : decode M_Bus_bus.2.1 38 = .ok (.aload_n 0, 1) := by decide +kernel
theorem e_Bus_bus_39 : decode M_Bus_bus.2.1 39 = .ok (.aload_n 0, 1) := by decide +kernel
theorem e_Bus_bus_40 : decode M_Bus_bus.2.1 40 = .ok (.getfield 30, 3) := by decide +kernel
theorem e_Bus_bus_43 : decode M_Bus_bus.2.1 43 = .ok (.getfield 94, 3) := by decide +kernel
theorem e_Bus_bus_46 : decode M_Bus_bus.2.1 46 = .ok (.putfield 17, 3) := by decide +kernel
theorem e_Bus_bus_49 : decode M_Bus_bus.2.1 49 = .ok (.iload_n 2, 1) := by decide +kernel
theorem e_Bus_bus_50 : decode M_Bus_bus.2.1 50 = .ok (.ifCond .eq 18, 3) := by decide +kernel
theorem e_Bus_bus_53 : decode M_Bus_bus.2.1 53 = .ok (.aload_n 0, 1) := by decide +kernel
theorem e_Bus_bus_54 : decode M_Bus_bus.2.1 54 = .ok (.getfield 37, 3) := by decide +kernel
theorem e_Bus_bus_57 : decode M_Bus_bus.2.1 57 = .ok (.getfield 97, 3) := by decide +kernel
theorem e_Bus_bus_60 : decode M_Bus_bus.2.1 60 = .ok (.iconst 0, 1) := by decide +kernel
theorem e_Bus_bus_61 : decode M_Bus_bus.2.1 61 = .ok (.dup2, 1) := by decide +kernel
theorem e_Bus_bus_62 : decode M_Bus_bus.2.1 62 = .ok (.iaload, 1) := by decide +kernel
theorem e_Bus_bus_63 : decode M_Bus_bus.2.1 63 = .ok (.iconst 1, 1) := by decide +kernel
theorem e_Bus_bus_64 : decode M_Bus_bus.2.1 64 = .ok (.iadd, 1) := by decide +kernel
theorem e_Bus_bus_65 : decode M_Bus_bus.2.1 65 = .ok (.iastore, 1) := by decide +kernel
theorem e_Bus_bus_66 : decode M_Bus_bus.2.1 66 = .ok (.iload_n 2, 1) := by decide +kernel
theorem e_Bus_bus_67 : decode M_Bus_bus.2.1 67 = .ok (.ireturn, 1) := by decide +kernel
theorem e_Bus_bus_68 : decode M_Bus_bus.2.1 68 = .ok (.aload_n 0, 1) := by decide +kernel
theorem e_Bus_bus_69 : decode M_Bus_bus.2.1 69 = .ok (.aload_n 0, 1) := by decide +kernel
theorem e_Bus_bus_70 : decode M_Bus_bus.2.1 70 = .ok (.getfield 30, 3) := by decide +kernel
theorem e_Bus_bus_73 : decode M_Bus_bus.2.1 73 = .ok (.aload_n 0, 1) := by decide +kernel
theorem e_Bus_bus_74 : decode M_Bus_bus.2.1 74 = .ok (.getfield 23, 3) := by decide +kernel
theorem e_Bus_bus_77 : decode M_Bus_bus.2.1 77 = .ok (.invokevirtual 100, 3) := by decide +kernel
theorem e_Bus_bus_80 : decode M_Bus_bus.2.1 80 = .ok (.putfield 23, 3) := by decide +kernel
theorem e_Bus_bus_83 : decode M_Bus_bus.2.1 83 = .ok (.aload_n 0, 1) := by decide +kernel
theorem e_Bus_bus_84 : decode M_Bus_bus.2.1 84 = .ok (.getfield 23, 3) := by decide +kernel
theorem e_Bus_bus_87 : decode M_Bus_bus.2.1 87 = .ok (.getfield 104, 3) := by decide +kernel
theorem e_Bus_bus_90 : decode M_Bus_bus.2.1 90 = .ok (.aload_n 0, 1) := by decide +kernel
theorem e_Bus_bus_91 : decode M_Bus_bus.2.1 91 = .ok (.getfield 23, 3) := by decide +kernel
theorem e_Bus_bus_94 : decode M_Bus_bus.2.1 94 = .ok (.iconst (-1), 1) := by decide +kernel
theorem e_Bus_bus_95 : decode M_Bus_bus.2.1 95 = .ok (.iconst 0, 1) := by decide +kernel
theorem e_Bus_bus_96 : decode M_Bus_bus.2.1 96 = .ok (.invokevirtual 107, 3) := by decide +kernel
theorem e_Bus_bus_99 : decode M_Bus_bus.2.1 99 = .ok (.aload_n 0, 1) := by decide +kernel
theorem e_Bus_bus_100 : decode M_Bus_bus.2.1 100 = .ok (.getfield 37, 3) := by decide +kernel
theorem e_Bus_bus_103 : decode M_Bus_bus.2.1 103 = .ok (.getfield 76, 3) := by decide +kernel
theorem e_Bus_bus_106 : decode M_Bus_bus.2.1 106 = .ok (.aload_n 0, 1) := by decide +kernel
theorem e_Bus_bus_107 : decode M_Bus_bus.2.1 107 = .ok (.getfield 23, 3) := by decide +kernel
theorem e_Bus_bus_110 : decode M_Bus_bus.2.1 110 = .ok (.invokevirtual 79, 3) := by decide +kernel
theorem e_Bus_bus_113 : decode M_Bus_bus.2.1 113 = .ok (.aload_n 0, 1) := by decide +kernel
theorem e_Bus_bus_114 : decode M_Bus_bus.2.1 114 = .ok (.getfield 37, 3) := by decide +kernel
theorem e_Bus_bus_117 : decode M_Bus_bus.2.1 117 = .ok (.getfield 111, 3) := by decide +kernel
theorem e_Bus_bus_120 : decode M_Bus_bus.2.1 120 = .ok (.invokevirtual 115, 3) := by decide +kernel
theorem e_Bus_bus_123 : decode M_Bus_bus.2.1 123 = .ok (.aload_n 0, 1) := by decide +kernel
theorem e_Bus_bus_124 : decode M_Bus_bus.2.1 124 = .ok (.getfield 37, 3) := by decide +kernel
theorem e_Bus_bus_127 : decode M_Bus_bus.2.1 127 = .ok (.getfield 120, 3) := by decide +kernel
theorem e_Bus_bus_130 : decode M_Bus_bus.2.1 130 = .ok (.invokevirtual 124, 3) := by decide +kernel
theorem e_Bus_bus_133 : decode M_Bus_bus.2.1 133 = .ok (.aload_n 0, 1) := by decide +kernel
theorem e_Bus_bus_134 : decode M_Bus_bus.2.1 134 = .ok (.iconst 0, 1) := by decide +kernel
theorem e_Bus_bus_135 : decode M_Bus_bus.2.1 135 = .ok (.putfield 44, 3) := by decide +kernel
theorem e_Bus_bus_138 : decode M_Bus_bus.2.1 138 = .ok (.iconst 0, 1) := by decide +kernel
theorem e_Bus_bus_139 : decode M_Bus_bus.2.1 139 = .ok (.ireturn, 1) := by decide +kernel
theorem e_Bus_count_0 : decode M_Bus_count.2.1 0 = .ok (.aload_n 0, 1) := by decide +kernel
theorem e_Bus_count_1 : decode M_Bus_count.2.1 1 = .ok (.getfield 37, 3) := by decide +kernel
theorem e_Bus_count_4 : decode M_Bus_count.2.1 4 = .ok (.getfield 76, 3) := by decide +kernel
theorem e_Bus_count_7 : decode M_Bus_count.2.1 7 = .ok (.getfield 127, 3) := by decide +kernel
theorem e_Bus_count_10 : decode M_Bus_count.2.1 10 = .ok (.astore_n 2, 1) := by decide +kernel
theorem e_Bus_count_11 : decode M_Bus_count.2.1 11 = .ok (.iload_n 1, 1) := by decide +kernel
theorem e_Bus_count_12 : decode M_Bus_count.2.1 12 = .ok (.tableswitch 216 0 15 #[80, 88, 96, 107, 113, 119, 125, 131, 142, 153, 159, 170, 181, 186, 196, 206], 80) := by decide +kernel
theorem e_Bus_count_92 : decode M_Bus_count.2.1 92 = .ok (.aload_n 0, 1) := by decide +kernel
theorem e_Bus_count_93 : decode M_Bus_count.2.1 93 = .ok (.getfield 23, 3) := by decide +kernel
theorem e_Bus_count_96 : decode M_Bus_count.2.1 96 = .ok (.getfield 130, 3) := by decide +kernel
theorem e_Bus_count_99 : decode M_Bus_count.2.1 99 = .ok (.ireturn, 1) := by decide +kernel
theorem e_Bus_count_100 : decode M_Bus_count.2.1 100 = .ok (.aload_n 0, 1) := by decide +kernel
theorem e_Bus_count_101 : decode M_Bus_count.2.1 101 = .ok (.getfield 23, 3) := by decide +kernel
theorem e_Bus_count_104 : decode M_Bus_count.2.1 104 = .ok (.getfield 133, 3) := by decide +kernel
theorem e_Bus_count_107 : decode M_Bus_count.2.1 107 = .ok (.ireturn, 1) := by decide +kernel
theorem e_Bus_count_108 : decode M_Bus_count.2.1 108 = .ok (.aload_n 0, 1) := by decide +kernel
theorem e_Bus_count_109 : decode M_Bus_count.2.1 109 = .ok (.getfield 23, 3) := by decide +kernel
theorem e_Bus_count_112 : decode M_Bus_count.2.1 112 = .ok (.getfield 136, 3) := by decide +kernel
theorem e_Bus_count_115 : decode M_Bus_count.2.1 115 = .ok (.getfield 140, 3) := by decide +kernel
theorem e_Bus_count_118 : decode M_Bus_count.2.1 118 = .ok (.ireturn, 1) := by decide +kernel
theorem e_Bus_count_119 : decode M_Bus_count.2.1 119 = .ok (.aload_n 2, 1) := by decide +kernel
theorem e_Bus_count_120 : decode M_Bus_count.2.1 120 = .ok (.sipush 223, 3) := by decide +kernel
theorem e_Bus_count_123 : decode M_Bus_count.2.1 123 = .ok (.iaload, 1) := by decide +kernel
theorem e_Bus_count_124 : decode M_Bus_count.2.1 124 = .ok (.ireturn, 1) := by decide +kernel
theorem e_Bus_count_125 : decode M_Bus_count.2.1 125 = .ok (.aload_n 2, 1) := by decide +kernel
theorem e_Bus_count_126 : decode M_Bus_count.2.1 126 = .ok (.sipush 221, 3) := by decide +kernel
theorem e_Bus_count_129 : decode M_Bus_count.2.1 129 = .ok (.iaload, 1) := by decide +kernel
theorem e_Bus_count_130 : decode M_Bus_count.2.1 130 = .ok (.ireturn, 1) := by decide +kernel
theorem e_Bus_count_131 : decode M_Bus_count.2.1 131 = .ok (.aload_n 2, 1) := by decide +kernel
theorem e_Bus_count_132 : decode M_Bus_count.2.1 132 = .ok (.sipush 222, 3) := by decide +kernel
theorem e_Bus_count_135 : decode M_Bus_count.2.1 135 = .ok (.iaload, 1) := by decide +kernel
theorem e_Bus_count_136 : decode M_Bus_count.2.1 136 = .ok (.ireturn, 1) := by decide +kernel
theorem e_Bus_count_137 : decode M_Bus_count.2.1 137 = .ok (.aload_n 2, 1) := by decide +kernel
theorem e_Bus_count_138 : decode M_Bus_count.2.1 138 = .ok (.sipush 220, 3) := by decide +kernel
theorem e_Bus_count_141 : decode M_Bus_count.2.1 141 = .ok (.iaload, 1) := by decide +kernel
theorem e_Bus_count_142 : decode M_Bus_count.2.1 142 = .ok (.ireturn, 1) := by decide +kernel
theorem e_Bus_count_143 : decode M_Bus_count.2.1 143 = .ok (.aload_n 0, 1) := by decide +kernel
theorem e_Bus_count_144 : decode M_Bus_count.2.1 144 = .ok (.getfield 23, 3) := by decide +kernel
theorem e_Bus_count_147 : decode M_Bus_count.2.1 147 = .ok (.getfield 104, 3) := by decide +kernel
theorem e_Bus_count_150 : decode M_Bus_count.2.1 150 = .ok (.getfield 145, 3) := by decide +kernel
theorem e_Bus_count_153 : decode M_Bus_count.2.1 153 = .ok (.ireturn, 1) := by decide +kernel
theorem e_Bus_count_154 : decode M_Bus_count.2.1 154 = .ok (.aload_n 0, 1) := by decide +kernel
theorem e_Bus_count_155 : decode M_Bus_count.2.1 155 = .ok (.getfield 23, 3) := by decide +kernel
theorem e_Bus_count_158 : decode M_Bus_count.2.1 158 = .ok (.getfield 104, 3) := by decide +kernel
theorem e_Bus_count_161 : decode M_Bus_count.2.1 161 = .ok (.getfield 148, 3) := by decide +kernel
theorem e_Bus_count_164 : decode M_Bus_count.2.1 164 = .ok (.ireturn, 1) := by decide +kernel
theorem e_Bus_count_165 : decode M_Bus_count.2.1 165 = .ok (.aload_n 2, 1) := by decide +kernel
theorem e_Bus_count_166 : decode M_Bus_count.2.1 166 = .ok (.sipush 219, 3) := by decide +kernel
theorem e_Bus_count_169 : decode M_Bus_count.2.1 169 = .ok (.iaload, 1) := by decide +kernel
theorem e_Bus_count_170 : decode M_Bus_count.2.1 170 = .ok (.ireturn, 1) := by decide +kernel
theorem e_Bus_count_171 : decode M_Bus_count.2.1 171 = .ok (.aload_n 0, 1) := by decide +kernel
theorem e_Bus_count_172 : decode M_Bus_count.2.1 172 = .ok (.getfield 37, 3) := by decide +kernel
theorem e_Bus_count_175 : decode M_Bus_count.2.1 175 = .ok (.getfield 111, 3) := by decide +kernel
theorem e_Bus_count_178 : decode M_Bus_count.2.1 178 = .ok (.getfield 151, 3) := by decide +kernel
theorem e_Bus_count_181 : decode M_Bus_count.2.1 181 = .ok (.ireturn, 1) := by decide +kernel
theorem e_Bus_count_182 : decode M_Bus_count.2.1 182 = .ok (.aload_n 0, 1) := by decide +kernel
theorem e_Bus_count_183 : decode M_Bus_count.2.1 183 = .ok (.getfield 37, 3) := by decide +kernel
theorem e_Bus_count_186 : decode M_Bus_count.2.1 186 = .ok (.getfield 120, 3) := by decide +kernel
theorem e_Bus_count_189 : decode M_Bus_count.2.1 189 = .ok (.getfield 152, 3) := by decide +kernel
theorem e_Bus_count_192 : decode M_Bus_count.2.1 192 = .ok (.ireturn, 1) := by decide +kernel
theorem e_Bus_count_193 : decode M_Bus_count.2.1 193 = .ok (.aload_n 0, 1) := by decide +kernel
theorem e_Bus_count_194 : decode M_Bus_count.2.1 194 = .ok (.getfield 13, 3) := by decide +kernel
theorem e_Bus_count_197 : decode M_Bus_count.2.1 197 = .ok (.ireturn, 1) := by decide +kernel
theorem e_Bus_count_198 : decode M_Bus_count.2.1 198 = .ok (.aload_n 0, 1) := by decide +kernel
theorem e_Bus_count_199 : decode M_Bus_count.2.1 199 = .ok (.getfield 37, 3) := by decide +kernel
theorem e_Bus_count_202 : decode M_Bus_count.2.1 202 = .ok (.getfield 97, 3) := by decide +kernel
theorem e_Bus_count_205 : decode M_Bus_count.2.1 205 = .ok (.iconst 0, 1) := by decide +kernel
theorem e_Bus_count_206 : decode M_Bus_count.2.1 206 = .ok (.iaload, 1) := by decide +kernel
theorem e_Bus_count_207 : decode M_Bus_count.2.1 207 = .ok (.ireturn, 1) := by decide +kernel
theorem e_Bus_count_208 : decode M_Bus_count.2.1 208 = .ok (.aload_n 0, 1) := by decide +kernel
theorem e_Bus_count_209 : decode M_Bus_count.2.1 209 = .ok (.getfield 37, 3) := by decide +kernel
theorem e_Bus_count_212 : decode M_Bus_count.2.1 212 = .ok (.getfield 97, 3) := by decide +kernel
theorem e_Bus_count_215 : decode M_Bus_count.2.1 215 = .ok (.iconst 1, 1) := by decide +kernel
theorem e_Bus_count_216 : decode M_Bus_count.2.1 216 = .ok (.iaload, 1) := by decide +kernel
theorem e_Bus_count_217 : decode M_Bus_count.2.1 217 = .ok (.ireturn, 1) := by decide +kernel
theorem e_Bus_count_218 : decode M_Bus_count.2.1 218 = .ok (.aload_n 0, 1) := by decide +kernel
theorem e_Bus_count_219 : decode M_Bus_count.2.1 219 = .ok (.getfield 37, 3) := by decide +kernel
theorem e_Bus_count_222 : decode M_Bus_count.2.1 222 = .ok (.getfield 97, 3) := by decide +kernel
theorem e_Bus_count_225 : decode M_Bus_count.2.1 225 = .ok (.iconst 2, 1) := by decide +kernel
theorem e_Bus_count_226 : decode M_Bus_count.2.1 226 = .ok (.iaload, 1) := by decide +kernel
theorem e_Bus_count_227 : decode M_Bus_count.2.1 227 = .ok (.ireturn, 1) := by decide +kernel
theorem e_Bus_count_228 : decode M_Bus_count.2.1 228 = .ok (.new 153, 3) := by decide +kernel
theorem e_Bus_count_231 : decode M_Bus_count.2.1 231 = .ok (.dup, 1) := by decide +kernel
theorem e_Bus_count_232 : decode M_Bus_count.2.1 232 = .ok (.invokespecial 155, 3) := by decide +kernel
theorem e_Bus_count_235 : decode M_Bus_count.2.1 235 = .ok (.athrow, 1) := by decide +kernel
theorem e_Bus_block_0 : decode M_Bus_block.2.1 0 = .ok (.aload_n 0, 1) := by decide +kernel
theorem e_Bus_block_1 : decode M_Bus_block.2.1 1 = .ok (.iload_n 1, 1) := by decide +kernel
theorem e_Bus_block_2 : decode M_Bus_block.2.1 2 = .ok (.invokevirtual 156, 3) := by decide +kernel
theorem e_Bus_block_5 : decode M_Bus_block.2.1 5 = .ok (.aload_n 0, 1) := by decide +kernel
theorem e_Bus_block_6 : decode M_Bus_block.2.1 6 = .ok (.getfield 37, 3) := by decide +kernel
theorem e_Bus_block_9 : decode M_Bus_block.2.1 9 = .ok (.getfield 76, 3) := by decide +kernel
theorem e_Bus_block_12 : decode M_Bus_block.2.1 12 = .ok (.getfield 127, 3) := by decide +kernel
theorem e_Bus_block_15 : decode M_Bus_block.2.1 15 = .ok (.astore_n 3, 1) := by decide +kernel
theorem e_Bus_block_16 : decode M_Bus_block.2.1 16 = .ok (.iload_n 1, 1) := by decide +kernel
theorem e_Bus_block_17 : decode M_Bus_block.2.1 17 = .ok (.bipush 9, 2) := by decide +kernel
theorem e_Bus_block_19 : decode M_Bus_block.2.1 19 = .ok (.imul, 1) := by decide +kernel
theorem e_Bus_block_20 : decode M_Bus_block.2.1 20 = .ok (.istore 4, 2) := by decide +kernel
theorem e_Bus_block_22 : decode M_Bus_block.2.1 22 = .ok (.iload_n 2, 1) := by decide +kernel
theorem e_Bus_block_23 : decode M_Bus_block.2.1 23 = .ok (.tableswitch 196 0 13 #[69, 79, 89, 99, 112, 125, 132, 139, 146, 153, 160, 167, 175, 183], 69) := by decide +kernel
theorem e_Bus_block_92 : decode M_Bus_block.2.1 92 = .ok (.aload_n 0, 1) := by decide +kernel
theorem e_Bus_block_93 : decode M_Bus_block.2.1 93 = .ok (.getfield 23, 3) := by decide +kernel
theorem e_Bus_block_96 : decode M_Bus_block.2.1 96 = .ok (.getfield 159, 3) := by decide +kernel
theorem e_Bus_block_99 : decode M_Bus_block.2.1 99 = .ok (.iload_n 1, 1) := by decide +kernel
theorem e_Bus_block_100 : decode M_Bus_block.2.1 100 = .ok (.iaload, 1) := by decide +kernel
theorem e_Bus_block_101 : decode M_Bus_block.2.1 101 = .ok (.ireturn, 1) := by decide +kernel
theorem e_Bus_block_102 : decode M_Bus_block.2.1 102 = .ok (.aload_n 0, 1) := by decide +kernel
theorem e_Bus_block_103 : decode M_Bus_block.2.1 103 = .ok (.getfield 23, 3) := by decide +kernel
theorem e_Bus_block_106 : decode M_Bus_block.2.1 106 = .ok (.getfield 162, 3) := by decide +kernel
theorem e_Bus_block_109 : decode M_Bus_block.2.1 109 = .ok (.iload_n 1, 1) := by decide +kernel
theorem e_Bus_block_110 : decode M_Bus_block.2.1 110 = .ok (.iaload, 1) := by decide +kernel
theorem e_Bus_block_111 : decode M_Bus_block.2.1 111 = .ok (.ireturn, 1) := by decide +kernel
theorem e_Bus_block_112 : decode M_Bus_block.2.1 112 = .ok (.aload_n 0, 1) := by decide +kernel
theorem e_Bus_block_113 : decode M_Bus_block.2.1 113 = .ok (.getfield 23, 3) := by decide +kernel
theorem e_Bus_block_116 : decode M_Bus_block.2.1 116 = .ok (.getfield 165, 3) := by decide +kernel
theorem e_Bus_block_119 : decode M_Bus_block.2.1 119 = .ok (.iload_n 1, 1) := by decide +kernel
theorem e_Bus_block_120 : decode M_Bus_block.2.1 120 = .ok (.iaload, 1) := by decide +kernel
theorem e_Bus_block_121 : decode M_Bus_block.2.1 121 = .ok (.ireturn, 1) := by decide +kernel
theorem e_Bus_block_122 : decode M_Bus_block.2.1 122 = .ok (.aload_n 0, 1) := by decide +kernel
theorem e_Bus_block_123 : decode M_Bus_block.2.1 123 = .ok (.getfield 23, 3) := by decide +kernel
theorem e_Bus_block_126 : decode M_Bus_block.2.1 126 = .ok (.getfield 104, 3) := by decide +kernel
theorem e_Bus_block_129 : decode M_Bus_block.2.1 129 = .ok (.getfield 168, 3) := by decide +kernel
theorem e_Bus_block_132 : decode M_Bus_block.2.1 132 = .ok (.iload_n 1, 1) := by decide +kernel
theorem e_Bus_block_133 : decode M_Bus_block.2.1 133 = .ok (.iaload, 1) := by decide +kernel
theorem e_Bus_block_134 : decode M_Bus_block.2.1 134 = .ok (.ireturn, 1) := by decide +kernel
theorem e_Bus_block_135 : decode M_Bus_block.2.1 135 = .ok (.aload_n 0, 1) := by decide +kernel
theorem e_Bus_block_136 : decode M_Bus_block.2.1 136 = .ok (.getfield 23, 3) := by decide +kernel
theorem e_Bus_block_139 : decode M_Bus_block.2.1 139 = .ok (.getfield 104, 3) := by decide +kernel
theorem e_Bus_block_142 : decode M_Bus_block.2.1 142 = .ok (.getfield 171, 3) := by decide +kernel
theorem e_Bus_block_145 : decode M_Bus_block.2.1 145 = .ok (.iload_n 1, 1) := by decide +kernel
theorem e_Bus_block_146 : decode M_Bus_block.2.1 146 = .ok (.iaload, 1) := by decide +kernel
theorem e_Bus_block_147 : decode M_Bus_block.2.1 147 = .ok (.ireturn, 1) := by decide +kernel
theorem e_Bus_block_148 : decode M_Bus_block.2.1 148 = .ok (.aload_n 3, 1) := by decide +kernel
theorem e_Bus_block_149 : decode M_Bus_block.2.1 149 = .ok (.iload 4, 2) := by decide +kernel
theorem e_Bus_block_151 : decode M_Bus_block.2.1 151 = .ok (.iconst 0, 1) := by decide +kernel
theorem e_Bus_block_152 : decode M_Bus_block.2.1 152 = .ok (.iadd, 1) := by decide +kernel
theorem e_Bus_block_153 : decode M_Bus_block.2.1 153 = .ok (.iaload, 1) := by decide +kernel
theorem e_Bus_block_154 : decode M_Bus_block.2.1 154 = .ok (.ireturn, 1) := by decide +kernel
theorem e_Bus_block_155 : decode M_Bus_block.2.1 155 = .ok (.aload_n 3, 1) := by decide +kernel
theorem e_Bus_block_156 : decode M_Bus_block.2.1 156 = .ok (.iload 4, 2) := by decide +kernel
theorem e_Bus_block_158 : decode M_Bus_block.2.1 158 = .ok (.iconst 1, 1) := by decide +kernel
theorem e_Bus_block_159 : decode M_Bus_block.2.1 159 = .ok (.iadd, 1) := by decide +kernel
theorem e_Bus_block_160 : decode M_Bus_block.2.1 160 = .ok (.iaload, 1) := by decide +kernel
theorem e_Bus_block_161 : decode M_Bus_block.2.1 161 = .ok (.ireturn, 1) := by decide +kernel
theorem e_Bus_block_162 : decode M_Bus_block.2.1 162 = .ok (.aload_n 3, 1) := by decide +kernel
theorem e_Bus_block_163 : decode M_Bus_block.2.1 163 = .ok (.iload 4, 2) := by decide +kernel
theorem e_Bus_block_165 : decode M_Bus_block.2.1 165 = .ok (.iconst 2, 1) := by decide +kernel
theorem e_Bus_block_166 : decode M_Bus_block.2.1 166 = .ok (.iadd, 1) := by decide +kernel
theorem e_Bus_block_167 : decode M_Bus_block.2.1 167 = .ok (.iaload, 1) := by decide +kernel
theorem e_Bus_block_168 : decode M_Bus_block.2.1 168 = .ok (.ireturn, 1) := by decide +kernel
theorem e_Bus_block_169 : decode M_Bus_block.2.1 169 = .ok (.aload_n 3, 1) := by decide +kernel
theorem e_Bus_block_170 : decode M_Bus_block.2.1 170 = .ok (.iload 4, 2) := by decide +kernel
theorem e_Bus_block_172 : decode M_Bus_block.2.1 172 = .ok (.iconst 3, 1) := by decide +kernel
theorem e_Bus_block_173 : decode M_Bus_block.2.1 173 = .ok (.iadd, 1) := by decide +kernel
theorem e_Bus_block_174 : decode M_Bus_block.2.1 174 = .ok (.iaload, 1) := by decide +kernel
theorem e_Bus_block_175 : decode M_Bus_block.2.1 175 = .ok (.ireturn, 1) := by decide +kernel
theorem e_Bus_block_176 : decode M_Bus_block.2.1 176 = .ok (.aload_n 3, 1) := by decide +kernel
theorem e_Bus_block_177 : decode M_Bus_block.2.1 177 = .ok (.iload 4, 2) := by decide +kernel
theorem e_Bus_block_179 : decode M_Bus_block.2.1 179 = .ok (.iconst 4, 1) := by decide +kernel
theorem e_Bus_block_180 : decode M_Bus_block.2.1 180 = .ok (.iadd, 1) := by decide +kernel
theorem e_Bus_block_181 : decode M_Bus_block.2.1 181 = .ok (.iaload, 1) := by decide +kernel
theorem e_Bus_block_182 : decode M_Bus_block.2.1 182 = .ok (.ireturn, 1) := by decide +kernel
theorem e_Bus_block_183 : decode M_Bus_block.2.1 183 = .ok (.aload_n 3, 1) := by decide +kernel
theorem e_Bus_block_184 : decode M_Bus_block.2.1 184 = .ok (.iload 4, 2) := by decide +kernel
theorem e_Bus_block_186 : decode M_Bus_block.2.1 186 = .ok (.iconst 5, 1) := by decide +kernel
theorem e_Bus_block_187 : decode M_Bus_block.2.1 187 = .ok (.iadd, 1) := by decide +kernel
theorem e_Bus_block_188 : decode M_Bus_block.2.1 188 = .ok (.iaload, 1) := by decide +kernel
theorem e_Bus_block_189 : decode M_Bus_block.2.1 189 = .ok (.ireturn, 1) := by decide +kernel
theorem e_Bus_block_190 : decode M_Bus_block.2.1 190 = .ok (.aload_n 3, 1) := by decide +kernel
theorem e_Bus_block_191 : decode M_Bus_block.2.1 191 = .ok (.iload 4, 2) := by decide +kernel
theorem e_Bus_block_193 : decode M_Bus_block.2.1 193 = .ok (.bipush 6, 2) := by decide +kernel
theorem e_Bus_block_195 : decode M_Bus_block.2.1 195 = .ok (.iadd, 1) := by decide +kernel
theorem e_Bus_block_196 : decode M_Bus_block.2.1 196 = .ok (.iaload, 1) := by decide +kernel
theorem e_Bus_block_197 : decode M_Bus_block.2.1 197 = .ok (.ireturn, 1) := by decide +kernel
theorem e_Bus_block_198 : decode M_Bus_block.2.1 198 = .ok (.aload_n 3, 1) := by decide +kernel
theorem e_Bus_block_199 : decode M_Bus_block.2.1 199 = .ok (.iload 4, 2) := by decide +kernel
theorem e_Bus_block_201 : decode M_Bus_block.2.1 201 = .ok (.bipush 7, 2) := by decide +kernel
theorem e_Bus_block_203 : decode M_Bus_block.2.1 203 = .ok (.iadd, 1) := by decide +kernel
theorem e_Bus_block_204 : decode M_Bus_block.2.1 204 = .ok (.iaload, 1) := by decide +kernel
theorem e_Bus_block_205 : decode M_Bus_block.2.1 205 = .ok (.ireturn, 1) := by decide +kernel
theorem e_Bus_block_206 : decode M_Bus_block.2.1 206 = .ok (.aload_n 0, 1) := by decide +kernel
theorem e_Bus_block_207 : decode M_Bus_block.2.1 207 = .ok (.getfield 23, 3) := by decide +kernel
theorem e_Bus_block_210 : decode M_Bus_block.2.1 210 = .ok (.getfield 104, 3) := by decide +kernel
theorem e_Bus_block_213 : decode M_Bus_block.2.1 213 = .ok (.getfield 174, 3) := by decide +kernel
theorem e_Bus_block_216 : decode M_Bus_block.2.1 216 = .ok (.iload_n 1, 1) := by decide +kernel
theorem e_Bus_block_217 : decode M_Bus_block.2.1 217 = .ok (.iaload, 1) := by decide +kernel
theorem e_Bus_block_218 : decode M_Bus_block.2.1 218 = .ok (.ireturn, 1) := by decide +kernel
theorem e_Bus_block_219 : decode M_Bus_block.2.1 219 = .ok (.new 153, 3) := by decide +kernel
theorem e_Bus_block_222 : decode M_Bus_block.2.1 222 = .ok (.dup, 1) := by decide +kernel
theorem e_Bus_block_223 : decode M_Bus_block.2.1 223 = .ok (.invokespecial 155, 3) := by decide +kernel
theorem e_Bus_block_226 : decode M_Bus_block.2.1 226 = .ok (.athrow, 1) := by decide +kernel
theorem e_Bus_needBlock_0 : decode M_Bus_needBlock.2.1 0 = .ok (.aload_n 0, 1) := by decide +kernel
theorem e_Bus_needBlock_1 : decode M_Bus_needBlock.2.1 1 = .ok (.iload_n 1, 1) := by decide +kernel
theorem e_Bus_needBlock_2 : decode M_Bus_needBlock.2.1 2 = .ok (.invokevirtual 207, 3) := by decide +kernel
theorem e_Bus_needBlock_5 : decode M_Bus_needBlock.2.1 5 = .ok (.ifCond .ne 11, 3) := by decide +kernel
theorem e_Bus_needBlock_8 : decode M_Bus_needBlock.2.1 8 = .ok (.new 153, 3) := by decide +kernel
theorem e_Bus_needBlock_11 : decode M_Bus_needBlock.2.1 11 = .ok (.dup, 1) := by decide +kernel
theorem e_Bus_needBlock_12 : decode M_Bus_needBlock.2.1 12 = .ok (.invokespecial 155, 3) := by decide +kernel
theorem e_Bus_needBlock_15 : decode M_Bus_needBlock.2.1 15 = .ok (.athrow, 1) := by decide +kernel
theorem e_Bus_needBlock_16 : decode M_Bus_needBlock.2.1 16 = .ok (.return_, 1) := by decide +kernel
theorem e_Bus_link_0 : decode M_Bus_link.2.1 0 = .ok (.iload_n 1, 1) := by decide +kernel
theorem e_Bus_link_1 : decode M_Bus_link.2.1 1 = .ok (.ifCond .lt 17, 3) := by decide +kernel
theorem e_Bus_link_4 : decode M_Bus_link.2.1 4 = .ok (.iload_n 1, 1) := by decide +kernel
theorem e_Bus_link_5 : decode M_Bus_link.2.1 5 = .ok (.aload_n 0, 1) := by decide +kernel
theorem e_Bus_link_6 : decode M_Bus_link.2.1 6 = .ok (.getfield 23, 3) := by decide +kernel
theorem e_Bus_link_9 : decode M_Bus_link.2.1 9 = .ok (.getfield 136, 3) := by decide +kernel
theorem e_Bus_link_12 : decode M_Bus_link.2.1 12 = .ok (.getfield 140, 3) := by decide +kernel
theorem e_Bus_link_15 : decode M_Bus_link.2.1 15 = .ok (.if_icmp .lt 11, 3) := by decide +kernel
theorem e_Bus_link_18 : decode M_Bus_link.2.1 18 = .ok (.new 153, 3) := by decide +kernel
theorem e_Bus_link_21 : decode M_Bus_link.2.1 21 = .ok (.dup, 1) := by decide +kernel
theorem e_Bus_link_22 : decode M_Bus_link.2.1 22 = .ok (.invokespecial 155, 3) := by decide +kernel
theorem e_Bus_link_25 : decode M_Bus_link.2.1 25 = .ok (.athrow, 1) := by decide +kernel
theorem e_Bus_link_26 : decode M_Bus_link.2.1 26 = .ok (.iload_n 2, 1) := by decide +kernel
theorem e_Bus_link_27 : decode M_Bus_link.2.1 27 = .ok (.tableswitch 204 0 14 #[73, 86, 99, 112, 125, 125, 125, 125, 125, 147, 160, 160, 160, 160, 160], 73) := by decide +kernel
theorem e_Bus_link_100 : decode M_Bus_link.2.1 100 = .ok (.aload_n 0, 1) := by decide +kernel
theorem e_Bus_link_101 : decode M_Bus_link.2.1 101 = .ok (.getfield 23, 3) := by decide +kernel
theorem e_Bus_link_104 : decode M_Bus_link.2.1 104 = .ok (.getfield 136, 3) := by decide +kernel
theorem e_Bus_link_107 : decode M_Bus_link.2.1 107 = .ok (.getfield 177, 3) := by decide +kernel
theorem e_Bus_link_110 : decode M_Bus_link.2.1 110 = .ok (.iload_n 1, 1) := by decide +kernel
theorem e_Bus_link_111 : decode M_Bus_link.2.1 111 = .ok (.iaload, 1) := by decide +kernel
theorem e_Bus_link_112 : decode M_Bus_link.2.1 112 = .ok (.ireturn, 1) := by decide +kernel
theorem e_Bus_link_113 : decode M_Bus_link.2.1 113 = .ok (.aload_n 0, 1) := by decide +kernel
theorem e_Bus_link_114 : decode M_Bus_link.2.1 114 = .ok (.getfield 23, 3) := by decide +kernel
theorem e_Bus_link_117 : decode M_Bus_link.2.1 117 = .ok (.getfield 136, 3) := by decide +kernel
theorem e_Bus_link_120 : decode M_Bus_link.2.1 120 = .ok (.getfield 180, 3) := by decide +kernel
theorem e_Bus_link_123 : decode M_Bus_link.2.1 123 = .ok (.iload_n 1, 1) := by decide +kernel
theorem e_Bus_link_124 : decode M_Bus_link.2.1 124 = .ok (.iaload, 1) := by decide +kernel
theorem e_Bus_link_125 : decode M_Bus_link.2.1 125 = .ok (.ireturn, 1) := by decide +kernel
theorem e_Bus_link_126 : decode M_Bus_link.2.1 126 = .ok (.aload_n 0, 1) := by decide +kernel
theorem e_Bus_link_127 : decode M_Bus_link.2.1 127 = .ok (.getfield 23, 3) := by decide +kernel
theorem e_Bus_link_130 : decode M_Bus_link.2.1 130 = .ok (.getfield 136, 3) := by decide +kernel
theorem e_Bus_link_133 : decode M_Bus_link.2.1 133 = .ok (.getfield 183, 3) := by decide +kernel
theorem e_Bus_link_136 : decode M_Bus_link.2.1 136 = .ok (.iload_n 1, 1) := by decide +kernel
theorem e_Bus_link_137 : decode M_Bus_link.2.1 137 = .ok (.iaload, 1) := by decide +kernel
theorem e_Bus_link_138 : decode M_Bus_link.2.1 138 = .ok (.ireturn, 1) := by decide +kernel
theorem e_Bus_link_139 : decode M_Bus_link.2.1 139 = .ok (.aload_n 0, 1) := by decide +kernel
theorem e_Bus_link_140 : decode M_Bus_link.2.1 140 = .ok (.getfield 23, 3) := by decide +kernel
theorem e_Bus_link_143 : decode M_Bus_link.2.1 143 = .ok (.getfield 104, 3) := by decide +kernel
theorem e_Bus_link_146 : decode M_Bus_link.2.1 146 = .ok (.getfield 186, 3) := by decide +kernel
theorem e_Bus_link_149 : decode M_Bus_link.2.1 149 = .ok (.iload_n 1, 1) := by decide +kernel
theorem e_Bus_link_150 : decode M_Bus_link.2.1 150 = .ok (.iaload, 1) := by decide +kernel
theorem e_Bus_link_151 : decode M_Bus_link.2.1 151 = .ok (.ireturn, 1) := by decide +kernel
theorem e_Bus_link_152 : decode M_Bus_link.2.1 152 = .ok (.aload_n 0, 1) := by decide +kernel
theorem e_Bus_link_153 : decode M_Bus_link.2.1 153 = .ok (.getfield 37, 3) := by decide +kernel
theorem e_Bus_link_156 : decode M_Bus_link.2.1 156 = .ok (.getfield 76, 3) := by decide +kernel
theorem e_Bus_link_159 : decode M_Bus_link.2.1 159 = .ok (.getfield 127, 3) := by decide +kernel
theorem e_Bus_link_162 : decode M_Bus_link.2.1 162 = .ok (.bipush 90, 2) := by decide +kernel
theorem e_Bus_link_164 : decode M_Bus_link.2.1 164 = .ok (.iload_n 1, 1) := by decide +kernel
theorem e_Bus_link_165 : decode M_Bus_link.2.1 165 = .ok (.iconst 5, 1) := by decide +kernel
theorem e_Bus_link_166 : decode M_Bus_link.2.1 166 = .ok (.imul, 1) := by decide +kernel
theorem e_Bus_link_167 : decode M_Bus_link.2.1 167 = .ok (.iadd, 1) := by decide +kernel
theorem e_Bus_link_168 : decode M_Bus_link.2.1 168 = .ok (.iload_n 2, 1) := by decide +kernel
theorem e_Bus_link_169 : decode M_Bus_link.2.1 169 = .ok (.iadd, 1) := by decide +kernel
theorem e_Bus_link_170 : decode M_Bus_link.2.1 170 = .ok (.iconst 4, 1) := by decide +kernel
theorem e_Bus_link_171 : decode M_Bus_link.2.1 171 = .ok (.isub, 1) := by decide +kernel
theorem e_Bus_link_172 : decode M_Bus_link.2.1 172 = .ok (.iaload, 1) := by decide +kernel
theorem e_Bus_link_173 : decode M_Bus_link.2.1 173 = .ok (.ireturn, 1) := by decide +kernel
theorem e_Bus_link_174 : decode M_Bus_link.2.1 174 = .ok (.aload_n 0, 1) := by decide +kernel
theorem e_Bus_link_175 : decode M_Bus_link.2.1 175 = .ok (.getfield 23, 3) := by decide +kernel
theorem e_Bus_link_178 : decode M_Bus_link.2.1 178 = .ok (.getfield 104, 3) := by decide +kernel
theorem e_Bus_link_181 : decode M_Bus_link.2.1 181 = .ok (.getfield 189, 3) := by decide +kernel
theorem e_Bus_link_184 : decode M_Bus_link.2.1 184 = .ok (.iload_n 1, 1) := by decide +kernel
theorem e_Bus_link_185 : decode M_Bus_link.2.1 185 = .ok (.iaload, 1) := by decide +kernel
theorem e_Bus_link_186 : decode M_Bus_link.2.1 186 = .ok (.ireturn, 1) := by decide +kernel
theorem e_Bus_link_187 : decode M_Bus_link.2.1 187 = .ok (.aload_n 0, 1) := by decide +kernel
theorem e_Bus_link_188 : decode M_Bus_link.2.1 188 = .ok (.getfield 23, 3) := by decide +kernel
theorem e_Bus_link_191 : decode M_Bus_link.2.1 191 = .ok (.getfield 136, 3) := by decide +kernel
theorem e_Bus_link_194 : decode M_Bus_link.2.1 194 = .ok (.getfield 183, 3) := by decide +kernel
theorem e_Bus_link_197 : decode M_Bus_link.2.1 197 = .ok (.iload_n 1, 1) := by decide +kernel
theorem e_Bus_link_198 : decode M_Bus_link.2.1 198 = .ok (.iaload, 1) := by decide +kernel
theorem e_Bus_link_199 : decode M_Bus_link.2.1 199 = .ok (.iconst 2, 1) := by decide +kernel
theorem e_Bus_link_200 : decode M_Bus_link.2.1 200 = .ok (.if_icmp .ne 29, 3) := by decide +kernel
theorem e_Bus_link_203 : decode M_Bus_link.2.1 203 = .ok (.aload_n 0, 1) := by decide +kernel
theorem e_Bus_link_204 : decode M_Bus_link.2.1 204 = .ok (.getfield 37, 3) := by decide +kernel
theorem e_Bus_link_207 : decode M_Bus_link.2.1 207 = .ok (.getfield 76, 3) := by decide +kernel
theorem e_Bus_link_210 : decode M_Bus_link.2.1 210 = .ok (.getfield 127, 3) := by decide +kernel
theorem e_Bus_link_213 : decode M_Bus_link.2.1 213 = .ok (.sipush 155, 3) := by decide +kernel
theorem e_Bus_link_216 : decode M_Bus_link.2.1 216 = .ok (.iload_n 1, 1) := by decide +kernel
theorem e_Bus_link_217 : decode M_Bus_link.2.1 217 = .ok (.iconst 5, 1) := by decide +kernel
theorem e_Bus_link_218 : decode M_Bus_link.2.1 218 = .ok (.imul, 1) := by decide +kernel
theorem e_Bus_link_219 : decode M_Bus_link.2.1 219 = .ok (.iadd, 1) := by decide +kernel
theorem e_Bus_link_220 : decode M_Bus_link.2.1 220 = .ok (.iload_n 2, 1) := by decide +kernel
theorem e_Bus_link_221 : decode M_Bus_link.2.1 221 = .ok (.iadd, 1) := by decide +kernel
theorem e_Bus_link_222 : decode M_Bus_link.2.1 222 = .ok (.bipush 10, 2) := by decide +kernel
theorem e_Bus_link_224 : decode M_Bus_link.2.1 224 = .ok (.isub, 1) := by decide +kernel
theorem e_Bus_link_225 : decode M_Bus_link.2.1 225 = .ok (.iaload, 1) := by decide +kernel
theorem e_Bus_link_226 : decode M_Bus_link.2.1 226 = .ok (.goto 4, 3) := by decide +kernel
theorem e_Bus_link_229 : decode M_Bus_link.2.1 229 = .ok (.iconst (-1), 1) := by decide +kernel
theorem e_Bus_link_230 : decode M_Bus_link.2.1 230 = .ok (.ireturn, 1) := by decide +kernel
theorem e_Bus_link_231 : decode M_Bus_link.2.1 231 = .ok (.new 153, 3) := by decide +kernel
theorem e_Bus_link_234 : decode M_Bus_link.2.1 234 = .ok (.dup, 1) := by decide +kernel
theorem e_Bus_link_235 : decode M_Bus_link.2.1 235 = .ok (.invokespecial 155, 3) := by decide +kernel
theorem e_Bus_link_238 : decode M_Bus_link.2.1 238 = .ok (.athrow, 1) := by decide +kernel
theorem e_Bus_plant_0 : decode M_Bus_plant.2.1 0 = .ok (.iload_n 1, 1) := by decide +kernel
theorem e_Bus_plant_1 : decode M_Bus_plant.2.1 1 = .ok (.ifCond .lt 8, 3) := by decide +kernel
theorem e_Bus_plant_4 : decode M_Bus_plant.2.1 4 = .ok (.iload_n 1, 1) := by decide +kernel
theorem e_Bus_plant_5 : decode M_Bus_plant.2.1 5 = .ok (.iconst 4, 1) := by decide +kernel
theorem e_Bus_plant_6 : decode M_Bus_plant.2.1 6 = .ok (.if_icmp .lt 11, 3) := by decide +kernel
theorem e_Bus_plant_9 : decode M_Bus_plant.2.1 9 = .ok (.new 153, 3) := by decide +kernel
theorem e_Bus_plant_12 : decode M_Bus_plant.2.1 12 = .ok (.dup, 1) := by decide +kernel
theorem e_Bus_plant_13 : decode M_Bus_plant.2.1 13 = .ok (.invokespecial 155, 3) := by decide +kernel
theorem e_Bus_plant_16 : decode M_Bus_plant.2.1 16 = .ok (.athrow, 1) := by decide +kernel
theorem e_Bus_plant_17 : decode M_Bus_plant.2.1 17 = .ok (.iload_n 2, 1) := by decide +kernel
theorem e_Bus_plant_18 : decode M_Bus_plant.2.1 18 = .ok (.tableswitch 75 0 2 #[26, 43, 56], 26) := by decide +kernel
theorem e_Bus_plant_44 : decode M_Bus_plant.2.1 44 = .ok (.aload_n 0, 1) := by decide +kernel
theorem e_Bus_plant_45 : decode M_Bus_plant.2.1 45 = .ok (.getfield 37, 3) := by decide +kernel
theorem e_Bus_plant_48 : decode M_Bus_plant.2.1 48 = .ok (.getfield 76, 3) := by decide +kernel
theorem e_Bus_plant_51 : decode M_Bus_plant.2.1 51 = .ok (.getfield 127, 3) := by decide +kernel
theorem e_Bus_plant_54 : decode M_Bus_plant.2.1 54 = .ok (.sipush 215, 3) := by decide +kernel
theorem e_Bus_plant_57 : decode M_Bus_plant.2.1 57 = .ok (.iload_n 1, 1) := by decide +kernel
theorem e_Bus_plant_58 : decode M_Bus_plant.2.1 58 = .ok (.iadd, 1) := by decide +kernel
theorem e_Bus_plant_59 : decode M_Bus_plant.2.1 59 = .ok (.iaload, 1) := by decide +kernel
theorem e_Bus_plant_60 : decode M_Bus_plant.2.1 60 = .ok (.ireturn, 1) := by decide +kernel
theorem e_Bus_plant_61 : decode M_Bus_plant.2.1 61 = .ok (.aload_n 0, 1) := by decide +kernel
theorem e_Bus_plant_62 : decode M_Bus_plant.2.1 62 = .ok (.getfield 23, 3) := by decide +kernel
theorem e_Bus_plant_65 : decode M_Bus_plant.2.1 65 = .ok (.getfield 192, 3) := by decide +kernel
theorem e_Bus_plant_68 : decode M_Bus_plant.2.1 68 = .ok (.getfield 196, 3) := by decide +kernel
theorem e_Bus_plant_71 : decode M_Bus_plant.2.1 71 = .ok (.iload_n 1, 1) := by decide +kernel
theorem e_Bus_plant_72 : decode M_Bus_plant.2.1 72 = .ok (.iaload, 1) := by decide +kernel
theorem e_Bus_plant_73 : decode M_Bus_plant.2.1 73 = .ok (.ireturn, 1) := by decide +kernel
theorem e_Bus_plant_74 : decode M_Bus_plant.2.1 74 = .ok (.aload_n 0, 1) := by decide +kernel
theorem e_Bus_plant_75 : decode M_Bus_plant.2.1 75 = .ok (.getfield 23, 3) := by decide +kernel
theorem e_Bus_plant_78 : decode M_Bus_plant.2.1 78 = .ok (.aload_n 0, 1) := by decide +kernel
theorem e_Bus_plant_79 : decode M_Bus_plant.2.1 79 = .ok (.getfield 37, 3) := by decide +kernel
theorem e_Bus_plant_82 : decode M_Bus_plant.2.1 82 = .ok (.getfield 76, 3) := by decide +kernel
theorem e_Bus_plant_85 : decode M_Bus_plant.2.1 85 = .ok (.getfield 127, 3) := by decide +kernel
theorem e_Bus_plant_88 : decode M_Bus_plant.2.1 88 = .ok (.iload_n 1, 1) := by decide +kernel
theorem e_Bus_plant_89 : decode M_Bus_plant.2.1 89 = .ok (.invokestatic 201, 3) := by decide +kernel
theorem e_Bus_plant_92 : decode M_Bus_plant.2.1 92 = .ok (.ireturn, 1) := by decide +kernel
theorem e_Bus_plant_93 : decode M_Bus_plant.2.1 93 = .ok (.new 153, 3) := by decide +kernel
theorem e_Bus_plant_96 : decode M_Bus_plant.2.1 96 = .ok (.dup, 1) := by decide +kernel
theorem e_Bus_plant_97 : decode M_Bus_plant.2.1 97 = .ok (.invokespecial 155, 3) := by decide +kernel
theorem e_Bus_plant_100 : decode M_Bus_plant.2.1 100 = .ok (.athrow, 1) := by decide +kernel
theorem e_Bus_then_0 : decode M_Bus_then.2.1 0 = .ok (.aload_n 0, 1) := by decide +kernel
theorem e_Bus_then_1 : decode M_Bus_then.2.1 1 = .ok (.iload_n 1, 1) := by decide +kernel
theorem e_Bus_then_2 : decode M_Bus_then.2.1 2 = .ok (.invokevirtual 156, 3) := by decide +kernel
theorem e_Bus_then_5 : decode M_Bus_then.2.1 5 = .ok (.iload_n 3, 1) := by decide +kernel
theorem e_Bus_then_6 : decode M_Bus_then.2.1 6 = .ok (.invokestatic 257, 3) := by decide +kernel
theorem e_Bus_then_9 : decode M_Bus_then.2.1 9 = .ok (.istore 4, 2) := by decide +kernel
theorem e_Bus_then_11 : decode M_Bus_then.2.1 11 = .ok (.iload 4, 2) := by decide +kernel
theorem e_Bus_then_13 : decode M_Bus_then.2.1 13 = .ok (.iconst (-1), 1) := by decide +kernel
theorem e_Bus_then_14 : decode M_Bus_then.2.1 14 = .ok (.if_icmp .ne 11, 3) := by decide +kernel
theorem e_Bus_then_17 : decode M_Bus_then.2.1 17 = .ok (.new 153, 3) := by decide +kernel
theorem e_Bus_then_20 : decode M_Bus_then.2.1 20 = .ok (.dup, 1) := by decide +kernel
theorem e_Bus_then_21 : decode M_Bus_then.2.1 21 = .ok (.invokespecial 155, 3) := by decide +kernel
theorem e_Bus_then_24 : decode M_Bus_then.2.1 24 = .ok (.athrow, 1) := by decide +kernel
theorem e_Bus_then_25 : decode M_Bus_then.2.1 25 = .ok (.iload_n 2, 1) := by decide +kernel
theorem e_Bus_then_26 : decode M_Bus_then.2.1 26 = .ok (.iconst 0, 1) := by decide +kernel
theorem e_Bus_then_27 : decode M_Bus_then.2.1 27 = .ok (.bipush 60, 2) := by decide +kernel
theorem e_Bus_then_29 : decode M_Bus_then.2.1 29 = .ok (.invokestatic 261, 3) := by decide +kernel
theorem e_Bus_then_32 : decode M_Bus_then.2.1 32 = .ok (.aload_n 0, 1) := by decide +kernel
theorem e_Bus_then_33 : decode M_Bus_then.2.1 33 = .ok (.getfield 51, 3) := by decide +kernel
theorem e_Bus_then_36 : decode M_Bus_then.2.1 36 = .ok (.aload_n 0, 1) := by decide +kernel
theorem e_Bus_then_37 : decode M_Bus_then.2.1 37 = .ok (.getfield 37, 3) := by decide +kernel
theorem e_Bus_then_40 : decode M_Bus_then.2.1 40 = .ok (.getfield 76, 3) := by decide +kernel
theorem e_Bus_then_43 : decode M_Bus_then.2.1 43 = .ok (.invokevirtual 265, 3) := by decide +kernel
theorem e_Bus_then_46 : decode M_Bus_then.2.1 46 = .ok (.aload_n 0, 1) := by decide +kernel
theorem e_Bus_then_47 : decode M_Bus_then.2.1 47 = .ok (.aload_n 0, 1) := by decide +kernel
theorem e_Bus_then_48 : decode M_Bus_then.2.1 48 = .ok (.getfield 51, 3) := by decide +kernel
theorem e_Bus_then_51 : decode M_Bus_then.2.1 51 = .ok (.iload_n 2, 1) := by decide +kernel
theorem e_Bus_then_52 : decode M_Bus_then.2.1 52 = .ok (.invokevirtual 249, 3) := by decide +kernel
theorem e_Bus_then_55 : decode M_Bus_then.2.1 55 = .ok (.aload_n 0, 1) := by decide +kernel
theorem e_Bus_then_56 : decode M_Bus_then.2.1 56 = .ok (.getfield 51, 3) := by decide +kernel
theorem e_Bus_then_59 : decode M_Bus_then.2.1 59 = .ok (.getfield 127, 3) := by decide +kernel
theorem e_Bus_then_62 : decode M_Bus_then.2.1 62 = .ok (.iload_n 1, 1) := by decide +kernel
theorem e_Bus_then_63 : decode M_Bus_then.2.1 63 = .ok (.bipush 9, 2) := by decide +kernel
theorem e_Bus_then_65 : decode M_Bus_then.2.1 65 = .ok (.imul, 1) := by decide +kernel
theorem e_Bus_then_66 : decode M_Bus_then.2.1 66 = .ok (.iload 4, 2) := by decide +kernel
theorem e_Bus_then_68 : decode M_Bus_then.2.1 68 = .ok (.iadd, 1) := by decide +kernel
theorem e_Bus_then_69 : decode M_Bus_then.2.1 69 = .ok (.iaload, 1) := by decide +kernel
theorem e_Bus_then_70 : decode M_Bus_then.2.1 70 = .ok (.ireturn, 1) := by decide +kernel
theorem e_Bus_thenCell_0 : decode M_Bus_thenCell.2.1 0 = .ok (.iload_n 0, 1) := by decide +kernel
theorem e_Bus_thenCell_1 : decode M_Bus_thenCell.2.1 1 = .ok (.tableswitch 52 0 5 #[39, 41, 43, 45, 47, 50], 39) := by decide +kernel
theorem e_Bus_thenCell_40 : decode M_Bus_thenCell.2.1 40 = .ok (.iconst 3, 1) := by decide +kernel
theorem e_Bus_thenCell_41 : decode M_Bus_thenCell.2.1 41 = .ok (.ireturn, 1) := by decide +kernel
theorem e_Bus_thenCell_42 : decode M_Bus_thenCell.2.1 42 = .ok (.iconst 1, 1) := by decide +kernel
theorem e_Bus_thenCell_43 : decode M_Bus_thenCell.2.1 43 = .ok (.ireturn, 1) := by decide +kernel
theorem e_Bus_thenCell_44 : decode M_Bus_thenCell.2.1 44 = .ok (.iconst 2, 1) := by decide +kernel
theorem e_Bus_thenCell_45 : decode M_Bus_thenCell.2.1 45 = .ok (.ireturn, 1) := by decide +kernel
theorem e_Bus_thenCell_46 : decode M_Bus_thenCell.2.1 46 = .ok (.iconst 5, 1) := by decide +kernel
theorem e_Bus_thenCell_47 : decode M_Bus_thenCell.2.1 47 = .ok (.ireturn, 1) := by decide +kernel
theorem e_Bus_thenCell_48 : decode M_Bus_thenCell.2.1 48 = .ok (.bipush 6, 2) := by decide +kernel
theorem e_Bus_thenCell_50 : decode M_Bus_thenCell.2.1 50 = .ok (.ireturn, 1) := by decide +kernel
theorem e_Bus_thenCell_51 : decode M_Bus_thenCell.2.1 51 = .ok (.iconst 0, 1) := by decide +kernel
theorem e_Bus_thenCell_52 : decode M_Bus_thenCell.2.1 52 = .ok (.ireturn, 1) := by decide +kernel
theorem e_Bus_thenCell_53 : decode M_Bus_thenCell.2.1 53 = .ok (.iconst (-1), 1) := by decide +kernel
theorem e_Bus_thenCell_54 : decode M_Bus_thenCell.2.1 54 = .ok (.ireturn, 1) := by decide +kernel
theorem e_Bus_needWithin_0 : decode M_Bus_needWithin.2.1 0 = .ok (.iload_n 0, 1) := by decide +kernel
theorem e_Bus_needWithin_1 : decode M_Bus_needWithin.2.1 1 = .ok (.iload_n 1, 1) := by decide +kernel
theorem e_Bus_needWithin_2 : decode M_Bus_needWithin.2.1 2 = .ok (.if_icmp .lt 8, 3) := by decide +kernel
theorem e_Bus_needWithin_5 : decode M_Bus_needWithin.2.1 5 = .ok (.iload_n 0, 1) := by decide +kernel
theorem e_Bus_needWithin_6 : decode M_Bus_needWithin.2.1 6 = .ok (.iload_n 2, 1) := by decide +kernel
theorem e_Bus_needWithin_7 : decode M_Bus_needWithin.2.1 7 = .ok (.if_icmp .le 11, 3) := by decide +kernel
theorem e_Bus_needWithin_10 : decode M_Bus_needWithin.2.1 10 = .ok (.new 87, 3) := by decide +kernel
theorem e_Bus_needWithin_13 : decode M_Bus_needWithin.2.1 13 = .ok (.dup, 1) := by decide +kernel
theorem e_Bus_needWithin_14 : decode M_Bus_needWithin.2.1 14 = .ok (.invokespecial 89, 3) := by decide +kernel
theorem e_Bus_needWithin_17 : decode M_Bus_needWithin.2.1 17 = .ok (.athrow, 1) := by decide +kernel
theorem e_Bus_needWithin_18 : decode M_Bus_needWithin.2.1 18 = .ok (.return_, 1) := by decide +kernel
theorem e_Bus_first_0 : decode M_Bus_first.2.1 0 = .ok (.aload_n 0, 1) := by decide +kernel
theorem e_Bus_first_1 : decode M_Bus_first.2.1 1 = .ok (.iload_n 1, 1) := by decide +kernel
theorem e_Bus_first_2 : decode M_Bus_first.2.1 2 = .ok (.invokevirtual 156, 3) := by decide +kernel
theorem e_Bus_first_5 : decode M_Bus_first.2.1 5 = .ok (.iload_n 1, 1) := by decide +kernel
theorem e_Bus_first_6 : decode M_Bus_first.2.1 6 = .ok (.bipush 9, 2) := by decide +kernel
theorem e_Bus_first_8 : decode M_Bus_first.2.1 8 = .ok (.imul, 1) := by decide +kernel
theorem e_Bus_first_9 : decode M_Bus_first.2.1 9 = .ok (.iconst 1, 1) := by decide +kernel
theorem e_Bus_first_10 : decode M_Bus_first.2.1 10 = .ok (.iadd, 1) := by decide +kernel
theorem e_Bus_first_11 : decode M_Bus_first.2.1 11 = .ok (.istore_n 2, 1) := by decide +kernel
theorem e_Bus_first_12 : decode M_Bus_first.2.1 12 = .ok (.aload_n 0, 1) := by decide +kernel
theorem e_Bus_first_13 : decode M_Bus_first.2.1 13 = .ok (.getfield 51, 3) := by decide +kernel
theorem e_Bus_first_16 : decode M_Bus_first.2.1 16 = .ok (.aload_n 0, 1) := by decide +kernel
theorem e_Bus_first_17 : decode M_Bus_first.2.1 17 = .ok (.getfield 37, 3) := by decide +kernel
theorem e_Bus_first_20 : decode M_Bus_first.2.1 20 = .ok (.getfield 76, 3) := by decide +kernel
theorem e_Bus_first_23 : decode M_Bus_first.2.1 23 = .ok (.invokevirtual 265, 3) := by decide +kernel
theorem e_Bus_first_26 : decode M_Bus_first.2.1 26 = .ok (.iconst 1, 1) := by decide +kernel
theorem e_Bus_first_27 : decode M_Bus_first.2.1 27 = .ok (.istore_n 3, 1) := by decide +kernel
theorem e_Bus_first_28 : decode M_Bus_first.2.1 28 = .ok (.iload_n 3, 1) := by decide +kernel
theorem e_Bus_first_29 : decode M_Bus_first.2.1 29 = .ok (.bipush 60, 2) := by decide +kernel
theorem e_Bus_first_31 : decode M_Bus_first.2.1 31 = .ok (.if_icmp .gt 49, 3) := by decide +kernel
theorem e_Bus_first_34 : decode M_Bus_first.2.1 34 = .ok (.aload_n 0, 1) := by decide +kernel
theorem e_Bus_first_35 : decode M_Bus_first.2.1 35 = .ok (.getfield 23, 3) := by decide +kernel
theorem e_Bus_first_38 : decode M_Bus_first.2.1 38 = .ok (.aload_n 0, 1) := by decide +kernel
theorem e_Bus_first_39 : decode M_Bus_first.2.1 39 = .ok (.getfield 51, 3) := by decide +kernel
theorem e_Bus_first_42 : decode M_Bus_first.2.1 42 = .ok (.getfield 127, 3) := by decide +kernel
theorem e_Bus_first_45 : decode M_Bus_first.2.1 45 = .ok (.invokestatic 269, 3) := by decide +kernel
theorem e_Bus_first_48 : decode M_Bus_first.2.1 48 = .ok (.aload_n 0, 1) := by decide +kernel
theorem e_Bus_first_49 : decode M_Bus_first.2.1 49 = .ok (.getfield 51, 3) := by decide +kernel
theorem e_Bus_first_52 : decode M_Bus_first.2.1 52 = .ok (.getfield 127, 3) := by decide +kernel
theorem e_Bus_first_55 : decode M_Bus_first.2.1 55 = .ok (.iload_n 2, 1) := by decide +kernel
theorem e_Bus_first_56 : decode M_Bus_first.2.1 56 = .ok (.iaload, 1) := by decide +kernel
theorem e_Bus_first_57 : decode M_Bus_first.2.1 57 = .ok (.aload_n 0, 1) := by decide +kernel
theorem e_Bus_first_58 : decode M_Bus_first.2.1 58 = .ok (.getfield 37, 3) := by decide +kernel
theorem e_Bus_first_61 : decode M_Bus_first.2.1 61 = .ok (.getfield 76, 3) := by decide +kernel
theorem e_Bus_first_64 : decode M_Bus_first.2.1 64 = .ok (.getfield 127, 3) := by decide +kernel
theorem e_Bus_first_67 : decode M_Bus_first.2.1 67 = .ok (.iload_n 2, 1) := by decide +kernel
theorem e_Bus_first_68 : decode M_Bus_first.2.1 68 = .ok (.iaload, 1) := by decide +kernel
theorem e_Bus_first_69 : decode M_Bus_first.2.1 69 = .ok (.if_icmp .eq 5, 3) := by decide +kernel
theorem e_Bus_first_72 : decode M_Bus_first.2.1 72 = .ok (.iload_n 3, 1) := by decide +kernel
theorem e_Bus_first_73 : decode M_Bus_first.2.1 73 = .ok (.ireturn, 1) := by decide +kernel
theorem e_Bus_first_74 : decode M_Bus_first.2.1 74 = .ok (.iinc 3 1, 3) := by decide +kernel
theorem e_Bus_first_77 : decode M_Bus_first.2.1 77 = .ok (.goto (-49), 3) := by decide +kernel
theorem e_Bus_first_80 : decode M_Bus_first.2.1 80 = .ok (.iconst (-1), 1) := by decide +kernel
theorem e_Bus_first_81 : decode M_Bus_first.2.1 81 = .ok (.ireturn, 1) := by decide +kernel
theorem e_Bus_jump_0 : decode M_Bus_jump.2.1 0 = .ok (.aload_n 0, 1) := by decide +kernel
theorem e_Bus_jump_1 : decode M_Bus_jump.2.1 1 = .ok (.iload_n 1, 1) := by decide +kernel
theorem e_Bus_jump_2 : decode M_Bus_jump.2.1 2 = .ok (.invokevirtual 156, 3) := by decide +kernel
theorem e_Bus_jump_5 : decode M_Bus_jump.2.1 5 = .ok (.iload_n 2, 1) := by decide +kernel
theorem e_Bus_jump_6 : decode M_Bus_jump.2.1 6 = .ok (.iconst 1, 1) := by decide +kernel
theorem e_Bus_jump_7 : decode M_Bus_jump.2.1 7 = .ok (.bipush 60, 2) := by decide +kernel
theorem e_Bus_jump_9 : decode M_Bus_jump.2.1 9 = .ok (.invokestatic 261, 3) := by decide +kernel
theorem e_Bus_jump_12 : decode M_Bus_jump.2.1 12 = .ok (.iload_n 1, 1) := by decide +kernel
theorem e_Bus_jump_13 : decode M_Bus_jump.2.1 13 = .ok (.bipush 9, 2) := by decide +kernel
theorem e_Bus_jump_15 : decode M_Bus_jump.2.1 15 = .ok (.imul, 1) := by decide +kernel
theorem e_Bus_jump_16 : decode M_Bus_jump.2.1 16 = .ok (.iconst 3, 1) := by decide +kernel
theorem e_Bus_jump_17 : decode M_Bus_jump.2.1 17 = .ok (.iadd, 1) := by decide +kernel
theorem e_Bus_jump_18 : decode M_Bus_jump.2.1 18 = .ok (.istore_n 3, 1) := by decide +kernel
theorem e_Bus_jump_19 : decode M_Bus_jump.2.1 19 = .ok (.iconst 0, 1) := by decide +kernel
theorem e_Bus_jump_20 : decode M_Bus_jump.2.1 20 = .ok (.istore 4, 2) := by decide +kernel
theorem e_Bus_jump_22 : decode M_Bus_jump.2.1 22 = .ok (.aload_n 0, 1) := by decide +kernel
theorem e_Bus_jump_23 : decode M_Bus_jump.2.1 23 = .ok (.getfield 51, 3) := by decide +kernel
theorem e_Bus_jump_26 : decode M_Bus_jump.2.1 26 = .ok (.aload_n 0, 1) := by decide +kernel
theorem e_Bus_jump_27 : decode M_Bus_jump.2.1 27 = .ok (.getfield 37, 3) := by decide +kernel
theorem e_Bus_jump_30 : decode M_Bus_jump.2.1 30 = .ok (.getfield 76, 3) := by decide +kernel
theorem e_Bus_jump_33 : decode M_Bus_jump.2.1 33 = .ok (.invokevirtual 265, 3) := by decide +kernel
theorem e_Bus_jump_36 : decode M_Bus_jump.2.1 36 = .ok (.iconst 0, 1) := by decide +kernel
theorem e_Bus_jump_37 : decode M_Bus_jump.2.1 37 = .ok (.istore 5, 2) := by decide +kernel
theorem e_Bus_jump_39 : decode M_Bus_jump.2.1 39 = .ok (.iload 5, 2) := by decide +kernel
theorem e_Bus_jump_41 : decode M_Bus_jump.2.1 41 = .ok (.iload_n 2, 1) := by decide +kernel
theorem e_Bus_jump_42 : decode M_Bus_jump.2.1 42 = .ok (.if_icmp .ge 56, 3) := by decide +kernel
theorem e_Bus_jump_45 : decode M_Bus_jump.2.1 45 = .ok (.aload_n 0, 1) := by decide +kernel
theorem e_Bus_jump_46 : decode M_Bus_jump.2.1 46 = .ok (.getfield 51, 3) := by decide +kernel
theorem e_Bus_jump_49 : decode M_Bus_jump.2.1 49 = .ok (.getfield 127, 3) := by decide +kernel
theorem e_Bus_jump_52 : decode M_Bus_jump.2.1 52 = .ok (.iload_n 3, 1) := by decide +kernel
theorem e_Bus_jump_53 : decode M_Bus_jump.2.1 53 = .ok (.iaload, 1) := by decide +kernel
theorem e_Bus_jump_54 : decode M_Bus_jump.2.1 54 = .ok (.istore 6, 2) := by decide +kernel
theorem e_Bus_jump_56 : decode M_Bus_jump.2.1 56 = .ok (.aload_n 0, 1) := by decide +kernel
theorem e_Bus_jump_57 : decode M_Bus_jump.2.1 57 = .ok (.getfield 23, 3) := by decide +kernel
theorem e_Bus_jump_60 : decode M_Bus_jump.2.1 60 = .ok (.aload_n 0, 1) := by decide +kernel
theorem e_Bus_jump_61 : decode M_Bus_jump.2.1 61 = .ok (.getfield 51, 3) := by decide +kernel
theorem e_Bus_jump_64 : decode M_Bus_jump.2.1 64 = .ok (.getfield 127, 3) := by decide +kernel
theorem e_Bus_jump_67 : decode M_Bus_jump.2.1 67 = .ok (.invokestatic 269, 3) := by decide +kernel
theorem e_Bus_jump_70 : decode M_Bus_jump.2.1 70 = .ok (.iload 4, 2) := by decide +kernel
theorem e_Bus_jump_72 : decode M_Bus_jump.2.1 72 = .ok (.aload_n 0, 1) := by decide +kernel
theorem e_Bus_jump_73 : decode M_Bus_jump.2.1 73 = .ok (.getfield 51, 3) := by decide +kernel
theorem e_Bus_jump_76 : decode M_Bus_jump.2.1 76 = .ok (.getfield 127, 3) := by decide +kernel
theorem e_Bus_jump_79 : decode M_Bus_jump.2.1 79 = .ok (.iload_n 3, 1) := by decide +kernel
theorem e_Bus_jump_80 : decode M_Bus_jump.2.1 80 = .ok (.iaload, 1) := by decide +kernel
theorem e_Bus_jump_81 : decode M_Bus_jump.2.1 81 = .ok (.iload 6, 2) := by decide +kernel
theorem e_Bus_jump_83 : decode M_Bus_jump.2.1 83 = .ok (.isub, 1) := by decide +kernel
theorem e_Bus_jump_84 : decode M_Bus_jump.2.1 84 = .ok (.invokestatic 273, 3) := by decide +kernel
theorem e_Bus_jump_87 : decode M_Bus_jump.2.1 87 = .ok (.invokestatic 278, 3) := by decide +kernel
theorem e_Bus_jump_90 : decode M_Bus_jump.2.1 90 = .ok (.istore 4, 2) := by decide +kernel
theorem e_Bus_jump_92 : decode M_Bus_jump.2.1 92 = .ok (.iinc 5 1, 3) := by decide +kernel
theorem e_Bus_jump_95 : decode M_Bus_jump.2.1 95 = .ok (.goto (-56), 3) := by decide +kernel
theorem e_Bus_jump_98 : decode M_Bus_jump.2.1 98 = .ok (.iload 4, 2) := by decide +kernel
theorem e_Bus_jump_100 : decode M_Bus_jump.2.1 100 = .ok (.ireturn, 1) := by decide +kernel
theorem e_Bus_lost_0 : decode M_Bus_lost.2.1 0 = .ok (.aload_n 0, 1) := by decide +kernel
theorem e_Bus_lost_1 : decode M_Bus_lost.2.1 1 = .ok (.iload_n 1, 1) := by decide +kernel
theorem e_Bus_lost_2 : decode M_Bus_lost.2.1 2 = .ok (.invokevirtual 230, 3) := by decide +kernel
theorem e_Bus_lost_5 : decode M_Bus_lost.2.1 5 = .ok (.ifCond .ne 11, 3) := by decide +kernel
theorem e_Bus_lost_8 : decode M_Bus_lost.2.1 8 = .ok (.new 153, 3) := by decide +kernel
theorem e_Bus_lost_11 : decode M_Bus_lost.2.1 11 = .ok (.dup, 1) := by decide +kernel
theorem e_Bus_lost_12 : decode M_Bus_lost.2.1 12 = .ok (.invokespecial 155, 3) := by decide +kernel
theorem e_Bus_lost_15 : decode M_Bus_lost.2.1 15 = .ok (.athrow, 1) := by decide +kernel
theorem e_Bus_lost_16 : decode M_Bus_lost.2.1 16 = .ok (.iload_n 2, 1) := by decide +kernel
theorem e_Bus_lost_17 : decode M_Bus_lost.2.1 17 = .ok (.iconst 1, 1) := by decide +kernel
theorem e_Bus_lost_18 : decode M_Bus_lost.2.1 18 = .ok (.bipush 30, 2) := by decide +kernel
theorem e_Bus_lost_20 : decode M_Bus_lost.2.1 20 = .ok (.invokestatic 261, 3) := by decide +kernel
theorem e_Bus_lost_23 : decode M_Bus_lost.2.1 23 = .ok (.aload_n 0, 1) := by decide +kernel
theorem e_Bus_lost_24 : decode M_Bus_lost.2.1 24 = .ok (.iload_n 1, 1) := by decide +kernel
theorem e_Bus_lost_25 : decode M_Bus_lost.2.1 25 = .ok (.iload_n 2, 1) := by decide +kernel
theorem e_Bus_lost_26 : decode M_Bus_lost.2.1 26 = .ok (.aload_n 0, 1) := by decide +kernel
theorem e_Bus_lost_27 : decode M_Bus_lost.2.1 27 = .ok (.getfield 37, 3) := by decide +kernel
theorem e_Bus_lost_30 : decode M_Bus_lost.2.1 30 = .ok (.getfield 76, 3) := by decide +kernel
theorem e_Bus_lost_33 : decode M_Bus_lost.2.1 33 = .ok (.getfield 127, 3) := by decide +kernel
theorem e_Bus_lost_36 : decode M_Bus_lost.2.1 36 = .ok (.sipush 224, 3) := by decide +kernel
theorem e_Bus_lost_39 : decode M_Bus_lost.2.1 39 = .ok (.iaload, 1) := by decide +kernel
theorem e_Bus_lost_40 : decode M_Bus_lost.2.1 40 = .ok (.invokevirtual 281, 3) := by decide +kernel
theorem e_Bus_lost_43 : decode M_Bus_lost.2.1 43 = .ok (.ireturn, 1) := by decide +kernel
theorem e_Bus_toTune_0 : decode M_Bus_toTune.2.1 0 = .ok (.aload_n 0, 1) := by decide +kernel
theorem e_Bus_toTune_1 : decode M_Bus_toTune.2.1 1 = .ok (.iload_n 1, 1) := by decide +kernel
theorem e_Bus_toTune_2 : decode M_Bus_toTune.2.1 2 = .ok (.invokevirtual 156, 3) := by decide +kernel
theorem e_Bus_toTune_5 : decode M_Bus_toTune.2.1 5 = .ok (.aload_n 0, 1) := by decide +kernel
theorem e_Bus_toTune_6 : decode M_Bus_toTune.2.1 6 = .ok (.getfield 23, 3) := by decide +kernel
theorem e_Bus_toTune_9 : decode M_Bus_toTune.2.1 9 = .ok (.getfield 159, 3) := by decide +kernel
theorem e_Bus_toTune_12 : decode M_Bus_toTune.2.1 12 = .ok (.iload_n 1, 1) := by decide +kernel
theorem e_Bus_toTune_13 : decode M_Bus_toTune.2.1 13 = .ok (.iaload, 1) := by decide +kernel
theorem e_Bus_toTune_14 : decode M_Bus_toTune.2.1 14 = .ok (.iconst 1, 1) := by decide +kernel
theorem e_Bus_toTune_15 : decode M_Bus_toTune.2.1 15 = .ok (.if_icmp .eq 11, 3) := by decide +kernel
theorem e_Bus_toTune_18 : decode M_Bus_toTune.2.1 18 = .ok (.new 153, 3) := by decide +kernel
theorem e_Bus_toTune_21 : decode M_Bus_toTune.2.1 21 = .ok (.dup, 1) := by decide +kernel
theorem e_Bus_toTune_22 : decode M_Bus_toTune.2.1 22 = .ok (.invokespecial 155, 3) := by decide +kernel
theorem e_Bus_toTune_25 : decode M_Bus_toTune.2.1 25 = .ok (.athrow, 1) := by decide +kernel
theorem e_Bus_toTune_26 : decode M_Bus_toTune.2.1 26 = .ok (.iload_n 2, 1) := by decide +kernel
theorem e_Bus_toTune_27 : decode M_Bus_toTune.2.1 27 = .ok (.iconst 0, 1) := by decide +kernel
theorem e_Bus_toTune_28 : decode M_Bus_toTune.2.1 28 = .ok (.sipush 1000, 3) := by decide +kernel
theorem e_Bus_toTune_31 : decode M_Bus_toTune.2.1 31 = .ok (.invokestatic 261, 3) := by decide +kernel
theorem e_Bus_toTune_34 : decode M_Bus_toTune.2.1 34 = .ok (.iload_n 3, 1) := by decide +kernel
theorem e_Bus_toTune_35 : decode M_Bus_toTune.2.1 35 = .ok (.iconst 1, 1) := by decide +kernel
theorem e_Bus_toTune_36 : decode M_Bus_toTune.2.1 36 = .ok (.bipush 30, 2) := by decide +kernel
theorem e_Bus_toTune_38 : decode M_Bus_toTune.2.1 38 = .ok (.invokestatic 261, 3) := by decide +kernel
theorem e_Bus_toTune_41 : decode M_Bus_toTune.2.1 41 = .ok (.sipush 300, 3) := by decide +kernel
theorem e_Bus_toTune_44 : decode M_Bus_toTune.2.1 44 = .ok (.istore 4, 2) := by decide +kernel
theorem e_Bus_toTune_46 : decode M_Bus_toTune.2.1 46 = .ok (.iload 4, 2) := by decide +kernel
theorem e_Bus_toTune_48 : decode M_Bus_toTune.2.1 48 = .ok (.ifCond .lt 24, 3) := by decide +kernel
theorem e_Bus_toTune_51 : decode M_Bus_toTune.2.1 51 = .ok (.aload_n 0, 1) := by decide +kernel
theorem e_Bus_toTune_52 : decode M_Bus_toTune.2.1 52 = .ok (.iload_n 1, 1) := by decide +kernel
theorem e_Bus_toTune_53 : decode M_Bus_toTune.2.1 53 = .ok (.iload 4, 2) := by decide +kernel
theorem e_Bus_toTune_55 : decode M_Bus_toTune.2.1 55 = .ok (.iload_n 2, 1) := by decide +kernel
theorem e_Bus_toTune_56 : decode M_Bus_toTune.2.1 56 = .ok (.iload_n 3, 1) := by decide +kernel
theorem e_Bus_toTune_57 : decode M_Bus_toTune.2.1 57 = .ok (.invokevirtual 285, 3) := by decide +kernel
theorem e_Bus_toTune_60 : decode M_Bus_toTune.2.1 60 = .ok (.ifCond .eq 6, 3) := by decide +kernel
theorem e_Bus_toTune_63 : decode M_Bus_toTune.2.1 63 = .ok (.iload 4, 2) := by decide +kernel
theorem e_Bus_toTune_65 : decode M_Bus_toTune.2.1 65 = .ok (.ireturn, 1) := by decide +kernel
theorem e_Bus_toTune_66 : decode M_Bus_toTune.2.1 66 = .ok (.iinc 4 (-1), 3) := by decide +kernel
theorem e_Bus_toTune_69 : decode M_Bus_toTune.2.1 69 = .ok (.goto (-23), 3) := by decide +kernel
theorem e_Bus_toTune_72 : decode M_Bus_toTune.2.1 72 = .ok (.iconst (-1), 1) := by decide +kernel
theorem e_Bus_toTune_73 : decode M_Bus_toTune.2.1 73 = .ok (.ireturn, 1) := by decide +kernel
theorem e_Bus_staysBelow_0 : decode M_Bus_staysBelow.2.1 0 = .ok (.iload_n 1, 1) := by decide +kernel
theorem e_Bus_staysBelow_1 : decode M_Bus_staysBelow.2.1 1 = .ok (.bipush 9, 2) := by decide +kernel
theorem e_Bus_staysBelow_3 : decode M_Bus_staysBelow.2.1 3 = .ok (.imul, 1) := by decide +kernel
theorem e_Bus_staysBelow_4 : decode M_Bus_staysBelow.2.1 4 = .ok (.istore 5, 2) := by decide +kernel
theorem e_Bus_staysBelow_6 : decode M_Bus_staysBelow.2.1 6 = .ok (.aload_n 0, 1) := by decide +kernel
theorem e_Bus_staysBelow_7 : decode M_Bus_staysBelow.2.1 7 = .ok (.getfield 23, 3) := by decide +kernel
theorem e_Bus_staysBelow_10 : decode M_Bus_staysBelow.2.1 10 = .ok (.iload_n 1, 1) := by decide +kernel
theorem e_Bus_staysBelow_11 : decode M_Bus_staysBelow.2.1 11 = .ok (.iconst 0, 1) := by decide +kernel
theorem e_Bus_staysBelow_12 : decode M_Bus_staysBelow.2.1 12 = .ok (.invokevirtual 289, 3) := by decide +kernel
theorem e_Bus_staysBelow_15 : decode M_Bus_staysBelow.2.1 15 = .ok (.istore 6, 2) := by decide +kernel
theorem e_Bus_staysBelow_17 : decode M_Bus_staysBelow.2.1 17 = .ok (.aload_n 0, 1) := by decide +kernel
theorem e_Bus_staysBelow_18 : decode M_Bus_staysBelow.2.1 18 = .ok (.getfield 51, 3) := by decide +kernel
theorem e_Bus_staysBelow_21 : decode M_Bus_staysBelow.2.1 21 = .ok (.aload_n 0, 1) := by decide +kernel
theorem e_Bus_staysBelow_22 : decode M_Bus_staysBelow.2.1 22 = .ok (.getfield 37, 3) := by decide +kernel
theorem e_Bus_staysBelow_25 : decode M_Bus_staysBelow.2.1 25 = .ok (.getfield 76, 3) := by decide +kernel
theorem e_Bus_staysBelow_28 : decode M_Bus_staysBelow.2.1 28 = .ok (.invokevirtual 265, 3) := by decide +kernel
theorem e_Bus_staysBelow_31 : decode M_Bus_staysBelow.2.1 31 = .ok (.aload_n 0, 1) := by decide +kernel
theorem e_Bus_staysBelow_32 : decode M_Bus_staysBelow.2.1 32 = .ok (.getfield 51, 3) := by decide +kernel
theorem e_Bus_staysBelow_35 : decode M_Bus_staysBelow.2.1 35 = .ok (.getfield 127, 3) := by decide +kernel
theorem e_Bus_staysBelow_38 : decode M_Bus_staysBelow.2.1 38 = .ok (.iload 5, 2) := by decide +kernel
theorem e_Bus_staysBelow_40 : decode M_Bus_staysBelow.2.1 40 = .ok (.bipush 8, 2) := by decide +kernel
theorem e_Bus_staysBelow_42 : decode M_Bus_staysBelow.2.1 42 = .ok (.iadd, 1) := by decide +kernel
theorem e_Bus_staysBelow_43 : decode M_Bus_staysBelow.2.1 43 = .ok (.iload_n 2, 1) := by decide +kernel
theorem e_Bus_staysBelow_44 : decode M_Bus_staysBelow.2.1 44 = .ok (.iastore, 1) := by decide +kernel
theorem e_Bus_staysBelow_45 : decode M_Bus_staysBelow.2.1 45 = .ok (.iconst 0, 1) := by decide +kernel
theorem e_Bus_staysBelow_46 : decode M_Bus_staysBelow.2.1 46 = .ok (.istore 7, 2) := by decide +kernel
theorem e_Bus_staysBelow_48 : decode M_Bus_staysBelow.2.1 48 = .ok (.iload 7, 2) := by decide +kernel
theorem e_Bus_staysBelow_50 : decode M_Bus_staysBelow.2.1 50 = .ok (.iload 4, 2) := by decide +kernel
theorem e_Bus_staysBelow_52 : decode M_Bus_staysBelow.2.1 52 = .ok (.if_icmp .ge 54, 3) := by decide +kernel
theorem e_Bus_staysBelow_55 : decode M_Bus_staysBelow.2.1 55 = .ok (.aload_n 0, 1) := by decide +kernel
theorem e_Bus_staysBelow_56 : decode M_Bus_staysBelow.2.1 56 = .ok (.getfield 23, 3) := by decide +kernel
theorem e_Bus_staysBelow_59 : decode M_Bus_staysBelow.2.1 59 = .ok (.aload_n 0, 1) := by decide +kernel
theorem e_Bus_staysBelow_60 : decode M_Bus_staysBelow.2.1 60 = .ok (.getfield 51, 3) := by decide +kernel
theorem e_Bus_staysBelow_63 : decode M_Bus_staysBelow.2.1 63 = .ok (.getfield 127, 3) := by decide +kernel
theorem e_Bus_staysBelow_66 : decode M_Bus_staysBelow.2.1 66 = .ok (.invokestatic 269, 3) := by decide +kernel
theorem e_Bus_staysBelow_69 : decode M_Bus_staysBelow.2.1 69 = .ok (.aload_n 0, 1) := by decide +kernel
theorem e_Bus_staysBelow_70 : decode M_Bus_staysBelow.2.1 70 = .ok (.getfield 51, 3) := by decide +kernel
theorem e_Bus_staysBelow_73 : decode M_Bus_staysBelow.2.1 73 = .ok (.getfield 127, 3) := by decide +kernel
theorem e_Bus_staysBelow_76 : decode M_Bus_staysBelow.2.1 76 = .ok (.iload 6, 2) := by decide +kernel
theorem e_Bus_staysBelow_78 : decode M_Bus_staysBelow.2.1 78 = .ok (.iconst 0, 1) := by decide +kernel
theorem e_Bus_staysBelow_79 : decode M_Bus_staysBelow.2.1 79 = .ok (.iadd, 1) := by decide +kernel
theorem e_Bus_staysBelow_80 : decode M_Bus_staysBelow.2.1 80 = .ok (.iaload, 1) := by decide +kernel
theorem e_Bus_staysBelow_81 : decode M_Bus_staysBelow.2.1 81 = .ok (.aload_n 0, 1) := by decide +kernel
theorem e_Bus_staysBelow_82 : decode M_Bus_staysBelow.2.1 82 = .ok (.getfield 51, 3) := by decide +kernel
theorem e_Bus_staysBelow_85 : decode M_Bus_staysBelow.2.1 85 = .ok (.getfield 127, 3) := by decide +kernel
theorem e_Bus_staysBelow_88 : decode M_Bus_staysBelow.2.1 88 = .ok (.iload 5, 2) := by decide +kernel
theorem e_Bus_staysBelow_90 : decode M_Bus_staysBelow.2.1 90 = .ok (.iconst 2, 1) := by decide +kernel
theorem e_Bus_staysBelow_91 : decode M_Bus_staysBelow.2.1 91 = .ok (.iadd, 1) := by decide +kernel
theorem e_Bus_staysBelow_92 : decode M_Bus_staysBelow.2.1 92 = .ok (.iaload, 1) := by decide +kernel
theorem e_Bus_staysBelow_93 : decode M_Bus_staysBelow.2.1 93 = .ok (.isub, 1) := by decide +kernel
theorem e_Bus_staysBelow_94 : decode M_Bus_staysBelow.2.1 94 = .ok (.iload_n 3, 1) := by decide +kernel
theorem e_Bus_staysBelow_95 : decode M_Bus_staysBelow.2.1 95 = .ok (.if_icmp .le 5, 3) := by decide +kernel
theorem e_Bus_staysBelow_98 : decode M_Bus_staysBelow.2.1 98 = .ok (.iconst 0, 1) := by decide +kernel
theorem e_Bus_staysBelow_99 : decode M_Bus_staysBelow.2.1 99 = .ok (.ireturn, 1) := by decide +kernel
theorem e_Bus_staysBelow_100 : decode M_Bus_staysBelow.2.1 100 = .ok (.iinc 7 1, 3) := by decide +kernel
theorem e_Bus_staysBelow_103 : decode M_Bus_staysBelow.2.1 103 = .ok (.goto (-55), 3) := by decide +kernel
theorem e_Bus_staysBelow_106 : decode M_Bus_staysBelow.2.1 106 = .ok (.iconst 1, 1) := by decide +kernel
theorem e_Bus_staysBelow_107 : decode M_Bus_staysBelow.2.1 107 = .ok (.ireturn, 1) := by decide +kernel
theorem e_Bus_slack_0 : decode M_Bus_slack.2.1 0 = .ok (.aload_n 0, 1) := by decide +kernel
theorem e_Bus_slack_1 : decode M_Bus_slack.2.1 1 = .ok (.iload_n 1, 1) := by decide +kernel
theorem e_Bus_slack_2 : decode M_Bus_slack.2.1 2 = .ok (.invokevirtual 156, 3) := by decide +kernel
theorem e_Bus_slack_5 : decode M_Bus_slack.2.1 5 = .ok (.bipush 50, 2) := by decide +kernel
theorem e_Bus_slack_7 : decode M_Bus_slack.2.1 7 = .ok (.istore_n 2, 1) := by decide +kernel
theorem e_Bus_slack_8 : decode M_Bus_slack.2.1 8 = .ok (.iload_n 2, 1) := by decide +kernel
theorem e_Bus_slack_9 : decode M_Bus_slack.2.1 9 = .ok (.ifCond .le 44, 3) := by decide +kernel
theorem e_Bus_slack_12 : decode M_Bus_slack.2.1 12 = .ok (.aload_n 0, 1) := by decide +kernel
theorem e_Bus_slack_13 : decode M_Bus_slack.2.1 13 = .ok (.getfield 61, 3) := by decide +kernel
theorem e_Bus_slack_16 : decode M_Bus_slack.2.1 16 = .ok (.aload_n 0, 1) := by decide +kernel
theorem e_Bus_slack_17 : decode M_Bus_slack.2.1 17 = .ok (.getfield 23, 3) := by decide +kernel
theorem e_Bus_slack_20 : decode M_Bus_slack.2.1 20 = .ok (.iload_n 1, 1) := by decide +kernel
theorem e_Bus_slack_21 : decode M_Bus_slack.2.1 21 = .ok (.iload_n 2, 1) := by decide +kernel
theorem e_Bus_slack_22 : decode M_Bus_slack.2.1 22 = .ok (.invokevirtual 107, 3) := by decide +kernel
theorem e_Bus_slack_25 : decode M_Bus_slack.2.1 25 = .ok (.aload_n 0, 1) := by decide +kernel
theorem e_Bus_slack_26 : decode M_Bus_slack.2.1 26 = .ok (.getfield 61, 3) := by decide +kernel
theorem e_Bus_slack_29 : decode M_Bus_slack.2.1 29 = .ok (.getfield 145, 3) := by decide +kernel
theorem e_Bus_slack_32 : decode M_Bus_slack.2.1 32 = .ok (.aload_n 0, 1) := by decide +kernel
theorem e_Bus_slack_33 : decode M_Bus_slack.2.1 33 = .ok (.getfield 23, 3) := by decide +kernel
theorem e_Bus_slack_36 : decode M_Bus_slack.2.1 36 = .ok (.getfield 104, 3) := by decide +kernel
theorem e_Bus_slack_39 : decode M_Bus_slack.2.1 39 = .ok (.getfield 145, 3) := by decide +kernel
theorem e_Bus_slack_42 : decode M_Bus_slack.2.1 42 = .ok (.if_icmp .ne 5, 3) := by decide +kernel
theorem e_Bus_slack_45 : decode M_Bus_slack.2.1 45 = .ok (.iload_n 2, 1) := by decide +kernel
theorem e_Bus_slack_46 : decode M_Bus_slack.2.1 46 = .ok (.ireturn, 1) := by decide +kernel
theorem e_Bus_slack_47 : decode M_Bus_slack.2.1 47 = .ok (.iinc 2 (-1), 3) := by decide +kernel
theorem e_Bus_slack_50 : decode M_Bus_slack.2.1 50 = .ok (.goto (-42), 3) := by decide +kernel
theorem e_Bus_slack_53 : decode M_Bus_slack.2.1 53 = .ok (.iconst 0, 1) := by decide +kernel
theorem e_Bus_slack_54 : decode M_Bus_slack.2.1 54 = .ok (.ireturn, 1) := by decide +kernel
theorem e_Bus_look_0 : decode M_Bus_look.2.1 0 = .ok (.iload_n 1, 1) := by decide +kernel
theorem e_Bus_look_1 : decode M_Bus_look.2.1 1 = .ok (.ifCond .eq 16, 3) := by decide +kernel
theorem e_Bus_look_4 : decode M_Bus_look.2.1 4 = .ok (.iload_n 1, 1) := by decide +kernel
theorem e_Bus_look_5 : decode M_Bus_look.2.1 5 = .ok (.iconst 1, 1) := by decide +kernel
theorem e_Bus_look_6 : decode M_Bus_look.2.1 6 = .ok (.if_icmp .eq 11, 3) := by decide +kernel
theorem e_Bus_look_9 : decode M_Bus_look.2.1 9 = .ok (.new 153, 3) := by decide +kernel
theorem e_Bus_look_12 : decode M_Bus_look.2.1 12 = .ok (.dup, 1) := by decide +kernel
theorem e_Bus_look_13 : decode M_Bus_look.2.1 13 = .ok (.invokespecial 155, 3) := by decide +kernel
theorem e_Bus_look_16 : decode M_Bus_look.2.1 16 = .ok (.athrow, 1) := by decide +kernel
theorem e_Bus_look_17 : decode M_Bus_look.2.1 17 = .ok (.aload_n 0, 1) := by decide +kernel
theorem e_Bus_look_18 : decode M_Bus_look.2.1 18 = .ok (.aload_n 0, 1) := by decide +kernel
theorem e_Bus_look_19 : decode M_Bus_look.2.1 19 = .ok (.invokevirtual 312, 3) := by decide +kernel
theorem e_Bus_look_22 : decode M_Bus_look.2.1 22 = .ok (.invokevirtual 315, 3) := by decide +kernel
theorem e_Bus_look_25 : decode M_Bus_look.2.1 25 = .ok (.iconst (-1), 1) := by decide +kernel
theorem e_Bus_look_26 : decode M_Bus_look.2.1 26 = .ok (.istore_n 2, 1) := by decide +kernel
theorem e_Bus_look_27 : decode M_Bus_look.2.1 27 = .ok (.iconst 0, 1) := by decide +kernel
theorem e_Bus_look_28 : decode M_Bus_look.2.1 28 = .ok (.istore_n 3, 1) := by decide +kernel
theorem e_Bus_look_29 : decode M_Bus_look.2.1 29 = .ok (.iconst 0, 1) := by decide +kernel
theorem e_Bus_look_30 : decode M_Bus_look.2.1 30 = .ok (.istore 4, 2) := by decide +kernel
theorem e_Bus_look_32 : decode M_Bus_look.2.1 32 = .ok (.iload 4, 2) := by decide +kernel
theorem e_Bus_look_34 : decode M_Bus_look.2.1 34 = .ok (.aload_n 0, 1) := by decide +kernel
theorem e_Bus_look_35 : decode M_Bus_look.2.1 35 = .ok (.getfield 23, 3) := by decide +kernel
theorem e_Bus_look_38 : decode M_Bus_look.2.1 38 = .ok (.getfield 133, 3) := by decide +kernel
theorem e_Bus_look_41 : decode M_Bus_look.2.1 41 = .ok (.if_icmp .ge 33, 3) := by decide +kernel
theorem e_Bus_look_44 : decode M_Bus_look.2.1 44 = .ok (.aload_n 0, 1) := by decide +kernel
theorem e_Bus_look_45 : decode M_Bus_look.2.1 45 = .ok (.getfield 72, 3) := by decide +kernel
theorem e_Bus_look_48 : decode M_Bus_look.2.1 48 = .ok (.iload 4, 2) := by decide +kernel
theorem e_Bus_look_50 : decode M_Bus_look.2.1 50 = .ok (.iaload, 1) := by decide +kernel
theorem e_Bus_look_51 : decode M_Bus_look.2.1 51 = .ok (.invokestatic 318, 3) := by decide +kernel
theorem e_Bus_look_54 : decode M_Bus_look.2.1 54 = .ok (.istore 5, 2) := by decide +kernel
theorem e_Bus_look_56 : decode M_Bus_look.2.1 56 = .ok (.iload 5, 2) := by decide +kernel
theorem e_Bus_look_58 : decode M_Bus_look.2.1 58 = .ok (.iload_n 3, 1) := by decide +kernel
theorem e_Bus_look_59 : decode M_Bus_look.2.1 59 = .ok (.if_icmp .le 9, 3) := by decide +kernel
theorem e_Bus_look_62 : decode M_Bus_look.2.1 62 = .ok (.iload 4, 2) := by decide +kernel
theorem e_Bus_look_64 : decode M_Bus_look.2.1 64 = .ok (.istore_n 2, 1) := by decide +kernel
theorem e_Bus_look_65 : decode M_Bus_look.2.1 65 = .ok (.iload 5, 2) := by decide +kernel
theorem e_Bus_look_67 : decode M_Bus_look.2.1 67 = .ok (.istore_n 3, 1) := by decide +kernel
theorem e_Bus_look_68 : decode M_Bus_look.2.1 68 = .ok (.iinc 4 1, 3) := by decide +kernel
theorem e_Bus_look_71 : decode M_Bus_look.2.1 71 = .ok (.goto (-39), 3) := by decide +kernel
theorem e_Bus_look_74 : decode M_Bus_look.2.1 74 = .ok (.iload_n 1, 1) := by decide +kernel
theorem e_Bus_look_75 : decode M_Bus_look.2.1 75 = .ok (.ifCond .ne 7, 3) := by decide +kernel
theorem e_Bus_look_78 : decode M_Bus_look.2.1 78 = .ok (.iload_n 2, 1) := by decide +kernel
theorem e_Bus_look_79 : decode M_Bus_look.2.1 79 = .ok (.goto 4, 3) := by decide +kernel
theorem e_Bus_look_82 : decode M_Bus_look.2.1 82 = .ok (.iload_n 3, 1) := by decide +kernel
theorem e_Bus_look_83 : decode M_Bus_look.2.1 83 = .ok (.ireturn, 1) := by decide +kernel
theorem e_Bus_gatherModes_0 : decode M_Bus_gatherModes.2.1 0 = .ok (.iconst 0, 1) := by decide +kernel
theorem e_Bus_gatherModes_1 : decode M_Bus_gatherModes.2.1 1 = .ok (.istore_n 2, 1) := by decide +kernel
theorem e_Bus_gatherModes_2 : decode M_Bus_gatherModes.2.1 2 = .ok (.iload_n 2, 1) := by decide +kernel
theorem e_Bus_gatherModes_3 : decode M_Bus_gatherModes.2.1 3 = .ok (.bipush 10, 2) := by decide +kernel
theorem e_Bus_gatherModes_5 : decode M_Bus_gatherModes.2.1 5 = .ok (.if_icmp .ge 16, 3) := by decide +kernel
theorem e_Bus_gatherModes_8 : decode M_Bus_gatherModes.2.1 8 = .ok (.aload_n 0, 1) := by decide +kernel
theorem e_Bus_gatherModes_9 : decode M_Bus_gatherModes.2.1 9 = .ok (.getfield 72, 3) := by decide +kernel
theorem e_Bus_gatherModes_12 : decode M_Bus_gatherModes.2.1 12 = .ok (.iload_n 2, 1) := by decide +kernel
theorem e_Bus_gatherModes_13 : decode M_Bus_gatherModes.2.1 13 = .ok (.iconst 0, 1) := by decide +kernel
theorem e_Bus_gatherModes_14 : decode M_Bus_gatherModes.2.1 14 = .ok (.iastore, 1) := by decide +kernel
theorem e_Bus_gatherModes_15 : decode M_Bus_gatherModes.2.1 15 = .ok (.iinc 2 1, 3) := by decide +kernel
theorem e_Bus_gatherModes_18 : decode M_Bus_gatherModes.2.1 18 = .ok (.goto (-16), 3) := by decide +kernel
theorem e_Bus_gatherModes_21 : decode M_Bus_gatherModes.2.1 21 = .ok (.iconst 0, 1) := by decide +kernel
theorem e_Bus_gatherModes_22 : decode M_Bus_gatherModes.2.1 22 = .ok (.istore_n 2, 1) := by decide +kernel
theorem e_Bus_gatherModes_23 : decode M_Bus_gatherModes.2.1 23 = .ok (.iload_n 2, 1) := by decide +kernel
theorem e_Bus_gatherModes_24 : decode M_Bus_gatherModes.2.1 24 = .ok (.bipush 10, 2) := by decide +kernel
theorem e_Bus_gatherModes_26 : decode M_Bus_gatherModes.2.1 26 = .ok (.if_icmp .ge 79, 3) := by decide +kernel
theorem e_Bus_gatherModes_29 : decode M_Bus_gatherModes.2.1 29 = .ok (.iload_n 1, 1) := by decide +kernel
theorem e_Bus_gatherModes_30 : decode M_Bus_gatherModes.2.1 30 = .ok (.iload_n 2, 1) := by decide +kernel
theorem e_Bus_gatherModes_31 : decode M_Bus_gatherModes.2.1 31 = .ok (.invokestatic 323, 3) := by decide +kernel
theorem e_Bus_gatherModes_34 : decode M_Bus_gatherModes.2.1 34 = .ok (.ifCond .eq 65, 3) := by decide +kernel
theorem e_Bus_gatherModes_37 : decode M_Bus_gatherModes.2.1 37 = .ok (.aload_n 0, 1) := by decide +kernel
theorem e_Bus_gatherModes_38 : decode M_Bus_gatherModes.2.1 38 = .ok (.iload_n 2, 1) := by decide +kernel
theorem e_Bus_gatherModes_39 : decode M_Bus_gatherModes.2.1 39 = .ok (.invokevirtual 295, 3) := by decide +kernel
theorem e_Bus_gatherModes_42 : decode M_Bus_gatherModes.2.1 42 = .ok (.ifCond .eq 57, 3) := by decide +kernel
theorem e_Bus_gatherModes_45 : decode M_Bus_gatherModes.2.1 45 = .ok (.aload_n 0, 1) := by decide +kernel
theorem e_Bus_gatherModes_46 : decode M_Bus_gatherModes.2.1 46 = .ok (.aload_n 0, 1) := by decide +kernel
theorem e_Bus_gatherModes_47 : decode M_Bus_gatherModes.2.1 47 = .ok (.getfield 51, 3) := by decide +kernel
theorem e_Bus_gatherModes_50 : decode M_Bus_gatherModes.2.1 50 = .ok (.bipush 8, 2) := by decide +kernel
theorem e_Bus_gatherModes_52 : decode M_Bus_gatherModes.2.1 52 = .ok (.invokevirtual 249, 3) := by decide +kernel
theorem e_Bus_gatherModes_55 : decode M_Bus_gatherModes.2.1 55 = .ok (.iconst 0, 1) := by decide +kernel
theorem e_Bus_gatherModes_56 : decode M_Bus_gatherModes.2.1 56 = .ok (.istore_n 3, 1) := by decide +kernel
theorem e_Bus_gatherModes_57 : decode M_Bus_gatherModes.2.1 57 = .ok (.iload_n 3, 1) := by decide +kernel
theorem e_Bus_gatherModes_58 : decode M_Bus_gatherModes.2.1 58 = .ok (.aload_n 0, 1) := by decide +kernel
theorem e_Bus_gatherModes_59 : decode M_Bus_gatherModes.2.1 59 = .ok (.getfield 23, 3) := by decide +kernel
theorem e_Bus_gatherModes_62 : decode M_Bus_gatherModes.2.1 62 = .ok (.getfield 133, 3) := by decide +kernel
theorem e_Bus_gatherModes_65 : decode M_Bus_gatherModes.2.1 65 = .ok (.if_icmp .ge 34, 3) := by decide +kernel
theorem e_Bus_gatherModes_68 : decode M_Bus_gatherModes.2.1 68 = .ok (.aload_n 0, 1) := by decide +kernel
theorem e_Bus_gatherModes_69 : decode M_Bus_gatherModes.2.1 69 = .ok (.getfield 72, 3) := by decide +kernel
theorem e_Bus_gatherModes_72 : decode M_Bus_gatherModes.2.1 72 = .ok (.iload_n 3, 1) := by decide +kernel
theorem e_Bus_gatherModes_73 : decode M_Bus_gatherModes.2.1 73 = .ok (.dup2, 1) := by decide +kernel
theorem e_Bus_gatherModes_74 : decode M_Bus_gatherModes.2.1 74 = .ok (.iaload, 1) := by decide +kernel
theorem e_Bus_gatherModes_75 : decode M_Bus_gatherModes.2.1 75 = .ok (.iconst 1, 1) := by decide +kernel
theorem e_Bus_gatherModes_76 : decode M_Bus_gatherModes.2.1 76 = .ok (.aload_n 0, 1) := by decide +kernel
theorem e_Bus_gatherModes_77 : decode M_Bus_gatherModes.2.1 77 = .ok (.getfield 51, 3) := by decide +kernel
theorem e_Bus_gatherModes_80 : decode M_Bus_gatherModes.2.1 80 = .ok (.getfield 127, 3) := by decide +kernel
theorem e_Bus_gatherModes_83 : decode M_Bus_gatherModes.2.1 83 = .ok (.iload_n 3, 1) := by decide +kernel
theorem e_Bus_gatherModes_84 : decode M_Bus_gatherModes.2.1 84 = .ok (.bipush 9, 2) := by decide +kernel
theorem e_Bus_gatherModes_86 : decode M_Bus_gatherModes.2.1 86 = .ok (.imul, 1) := by decide +kernel
theorem e_Bus_gatherModes_87 : decode M_Bus_gatherModes.2.1 87 = .ok (.iconst 1, 1) := by decide +kernel
theorem e_Bus_gatherModes_88 : decode M_Bus_gatherModes.2.1 88 = .ok (.iadd, 1) := by decide +kernel
theorem e_Bus_gatherModes_89 : decode M_Bus_gatherModes.2.1 89 = .ok (.iaload, 1) := by decide +kernel
theorem e_Bus_gatherModes_90 : decode M_Bus_gatherModes.2.1 90 = .ok (.ishl, 1) := by decide +kernel
theorem e_Bus_gatherModes_91 : decode M_Bus_gatherModes.2.1 91 = .ok (.ior, 1) := by decide +kernel
theorem e_Bus_gatherModes_92 : decode M_Bus_gatherModes.2.1 92 = .ok (.iastore, 1) := by decide +kernel
theorem e_Bus_gatherModes_93 : decode M_Bus_gatherModes.2.1 93 = .ok (.iinc 3 1, 3) := by decide +kernel
theorem e_Bus_gatherModes_96 : decode M_Bus_gatherModes.2.1 96 = .ok (.goto (-39), 3) := by decide +kernel
theorem e_Bus_gatherModes_99 : decode M_Bus_gatherModes.2.1 99 = .ok (.iinc 2 1, 3) := by decide +kernel
theorem e_Bus_gatherModes_102 : decode M_Bus_gatherModes.2.1 102 = .ok (.goto (-79), 3) := by decide +kernel
theorem e_Bus_gatherModes_105 : decode M_Bus_gatherModes.2.1 105 = .ok (.return_, 1) := by decide +kernel
theorem e_Bus_years_0 : decode M_Bus_years.2.1 0 = .ok (.iload_n 3, 1) := by decide +kernel
theorem e_Bus_years_1 : decode M_Bus_years.2.1 1 = .ok (.ifCond .lt 8, 3) := by decide +kernel
theorem e_Bus_years_4 : decode M_Bus_years.2.1 4 = .ok (.iload_n 3, 1) := by decide +kernel
theorem e_Bus_years_5 : decode M_Bus_years.2.1 5 = .ok (.iconst 2, 1) := by decide +kernel
theorem e_Bus_years_6 : decode M_Bus_years.2.1 6 = .ok (.if_icmp .le 11, 3) := by decide +kernel
theorem e_Bus_years_9 : decode M_Bus_years.2.1 9 = .ok (.new 153, 3) := by decide +kernel
theorem e_Bus_years_12 : decode M_Bus_years.2.1 12 = .ok (.dup, 1) := by decide +kernel
theorem e_Bus_years_13 : decode M_Bus_years.2.1 13 = .ok (.invokespecial 155, 3) := by decide +kernel
theorem e_Bus_years_16 : decode M_Bus_years.2.1 16 = .ok (.athrow, 1) := by decide +kernel
theorem e_Bus_years_17 : decode M_Bus_years.2.1 17 = .ok (.iload_n 2, 1) := by decide +kernel
theorem e_Bus_years_18 : decode M_Bus_years.2.1 18 = .ok (.iconst 0, 1) := by decide +kernel
theorem e_Bus_years_19 : decode M_Bus_years.2.1 19 = .ok (.bipush 30, 2) := by decide +kernel
theorem e_Bus_years_21 : decode M_Bus_years.2.1 21 = .ok (.invokestatic 261, 3) := by decide +kernel
theorem e_Bus_years_24 : decode M_Bus_years.2.1 24 = .ok (.aload_n 0, 1) := by decide +kernel
theorem e_Bus_years_25 : decode M_Bus_years.2.1 25 = .ok (.getfield 51, 3) := by decide +kernel
theorem e_Bus_years_28 : decode M_Bus_years.2.1 28 = .ok (.aload_n 0, 1) := by decide +kernel
theorem e_Bus_years_29 : decode M_Bus_years.2.1 29 = .ok (.getfield 37, 3) := by decide +kernel
theorem e_Bus_years_32 : decode M_Bus_years.2.1 32 = .ok (.getfield 76, 3) := by decide +kernel
theorem e_Bus_years_35 : decode M_Bus_years.2.1 35 = .ok (.invokevirtual 265, 3) := by decide +kernel
theorem e_Bus_years_38 : decode M_Bus_years.2.1 38 = .ok (.aload_n 0, 1) := by decide +kernel
theorem e_Bus_years_39 : decode M_Bus_years.2.1 39 = .ok (.getfield 68, 3) := by decide +kernel
theorem e_Bus_years_42 : decode M_Bus_years.2.1 42 = .ok (.aload_n 0, 1) := by decide +kernel
theorem e_Bus_years_43 : decode M_Bus_years.2.1 43 = .ok (.getfield 23, 3) := by decide +kernel
theorem e_Bus_years_46 : decode M_Bus_years.2.1 46 = .ok (.aload_n 0, 1) := by decide +kernel
theorem e_Bus_years_47 : decode M_Bus_years.2.1 47 = .ok (.getfield 51, 3) := by decide +kernel
theorem e_Bus_years_50 : decode M_Bus_years.2.1 50 = .ok (.iload_n 1, 1) := by decide +kernel
theorem e_Bus_years_51 : decode M_Bus_years.2.1 51 = .ok (.iload_n 2, 1) := by decide +kernel
theorem e_Bus_years_52 : decode M_Bus_years.2.1 52 = .ok (.invokevirtual 327, 3) := by decide +kernel
theorem e_Bus_years_55 : decode M_Bus_years.2.1 55 = .ok (.iload_n 3, 1) := by decide +kernel
theorem e_Bus_years_56 : decode M_Bus_years.2.1 56 = .ok (.iconst 1, 1) := by decide +kernel
theorem e_Bus_years_57 : decode M_Bus_years.2.1 57 = .ok (.if_icmp .ne 15, 3) := by decide +kernel
theorem e_Bus_years_60 : decode M_Bus_years.2.1 60 = .ok (.aload_n 0, 1) := by decide +kernel
theorem e_Bus_years_61 : decode M_Bus_years.2.1 61 = .ok (.getfield 51, 3) := by decide +kernel
theorem e_Bus_years_64 : decode M_Bus_years.2.1 64 = .ok (.getfield 127, 3) := by decide +kernel
theorem e_Bus_years_67 : decode M_Bus_years.2.1 67 = .ok (.sipush 220, 3) := by decide +kernel
theorem e_Bus_years_70 : decode M_Bus_years.2.1 70 = .ok (.iaload, 1) := by decide +kernel
theorem e_Bus_years_71 : decode M_Bus_years.2.1 71 = .ok (.ireturn, 1) := by decide +kernel
theorem e_Bus_years_72 : decode M_Bus_years.2.1 72 = .ok (.iload_n 3, 1) := by decide +kernel
theorem e_Bus_years_73 : decode M_Bus_years.2.1 73 = .ok (.iconst 2, 1) := by decide +kernel
theorem e_Bus_years_74 : decode M_Bus_years.2.1 74 = .ok (.if_icmp .ne 13, 3) := by decide +kernel
theorem e_Bus_years_77 : decode M_Bus_years.2.1 77 = .ok (.aload_n 0, 1) := by decide +kernel
theorem e_Bus_years_78 : decode M_Bus_years.2.1 78 = .ok (.getfield 68, 3) := by decide +kernel
theorem e_Bus_years_81 : decode M_Bus_years.2.1 81 = .ok (.getfield 331, 3) := by decide +kernel
theorem e_Bus_years_84 : decode M_Bus_years.2.1 84 = .ok (.goto 17, 3) := by decide +kernel
theorem e_Bus_years_87 : decode M_Bus_years.2.1 87 = .ok (.aload_n 0, 1) := by decide +kernel
theorem e_Bus_years_88 : decode M_Bus_years.2.1 88 = .ok (.getfield 51, 3) := by decide +kernel
theorem e_Bus_years_91 : decode M_Bus_years.2.1 91 = .ok (.aload_n 0, 1) := by decide +kernel
theorem e_Bus_years_92 : decode M_Bus_years.2.1 92 = .ok (.getfield 23, 3) := by decide +kernel
theorem e_Bus_years_95 : decode M_Bus_years.2.1 95 = .ok (.getfield 133, 3) := by decide +kernel
theorem e_Bus_years_98 : decode M_Bus_years.2.1 98 = .ok (.invokevirtual 334, 3) := by decide +kernel
theorem e_Bus_years_101 : decode M_Bus_years.2.1 101 = .ok (.ireturn, 1) := by decide +kernel
