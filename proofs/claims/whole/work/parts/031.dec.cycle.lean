/-! instructions of Cycle (written by wip/whole/gen_dec.py) -/
theorem e_Cycle_goBy_0 : decode M_Cycle_goBy.2.1 0 = .ok (.aload_n 0, 1) := by decide +kernel
theorem e_Cycle_goBy_1 : decode M_Cycle_goBy.2.1 1 = .ok (.aload_n 1, 1) := by decide +kernel
theorem e_Cycle_goBy_2 : decode M_Cycle_goBy.2.1 2 = .ok (.invokestatic 9, 3) := by decide +kernel
theorem e_Cycle_goBy_5 : decode M_Cycle_goBy.2.1 5 = .ok (.aload_n 0, 1) := by decide +kernel
theorem e_Cycle_goBy_6 : decode M_Cycle_goBy.2.1 6 = .ok (.aload_n 1, 1) := by decide +kernel
theorem e_Cycle_goBy_7 : decode M_Cycle_goBy.2.1 7 = .ok (.invokestatic 15, 3) := by decide +kernel
theorem e_Cycle_goBy_10 : decode M_Cycle_goBy.2.1 10 = .ok (.iconst 0, 1) := by decide +kernel
theorem e_Cycle_goBy_11 : decode M_Cycle_goBy.2.1 11 = .ok (.istore_n 2, 1) := by decide +kernel
theorem e_Cycle_goBy_12 : decode M_Cycle_goBy.2.1 12 = .ok (.iload_n 2, 1) := by decide +kernel
theorem e_Cycle_goBy_13 : decode M_Cycle_goBy.2.1 13 = .ok (.aload_n 0, 1) := by decide +kernel
theorem e_Cycle_goBy_14 : decode M_Cycle_goBy.2.1 14 = .ok (.getfield 18, 3) := by decide +kernel
theorem e_Cycle_goBy_17 : decode M_Cycle_goBy.2.1 17 = .ok (.if_icmp .ge 83, 3) := by decide +kernel
theorem e_Cycle_goBy_20 : decode M_Cycle_goBy.2.1 20 = .ok (.aload_n 0, 1) := by decide +kernel
theorem e_Cycle_goBy_21 : decode M_Cycle_goBy.2.1 21 = .ok (.getfield 24, 3) := by decide +kernel
theorem e_Cycle_goBy_24 : decode M_Cycle_goBy.2.1 24 = .ok (.getfield 28, 3) := by decide +kernel
theorem e_Cycle_goBy_27 : decode M_Cycle_goBy.2.1 27 = .ok (.iload_n 2, 1) := by decide +kernel
theorem e_Cycle_goBy_28 : decode M_Cycle_goBy.2.1 28 = .ok (.iaload, 1) := by decide +kernel
theorem e_Cycle_goBy_29 : decode M_Cycle_goBy.2.1 29 = .ok (.istore_n 3, 1) := by decide +kernel
theorem e_Cycle_goBy_30 : decode M_Cycle_goBy.2.1 30 = .ok (.iconst 0, 1) := by decide +kernel
theorem e_Cycle_goBy_31 : decode M_Cycle_goBy.2.1 31 = .ok (.istore 4, 2) := by decide +kernel
theorem e_Cycle_goBy_33 : decode M_Cycle_goBy.2.1 33 = .ok (.iload 4, 2) := by decide +kernel
theorem e_Cycle_goBy_35 : decode M_Cycle_goBy.2.1 35 = .ok (.iconst 3, 1) := by decide +kernel
theorem e_Cycle_goBy_36 : decode M_Cycle_goBy.2.1 36 = .ok (.if_icmp .ge 35, 3) := by decide +kernel
theorem e_Cycle_goBy_39 : decode M_Cycle_goBy.2.1 39 = .ok (.aload_n 0, 1) := by decide +kernel
theorem e_Cycle_goBy_40 : decode M_Cycle_goBy.2.1 40 = .ok (.getfield 34, 3) := by decide +kernel
theorem e_Cycle_goBy_43 : decode M_Cycle_goBy.2.1 43 = .ok (.iload_n 3, 1) := by decide +kernel
theorem e_Cycle_goBy_44 : decode M_Cycle_goBy.2.1 44 = .ok (.iconst 3, 1) := by decide +kernel
theorem e_Cycle_goBy_45 : decode M_Cycle_goBy.2.1 45 = .ok (.imul, 1) := by decide +kernel
theorem e_Cycle_goBy_46 : decode M_Cycle_goBy.2.1 46 = .ok (.iload 4, 2) := by decide +kernel
theorem e_Cycle_goBy_48 : decode M_Cycle_goBy.2.1 48 = .ok (.iadd, 1) := by decide +kernel
theorem e_Cycle_goBy_49 : decode M_Cycle_goBy.2.1 49 = .ok (.iaload, 1) := by decide +kernel
theorem e_Cycle_goBy_50 : decode M_Cycle_goBy.2.1 50 = .ok (.istore 5, 2) := by decide +kernel
theorem e_Cycle_goBy_52 : decode M_Cycle_goBy.2.1 52 = .ok (.iload 5, 2) := by decide +kernel
theorem e_Cycle_goBy_54 : decode M_Cycle_goBy.2.1 54 = .ok (.iconst (-1), 1) := by decide +kernel
theorem e_Cycle_goBy_55 : decode M_Cycle_goBy.2.1 55 = .ok (.if_icmp .eq 10, 3) := by decide +kernel
theorem e_Cycle_goBy_58 : decode M_Cycle_goBy.2.1 58 = .ok (.aload_n 0, 1) := by decide +kernel
theorem e_Cycle_goBy_59 : decode M_Cycle_goBy.2.1 59 = .ok (.aload_n 1, 1) := by decide +kernel
theorem e_Cycle_goBy_60 : decode M_Cycle_goBy.2.1 60 = .ok (.iload 5, 2) := by decide +kernel
theorem e_Cycle_goBy_62 : decode M_Cycle_goBy.2.1 62 = .ok (.invokestatic 37, 3) := by decide +kernel
theorem e_Cycle_goBy_65 : decode M_Cycle_goBy.2.1 65 = .ok (.iinc 4 1, 3) := by decide +kernel
theorem e_Cycle_goBy_68 : decode M_Cycle_goBy.2.1 68 = .ok (.goto (-35), 3) := by decide +kernel
theorem e_Cycle_goBy_71 : decode M_Cycle_goBy.2.1 71 = .ok (.aload_n 1, 1) := by decide +kernel
theorem e_Cycle_goBy_72 : decode M_Cycle_goBy.2.1 72 = .ok (.sipush 220, 3) := by decide +kernel
theorem e_Cycle_goBy_75 : decode M_Cycle_goBy.2.1 75 = .ok (.iaload, 1) := by decide +kernel
theorem e_Cycle_goBy_76 : decode M_Cycle_goBy.2.1 76 = .ok (.aload_n 0, 1) := by decide +kernel
theorem e_Cycle_goBy_77 : decode M_Cycle_goBy.2.1 77 = .ok (.getfield 41, 3) := by decide +kernel
theorem e_Cycle_goBy_80 : decode M_Cycle_goBy.2.1 80 = .ok (.iload_n 3, 1) := by decide +kernel
theorem e_Cycle_goBy_81 : decode M_Cycle_goBy.2.1 81 = .ok (.iaload, 1) := by decide +kernel
theorem e_Cycle_goBy_82 : decode M_Cycle_goBy.2.1 82 = .ok (.invokestatic 44, 3) := by decide +kernel
theorem e_Cycle_goBy_85 : decode M_Cycle_goBy.2.1 85 = .ok (.ifCond .eq 9, 3) := by decide +kernel
theorem e_Cycle_goBy_88 : decode M_Cycle_goBy.2.1 88 = .ok (.aload_n 0, 1) := by decide +kernel
theorem e_Cycle_goBy_89 : decode M_Cycle_goBy.2.1 89 = .ok (.aload_n 1, 1) := by decide +kernel
theorem e_Cycle_goBy_90 : decode M_Cycle_goBy.2.1 90 = .ok (.iload_n 3, 1) := by decide +kernel
theorem e_Cycle_goBy_91 : decode M_Cycle_goBy.2.1 91 = .ok (.invokestatic 48, 3) := by decide +kernel
theorem e_Cycle_goBy_94 : decode M_Cycle_goBy.2.1 94 = .ok (.iinc 2 1, 3) := by decide +kernel
theorem e_Cycle_goBy_97 : decode M_Cycle_goBy.2.1 97 = .ok (.goto (-85), 3) := by decide +kernel
theorem e_Cycle_goBy_100 : decode M_Cycle_goBy.2.1 100 = .ok (.iconst 0, 1) := by decide +kernel
theorem e_Cycle_goBy_101 : decode M_Cycle_goBy.2.1 101 = .ok (.istore_n 2, 1) := by decide +kernel
theorem e_Cycle_goBy_102 : decode M_Cycle_goBy.2.1 102 = .ok (.iload_n 2, 1) := by decide +kernel
theorem e_Cycle_goBy_103 : decode M_Cycle_goBy.2.1 103 = .ok (.aload_n 0, 1) := by decide +kernel
theorem e_Cycle_goBy_104 : decode M_Cycle_goBy.2.1 104 = .ok (.getfield 51, 3) := by decide +kernel
theorem e_Cycle_goBy_107 : decode M_Cycle_goBy.2.1 107 = .ok (.getfield 55, 3) := by decide +kernel
theorem e_Cycle_goBy_110 : decode M_Cycle_goBy.2.1 110 = .ok (.if_icmp .ge 28, 3) := by decide +kernel
theorem e_Cycle_goBy_113 : decode M_Cycle_goBy.2.1 113 = .ok (.aload_n 0, 1) := by decide +kernel
theorem e_Cycle_goBy_114 : decode M_Cycle_goBy.2.1 114 = .ok (.getfield 51, 3) := by decide +kernel
theorem e_Cycle_goBy_117 : decode M_Cycle_goBy.2.1 117 = .ok (.getfield 60, 3) := by decide +kernel
theorem e_Cycle_goBy_120 : decode M_Cycle_goBy.2.1 120 = .ok (.iload_n 2, 1) := by decide +kernel
theorem e_Cycle_goBy_121 : decode M_Cycle_goBy.2.1 121 = .ok (.iaload, 1) := by decide +kernel
theorem e_Cycle_goBy_122 : decode M_Cycle_goBy.2.1 122 = .ok (.iconst 2, 1) := by decide +kernel
theorem e_Cycle_goBy_123 : decode M_Cycle_goBy.2.1 123 = .ok (.if_icmp .ne 9, 3) := by decide +kernel
theorem e_Cycle_goBy_126 : decode M_Cycle_goBy.2.1 126 = .ok (.aload_n 0, 1) := by decide +kernel
theorem e_Cycle_goBy_127 : decode M_Cycle_goBy.2.1 127 = .ok (.aload_n 1, 1) := by decide +kernel
theorem e_Cycle_goBy_128 : decode M_Cycle_goBy.2.1 128 = .ok (.iload_n 2, 1) := by decide +kernel
theorem e_Cycle_goBy_129 : decode M_Cycle_goBy.2.1 129 = .ok (.invokestatic 63, 3) := by decide +kernel
theorem e_Cycle_goBy_132 : decode M_Cycle_goBy.2.1 132 = .ok (.iinc 2 1, 3) := by decide +kernel
theorem e_Cycle_goBy_135 : decode M_Cycle_goBy.2.1 135 = .ok (.goto (-33), 3) := by decide +kernel
theorem e_Cycle_goBy_138 : decode M_Cycle_goBy.2.1 138 = .ok (.aload_n 1, 1) := by decide +kernel
theorem e_Cycle_goBy_139 : decode M_Cycle_goBy.2.1 139 = .ok (.sipush 223, 3) := by decide +kernel
theorem e_Cycle_goBy_142 : decode M_Cycle_goBy.2.1 142 = .ok (.dup2, 1) := by decide +kernel
theorem e_Cycle_goBy_143 : decode M_Cycle_goBy.2.1 143 = .ok (.iaload, 1) := by decide +kernel
theorem e_Cycle_goBy_144 : decode M_Cycle_goBy.2.1 144 = .ok (.iconst 1, 1) := by decide +kernel
theorem e_Cycle_goBy_145 : decode M_Cycle_goBy.2.1 145 = .ok (.iadd, 1) := by decide +kernel
theorem e_Cycle_goBy_146 : decode M_Cycle_goBy.2.1 146 = .ok (.iastore, 1) := by decide +kernel
theorem e_Cycle_goBy_147 : decode M_Cycle_goBy.2.1 147 = .ok (.return_, 1) := by decide +kernel
theorem e_Cycle_moveSensors_0 : decode M_Cycle_moveSensors.2.1 0 = .ok (.iconst 0, 1) := by decide +kernel
theorem e_Cycle_moveSensors_1 : decode M_Cycle_moveSensors.2.1 1 = .ok (.istore_n 2, 1) := by decide +kernel
theorem e_Cycle_moveSensors_2 : decode M_Cycle_moveSensors.2.1 2 = .ok (.iload_n 2, 1) := by decide +kernel
theorem e_Cycle_moveSensors_3 : decode M_Cycle_moveSensors.2.1 3 = .ok (.iconst 4, 1) := by decide +kernel
theorem e_Cycle_moveSensors_4 : decode M_Cycle_moveSensors.2.1 4 = .ok (.if_icmp .ge 90, 3) := by decide +kernel
theorem e_Cycle_moveSensors_7 : decode M_Cycle_moveSensors.2.1 7 = .ok (.aload_n 0, 1) := by decide +kernel
theorem e_Cycle_moveSensors_8 : decode M_Cycle_moveSensors.2.1 8 = .ok (.getfield 66, 3) := by decide +kernel
theorem e_Cycle_moveSensors_11 : decode M_Cycle_moveSensors.2.1 11 = .ok (.getfield 70, 3) := by decide +kernel
theorem e_Cycle_moveSensors_14 : decode M_Cycle_moveSensors.2.1 14 = .ok (.iload_n 2, 1) := by decide +kernel
theorem e_Cycle_moveSensors_15 : decode M_Cycle_moveSensors.2.1 15 = .ok (.iaload, 1) := by decide +kernel
theorem e_Cycle_moveSensors_16 : decode M_Cycle_moveSensors.2.1 16 = .ok (.istore_n 3, 1) := by decide +kernel
theorem e_Cycle_moveSensors_17 : decode M_Cycle_moveSensors.2.1 17 = .ok (.aload_n 0, 1) := by decide +kernel
theorem e_Cycle_moveSensors_18 : decode M_Cycle_moveSensors.2.1 18 = .ok (.getfield 66, 3) := by decide +kernel
theorem e_Cycle_moveSensors_21 : decode M_Cycle_moveSensors.2.1 21 = .ok (.getfield 75, 3) := by decide +kernel
theorem e_Cycle_moveSensors_24 : decode M_Cycle_moveSensors.2.1 24 = .ok (.iload_n 2, 1) := by decide +kernel
theorem e_Cycle_moveSensors_25 : decode M_Cycle_moveSensors.2.1 25 = .ok (.iaload, 1) := by decide +kernel
theorem e_Cycle_moveSensors_26 : decode M_Cycle_moveSensors.2.1 26 = .ok (.istore 4, 2) := by decide +kernel
theorem e_Cycle_moveSensors_28 : decode M_Cycle_moveSensors.2.1 28 = .ok (.iload_n 3, 1) := by decide +kernel
theorem e_Cycle_moveSensors_29 : decode M_Cycle_moveSensors.2.1 29 = .ok (.iconst (-1), 1) := by decide +kernel
theorem e_Cycle_moveSensors_30 : decode M_Cycle_moveSensors.2.1 30 = .ok (.if_icmp .eq 58, 3) := by decide +kernel
theorem e_Cycle_moveSensors_33 : decode M_Cycle_moveSensors.2.1 33 = .ok (.iload 4, 2) := by decide +kernel
theorem e_Cycle_moveSensors_35 : decode M_Cycle_moveSensors.2.1 35 = .ok (.ifCond .le 53, 3) := by decide +kernel
theorem e_Cycle_moveSensors_38 : decode M_Cycle_moveSensors.2.1 38 = .ok (.sipush 215, 3) := by decide +kernel
theorem e_Cycle_moveSensors_41 : decode M_Cycle_moveSensors.2.1 41 = .ok (.iload_n 2, 1) := by decide +kernel
theorem e_Cycle_moveSensors_42 : decode M_Cycle_moveSensors.2.1 42 = .ok (.iadd, 1) := by decide +kernel
theorem e_Cycle_moveSensors_43 : decode M_Cycle_moveSensors.2.1 43 = .ok (.istore 5, 2) := by decide +kernel
theorem e_Cycle_moveSensors_45 : decode M_Cycle_moveSensors.2.1 45 = .ok (.aload_n 0, 1) := by decide +kernel
theorem e_Cycle_moveSensors_46 : decode M_Cycle_moveSensors.2.1 46 = .ok (.aload_n 1, 1) := by decide +kernel
theorem e_Cycle_moveSensors_47 : decode M_Cycle_moveSensors.2.1 47 = .ok (.iload_n 3, 1) := by decide +kernel
theorem e_Cycle_moveSensors_48 : decode M_Cycle_moveSensors.2.1 48 = .ok (.invokestatic 78, 3) := by decide +kernel
theorem e_Cycle_moveSensors_51 : decode M_Cycle_moveSensors.2.1 51 = .ok (.aload_n 0, 1) := by decide +kernel
theorem e_Cycle_moveSensors_52 : decode M_Cycle_moveSensors.2.1 52 = .ok (.getfield 66, 3) := by decide +kernel
theorem e_Cycle_moveSensors_55 : decode M_Cycle_moveSensors.2.1 55 = .ok (.getfield 82, 3) := by decide +kernel
theorem e_Cycle_moveSensors_58 : decode M_Cycle_moveSensors.2.1 58 = .ok (.iload_n 2, 1) := by decide +kernel
theorem e_Cycle_moveSensors_59 : decode M_Cycle_moveSensors.2.1 59 = .ok (.iaload, 1) := by decide +kernel
theorem e_Cycle_moveSensors_60 : decode M_Cycle_moveSensors.2.1 60 = .ok (.imul, 1) := by decide +kernel
theorem e_Cycle_moveSensors_61 : decode M_Cycle_moveSensors.2.1 61 = .ok (.bipush 100, 2) := by decide +kernel
theorem e_Cycle_moveSensors_63 : decode M_Cycle_moveSensors.2.1 63 = .ok (.idiv, 1) := by decide +kernel
theorem e_Cycle_moveSensors_64 : decode M_Cycle_moveSensors.2.1 64 = .ok (.istore 6, 2) := by decide +kernel
theorem e_Cycle_moveSensors_66 : decode M_Cycle_moveSensors.2.1 66 = .ok (.aload_n 1, 1) := by decide +kernel
theorem e_Cycle_moveSensors_67 : decode M_Cycle_moveSensors.2.1 67 = .ok (.iload 5, 2) := by decide +kernel
theorem e_Cycle_moveSensors_69 : decode M_Cycle_moveSensors.2.1 69 = .ok (.aload_n 1, 1) := by decide +kernel
theorem e_Cycle_moveSensors_70 : decode M_Cycle_moveSensors.2.1 70 = .ok (.iload 5, 2) := by decide +kernel
theorem e_Cycle_moveSensors_72 : decode M_Cycle_moveSensors.2.1 72 = .ok (.iaload, 1) := by decide +kernel
theorem e_Cycle_moveSensors_73 : decode M_Cycle_moveSensors.2.1 73 = .ok (.iload 6, 2) := by decide +kernel
theorem e_Cycle_moveSensors_75 : decode M_Cycle_moveSensors.2.1 75 = .ok (.aload_n 1, 1) := by decide +kernel
theorem e_Cycle_moveSensors_76 : decode M_Cycle_moveSensors.2.1 76 = .ok (.iload 5, 2) := by decide +kernel
theorem e_Cycle_moveSensors_78 : decode M_Cycle_moveSensors.2.1 78 = .ok (.iaload, 1) := by decide +kernel
theorem e_Cycle_moveSensors_79 : decode M_Cycle_moveSensors.2.1 79 = .ok (.isub, 1) := by decide +kernel
theorem e_Cycle_moveSensors_80 : decode M_Cycle_moveSensors.2.1 80 = .ok (.iload 4, 2) := by decide +kernel
theorem e_Cycle_moveSensors_82 : decode M_Cycle_moveSensors.2.1 82 = .ok (.idiv, 1) := by decide +kernel
theorem e_Cycle_moveSensors_83 : decode M_Cycle_moveSensors.2.1 83 = .ok (.iadd, 1) := by decide +kernel
theorem e_Cycle_moveSensors_84 : decode M_Cycle_moveSensors.2.1 84 = .ok (.invokestatic 85, 3) := by decide +kernel
theorem e_Cycle_moveSensors_87 : decode M_Cycle_moveSensors.2.1 87 = .ok (.iastore, 1) := by decide +kernel
theorem e_Cycle_moveSensors_88 : decode M_Cycle_moveSensors.2.1 88 = .ok (.iinc 2 1, 3) := by decide +kernel
theorem e_Cycle_moveSensors_91 : decode M_Cycle_moveSensors.2.1 91 = .ok (.goto (-89), 3) := by decide +kernel
theorem e_Cycle_moveSensors_94 : decode M_Cycle_moveSensors.2.1 94 = .ok (.return_, 1) := by decide +kernel
theorem e_Cycle_outOf_0 : decode M_Cycle_outOf.2.1 0 = .ok (.aload_n 0, 1) := by decide +kernel
theorem e_Cycle_outOf_1 : decode M_Cycle_outOf.2.1 1 = .ok (.getfield 18, 3) := by decide +kernel
theorem e_Cycle_outOf_4 : decode M_Cycle_outOf.2.1 4 = .ok (.iconst 1, 1) := by decide +kernel
theorem e_Cycle_outOf_5 : decode M_Cycle_outOf.2.1 5 = .ok (.isub, 1) := by decide +kernel
theorem e_Cycle_outOf_6 : decode M_Cycle_outOf.2.1 6 = .ok (.istore_n 3, 1) := by decide +kernel
theorem e_Cycle_outOf_7 : decode M_Cycle_outOf.2.1 7 = .ok (.iload_n 3, 1) := by decide +kernel
theorem e_Cycle_outOf_8 : decode M_Cycle_outOf.2.1 8 = .ok (.ifCond .lt 38, 3) := by decide +kernel
theorem e_Cycle_outOf_11 : decode M_Cycle_outOf.2.1 11 = .ok (.aload_n 0, 1) := by decide +kernel
theorem e_Cycle_outOf_12 : decode M_Cycle_outOf.2.1 12 = .ok (.getfield 89, 3) := by decide +kernel
theorem e_Cycle_outOf_15 : decode M_Cycle_outOf.2.1 15 = .ok (.iload_n 3, 1) := by decide +kernel
theorem e_Cycle_outOf_16 : decode M_Cycle_outOf.2.1 16 = .ok (.iaload, 1) := by decide +kernel
theorem e_Cycle_outOf_17 : decode M_Cycle_outOf.2.1 17 = .ok (.iconst 2, 1) := by decide +kernel
theorem e_Cycle_outOf_18 : decode M_Cycle_outOf.2.1 18 = .ok (.if_icmp .ne 22, 3) := by decide +kernel
theorem e_Cycle_outOf_21 : decode M_Cycle_outOf.2.1 21 = .ok (.aload_n 0, 1) := by decide +kernel
theorem e_Cycle_outOf_22 : decode M_Cycle_outOf.2.1 22 = .ok (.getfield 92, 3) := by decide +kernel
theorem e_Cycle_outOf_25 : decode M_Cycle_outOf.2.1 25 = .ok (.iload_n 3, 1) := by decide +kernel
theorem e_Cycle_outOf_26 : decode M_Cycle_outOf.2.1 26 = .ok (.iaload, 1) := by decide +kernel
theorem e_Cycle_outOf_27 : decode M_Cycle_outOf.2.1 27 = .ok (.iload_n 2, 1) := by decide +kernel
theorem e_Cycle_outOf_28 : decode M_Cycle_outOf.2.1 28 = .ok (.if_icmp .ne 12, 3) := by decide +kernel
theorem e_Cycle_outOf_31 : decode M_Cycle_outOf.2.1 31 = .ok (.aload_n 1, 1) := by decide +kernel
theorem e_Cycle_outOf_32 : decode M_Cycle_outOf.2.1 32 = .ok (.iload_n 3, 1) := by decide +kernel
theorem e_Cycle_outOf_33 : decode M_Cycle_outOf.2.1 33 = .ok (.bipush 9, 2) := by decide +kernel
theorem e_Cycle_outOf_35 : decode M_Cycle_outOf.2.1 35 = .ok (.imul, 1) := by decide +kernel
theorem e_Cycle_outOf_36 : decode M_Cycle_outOf.2.1 36 = .ok (.iconst 3, 1) := by decide +kernel
theorem e_Cycle_outOf_37 : decode M_Cycle_outOf.2.1 37 = .ok (.iadd, 1) := by decide +kernel
theorem e_Cycle_outOf_38 : decode M_Cycle_outOf.2.1 38 = .ok (.iaload, 1) := by decide +kernel
theorem e_Cycle_outOf_39 : decode M_Cycle_outOf.2.1 39 = .ok (.ireturn, 1) := by decide +kernel
theorem e_Cycle_outOf_40 : decode M_Cycle_outOf.2.1 40 = .ok (.iinc 3 (-1), 3) := by decide +kernel
theorem e_Cycle_outOf_43 : decode M_Cycle_outOf.2.1 43 = .ok (.goto (-36), 3) := by decide +kernel
theorem e_Cycle_outOf_46 : decode M_Cycle_outOf.2.1 46 = .ok (.iconst 0, 1) := by decide +kernel
theorem e_Cycle_outOf_47 : decode M_Cycle_outOf.2.1 47 = .ok (.ireturn, 1) := by decide +kernel
theorem e_Cycle_within_0 : decode M_Cycle_within.2.1 0 = .ok (.iconst 0, 1) := by decide +kernel
theorem e_Cycle_within_1 : decode M_Cycle_within.2.1 1 = .ok (.sipush 1000, 3) := by decide +kernel
theorem e_Cycle_within_4 : decode M_Cycle_within.2.1 4 = .ok (.iload_n 0, 1) := by decide +kernel
theorem e_Cycle_within_5 : decode M_Cycle_within.2.1 5 = .ok (.invokestatic 112, 3) := by decide +kernel
theorem e_Cycle_within_8 : decode M_Cycle_within.2.1 8 = .ok (.invokestatic 155, 3) := by decide +kernel
theorem e_Cycle_within_11 : decode M_Cycle_within.2.1 11 = .ok (.ireturn, 1) := by decide +kernel
theorem e_Cycle_seekScheduler_0 : decode M_Cycle_seekScheduler.2.1 0 = .ok (.aload_n 1, 1) := by decide +kernel
theorem e_Cycle_seekScheduler_1 : decode M_Cycle_seekScheduler.2.1 1 = .ok (.sipush 221, 3) := by decide +kernel
theorem e_Cycle_seekScheduler_4 : decode M_Cycle_seekScheduler.2.1 4 = .ok (.iaload, 1) := by decide +kernel
theorem e_Cycle_seekScheduler_5 : decode M_Cycle_seekScheduler.2.1 5 = .ok (.iconst (-1), 1) := by decide +kernel
theorem e_Cycle_seekScheduler_6 : decode M_Cycle_seekScheduler.2.1 6 = .ok (.if_icmp .eq 4, 3) := by decide +kernel
theorem e_Cycle_seekScheduler_9 : decode M_Cycle_seekScheduler.2.1 9 = .ok (.return_, 1) := by decide +kernel
theorem e_Cycle_seekScheduler_10 : decode M_Cycle_seekScheduler.2.1 10 = .ok (.aload_n 1, 1) := by decide +kernel
theorem e_Cycle_seekScheduler_11 : decode M_Cycle_seekScheduler.2.1 11 = .ok (.sipush 222, 3) := by decide +kernel
theorem e_Cycle_seekScheduler_14 : decode M_Cycle_seekScheduler.2.1 14 = .ok (.iaload, 1) := by decide +kernel
theorem e_Cycle_seekScheduler_15 : decode M_Cycle_seekScheduler.2.1 15 = .ok (.ifCond .le 13, 3) := by decide +kernel
theorem e_Cycle_seekScheduler_18 : decode M_Cycle_seekScheduler.2.1 18 = .ok (.aload_n 1, 1) := by decide +kernel
theorem e_Cycle_seekScheduler_19 : decode M_Cycle_seekScheduler.2.1 19 = .ok (.sipush 222, 3) := by decide +kernel
theorem e_Cycle_seekScheduler_22 : decode M_Cycle_seekScheduler.2.1 22 = .ok (.dup2, 1) := by decide +kernel
theorem e_Cycle_seekScheduler_23 : decode M_Cycle_seekScheduler.2.1 23 = .ok (.iaload, 1) := by decide +kernel
theorem e_Cycle_seekScheduler_24 : decode M_Cycle_seekScheduler.2.1 24 = .ok (.iconst 1, 1) := by decide +kernel
theorem e_Cycle_seekScheduler_25 : decode M_Cycle_seekScheduler.2.1 25 = .ok (.isub, 1) := by decide +kernel
theorem e_Cycle_seekScheduler_26 : decode M_Cycle_seekScheduler.2.1 26 = .ok (.iastore, 1) := by decide +kernel
theorem e_Cycle_seekScheduler_27 : decode M_Cycle_seekScheduler.2.1 27 = .ok (.return_, 1) := by decide +kernel
theorem e_Cycle_seekScheduler_28 : decode M_Cycle_seekScheduler.2.1 28 = .ok (.aload_n 0, 1) := by decide +kernel
theorem e_Cycle_seekScheduler_29 : decode M_Cycle_seekScheduler.2.1 29 = .ok (.getfield 95, 3) := by decide +kernel
theorem e_Cycle_seekScheduler_32 : decode M_Cycle_seekScheduler.2.1 32 = .ok (.iconst 1, 1) := by decide +kernel
theorem e_Cycle_seekScheduler_33 : decode M_Cycle_seekScheduler.2.1 33 = .ok (.isub, 1) := by decide +kernel
theorem e_Cycle_seekScheduler_34 : decode M_Cycle_seekScheduler.2.1 34 = .ok (.istore_n 2, 1) := by decide +kernel
theorem e_Cycle_seekScheduler_35 : decode M_Cycle_seekScheduler.2.1 35 = .ok (.iload_n 2, 1) := by decide +kernel
theorem e_Cycle_seekScheduler_36 : decode M_Cycle_seekScheduler.2.1 36 = .ok (.ifCond .lt 27, 3) := by decide +kernel
theorem e_Cycle_seekScheduler_39 : decode M_Cycle_seekScheduler.2.1 39 = .ok (.aload_n 1, 1) := by decide +kernel
theorem e_Cycle_seekScheduler_40 : decode M_Cycle_seekScheduler.2.1 40 = .ok (.sipush 220, 3) := by decide +kernel
theorem e_Cycle_seekScheduler_43 : decode M_Cycle_seekScheduler.2.1 43 = .ok (.iaload, 1) := by decide +kernel
theorem e_Cycle_seekScheduler_44 : decode M_Cycle_seekScheduler.2.1 44 = .ok (.iload_n 2, 1) := by decide +kernel
theorem e_Cycle_seekScheduler_45 : decode M_Cycle_seekScheduler.2.1 45 = .ok (.invokestatic 44, 3) := by decide +kernel
theorem e_Cycle_seekScheduler_48 : decode M_Cycle_seekScheduler.2.1 48 = .ok (.ifCond .eq 9, 3) := by decide +kernel
theorem e_Cycle_seekScheduler_51 : decode M_Cycle_seekScheduler.2.1 51 = .ok (.aload_n 1, 1) := by decide +kernel
theorem e_Cycle_seekScheduler_52 : decode M_Cycle_seekScheduler.2.1 52 = .ok (.sipush 221, 3) := by decide +kernel
theorem e_Cycle_seekScheduler_55 : decode M_Cycle_seekScheduler.2.1 55 = .ok (.iload_n 2, 1) := by decide +kernel
theorem e_Cycle_seekScheduler_56 : decode M_Cycle_seekScheduler.2.1 56 = .ok (.iastore, 1) := by decide +kernel
theorem e_Cycle_seekScheduler_57 : decode M_Cycle_seekScheduler.2.1 57 = .ok (.iinc 2 (-1), 3) := by decide +kernel
theorem e_Cycle_seekScheduler_60 : decode M_Cycle_seekScheduler.2.1 60 = .ok (.goto (-25), 3) := by decide +kernel
theorem e_Cycle_seekScheduler_63 : decode M_Cycle_seekScheduler.2.1 63 = .ok (.return_, 1) := by decide +kernel
theorem e_Cycle_bringLink_0 : decode M_Cycle_bringLink.2.1 0 = .ok (.aload_n 0, 1) := by decide +kernel
theorem e_Cycle_bringLink_1 : decode M_Cycle_bringLink.2.1 1 = .ok (.getfield 51, 3) := by decide +kernel
theorem e_Cycle_bringLink_4 : decode M_Cycle_bringLink.2.1 4 = .ok (.getfield 98, 3) := by decide +kernel
theorem e_Cycle_bringLink_7 : decode M_Cycle_bringLink.2.1 7 = .ok (.iload_n 2, 1) := by decide +kernel
theorem e_Cycle_bringLink_8 : decode M_Cycle_bringLink.2.1 8 = .ok (.iaload, 1) := by decide +kernel
theorem e_Cycle_bringLink_9 : decode M_Cycle_bringLink.2.1 9 = .ok (.istore_n 3, 1) := by decide +kernel
theorem e_Cycle_bringLink_10 : decode M_Cycle_bringLink.2.1 10 = .ok (.bipush 90, 2) := by decide +kernel
theorem e_Cycle_bringLink_12 : decode M_Cycle_bringLink.2.1 12 = .ok (.iload_n 2, 1) := by decide +kernel
theorem e_Cycle_bringLink_13 : decode M_Cycle_bringLink.2.1 13 = .ok (.iconst 5, 1) := by decide +kernel
theorem e_Cycle_bringLink_14 : decode M_Cycle_bringLink.2.1 14 = .ok (.imul, 1) := by decide +kernel
theorem e_Cycle_bringLink_15 : decode M_Cycle_bringLink.2.1 15 = .ok (.iadd, 1) := by decide +kernel
theorem e_Cycle_bringLink_16 : decode M_Cycle_bringLink.2.1 16 = .ok (.istore 4, 2) := by decide +kernel
theorem e_Cycle_bringLink_18 : decode M_Cycle_bringLink.2.1 18 = .ok (.aload_n 1, 1) := by decide +kernel
theorem e_Cycle_bringLink_19 : decode M_Cycle_bringLink.2.1 19 = .ok (.aload_n 0, 1) := by decide +kernel
theorem e_Cycle_bringLink_20 : decode M_Cycle_bringLink.2.1 20 = .ok (.getfield 41, 3) := by decide +kernel
theorem e_Cycle_bringLink_23 : decode M_Cycle_bringLink.2.1 23 = .ok (.iload_n 3, 1) := by decide +kernel
theorem e_Cycle_bringLink_24 : decode M_Cycle_bringLink.2.1 24 = .ok (.iaload, 1) := by decide +kernel
theorem e_Cycle_bringLink_25 : decode M_Cycle_bringLink.2.1 25 = .ok (.aload_n 0, 1) := by decide +kernel
theorem e_Cycle_bringLink_26 : decode M_Cycle_bringLink.2.1 26 = .ok (.getfield 41, 3) := by decide +kernel
theorem e_Cycle_bringLink_29 : decode M_Cycle_bringLink.2.1 29 = .ok (.aload_n 0, 1) := by decide +kernel
theorem e_Cycle_bringLink_30 : decode M_Cycle_bringLink.2.1 30 = .ok (.getfield 51, 3) := by decide +kernel
theorem e_Cycle_bringLink_33 : decode M_Cycle_bringLink.2.1 33 = .ok (.getfield 101, 3) := by decide +kernel
theorem e_Cycle_bringLink_36 : decode M_Cycle_bringLink.2.1 36 = .ok (.iload_n 2, 1) := by decide +kernel
theorem e_Cycle_bringLink_37 : decode M_Cycle_bringLink.2.1 37 = .ok (.iaload, 1) := by decide +kernel
theorem e_Cycle_bringLink_38 : decode M_Cycle_bringLink.2.1 38 = .ok (.iaload, 1) := by decide +kernel
theorem e_Cycle_bringLink_39 : decode M_Cycle_bringLink.2.1 39 = .ok (.invokestatic 104, 3) := by decide +kernel
theorem e_Cycle_bringLink_42 : decode M_Cycle_bringLink.2.1 42 = .ok (.ifCond .ne 10, 3) := by decide +kernel
theorem e_Cycle_bringLink_45 : decode M_Cycle_bringLink.2.1 45 = .ok (.aload_n 1, 1) := by decide +kernel
theorem e_Cycle_bringLink_46 : decode M_Cycle_bringLink.2.1 46 = .ok (.iload 4, 2) := by decide +kernel
theorem e_Cycle_bringLink_48 : decode M_Cycle_bringLink.2.1 48 = .ok (.invokestatic 108, 3) := by decide +kernel
theorem e_Cycle_bringLink_51 : decode M_Cycle_bringLink.2.1 51 = .ok (.return_, 1) := by decide +kernel
theorem e_Cycle_bringLink_52 : decode M_Cycle_bringLink.2.1 52 = .ok (.iload_n 3, 1) := by decide +kernel
theorem e_Cycle_bringLink_53 : decode M_Cycle_bringLink.2.1 53 = .ok (.bipush 9, 2) := by decide +kernel
theorem e_Cycle_bringLink_55 : decode M_Cycle_bringLink.2.1 55 = .ok (.imul, 1) := by decide +kernel
theorem e_Cycle_bringLink_56 : decode M_Cycle_bringLink.2.1 56 = .ok (.istore 5, 2) := by decide +kernel
theorem e_Cycle_bringLink_58 : decode M_Cycle_bringLink.2.1 58 = .ok (.aload_n 1, 1) := by decide +kernel
theorem e_Cycle_bringLink_59 : decode M_Cycle_bringLink.2.1 59 = .ok (.iload 4, 2) := by decide +kernel
theorem e_Cycle_bringLink_61 : decode M_Cycle_bringLink.2.1 61 = .ok (.iconst 0, 1) := by decide +kernel
theorem e_Cycle_bringLink_62 : decode M_Cycle_bringLink.2.1 62 = .ok (.iadd, 1) := by decide +kernel
theorem e_Cycle_bringLink_63 : decode M_Cycle_bringLink.2.1 63 = .ok (.aload_n 1, 1) := by decide +kernel
theorem e_Cycle_bringLink_64 : decode M_Cycle_bringLink.2.1 64 = .ok (.iload 5, 2) := by decide +kernel
theorem e_Cycle_bringLink_66 : decode M_Cycle_bringLink.2.1 66 = .ok (.iconst 3, 1) := by decide +kernel
theorem e_Cycle_bringLink_67 : decode M_Cycle_bringLink.2.1 67 = .ok (.iadd, 1) := by decide +kernel
theorem e_Cycle_bringLink_68 : decode M_Cycle_bringLink.2.1 68 = .ok (.iaload, 1) := by decide +kernel
theorem e_Cycle_bringLink_69 : decode M_Cycle_bringLink.2.1 69 = .ok (.iastore, 1) := by decide +kernel
theorem e_Cycle_bringLink_70 : decode M_Cycle_bringLink.2.1 70 = .ok (.aload_n 1, 1) := by decide +kernel
theorem e_Cycle_bringLink_71 : decode M_Cycle_bringLink.2.1 71 = .ok (.iload 4, 2) := by decide +kernel
theorem e_Cycle_bringLink_73 : decode M_Cycle_bringLink.2.1 73 = .ok (.iconst 1, 1) := by decide +kernel
theorem e_Cycle_bringLink_74 : decode M_Cycle_bringLink.2.1 74 = .ok (.iadd, 1) := by decide +kernel
theorem e_Cycle_bringLink_75 : decode M_Cycle_bringLink.2.1 75 = .ok (.aload_n 1, 1) := by decide +kernel
theorem e_Cycle_bringLink_76 : decode M_Cycle_bringLink.2.1 76 = .ok (.iload 5, 2) := by decide +kernel
theorem e_Cycle_bringLink_78 : decode M_Cycle_bringLink.2.1 78 = .ok (.iconst 5, 1) := by decide +kernel
theorem e_Cycle_bringLink_79 : decode M_Cycle_bringLink.2.1 79 = .ok (.iadd, 1) := by decide +kernel
theorem e_Cycle_bringLink_80 : decode M_Cycle_bringLink.2.1 80 = .ok (.iaload, 1) := by decide +kernel
theorem e_Cycle_bringLink_81 : decode M_Cycle_bringLink.2.1 81 = .ok (.iastore, 1) := by decide +kernel
theorem e_Cycle_bringLink_82 : decode M_Cycle_bringLink.2.1 82 = .ok (.aload_n 1, 1) := by decide +kernel
theorem e_Cycle_bringLink_83 : decode M_Cycle_bringLink.2.1 83 = .ok (.iload 4, 2) := by decide +kernel
theorem e_Cycle_bringLink_85 : decode M_Cycle_bringLink.2.1 85 = .ok (.iconst 2, 1) := by decide +kernel
theorem e_Cycle_bringLink_86 : decode M_Cycle_bringLink.2.1 86 = .ok (.iadd, 1) := by decide +kernel
theorem e_Cycle_bringLink_87 : decode M_Cycle_bringLink.2.1 87 = .ok (.aload_n 1, 1) := by decide +kernel
theorem e_Cycle_bringLink_88 : decode M_Cycle_bringLink.2.1 88 = .ok (.iload 5, 2) := by decide +kernel
theorem e_Cycle_bringLink_90 : decode M_Cycle_bringLink.2.1 90 = .ok (.bipush 6, 2) := by decide +kernel
theorem e_Cycle_bringLink_92 : decode M_Cycle_bringLink.2.1 92 = .ok (.iadd, 1) := by decide +kernel
theorem e_Cycle_bringLink_93 : decode M_Cycle_bringLink.2.1 93 = .ok (.iaload, 1) := by decide +kernel
theorem e_Cycle_bringLink_94 : decode M_Cycle_bringLink.2.1 94 = .ok (.iastore, 1) := by decide +kernel
theorem e_Cycle_bringLink_95 : decode M_Cycle_bringLink.2.1 95 = .ok (.aload_n 1, 1) := by decide +kernel
theorem e_Cycle_bringLink_96 : decode M_Cycle_bringLink.2.1 96 = .ok (.iload 4, 2) := by decide +kernel
theorem e_Cycle_bringLink_98 : decode M_Cycle_bringLink.2.1 98 = .ok (.iconst 3, 1) := by decide +kernel
theorem e_Cycle_bringLink_99 : decode M_Cycle_bringLink.2.1 99 = .ok (.iadd, 1) := by decide +kernel
theorem e_Cycle_bringLink_100 : decode M_Cycle_bringLink.2.1 100 = .ok (.aload_n 1, 1) := by decide +kernel
theorem e_Cycle_bringLink_101 : decode M_Cycle_bringLink.2.1 101 = .ok (.iload 5, 2) := by decide +kernel
theorem e_Cycle_bringLink_103 : decode M_Cycle_bringLink.2.1 103 = .ok (.bipush 7, 2) := by decide +kernel
theorem e_Cycle_bringLink_105 : decode M_Cycle_bringLink.2.1 105 = .ok (.iadd, 1) := by decide +kernel
theorem e_Cycle_bringLink_106 : decode M_Cycle_bringLink.2.1 106 = .ok (.iaload, 1) := by decide +kernel
theorem e_Cycle_bringLink_107 : decode M_Cycle_bringLink.2.1 107 = .ok (.iastore, 1) := by decide +kernel
theorem e_Cycle_bringLink_108 : decode M_Cycle_bringLink.2.1 108 = .ok (.aload_n 1, 1) := by decide +kernel
theorem e_Cycle_bringLink_109 : decode M_Cycle_bringLink.2.1 109 = .ok (.iload 4, 2) := by decide +kernel
theorem e_Cycle_bringLink_111 : decode M_Cycle_bringLink.2.1 111 = .ok (.iconst 4, 1) := by decide +kernel
theorem e_Cycle_bringLink_112 : decode M_Cycle_bringLink.2.1 112 = .ok (.iadd, 1) := by decide +kernel
theorem e_Cycle_bringLink_113 : decode M_Cycle_bringLink.2.1 113 = .ok (.iconst 0, 1) := by decide +kernel
theorem e_Cycle_bringLink_114 : decode M_Cycle_bringLink.2.1 114 = .ok (.iastore, 1) := by decide +kernel
theorem e_Cycle_bringLink_115 : decode M_Cycle_bringLink.2.1 115 = .ok (.return_, 1) := by decide +kernel
theorem e_Cycle_carries_0 : decode M_Cycle_carries.2.1 0 = .ok (.aload_n 0, 1) := by decide +kernel
theorem e_Cycle_carries_1 : decode M_Cycle_carries.2.1 1 = .ok (.sipush 220, 3) := by decide +kernel
theorem e_Cycle_carries_4 : decode M_Cycle_carries.2.1 4 = .ok (.iaload, 1) := by decide +kernel
theorem e_Cycle_carries_5 : decode M_Cycle_carries.2.1 5 = .ok (.iload_n 2, 1) := by decide +kernel
theorem e_Cycle_carries_6 : decode M_Cycle_carries.2.1 6 = .ok (.invokestatic 44, 3) := by decide +kernel
theorem e_Cycle_carries_9 : decode M_Cycle_carries.2.1 9 = .ok (.ifCond .ne 5, 3) := by decide +kernel
theorem e_Cycle_carries_12 : decode M_Cycle_carries.2.1 12 = .ok (.iconst 0, 1) := by decide +kernel
theorem e_Cycle_carries_13 : decode M_Cycle_carries.2.1 13 = .ok (.ireturn, 1) := by decide +kernel
theorem e_Cycle_carries_14 : decode M_Cycle_carries.2.1 14 = .ok (.iload_n 1, 1) := by decide +kernel
theorem e_Cycle_carries_15 : decode M_Cycle_carries.2.1 15 = .ok (.iload_n 2, 1) := by decide +kernel
theorem e_Cycle_carries_16 : decode M_Cycle_carries.2.1 16 = .ok (.if_icmp .eq 24, 3) := by decide +kernel
theorem e_Cycle_carries_19 : decode M_Cycle_carries.2.1 19 = .ok (.aload_n 0, 1) := by decide +kernel
theorem e_Cycle_carries_20 : decode M_Cycle_carries.2.1 20 = .ok (.sipush 221, 3) := by decide +kernel
theorem e_Cycle_carries_23 : decode M_Cycle_carries.2.1 23 = .ok (.iaload, 1) := by decide +kernel
theorem e_Cycle_carries_24 : decode M_Cycle_carries.2.1 24 = .ok (.iconst (-1), 1) := by decide +kernel
theorem e_Cycle_carries_25 : decode M_Cycle_carries.2.1 25 = .ok (.if_icmp .eq 19, 3) := by decide +kernel
theorem e_Cycle_carries_28 : decode M_Cycle_carries.2.1 28 = .ok (.aload_n 0, 1) := by decide +kernel
theorem e_Cycle_carries_29 : decode M_Cycle_carries.2.1 29 = .ok (.sipush 220, 3) := by decide +kernel
theorem e_Cycle_carries_32 : decode M_Cycle_carries.2.1 32 = .ok (.iaload, 1) := by decide +kernel
theorem e_Cycle_carries_33 : decode M_Cycle_carries.2.1 33 = .ok (.iload_n 1, 1) := by decide +kernel
theorem e_Cycle_carries_34 : decode M_Cycle_carries.2.1 34 = .ok (.invokestatic 44, 3) := by decide +kernel
theorem e_Cycle_carries_37 : decode M_Cycle_carries.2.1 37 = .ok (.ifCond .eq 7, 3) := by decide +kernel
theorem e_Cycle_carries_40 : decode M_Cycle_carries.2.1 40 = .ok (.iconst 1, 1) := by decide +kernel
theorem e_Cycle_carries_41 : decode M_Cycle_carries.2.1 41 = .ok (.goto 4, 3) := by decide +kernel
theorem e_Cycle_carries_44 : decode M_Cycle_carries.2.1 44 = .ok (.iconst 0, 1) := by decide +kernel
theorem e_Cycle_carries_45 : decode M_Cycle_carries.2.1 45 = .ok (.ireturn, 1) := by decide +kernel
theorem e_Cycle_growOlder_0 : decode M_Cycle_growOlder.2.1 0 = .ok (.aload_n 0, 1) := by decide +kernel
theorem e_Cycle_growOlder_1 : decode M_Cycle_growOlder.2.1 1 = .ok (.iload_n 1, 1) := by decide +kernel
theorem e_Cycle_growOlder_2 : decode M_Cycle_growOlder.2.1 2 = .ok (.iconst 4, 1) := by decide +kernel
theorem e_Cycle_growOlder_3 : decode M_Cycle_growOlder.2.1 3 = .ok (.iadd, 1) := by decide +kernel
theorem e_Cycle_growOlder_4 : decode M_Cycle_growOlder.2.1 4 = .ok (.bipush 99, 2) := by decide +kernel
theorem e_Cycle_growOlder_6 : decode M_Cycle_growOlder.2.1 6 = .ok (.aload_n 0, 1) := by decide +kernel
theorem e_Cycle_growOlder_7 : decode M_Cycle_growOlder.2.1 7 = .ok (.iload_n 1, 1) := by decide +kernel
theorem e_Cycle_growOlder_8 : decode M_Cycle_growOlder.2.1 8 = .ok (.iconst 4, 1) := by decide +kernel
theorem e_Cycle_growOlder_9 : decode M_Cycle_growOlder.2.1 9 = .ok (.iadd, 1) := by decide +kernel
theorem e_Cycle_growOlder_10 : decode M_Cycle_growOlder.2.1 10 = .ok (.iaload, 1) := by decide +kernel
theorem e_Cycle_growOlder_11 : decode M_Cycle_growOlder.2.1 11 = .ok (.iconst 1, 1) := by decide +kernel
theorem e_Cycle_growOlder_12 : decode M_Cycle_growOlder.2.1 12 = .ok (.iadd, 1) := by decide +kernel
theorem e_Cycle_growOlder_13 : decode M_Cycle_growOlder.2.1 13 = .ok (.invokestatic 112, 3) := by decide +kernel
theorem e_Cycle_growOlder_16 : decode M_Cycle_growOlder.2.1 16 = .ok (.iastore, 1) := by decide +kernel
theorem e_Cycle_growOlder_17 : decode M_Cycle_growOlder.2.1 17 = .ok (.aload_n 0, 1) := by decide +kernel
theorem e_Cycle_growOlder_18 : decode M_Cycle_growOlder.2.1 18 = .ok (.iload_n 1, 1) := by decide +kernel
theorem e_Cycle_growOlder_19 : decode M_Cycle_growOlder.2.1 19 = .ok (.iconst 4, 1) := by decide +kernel
theorem e_Cycle_growOlder_20 : decode M_Cycle_growOlder.2.1 20 = .ok (.iadd, 1) := by decide +kernel
theorem e_Cycle_growOlder_21 : decode M_Cycle_growOlder.2.1 21 = .ok (.iaload, 1) := by decide +kernel
theorem e_Cycle_growOlder_22 : decode M_Cycle_growOlder.2.1 22 = .ok (.aload_n 0, 1) := by decide +kernel
theorem e_Cycle_growOlder_23 : decode M_Cycle_growOlder.2.1 23 = .ok (.sipush 224, 3) := by decide +kernel
theorem e_Cycle_growOlder_26 : decode M_Cycle_growOlder.2.1 26 = .ok (.iaload, 1) := by decide +kernel
theorem e_Cycle_growOlder_27 : decode M_Cycle_growOlder.2.1 27 = .ok (.if_icmp .le 9, 3) := by decide +kernel
theorem e_Cycle_growOlder_30 : decode M_Cycle_growOlder.2.1 30 = .ok (.aload_n 0, 1) := by decide +kernel
theorem e_Cycle_growOlder_31 : decode M_Cycle_growOlder.2.1 31 = .ok (.iload_n 1, 1) := by decide +kernel
theorem e_Cycle_growOlder_32 : decode M_Cycle_growOlder.2.1 32 = .ok (.iconst 1, 1) := by decide +kernel
theorem e_Cycle_growOlder_33 : decode M_Cycle_growOlder.2.1 33 = .ok (.iadd, 1) := by decide +kernel
theorem e_Cycle_growOlder_34 : decode M_Cycle_growOlder.2.1 34 = .ok (.iconst 0, 1) := by decide +kernel
theorem e_Cycle_growOlder_35 : decode M_Cycle_growOlder.2.1 35 = .ok (.iastore, 1) := by decide +kernel
theorem e_Cycle_growOlder_36 : decode M_Cycle_growOlder.2.1 36 = .ok (.return_, 1) := by decide +kernel
theorem e_Cycle_runBlock_0 : decode M_Cycle_runBlock.2.1 0 = .ok (.iload_n 2, 1) := by decide +kernel
theorem e_Cycle_runBlock_1 : decode M_Cycle_runBlock.2.1 1 = .ok (.bipush 9, 2) := by decide +kernel
theorem e_Cycle_runBlock_3 : decode M_Cycle_runBlock.2.1 3 = .ok (.imul, 1) := by decide +kernel
theorem e_Cycle_runBlock_4 : decode M_Cycle_runBlock.2.1 4 = .ok (.istore_n 3, 1) := by decide +kernel
theorem e_Cycle_runBlock_5 : decode M_Cycle_runBlock.2.1 5 = .ok (.aload_n 1, 1) := by decide +kernel
theorem e_Cycle_runBlock_6 : decode M_Cycle_runBlock.2.1 6 = .ok (.iload_n 3, 1) := by decide +kernel
theorem e_Cycle_runBlock_7 : decode M_Cycle_runBlock.2.1 7 = .ok (.iconst 1, 1) := by decide +kernel
theorem e_Cycle_runBlock_8 : decode M_Cycle_runBlock.2.1 8 = .ok (.iadd, 1) := by decide +kernel
theorem e_Cycle_runBlock_9 : decode M_Cycle_runBlock.2.1 9 = .ok (.aload_n 0, 1) := by decide +kernel
theorem e_Cycle_runBlock_10 : decode M_Cycle_runBlock.2.1 10 = .ok (.aload_n 1, 1) := by decide +kernel
theorem e_Cycle_runBlock_11 : decode M_Cycle_runBlock.2.1 11 = .ok (.iload_n 2, 1) := by decide +kernel
theorem e_Cycle_runBlock_12 : decode M_Cycle_runBlock.2.1 12 = .ok (.invokestatic 118, 3) := by decide +kernel
theorem e_Cycle_runBlock_15 : decode M_Cycle_runBlock.2.1 15 = .ok (.iastore, 1) := by decide +kernel
theorem e_Cycle_runBlock_16 : decode M_Cycle_runBlock.2.1 16 = .ok (.aload_n 0, 1) := by decide +kernel
theorem e_Cycle_runBlock_17 : decode M_Cycle_runBlock.2.1 17 = .ok (.getfield 89, 3) := by decide +kernel
theorem e_Cycle_runBlock_20 : decode M_Cycle_runBlock.2.1 20 = .ok (.iload_n 2, 1) := by decide +kernel
theorem e_Cycle_runBlock_21 : decode M_Cycle_runBlock.2.1 21 = .ok (.iaload, 1) := by decide +kernel
theorem e_Cycle_runBlock_22 : decode M_Cycle_runBlock.2.1 22 = .ok (.tableswitch 69 0 2 #[26, 40, 49], 26) := by decide +kernel
theorem e_Cycle_runBlock_48 : decode M_Cycle_runBlock.2.1 48 = .ok (.aload_n 1, 1) := by decide +kernel
theorem e_Cycle_runBlock_49 : decode M_Cycle_runBlock.2.1 49 = .ok (.iload_n 3, 1) := by decide +kernel
theorem e_Cycle_runBlock_50 : decode M_Cycle_runBlock.2.1 50 = .ok (.aload_n 0, 1) := by decide +kernel
theorem e_Cycle_runBlock_51 : decode M_Cycle_runBlock.2.1 51 = .ok (.getfield 92, 3) := by decide +kernel
theorem e_Cycle_runBlock_54 : decode M_Cycle_runBlock.2.1 54 = .ok (.iload_n 2, 1) := by decide +kernel
theorem e_Cycle_runBlock_55 : decode M_Cycle_runBlock.2.1 55 = .ok (.iaload, 1) := by decide +kernel
theorem e_Cycle_runBlock_56 : decode M_Cycle_runBlock.2.1 56 = .ok (.invokestatic 121, 3) := by decide +kernel
theorem e_Cycle_runBlock_59 : decode M_Cycle_runBlock.2.1 59 = .ok (.goto 38, 3) := by decide +kernel
theorem e_Cycle_runBlock_62 : decode M_Cycle_runBlock.2.1 62 = .ok (.aload_n 0, 1) := by decide +kernel
theorem e_Cycle_runBlock_63 : decode M_Cycle_runBlock.2.1 63 = .ok (.aload_n 1, 1) := by decide +kernel
theorem e_Cycle_runBlock_64 : decode M_Cycle_runBlock.2.1 64 = .ok (.iload_n 2, 1) := by decide +kernel
theorem e_Cycle_runBlock_65 : decode M_Cycle_runBlock.2.1 65 = .ok (.invokestatic 125, 3) := by decide +kernel
theorem e_Cycle_runBlock_68 : decode M_Cycle_runBlock.2.1 68 = .ok (.goto 29, 3) := by decide +kernel
theorem e_Cycle_runBlock_71 : decode M_Cycle_runBlock.2.1 71 = .ok (.aload_n 1, 1) := by decide +kernel
theorem e_Cycle_runBlock_72 : decode M_Cycle_runBlock.2.1 72 = .ok (.iload_n 3, 1) := by decide +kernel
theorem e_Cycle_runBlock_73 : decode M_Cycle_runBlock.2.1 73 = .ok (.aload_n 0, 1) := by decide +kernel
theorem e_Cycle_runBlock_74 : decode M_Cycle_runBlock.2.1 74 = .ok (.iload_n 2, 1) := by decide +kernel
theorem e_Cycle_runBlock_75 : decode M_Cycle_runBlock.2.1 75 = .ok (.iconst 2, 1) := by decide +kernel
theorem e_Cycle_runBlock_76 : decode M_Cycle_runBlock.2.1 76 = .ok (.invokevirtual 128, 3) := by decide +kernel
theorem e_Cycle_runBlock_79 : decode M_Cycle_runBlock.2.1 79 = .ok (.aload_n 0, 1) := by decide +kernel
theorem e_Cycle_runBlock_80 : decode M_Cycle_runBlock.2.1 80 = .ok (.getfield 131, 3) := by decide +kernel
theorem e_Cycle_runBlock_83 : decode M_Cycle_runBlock.2.1 83 = .ok (.iload_n 2, 1) := by decide +kernel
theorem e_Cycle_runBlock_84 : decode M_Cycle_runBlock.2.1 84 = .ok (.iaload, 1) := by decide +kernel
theorem e_Cycle_runBlock_85 : decode M_Cycle_runBlock.2.1 85 = .ok (.invokestatic 134, 3) := by decide +kernel
theorem e_Cycle_runBlock_88 : decode M_Cycle_runBlock.2.1 88 = .ok (.goto 9, 3) := by decide +kernel
theorem e_Cycle_runBlock_91 : decode M_Cycle_runBlock.2.1 91 = .ok (.aload_n 0, 1) := by decide +kernel
theorem e_Cycle_runBlock_92 : decode M_Cycle_runBlock.2.1 92 = .ok (.aload_n 1, 1) := by decide +kernel
theorem e_Cycle_runBlock_93 : decode M_Cycle_runBlock.2.1 93 = .ok (.iload_n 2, 1) := by decide +kernel
theorem e_Cycle_runBlock_94 : decode M_Cycle_runBlock.2.1 94 = .ok (.invokestatic 138, 3) := by decide +kernel
theorem e_Cycle_runBlock_97 : decode M_Cycle_runBlock.2.1 97 = .ok (.return_, 1) := by decide +kernel
theorem e_Cycle_actualOf_0 : decode M_Cycle_actualOf.2.1 0 = .ok (.iload_n 2, 1) := by decide +kernel
theorem e_Cycle_actualOf_1 : decode M_Cycle_actualOf.2.1 1 = .ok (.bipush 9, 2) := by decide +kernel
theorem e_Cycle_actualOf_3 : decode M_Cycle_actualOf.2.1 3 = .ok (.imul, 1) := by decide +kernel
theorem e_Cycle_actualOf_4 : decode M_Cycle_actualOf.2.1 4 = .ok (.istore_n 3, 1) := by decide +kernel
theorem e_Cycle_actualOf_5 : decode M_Cycle_actualOf.2.1 5 = .ok (.aload_n 1, 1) := by decide +kernel
theorem e_Cycle_actualOf_6 : decode M_Cycle_actualOf.2.1 6 = .ok (.iload_n 3, 1) := by decide +kernel
theorem e_Cycle_actualOf_7 : decode M_Cycle_actualOf.2.1 7 = .ok (.iconst 0, 1) := by decide +kernel
theorem e_Cycle_actualOf_8 : decode M_Cycle_actualOf.2.1 8 = .ok (.iadd, 1) := by decide +kernel
theorem e_Cycle_actualOf_9 : decode M_Cycle_actualOf.2.1 9 = .ok (.iaload, 1) := by decide +kernel
theorem e_Cycle_actualOf_10 : decode M_Cycle_actualOf.2.1 10 = .ok (.istore 4, 2) := by decide +kernel
theorem e_Cycle_actualOf_12 : decode M_Cycle_actualOf.2.1 12 = .ok (.aload_n 0, 1) := by decide +kernel
theorem e_Cycle_actualOf_13 : decode M_Cycle_actualOf.2.1 13 = .ok (.getfield 89, 3) := by decide +kernel
theorem e_Cycle_actualOf_16 : decode M_Cycle_actualOf.2.1 16 = .ok (.iload_n 2, 1) := by decide +kernel
theorem e_Cycle_actualOf_17 : decode M_Cycle_actualOf.2.1 17 = .ok (.iaload, 1) := by decide +kernel
theorem e_Cycle_actualOf_18 : decode M_Cycle_actualOf.2.1 18 = .ok (.istore 5, 2) := by decide +kernel
theorem e_Cycle_actualOf_20 : decode M_Cycle_actualOf.2.1 20 = .ok (.iload 4, 2) := by decide +kernel
theorem e_Cycle_actualOf_22 : decode M_Cycle_actualOf.2.1 22 = .ok (.ifCond .eq 9, 3) := by decide +kernel
theorem e_Cycle_actualOf_25 : decode M_Cycle_actualOf.2.1 25 = .ok (.iload 4, 2) := by decide +kernel
theorem e_Cycle_actualOf_27 : decode M_Cycle_actualOf.2.1 27 = .ok (.iconst 1, 1) := by decide +kernel
theorem e_Cycle_actualOf_28 : decode M_Cycle_actualOf.2.1 28 = .ok (.if_icmp .ne 6, 3) := by decide +kernel
theorem e_Cycle_actualOf_31 : decode M_Cycle_actualOf.2.1 31 = .ok (.iload 4, 2) := by decide +kernel
theorem e_Cycle_actualOf_33 : decode M_Cycle_actualOf.2.1 33 = .ok (.ireturn, 1) := by decide +kernel
theorem e_Cycle_actualOf_34 : decode M_Cycle_actualOf.2.1 34 = .ok (.iload 5, 2) := by decide +kernel
theorem e_Cycle_actualOf_36 : decode M_Cycle_actualOf.2.1 36 = .ok (.ifCond .eq 9, 3) := by decide +kernel
theorem e_Cycle_actualOf_39 : decode M_Cycle_actualOf.2.1 39 = .ok (.iload 5, 2) := by decide +kernel
theorem e_Cycle_actualOf_41 : decode M_Cycle_actualOf.2.1 41 = .ok (.iconst 3, 1) := by decide +kernel
theorem e_Cycle_actualOf_42 : decode M_Cycle_actualOf.2.1 42 = .ok (.if_icmp .ne 5, 3) := by decide +kernel
theorem e_Cycle_actualOf_45 : decode M_Cycle_actualOf.2.1 45 = .ok (.iconst 2, 1) := by decide +kernel
theorem e_Cycle_actualOf_46 : decode M_Cycle_actualOf.2.1 46 = .ok (.ireturn, 1) := by decide +kernel
theorem e_Cycle_actualOf_47 : decode M_Cycle_actualOf.2.1 47 = .ok (.iload 5, 2) := by decide +kernel
theorem e_Cycle_actualOf_49 : decode M_Cycle_actualOf.2.1 49 = .ok (.iconst 1, 1) := by decide +kernel
theorem e_Cycle_actualOf_50 : decode M_Cycle_actualOf.2.1 50 = .ok (.if_icmp .ne 24, 3) := by decide +kernel
theorem e_Cycle_actualOf_53 : decode M_Cycle_actualOf.2.1 53 = .ok (.aload_n 1, 1) := by decide +kernel
theorem e_Cycle_actualOf_54 : decode M_Cycle_actualOf.2.1 54 = .ok (.aload_n 0, 1) := by decide +kernel
theorem e_Cycle_actualOf_55 : decode M_Cycle_actualOf.2.1 55 = .ok (.iload_n 2, 1) := by decide +kernel
theorem e_Cycle_actualOf_56 : decode M_Cycle_actualOf.2.1 56 = .ok (.iconst 0, 1) := by decide +kernel
theorem e_Cycle_actualOf_57 : decode M_Cycle_actualOf.2.1 57 = .ok (.invokevirtual 128, 3) := by decide +kernel
theorem e_Cycle_actualOf_60 : decode M_Cycle_actualOf.2.1 60 = .ok (.iconst 1, 1) := by decide +kernel
theorem e_Cycle_actualOf_61 : decode M_Cycle_actualOf.2.1 61 = .ok (.iadd, 1) := by decide +kernel
theorem e_Cycle_actualOf_62 : decode M_Cycle_actualOf.2.1 62 = .ok (.iaload, 1) := by decide +kernel
theorem e_Cycle_actualOf_63 : decode M_Cycle_actualOf.2.1 63 = .ok (.ifCond .ne 11, 3) := by decide +kernel
theorem e_Cycle_actualOf_66 : decode M_Cycle_actualOf.2.1 66 = .ok (.aload_n 0, 1) := by decide +kernel
theorem e_Cycle_actualOf_67 : decode M_Cycle_actualOf.2.1 67 = .ok (.aload_n 1, 1) := by decide +kernel
theorem e_Cycle_actualOf_68 : decode M_Cycle_actualOf.2.1 68 = .ok (.iload_n 2, 1) := by decide +kernel
theorem e_Cycle_actualOf_69 : decode M_Cycle_actualOf.2.1 69 = .ok (.iconst 1, 1) := by decide +kernel
theorem e_Cycle_actualOf_70 : decode M_Cycle_actualOf.2.1 70 = .ok (.invokestatic 141, 3) := by decide +kernel
theorem e_Cycle_actualOf_73 : decode M_Cycle_actualOf.2.1 73 = .ok (.ireturn, 1) := by decide +kernel
theorem e_Cycle_actualOf_74 : decode M_Cycle_actualOf.2.1 74 = .ok (.iload 4, 2) := by decide +kernel
theorem e_Cycle_actualOf_76 : decode M_Cycle_actualOf.2.1 76 = .ok (.iconst 2, 1) := by decide +kernel
theorem e_Cycle_actualOf_77 : decode M_Cycle_actualOf.2.1 77 = .ok (.if_icmp .ne 5, 3) := by decide +kernel
theorem e_Cycle_actualOf_80 : decode M_Cycle_actualOf.2.1 80 = .ok (.iconst 2, 1) := by decide +kernel
theorem e_Cycle_actualOf_81 : decode M_Cycle_actualOf.2.1 81 = .ok (.ireturn, 1) := by decide +kernel
theorem e_Cycle_actualOf_82 : decode M_Cycle_actualOf.2.1 82 = .ok (.aload_n 0, 1) := by decide +kernel
theorem e_Cycle_actualOf_83 : decode M_Cycle_actualOf.2.1 83 = .ok (.iload_n 2, 1) := by decide +kernel
theorem e_Cycle_actualOf_84 : decode M_Cycle_actualOf.2.1 84 = .ok (.iconst 2, 1) := by decide +kernel
theorem e_Cycle_actualOf_85 : decode M_Cycle_actualOf.2.1 85 = .ok (.invokevirtual 128, 3) := by decide +kernel
theorem e_Cycle_actualOf_88 : decode M_Cycle_actualOf.2.1 88 = .ok (.istore 6, 2) := by decide +kernel
theorem e_Cycle_actualOf_90 : decode M_Cycle_actualOf.2.1 90 = .ok (.aload_n 1, 1) := by decide +kernel
theorem e_Cycle_actualOf_91 : decode M_Cycle_actualOf.2.1 91 = .ok (.iload 6, 2) := by decide +kernel
theorem e_Cycle_actualOf_93 : decode M_Cycle_actualOf.2.1 93 = .ok (.iconst 1, 1) := by decide +kernel
theorem e_Cycle_actualOf_94 : decode M_Cycle_actualOf.2.1 94 = .ok (.iadd, 1) := by decide +kernel
theorem e_Cycle_actualOf_95 : decode M_Cycle_actualOf.2.1 95 = .ok (.iaload, 1) := by decide +kernel
theorem e_Cycle_actualOf_96 : decode M_Cycle_actualOf.2.1 96 = .ok (.ifCond .ne 26, 3) := by decide +kernel
theorem e_Cycle_actualOf_99 : decode M_Cycle_actualOf.2.1 99 = .ok (.iload 5, 2) := by decide +kernel
theorem e_Cycle_actualOf_101 : decode M_Cycle_actualOf.2.1 101 = .ok (.iconst 1, 1) := by decide +kernel
theorem e_Cycle_actualOf_102 : decode M_Cycle_actualOf.2.1 102 = .ok (.if_icmp .ne 18, 3) := by decide +kernel
theorem e_Cycle_actualOf_105 : decode M_Cycle_actualOf.2.1 105 = .ok (.aload_n 0, 1) := by decide +kernel
theorem e_Cycle_actualOf_106 : decode M_Cycle_actualOf.2.1 106 = .ok (.aload_n 1, 1) := by decide +kernel
theorem e_Cycle_actualOf_107 : decode M_Cycle_actualOf.2.1 107 = .ok (.iload_n 2, 1) := by decide +kernel
theorem e_Cycle_actualOf_108 : decode M_Cycle_actualOf.2.1 108 = .ok (.aload_n 0, 1) := by decide +kernel
theorem e_Cycle_actualOf_109 : decode M_Cycle_actualOf.2.1 109 = .ok (.getfield 145, 3) := by decide +kernel
theorem e_Cycle_actualOf_112 : decode M_Cycle_actualOf.2.1 112 = .ok (.iload_n 2, 1) := by decide +kernel
theorem e_Cycle_actualOf_113 : decode M_Cycle_actualOf.2.1 113 = .ok (.iaload, 1) := by decide +kernel
theorem e_Cycle_actualOf_114 : decode M_Cycle_actualOf.2.1 114 = .ok (.invokestatic 141, 3) := by decide +kernel
theorem e_Cycle_actualOf_117 : decode M_Cycle_actualOf.2.1 117 = .ok (.goto 4, 3) := by decide +kernel
theorem e_Cycle_actualOf_120 : decode M_Cycle_actualOf.2.1 120 = .ok (.iconst 2, 1) := by decide +kernel
theorem e_Cycle_actualOf_121 : decode M_Cycle_actualOf.2.1 121 = .ok (.ireturn, 1) := by decide +kernel
theorem e_Cycle_actualOf_122 : decode M_Cycle_actualOf.2.1 122 = .ok (.aload_n 1, 1) := by decide +kernel
theorem e_Cycle_actualOf_123 : decode M_Cycle_actualOf.2.1 123 = .ok (.iload_n 3, 1) := by decide +kernel
theorem e_Cycle_actualOf_124 : decode M_Cycle_actualOf.2.1 124 = .ok (.iconst 1, 1) := by decide +kernel
theorem e_Cycle_actualOf_125 : decode M_Cycle_actualOf.2.1 125 = .ok (.iadd, 1) := by decide +kernel
theorem e_Cycle_actualOf_126 : decode M_Cycle_actualOf.2.1 126 = .ok (.iaload, 1) := by decide +kernel
theorem e_Cycle_actualOf_127 : decode M_Cycle_actualOf.2.1 127 = .ok (.iconst 3, 1) := by decide +kernel
theorem e_Cycle_actualOf_128 : decode M_Cycle_actualOf.2.1 128 = .ok (.if_icmp .eq 13, 3) := by decide +kernel
theorem e_Cycle_actualOf_131 : decode M_Cycle_actualOf.2.1 131 = .ok (.aload_n 1, 1) := by decide +kernel
theorem e_Cycle_actualOf_132 : decode M_Cycle_actualOf.2.1 132 = .ok (.iload 6, 2) := by decide +kernel
theorem e_Cycle_actualOf_134 : decode M_Cycle_actualOf.2.1 134 = .ok (.iconst 3, 1) := by decide +kernel
theorem e_Cycle_actualOf_135 : decode M_Cycle_actualOf.2.1 135 = .ok (.iadd, 1) := by decide +kernel
theorem e_Cycle_actualOf_136 : decode M_Cycle_actualOf.2.1 136 = .ok (.iaload, 1) := by decide +kernel
theorem e_Cycle_actualOf_137 : decode M_Cycle_actualOf.2.1 137 = .ok (.iconst 1, 1) := by decide +kernel
theorem e_Cycle_actualOf_138 : decode M_Cycle_actualOf.2.1 138 = .ok (.if_icmp .ne 7, 3) := by decide +kernel
theorem e_Cycle_actualOf_141 : decode M_Cycle_actualOf.2.1 141 = .ok (.iconst 3, 1) := by decide +kernel
theorem e_Cycle_actualOf_142 : decode M_Cycle_actualOf.2.1 142 = .ok (.goto 4, 3) := by decide +kernel
theorem e_Cycle_actualOf_145 : decode M_Cycle_actualOf.2.1 145 = .ok (.iconst 2, 1) := by decide +kernel
theorem e_Cycle_actualOf_146 : decode M_Cycle_actualOf.2.1 146 = .ok (.ireturn, 1) := by decide +kernel
theorem e_Cycle_fall_0 : decode M_Cycle_fall.2.1 0 = .ok (.aload_n 0, 1) := by decide +kernel
theorem e_Cycle_fall_1 : decode M_Cycle_fall.2.1 1 = .ok (.getfield 148, 3) := by decide +kernel
theorem e_Cycle_fall_4 : decode M_Cycle_fall.2.1 4 = .ok (.iload_n 2, 1) := by decide +kernel
theorem e_Cycle_fall_5 : decode M_Cycle_fall.2.1 5 = .ok (.baload, 1) := by decide +kernel
theorem e_Cycle_fall_6 : decode M_Cycle_fall.2.1 6 = .ok (.ifCond .eq 12, 3) := by decide +kernel
theorem e_Cycle_fall_9 : decode M_Cycle_fall.2.1 9 = .ok (.aload_n 1, 1) := by decide +kernel
theorem e_Cycle_fall_10 : decode M_Cycle_fall.2.1 10 = .ok (.iload_n 2, 1) := by decide +kernel
theorem e_Cycle_fall_11 : decode M_Cycle_fall.2.1 11 = .ok (.bipush 9, 2) := by decide +kernel
theorem e_Cycle_fall_13 : decode M_Cycle_fall.2.1 13 = .ok (.imul, 1) := by decide +kernel
theorem e_Cycle_fall_14 : decode M_Cycle_fall.2.1 14 = .ok (.iconst 0, 1) := by decide +kernel
theorem e_Cycle_fall_15 : decode M_Cycle_fall.2.1 15 = .ok (.iadd, 1) := by decide +kernel
theorem e_Cycle_fall_16 : decode M_Cycle_fall.2.1 16 = .ok (.iload_n 3, 1) := by decide +kernel
theorem e_Cycle_fall_17 : decode M_Cycle_fall.2.1 17 = .ok (.iastore, 1) := by decide +kernel
theorem e_Cycle_fall_18 : decode M_Cycle_fall.2.1 18 = .ok (.iload_n 3, 1) := by decide +kernel
theorem e_Cycle_fall_19 : decode M_Cycle_fall.2.1 19 = .ok (.ireturn, 1) := by decide +kernel
theorem e_Cycle_runInput_0 : decode M_Cycle_runInput.2.1 0 = .ok (.aload_n 0, 1) := by decide +kernel
theorem e_Cycle_runInput_1 : decode M_Cycle_runInput.2.1 1 = .ok (.iload_n 1, 1) := by decide +kernel
theorem e_Cycle_runInput_2 : decode M_Cycle_runInput.2.1 2 = .ok (.iconst 5, 1) := by decide +kernel
theorem e_Cycle_runInput_3 : decode M_Cycle_runInput.2.1 3 = .ok (.iadd, 1) := by decide +kernel
theorem e_Cycle_runInput_4 : decode M_Cycle_runInput.2.1 4 = .ok (.aload_n 0, 1) := by decide +kernel
theorem e_Cycle_runInput_5 : decode M_Cycle_runInput.2.1 5 = .ok (.iload_n 1, 1) := by decide +kernel
theorem e_Cycle_runInput_6 : decode M_Cycle_runInput.2.1 6 = .ok (.iconst 1, 1) := by decide +kernel
theorem e_Cycle_runInput_7 : decode M_Cycle_runInput.2.1 7 = .ok (.iadd, 1) := by decide +kernel
theorem e_Cycle_runInput_8 : decode M_Cycle_runInput.2.1 8 = .ok (.iaload, 1) := by decide +kernel
theorem e_Cycle_runInput_9 : decode M_Cycle_runInput.2.1 9 = .ok (.ifCond .ne 7, 3) := by decide +kernel
theorem e_Cycle_runInput_12 : decode M_Cycle_runInput.2.1 12 = .ok (.iconst 0, 1) := by decide +kernel
theorem e_Cycle_runInput_13 : decode M_Cycle_runInput.2.1 13 = .ok (.goto 4, 3) := by decide +kernel
theorem e_Cycle_runInput_16 : decode M_Cycle_runInput.2.1 16 = .ok (.iconst 1, 1) := by decide +kernel
theorem e_Cycle_runInput_17 : decode M_Cycle_runInput.2.1 17 = .ok (.iastore, 1) := by decide +kernel
theorem e_Cycle_runInput_18 : decode M_Cycle_runInput.2.1 18 = .ok (.aload_n 0, 1) := by decide +kernel
theorem e_Cycle_runInput_19 : decode M_Cycle_runInput.2.1 19 = .ok (.iload_n 1, 1) := by decide +kernel
theorem e_Cycle_runInput_20 : decode M_Cycle_runInput.2.1 20 = .ok (.iconst 1, 1) := by decide +kernel
theorem e_Cycle_runInput_21 : decode M_Cycle_runInput.2.1 21 = .ok (.iadd, 1) := by decide +kernel
theorem e_Cycle_runInput_22 : decode M_Cycle_runInput.2.1 22 = .ok (.iaload, 1) := by decide +kernel
theorem e_Cycle_runInput_23 : decode M_Cycle_runInput.2.1 23 = .ok (.iconst 2, 1) := by decide +kernel
theorem e_Cycle_runInput_24 : decode M_Cycle_runInput.2.1 24 = .ok (.if_icmp .ne 37, 3) := by decide +kernel
theorem e_Cycle_runInput_27 : decode M_Cycle_runInput.2.1 27 = .ok (.aload_n 0, 1) := by decide +kernel
theorem e_Cycle_runInput_28 : decode M_Cycle_runInput.2.1 28 = .ok (.iload_n 1, 1) := by decide +kernel
theorem e_Cycle_runInput_29 : decode M_Cycle_runInput.2.1 29 = .ok (.iconst 3, 1) := by decide +kernel
theorem e_Cycle_runInput_30 : decode M_Cycle_runInput.2.1 30 = .ok (.iadd, 1) := by decide +kernel
theorem e_Cycle_runInput_31 : decode M_Cycle_runInput.2.1 31 = .ok (.aload_n 0, 1) := by decide +kernel
theorem e_Cycle_runInput_32 : decode M_Cycle_runInput.2.1 32 = .ok (.sipush 215, 3) := by decide +kernel
theorem e_Cycle_runInput_35 : decode M_Cycle_runInput.2.1 35 = .ok (.iload_n 2, 1) := by decide +kernel
theorem e_Cycle_runInput_36 : decode M_Cycle_runInput.2.1 36 = .ok (.iadd, 1) := by decide +kernel
theorem e_Cycle_runInput_37 : decode M_Cycle_runInput.2.1 37 = .ok (.iaload, 1) := by decide +kernel
theorem e_Cycle_runInput_38 : decode M_Cycle_runInput.2.1 38 = .ok (.iastore, 1) := by decide +kernel
theorem e_Cycle_runInput_39 : decode M_Cycle_runInput.2.1 39 = .ok (.aload_n 0, 1) := by decide +kernel
theorem e_Cycle_runInput_40 : decode M_Cycle_runInput.2.1 40 = .ok (.iload_n 1, 1) := by decide +kernel
theorem e_Cycle_runInput_41 : decode M_Cycle_runInput.2.1 41 = .ok (.iconst 5, 1) := by decide +kernel
theorem e_Cycle_runInput_42 : decode M_Cycle_runInput.2.1 42 = .ok (.iadd, 1) := by decide +kernel
theorem e_Cycle_runInput_43 : decode M_Cycle_runInput.2.1 43 = .ok (.aload_n 0, 1) := by decide +kernel
theorem e_Cycle_runInput_44 : decode M_Cycle_runInput.2.1 44 = .ok (.sipush 219, 3) := by decide +kernel
theorem e_Cycle_runInput_47 : decode M_Cycle_runInput.2.1 47 = .ok (.iaload, 1) := by decide +kernel
theorem e_Cycle_runInput_48 : decode M_Cycle_runInput.2.1 48 = .ok (.iload_n 2, 1) := by decide +kernel
theorem e_Cycle_runInput_49 : decode M_Cycle_runInput.2.1 49 = .ok (.invokestatic 44, 3) := by decide +kernel
theorem e_Cycle_runInput_52 : decode M_Cycle_runInput.2.1 52 = .ok (.ifCond .eq 7, 3) := by decide +kernel
theorem e_Cycle_runInput_55 : decode M_Cycle_runInput.2.1 55 = .ok (.iconst 0, 1) := by decide +kernel
theorem e_Cycle_runInput_56 : decode M_Cycle_runInput.2.1 56 = .ok (.goto 4, 3) := by decide +kernel
theorem e_Cycle_runInput_59 : decode M_Cycle_runInput.2.1 59 = .ok (.iconst 1, 1) := by decide +kernel
theorem e_Cycle_runInput_60 : decode M_Cycle_runInput.2.1 60 = .ok (.iastore, 1) := by decide +kernel
theorem e_Cycle_runInput_61 : decode M_Cycle_runInput.2.1 61 = .ok (.return_, 1) := by decide +kernel
theorem e_Cycle_runPid_0 : decode M_Cycle_runPid.2.1 0 = .ok (.iload_n 2, 1) := by decide +kernel
theorem e_Cycle_runPid_1 : decode M_Cycle_runPid.2.1 1 = .ok (.bipush 9, 2) := by decide +kernel
theorem e_Cycle_runPid_3 : decode M_Cycle_runPid.2.1 3 = .ok (.imul, 1) := by decide +kernel
theorem e_Cycle_runPid_4 : decode M_Cycle_runPid.2.1 4 = .ok (.istore_n 3, 1) := by decide +kernel
theorem e_Cycle_runPid_5 : decode M_Cycle_runPid.2.1 5 = .ok (.aload_n 1, 1) := by decide +kernel
theorem e_Cycle_runPid_6 : decode M_Cycle_runPid.2.1 6 = .ok (.iload_n 3, 1) := by decide +kernel
theorem e_Cycle_runPid_7 : decode M_Cycle_runPid.2.1 7 = .ok (.iconst 1, 1) := by decide +kernel
theorem e_Cycle_runPid_8 : decode M_Cycle_runPid.2.1 8 = .ok (.iadd, 1) := by decide +kernel
theorem e_Cycle_runPid_9 : decode M_Cycle_runPid.2.1 9 = .ok (.iaload, 1) := by decide +kernel
theorem e_Cycle_runPid_10 : decode M_Cycle_runPid.2.1 10 = .ok (.istore 4, 2) := by decide +kernel
theorem e_Cycle_runPid_12 : decode M_Cycle_runPid.2.1 12 = .ok (.iload 4, 2) := by decide +kernel
theorem e_Cycle_runPid_14 : decode M_Cycle_runPid.2.1 14 = .ok (.iconst 3, 1) := by decide +kernel
theorem e_Cycle_runPid_15 : decode M_Cycle_runPid.2.1 15 = .ok (.if_icmp .ne 18, 3) := by decide +kernel
theorem e_Cycle_runPid_18 : decode M_Cycle_runPid.2.1 18 = .ok (.aload_n 1, 1) := by decide +kernel
theorem e_Cycle_runPid_19 : decode M_Cycle_runPid.2.1 19 = .ok (.iload_n 3, 1) := by decide +kernel
theorem e_Cycle_runPid_20 : decode M_Cycle_runPid.2.1 20 = .ok (.iconst 2, 1) := by decide +kernel
theorem e_Cycle_runPid_21 : decode M_Cycle_runPid.2.1 21 = .ok (.iadd, 1) := by decide +kernel
theorem e_Cycle_runPid_22 : decode M_Cycle_runPid.2.1 22 = .ok (.aload_n 1, 1) := by decide +kernel
theorem e_Cycle_runPid_23 : decode M_Cycle_runPid.2.1 23 = .ok (.aload_n 0, 1) := by decide +kernel
theorem e_Cycle_runPid_24 : decode M_Cycle_runPid.2.1 24 = .ok (.iload_n 2, 1) := by decide +kernel
theorem e_Cycle_runPid_25 : decode M_Cycle_runPid.2.1 25 = .ok (.iconst 2, 1) := by decide +kernel
theorem e_Cycle_runPid_26 : decode M_Cycle_runPid.2.1 26 = .ok (.invokevirtual 128, 3) := by decide +kernel
theorem e_Cycle_runPid_29 : decode M_Cycle_runPid.2.1 29 = .ok (.iconst 0, 1) := by decide +kernel
theorem e_Cycle_runPid_30 : decode M_Cycle_runPid.2.1 30 = .ok (.iadd, 1) := by decide +kernel
theorem e_Cycle_runPid_31 : decode M_Cycle_runPid.2.1 31 = .ok (.iaload, 1) := by decide +kernel
theorem e_Cycle_runPid_32 : decode M_Cycle_runPid.2.1 32 = .ok (.iastore, 1) := by decide +kernel
theorem e_Cycle_runPid_33 : decode M_Cycle_runPid.2.1 33 = .ok (.aload_n 1, 1) := by decide +kernel
theorem e_Cycle_runPid_34 : decode M_Cycle_runPid.2.1 34 = .ok (.iload_n 3, 1) := by decide +kernel
theorem e_Cycle_runPid_35 : decode M_Cycle_runPid.2.1 35 = .ok (.iconst 2, 1) := by decide +kernel
theorem e_Cycle_runPid_36 : decode M_Cycle_runPid.2.1 36 = .ok (.iadd, 1) := by decide +kernel
theorem e_Cycle_runPid_37 : decode M_Cycle_runPid.2.1 37 = .ok (.iaload, 1) := by decide +kernel
theorem e_Cycle_runPid_38 : decode M_Cycle_runPid.2.1 38 = .ok (.aload_n 1, 1) := by decide +kernel
theorem e_Cycle_runPid_39 : decode M_Cycle_runPid.2.1 39 = .ok (.aload_n 0, 1) := by decide +kernel
theorem e_Cycle_runPid_40 : decode M_Cycle_runPid.2.1 40 = .ok (.iload_n 2, 1) := by decide +kernel
theorem e_Cycle_runPid_41 : decode M_Cycle_runPid.2.1 41 = .ok (.iconst 0, 1) := by decide +kernel
theorem e_Cycle_runPid_42 : decode M_Cycle_runPid.2.1 42 = .ok (.invokevirtual 128, 3) := by decide +kernel
theorem e_Cycle_runPid_45 : decode M_Cycle_runPid.2.1 45 = .ok (.iconst 0, 1) := by decide +kernel
theorem e_Cycle_runPid_46 : decode M_Cycle_runPid.2.1 46 = .ok (.iadd, 1) := by decide +kernel
theorem e_Cycle_runPid_47 : decode M_Cycle_runPid.2.1 47 = .ok (.iaload, 1) := by decide +kernel
theorem e_Cycle_runPid_48 : decode M_Cycle_runPid.2.1 48 = .ok (.isub, 1) := by decide +kernel
theorem e_Cycle_runPid_49 : decode M_Cycle_runPid.2.1 49 = .ok (.istore 5, 2) := by decide +kernel
theorem e_Cycle_runPid_51 : decode M_Cycle_runPid.2.1 51 = .ok (.aload_n 0, 1) := by decide +kernel
theorem e_Cycle_runPid_52 : decode M_Cycle_runPid.2.1 52 = .ok (.getfield 158, 3) := by decide +kernel
theorem e_Cycle_runPid_55 : decode M_Cycle_runPid.2.1 55 = .ok (.iload_n 2, 1) := by decide +kernel
theorem e_Cycle_runPid_56 : decode M_Cycle_runPid.2.1 56 = .ok (.iaload, 1) := by decide +kernel
theorem e_Cycle_runPid_57 : decode M_Cycle_runPid.2.1 57 = .ok (.iconst (-1), 1) := by decide +kernel
theorem e_Cycle_runPid_58 : decode M_Cycle_runPid.2.1 58 = .ok (.if_icmp .ne 7, 3) := by decide +kernel
theorem e_Cycle_runPid_61 : decode M_Cycle_runPid.2.1 61 = .ok (.iconst 1, 1) := by decide +kernel
theorem e_Cycle_runPid_62 : decode M_Cycle_runPid.2.1 62 = .ok (.goto 4, 3) := by decide +kernel
theorem e_Cycle_runPid_65 : decode M_Cycle_runPid.2.1 65 = .ok (.iconst 0, 1) := by decide +kernel
theorem e_Cycle_runPid_66 : decode M_Cycle_runPid.2.1 66 = .ok (.istore 6, 2) := by decide +kernel
theorem e_Cycle_runPid_68 : decode M_Cycle_runPid.2.1 68 = .ok (.iload 6, 2) := by decide +kernel
theorem e_Cycle_runPid_70 : decode M_Cycle_runPid.2.1 70 = .ok (.ifCond .eq 9, 3) := by decide +kernel
theorem e_Cycle_runPid_73 : decode M_Cycle_runPid.2.1 73 = .ok (.sipush 150, 3) := by decide +kernel
theorem e_Cycle_runPid_76 : decode M_Cycle_runPid.2.1 76 = .ok (.goto 15, 3) := by decide +kernel
theorem e_Cycle_runPid_79 : decode M_Cycle_runPid.2.1 79 = .ok (.sipush 155, 3) := by decide +kernel
theorem e_Cycle_runPid_82 : decode M_Cycle_runPid.2.1 82 = .ok (.aload_n 0, 1) := by decide +kernel
theorem e_Cycle_runPid_83 : decode M_Cycle_runPid.2.1 83 = .ok (.getfield 158, 3) := by decide +kernel
theorem e_Cycle_runPid_86 : decode M_Cycle_runPid.2.1 86 = .ok (.iload_n 2, 1) := by decide +kernel
theorem e_Cycle_runPid_87 : decode M_Cycle_runPid.2.1 87 = .ok (.iaload, 1) := by decide +kernel
theorem e_Cycle_runPid_88 : decode M_Cycle_runPid.2.1 88 = .ok (.iconst 5, 1) := by decide +kernel
theorem e_Cycle_runPid_89 : decode M_Cycle_runPid.2.1 89 = .ok (.imul, 1) := by decide +kernel
theorem e_Cycle_runPid_90 : decode M_Cycle_runPid.2.1 90 = .ok (.iadd, 1) := by decide +kernel
theorem e_Cycle_runPid_91 : decode M_Cycle_runPid.2.1 91 = .ok (.istore 7, 2) := by decide +kernel
theorem e_Cycle_runPid_93 : decode M_Cycle_runPid.2.1 93 = .ok (.aload_n 1, 1) := by decide +kernel
theorem e_Cycle_runPid_94 : decode M_Cycle_runPid.2.1 94 = .ok (.iload 7, 2) := by decide +kernel
theorem e_Cycle_runPid_96 : decode M_Cycle_runPid.2.1 96 = .ok (.iconst 1, 1) := by decide +kernel
theorem e_Cycle_runPid_97 : decode M_Cycle_runPid.2.1 97 = .ok (.iadd, 1) := by decide +kernel
theorem e_Cycle_runPid_98 : decode M_Cycle_runPid.2.1 98 = .ok (.iaload, 1) := by decide +kernel
theorem e_Cycle_runPid_99 : decode M_Cycle_runPid.2.1 99 = .ok (.iconst 1, 1) := by decide +kernel
theorem e_Cycle_runPid_100 : decode M_Cycle_runPid.2.1 100 = .ok (.if_icmp .ne 7, 3) := by decide +kernel
theorem e_Cycle_runPid_103 : decode M_Cycle_runPid.2.1 103 = .ok (.iconst 1, 1) := by decide +kernel
theorem e_Cycle_runPid_104 : decode M_Cycle_runPid.2.1 104 = .ok (.goto 4, 3) := by decide +kernel
theorem e_Cycle_runPid_107 : decode M_Cycle_runPid.2.1 107 = .ok (.iconst 0, 1) := by decide +kernel
theorem e_Cycle_runPid_108 : decode M_Cycle_runPid.2.1 108 = .ok (.istore 8, 2) := by decide +kernel
theorem e_Cycle_runPid_110 : decode M_Cycle_runPid.2.1 110 = .ok (.iload 8, 2) := by decide +kernel
theorem e_Cycle_runPid_112 : decode M_Cycle_runPid.2.1 112 = .ok (.ifCond .eq 22, 3) := by decide +kernel
theorem e_Cycle_runPid_115 : decode M_Cycle_runPid.2.1 115 = .ok (.aload_n 1, 1) := by decide +kernel
theorem e_Cycle_runPid_116 : decode M_Cycle_runPid.2.1 116 = .ok (.iload 7, 2) := by decide +kernel
theorem e_Cycle_runPid_118 : decode M_Cycle_runPid.2.1 118 = .ok (.iconst 3, 1) := by decide +kernel
theorem e_Cycle_runPid_119 : decode M_Cycle_runPid.2.1 119 = .ok (.iadd, 1) := by decide +kernel
theorem e_Cycle_runPid_120 : decode M_Cycle_runPid.2.1 120 = .ok (.iaload, 1) := by decide +kernel
theorem e_Cycle_runPid_121 : decode M_Cycle_runPid.2.1 121 = .ok (.iconst 1, 1) := by decide +kernel
theorem e_Cycle_runPid_122 : decode M_Cycle_runPid.2.1 122 = .ok (.if_icmp .ne 12, 3) := by decide +kernel
theorem e_Cycle_runPid_125 : decode M_Cycle_runPid.2.1 125 = .ok (.iload 4, 2) := by decide +kernel
theorem e_Cycle_runPid_127 : decode M_Cycle_runPid.2.1 127 = .ok (.ifCond .eq 7, 3) := by decide +kernel
theorem e_Cycle_runPid_130 : decode M_Cycle_runPid.2.1 130 = .ok (.iconst 1, 1) := by decide +kernel
theorem e_Cycle_runPid_131 : decode M_Cycle_runPid.2.1 131 = .ok (.goto 4, 3) := by decide +kernel
theorem e_Cycle_runPid_134 : decode M_Cycle_runPid.2.1 134 = .ok (.iconst 0, 1) := by decide +kernel
theorem e_Cycle_runPid_135 : decode M_Cycle_runPid.2.1 135 = .ok (.istore 9, 2) := by decide +kernel
theorem e_Cycle_runPid_137 : decode M_Cycle_runPid.2.1 137 = .ok (.aload_n 1, 1) := by decide +kernel
theorem e_Cycle_runPid_138 : decode M_Cycle_runPid.2.1 138 = .ok (.iload_n 3, 1) := by decide +kernel
theorem e_Cycle_runPid_139 : decode M_Cycle_runPid.2.1 139 = .ok (.bipush 7, 2) := by decide +kernel
theorem e_Cycle_runPid_141 : decode M_Cycle_runPid.2.1 141 = .ok (.iadd, 1) := by decide +kernel
theorem e_Cycle_runPid_142 : decode M_Cycle_runPid.2.1 142 = .ok (.iload 9, 2) := by decide +kernel
theorem e_Cycle_runPid_144 : decode M_Cycle_runPid.2.1 144 = .ok (.ifCond .eq 7, 3) := by decide +kernel
theorem e_Cycle_runPid_147 : decode M_Cycle_runPid.2.1 147 = .ok (.iconst 1, 1) := by decide +kernel
theorem e_Cycle_runPid_148 : decode M_Cycle_runPid.2.1 148 = .ok (.goto 4, 3) := by decide +kernel
theorem e_Cycle_runPid_151 : decode M_Cycle_runPid.2.1 151 = .ok (.iconst 0, 1) := by decide +kernel
theorem e_Cycle_runPid_152 : decode M_Cycle_runPid.2.1 152 = .ok (.iastore, 1) := by decide +kernel
theorem e_Cycle_runPid_153 : decode M_Cycle_runPid.2.1 153 = .ok (.iload 9, 2) := by decide +kernel
theorem e_Cycle_runPid_155 : decode M_Cycle_runPid.2.1 155 = .ok (.ifCond .eq 17, 3) := by decide +kernel
theorem e_Cycle_runPid_158 : decode M_Cycle_runPid.2.1 158 = .ok (.aload_n 1, 1) := by decide +kernel
theorem e_Cycle_runPid_159 : decode M_Cycle_runPid.2.1 159 = .ok (.iload_n 3, 1) := by decide +kernel
theorem e_Cycle_runPid_160 : decode M_Cycle_runPid.2.1 160 = .ok (.iconst 3, 1) := by decide +kernel
theorem e_Cycle_runPid_161 : decode M_Cycle_runPid.2.1 161 = .ok (.iadd, 1) := by decide +kernel
theorem e_Cycle_runPid_162 : decode M_Cycle_runPid.2.1 162 = .ok (.aload_n 1, 1) := by decide +kernel
theorem e_Cycle_runPid_163 : decode M_Cycle_runPid.2.1 163 = .ok (.iload 7, 2) := by decide +kernel
theorem e_Cycle_runPid_165 : decode M_Cycle_runPid.2.1 165 = .ok (.iconst 0, 1) := by decide +kernel
theorem e_Cycle_runPid_166 : decode M_Cycle_runPid.2.1 166 = .ok (.iadd, 1) := by decide +kernel
theorem e_Cycle_runPid_167 : decode M_Cycle_runPid.2.1 167 = .ok (.iaload, 1) := by decide +kernel
theorem e_Cycle_runPid_168 : decode M_Cycle_runPid.2.1 168 = .ok (.iastore, 1) := by decide +kernel
theorem e_Cycle_runPid_169 : decode M_Cycle_runPid.2.1 169 = .ok (.goto 124, 3) := by decide +kernel
theorem e_Cycle_runPid_172 : decode M_Cycle_runPid.2.1 172 = .ok (.iload 4, 2) := by decide +kernel
theorem e_Cycle_runPid_174 : decode M_Cycle_runPid.2.1 174 = .ok (.iconst 2, 1) := by decide +kernel
theorem e_Cycle_runPid_175 : decode M_Cycle_runPid.2.1 175 = .ok (.if_icmp .eq 9, 3) := by decide +kernel
theorem e_Cycle_runPid_178 : decode M_Cycle_runPid.2.1 178 = .ok (.iload 4, 2) := by decide +kernel
theorem e_Cycle_runPid_180 : decode M_Cycle_runPid.2.1 180 = .ok (.iconst 3, 1) := by decide +kernel
theorem e_Cycle_runPid_181 : decode M_Cycle_runPid.2.1 181 = .ok (.if_icmp .ne 112, 3) := by decide +kernel
theorem e_Cycle_runPid_184 : decode M_Cycle_runPid.2.1 184 = .ok (.iload 6, 2) := by decide +kernel
theorem e_Cycle_runPid_186 : decode M_Cycle_runPid.2.1 186 = .ok (.ifCond .ne 8, 3) := by decide +kernel
theorem e_Cycle_runPid_189 : decode M_Cycle_runPid.2.1 189 = .ok (.iload 8, 2) := by decide +kernel
theorem e_Cycle_runPid_191 : decode M_Cycle_runPid.2.1 191 = .ok (.ifCond .eq 102, 3) := by decide +kernel
theorem e_Cycle_runPid_194 : decode M_Cycle_runPid.2.1 194 = .ok (.aload_n 1, 1) := by decide +kernel
theorem e_Cycle_runPid_195 : decode M_Cycle_runPid.2.1 195 = .ok (.iload_n 3, 1) := by decide +kernel
theorem e_Cycle_runPid_196 : decode M_Cycle_runPid.2.1 196 = .ok (.bipush 8, 2) := by decide +kernel
theorem e_Cycle_runPid_198 : decode M_Cycle_runPid.2.1 198 = .ok (.iadd, 1) := by decide +kernel
theorem e_Cycle_runPid_199 : decode M_Cycle_runPid.2.1 199 = .ok (.iaload, 1) := by decide +kernel
theorem e_Cycle_runPid_200 : decode M_Cycle_runPid.2.1 200 = .ok (.iload 5, 2) := by decide +kernel
theorem e_Cycle_runPid_202 : decode M_Cycle_runPid.2.1 202 = .ok (.aload_n 1, 1) := by decide +kernel
theorem e_Cycle_runPid_203 : decode M_Cycle_runPid.2.1 203 = .ok (.iload_n 3, 1) := by decide +kernel
theorem e_Cycle_runPid_204 : decode M_Cycle_runPid.2.1 204 = .ok (.iconst 4, 1) := by decide +kernel
theorem e_Cycle_runPid_205 : decode M_Cycle_runPid.2.1 205 = .ok (.iadd, 1) := by decide +kernel
theorem e_Cycle_runPid_206 : decode M_Cycle_runPid.2.1 206 = .ok (.iaload, 1) := by decide +kernel
theorem e_Cycle_runPid_207 : decode M_Cycle_runPid.2.1 207 = .ok (.isub, 1) := by decide +kernel
theorem e_Cycle_runPid_208 : decode M_Cycle_runPid.2.1 208 = .ok (.imul, 1) := by decide +kernel
theorem e_Cycle_runPid_209 : decode M_Cycle_runPid.2.1 209 = .ok (.bipush 100, 2) := by decide +kernel
theorem e_Cycle_runPid_211 : decode M_Cycle_runPid.2.1 211 = .ok (.idiv, 1) := by decide +kernel
theorem e_Cycle_runPid_212 : decode M_Cycle_runPid.2.1 212 = .ok (.aload_n 0, 1) := by decide +kernel
theorem e_Cycle_runPid_213 : decode M_Cycle_runPid.2.1 213 = .ok (.getfield 161, 3) := by decide +kernel
theorem e_Cycle_runPid_216 : decode M_Cycle_runPid.2.1 216 = .ok (.iload_n 2, 1) := by decide +kernel
theorem e_Cycle_runPid_217 : decode M_Cycle_runPid.2.1 217 = .ok (.iaload, 1) := by decide +kernel
theorem e_Cycle_runPid_218 : decode M_Cycle_runPid.2.1 218 = .ok (.iload 5, 2) := by decide +kernel
theorem e_Cycle_runPid_220 : decode M_Cycle_runPid.2.1 220 = .ok (.imul, 1) := by decide +kernel
theorem e_Cycle_runPid_221 : decode M_Cycle_runPid.2.1 221 = .ok (.bipush 100, 2) := by decide +kernel
theorem e_Cycle_runPid_223 : decode M_Cycle_runPid.2.1 223 = .ok (.idiv, 1) := by decide +kernel
theorem e_Cycle_runPid_224 : decode M_Cycle_runPid.2.1 224 = .ok (.iadd, 1) := by decide +kernel
theorem e_Cycle_runPid_225 : decode M_Cycle_runPid.2.1 225 = .ok (.istore 10, 2) := by decide +kernel
theorem e_Cycle_runPid_227 : decode M_Cycle_runPid.2.1 227 = .ok (.aload_n 1, 1) := by decide +kernel
theorem e_Cycle_runPid_228 : decode M_Cycle_runPid.2.1 228 = .ok (.iload 7, 2) := by decide +kernel
theorem e_Cycle_runPid_230 : decode M_Cycle_runPid.2.1 230 = .ok (.iconst 2, 1) := by decide +kernel
theorem e_Cycle_runPid_231 : decode M_Cycle_runPid.2.1 231 = .ok (.iadd, 1) := by decide +kernel
theorem e_Cycle_runPid_232 : decode M_Cycle_runPid.2.1 232 = .ok (.iaload, 1) := by decide +kernel
theorem e_Cycle_runPid_233 : decode M_Cycle_runPid.2.1 233 = .ok (.istore 11, 2) := by decide +kernel
theorem e_Cycle_runPid_235 : decode M_Cycle_runPid.2.1 235 = .ok (.iload 10, 2) := by decide +kernel
theorem e_Cycle_runPid_237 : decode M_Cycle_runPid.2.1 237 = .ok (.ifCond .le 9, 3) := by decide +kernel
theorem e_Cycle_runPid_240 : decode M_Cycle_runPid.2.1 240 = .ok (.iload 11, 2) := by decide +kernel
theorem e_Cycle_runPid_242 : decode M_Cycle_runPid.2.1 242 = .ok (.iconst 2, 1) := by decide +kernel
theorem e_Cycle_runPid_243 : decode M_Cycle_runPid.2.1 243 = .ok (.if_icmp .eq 14, 3) := by decide +kernel
theorem e_Cycle_runPid_246 : decode M_Cycle_runPid.2.1 246 = .ok (.iload 10, 2) := by decide +kernel
theorem e_Cycle_runPid_248 : decode M_Cycle_runPid.2.1 248 = .ok (.ifCond .ge 13, 3) := by decide +kernel
theorem e_Cycle_runPid_251 : decode M_Cycle_runPid.2.1 251 = .ok (.iload 11, 2) := by decide +kernel
theorem e_Cycle_runPid_253 : decode M_Cycle_runPid.2.1 253 = .ok (.iconst 1, 1) := by decide +kernel
theorem e_Cycle_runPid_254 : decode M_Cycle_runPid.2.1 254 = .ok (.if_icmp .ne 7, 3) := by decide +kernel
theorem e_Cycle_runPid_257 : decode M_Cycle_runPid.2.1 257 = .ok (.iconst 1, 1) := by decide +kernel
theorem e_Cycle_runPid_258 : decode M_Cycle_runPid.2.1 258 = .ok (.goto 4, 3) := by decide +kernel
theorem e_Cycle_runPid_261 : decode M_Cycle_runPid.2.1 261 = .ok (.iconst 0, 1) := by decide +kernel
theorem e_Cycle_runPid_262 : decode M_Cycle_runPid.2.1 262 = .ok (.istore 12, 2) := by decide +kernel
theorem e_Cycle_runPid_264 : decode M_Cycle_runPid.2.1 264 = .ok (.aload_n 1, 1) := by decide +kernel
theorem e_Cycle_runPid_265 : decode M_Cycle_runPid.2.1 265 = .ok (.iload_n 3, 1) := by decide +kernel
theorem e_Cycle_runPid_266 : decode M_Cycle_runPid.2.1 266 = .ok (.iconst 3, 1) := by decide +kernel
theorem e_Cycle_runPid_267 : decode M_Cycle_runPid.2.1 267 = .ok (.iadd, 1) := by decide +kernel
theorem e_Cycle_runPid_268 : decode M_Cycle_runPid.2.1 268 = .ok (.iload 12, 2) := by decide +kernel
theorem e_Cycle_runPid_270 : decode M_Cycle_runPid.2.1 270 = .ok (.ifCond .eq 11, 3) := by decide +kernel
theorem e_Cycle_runPid_273 : decode M_Cycle_runPid.2.1 273 = .ok (.aload_n 1, 1) := by decide +kernel
theorem e_Cycle_runPid_274 : decode M_Cycle_runPid.2.1 274 = .ok (.iload_n 3, 1) := by decide +kernel
theorem e_Cycle_runPid_275 : decode M_Cycle_runPid.2.1 275 = .ok (.iconst 3, 1) := by decide +kernel
theorem e_Cycle_runPid_276 : decode M_Cycle_runPid.2.1 276 = .ok (.iadd, 1) := by decide +kernel
theorem e_Cycle_runPid_277 : decode M_Cycle_runPid.2.1 277 = .ok (.iaload, 1) := by decide +kernel
theorem e_Cycle_runPid_278 : decode M_Cycle_runPid.2.1 278 = .ok (.goto 14, 3) := by decide +kernel
theorem e_Cycle_runPid_281 : decode M_Cycle_runPid.2.1 281 = .ok (.aload_n 1, 1) := by decide +kernel
theorem e_Cycle_runPid_282 : decode M_Cycle_runPid.2.1 282 = .ok (.iload_n 3, 1) := by decide +kernel
theorem e_Cycle_runPid_283 : decode M_Cycle_runPid.2.1 283 = .ok (.iconst 3, 1) := by decide +kernel
theorem e_Cycle_runPid_284 : decode M_Cycle_runPid.2.1 284 = .ok (.iadd, 1) := by decide +kernel
theorem e_Cycle_runPid_285 : decode M_Cycle_runPid.2.1 285 = .ok (.iaload, 1) := by decide +kernel
theorem e_Cycle_runPid_286 : decode M_Cycle_runPid.2.1 286 = .ok (.iload 10, 2) := by decide +kernel
theorem e_Cycle_runPid_288 : decode M_Cycle_runPid.2.1 288 = .ok (.iadd, 1) := by decide +kernel
theorem e_Cycle_runPid_289 : decode M_Cycle_runPid.2.1 289 = .ok (.invokestatic 85, 3) := by decide +kernel
theorem e_Cycle_runPid_292 : decode M_Cycle_runPid.2.1 292 = .ok (.iastore, 1) := by decide +kernel
theorem e_Cycle_runPid_293 : decode M_Cycle_runPid.2.1 293 = .ok (.iload 4, 2) := by decide +kernel
theorem e_Cycle_runPid_295 : decode M_Cycle_runPid.2.1 295 = .ok (.ifCond .eq 10, 3) := by decide +kernel
theorem e_Cycle_runPid_298 : decode M_Cycle_runPid.2.1 298 = .ok (.aload_n 1, 1) := by decide +kernel
theorem e_Cycle_runPid_299 : decode M_Cycle_runPid.2.1 299 = .ok (.iload_n 3, 1) := by decide +kernel
theorem e_Cycle_runPid_300 : decode M_Cycle_runPid.2.1 300 = .ok (.iconst 4, 1) := by decide +kernel
theorem e_Cycle_runPid_301 : decode M_Cycle_runPid.2.1 301 = .ok (.iadd, 1) := by decide +kernel
theorem e_Cycle_runPid_302 : decode M_Cycle_runPid.2.1 302 = .ok (.iload 5, 2) := by decide +kernel
theorem e_Cycle_runPid_304 : decode M_Cycle_runPid.2.1 304 = .ok (.iastore, 1) := by decide +kernel
theorem e_Cycle_runPid_305 : decode M_Cycle_runPid.2.1 305 = .ok (.aload_n 1, 1) := by decide +kernel
theorem e_Cycle_runPid_306 : decode M_Cycle_runPid.2.1 306 = .ok (.iload_n 3, 1) := by decide +kernel
theorem e_Cycle_runPid_307 : decode M_Cycle_runPid.2.1 307 = .ok (.iconst 5, 1) := by decide +kernel
theorem e_Cycle_runPid_308 : decode M_Cycle_runPid.2.1 308 = .ok (.iadd, 1) := by decide +kernel
theorem e_Cycle_runPid_309 : decode M_Cycle_runPid.2.1 309 = .ok (.iload 4, 2) := by decide +kernel
theorem e_Cycle_runPid_311 : decode M_Cycle_runPid.2.1 311 = .ok (.ifCond .ne 7, 3) := by decide +kernel
theorem e_Cycle_runPid_314 : decode M_Cycle_runPid.2.1 314 = .ok (.iconst 0, 1) := by decide +kernel
theorem e_Cycle_runPid_315 : decode M_Cycle_runPid.2.1 315 = .ok (.goto 4, 3) := by decide +kernel
theorem e_Cycle_runPid_318 : decode M_Cycle_runPid.2.1 318 = .ok (.iconst 1, 1) := by decide +kernel
theorem e_Cycle_runPid_319 : decode M_Cycle_runPid.2.1 319 = .ok (.iastore, 1) := by decide +kernel
theorem e_Cycle_runPid_320 : decode M_Cycle_runPid.2.1 320 = .ok (.aload_n 1, 1) := by decide +kernel
theorem e_Cycle_runPid_321 : decode M_Cycle_runPid.2.1 321 = .ok (.iload_n 3, 1) := by decide +kernel
theorem e_Cycle_runPid_322 : decode M_Cycle_runPid.2.1 322 = .ok (.iconst 3, 1) := by decide +kernel
theorem e_Cycle_runPid_323 : decode M_Cycle_runPid.2.1 323 = .ok (.iadd, 1) := by decide +kernel
theorem e_Cycle_runPid_324 : decode M_Cycle_runPid.2.1 324 = .ok (.iaload, 1) := by decide +kernel
theorem e_Cycle_runPid_325 : decode M_Cycle_runPid.2.1 325 = .ok (.sipush 1000, 3) := by decide +kernel
theorem e_Cycle_runPid_328 : decode M_Cycle_runPid.2.1 328 = .ok (.if_icmp .ne 7, 3) := by decide +kernel
theorem e_Cycle_runPid_331 : decode M_Cycle_runPid.2.1 331 = .ok (.iconst 2, 1) := by decide +kernel
theorem e_Cycle_runPid_332 : decode M_Cycle_runPid.2.1 332 = .ok (.goto 16, 3) := by decide +kernel
theorem e_Cycle_runPid_335 : decode M_Cycle_runPid.2.1 335 = .ok (.aload_n 1, 1) := by decide +kernel
theorem e_Cycle_runPid_336 : decode M_Cycle_runPid.2.1 336 = .ok (.iload_n 3, 1) := by decide +kernel
theorem e_Cycle_runPid_337 : decode M_Cycle_runPid.2.1 337 = .ok (.iconst 3, 1) := by decide +kernel
theorem e_Cycle_runPid_338 : decode M_Cycle_runPid.2.1 338 = .ok (.iadd, 1) := by decide +kernel
theorem e_Cycle_runPid_339 : decode M_Cycle_runPid.2.1 339 = .ok (.iaload, 1) := by decide +kernel
theorem e_Cycle_runPid_340 : decode M_Cycle_runPid.2.1 340 = .ok (.ifCond .ne 7, 3) := by decide +kernel
theorem e_Cycle_runPid_343 : decode M_Cycle_runPid.2.1 343 = .ok (.iconst 1, 1) := by decide +kernel
theorem e_Cycle_runPid_344 : decode M_Cycle_runPid.2.1 344 = .ok (.goto 4, 3) := by decide +kernel
theorem e_Cycle_runPid_347 : decode M_Cycle_runPid.2.1 347 = .ok (.iconst 0, 1) := by decide +kernel
theorem e_Cycle_runPid_348 : decode M_Cycle_runPid.2.1 348 = .ok (.istore 10, 2) := by decide +kernel
theorem e_Cycle_runPid_350 : decode M_Cycle_runPid.2.1 350 = .ok (.aload_n 1, 1) := by decide +kernel
theorem e_Cycle_runPid_351 : decode M_Cycle_runPid.2.1 351 = .ok (.iload_n 3, 1) := by decide +kernel
theorem e_Cycle_runPid_352 : decode M_Cycle_runPid.2.1 352 = .ok (.bipush 6, 2) := by decide +kernel
theorem e_Cycle_runPid_354 : decode M_Cycle_runPid.2.1 354 = .ok (.iadd, 1) := by decide +kernel
theorem e_Cycle_runPid_355 : decode M_Cycle_runPid.2.1 355 = .ok (.iload 8, 2) := by decide +kernel
theorem e_Cycle_runPid_357 : decode M_Cycle_runPid.2.1 357 = .ok (.ifCond .eq 21, 3) := by decide +kernel
theorem e_Cycle_runPid_360 : decode M_Cycle_runPid.2.1 360 = .ok (.aload_n 1, 1) := by decide +kernel
theorem e_Cycle_runPid_361 : decode M_Cycle_runPid.2.1 361 = .ok (.iload 7, 2) := by decide +kernel
theorem e_Cycle_runPid_363 : decode M_Cycle_runPid.2.1 363 = .ok (.iconst 2, 1) := by decide +kernel
theorem e_Cycle_runPid_364 : decode M_Cycle_runPid.2.1 364 = .ok (.iadd, 1) := by decide +kernel
theorem e_Cycle_runPid_365 : decode M_Cycle_runPid.2.1 365 = .ok (.iaload, 1) := by decide +kernel
theorem e_Cycle_runPid_366 : decode M_Cycle_runPid.2.1 366 = .ok (.ifCond .eq 12, 3) := by decide +kernel
theorem e_Cycle_runPid_369 : decode M_Cycle_runPid.2.1 369 = .ok (.aload_n 1, 1) := by decide +kernel
theorem e_Cycle_runPid_370 : decode M_Cycle_runPid.2.1 370 = .ok (.iload 7, 2) := by decide +kernel
theorem e_Cycle_runPid_372 : decode M_Cycle_runPid.2.1 372 = .ok (.iconst 2, 1) := by decide +kernel
theorem e_Cycle_runPid_373 : decode M_Cycle_runPid.2.1 373 = .ok (.iadd, 1) := by decide +kernel
theorem e_Cycle_runPid_374 : decode M_Cycle_runPid.2.1 374 = .ok (.iaload, 1) := by decide +kernel
theorem e_Cycle_runPid_375 : decode M_Cycle_runPid.2.1 375 = .ok (.goto 5, 3) := by decide +kernel
theorem e_Cycle_runPid_378 : decode M_Cycle_runPid.2.1 378 = .ok (.iload 10, 2) := by decide +kernel
theorem e_Cycle_runPid_380 : decode M_Cycle_runPid.2.1 380 = .ok (.iastore, 1) := by decide +kernel
theorem e_Cycle_runPid_381 : decode M_Cycle_runPid.2.1 381 = .ok (.return_, 1) := by decide +kernel
theorem e_Cycle_runOutput_0 : decode M_Cycle_runOutput.2.1 0 = .ok (.aload_n 0, 1) := by decide +kernel
theorem e_Cycle_runOutput_1 : decode M_Cycle_runOutput.2.1 1 = .ok (.iload_n 1, 1) := by decide +kernel
theorem e_Cycle_runOutput_2 : decode M_Cycle_runOutput.2.1 2 = .ok (.iconst 1, 1) := by decide +kernel
theorem e_Cycle_runOutput_3 : decode M_Cycle_runOutput.2.1 3 = .ok (.iadd, 1) := by decide +kernel
theorem e_Cycle_runOutput_4 : decode M_Cycle_runOutput.2.1 4 = .ok (.iaload, 1) := by decide +kernel
theorem e_Cycle_runOutput_5 : decode M_Cycle_runOutput.2.1 5 = .ok (.istore 4, 2) := by decide +kernel
theorem e_Cycle_runOutput_7 : decode M_Cycle_runOutput.2.1 7 = .ok (.iload 4, 2) := by decide +kernel
theorem e_Cycle_runOutput_9 : decode M_Cycle_runOutput.2.1 9 = .ok (.iconst 3, 1) := by decide +kernel
theorem e_Cycle_runOutput_10 : decode M_Cycle_runOutput.2.1 10 = .ok (.if_icmp .ne 16, 3) := by decide +kernel
theorem e_Cycle_runOutput_13 : decode M_Cycle_runOutput.2.1 13 = .ok (.aload_n 0, 1) := by decide +kernel
theorem e_Cycle_runOutput_14 : decode M_Cycle_runOutput.2.1 14 = .ok (.iload_n 1, 1) := by decide +kernel
theorem e_Cycle_runOutput_15 : decode M_Cycle_runOutput.2.1 15 = .ok (.iconst 2, 1) := by decide +kernel
theorem e_Cycle_runOutput_16 : decode M_Cycle_runOutput.2.1 16 = .ok (.iadd, 1) := by decide +kernel
theorem e_Cycle_runOutput_17 : decode M_Cycle_runOutput.2.1 17 = .ok (.aload_n 0, 1) := by decide +kernel
theorem e_Cycle_runOutput_18 : decode M_Cycle_runOutput.2.1 18 = .ok (.iload_n 2, 1) := by decide +kernel
theorem e_Cycle_runOutput_19 : decode M_Cycle_runOutput.2.1 19 = .ok (.iconst 0, 1) := by decide +kernel
theorem e_Cycle_runOutput_20 : decode M_Cycle_runOutput.2.1 20 = .ok (.iadd, 1) := by decide +kernel
theorem e_Cycle_runOutput_21 : decode M_Cycle_runOutput.2.1 21 = .ok (.iaload, 1) := by decide +kernel
theorem e_Cycle_runOutput_22 : decode M_Cycle_runOutput.2.1 22 = .ok (.iastore, 1) := by decide +kernel
theorem e_Cycle_runOutput_23 : decode M_Cycle_runOutput.2.1 23 = .ok (.goto 19, 3) := by decide +kernel
theorem e_Cycle_runOutput_26 : decode M_Cycle_runOutput.2.1 26 = .ok (.iload 4, 2) := by decide +kernel
theorem e_Cycle_runOutput_28 : decode M_Cycle_runOutput.2.1 28 = .ok (.iconst 1, 1) := by decide +kernel
theorem e_Cycle_runOutput_29 : decode M_Cycle_runOutput.2.1 29 = .ok (.if_icmp .ne 13, 3) := by decide +kernel
theorem e_Cycle_runOutput_32 : decode M_Cycle_runOutput.2.1 32 = .ok (.aload_n 0, 1) := by decide +kernel
theorem e_Cycle_runOutput_33 : decode M_Cycle_runOutput.2.1 33 = .ok (.iload_n 1, 1) := by decide +kernel
theorem e_Cycle_runOutput_34 : decode M_Cycle_runOutput.2.1 34 = .ok (.iconst 2, 1) := by decide +kernel
theorem e_Cycle_runOutput_35 : decode M_Cycle_runOutput.2.1 35 = .ok (.iadd, 1) := by decide +kernel
theorem e_Cycle_runOutput_36 : decode M_Cycle_runOutput.2.1 36 = .ok (.aload_n 0, 1) := by decide +kernel
theorem e_Cycle_runOutput_37 : decode M_Cycle_runOutput.2.1 37 = .ok (.iload_n 1, 1) := by decide +kernel
theorem e_Cycle_runOutput_38 : decode M_Cycle_runOutput.2.1 38 = .ok (.iconst 3, 1) := by decide +kernel
theorem e_Cycle_runOutput_39 : decode M_Cycle_runOutput.2.1 39 = .ok (.iadd, 1) := by decide +kernel
theorem e_Cycle_runOutput_40 : decode M_Cycle_runOutput.2.1 40 = .ok (.iaload, 1) := by decide +kernel
theorem e_Cycle_runOutput_41 : decode M_Cycle_runOutput.2.1 41 = .ok (.iastore, 1) := by decide +kernel
theorem e_Cycle_runOutput_42 : decode M_Cycle_runOutput.2.1 42 = .ok (.iload 4, 2) := by decide +kernel
theorem e_Cycle_runOutput_44 : decode M_Cycle_runOutput.2.1 44 = .ok (.iconst 2, 1) := by decide +kernel
theorem e_Cycle_runOutput_45 : decode M_Cycle_runOutput.2.1 45 = .ok (.if_icmp .eq 9, 3) := by decide +kernel
theorem e_Cycle_runOutput_48 : decode M_Cycle_runOutput.2.1 48 = .ok (.iload 4, 2) := by decide +kernel
theorem e_Cycle_runOutput_50 : decode M_Cycle_runOutput.2.1 50 = .ok (.iconst 3, 1) := by decide +kernel
theorem e_Cycle_runOutput_51 : decode M_Cycle_runOutput.2.1 51 = .ok (.if_icmp .ne 35, 3) := by decide +kernel
theorem e_Cycle_runOutput_54 : decode M_Cycle_runOutput.2.1 54 = .ok (.aload_n 0, 1) := by decide +kernel
theorem e_Cycle_runOutput_55 : decode M_Cycle_runOutput.2.1 55 = .ok (.iload_n 1, 1) := by decide +kernel
theorem e_Cycle_runOutput_56 : decode M_Cycle_runOutput.2.1 56 = .ok (.iconst 2, 1) := by decide +kernel
theorem e_Cycle_runOutput_57 : decode M_Cycle_runOutput.2.1 57 = .ok (.iadd, 1) := by decide +kernel
theorem e_Cycle_runOutput_58 : decode M_Cycle_runOutput.2.1 58 = .ok (.iaload, 1) := by decide +kernel
theorem e_Cycle_runOutput_59 : decode M_Cycle_runOutput.2.1 59 = .ok (.aload_n 0, 1) := by decide +kernel
theorem e_Cycle_runOutput_60 : decode M_Cycle_runOutput.2.1 60 = .ok (.iload_n 1, 1) := by decide +kernel
theorem e_Cycle_runOutput_61 : decode M_Cycle_runOutput.2.1 61 = .ok (.iconst 3, 1) := by decide +kernel
theorem e_Cycle_runOutput_62 : decode M_Cycle_runOutput.2.1 62 = .ok (.iadd, 1) := by decide +kernel
theorem e_Cycle_runOutput_63 : decode M_Cycle_runOutput.2.1 63 = .ok (.iaload, 1) := by decide +kernel
theorem e_Cycle_runOutput_64 : decode M_Cycle_runOutput.2.1 64 = .ok (.isub, 1) := by decide +kernel
theorem e_Cycle_runOutput_65 : decode M_Cycle_runOutput.2.1 65 = .ok (.istore 5, 2) := by decide +kernel
theorem e_Cycle_runOutput_67 : decode M_Cycle_runOutput.2.1 67 = .ok (.aload_n 0, 1) := by decide +kernel
theorem e_Cycle_runOutput_68 : decode M_Cycle_runOutput.2.1 68 = .ok (.iload_n 1, 1) := by decide +kernel
theorem e_Cycle_runOutput_69 : decode M_Cycle_runOutput.2.1 69 = .ok (.iconst 3, 1) := by decide +kernel
theorem e_Cycle_runOutput_70 : decode M_Cycle_runOutput.2.1 70 = .ok (.iadd, 1) := by decide +kernel
theorem e_Cycle_runOutput_71 : decode M_Cycle_runOutput.2.1 71 = .ok (.dup2, 1) := by decide +kernel
theorem e_Cycle_runOutput_72 : decode M_Cycle_runOutput.2.1 72 = .ok (.iaload, 1) := by decide +kernel
theorem e_Cycle_runOutput_73 : decode M_Cycle_runOutput.2.1 73 = .ok (.iload_n 3, 1) := by decide +kernel
theorem e_Cycle_runOutput_74 : decode M_Cycle_runOutput.2.1 74 = .ok (.ineg, 1) := by decide +kernel
theorem e_Cycle_runOutput_75 : decode M_Cycle_runOutput.2.1 75 = .ok (.iload_n 3, 1) := by decide +kernel
theorem e_Cycle_runOutput_76 : decode M_Cycle_runOutput.2.1 76 = .ok (.iload 5, 2) := by decide +kernel
theorem e_Cycle_runOutput_78 : decode M_Cycle_runOutput.2.1 78 = .ok (.invokestatic 112, 3) := by decide +kernel
theorem e_Cycle_runOutput_81 : decode M_Cycle_runOutput.2.1 81 = .ok (.invokestatic 155, 3) := by decide +kernel
theorem e_Cycle_runOutput_84 : decode M_Cycle_runOutput.2.1 84 = .ok (.iadd, 1) := by decide +kernel
theorem e_Cycle_runOutput_85 : decode M_Cycle_runOutput.2.1 85 = .ok (.iastore, 1) := by decide +kernel
theorem e_Cycle_runOutput_86 : decode M_Cycle_runOutput.2.1 86 = .ok (.aload_n 0, 1) := by decide +kernel
theorem e_Cycle_runOutput_87 : decode M_Cycle_runOutput.2.1 87 = .ok (.iload_n 1, 1) := by decide +kernel
theorem e_Cycle_runOutput_88 : decode M_Cycle_runOutput.2.1 88 = .ok (.iconst 5, 1) := by decide +kernel
theorem e_Cycle_runOutput_89 : decode M_Cycle_runOutput.2.1 89 = .ok (.iadd, 1) := by decide +kernel
theorem e_Cycle_runOutput_90 : decode M_Cycle_runOutput.2.1 90 = .ok (.iload 4, 2) := by decide +kernel
theorem e_Cycle_runOutput_92 : decode M_Cycle_runOutput.2.1 92 = .ok (.ifCond .ne 7, 3) := by decide +kernel
theorem e_Cycle_runOutput_95 : decode M_Cycle_runOutput.2.1 95 = .ok (.iconst 0, 1) := by decide +kernel
theorem e_Cycle_runOutput_96 : decode M_Cycle_runOutput.2.1 96 = .ok (.goto 4, 3) := by decide +kernel
theorem e_Cycle_runOutput_99 : decode M_Cycle_runOutput.2.1 99 = .ok (.iconst 1, 1) := by decide +kernel
theorem e_Cycle_runOutput_100 : decode M_Cycle_runOutput.2.1 100 = .ok (.iastore, 1) := by decide +kernel
theorem e_Cycle_runOutput_101 : decode M_Cycle_runOutput.2.1 101 = .ok (.aload_n 0, 1) := by decide +kernel
theorem e_Cycle_runOutput_102 : decode M_Cycle_runOutput.2.1 102 = .ok (.iload_n 1, 1) := by decide +kernel
theorem e_Cycle_runOutput_103 : decode M_Cycle_runOutput.2.1 103 = .ok (.iconst 3, 1) := by decide +kernel
theorem e_Cycle_runOutput_104 : decode M_Cycle_runOutput.2.1 104 = .ok (.iadd, 1) := by decide +kernel
theorem e_Cycle_runOutput_105 : decode M_Cycle_runOutput.2.1 105 = .ok (.iaload, 1) := by decide +kernel
theorem e_Cycle_runOutput_106 : decode M_Cycle_runOutput.2.1 106 = .ok (.istore 5, 2) := by decide +kernel
theorem e_Cycle_runOutput_108 : decode M_Cycle_runOutput.2.1 108 = .ok (.aload_n 0, 1) := by decide +kernel
theorem e_Cycle_runOutput_109 : decode M_Cycle_runOutput.2.1 109 = .ok (.iload_n 1, 1) := by decide +kernel
theorem e_Cycle_runOutput_110 : decode M_Cycle_runOutput.2.1 110 = .ok (.iconst 2, 1) := by decide +kernel
theorem e_Cycle_runOutput_111 : decode M_Cycle_runOutput.2.1 111 = .ok (.iadd, 1) := by decide +kernel
theorem e_Cycle_runOutput_112 : decode M_Cycle_runOutput.2.1 112 = .ok (.iaload, 1) := by decide +kernel
theorem e_Cycle_runOutput_113 : decode M_Cycle_runOutput.2.1 113 = .ok (.istore 6, 2) := by decide +kernel
theorem e_Cycle_runOutput_115 : decode M_Cycle_runOutput.2.1 115 = .ok (.aload_n 0, 1) := by decide +kernel
theorem e_Cycle_runOutput_116 : decode M_Cycle_runOutput.2.1 116 = .ok (.iload_n 1, 1) := by decide +kernel
theorem e_Cycle_runOutput_117 : decode M_Cycle_runOutput.2.1 117 = .ok (.bipush 6, 2) := by decide +kernel
theorem e_Cycle_runOutput_119 : decode M_Cycle_runOutput.2.1 119 = .ok (.iadd, 1) := by decide +kernel
theorem e_Cycle_runOutput_120 : decode M_Cycle_runOutput.2.1 120 = .ok (.iload 5, 2) := by decide +kernel
theorem e_Cycle_runOutput_122 : decode M_Cycle_runOutput.2.1 122 = .ok (.sipush 1000, 3) := by decide +kernel
theorem e_Cycle_runOutput_125 : decode M_Cycle_runOutput.2.1 125 = .ok (.if_icmp .eq 10, 3) := by decide +kernel
theorem e_Cycle_runOutput_128 : decode M_Cycle_runOutput.2.1 128 = .ok (.iload 6, 2) := by decide +kernel
theorem e_Cycle_runOutput_130 : decode M_Cycle_runOutput.2.1 130 = .ok (.iload 5, 2) := by decide +kernel
theorem e_Cycle_runOutput_132 : decode M_Cycle_runOutput.2.1 132 = .ok (.if_icmp .le 7, 3) := by decide +kernel
theorem e_Cycle_runOutput_135 : decode M_Cycle_runOutput.2.1 135 = .ok (.iconst 2, 1) := by decide +kernel
theorem e_Cycle_runOutput_136 : decode M_Cycle_runOutput.2.1 136 = .ok (.goto 20, 3) := by decide +kernel
theorem e_Cycle_runOutput_139 : decode M_Cycle_runOutput.2.1 139 = .ok (.iload 5, 2) := by decide +kernel
theorem e_Cycle_runOutput_141 : decode M_Cycle_runOutput.2.1 141 = .ok (.ifCond .eq 10, 3) := by decide +kernel
theorem e_Cycle_runOutput_144 : decode M_Cycle_runOutput.2.1 144 = .ok (.iload 6, 2) := by decide +kernel
theorem e_Cycle_runOutput_146 : decode M_Cycle_runOutput.2.1 146 = .ok (.iload 5, 2) := by decide +kernel
theorem e_Cycle_runOutput_148 : decode M_Cycle_runOutput.2.1 148 = .ok (.if_icmp .ge 7, 3) := by decide +kernel
theorem e_Cycle_runOutput_151 : decode M_Cycle_runOutput.2.1 151 = .ok (.iconst 1, 1) := by decide +kernel
theorem e_Cycle_runOutput_152 : decode M_Cycle_runOutput.2.1 152 = .ok (.goto 4, 3) := by decide +kernel
theorem e_Cycle_runOutput_155 : decode M_Cycle_runOutput.2.1 155 = .ok (.iconst 0, 1) := by decide +kernel
theorem e_Cycle_runOutput_156 : decode M_Cycle_runOutput.2.1 156 = .ok (.iastore, 1) := by decide +kernel
theorem e_Cycle_runOutput_157 : decode M_Cycle_runOutput.2.1 157 = .ok (.return_, 1) := by decide +kernel
theorem e_Cycle_runPick_0 : decode M_Cycle_runPick.2.1 0 = .ok (.iload_n 2, 1) := by decide +kernel
theorem e_Cycle_runPick_1 : decode M_Cycle_runPick.2.1 1 = .ok (.bipush 9, 2) := by decide +kernel
theorem e_Cycle_runPick_3 : decode M_Cycle_runPick.2.1 3 = .ok (.imul, 1) := by decide +kernel
theorem e_Cycle_runPick_4 : decode M_Cycle_runPick.2.1 4 = .ok (.istore_n 3, 1) := by decide +kernel
theorem e_Cycle_runPick_5 : decode M_Cycle_runPick.2.1 5 = .ok (.aload_n 1, 1) := by decide +kernel
theorem e_Cycle_runPick_6 : decode M_Cycle_runPick.2.1 6 = .ok (.iload_n 3, 1) := by decide +kernel
theorem e_Cycle_runPick_7 : decode M_Cycle_runPick.2.1 7 = .ok (.iconst 5, 1) := by decide +kernel
theorem e_Cycle_runPick_8 : decode M_Cycle_runPick.2.1 8 = .ok (.iadd, 1) := by decide +kernel
theorem e_Cycle_runPick_9 : decode M_Cycle_runPick.2.1 9 = .ok (.aload_n 1, 1) := by decide +kernel
theorem e_Cycle_runPick_10 : decode M_Cycle_runPick.2.1 10 = .ok (.iload_n 3, 1) := by decide +kernel
theorem e_Cycle_runPick_11 : decode M_Cycle_runPick.2.1 11 = .ok (.iconst 1, 1) := by decide +kernel
theorem e_Cycle_runPick_12 : decode M_Cycle_runPick.2.1 12 = .ok (.iadd, 1) := by decide +kernel
theorem e_Cycle_runPick_13 : decode M_Cycle_runPick.2.1 13 = .ok (.iaload, 1) := by decide +kernel
theorem e_Cycle_runPick_14 : decode M_Cycle_runPick.2.1 14 = .ok (.ifCond .ne 7, 3) := by decide +kernel
theorem e_Cycle_runPick_17 : decode M_Cycle_runPick.2.1 17 = .ok (.iconst 0, 1) := by decide +kernel
theorem e_Cycle_runPick_18 : decode M_Cycle_runPick.2.1 18 = .ok (.goto 4, 3) := by decide +kernel
theorem e_Cycle_runPick_21 : decode M_Cycle_runPick.2.1 21 = .ok (.iconst 1, 1) := by decide +kernel
theorem e_Cycle_runPick_22 : decode M_Cycle_runPick.2.1 22 = .ok (.iastore, 1) := by decide +kernel
theorem e_Cycle_runPick_23 : decode M_Cycle_runPick.2.1 23 = .ok (.aload_n 1, 1) := by decide +kernel
theorem e_Cycle_runPick_24 : decode M_Cycle_runPick.2.1 24 = .ok (.iload_n 3, 1) := by decide +kernel
theorem e_Cycle_runPick_25 : decode M_Cycle_runPick.2.1 25 = .ok (.iconst 1, 1) := by decide +kernel
theorem e_Cycle_runPick_26 : decode M_Cycle_runPick.2.1 26 = .ok (.iadd, 1) := by decide +kernel
theorem e_Cycle_runPick_27 : decode M_Cycle_runPick.2.1 27 = .ok (.iaload, 1) := by decide +kernel
theorem e_Cycle_runPick_28 : decode M_Cycle_runPick.2.1 28 = .ok (.iconst 2, 1) := by decide +kernel
theorem e_Cycle_runPick_29 : decode M_Cycle_runPick.2.1 29 = .ok (.if_icmp .eq 4, 3) := by decide +kernel
theorem e_Cycle_runPick_32 : decode M_Cycle_runPick.2.1 32 = .ok (.return_, 1) := by decide +kernel
theorem e_Cycle_runPick_33 : decode M_Cycle_runPick.2.1 33 = .ok (.aload_n 0, 1) := by decide +kernel
theorem e_Cycle_runPick_34 : decode M_Cycle_runPick.2.1 34 = .ok (.iload_n 2, 1) := by decide +kernel
theorem e_Cycle_runPick_35 : decode M_Cycle_runPick.2.1 35 = .ok (.iconst 0, 1) := by decide +kernel
theorem e_Cycle_runPick_36 : decode M_Cycle_runPick.2.1 36 = .ok (.invokevirtual 128, 3) := by decide +kernel
theorem e_Cycle_runPick_39 : decode M_Cycle_runPick.2.1 39 = .ok (.istore 4, 2) := by decide +kernel
theorem e_Cycle_runPick_41 : decode M_Cycle_runPick.2.1 41 = .ok (.aload_n 0, 1) := by decide +kernel
theorem e_Cycle_runPick_42 : decode M_Cycle_runPick.2.1 42 = .ok (.iload_n 2, 1) := by decide +kernel
theorem e_Cycle_runPick_43 : decode M_Cycle_runPick.2.1 43 = .ok (.iconst 1, 1) := by decide +kernel
theorem e_Cycle_runPick_44 : decode M_Cycle_runPick.2.1 44 = .ok (.invokevirtual 128, 3) := by decide +kernel
theorem e_Cycle_runPick_47 : decode M_Cycle_runPick.2.1 47 = .ok (.istore 5, 2) := by decide +kernel
theorem e_Cycle_runPick_49 : decode M_Cycle_runPick.2.1 49 = .ok (.aload_n 1, 1) := by decide +kernel
theorem e_Cycle_runPick_50 : decode M_Cycle_runPick.2.1 50 = .ok (.iload 4, 2) := by decide +kernel
theorem e_Cycle_runPick_52 : decode M_Cycle_runPick.2.1 52 = .ok (.iconst 1, 1) := by decide +kernel
theorem e_Cycle_runPick_53 : decode M_Cycle_runPick.2.1 53 = .ok (.iadd, 1) := by decide +kernel
theorem e_Cycle_runPick_54 : decode M_Cycle_runPick.2.1 54 = .ok (.iaload, 1) := by decide +kernel
theorem e_Cycle_runPick_55 : decode M_Cycle_runPick.2.1 55 = .ok (.iconst 1, 1) := by decide +kernel
theorem e_Cycle_runPick_56 : decode M_Cycle_runPick.2.1 56 = .ok (.if_icmp .ne 7, 3) := by decide +kernel
theorem e_Cycle_runPick_59 : decode M_Cycle_runPick.2.1 59 = .ok (.iconst 1, 1) := by decide +kernel
theorem e_Cycle_runPick_60 : decode M_Cycle_runPick.2.1 60 = .ok (.goto 4, 3) := by decide +kernel
theorem e_Cycle_runPick_63 : decode M_Cycle_runPick.2.1 63 = .ok (.iconst 0, 1) := by decide +kernel
theorem e_Cycle_runPick_64 : decode M_Cycle_runPick.2.1 64 = .ok (.istore 6, 2) := by decide +kernel
theorem e_Cycle_runPick_66 : decode M_Cycle_runPick.2.1 66 = .ok (.aload_n 1, 1) := by decide +kernel
theorem e_Cycle_runPick_67 : decode M_Cycle_runPick.2.1 67 = .ok (.iload 5, 2) := by decide +kernel
theorem e_Cycle_runPick_69 : decode M_Cycle_runPick.2.1 69 = .ok (.iconst 1, 1) := by decide +kernel
theorem e_Cycle_runPick_70 : decode M_Cycle_runPick.2.1 70 = .ok (.iadd, 1) := by decide +kernel
theorem e_Cycle_runPick_71 : decode M_Cycle_runPick.2.1 71 = .ok (.iaload, 1) := by decide +kernel
theorem e_Cycle_runPick_72 : decode M_Cycle_runPick.2.1 72 = .ok (.iconst 1, 1) := by decide +kernel
theorem e_Cycle_runPick_73 : decode M_Cycle_runPick.2.1 73 = .ok (.if_icmp .ne 7, 3) := by decide +kernel
theorem e_Cycle_runPick_76 : decode M_Cycle_runPick.2.1 76 = .ok (.iconst 1, 1) := by decide +kernel
theorem e_Cycle_runPick_77 : decode M_Cycle_runPick.2.1 77 = .ok (.goto 4, 3) := by decide +kernel
theorem e_Cycle_runPick_80 : decode M_Cycle_runPick.2.1 80 = .ok (.iconst 0, 1) := by decide +kernel
theorem e_Cycle_runPick_81 : decode M_Cycle_runPick.2.1 81 = .ok (.istore 7, 2) := by decide +kernel
theorem e_Cycle_runPick_83 : decode M_Cycle_runPick.2.1 83 = .ok (.iload 6, 2) := by decide +kernel
theorem e_Cycle_runPick_85 : decode M_Cycle_runPick.2.1 85 = .ok (.ifCond .eq 58, 3) := by decide +kernel
theorem e_Cycle_runPick_88 : decode M_Cycle_runPick.2.1 88 = .ok (.iload 7, 2) := by decide +kernel
theorem e_Cycle_runPick_90 : decode M_Cycle_runPick.2.1 90 = .ok (.ifCond .eq 53, 3) := by decide +kernel
theorem e_Cycle_runPick_93 : decode M_Cycle_runPick.2.1 93 = .ok (.aload_n 1, 1) := by decide +kernel
theorem e_Cycle_runPick_94 : decode M_Cycle_runPick.2.1 94 = .ok (.iload_n 3, 1) := by decide +kernel
theorem e_Cycle_runPick_95 : decode M_Cycle_runPick.2.1 95 = .ok (.iconst 3, 1) := by decide +kernel
theorem e_Cycle_runPick_96 : decode M_Cycle_runPick.2.1 96 = .ok (.iadd, 1) := by decide +kernel
theorem e_Cycle_runPick_97 : decode M_Cycle_runPick.2.1 97 = .ok (.aload_n 0, 1) := by decide +kernel
theorem e_Cycle_runPick_98 : decode M_Cycle_runPick.2.1 98 = .ok (.getfield 152, 3) := by decide +kernel
theorem e_Cycle_runPick_101 : decode M_Cycle_runPick.2.1 101 = .ok (.iload_n 2, 1) := by decide +kernel
theorem e_Cycle_runPick_102 : decode M_Cycle_runPick.2.1 102 = .ok (.baload, 1) := by decide +kernel
theorem e_Cycle_runPick_103 : decode M_Cycle_runPick.2.1 103 = .ok (.ifCond .eq 21, 3) := by decide +kernel
theorem e_Cycle_runPick_106 : decode M_Cycle_runPick.2.1 106 = .ok (.aload_n 1, 1) := by decide +kernel
theorem e_Cycle_runPick_107 : decode M_Cycle_runPick.2.1 107 = .ok (.iload 4, 2) := by decide +kernel
theorem e_Cycle_runPick_109 : decode M_Cycle_runPick.2.1 109 = .ok (.iconst 0, 1) := by decide +kernel
theorem e_Cycle_runPick_110 : decode M_Cycle_runPick.2.1 110 = .ok (.iadd, 1) := by decide +kernel
theorem e_Cycle_runPick_111 : decode M_Cycle_runPick.2.1 111 = .ok (.iaload, 1) := by decide +kernel
theorem e_Cycle_runPick_112 : decode M_Cycle_runPick.2.1 112 = .ok (.aload_n 1, 1) := by decide +kernel
theorem e_Cycle_runPick_113 : decode M_Cycle_runPick.2.1 113 = .ok (.iload 5, 2) := by decide +kernel
theorem e_Cycle_runPick_115 : decode M_Cycle_runPick.2.1 115 = .ok (.iconst 0, 1) := by decide +kernel
theorem e_Cycle_runPick_116 : decode M_Cycle_runPick.2.1 116 = .ok (.iadd, 1) := by decide +kernel
theorem e_Cycle_runPick_117 : decode M_Cycle_runPick.2.1 117 = .ok (.iaload, 1) := by decide +kernel
theorem e_Cycle_runPick_118 : decode M_Cycle_runPick.2.1 118 = .ok (.invokestatic 155, 3) := by decide +kernel
theorem e_Cycle_runPick_121 : decode M_Cycle_runPick.2.1 121 = .ok (.goto 18, 3) := by decide +kernel
theorem e_Cycle_runPick_124 : decode M_Cycle_runPick.2.1 124 = .ok (.aload_n 1, 1) := by decide +kernel
theorem e_Cycle_runPick_125 : decode M_Cycle_runPick.2.1 125 = .ok (.iload 4, 2) := by decide +kernel
theorem e_Cycle_runPick_127 : decode M_Cycle_runPick.2.1 127 = .ok (.iconst 0, 1) := by decide +kernel
theorem e_Cycle_runPick_128 : decode M_Cycle_runPick.2.1 128 = .ok (.iadd, 1) := by decide +kernel
theorem e_Cycle_runPick_129 : decode M_Cycle_runPick.2.1 129 = .ok (.iaload, 1) := by decide +kernel
theorem e_Cycle_runPick_130 : decode M_Cycle_runPick.2.1 130 = .ok (.aload_n 1, 1) := by decide +kernel
theorem e_Cycle_runPick_131 : decode M_Cycle_runPick.2.1 131 = .ok (.iload 5, 2) := by decide +kernel
theorem e_Cycle_runPick_133 : decode M_Cycle_runPick.2.1 133 = .ok (.iconst 0, 1) := by decide +kernel
theorem e_Cycle_runPick_134 : decode M_Cycle_runPick.2.1 134 = .ok (.iadd, 1) := by decide +kernel
theorem e_Cycle_runPick_135 : decode M_Cycle_runPick.2.1 135 = .ok (.iaload, 1) := by decide +kernel
theorem e_Cycle_runPick_136 : decode M_Cycle_runPick.2.1 136 = .ok (.invokestatic 112, 3) := by decide +kernel
theorem e_Cycle_runPick_139 : decode M_Cycle_runPick.2.1 139 = .ok (.iastore, 1) := by decide +kernel
theorem e_Cycle_runPick_140 : decode M_Cycle_runPick.2.1 140 = .ok (.goto 47, 3) := by decide +kernel
theorem e_Cycle_runPick_143 : decode M_Cycle_runPick.2.1 143 = .ok (.iload 6, 2) := by decide +kernel
theorem e_Cycle_runPick_145 : decode M_Cycle_runPick.2.1 145 = .ok (.ifCond .eq 17, 3) := by decide +kernel
theorem e_Cycle_runPick_148 : decode M_Cycle_runPick.2.1 148 = .ok (.aload_n 1, 1) := by decide +kernel
theorem e_Cycle_runPick_149 : decode M_Cycle_runPick.2.1 149 = .ok (.iload_n 3, 1) := by decide +kernel
theorem e_Cycle_runPick_150 : decode M_Cycle_runPick.2.1 150 = .ok (.iconst 3, 1) := by decide +kernel
theorem e_Cycle_runPick_151 : decode M_Cycle_runPick.2.1 151 = .ok (.iadd, 1) := by decide +kernel
theorem e_Cycle_runPick_152 : decode M_Cycle_runPick.2.1 152 = .ok (.aload_n 1, 1) := by decide +kernel
theorem e_Cycle_runPick_153 : decode M_Cycle_runPick.2.1 153 = .ok (.iload 4, 2) := by decide +kernel
theorem e_Cycle_runPick_155 : decode M_Cycle_runPick.2.1 155 = .ok (.iconst 0, 1) := by decide +kernel
theorem e_Cycle_runPick_156 : decode M_Cycle_runPick.2.1 156 = .ok (.iadd, 1) := by decide +kernel
theorem e_Cycle_runPick_157 : decode M_Cycle_runPick.2.1 157 = .ok (.iaload, 1) := by decide +kernel
theorem e_Cycle_runPick_158 : decode M_Cycle_runPick.2.1 158 = .ok (.iastore, 1) := by decide +kernel
theorem e_Cycle_runPick_159 : decode M_Cycle_runPick.2.1 159 = .ok (.goto 28, 3) := by decide +kernel
theorem e_Cycle_runPick_162 : decode M_Cycle_runPick.2.1 162 = .ok (.iload 7, 2) := by decide +kernel
theorem e_Cycle_runPick_164 : decode M_Cycle_runPick.2.1 164 = .ok (.ifCond .eq 17, 3) := by decide +kernel
theorem e_Cycle_runPick_167 : decode M_Cycle_runPick.2.1 167 = .ok (.aload_n 1, 1) := by decide +kernel
theorem e_Cycle_runPick_168 : decode M_Cycle_runPick.2.1 168 = .ok (.iload_n 3, 1) := by decide +kernel
theorem e_Cycle_runPick_169 : decode M_Cycle_runPick.2.1 169 = .ok (.iconst 3, 1) := by decide +kernel
theorem e_Cycle_runPick_170 : decode M_Cycle_runPick.2.1 170 = .ok (.iadd, 1) := by decide +kernel
theorem e_Cycle_runPick_171 : decode M_Cycle_runPick.2.1 171 = .ok (.aload_n 1, 1) := by decide +kernel
theorem e_Cycle_runPick_172 : decode M_Cycle_runPick.2.1 172 = .ok (.iload 5, 2) := by decide +kernel
theorem e_Cycle_runPick_174 : decode M_Cycle_runPick.2.1 174 = .ok (.iconst 0, 1) := by decide +kernel
theorem e_Cycle_runPick_175 : decode M_Cycle_runPick.2.1 175 = .ok (.iadd, 1) := by decide +kernel
theorem e_Cycle_runPick_176 : decode M_Cycle_runPick.2.1 176 = .ok (.iaload, 1) := by decide +kernel
theorem e_Cycle_runPick_177 : decode M_Cycle_runPick.2.1 177 = .ok (.iastore, 1) := by decide +kernel
theorem e_Cycle_runPick_178 : decode M_Cycle_runPick.2.1 178 = .ok (.goto 9, 3) := by decide +kernel
theorem e_Cycle_runPick_181 : decode M_Cycle_runPick.2.1 181 = .ok (.aload_n 1, 1) := by decide +kernel
theorem e_Cycle_runPick_182 : decode M_Cycle_runPick.2.1 182 = .ok (.iload_n 3, 1) := by decide +kernel
theorem e_Cycle_runPick_183 : decode M_Cycle_runPick.2.1 183 = .ok (.iconst 5, 1) := by decide +kernel
theorem e_Cycle_runPick_184 : decode M_Cycle_runPick.2.1 184 = .ok (.iadd, 1) := by decide +kernel
theorem e_Cycle_runPick_185 : decode M_Cycle_runPick.2.1 185 = .ok (.iconst 0, 1) := by decide +kernel
theorem e_Cycle_runPick_186 : decode M_Cycle_runPick.2.1 186 = .ok (.iastore, 1) := by decide +kernel
theorem e_Cycle_runPick_187 : decode M_Cycle_runPick.2.1 187 = .ok (.return_, 1) := by decide +kernel
theorem e_Cycle_bringBack_0 : decode M_Cycle_bringBack.2.1 0 = .ok (.aload_n 0, 1) := by decide +kernel
theorem e_Cycle_bringBack_1 : decode M_Cycle_bringBack.2.1 1 = .ok (.getfield 51, 3) := by decide +kernel
theorem e_Cycle_bringBack_4 : decode M_Cycle_bringBack.2.1 4 = .ok (.getfield 101, 3) := by decide +kernel
theorem e_Cycle_bringBack_7 : decode M_Cycle_bringBack.2.1 7 = .ok (.iload_n 2, 1) := by decide +kernel
theorem e_Cycle_bringBack_8 : decode M_Cycle_bringBack.2.1 8 = .ok (.iaload, 1) := by decide +kernel
theorem e_Cycle_bringBack_9 : decode M_Cycle_bringBack.2.1 9 = .ok (.istore_n 3, 1) := by decide +kernel
theorem e_Cycle_bringBack_10 : decode M_Cycle_bringBack.2.1 10 = .ok (.sipush 155, 3) := by decide +kernel
theorem e_Cycle_bringBack_13 : decode M_Cycle_bringBack.2.1 13 = .ok (.iload_n 2, 1) := by decide +kernel
theorem e_Cycle_bringBack_14 : decode M_Cycle_bringBack.2.1 14 = .ok (.iconst 5, 1) := by decide +kernel
theorem e_Cycle_bringBack_15 : decode M_Cycle_bringBack.2.1 15 = .ok (.imul, 1) := by decide +kernel
theorem e_Cycle_bringBack_16 : decode M_Cycle_bringBack.2.1 16 = .ok (.iadd, 1) := by decide +kernel
theorem e_Cycle_bringBack_17 : decode M_Cycle_bringBack.2.1 17 = .ok (.istore 4, 2) := by decide +kernel
theorem e_Cycle_bringBack_19 : decode M_Cycle_bringBack.2.1 19 = .ok (.aload_n 1, 1) := by decide +kernel
theorem e_Cycle_bringBack_20 : decode M_Cycle_bringBack.2.1 20 = .ok (.aload_n 0, 1) := by decide +kernel
theorem e_Cycle_bringBack_21 : decode M_Cycle_bringBack.2.1 21 = .ok (.getfield 41, 3) := by decide +kernel
theorem e_Cycle_bringBack_24 : decode M_Cycle_bringBack.2.1 24 = .ok (.iload_n 3, 1) := by decide +kernel
theorem e_Cycle_bringBack_25 : decode M_Cycle_bringBack.2.1 25 = .ok (.iaload, 1) := by decide +kernel
theorem e_Cycle_bringBack_26 : decode M_Cycle_bringBack.2.1 26 = .ok (.aload_n 0, 1) := by decide +kernel
theorem e_Cycle_bringBack_27 : decode M_Cycle_bringBack.2.1 27 = .ok (.getfield 41, 3) := by decide +kernel
theorem e_Cycle_bringBack_30 : decode M_Cycle_bringBack.2.1 30 = .ok (.aload_n 0, 1) := by decide +kernel
theorem e_Cycle_bringBack_31 : decode M_Cycle_bringBack.2.1 31 = .ok (.getfield 51, 3) := by decide +kernel
theorem e_Cycle_bringBack_34 : decode M_Cycle_bringBack.2.1 34 = .ok (.getfield 98, 3) := by decide +kernel
theorem e_Cycle_bringBack_37 : decode M_Cycle_bringBack.2.1 37 = .ok (.iload_n 2, 1) := by decide +kernel
theorem e_Cycle_bringBack_38 : decode M_Cycle_bringBack.2.1 38 = .ok (.iaload, 1) := by decide +kernel
theorem e_Cycle_bringBack_39 : decode M_Cycle_bringBack.2.1 39 = .ok (.iaload, 1) := by decide +kernel
theorem e_Cycle_bringBack_40 : decode M_Cycle_bringBack.2.1 40 = .ok (.invokestatic 104, 3) := by decide +kernel
theorem e_Cycle_bringBack_43 : decode M_Cycle_bringBack.2.1 43 = .ok (.ifCond .ne 10, 3) := by decide +kernel
theorem e_Cycle_bringBack_46 : decode M_Cycle_bringBack.2.1 46 = .ok (.aload_n 1, 1) := by decide +kernel
theorem e_Cycle_bringBack_47 : decode M_Cycle_bringBack.2.1 47 = .ok (.iload 4, 2) := by decide +kernel
theorem e_Cycle_bringBack_49 : decode M_Cycle_bringBack.2.1 49 = .ok (.invokestatic 108, 3) := by decide +kernel
theorem e_Cycle_bringBack_52 : decode M_Cycle_bringBack.2.1 52 = .ok (.return_, 1) := by decide +kernel
theorem e_Cycle_bringBack_53 : decode M_Cycle_bringBack.2.1 53 = .ok (.iload_n 3, 1) := by decide +kernel
theorem e_Cycle_bringBack_54 : decode M_Cycle_bringBack.2.1 54 = .ok (.bipush 9, 2) := by decide +kernel
theorem e_Cycle_bringBack_56 : decode M_Cycle_bringBack.2.1 56 = .ok (.imul, 1) := by decide +kernel
theorem e_Cycle_bringBack_57 : decode M_Cycle_bringBack.2.1 57 = .ok (.istore 5, 2) := by decide +kernel
theorem e_Cycle_bringBack_59 : decode M_Cycle_bringBack.2.1 59 = .ok (.aload_n 1, 1) := by decide +kernel
theorem e_Cycle_bringBack_60 : decode M_Cycle_bringBack.2.1 60 = .ok (.iload 4, 2) := by decide +kernel
theorem e_Cycle_bringBack_62 : decode M_Cycle_bringBack.2.1 62 = .ok (.iconst 0, 1) := by decide +kernel
theorem e_Cycle_bringBack_63 : decode M_Cycle_bringBack.2.1 63 = .ok (.iadd, 1) := by decide +kernel
theorem e_Cycle_bringBack_64 : decode M_Cycle_bringBack.2.1 64 = .ok (.aload_n 1, 1) := by decide +kernel
theorem e_Cycle_bringBack_65 : decode M_Cycle_bringBack.2.1 65 = .ok (.iload 5, 2) := by decide +kernel
theorem e_Cycle_bringBack_67 : decode M_Cycle_bringBack.2.1 67 = .ok (.aload_n 0, 1) := by decide +kernel
theorem e_Cycle_bringBack_68 : decode M_Cycle_bringBack.2.1 68 = .ok (.getfield 89, 3) := by decide +kernel
theorem e_Cycle_bringBack_71 : decode M_Cycle_bringBack.2.1 71 = .ok (.iload_n 3, 1) := by decide +kernel
theorem e_Cycle_bringBack_72 : decode M_Cycle_bringBack.2.1 72 = .ok (.iaload, 1) := by decide +kernel
theorem e_Cycle_bringBack_73 : decode M_Cycle_bringBack.2.1 73 = .ok (.iconst 1, 1) := by decide +kernel
theorem e_Cycle_bringBack_74 : decode M_Cycle_bringBack.2.1 74 = .ok (.if_icmp .ne 7, 3) := by decide +kernel
theorem e_Cycle_bringBack_77 : decode M_Cycle_bringBack.2.1 77 = .ok (.iconst 2, 1) := by decide +kernel
theorem e_Cycle_bringBack_78 : decode M_Cycle_bringBack.2.1 78 = .ok (.goto 4, 3) := by decide +kernel
theorem e_Cycle_bringBack_81 : decode M_Cycle_bringBack.2.1 81 = .ok (.iconst 3, 1) := by decide +kernel
theorem e_Cycle_bringBack_82 : decode M_Cycle_bringBack.2.1 82 = .ok (.iadd, 1) := by decide +kernel
theorem e_Cycle_bringBack_83 : decode M_Cycle_bringBack.2.1 83 = .ok (.iaload, 1) := by decide +kernel
theorem e_Cycle_bringBack_84 : decode M_Cycle_bringBack.2.1 84 = .ok (.iastore, 1) := by decide +kernel
theorem e_Cycle_bringBack_85 : decode M_Cycle_bringBack.2.1 85 = .ok (.aload_n 1, 1) := by decide +kernel
theorem e_Cycle_bringBack_86 : decode M_Cycle_bringBack.2.1 86 = .ok (.iload 4, 2) := by decide +kernel
theorem e_Cycle_bringBack_88 : decode M_Cycle_bringBack.2.1 88 = .ok (.iconst 1, 1) := by decide +kernel
theorem e_Cycle_bringBack_89 : decode M_Cycle_bringBack.2.1 89 = .ok (.iadd, 1) := by decide +kernel
theorem e_Cycle_bringBack_90 : decode M_Cycle_bringBack.2.1 90 = .ok (.aload_n 1, 1) := by decide +kernel
theorem e_Cycle_bringBack_91 : decode M_Cycle_bringBack.2.1 91 = .ok (.iload 5, 2) := by decide +kernel
theorem e_Cycle_bringBack_93 : decode M_Cycle_bringBack.2.1 93 = .ok (.iconst 1, 1) := by decide +kernel
theorem e_Cycle_bringBack_94 : decode M_Cycle_bringBack.2.1 94 = .ok (.iadd, 1) := by decide +kernel
theorem e_Cycle_bringBack_95 : decode M_Cycle_bringBack.2.1 95 = .ok (.iaload, 1) := by decide +kernel
theorem e_Cycle_bringBack_96 : decode M_Cycle_bringBack.2.1 96 = .ok (.ifCond .ne 7, 3) := by decide +kernel
theorem e_Cycle_bringBack_99 : decode M_Cycle_bringBack.2.1 99 = .ok (.iconst 0, 1) := by decide +kernel
theorem e_Cycle_bringBack_100 : decode M_Cycle_bringBack.2.1 100 = .ok (.goto 4, 3) := by decide +kernel
theorem e_Cycle_bringBack_103 : decode M_Cycle_bringBack.2.1 103 = .ok (.iconst 1, 1) := by decide +kernel
theorem e_Cycle_bringBack_104 : decode M_Cycle_bringBack.2.1 104 = .ok (.iastore, 1) := by decide +kernel
theorem e_Cycle_bringBack_105 : decode M_Cycle_bringBack.2.1 105 = .ok (.aload_n 1, 1) := by decide +kernel
theorem e_Cycle_bringBack_106 : decode M_Cycle_bringBack.2.1 106 = .ok (.iload 4, 2) := by decide +kernel
theorem e_Cycle_bringBack_108 : decode M_Cycle_bringBack.2.1 108 = .ok (.iconst 2, 1) := by decide +kernel
theorem e_Cycle_bringBack_109 : decode M_Cycle_bringBack.2.1 109 = .ok (.iadd, 1) := by decide +kernel
theorem e_Cycle_bringBack_110 : decode M_Cycle_bringBack.2.1 110 = .ok (.aload_n 1, 1) := by decide +kernel
theorem e_Cycle_bringBack_111 : decode M_Cycle_bringBack.2.1 111 = .ok (.iload 5, 2) := by decide +kernel
theorem e_Cycle_bringBack_113 : decode M_Cycle_bringBack.2.1 113 = .ok (.bipush 6, 2) := by decide +kernel
theorem e_Cycle_bringBack_115 : decode M_Cycle_bringBack.2.1 115 = .ok (.iadd, 1) := by decide +kernel
theorem e_Cycle_bringBack_116 : decode M_Cycle_bringBack.2.1 116 = .ok (.iaload, 1) := by decide +kernel
theorem e_Cycle_bringBack_117 : decode M_Cycle_bringBack.2.1 117 = .ok (.iastore, 1) := by decide +kernel
theorem e_Cycle_bringBack_118 : decode M_Cycle_bringBack.2.1 118 = .ok (.aload_n 1, 1) := by decide +kernel
theorem e_Cycle_bringBack_119 : decode M_Cycle_bringBack.2.1 119 = .ok (.iload 4, 2) := by decide +kernel
theorem e_Cycle_bringBack_121 : decode M_Cycle_bringBack.2.1 121 = .ok (.iconst 3, 1) := by decide +kernel
theorem e_Cycle_bringBack_122 : decode M_Cycle_bringBack.2.1 122 = .ok (.iadd, 1) := by decide +kernel
theorem e_Cycle_bringBack_123 : decode M_Cycle_bringBack.2.1 123 = .ok (.aload_n 1, 1) := by decide +kernel
theorem e_Cycle_bringBack_124 : decode M_Cycle_bringBack.2.1 124 = .ok (.iload 5, 2) := by decide +kernel
theorem e_Cycle_bringBack_126 : decode M_Cycle_bringBack.2.1 126 = .ok (.iconst 1, 1) := by decide +kernel
theorem e_Cycle_bringBack_127 : decode M_Cycle_bringBack.2.1 127 = .ok (.iadd, 1) := by decide +kernel
theorem e_Cycle_bringBack_128 : decode M_Cycle_bringBack.2.1 128 = .ok (.iaload, 1) := by decide +kernel
theorem e_Cycle_bringBack_129 : decode M_Cycle_bringBack.2.1 129 = .ok (.iconst 3, 1) := by decide +kernel
theorem e_Cycle_bringBack_130 : decode M_Cycle_bringBack.2.1 130 = .ok (.if_icmp .ne 7, 3) := by decide +kernel
theorem e_Cycle_bringBack_133 : decode M_Cycle_bringBack.2.1 133 = .ok (.iconst 0, 1) := by decide +kernel
theorem e_Cycle_bringBack_134 : decode M_Cycle_bringBack.2.1 134 = .ok (.goto 4, 3) := by decide +kernel
theorem e_Cycle_bringBack_137 : decode M_Cycle_bringBack.2.1 137 = .ok (.iconst 1, 1) := by decide +kernel
theorem e_Cycle_bringBack_138 : decode M_Cycle_bringBack.2.1 138 = .ok (.iastore, 1) := by decide +kernel
theorem e_Cycle_bringBack_139 : decode M_Cycle_bringBack.2.1 139 = .ok (.aload_n 1, 1) := by decide +kernel
theorem e_Cycle_bringBack_140 : decode M_Cycle_bringBack.2.1 140 = .ok (.iload 4, 2) := by decide +kernel
theorem e_Cycle_bringBack_142 : decode M_Cycle_bringBack.2.1 142 = .ok (.iconst 4, 1) := by decide +kernel
theorem e_Cycle_bringBack_143 : decode M_Cycle_bringBack.2.1 143 = .ok (.iadd, 1) := by decide +kernel
theorem e_Cycle_bringBack_144 : decode M_Cycle_bringBack.2.1 144 = .ok (.iconst 0, 1) := by decide +kernel
theorem e_Cycle_bringBack_145 : decode M_Cycle_bringBack.2.1 145 = .ok (.iastore, 1) := by decide +kernel
theorem e_Cycle_bringBack_146 : decode M_Cycle_bringBack.2.1 146 = .ok (.return_, 1) := by decide +kernel
