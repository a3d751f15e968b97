/-! instructions of Mod (written by wip/whole/gen_dec.py) -/
theorem e_Mod_goes_2 : decode M_Mod_goes.2.1 2 = .ok (.iload_n 3, 1) := by decide +kernel
theorem e_Mod_goes_3 : decode M_Mod_goes.2.1 3 = .ok (.iload_n 2, 1) := by decide +kernel
theorem e_Mod_goes_4 : decode M_Mod_goes.2.1 4 = .ok (.if_icmp .ge 14, 3) := by decide +kernel
theorem e_Mod_goes_7 : decode M_Mod_goes.2.1 7 = .ok (.aload_n 0, 1) := by decide +kernel
theorem e_Mod_goes_8 : decode M_Mod_goes.2.1 8 = .ok (.iload_n 1, 1) := by decide +kernel
theorem e_Mod_goes_9 : decode M_Mod_goes.2.1 9 = .ok (.invokevirtual 270, 3) := by decide +kernel
theorem e_Mod_goes_12 : decode M_Mod_goes.2.1 12 = .ok (.iinc 3 1, 3) := by decide +kernel
theorem e_Mod_goes_15 : decode M_Mod_goes.2.1 15 = .ok (.goto (-13), 3) := by decide +kernel
theorem e_Mod_goes_18 : decode M_Mod_goes.2.1 18 = .ok (.return_, 1) := by decide +kernel
theorem e_Mod_cycle_0 : decode M_Mod_cycle.2.1 0 = .ok (.iconst 0, 1) := by decide +kernel
theorem e_Mod_cycle_1 : decode M_Mod_cycle.2.1 1 = .ok (.istore_n 2, 1) := by decide +kernel
theorem e_Mod_cycle_2 : decode M_Mod_cycle.2.1 2 = .ok (.iload_n 2, 1) := by decide +kernel
theorem e_Mod_cycle_3 : decode M_Mod_cycle.2.1 3 = .ok (.iconst 4, 1) := by decide +kernel
theorem e_Mod_cycle_4 : decode M_Mod_cycle.2.1 4 = .ok (.if_icmp .ge 88, 3) := by decide +kernel
theorem e_Mod_cycle_7 : decode M_Mod_cycle.2.1 7 = .ok (.aload_n 0, 1) := by decide +kernel
theorem e_Mod_cycle_8 : decode M_Mod_cycle.2.1 8 = .ok (.getfield 43, 3) := by decide +kernel
theorem e_Mod_cycle_11 : decode M_Mod_cycle.2.1 11 = .ok (.iload_n 2, 1) := by decide +kernel
theorem e_Mod_cycle_12 : decode M_Mod_cycle.2.1 12 = .ok (.iaload, 1) := by decide +kernel
theorem e_Mod_cycle_13 : decode M_Mod_cycle.2.1 13 = .ok (.iconst (-1), 1) := by decide +kernel
theorem e_Mod_cycle_14 : decode M_Mod_cycle.2.1 14 = .ok (.if_icmp .eq 72, 3) := by decide +kernel
theorem e_Mod_cycle_17 : decode M_Mod_cycle.2.1 17 = .ok (.aload_n 0, 1) := by decide +kernel
theorem e_Mod_cycle_18 : decode M_Mod_cycle.2.1 18 = .ok (.getfield 9, 3) := by decide +kernel
theorem e_Mod_cycle_21 : decode M_Mod_cycle.2.1 21 = .ok (.iload_n 1, 1) := by decide +kernel
theorem e_Mod_cycle_22 : decode M_Mod_cycle.2.1 22 = .ok (.sipush 200, 3) := by decide +kernel
theorem e_Mod_cycle_25 : decode M_Mod_cycle.2.1 25 = .ok (.iadd, 1) := by decide +kernel
theorem e_Mod_cycle_26 : decode M_Mod_cycle.2.1 26 = .ok (.iload_n 2, 1) := by decide +kernel
theorem e_Mod_cycle_27 : decode M_Mod_cycle.2.1 27 = .ok (.iadd, 1) := by decide +kernel
theorem e_Mod_cycle_28 : decode M_Mod_cycle.2.1 28 = .ok (.aload_n 0, 1) := by decide +kernel
theorem e_Mod_cycle_29 : decode M_Mod_cycle.2.1 29 = .ok (.getfield 9, 3) := by decide +kernel
theorem e_Mod_cycle_32 : decode M_Mod_cycle.2.1 32 = .ok (.iload_n 1, 1) := by decide +kernel
theorem e_Mod_cycle_33 : decode M_Mod_cycle.2.1 33 = .ok (.sipush 200, 3) := by decide +kernel
theorem e_Mod_cycle_36 : decode M_Mod_cycle.2.1 36 = .ok (.iadd, 1) := by decide +kernel
theorem e_Mod_cycle_37 : decode M_Mod_cycle.2.1 37 = .ok (.iload_n 2, 1) := by decide +kernel
theorem e_Mod_cycle_38 : decode M_Mod_cycle.2.1 38 = .ok (.iadd, 1) := by decide +kernel
theorem e_Mod_cycle_39 : decode M_Mod_cycle.2.1 39 = .ok (.iaload, 1) := by decide +kernel
theorem e_Mod_cycle_40 : decode M_Mod_cycle.2.1 40 = .ok (.aload_n 0, 1) := by decide +kernel
theorem e_Mod_cycle_41 : decode M_Mod_cycle.2.1 41 = .ok (.iload_n 1, 1) := by decide +kernel
theorem e_Mod_cycle_42 : decode M_Mod_cycle.2.1 42 = .ok (.aload_n 0, 1) := by decide +kernel
theorem e_Mod_cycle_43 : decode M_Mod_cycle.2.1 43 = .ok (.getfield 43, 3) := by decide +kernel
theorem e_Mod_cycle_46 : decode M_Mod_cycle.2.1 46 = .ok (.iload_n 2, 1) := by decide +kernel
theorem e_Mod_cycle_47 : decode M_Mod_cycle.2.1 47 = .ok (.iaload, 1) := by decide +kernel
theorem e_Mod_cycle_48 : decode M_Mod_cycle.2.1 48 = .ok (.invokevirtual 255, 3) := by decide +kernel
theorem e_Mod_cycle_51 : decode M_Mod_cycle.2.1 51 = .ok (.aload_n 0, 1) := by decide +kernel
theorem e_Mod_cycle_52 : decode M_Mod_cycle.2.1 52 = .ok (.getfield 46, 3) := by decide +kernel
theorem e_Mod_cycle_55 : decode M_Mod_cycle.2.1 55 = .ok (.iload_n 2, 1) := by decide +kernel
theorem e_Mod_cycle_56 : decode M_Mod_cycle.2.1 56 = .ok (.iaload, 1) := by decide +kernel
theorem e_Mod_cycle_57 : decode M_Mod_cycle.2.1 57 = .ok (.imul, 1) := by decide +kernel
theorem e_Mod_cycle_58 : decode M_Mod_cycle.2.1 58 = .ok (.bipush 100, 2) := by decide +kernel
theorem e_Mod_cycle_60 : decode M_Mod_cycle.2.1 60 = .ok (.idiv, 1) := by decide +kernel
theorem e_Mod_cycle_61 : decode M_Mod_cycle.2.1 61 = .ok (.aload_n 0, 1) := by decide +kernel
theorem e_Mod_cycle_62 : decode M_Mod_cycle.2.1 62 = .ok (.getfield 9, 3) := by decide +kernel
theorem e_Mod_cycle_65 : decode M_Mod_cycle.2.1 65 = .ok (.iload_n 1, 1) := by decide +kernel
theorem e_Mod_cycle_66 : decode M_Mod_cycle.2.1 66 = .ok (.sipush 200, 3) := by decide +kernel
theorem e_Mod_cycle_69 : decode M_Mod_cycle.2.1 69 = .ok (.iadd, 1) := by decide +kernel
theorem e_Mod_cycle_70 : decode M_Mod_cycle.2.1 70 = .ok (.iload_n 2, 1) := by decide +kernel
theorem e_Mod_cycle_71 : decode M_Mod_cycle.2.1 71 = .ok (.iadd, 1) := by decide +kernel
theorem e_Mod_cycle_72 : decode M_Mod_cycle.2.1 72 = .ok (.iaload, 1) := by decide +kernel
theorem e_Mod_cycle_73 : decode M_Mod_cycle.2.1 73 = .ok (.isub, 1) := by decide +kernel
theorem e_Mod_cycle_74 : decode M_Mod_cycle.2.1 74 = .ok (.aload_n 0, 1) := by decide +kernel
theorem e_Mod_cycle_75 : decode M_Mod_cycle.2.1 75 = .ok (.getfield 49, 3) := by decide +kernel
theorem e_Mod_cycle_78 : decode M_Mod_cycle.2.1 78 = .ok (.iload_n 2, 1) := by decide +kernel
theorem e_Mod_cycle_79 : decode M_Mod_cycle.2.1 79 = .ok (.iaload, 1) := by decide +kernel
theorem e_Mod_cycle_80 : decode M_Mod_cycle.2.1 80 = .ok (.idiv, 1) := by decide +kernel
theorem e_Mod_cycle_81 : decode M_Mod_cycle.2.1 81 = .ok (.iadd, 1) := by decide +kernel
theorem e_Mod_cycle_82 : decode M_Mod_cycle.2.1 82 = .ok (.invokestatic 231, 3) := by decide +kernel
theorem e_Mod_cycle_85 : decode M_Mod_cycle.2.1 85 = .ok (.iastore, 1) := by decide +kernel
theorem e_Mod_cycle_86 : decode M_Mod_cycle.2.1 86 = .ok (.iinc 2 1, 3) := by decide +kernel
theorem e_Mod_cycle_89 : decode M_Mod_cycle.2.1 89 = .ok (.goto (-87), 3) := by decide +kernel
theorem e_Mod_cycle_92 : decode M_Mod_cycle.2.1 92 = .ok (.aload_n 0, 1) := by decide +kernel
theorem e_Mod_cycle_93 : decode M_Mod_cycle.2.1 93 = .ok (.iload_n 1, 1) := by decide +kernel
theorem e_Mod_cycle_94 : decode M_Mod_cycle.2.1 94 = .ok (.invokevirtual 258, 3) := by decide +kernel
theorem e_Mod_cycle_97 : decode M_Mod_cycle.2.1 97 = .ok (.iconst 0, 1) := by decide +kernel
theorem e_Mod_cycle_98 : decode M_Mod_cycle.2.1 98 = .ok (.istore_n 2, 1) := by decide +kernel
theorem e_Mod_cycle_99 : decode M_Mod_cycle.2.1 99 = .ok (.iload_n 2, 1) := by decide +kernel
theorem e_Mod_cycle_100 : decode M_Mod_cycle.2.1 100 = .ok (.aload_n 0, 1) := by decide +kernel
theorem e_Mod_cycle_101 : decode M_Mod_cycle.2.1 101 = .ok (.getfield 183, 3) := by decide +kernel
theorem e_Mod_cycle_104 : decode M_Mod_cycle.2.1 104 = .ok (.if_icmp .ge 76, 3) := by decide +kernel
theorem e_Mod_cycle_107 : decode M_Mod_cycle.2.1 107 = .ok (.iconst 0, 1) := by decide +kernel
theorem e_Mod_cycle_108 : decode M_Mod_cycle.2.1 108 = .ok (.istore_n 3, 1) := by decide +kernel
theorem e_Mod_cycle_109 : decode M_Mod_cycle.2.1 109 = .ok (.iload_n 3, 1) := by decide +kernel
theorem e_Mod_cycle_110 : decode M_Mod_cycle.2.1 110 = .ok (.aload_n 0, 1) := by decide +kernel
theorem e_Mod_cycle_111 : decode M_Mod_cycle.2.1 111 = .ok (.getfield 162, 3) := by decide +kernel
theorem e_Mod_cycle_114 : decode M_Mod_cycle.2.1 114 = .ok (.if_icmp .ge 30, 3) := by decide +kernel
theorem e_Mod_cycle_117 : decode M_Mod_cycle.2.1 117 = .ok (.aload_n 0, 1) := by decide +kernel
theorem e_Mod_cycle_118 : decode M_Mod_cycle.2.1 118 = .ok (.getfield 37, 3) := by decide +kernel
theorem e_Mod_cycle_121 : decode M_Mod_cycle.2.1 121 = .ok (.iload_n 3, 1) := by decide +kernel
theorem e_Mod_cycle_122 : decode M_Mod_cycle.2.1 122 = .ok (.iaload, 1) := by decide +kernel
theorem e_Mod_cycle_123 : decode M_Mod_cycle.2.1 123 = .ok (.aload_n 0, 1) := by decide +kernel
theorem e_Mod_cycle_124 : decode M_Mod_cycle.2.1 124 = .ok (.getfield 80, 3) := by decide +kernel
theorem e_Mod_cycle_127 : decode M_Mod_cycle.2.1 127 = .ok (.iload_n 2, 1) := by decide +kernel
theorem e_Mod_cycle_128 : decode M_Mod_cycle.2.1 128 = .ok (.iaload, 1) := by decide +kernel
theorem e_Mod_cycle_129 : decode M_Mod_cycle.2.1 129 = .ok (.if_icmp .ne 9, 3) := by decide +kernel
theorem e_Mod_cycle_132 : decode M_Mod_cycle.2.1 132 = .ok (.aload_n 0, 1) := by decide +kernel
theorem e_Mod_cycle_133 : decode M_Mod_cycle.2.1 133 = .ok (.iload_n 1, 1) := by decide +kernel
theorem e_Mod_cycle_134 : decode M_Mod_cycle.2.1 134 = .ok (.iload_n 3, 1) := by decide +kernel
theorem e_Mod_cycle_135 : decode M_Mod_cycle.2.1 135 = .ok (.invokevirtual 261, 3) := by decide +kernel
theorem e_Mod_cycle_138 : decode M_Mod_cycle.2.1 138 = .ok (.iinc 3 1, 3) := by decide +kernel
theorem e_Mod_cycle_141 : decode M_Mod_cycle.2.1 141 = .ok (.goto (-32), 3) := by decide +kernel
theorem e_Mod_cycle_144 : decode M_Mod_cycle.2.1 144 = .ok (.aload_n 0, 1) := by decide +kernel
theorem e_Mod_cycle_145 : decode M_Mod_cycle.2.1 145 = .ok (.iload_n 1, 1) := by decide +kernel
theorem e_Mod_cycle_146 : decode M_Mod_cycle.2.1 146 = .ok (.aload_n 0, 1) := by decide +kernel
theorem e_Mod_cycle_147 : decode M_Mod_cycle.2.1 147 = .ok (.getfield 13, 3) := by decide +kernel
theorem e_Mod_cycle_150 : decode M_Mod_cycle.2.1 150 = .ok (.aload_n 0, 1) := by decide +kernel
theorem e_Mod_cycle_151 : decode M_Mod_cycle.2.1 151 = .ok (.getfield 80, 3) := by decide +kernel
theorem e_Mod_cycle_154 : decode M_Mod_cycle.2.1 154 = .ok (.iload_n 2, 1) := by decide +kernel
theorem e_Mod_cycle_155 : decode M_Mod_cycle.2.1 155 = .ok (.iaload, 1) := by decide +kernel
theorem e_Mod_cycle_156 : decode M_Mod_cycle.2.1 156 = .ok (.iaload, 1) := by decide +kernel
theorem e_Mod_cycle_157 : decode M_Mod_cycle.2.1 157 = .ok (.invokevirtual 205, 3) := by decide +kernel
theorem e_Mod_cycle_160 : decode M_Mod_cycle.2.1 160 = .ok (.ifCond .eq 14, 3) := by decide +kernel
theorem e_Mod_cycle_163 : decode M_Mod_cycle.2.1 163 = .ok (.aload_n 0, 1) := by decide +kernel
theorem e_Mod_cycle_164 : decode M_Mod_cycle.2.1 164 = .ok (.iload_n 1, 1) := by decide +kernel
theorem e_Mod_cycle_165 : decode M_Mod_cycle.2.1 165 = .ok (.aload_n 0, 1) := by decide +kernel
theorem e_Mod_cycle_166 : decode M_Mod_cycle.2.1 166 = .ok (.getfield 80, 3) := by decide +kernel
theorem e_Mod_cycle_169 : decode M_Mod_cycle.2.1 169 = .ok (.iload_n 2, 1) := by decide +kernel
theorem e_Mod_cycle_170 : decode M_Mod_cycle.2.1 170 = .ok (.iaload, 1) := by decide +kernel
theorem e_Mod_cycle_171 : decode M_Mod_cycle.2.1 171 = .ok (.invokevirtual 264, 3) := by decide +kernel
theorem e_Mod_cycle_174 : decode M_Mod_cycle.2.1 174 = .ok (.iinc 2 1, 3) := by decide +kernel
theorem e_Mod_cycle_177 : decode M_Mod_cycle.2.1 177 = .ok (.goto (-78), 3) := by decide +kernel
theorem e_Mod_cycle_180 : decode M_Mod_cycle.2.1 180 = .ok (.iconst 0, 1) := by decide +kernel
theorem e_Mod_cycle_181 : decode M_Mod_cycle.2.1 181 = .ok (.istore_n 2, 1) := by decide +kernel
theorem e_Mod_cycle_182 : decode M_Mod_cycle.2.1 182 = .ok (.iload_n 2, 1) := by decide +kernel
theorem e_Mod_cycle_183 : decode M_Mod_cycle.2.1 183 = .ok (.aload_n 0, 1) := by decide +kernel
theorem e_Mod_cycle_184 : decode M_Mod_cycle.2.1 184 = .ok (.getfield 162, 3) := by decide +kernel
theorem e_Mod_cycle_187 : decode M_Mod_cycle.2.1 187 = .ok (.if_icmp .ge 25, 3) := by decide +kernel
theorem e_Mod_cycle_190 : decode M_Mod_cycle.2.1 190 = .ok (.aload_n 0, 1) := by decide +kernel
theorem e_Mod_cycle_191 : decode M_Mod_cycle.2.1 191 = .ok (.getfield 40, 3) := by decide +kernel
theorem e_Mod_cycle_194 : decode M_Mod_cycle.2.1 194 = .ok (.iload_n 2, 1) := by decide +kernel
theorem e_Mod_cycle_195 : decode M_Mod_cycle.2.1 195 = .ok (.iaload, 1) := by decide +kernel
theorem e_Mod_cycle_196 : decode M_Mod_cycle.2.1 196 = .ok (.iconst 2, 1) := by decide +kernel
theorem e_Mod_cycle_197 : decode M_Mod_cycle.2.1 197 = .ok (.if_icmp .ne 9, 3) := by decide +kernel
theorem e_Mod_cycle_200 : decode M_Mod_cycle.2.1 200 = .ok (.aload_n 0, 1) := by decide +kernel
theorem e_Mod_cycle_201 : decode M_Mod_cycle.2.1 201 = .ok (.iload_n 1, 1) := by decide +kernel
theorem e_Mod_cycle_202 : decode M_Mod_cycle.2.1 202 = .ok (.iload_n 2, 1) := by decide +kernel
theorem e_Mod_cycle_203 : decode M_Mod_cycle.2.1 203 = .ok (.invokevirtual 267, 3) := by decide +kernel
theorem e_Mod_cycle_206 : decode M_Mod_cycle.2.1 206 = .ok (.iinc 2 1, 3) := by decide +kernel
theorem e_Mod_cycle_209 : decode M_Mod_cycle.2.1 209 = .ok (.goto (-27), 3) := by decide +kernel
theorem e_Mod_cycle_212 : decode M_Mod_cycle.2.1 212 = .ok (.aload_n 0, 1) := by decide +kernel
theorem e_Mod_cycle_213 : decode M_Mod_cycle.2.1 213 = .ok (.getfield 9, 3) := by decide +kernel
theorem e_Mod_cycle_216 : decode M_Mod_cycle.2.1 216 = .ok (.iload_n 1, 1) := by decide +kernel
theorem e_Mod_cycle_217 : decode M_Mod_cycle.2.1 217 = .ok (.sipush 208, 3) := by decide +kernel
theorem e_Mod_cycle_220 : decode M_Mod_cycle.2.1 220 = .ok (.iadd, 1) := by decide +kernel
theorem e_Mod_cycle_221 : decode M_Mod_cycle.2.1 221 = .ok (.dup2, 1) := by decide +kernel
theorem e_Mod_cycle_222 : decode M_Mod_cycle.2.1 222 = .ok (.iaload, 1) := by decide +kernel
theorem e_Mod_cycle_223 : decode M_Mod_cycle.2.1 223 = .ok (.iconst 1, 1) := by decide +kernel
theorem e_Mod_cycle_224 : decode M_Mod_cycle.2.1 224 = .ok (.iadd, 1) := by decide +kernel
theorem e_Mod_cycle_225 : decode M_Mod_cycle.2.1 225 = .ok (.iastore, 1) := by decide +kernel
theorem e_Mod_cycle_226 : decode M_Mod_cycle.2.1 226 = .ok (.return_, 1) := by decide +kernel
theorem e_Mod_put_0 : decode M_Mod_put.2.1 0 = .ok (.iload_n 0, 1) := by decide +kernel
theorem e_Mod_put_1 : decode M_Mod_put.2.1 1 = .ok (.ifCond .ge 7, 3) := by decide +kernel
theorem e_Mod_put_4 : decode M_Mod_put.2.1 4 = .ok (.iconst 0, 1) := by decide +kernel
theorem e_Mod_put_5 : decode M_Mod_put.2.1 5 = .ok (.goto 17, 3) := by decide +kernel
theorem e_Mod_put_8 : decode M_Mod_put.2.1 8 = .ok (.iload_n 0, 1) := by decide +kernel
theorem e_Mod_put_9 : decode M_Mod_put.2.1 9 = .ok (.sipush 1000, 3) := by decide +kernel
theorem e_Mod_put_12 : decode M_Mod_put.2.1 12 = .ok (.if_icmp .le 9, 3) := by decide +kernel
theorem e_Mod_put_15 : decode M_Mod_put.2.1 15 = .ok (.sipush 1000, 3) := by decide +kernel
theorem e_Mod_put_18 : decode M_Mod_put.2.1 18 = .ok (.goto 4, 3) := by decide +kernel
theorem e_Mod_put_21 : decode M_Mod_put.2.1 21 = .ok (.iload_n 0, 1) := by decide +kernel
theorem e_Mod_put_22 : decode M_Mod_put.2.1 22 = .ok (.ireturn, 1) := by decide +kernel
theorem e_Mod_schedules_0 : decode M_Mod_schedules.2.1 0 = .ok (.aload_n 0, 1) := by decide +kernel
theorem e_Mod_schedules_1 : decode M_Mod_schedules.2.1 1 = .ok (.getfield 9, 3) := by decide +kernel
theorem e_Mod_schedules_4 : decode M_Mod_schedules.2.1 4 = .ok (.iload_n 1, 1) := by decide +kernel
theorem e_Mod_schedules_5 : decode M_Mod_schedules.2.1 5 = .ok (.sipush 206, 3) := by decide +kernel
theorem e_Mod_schedules_8 : decode M_Mod_schedules.2.1 8 = .ok (.iadd, 1) := by decide +kernel
theorem e_Mod_schedules_9 : decode M_Mod_schedules.2.1 9 = .ok (.iaload, 1) := by decide +kernel
theorem e_Mod_schedules_10 : decode M_Mod_schedules.2.1 10 = .ok (.iconst (-1), 1) := by decide +kernel
theorem e_Mod_schedules_11 : decode M_Mod_schedules.2.1 11 = .ok (.if_icmp .eq 4, 3) := by decide +kernel
theorem e_Mod_schedules_14 : decode M_Mod_schedules.2.1 14 = .ok (.return_, 1) := by decide +kernel
theorem e_Mod_schedules_15 : decode M_Mod_schedules.2.1 15 = .ok (.aload_n 0, 1) := by decide +kernel
theorem e_Mod_schedules_16 : decode M_Mod_schedules.2.1 16 = .ok (.getfield 9, 3) := by decide +kernel
theorem e_Mod_schedules_19 : decode M_Mod_schedules.2.1 19 = .ok (.iload_n 1, 1) := by decide +kernel
theorem e_Mod_schedules_20 : decode M_Mod_schedules.2.1 20 = .ok (.sipush 207, 3) := by decide +kernel
theorem e_Mod_schedules_23 : decode M_Mod_schedules.2.1 23 = .ok (.iadd, 1) := by decide +kernel
theorem e_Mod_schedules_24 : decode M_Mod_schedules.2.1 24 = .ok (.iaload, 1) := by decide +kernel
theorem e_Mod_schedules_25 : decode M_Mod_schedules.2.1 25 = .ok (.ifCond .le 18, 3) := by decide +kernel
theorem e_Mod_schedules_28 : decode M_Mod_schedules.2.1 28 = .ok (.aload_n 0, 1) := by decide +kernel
theorem e_Mod_schedules_29 : decode M_Mod_schedules.2.1 29 = .ok (.getfield 9, 3) := by decide +kernel
theorem e_Mod_schedules_32 : decode M_Mod_schedules.2.1 32 = .ok (.iload_n 1, 1) := by decide +kernel
theorem e_Mod_schedules_33 : decode M_Mod_schedules.2.1 33 = .ok (.sipush 207, 3) := by decide +kernel
theorem e_Mod_schedules_36 : decode M_Mod_schedules.2.1 36 = .ok (.iadd, 1) := by decide +kernel
theorem e_Mod_schedules_37 : decode M_Mod_schedules.2.1 37 = .ok (.dup2, 1) := by decide +kernel
theorem e_Mod_schedules_38 : decode M_Mod_schedules.2.1 38 = .ok (.iaload, 1) := by decide +kernel
theorem e_Mod_schedules_39 : decode M_Mod_schedules.2.1 39 = .ok (.iconst 1, 1) := by decide +kernel
theorem e_Mod_schedules_40 : decode M_Mod_schedules.2.1 40 = .ok (.isub, 1) := by decide +kernel
theorem e_Mod_schedules_41 : decode M_Mod_schedules.2.1 41 = .ok (.iastore, 1) := by decide +kernel
theorem e_Mod_schedules_42 : decode M_Mod_schedules.2.1 42 = .ok (.return_, 1) := by decide +kernel
theorem e_Mod_schedules_43 : decode M_Mod_schedules.2.1 43 = .ok (.aload_n 0, 1) := by decide +kernel
theorem e_Mod_schedules_44 : decode M_Mod_schedules.2.1 44 = .ok (.getfield 9, 3) := by decide +kernel
theorem e_Mod_schedules_47 : decode M_Mod_schedules.2.1 47 = .ok (.iload_n 1, 1) := by decide +kernel
theorem e_Mod_schedules_48 : decode M_Mod_schedules.2.1 48 = .ok (.sipush 206, 3) := by decide +kernel
theorem e_Mod_schedules_51 : decode M_Mod_schedules.2.1 51 = .ok (.iadd, 1) := by decide +kernel
theorem e_Mod_schedules_52 : decode M_Mod_schedules.2.1 52 = .ok (.aload_n 0, 1) := by decide +kernel
theorem e_Mod_schedules_53 : decode M_Mod_schedules.2.1 53 = .ok (.getfield 9, 3) := by decide +kernel
theorem e_Mod_schedules_56 : decode M_Mod_schedules.2.1 56 = .ok (.iload_n 1, 1) := by decide +kernel
theorem e_Mod_schedules_57 : decode M_Mod_schedules.2.1 57 = .ok (.sipush 205, 3) := by decide +kernel
theorem e_Mod_schedules_60 : decode M_Mod_schedules.2.1 60 = .ok (.iadd, 1) := by decide +kernel
theorem e_Mod_schedules_61 : decode M_Mod_schedules.2.1 61 = .ok (.iaload, 1) := by decide +kernel
theorem e_Mod_schedules_62 : decode M_Mod_schedules.2.1 62 = .ok (.invokestatic 252, 3) := by decide +kernel
theorem e_Mod_schedules_65 : decode M_Mod_schedules.2.1 65 = .ok (.iastore, 1) := by decide +kernel
theorem e_Mod_schedules_66 : decode M_Mod_schedules.2.1 66 = .ok (.aload_n 0, 1) := by decide +kernel
theorem e_Mod_schedules_67 : decode M_Mod_schedules.2.1 67 = .ok (.getfield 9, 3) := by decide +kernel
theorem e_Mod_schedules_70 : decode M_Mod_schedules.2.1 70 = .ok (.iload_n 1, 1) := by decide +kernel
theorem e_Mod_schedules_71 : decode M_Mod_schedules.2.1 71 = .ok (.sipush 206, 3) := by decide +kernel
theorem e_Mod_schedules_74 : decode M_Mod_schedules.2.1 74 = .ok (.iadd, 1) := by decide +kernel
theorem e_Mod_schedules_75 : decode M_Mod_schedules.2.1 75 = .ok (.iaload, 1) := by decide +kernel
theorem e_Mod_schedules_76 : decode M_Mod_schedules.2.1 76 = .ok (.iconst (-1), 1) := by decide +kernel
theorem e_Mod_schedules_77 : decode M_Mod_schedules.2.1 77 = .ok (.if_icmp .eq 17, 3) := by decide +kernel
theorem e_Mod_schedules_80 : decode M_Mod_schedules.2.1 80 = .ok (.aload_n 0, 1) := by decide +kernel
theorem e_Mod_schedules_81 : decode M_Mod_schedules.2.1 81 = .ok (.getfield 9, 3) := by decide +kernel
theorem e_Mod_schedules_84 : decode M_Mod_schedules.2.1 84 = .ok (.iload_n 1, 1) := by decide +kernel
theorem e_Mod_schedules_85 : decode M_Mod_schedules.2.1 85 = .ok (.sipush 209, 3) := by decide +kernel
theorem e_Mod_schedules_88 : decode M_Mod_schedules.2.1 88 = .ok (.iadd, 1) := by decide +kernel
theorem e_Mod_schedules_89 : decode M_Mod_schedules.2.1 89 = .ok (.dup2, 1) := by decide +kernel
theorem e_Mod_schedules_90 : decode M_Mod_schedules.2.1 90 = .ok (.iaload, 1) := by decide +kernel
theorem e_Mod_schedules_91 : decode M_Mod_schedules.2.1 91 = .ok (.iconst 1, 1) := by decide +kernel
theorem e_Mod_schedules_92 : decode M_Mod_schedules.2.1 92 = .ok (.iadd, 1) := by decide +kernel
theorem e_Mod_schedules_93 : decode M_Mod_schedules.2.1 93 = .ok (.iastore, 1) := by decide +kernel
theorem e_Mod_schedules_94 : decode M_Mod_schedules.2.1 94 = .ok (.return_, 1) := by decide +kernel
theorem e_Mod_lowest_0 : decode M_Mod_lowest.2.1 0 = .ok (.iload_n 0, 1) := by decide +kernel
theorem e_Mod_lowest_1 : decode M_Mod_lowest.2.1 1 = .ok (.ifCond .ne 5, 3) := by decide +kernel
theorem e_Mod_lowest_4 : decode M_Mod_lowest.2.1 4 = .ok (.iconst (-1), 1) := by decide +kernel
theorem e_Mod_lowest_5 : decode M_Mod_lowest.2.1 5 = .ok (.ireturn, 1) := by decide +kernel
theorem e_Mod_lowest_6 : decode M_Mod_lowest.2.1 6 = .ok (.iconst 0, 1) := by decide +kernel
theorem e_Mod_lowest_7 : decode M_Mod_lowest.2.1 7 = .ok (.istore_n 1, 1) := by decide +kernel
theorem e_Mod_lowest_8 : decode M_Mod_lowest.2.1 8 = .ok (.iload_n 0, 1) := by decide +kernel
theorem e_Mod_lowest_9 : decode M_Mod_lowest.2.1 9 = .ok (.iload_n 1, 1) := by decide +kernel
theorem e_Mod_lowest_10 : decode M_Mod_lowest.2.1 10 = .ok (.ishr, 1) := by decide +kernel
theorem e_Mod_lowest_11 : decode M_Mod_lowest.2.1 11 = .ok (.iconst 1, 1) := by decide +kernel
theorem e_Mod_lowest_12 : decode M_Mod_lowest.2.1 12 = .ok (.iand, 1) := by decide +kernel
theorem e_Mod_lowest_13 : decode M_Mod_lowest.2.1 13 = .ok (.ifCond .ne 9, 3) := by decide +kernel
theorem e_Mod_lowest_16 : decode M_Mod_lowest.2.1 16 = .ok (.iinc 1 1, 3) := by decide +kernel
theorem e_Mod_lowest_19 : decode M_Mod_lowest.2.1 19 = .ok (.goto (-11), 3) := by decide +kernel
theorem e_Mod_lowest_22 : decode M_Mod_lowest.2.1 22 = .ok (.iload_n 1, 1) := by decide +kernel
theorem e_Mod_lowest_23 : decode M_Mod_lowest.2.1 23 = .ok (.ireturn, 1) := by decide +kernel
theorem e_Mod_comes_0 : decode M_Mod_comes.2.1 0 = .ok (.iload_n 1, 1) := by decide +kernel
theorem e_Mod_comes_1 : decode M_Mod_comes.2.1 1 = .ok (.iload_n 2, 1) := by decide +kernel
theorem e_Mod_comes_2 : decode M_Mod_comes.2.1 2 = .ok (.invokestatic 199, 3) := by decide +kernel
theorem e_Mod_comes_5 : decode M_Mod_comes.2.1 5 = .ok (.istore_n 3, 1) := by decide +kernel
theorem e_Mod_comes_6 : decode M_Mod_comes.2.1 6 = .ok (.aload_n 0, 1) := by decide +kernel
theorem e_Mod_comes_7 : decode M_Mod_comes.2.1 7 = .ok (.iload_n 1, 1) := by decide +kernel
theorem e_Mod_comes_8 : decode M_Mod_comes.2.1 8 = .ok (.iload_n 2, 1) := by decide +kernel
theorem e_Mod_comes_9 : decode M_Mod_comes.2.1 9 = .ok (.aload_n 0, 1) := by decide +kernel
theorem e_Mod_comes_10 : decode M_Mod_comes.2.1 10 = .ok (.getfield 37, 3) := by decide +kernel
theorem e_Mod_comes_13 : decode M_Mod_comes.2.1 13 = .ok (.iload_n 2, 1) := by decide +kernel
theorem e_Mod_comes_14 : decode M_Mod_comes.2.1 14 = .ok (.iaload, 1) := by decide +kernel
theorem e_Mod_comes_15 : decode M_Mod_comes.2.1 15 = .ok (.invokevirtual 209, 3) := by decide +kernel
theorem e_Mod_comes_18 : decode M_Mod_comes.2.1 18 = .ok (.ifCond .ne 14, 3) := by decide +kernel
theorem e_Mod_comes_21 : decode M_Mod_comes.2.1 21 = .ok (.aload_n 0, 1) := by decide +kernel
theorem e_Mod_comes_22 : decode M_Mod_comes.2.1 22 = .ok (.iload_n 3, 1) := by decide +kernel
theorem e_Mod_comes_23 : decode M_Mod_comes.2.1 23 = .ok (.iconst 4, 1) := by decide +kernel
theorem e_Mod_comes_24 : decode M_Mod_comes.2.1 24 = .ok (.iadd, 1) := by decide +kernel
theorem e_Mod_comes_25 : decode M_Mod_comes.2.1 25 = .ok (.iload_n 3, 1) := by decide +kernel
theorem e_Mod_comes_26 : decode M_Mod_comes.2.1 26 = .ok (.iconst 1, 1) := by decide +kernel
theorem e_Mod_comes_27 : decode M_Mod_comes.2.1 27 = .ok (.iadd, 1) := by decide +kernel
theorem e_Mod_comes_28 : decode M_Mod_comes.2.1 28 = .ok (.invokevirtual 213, 3) := by decide +kernel
theorem e_Mod_comes_31 : decode M_Mod_comes.2.1 31 = .ok (.return_, 1) := by decide +kernel
theorem e_Mod_comes_32 : decode M_Mod_comes.2.1 32 = .ok (.iload_n 1, 1) := by decide +kernel
theorem e_Mod_comes_33 : decode M_Mod_comes.2.1 33 = .ok (.aload_n 0, 1) := by decide +kernel
theorem e_Mod_comes_34 : decode M_Mod_comes.2.1 34 = .ok (.getfield 34, 3) := by decide +kernel
theorem e_Mod_comes_37 : decode M_Mod_comes.2.1 37 = .ok (.iload_n 2, 1) := by decide +kernel
theorem e_Mod_comes_38 : decode M_Mod_comes.2.1 38 = .ok (.iaload, 1) := by decide +kernel
theorem e_Mod_comes_39 : decode M_Mod_comes.2.1 39 = .ok (.invokestatic 193, 3) := by decide +kernel
theorem e_Mod_comes_42 : decode M_Mod_comes.2.1 42 = .ok (.istore 4, 2) := by decide +kernel
theorem e_Mod_comes_44 : decode M_Mod_comes.2.1 44 = .ok (.aload_n 0, 1) := by decide +kernel
theorem e_Mod_comes_45 : decode M_Mod_comes.2.1 45 = .ok (.getfield 9, 3) := by decide +kernel
theorem e_Mod_comes_48 : decode M_Mod_comes.2.1 48 = .ok (.iload_n 3, 1) := by decide +kernel
theorem e_Mod_comes_49 : decode M_Mod_comes.2.1 49 = .ok (.iconst 0, 1) := by decide +kernel
theorem e_Mod_comes_50 : decode M_Mod_comes.2.1 50 = .ok (.iadd, 1) := by decide +kernel
theorem e_Mod_comes_51 : decode M_Mod_comes.2.1 51 = .ok (.aload_n 0, 1) := by decide +kernel
theorem e_Mod_comes_52 : decode M_Mod_comes.2.1 52 = .ok (.getfield 9, 3) := by decide +kernel
theorem e_Mod_comes_55 : decode M_Mod_comes.2.1 55 = .ok (.iload 4, 2) := by decide +kernel
theorem e_Mod_comes_57 : decode M_Mod_comes.2.1 57 = .ok (.iconst 3, 1) := by decide +kernel
theorem e_Mod_comes_58 : decode M_Mod_comes.2.1 58 = .ok (.iadd, 1) := by decide +kernel
theorem e_Mod_comes_59 : decode M_Mod_comes.2.1 59 = .ok (.iaload, 1) := by decide +kernel
theorem e_Mod_comes_60 : decode M_Mod_comes.2.1 60 = .ok (.iastore, 1) := by decide +kernel
theorem e_Mod_comes_61 : decode M_Mod_comes.2.1 61 = .ok (.aload_n 0, 1) := by decide +kernel
theorem e_Mod_comes_62 : decode M_Mod_comes.2.1 62 = .ok (.getfield 9, 3) := by decide +kernel
theorem e_Mod_comes_65 : decode M_Mod_comes.2.1 65 = .ok (.iload_n 3, 1) := by decide +kernel
theorem e_Mod_comes_66 : decode M_Mod_comes.2.1 66 = .ok (.iconst 1, 1) := by decide +kernel
theorem e_Mod_comes_67 : decode M_Mod_comes.2.1 67 = .ok (.iadd, 1) := by decide +kernel
theorem e_Mod_comes_68 : decode M_Mod_comes.2.1 68 = .ok (.aload_n 0, 1) := by decide +kernel
theorem e_Mod_comes_69 : decode M_Mod_comes.2.1 69 = .ok (.getfield 9, 3) := by decide +kernel
theorem e_Mod_comes_72 : decode M_Mod_comes.2.1 72 = .ok (.iload 4, 2) := by decide +kernel
theorem e_Mod_comes_74 : decode M_Mod_comes.2.1 74 = .ok (.iconst 5, 1) := by decide +kernel
theorem e_Mod_comes_75 : decode M_Mod_comes.2.1 75 = .ok (.iadd, 1) := by decide +kernel
theorem e_Mod_comes_76 : decode M_Mod_comes.2.1 76 = .ok (.iaload, 1) := by decide +kernel
theorem e_Mod_comes_77 : decode M_Mod_comes.2.1 77 = .ok (.iastore, 1) := by decide +kernel
theorem e_Mod_comes_78 : decode M_Mod_comes.2.1 78 = .ok (.aload_n 0, 1) := by decide +kernel
theorem e_Mod_comes_79 : decode M_Mod_comes.2.1 79 = .ok (.getfield 9, 3) := by decide +kernel
theorem e_Mod_comes_82 : decode M_Mod_comes.2.1 82 = .ok (.iload_n 3, 1) := by decide +kernel
theorem e_Mod_comes_83 : decode M_Mod_comes.2.1 83 = .ok (.iconst 2, 1) := by decide +kernel
theorem e_Mod_comes_84 : decode M_Mod_comes.2.1 84 = .ok (.iadd, 1) := by decide +kernel
theorem e_Mod_comes_85 : decode M_Mod_comes.2.1 85 = .ok (.aload_n 0, 1) := by decide +kernel
theorem e_Mod_comes_86 : decode M_Mod_comes.2.1 86 = .ok (.getfield 9, 3) := by decide +kernel
theorem e_Mod_comes_89 : decode M_Mod_comes.2.1 89 = .ok (.iload 4, 2) := by decide +kernel
theorem e_Mod_comes_91 : decode M_Mod_comes.2.1 91 = .ok (.bipush 6, 2) := by decide +kernel
theorem e_Mod_comes_93 : decode M_Mod_comes.2.1 93 = .ok (.iadd, 1) := by decide +kernel
theorem e_Mod_comes_94 : decode M_Mod_comes.2.1 94 = .ok (.iaload, 1) := by decide +kernel
theorem e_Mod_comes_95 : decode M_Mod_comes.2.1 95 = .ok (.iastore, 1) := by decide +kernel
theorem e_Mod_comes_96 : decode M_Mod_comes.2.1 96 = .ok (.aload_n 0, 1) := by decide +kernel
theorem e_Mod_comes_97 : decode M_Mod_comes.2.1 97 = .ok (.getfield 9, 3) := by decide +kernel
theorem e_Mod_comes_100 : decode M_Mod_comes.2.1 100 = .ok (.iload_n 3, 1) := by decide +kernel
theorem e_Mod_comes_101 : decode M_Mod_comes.2.1 101 = .ok (.iconst 3, 1) := by decide +kernel
theorem e_Mod_comes_102 : decode M_Mod_comes.2.1 102 = .ok (.iadd, 1) := by decide +kernel
theorem e_Mod_comes_103 : decode M_Mod_comes.2.1 103 = .ok (.aload_n 0, 1) := by decide +kernel
theorem e_Mod_comes_104 : decode M_Mod_comes.2.1 104 = .ok (.getfield 9, 3) := by decide +kernel
theorem e_Mod_comes_107 : decode M_Mod_comes.2.1 107 = .ok (.iload 4, 2) := by decide +kernel
theorem e_Mod_comes_109 : decode M_Mod_comes.2.1 109 = .ok (.bipush 7, 2) := by decide +kernel
theorem e_Mod_comes_111 : decode M_Mod_comes.2.1 111 = .ok (.iadd, 1) := by decide +kernel
theorem e_Mod_comes_112 : decode M_Mod_comes.2.1 112 = .ok (.iaload, 1) := by decide +kernel
theorem e_Mod_comes_113 : decode M_Mod_comes.2.1 113 = .ok (.iastore, 1) := by decide +kernel
theorem e_Mod_comes_114 : decode M_Mod_comes.2.1 114 = .ok (.aload_n 0, 1) := by decide +kernel
theorem e_Mod_comes_115 : decode M_Mod_comes.2.1 115 = .ok (.getfield 9, 3) := by decide +kernel
theorem e_Mod_comes_118 : decode M_Mod_comes.2.1 118 = .ok (.iload_n 3, 1) := by decide +kernel
theorem e_Mod_comes_119 : decode M_Mod_comes.2.1 119 = .ok (.iconst 4, 1) := by decide +kernel
theorem e_Mod_comes_120 : decode M_Mod_comes.2.1 120 = .ok (.iadd, 1) := by decide +kernel
theorem e_Mod_comes_121 : decode M_Mod_comes.2.1 121 = .ok (.iconst 0, 1) := by decide +kernel
theorem e_Mod_comes_122 : decode M_Mod_comes.2.1 122 = .ok (.iastore, 1) := by decide +kernel
theorem e_Mod_comes_123 : decode M_Mod_comes.2.1 123 = .ok (.return_, 1) := by decide +kernel
theorem e_Mod_doesCome_0 : decode M_Mod_doesCome.2.1 0 = .ok (.aload_n 0, 1) := by decide +kernel
theorem e_Mod_doesCome_1 : decode M_Mod_doesCome.2.1 1 = .ok (.iload_n 1, 1) := by decide +kernel
theorem e_Mod_doesCome_2 : decode M_Mod_doesCome.2.1 2 = .ok (.aload_n 0, 1) := by decide +kernel
theorem e_Mod_doesCome_3 : decode M_Mod_doesCome.2.1 3 = .ok (.getfield 13, 3) := by decide +kernel
theorem e_Mod_doesCome_6 : decode M_Mod_doesCome.2.1 6 = .ok (.iload_n 3, 1) := by decide +kernel
theorem e_Mod_doesCome_7 : decode M_Mod_doesCome.2.1 7 = .ok (.iaload, 1) := by decide +kernel
theorem e_Mod_doesCome_8 : decode M_Mod_doesCome.2.1 8 = .ok (.invokevirtual 205, 3) := by decide +kernel
theorem e_Mod_doesCome_11 : decode M_Mod_doesCome.2.1 11 = .ok (.ifCond .ne 5, 3) := by decide +kernel
theorem e_Mod_doesCome_14 : decode M_Mod_doesCome.2.1 14 = .ok (.iconst 0, 1) := by decide +kernel
theorem e_Mod_doesCome_15 : decode M_Mod_doesCome.2.1 15 = .ok (.ireturn, 1) := by decide +kernel
theorem e_Mod_doesCome_16 : decode M_Mod_doesCome.2.1 16 = .ok (.aload_n 0, 1) := by decide +kernel
theorem e_Mod_doesCome_17 : decode M_Mod_doesCome.2.1 17 = .ok (.iload_n 2, 1) := by decide +kernel
theorem e_Mod_doesCome_18 : decode M_Mod_doesCome.2.1 18 = .ok (.invokevirtual 175, 3) := by decide +kernel
theorem e_Mod_doesCome_21 : decode M_Mod_doesCome.2.1 21 = .ok (.ifCond .ne 55, 3) := by decide +kernel
theorem e_Mod_doesCome_24 : decode M_Mod_doesCome.2.1 24 = .ok (.aload_n 0, 1) := by decide +kernel
theorem e_Mod_doesCome_25 : decode M_Mod_doesCome.2.1 25 = .ok (.getfield 9, 3) := by decide +kernel
theorem e_Mod_doesCome_28 : decode M_Mod_doesCome.2.1 28 = .ok (.iload_n 1, 1) := by decide +kernel
theorem e_Mod_doesCome_29 : decode M_Mod_doesCome.2.1 29 = .ok (.sipush 206, 3) := by decide +kernel
theorem e_Mod_doesCome_32 : decode M_Mod_doesCome.2.1 32 = .ok (.iadd, 1) := by decide +kernel
theorem e_Mod_doesCome_33 : decode M_Mod_doesCome.2.1 33 = .ok (.iaload, 1) := by decide +kernel
theorem e_Mod_doesCome_34 : decode M_Mod_doesCome.2.1 34 = .ok (.iconst (-1), 1) := by decide +kernel
theorem e_Mod_doesCome_35 : decode M_Mod_doesCome.2.1 35 = .ok (.if_icmp .eq 45, 3) := by decide +kernel
theorem e_Mod_doesCome_38 : decode M_Mod_doesCome.2.1 38 = .ok (.aload_n 0, 1) := by decide +kernel
theorem e_Mod_doesCome_39 : decode M_Mod_doesCome.2.1 39 = .ok (.iload_n 1, 1) := by decide +kernel
theorem e_Mod_doesCome_40 : decode M_Mod_doesCome.2.1 40 = .ok (.aload_n 0, 1) := by decide +kernel
theorem e_Mod_doesCome_41 : decode M_Mod_doesCome.2.1 41 = .ok (.getfield 13, 3) := by decide +kernel
theorem e_Mod_doesCome_44 : decode M_Mod_doesCome.2.1 44 = .ok (.aload_n 0, 1) := by decide +kernel
theorem e_Mod_doesCome_45 : decode M_Mod_doesCome.2.1 45 = .ok (.getfield 34, 3) := by decide +kernel
theorem e_Mod_doesCome_48 : decode M_Mod_doesCome.2.1 48 = .ok (.iload_n 2, 1) := by decide +kernel
theorem e_Mod_doesCome_49 : decode M_Mod_doesCome.2.1 49 = .ok (.iaload, 1) := by decide +kernel
theorem e_Mod_doesCome_50 : decode M_Mod_doesCome.2.1 50 = .ok (.iaload, 1) := by decide +kernel
theorem e_Mod_doesCome_51 : decode M_Mod_doesCome.2.1 51 = .ok (.invokevirtual 205, 3) := by decide +kernel
theorem e_Mod_doesCome_54 : decode M_Mod_doesCome.2.1 54 = .ok (.ifCond .eq 26, 3) := by decide +kernel
theorem e_Mod_doesCome_57 : decode M_Mod_doesCome.2.1 57 = .ok (.aload_n 0, 1) := by decide +kernel
theorem e_Mod_doesCome_58 : decode M_Mod_doesCome.2.1 58 = .ok (.iload_n 1, 1) := by decide +kernel
theorem e_Mod_doesCome_59 : decode M_Mod_doesCome.2.1 59 = .ok (.aload_n 0, 1) := by decide +kernel
theorem e_Mod_doesCome_60 : decode M_Mod_doesCome.2.1 60 = .ok (.getfield 13, 3) := by decide +kernel
theorem e_Mod_doesCome_63 : decode M_Mod_doesCome.2.1 63 = .ok (.aload_n 0, 1) := by decide +kernel
theorem e_Mod_doesCome_64 : decode M_Mod_doesCome.2.1 64 = .ok (.getfield 37, 3) := by decide +kernel
theorem e_Mod_doesCome_67 : decode M_Mod_doesCome.2.1 67 = .ok (.iload_n 2, 1) := by decide +kernel
theorem e_Mod_doesCome_68 : decode M_Mod_doesCome.2.1 68 = .ok (.iaload, 1) := by decide +kernel
theorem e_Mod_doesCome_69 : decode M_Mod_doesCome.2.1 69 = .ok (.iaload, 1) := by decide +kernel
theorem e_Mod_doesCome_70 : decode M_Mod_doesCome.2.1 70 = .ok (.invokevirtual 205, 3) := by decide +kernel
theorem e_Mod_doesCome_73 : decode M_Mod_doesCome.2.1 73 = .ok (.ifCond .eq 7, 3) := by decide +kernel
theorem e_Mod_doesCome_76 : decode M_Mod_doesCome.2.1 76 = .ok (.iconst 1, 1) := by decide +kernel
theorem e_Mod_doesCome_77 : decode M_Mod_doesCome.2.1 77 = .ok (.goto 4, 3) := by decide +kernel
theorem e_Mod_doesCome_80 : decode M_Mod_doesCome.2.1 80 = .ok (.iconst 0, 1) := by decide +kernel
theorem e_Mod_doesCome_81 : decode M_Mod_doesCome.2.1 81 = .ok (.ireturn, 1) := by decide +kernel
theorem e_Mod_ages_0 : decode M_Mod_ages.2.1 0 = .ok (.aload_n 0, 1) := by decide +kernel
theorem e_Mod_ages_1 : decode M_Mod_ages.2.1 1 = .ok (.getfield 9, 3) := by decide +kernel
theorem e_Mod_ages_4 : decode M_Mod_ages.2.1 4 = .ok (.iload_n 1, 1) := by decide +kernel
theorem e_Mod_ages_5 : decode M_Mod_ages.2.1 5 = .ok (.iaload, 1) := by decide +kernel
theorem e_Mod_ages_6 : decode M_Mod_ages.2.1 6 = .ok (.bipush 99, 2) := by decide +kernel
theorem e_Mod_ages_8 : decode M_Mod_ages.2.1 8 = .ok (.if_icmp .ge 13, 3) := by decide +kernel
theorem e_Mod_ages_11 : decode M_Mod_ages.2.1 11 = .ok (.aload_n 0, 1) := by decide +kernel
theorem e_Mod_ages_12 : decode M_Mod_ages.2.1 12 = .ok (.getfield 9, 3) := by decide +kernel
theorem e_Mod_ages_15 : decode M_Mod_ages.2.1 15 = .ok (.iload_n 1, 1) := by decide +kernel
theorem e_Mod_ages_16 : decode M_Mod_ages.2.1 16 = .ok (.dup2, 1) := by decide +kernel
theorem e_Mod_ages_17 : decode M_Mod_ages.2.1 17 = .ok (.iaload, 1) := by decide +kernel
theorem e_Mod_ages_18 : decode M_Mod_ages.2.1 18 = .ok (.iconst 1, 1) := by decide +kernel
theorem e_Mod_ages_19 : decode M_Mod_ages.2.1 19 = .ok (.iadd, 1) := by decide +kernel
theorem e_Mod_ages_20 : decode M_Mod_ages.2.1 20 = .ok (.iastore, 1) := by decide +kernel
theorem e_Mod_ages_21 : decode M_Mod_ages.2.1 21 = .ok (.aload_n 0, 1) := by decide +kernel
theorem e_Mod_ages_22 : decode M_Mod_ages.2.1 22 = .ok (.getfield 9, 3) := by decide +kernel
theorem e_Mod_ages_25 : decode M_Mod_ages.2.1 25 = .ok (.iload_n 1, 1) := by decide +kernel
theorem e_Mod_ages_26 : decode M_Mod_ages.2.1 26 = .ok (.iaload, 1) := by decide +kernel
theorem e_Mod_ages_27 : decode M_Mod_ages.2.1 27 = .ok (.aload_n 0, 1) := by decide +kernel
theorem e_Mod_ages_28 : decode M_Mod_ages.2.1 28 = .ok (.getfield 68, 3) := by decide +kernel
theorem e_Mod_ages_31 : decode M_Mod_ages.2.1 31 = .ok (.if_icmp .le 10, 3) := by decide +kernel
theorem e_Mod_ages_34 : decode M_Mod_ages.2.1 34 = .ok (.aload_n 0, 1) := by decide +kernel
theorem e_Mod_ages_35 : decode M_Mod_ages.2.1 35 = .ok (.getfield 9, 3) := by decide +kernel
theorem e_Mod_ages_38 : decode M_Mod_ages.2.1 38 = .ok (.iload_n 2, 1) := by decide +kernel
theorem e_Mod_ages_39 : decode M_Mod_ages.2.1 39 = .ok (.iconst 0, 1) := by decide +kernel
theorem e_Mod_ages_40 : decode M_Mod_ages.2.1 40 = .ok (.iastore, 1) := by decide +kernel
theorem e_Mod_ages_41 : decode M_Mod_ages.2.1 41 = .ok (.return_, 1) := by decide +kernel
theorem e_Mod_runs_0 : decode M_Mod_runs.2.1 0 = .ok (.aload_n 0, 1) := by decide +kernel
theorem e_Mod_runs_1 : decode M_Mod_runs.2.1 1 = .ok (.getfield 9, 3) := by decide +kernel
theorem e_Mod_runs_4 : decode M_Mod_runs.2.1 4 = .ok (.iload_n 1, 1) := by decide +kernel
theorem e_Mod_runs_5 : decode M_Mod_runs.2.1 5 = .ok (.iload_n 2, 1) := by decide +kernel
theorem e_Mod_runs_6 : decode M_Mod_runs.2.1 6 = .ok (.invokestatic 193, 3) := by decide +kernel
theorem e_Mod_runs_9 : decode M_Mod_runs.2.1 9 = .ok (.iconst 1, 1) := by decide +kernel
theorem e_Mod_runs_10 : decode M_Mod_runs.2.1 10 = .ok (.iadd, 1) := by decide +kernel
theorem e_Mod_runs_11 : decode M_Mod_runs.2.1 11 = .ok (.aload_n 0, 1) := by decide +kernel
theorem e_Mod_runs_12 : decode M_Mod_runs.2.1 12 = .ok (.iload_n 1, 1) := by decide +kernel
theorem e_Mod_runs_13 : decode M_Mod_runs.2.1 13 = .ok (.iload_n 2, 1) := by decide +kernel
theorem e_Mod_runs_14 : decode M_Mod_runs.2.1 14 = .ok (.invokevirtual 237, 3) := by decide +kernel
theorem e_Mod_runs_17 : decode M_Mod_runs.2.1 17 = .ok (.iastore, 1) := by decide +kernel
theorem e_Mod_runs_18 : decode M_Mod_runs.2.1 18 = .ok (.aload_n 0, 1) := by decide +kernel
theorem e_Mod_runs_19 : decode M_Mod_runs.2.1 19 = .ok (.getfield 19, 3) := by decide +kernel
theorem e_Mod_runs_22 : decode M_Mod_runs.2.1 22 = .ok (.iload_n 2, 1) := by decide +kernel
theorem e_Mod_runs_23 : decode M_Mod_runs.2.1 23 = .ok (.iaload, 1) := by decide +kernel
theorem e_Mod_runs_24 : decode M_Mod_runs.2.1 24 = .ok (.ifCond .ne 12, 3) := by decide +kernel
theorem e_Mod_runs_27 : decode M_Mod_runs.2.1 27 = .ok (.aload_n 0, 1) := by decide +kernel
theorem e_Mod_runs_28 : decode M_Mod_runs.2.1 28 = .ok (.iload_n 1, 1) := by decide +kernel
theorem e_Mod_runs_29 : decode M_Mod_runs.2.1 29 = .ok (.iload_n 2, 1) := by decide +kernel
theorem e_Mod_runs_30 : decode M_Mod_runs.2.1 30 = .ok (.invokevirtual 240, 3) := by decide +kernel
theorem e_Mod_runs_33 : decode M_Mod_runs.2.1 33 = .ok (.goto 47, 3) := by decide +kernel
theorem e_Mod_runs_36 : decode M_Mod_runs.2.1 36 = .ok (.aload_n 0, 1) := by decide +kernel
theorem e_Mod_runs_37 : decode M_Mod_runs.2.1 37 = .ok (.getfield 19, 3) := by decide +kernel
theorem e_Mod_runs_40 : decode M_Mod_runs.2.1 40 = .ok (.iload_n 2, 1) := by decide +kernel
theorem e_Mod_runs_41 : decode M_Mod_runs.2.1 41 = .ok (.iaload, 1) := by decide +kernel
theorem e_Mod_runs_42 : decode M_Mod_runs.2.1 42 = .ok (.iconst 3, 1) := by decide +kernel
theorem e_Mod_runs_43 : decode M_Mod_runs.2.1 43 = .ok (.if_icmp .ne 12, 3) := by decide +kernel
theorem e_Mod_runs_46 : decode M_Mod_runs.2.1 46 = .ok (.aload_n 0, 1) := by decide +kernel
theorem e_Mod_runs_47 : decode M_Mod_runs.2.1 47 = .ok (.iload_n 1, 1) := by decide +kernel
theorem e_Mod_runs_48 : decode M_Mod_runs.2.1 48 = .ok (.iload_n 2, 1) := by decide +kernel
theorem e_Mod_runs_49 : decode M_Mod_runs.2.1 49 = .ok (.invokevirtual 243, 3) := by decide +kernel
theorem e_Mod_runs_52 : decode M_Mod_runs.2.1 52 = .ok (.goto 28, 3) := by decide +kernel
theorem e_Mod_runs_55 : decode M_Mod_runs.2.1 55 = .ok (.aload_n 0, 1) := by decide +kernel
theorem e_Mod_runs_56 : decode M_Mod_runs.2.1 56 = .ok (.getfield 19, 3) := by decide +kernel
theorem e_Mod_runs_59 : decode M_Mod_runs.2.1 59 = .ok (.iload_n 2, 1) := by decide +kernel
theorem e_Mod_runs_60 : decode M_Mod_runs.2.1 60 = .ok (.iaload, 1) := by decide +kernel
theorem e_Mod_runs_61 : decode M_Mod_runs.2.1 61 = .ok (.iconst 2, 1) := by decide +kernel
theorem e_Mod_runs_62 : decode M_Mod_runs.2.1 62 = .ok (.if_icmp .ne 12, 3) := by decide +kernel
theorem e_Mod_runs_65 : decode M_Mod_runs.2.1 65 = .ok (.aload_n 0, 1) := by decide +kernel
theorem e_Mod_runs_66 : decode M_Mod_runs.2.1 66 = .ok (.iload_n 1, 1) := by decide +kernel
theorem e_Mod_runs_67 : decode M_Mod_runs.2.1 67 = .ok (.iload_n 2, 1) := by decide +kernel
theorem e_Mod_runs_68 : decode M_Mod_runs.2.1 68 = .ok (.invokevirtual 246, 3) := by decide +kernel
theorem e_Mod_runs_71 : decode M_Mod_runs.2.1 71 = .ok (.goto 9, 3) := by decide +kernel
theorem e_Mod_runs_74 : decode M_Mod_runs.2.1 74 = .ok (.aload_n 0, 1) := by decide +kernel
theorem e_Mod_runs_75 : decode M_Mod_runs.2.1 75 = .ok (.iload_n 1, 1) := by decide +kernel
theorem e_Mod_runs_76 : decode M_Mod_runs.2.1 76 = .ok (.iload_n 2, 1) := by decide +kernel
theorem e_Mod_runs_77 : decode M_Mod_runs.2.1 77 = .ok (.invokevirtual 249, 3) := by decide +kernel
theorem e_Mod_runs_80 : decode M_Mod_runs.2.1 80 = .ok (.return_, 1) := by decide +kernel
theorem e_Mod_actualOf_0 : decode M_Mod_actualOf.2.1 0 = .ok (.iload_n 1, 1) := by decide +kernel
theorem e_Mod_actualOf_1 : decode M_Mod_actualOf.2.1 1 = .ok (.iload_n 2, 1) := by decide +kernel
theorem e_Mod_actualOf_2 : decode M_Mod_actualOf.2.1 2 = .ok (.invokestatic 193, 3) := by decide +kernel
theorem e_Mod_actualOf_5 : decode M_Mod_actualOf.2.1 5 = .ok (.istore_n 3, 1) := by decide +kernel
theorem e_Mod_actualOf_6 : decode M_Mod_actualOf.2.1 6 = .ok (.aload_n 0, 1) := by decide +kernel
theorem e_Mod_actualOf_7 : decode M_Mod_actualOf.2.1 7 = .ok (.getfield 9, 3) := by decide +kernel
theorem e_Mod_actualOf_10 : decode M_Mod_actualOf.2.1 10 = .ok (.iload_n 3, 1) := by decide +kernel
theorem e_Mod_actualOf_11 : decode M_Mod_actualOf.2.1 11 = .ok (.iconst 0, 1) := by decide +kernel
theorem e_Mod_actualOf_12 : decode M_Mod_actualOf.2.1 12 = .ok (.iadd, 1) := by decide +kernel
theorem e_Mod_actualOf_13 : decode M_Mod_actualOf.2.1 13 = .ok (.iaload, 1) := by decide +kernel
theorem e_Mod_actualOf_14 : decode M_Mod_actualOf.2.1 14 = .ok (.istore 4, 2) := by decide +kernel
theorem e_Mod_actualOf_16 : decode M_Mod_actualOf.2.1 16 = .ok (.iload 4, 2) := by decide +kernel
theorem e_Mod_actualOf_18 : decode M_Mod_actualOf.2.1 18 = .ok (.iconst 2, 1) := by decide +kernel
theorem e_Mod_actualOf_19 : decode M_Mod_actualOf.2.1 19 = .ok (.if_icmp .lt 22, 3) := by decide +kernel
theorem e_Mod_actualOf_22 : decode M_Mod_actualOf.2.1 22 = .ok (.aload_n 0, 1) := by decide +kernel
theorem e_Mod_actualOf_23 : decode M_Mod_actualOf.2.1 23 = .ok (.getfield 19, 3) := by decide +kernel
theorem e_Mod_actualOf_26 : decode M_Mod_actualOf.2.1 26 = .ok (.iload_n 2, 1) := by decide +kernel
theorem e_Mod_actualOf_27 : decode M_Mod_actualOf.2.1 27 = .ok (.iaload, 1) := by decide +kernel
theorem e_Mod_actualOf_28 : decode M_Mod_actualOf.2.1 28 = .ok (.ifCond .eq 13, 3) := by decide +kernel
theorem e_Mod_actualOf_31 : decode M_Mod_actualOf.2.1 31 = .ok (.aload_n 0, 1) := by decide +kernel
theorem e_Mod_actualOf_32 : decode M_Mod_actualOf.2.1 32 = .ok (.getfield 19, 3) := by decide +kernel
theorem e_Mod_actualOf_35 : decode M_Mod_actualOf.2.1 35 = .ok (.iload_n 2, 1) := by decide +kernel
theorem e_Mod_actualOf_36 : decode M_Mod_actualOf.2.1 36 = .ok (.iaload, 1) := by decide +kernel
theorem e_Mod_actualOf_37 : decode M_Mod_actualOf.2.1 37 = .ok (.iconst 3, 1) := by decide +kernel
theorem e_Mod_actualOf_38 : decode M_Mod_actualOf.2.1 38 = .ok (.if_icmp .ne 6, 3) := by decide +kernel
theorem e_Mod_actualOf_41 : decode M_Mod_actualOf.2.1 41 = .ok (.iload 4, 2) := by decide +kernel
theorem e_Mod_actualOf_43 : decode M_Mod_actualOf.2.1 43 = .ok (.ireturn, 1) := by decide +kernel
theorem e_Mod_actualOf_44 : decode M_Mod_actualOf.2.1 44 = .ok (.aload_n 0, 1) := by decide +kernel
theorem e_Mod_actualOf_45 : decode M_Mod_actualOf.2.1 45 = .ok (.getfield 19, 3) := by decide +kernel
theorem e_Mod_actualOf_48 : decode M_Mod_actualOf.2.1 48 = .ok (.iload_n 2, 1) := by decide +kernel
theorem e_Mod_actualOf_49 : decode M_Mod_actualOf.2.1 49 = .ok (.iaload, 1) := by decide +kernel
theorem e_Mod_actualOf_50 : decode M_Mod_actualOf.2.1 50 = .ok (.iconst 1, 1) := by decide +kernel
theorem e_Mod_actualOf_51 : decode M_Mod_actualOf.2.1 51 = .ok (.if_icmp .ne 25, 3) := by decide +kernel
theorem e_Mod_actualOf_54 : decode M_Mod_actualOf.2.1 54 = .ok (.aload_n 0, 1) := by decide +kernel
theorem e_Mod_actualOf_55 : decode M_Mod_actualOf.2.1 55 = .ok (.iload_n 1, 1) := by decide +kernel
theorem e_Mod_actualOf_56 : decode M_Mod_actualOf.2.1 56 = .ok (.aload_n 0, 1) := by decide +kernel
theorem e_Mod_actualOf_57 : decode M_Mod_actualOf.2.1 57 = .ok (.iload_n 2, 1) := by decide +kernel
theorem e_Mod_actualOf_58 : decode M_Mod_actualOf.2.1 58 = .ok (.iconst 0, 1) := by decide +kernel
theorem e_Mod_actualOf_59 : decode M_Mod_actualOf.2.1 59 = .ok (.invokevirtual 196, 3) := by decide +kernel
theorem e_Mod_actualOf_62 : decode M_Mod_actualOf.2.1 62 = .ok (.invokevirtual 217, 3) := by decide +kernel
theorem e_Mod_actualOf_65 : decode M_Mod_actualOf.2.1 65 = .ok (.ifCond .ne 11, 3) := by decide +kernel
theorem e_Mod_actualOf_68 : decode M_Mod_actualOf.2.1 68 = .ok (.aload_n 0, 1) := by decide +kernel
theorem e_Mod_actualOf_69 : decode M_Mod_actualOf.2.1 69 = .ok (.iload_n 1, 1) := by decide +kernel
theorem e_Mod_actualOf_70 : decode M_Mod_actualOf.2.1 70 = .ok (.iload_n 2, 1) := by decide +kernel
theorem e_Mod_actualOf_71 : decode M_Mod_actualOf.2.1 71 = .ok (.iconst 1, 1) := by decide +kernel
theorem e_Mod_actualOf_72 : decode M_Mod_actualOf.2.1 72 = .ok (.invokevirtual 220, 3) := by decide +kernel
theorem e_Mod_actualOf_75 : decode M_Mod_actualOf.2.1 75 = .ok (.ireturn, 1) := by decide +kernel
theorem e_Mod_actualOf_76 : decode M_Mod_actualOf.2.1 76 = .ok (.iload 4, 2) := by decide +kernel
theorem e_Mod_actualOf_78 : decode M_Mod_actualOf.2.1 78 = .ok (.iconst 2, 1) := by decide +kernel
theorem e_Mod_actualOf_79 : decode M_Mod_actualOf.2.1 79 = .ok (.if_icmp .ne 5, 3) := by decide +kernel
theorem e_Mod_actualOf_82 : decode M_Mod_actualOf.2.1 82 = .ok (.iconst 2, 1) := by decide +kernel
theorem e_Mod_actualOf_83 : decode M_Mod_actualOf.2.1 83 = .ok (.ireturn, 1) := by decide +kernel
theorem e_Mod_actualOf_84 : decode M_Mod_actualOf.2.1 84 = .ok (.aload_n 0, 1) := by decide +kernel
theorem e_Mod_actualOf_85 : decode M_Mod_actualOf.2.1 85 = .ok (.iload_n 2, 1) := by decide +kernel
theorem e_Mod_actualOf_86 : decode M_Mod_actualOf.2.1 86 = .ok (.iconst 2, 1) := by decide +kernel
theorem e_Mod_actualOf_87 : decode M_Mod_actualOf.2.1 87 = .ok (.invokevirtual 196, 3) := by decide +kernel
theorem e_Mod_actualOf_90 : decode M_Mod_actualOf.2.1 90 = .ok (.istore 5, 2) := by decide +kernel
theorem e_Mod_actualOf_92 : decode M_Mod_actualOf.2.1 92 = .ok (.aload_n 0, 1) := by decide +kernel
theorem e_Mod_actualOf_93 : decode M_Mod_actualOf.2.1 93 = .ok (.iload_n 1, 1) := by decide +kernel
theorem e_Mod_actualOf_94 : decode M_Mod_actualOf.2.1 94 = .ok (.iload 5, 2) := by decide +kernel
theorem e_Mod_actualOf_96 : decode M_Mod_actualOf.2.1 96 = .ok (.invokevirtual 217, 3) := by decide +kernel
theorem e_Mod_actualOf_99 : decode M_Mod_actualOf.2.1 99 = .ok (.ifCond .ne 30, 3) := by decide +kernel
theorem e_Mod_actualOf_102 : decode M_Mod_actualOf.2.1 102 = .ok (.aload_n 0, 1) := by decide +kernel
theorem e_Mod_actualOf_103 : decode M_Mod_actualOf.2.1 103 = .ok (.iload_n 1, 1) := by decide +kernel
theorem e_Mod_actualOf_104 : decode M_Mod_actualOf.2.1 104 = .ok (.iload_n 2, 1) := by decide +kernel
theorem e_Mod_actualOf_105 : decode M_Mod_actualOf.2.1 105 = .ok (.aload_n 0, 1) := by decide +kernel
theorem e_Mod_actualOf_106 : decode M_Mod_actualOf.2.1 106 = .ok (.getfield 19, 3) := by decide +kernel
theorem e_Mod_actualOf_109 : decode M_Mod_actualOf.2.1 109 = .ok (.iload_n 2, 1) := by decide +kernel
theorem e_Mod_actualOf_110 : decode M_Mod_actualOf.2.1 110 = .ok (.iaload, 1) := by decide +kernel
theorem e_Mod_actualOf_111 : decode M_Mod_actualOf.2.1 111 = .ok (.iconst 1, 1) := by decide +kernel
theorem e_Mod_actualOf_112 : decode M_Mod_actualOf.2.1 112 = .ok (.if_icmp .ne 12, 3) := by decide +kernel
theorem e_Mod_actualOf_115 : decode M_Mod_actualOf.2.1 115 = .ok (.aload_n 0, 1) := by decide +kernel
theorem e_Mod_actualOf_116 : decode M_Mod_actualOf.2.1 116 = .ok (.getfield 28, 3) := by decide +kernel
theorem e_Mod_actualOf_119 : decode M_Mod_actualOf.2.1 119 = .ok (.iload_n 2, 1) := by decide +kernel
theorem e_Mod_actualOf_120 : decode M_Mod_actualOf.2.1 120 = .ok (.iaload, 1) := by decide +kernel
theorem e_Mod_actualOf_121 : decode M_Mod_actualOf.2.1 121 = .ok (.goto 4, 3) := by decide +kernel
theorem e_Mod_actualOf_124 : decode M_Mod_actualOf.2.1 124 = .ok (.iconst 2, 1) := by decide +kernel
theorem e_Mod_actualOf_125 : decode M_Mod_actualOf.2.1 125 = .ok (.invokevirtual 220, 3) := by decide +kernel
theorem e_Mod_actualOf_128 : decode M_Mod_actualOf.2.1 128 = .ok (.ireturn, 1) := by decide +kernel
theorem e_Mod_actualOf_129 : decode M_Mod_actualOf.2.1 129 = .ok (.aload_n 0, 1) := by decide +kernel
theorem e_Mod_actualOf_130 : decode M_Mod_actualOf.2.1 130 = .ok (.getfield 9, 3) := by decide +kernel
theorem e_Mod_actualOf_133 : decode M_Mod_actualOf.2.1 133 = .ok (.iload_n 3, 1) := by decide +kernel
theorem e_Mod_actualOf_134 : decode M_Mod_actualOf.2.1 134 = .ok (.iconst 1, 1) := by decide +kernel
theorem e_Mod_actualOf_135 : decode M_Mod_actualOf.2.1 135 = .ok (.iadd, 1) := by decide +kernel
theorem e_Mod_actualOf_136 : decode M_Mod_actualOf.2.1 136 = .ok (.iaload, 1) := by decide +kernel
theorem e_Mod_actualOf_137 : decode M_Mod_actualOf.2.1 137 = .ok (.iconst 3, 1) := by decide +kernel
theorem e_Mod_actualOf_138 : decode M_Mod_actualOf.2.1 138 = .ok (.if_icmp .eq 20, 3) := by decide +kernel
theorem e_Mod_actualOf_141 : decode M_Mod_actualOf.2.1 141 = .ok (.aload_n 0, 1) := by decide +kernel
theorem e_Mod_actualOf_142 : decode M_Mod_actualOf.2.1 142 = .ok (.getfield 9, 3) := by decide +kernel
theorem e_Mod_actualOf_145 : decode M_Mod_actualOf.2.1 145 = .ok (.iload_n 1, 1) := by decide +kernel
theorem e_Mod_actualOf_146 : decode M_Mod_actualOf.2.1 146 = .ok (.iload 5, 2) := by decide +kernel
theorem e_Mod_actualOf_148 : decode M_Mod_actualOf.2.1 148 = .ok (.invokestatic 199, 3) := by decide +kernel
theorem e_Mod_actualOf_151 : decode M_Mod_actualOf.2.1 151 = .ok (.iconst 3, 1) := by decide +kernel
theorem e_Mod_actualOf_152 : decode M_Mod_actualOf.2.1 152 = .ok (.iadd, 1) := by decide +kernel
theorem e_Mod_actualOf_153 : decode M_Mod_actualOf.2.1 153 = .ok (.iaload, 1) := by decide +kernel
theorem e_Mod_actualOf_154 : decode M_Mod_actualOf.2.1 154 = .ok (.iconst 1, 1) := by decide +kernel
theorem e_Mod_actualOf_155 : decode M_Mod_actualOf.2.1 155 = .ok (.if_icmp .ne 7, 3) := by decide +kernel
theorem e_Mod_actualOf_158 : decode M_Mod_actualOf.2.1 158 = .ok (.iconst 3, 1) := by decide +kernel
theorem e_Mod_actualOf_159 : decode M_Mod_actualOf.2.1 159 = .ok (.goto 4, 3) := by decide +kernel
theorem e_Mod_actualOf_162 : decode M_Mod_actualOf.2.1 162 = .ok (.iconst 2, 1) := by decide +kernel
theorem e_Mod_actualOf_163 : decode M_Mod_actualOf.2.1 163 = .ok (.ireturn, 1) := by decide +kernel
theorem e_Mod_isGood_0 : decode M_Mod_isGood.2.1 0 = .ok (.iload_n 2, 1) := by decide +kernel
theorem e_Mod_isGood_1 : decode M_Mod_isGood.2.1 1 = .ok (.iconst (-1), 1) := by decide +kernel
theorem e_Mod_isGood_2 : decode M_Mod_isGood.2.1 2 = .ok (.if_icmp .eq 23, 3) := by decide +kernel
theorem e_Mod_isGood_5 : decode M_Mod_isGood.2.1 5 = .ok (.aload_n 0, 1) := by decide +kernel
theorem e_Mod_isGood_6 : decode M_Mod_isGood.2.1 6 = .ok (.getfield 9, 3) := by decide +kernel
theorem e_Mod_isGood_9 : decode M_Mod_isGood.2.1 9 = .ok (.iload_n 1, 1) := by decide +kernel
theorem e_Mod_isGood_10 : decode M_Mod_isGood.2.1 10 = .ok (.iload_n 2, 1) := by decide +kernel
theorem e_Mod_isGood_11 : decode M_Mod_isGood.2.1 11 = .ok (.invokestatic 199, 3) := by decide +kernel
theorem e_Mod_isGood_14 : decode M_Mod_isGood.2.1 14 = .ok (.iconst 1, 1) := by decide +kernel
theorem e_Mod_isGood_15 : decode M_Mod_isGood.2.1 15 = .ok (.iadd, 1) := by decide +kernel
theorem e_Mod_isGood_16 : decode M_Mod_isGood.2.1 16 = .ok (.iaload, 1) := by decide +kernel
theorem e_Mod_isGood_17 : decode M_Mod_isGood.2.1 17 = .ok (.iconst 1, 1) := by decide +kernel
theorem e_Mod_isGood_18 : decode M_Mod_isGood.2.1 18 = .ok (.if_icmp .ne 7, 3) := by decide +kernel
theorem e_Mod_isGood_21 : decode M_Mod_isGood.2.1 21 = .ok (.iconst 1, 1) := by decide +kernel
theorem e_Mod_isGood_22 : decode M_Mod_isGood.2.1 22 = .ok (.goto 4, 3) := by decide +kernel
theorem e_Mod_isGood_25 : decode M_Mod_isGood.2.1 25 = .ok (.iconst 0, 1) := by decide +kernel
theorem e_Mod_isGood_26 : decode M_Mod_isGood.2.1 26 = .ok (.ireturn, 1) := by decide +kernel
theorem e_Mod_fallsTo_0 : decode M_Mod_fallsTo.2.1 0 = .ok (.aload_n 0, 1) := by decide +kernel
theorem e_Mod_fallsTo_1 : decode M_Mod_fallsTo.2.1 1 = .ok (.getfield 19, 3) := by decide +kernel
theorem e_Mod_fallsTo_4 : decode M_Mod_fallsTo.2.1 4 = .ok (.iload_n 2, 1) := by decide +kernel
theorem e_Mod_fallsTo_5 : decode M_Mod_fallsTo.2.1 5 = .ok (.iaload, 1) := by decide +kernel
theorem e_Mod_fallsTo_6 : decode M_Mod_fallsTo.2.1 6 = .ok (.iconst 1, 1) := by decide +kernel
theorem e_Mod_fallsTo_7 : decode M_Mod_fallsTo.2.1 7 = .ok (.if_icmp .ne 26, 3) := by decide +kernel
theorem e_Mod_fallsTo_10 : decode M_Mod_fallsTo.2.1 10 = .ok (.aload_n 0, 1) := by decide +kernel
theorem e_Mod_fallsTo_11 : decode M_Mod_fallsTo.2.1 11 = .ok (.getfield 31, 3) := by decide +kernel
theorem e_Mod_fallsTo_14 : decode M_Mod_fallsTo.2.1 14 = .ok (.iload_n 2, 1) := by decide +kernel
theorem e_Mod_fallsTo_15 : decode M_Mod_fallsTo.2.1 15 = .ok (.iaload, 1) := by decide +kernel
theorem e_Mod_fallsTo_16 : decode M_Mod_fallsTo.2.1 16 = .ok (.iconst 1, 1) := by decide +kernel
theorem e_Mod_fallsTo_17 : decode M_Mod_fallsTo.2.1 17 = .ok (.if_icmp .ne 16, 3) := by decide +kernel
theorem e_Mod_fallsTo_20 : decode M_Mod_fallsTo.2.1 20 = .ok (.aload_n 0, 1) := by decide +kernel
theorem e_Mod_fallsTo_21 : decode M_Mod_fallsTo.2.1 21 = .ok (.getfield 9, 3) := by decide +kernel
theorem e_Mod_fallsTo_24 : decode M_Mod_fallsTo.2.1 24 = .ok (.iload_n 1, 1) := by decide +kernel
theorem e_Mod_fallsTo_25 : decode M_Mod_fallsTo.2.1 25 = .ok (.iload_n 2, 1) := by decide +kernel
theorem e_Mod_fallsTo_26 : decode M_Mod_fallsTo.2.1 26 = .ok (.invokestatic 193, 3) := by decide +kernel
theorem e_Mod_fallsTo_29 : decode M_Mod_fallsTo.2.1 29 = .ok (.iconst 0, 1) := by decide +kernel
theorem e_Mod_fallsTo_30 : decode M_Mod_fallsTo.2.1 30 = .ok (.iadd, 1) := by decide +kernel
theorem e_Mod_fallsTo_31 : decode M_Mod_fallsTo.2.1 31 = .ok (.iload_n 3, 1) := by decide +kernel
theorem e_Mod_fallsTo_32 : decode M_Mod_fallsTo.2.1 32 = .ok (.iastore, 1) := by decide +kernel
theorem e_Mod_fallsTo_33 : decode M_Mod_fallsTo.2.1 33 = .ok (.iload_n 3, 1) := by decide +kernel
theorem e_Mod_fallsTo_34 : decode M_Mod_fallsTo.2.1 34 = .ok (.ireturn, 1) := by decide +kernel
theorem e_Mod_runsInput_0 : decode M_Mod_runsInput.2.1 0 = .ok (.iload_n 1, 1) := by decide +kernel
theorem e_Mod_runsInput_1 : decode M_Mod_runsInput.2.1 1 = .ok (.iload_n 2, 1) := by decide +kernel
theorem e_Mod_runsInput_2 : decode M_Mod_runsInput.2.1 2 = .ok (.invokestatic 193, 3) := by decide +kernel
theorem e_Mod_runsInput_5 : decode M_Mod_runsInput.2.1 5 = .ok (.istore_n 3, 1) := by decide +kernel
theorem e_Mod_runsInput_6 : decode M_Mod_runsInput.2.1 6 = .ok (.aload_n 0, 1) := by decide +kernel
theorem e_Mod_runsInput_7 : decode M_Mod_runsInput.2.1 7 = .ok (.getfield 9, 3) := by decide +kernel
theorem e_Mod_runsInput_10 : decode M_Mod_runsInput.2.1 10 = .ok (.iload_n 3, 1) := by decide +kernel
theorem e_Mod_runsInput_11 : decode M_Mod_runsInput.2.1 11 = .ok (.iconst 1, 1) := by decide +kernel
theorem e_Mod_runsInput_12 : decode M_Mod_runsInput.2.1 12 = .ok (.iadd, 1) := by decide +kernel
theorem e_Mod_runsInput_13 : decode M_Mod_runsInput.2.1 13 = .ok (.iaload, 1) := by decide +kernel
theorem e_Mod_runsInput_14 : decode M_Mod_runsInput.2.1 14 = .ok (.istore 4, 2) := by decide +kernel
theorem e_Mod_runsInput_16 : decode M_Mod_runsInput.2.1 16 = .ok (.aload_n 0, 1) := by decide +kernel
theorem e_Mod_runsInput_17 : decode M_Mod_runsInput.2.1 17 = .ok (.getfield 22, 3) := by decide +kernel
theorem e_Mod_runsInput_20 : decode M_Mod_runsInput.2.1 20 = .ok (.iload_n 2, 1) := by decide +kernel
theorem e_Mod_runsInput_21 : decode M_Mod_runsInput.2.1 21 = .ok (.iaload, 1) := by decide +kernel
theorem e_Mod_runsInput_22 : decode M_Mod_runsInput.2.1 22 = .ok (.istore 5, 2) := by decide +kernel
theorem e_Mod_runsInput_24 : decode M_Mod_runsInput.2.1 24 = .ok (.iload 4, 2) := by decide +kernel
theorem e_Mod_runsInput_26 : decode M_Mod_runsInput.2.1 26 = .ok (.iconst 2, 1) := by decide +kernel
theorem e_Mod_runsInput_27 : decode M_Mod_runsInput.2.1 27 = .ok (.if_icmp .ne 24, 3) := by decide +kernel
theorem e_Mod_runsInput_30 : decode M_Mod_runsInput.2.1 30 = .ok (.aload_n 0, 1) := by decide +kernel
theorem e_Mod_runsInput_31 : decode M_Mod_runsInput.2.1 31 = .ok (.getfield 9, 3) := by decide +kernel
theorem e_Mod_runsInput_34 : decode M_Mod_runsInput.2.1 34 = .ok (.iload_n 3, 1) := by decide +kernel
theorem e_Mod_runsInput_35 : decode M_Mod_runsInput.2.1 35 = .ok (.iconst 3, 1) := by decide +kernel
theorem e_Mod_runsInput_36 : decode M_Mod_runsInput.2.1 36 = .ok (.iadd, 1) := by decide +kernel
theorem e_Mod_runsInput_37 : decode M_Mod_runsInput.2.1 37 = .ok (.aload_n 0, 1) := by decide +kernel
theorem e_Mod_runsInput_38 : decode M_Mod_runsInput.2.1 38 = .ok (.getfield 9, 3) := by decide +kernel
theorem e_Mod_runsInput_41 : decode M_Mod_runsInput.2.1 41 = .ok (.iload_n 1, 1) := by decide +kernel
theorem e_Mod_runsInput_42 : decode M_Mod_runsInput.2.1 42 = .ok (.sipush 200, 3) := by decide +kernel
theorem e_Mod_runsInput_45 : decode M_Mod_runsInput.2.1 45 = .ok (.iadd, 1) := by decide +kernel
theorem e_Mod_runsInput_46 : decode M_Mod_runsInput.2.1 46 = .ok (.iload 5, 2) := by decide +kernel
theorem e_Mod_runsInput_48 : decode M_Mod_runsInput.2.1 48 = .ok (.iadd, 1) := by decide +kernel
theorem e_Mod_runsInput_49 : decode M_Mod_runsInput.2.1 49 = .ok (.iaload, 1) := by decide +kernel
theorem e_Mod_runsInput_50 : decode M_Mod_runsInput.2.1 50 = .ok (.iastore, 1) := by decide +kernel
theorem e_Mod_runsInput_51 : decode M_Mod_runsInput.2.1 51 = .ok (.aload_n 0, 1) := by decide +kernel
theorem e_Mod_runsInput_52 : decode M_Mod_runsInput.2.1 52 = .ok (.getfield 9, 3) := by decide +kernel
theorem e_Mod_runsInput_55 : decode M_Mod_runsInput.2.1 55 = .ok (.iload_n 3, 1) := by decide +kernel
theorem e_Mod_runsInput_56 : decode M_Mod_runsInput.2.1 56 = .ok (.iconst 5, 1) := by decide +kernel
theorem e_Mod_runsInput_57 : decode M_Mod_runsInput.2.1 57 = .ok (.iadd, 1) := by decide +kernel
theorem e_Mod_runsInput_58 : decode M_Mod_runsInput.2.1 58 = .ok (.iload 4, 2) := by decide +kernel
theorem e_Mod_runsInput_60 : decode M_Mod_runsInput.2.1 60 = .ok (.iconst 2, 1) := by decide +kernel
theorem e_Mod_runsInput_61 : decode M_Mod_runsInput.2.1 61 = .ok (.if_icmp .ne 23, 3) := by decide +kernel
theorem e_Mod_runsInput_64 : decode M_Mod_runsInput.2.1 64 = .ok (.iconst 1, 1) := by decide +kernel
theorem e_Mod_runsInput_65 : decode M_Mod_runsInput.2.1 65 = .ok (.aload_n 0, 1) := by decide +kernel
theorem e_Mod_runsInput_66 : decode M_Mod_runsInput.2.1 66 = .ok (.getfield 9, 3) := by decide +kernel
theorem e_Mod_runsInput_69 : decode M_Mod_runsInput.2.1 69 = .ok (.iload_n 1, 1) := by decide +kernel
theorem e_Mod_runsInput_70 : decode M_Mod_runsInput.2.1 70 = .ok (.sipush 204, 3) := by decide +kernel
theorem e_Mod_runsInput_73 : decode M_Mod_runsInput.2.1 73 = .ok (.iadd, 1) := by decide +kernel
theorem e_Mod_runsInput_74 : decode M_Mod_runsInput.2.1 74 = .ok (.iaload, 1) := by decide +kernel
theorem e_Mod_runsInput_75 : decode M_Mod_runsInput.2.1 75 = .ok (.iload 5, 2) := by decide +kernel
theorem e_Mod_runsInput_77 : decode M_Mod_runsInput.2.1 77 = .ok (.ishr, 1) := by decide +kernel
theorem e_Mod_runsInput_78 : decode M_Mod_runsInput.2.1 78 = .ok (.iconst 1, 1) := by decide +kernel
theorem e_Mod_runsInput_79 : decode M_Mod_runsInput.2.1 79 = .ok (.iand, 1) := by decide +kernel
theorem e_Mod_runsInput_80 : decode M_Mod_runsInput.2.1 80 = .ok (.isub, 1) := by decide +kernel
theorem e_Mod_runsInput_81 : decode M_Mod_runsInput.2.1 81 = .ok (.goto 5, 3) := by decide +kernel
theorem e_Mod_runsInput_84 : decode M_Mod_runsInput.2.1 84 = .ok (.iload 4, 2) := by decide +kernel
theorem e_Mod_runsInput_86 : decode M_Mod_runsInput.2.1 86 = .ok (.iastore, 1) := by decide +kernel
theorem e_Mod_runsInput_87 : decode M_Mod_runsInput.2.1 87 = .ok (.return_, 1) := by decide +kernel
theorem e_Mod_runsPick_0 : decode M_Mod_runsPick.2.1 0 = .ok (.iload_n 1, 1) := by decide +kernel
theorem e_Mod_runsPick_1 : decode M_Mod_runsPick.2.1 1 = .ok (.iload_n 2, 1) := by decide +kernel
theorem e_Mod_runsPick_2 : decode M_Mod_runsPick.2.1 2 = .ok (.invokestatic 193, 3) := by decide +kernel
theorem e_Mod_runsPick_5 : decode M_Mod_runsPick.2.1 5 = .ok (.istore_n 3, 1) := by decide +kernel
theorem e_Mod_runsPick_6 : decode M_Mod_runsPick.2.1 6 = .ok (.aload_n 0, 1) := by decide +kernel
theorem e_Mod_runsPick_7 : decode M_Mod_runsPick.2.1 7 = .ok (.getfield 9, 3) := by decide +kernel
theorem e_Mod_runsPick_10 : decode M_Mod_runsPick.2.1 10 = .ok (.iload_n 3, 1) := by decide +kernel
theorem e_Mod_runsPick_11 : decode M_Mod_runsPick.2.1 11 = .ok (.iconst 1, 1) := by decide +kernel
theorem e_Mod_runsPick_12 : decode M_Mod_runsPick.2.1 12 = .ok (.iadd, 1) := by decide +kernel
theorem e_Mod_runsPick_13 : decode M_Mod_runsPick.2.1 13 = .ok (.iaload, 1) := by decide +kernel
theorem e_Mod_runsPick_14 : decode M_Mod_runsPick.2.1 14 = .ok (.iconst 2, 1) := by decide +kernel
theorem e_Mod_runsPick_15 : decode M_Mod_runsPick.2.1 15 = .ok (.if_icmp .ge 20, 3) := by decide +kernel
theorem e_Mod_runsPick_18 : decode M_Mod_runsPick.2.1 18 = .ok (.aload_n 0, 1) := by decide +kernel
theorem e_Mod_runsPick_19 : decode M_Mod_runsPick.2.1 19 = .ok (.getfield 9, 3) := by decide +kernel
theorem e_Mod_runsPick_22 : decode M_Mod_runsPick.2.1 22 = .ok (.iload_n 3, 1) := by decide +kernel
theorem e_Mod_runsPick_23 : decode M_Mod_runsPick.2.1 23 = .ok (.iconst 5, 1) := by decide +kernel
theorem e_Mod_runsPick_24 : decode M_Mod_runsPick.2.1 24 = .ok (.iadd, 1) := by decide +kernel
theorem e_Mod_runsPick_25 : decode M_Mod_runsPick.2.1 25 = .ok (.aload_n 0, 1) := by decide +kernel
theorem e_Mod_runsPick_26 : decode M_Mod_runsPick.2.1 26 = .ok (.getfield 9, 3) := by decide +kernel
theorem e_Mod_runsPick_29 : decode M_Mod_runsPick.2.1 29 = .ok (.iload_n 3, 1) := by decide +kernel
theorem e_Mod_runsPick_30 : decode M_Mod_runsPick.2.1 30 = .ok (.iconst 1, 1) := by decide +kernel
theorem e_Mod_runsPick_31 : decode M_Mod_runsPick.2.1 31 = .ok (.iadd, 1) := by decide +kernel
theorem e_Mod_runsPick_32 : decode M_Mod_runsPick.2.1 32 = .ok (.iaload, 1) := by decide +kernel
theorem e_Mod_runsPick_33 : decode M_Mod_runsPick.2.1 33 = .ok (.iastore, 1) := by decide +kernel
theorem e_Mod_runsPick_34 : decode M_Mod_runsPick.2.1 34 = .ok (.return_, 1) := by decide +kernel
theorem e_Mod_runsPick_35 : decode M_Mod_runsPick.2.1 35 = .ok (.aload_n 0, 1) := by decide +kernel
theorem e_Mod_runsPick_36 : decode M_Mod_runsPick.2.1 36 = .ok (.iload_n 2, 1) := by decide +kernel
theorem e_Mod_runsPick_37 : decode M_Mod_runsPick.2.1 37 = .ok (.iconst 0, 1) := by decide +kernel
theorem e_Mod_runsPick_38 : decode M_Mod_runsPick.2.1 38 = .ok (.invokevirtual 196, 3) := by decide +kernel
theorem e_Mod_runsPick_41 : decode M_Mod_runsPick.2.1 41 = .ok (.istore 4, 2) := by decide +kernel
theorem e_Mod_runsPick_43 : decode M_Mod_runsPick.2.1 43 = .ok (.aload_n 0, 1) := by decide +kernel
theorem e_Mod_runsPick_44 : decode M_Mod_runsPick.2.1 44 = .ok (.iload_n 2, 1) := by decide +kernel
theorem e_Mod_runsPick_45 : decode M_Mod_runsPick.2.1 45 = .ok (.iconst 1, 1) := by decide +kernel
theorem e_Mod_runsPick_46 : decode M_Mod_runsPick.2.1 46 = .ok (.invokevirtual 196, 3) := by decide +kernel
theorem e_Mod_runsPick_49 : decode M_Mod_runsPick.2.1 49 = .ok (.istore 5, 2) := by decide +kernel
theorem e_Mod_runsPick_51 : decode M_Mod_runsPick.2.1 51 = .ok (.aload_n 0, 1) := by decide +kernel
theorem e_Mod_runsPick_52 : decode M_Mod_runsPick.2.1 52 = .ok (.iload_n 1, 1) := by decide +kernel
theorem e_Mod_runsPick_53 : decode M_Mod_runsPick.2.1 53 = .ok (.iload 4, 2) := by decide +kernel
theorem e_Mod_runsPick_55 : decode M_Mod_runsPick.2.1 55 = .ok (.invokevirtual 217, 3) := by decide +kernel
theorem e_Mod_runsPick_58 : decode M_Mod_runsPick.2.1 58 = .ok (.istore 6, 2) := by decide +kernel
theorem e_Mod_runsPick_60 : decode M_Mod_runsPick.2.1 60 = .ok (.aload_n 0, 1) := by decide +kernel
theorem e_Mod_runsPick_61 : decode M_Mod_runsPick.2.1 61 = .ok (.iload_n 1, 1) := by decide +kernel
theorem e_Mod_runsPick_62 : decode M_Mod_runsPick.2.1 62 = .ok (.iload 5, 2) := by decide +kernel
theorem e_Mod_runsPick_64 : decode M_Mod_runsPick.2.1 64 = .ok (.invokevirtual 217, 3) := by decide +kernel
theorem e_Mod_runsPick_67 : decode M_Mod_runsPick.2.1 67 = .ok (.istore 7, 2) := by decide +kernel
theorem e_Mod_runsPick_69 : decode M_Mod_runsPick.2.1 69 = .ok (.aload_n 0, 1) := by decide +kernel
theorem e_Mod_runsPick_70 : decode M_Mod_runsPick.2.1 70 = .ok (.getfield 9, 3) := by decide +kernel
theorem e_Mod_runsPick_73 : decode M_Mod_runsPick.2.1 73 = .ok (.iload_n 3, 1) := by decide +kernel
theorem e_Mod_runsPick_74 : decode M_Mod_runsPick.2.1 74 = .ok (.iconst 5, 1) := by decide +kernel
theorem e_Mod_runsPick_75 : decode M_Mod_runsPick.2.1 75 = .ok (.iadd, 1) := by decide +kernel
theorem e_Mod_runsPick_76 : decode M_Mod_runsPick.2.1 76 = .ok (.iload 6, 2) := by decide +kernel
theorem e_Mod_runsPick_78 : decode M_Mod_runsPick.2.1 78 = .ok (.ifCond .ne 8, 3) := by decide +kernel
theorem e_Mod_runsPick_81 : decode M_Mod_runsPick.2.1 81 = .ok (.iload 7, 2) := by decide +kernel
theorem e_Mod_runsPick_83 : decode M_Mod_runsPick.2.1 83 = .ok (.ifCond .eq 7, 3) := by decide +kernel
theorem e_Mod_runsPick_86 : decode M_Mod_runsPick.2.1 86 = .ok (.iconst 1, 1) := by decide +kernel
theorem e_Mod_runsPick_87 : decode M_Mod_runsPick.2.1 87 = .ok (.goto 4, 3) := by decide +kernel
theorem e_Mod_runsPick_90 : decode M_Mod_runsPick.2.1 90 = .ok (.iconst 0, 1) := by decide +kernel
theorem e_Mod_runsPick_91 : decode M_Mod_runsPick.2.1 91 = .ok (.iastore, 1) := by decide +kernel
theorem e_Mod_runsPick_92 : decode M_Mod_runsPick.2.1 92 = .ok (.iload 6, 2) := by decide +kernel
theorem e_Mod_runsPick_94 : decode M_Mod_runsPick.2.1 94 = .ok (.ifCond .ne 9, 3) := by decide +kernel
theorem e_Mod_runsPick_97 : decode M_Mod_runsPick.2.1 97 = .ok (.iload 7, 2) := by decide +kernel
theorem e_Mod_runsPick_99 : decode M_Mod_runsPick.2.1 99 = .ok (.ifCond .ne 4, 3) := by decide +kernel
theorem e_Mod_runsPick_102 : decode M_Mod_runsPick.2.1 102 = .ok (.return_, 1) := by decide +kernel
theorem e_Mod_runsPick_103 : decode M_Mod_runsPick.2.1 103 = .ok (.iload 6, 2) := by decide +kernel
theorem e_Mod_runsPick_105 : decode M_Mod_runsPick.2.1 105 = .ok (.ifCond .eq 19, 3) := by decide +kernel
theorem e_Mod_runsPick_108 : decode M_Mod_runsPick.2.1 108 = .ok (.aload_n 0, 1) := by decide +kernel
theorem e_Mod_runsPick_109 : decode M_Mod_runsPick.2.1 109 = .ok (.getfield 9, 3) := by decide +kernel
theorem e_Mod_runsPick_112 : decode M_Mod_runsPick.2.1 112 = .ok (.iload_n 1, 1) := by decide +kernel
theorem e_Mod_runsPick_113 : decode M_Mod_runsPick.2.1 113 = .ok (.iload 4, 2) := by decide +kernel
theorem e_Mod_runsPick_115 : decode M_Mod_runsPick.2.1 115 = .ok (.invokestatic 199, 3) := by decide +kernel
theorem e_Mod_runsPick_118 : decode M_Mod_runsPick.2.1 118 = .ok (.iconst 0, 1) := by decide +kernel
theorem e_Mod_runsPick_119 : decode M_Mod_runsPick.2.1 119 = .ok (.iadd, 1) := by decide +kernel
theorem e_Mod_runsPick_120 : decode M_Mod_runsPick.2.1 120 = .ok (.iaload, 1) := by decide +kernel
theorem e_Mod_runsPick_121 : decode M_Mod_runsPick.2.1 121 = .ok (.goto 16, 3) := by decide +kernel
theorem e_Mod_runsPick_124 : decode M_Mod_runsPick.2.1 124 = .ok (.aload_n 0, 1) := by decide +kernel
theorem e_Mod_runsPick_125 : decode M_Mod_runsPick.2.1 125 = .ok (.getfield 9, 3) := by decide +kernel
theorem e_Mod_runsPick_128 : decode M_Mod_runsPick.2.1 128 = .ok (.iload_n 1, 1) := by decide +kernel
theorem e_Mod_runsPick_129 : decode M_Mod_runsPick.2.1 129 = .ok (.iload 5, 2) := by decide +kernel
theorem e_Mod_runsPick_131 : decode M_Mod_runsPick.2.1 131 = .ok (.invokestatic 199, 3) := by decide +kernel
theorem e_Mod_runsPick_134 : decode M_Mod_runsPick.2.1 134 = .ok (.iconst 0, 1) := by decide +kernel
theorem e_Mod_runsPick_135 : decode M_Mod_runsPick.2.1 135 = .ok (.iadd, 1) := by decide +kernel
theorem e_Mod_runsPick_136 : decode M_Mod_runsPick.2.1 136 = .ok (.iaload, 1) := by decide +kernel
theorem e_Mod_runsPick_137 : decode M_Mod_runsPick.2.1 137 = .ok (.istore 8, 2) := by decide +kernel
theorem e_Mod_runsPick_139 : decode M_Mod_runsPick.2.1 139 = .ok (.iload 7, 2) := by decide +kernel
theorem e_Mod_runsPick_141 : decode M_Mod_runsPick.2.1 141 = .ok (.ifCond .eq 19, 3) := by decide +kernel
theorem e_Mod_runsPick_144 : decode M_Mod_runsPick.2.1 144 = .ok (.aload_n 0, 1) := by decide +kernel
theorem e_Mod_runsPick_145 : decode M_Mod_runsPick.2.1 145 = .ok (.getfield 9, 3) := by decide +kernel
theorem e_Mod_runsPick_148 : decode M_Mod_runsPick.2.1 148 = .ok (.iload_n 1, 1) := by decide +kernel
theorem e_Mod_runsPick_149 : decode M_Mod_runsPick.2.1 149 = .ok (.iload 5, 2) := by decide +kernel
theorem e_Mod_runsPick_151 : decode M_Mod_runsPick.2.1 151 = .ok (.invokestatic 199, 3) := by decide +kernel
theorem e_Mod_runsPick_154 : decode M_Mod_runsPick.2.1 154 = .ok (.iconst 0, 1) := by decide +kernel
theorem e_Mod_runsPick_155 : decode M_Mod_runsPick.2.1 155 = .ok (.iadd, 1) := by decide +kernel
theorem e_Mod_runsPick_156 : decode M_Mod_runsPick.2.1 156 = .ok (.iaload, 1) := by decide +kernel
theorem e_Mod_runsPick_157 : decode M_Mod_runsPick.2.1 157 = .ok (.goto 5, 3) := by decide +kernel
theorem e_Mod_runsPick_160 : decode M_Mod_runsPick.2.1 160 = .ok (.iload 8, 2) := by decide +kernel
theorem e_Mod_runsPick_162 : decode M_Mod_runsPick.2.1 162 = .ok (.istore 9, 2) := by decide +kernel
theorem e_Mod_runsPick_164 : decode M_Mod_runsPick.2.1 164 = .ok (.aload_n 0, 1) := by decide +kernel
theorem e_Mod_runsPick_165 : decode M_Mod_runsPick.2.1 165 = .ok (.getfield 9, 3) := by decide +kernel
theorem e_Mod_runsPick_168 : decode M_Mod_runsPick.2.1 168 = .ok (.iload_n 3, 1) := by decide +kernel
theorem e_Mod_runsPick_169 : decode M_Mod_runsPick.2.1 169 = .ok (.iconst 3, 1) := by decide +kernel
theorem e_Mod_runsPick_170 : decode M_Mod_runsPick.2.1 170 = .ok (.iadd, 1) := by decide +kernel
theorem e_Mod_runsPick_171 : decode M_Mod_runsPick.2.1 171 = .ok (.aload_n 0, 1) := by decide +kernel
theorem e_Mod_runsPick_172 : decode M_Mod_runsPick.2.1 172 = .ok (.getfield 22, 3) := by decide +kernel
theorem e_Mod_runsPick_175 : decode M_Mod_runsPick.2.1 175 = .ok (.iload_n 2, 1) := by decide +kernel
theorem e_Mod_runsPick_176 : decode M_Mod_runsPick.2.1 176 = .ok (.iaload, 1) := by decide +kernel
theorem e_Mod_runsPick_177 : decode M_Mod_runsPick.2.1 177 = .ok (.iconst 1, 1) := by decide +kernel
theorem e_Mod_runsPick_178 : decode M_Mod_runsPick.2.1 178 = .ok (.if_icmp .ne 7, 3) := by decide +kernel
theorem e_Mod_runsPick_181 : decode M_Mod_runsPick.2.1 181 = .ok (.iconst 1, 1) := by decide +kernel
theorem e_Mod_runsPick_182 : decode M_Mod_runsPick.2.1 182 = .ok (.goto 4, 3) := by decide +kernel
theorem e_Mod_runsPick_185 : decode M_Mod_runsPick.2.1 185 = .ok (.iconst 0, 1) := by decide +kernel
theorem e_Mod_runsPick_186 : decode M_Mod_runsPick.2.1 186 = .ok (.iload 8, 2) := by decide +kernel
theorem e_Mod_runsPick_188 : decode M_Mod_runsPick.2.1 188 = .ok (.iload 9, 2) := by decide +kernel
theorem e_Mod_runsPick_190 : decode M_Mod_runsPick.2.1 190 = .ok (.if_icmp .lt 7, 3) := by decide +kernel
theorem e_Mod_runsPick_193 : decode M_Mod_runsPick.2.1 193 = .ok (.iconst 1, 1) := by decide +kernel
theorem e_Mod_runsPick_194 : decode M_Mod_runsPick.2.1 194 = .ok (.goto 4, 3) := by decide +kernel
theorem e_Mod_runsPick_197 : decode M_Mod_runsPick.2.1 197 = .ok (.iconst 0, 1) := by decide +kernel
theorem e_Mod_runsPick_198 : decode M_Mod_runsPick.2.1 198 = .ok (.if_icmp .ne 8, 3) := by decide +kernel
theorem e_Mod_runsPick_201 : decode M_Mod_runsPick.2.1 201 = .ok (.iload 8, 2) := by decide +kernel
theorem e_Mod_runsPick_203 : decode M_Mod_runsPick.2.1 203 = .ok (.goto 5, 3) := by decide +kernel
theorem e_Mod_runsPick_206 : decode M_Mod_runsPick.2.1 206 = .ok (.iload 9, 2) := by decide +kernel
theorem e_Mod_runsPick_208 : decode M_Mod_runsPick.2.1 208 = .ok (.iastore, 1) := by decide +kernel
theorem e_Mod_runsPick_209 : decode M_Mod_runsPick.2.1 209 = .ok (.return_, 1) := by decide +kernel
theorem e_Mod_runsOutput_0 : decode M_Mod_runsOutput.2.1 0 = .ok (.iload_n 1, 1) := by decide +kernel
theorem e_Mod_runsOutput_1 : decode M_Mod_runsOutput.2.1 1 = .ok (.iload_n 2, 1) := by decide +kernel
theorem e_Mod_runsOutput_2 : decode M_Mod_runsOutput.2.1 2 = .ok (.invokestatic 193, 3) := by decide +kernel
theorem e_Mod_runsOutput_5 : decode M_Mod_runsOutput.2.1 5 = .ok (.istore_n 3, 1) := by decide +kernel
theorem e_Mod_runsOutput_6 : decode M_Mod_runsOutput.2.1 6 = .ok (.aload_n 0, 1) := by decide +kernel
theorem e_Mod_runsOutput_7 : decode M_Mod_runsOutput.2.1 7 = .ok (.getfield 9, 3) := by decide +kernel
theorem e_Mod_runsOutput_10 : decode M_Mod_runsOutput.2.1 10 = .ok (.iload_n 3, 1) := by decide +kernel
theorem e_Mod_runsOutput_11 : decode M_Mod_runsOutput.2.1 11 = .ok (.iconst 1, 1) := by decide +kernel
theorem e_Mod_runsOutput_12 : decode M_Mod_runsOutput.2.1 12 = .ok (.iadd, 1) := by decide +kernel
theorem e_Mod_runsOutput_13 : decode M_Mod_runsOutput.2.1 13 = .ok (.iaload, 1) := by decide +kernel
theorem e_Mod_runsOutput_14 : decode M_Mod_runsOutput.2.1 14 = .ok (.istore 4, 2) := by decide +kernel
theorem e_Mod_runsOutput_16 : decode M_Mod_runsOutput.2.1 16 = .ok (.iload 4, 2) := by decide +kernel
theorem e_Mod_runsOutput_18 : decode M_Mod_runsOutput.2.1 18 = .ok (.iconst 3, 1) := by decide +kernel
theorem e_Mod_runsOutput_19 : decode M_Mod_runsOutput.2.1 19 = .ok (.if_icmp .ne 28, 3) := by decide +kernel
theorem e_Mod_runsOutput_22 : decode M_Mod_runsOutput.2.1 22 = .ok (.aload_n 0, 1) := by decide +kernel
theorem e_Mod_runsOutput_23 : decode M_Mod_runsOutput.2.1 23 = .ok (.getfield 9, 3) := by decide +kernel
theorem e_Mod_runsOutput_26 : decode M_Mod_runsOutput.2.1 26 = .ok (.iload_n 3, 1) := by decide +kernel
theorem e_Mod_runsOutput_27 : decode M_Mod_runsOutput.2.1 27 = .ok (.iconst 2, 1) := by decide +kernel
theorem e_Mod_runsOutput_28 : decode M_Mod_runsOutput.2.1 28 = .ok (.iadd, 1) := by decide +kernel
theorem e_Mod_runsOutput_29 : decode M_Mod_runsOutput.2.1 29 = .ok (.aload_n 0, 1) := by decide +kernel
theorem e_Mod_runsOutput_30 : decode M_Mod_runsOutput.2.1 30 = .ok (.getfield 9, 3) := by decide +kernel
theorem e_Mod_runsOutput_33 : decode M_Mod_runsOutput.2.1 33 = .ok (.iload_n 1, 1) := by decide +kernel
theorem e_Mod_runsOutput_34 : decode M_Mod_runsOutput.2.1 34 = .ok (.aload_n 0, 1) := by decide +kernel
theorem e_Mod_runsOutput_35 : decode M_Mod_runsOutput.2.1 35 = .ok (.iload_n 2, 1) := by decide +kernel
theorem e_Mod_runsOutput_36 : decode M_Mod_runsOutput.2.1 36 = .ok (.iconst 2, 1) := by decide +kernel
theorem e_Mod_runsOutput_37 : decode M_Mod_runsOutput.2.1 37 = .ok (.invokevirtual 196, 3) := by decide +kernel
theorem e_Mod_runsOutput_40 : decode M_Mod_runsOutput.2.1 40 = .ok (.invokestatic 199, 3) := by decide +kernel
theorem e_Mod_runsOutput_43 : decode M_Mod_runsOutput.2.1 43 = .ok (.iconst 0, 1) := by decide +kernel
theorem e_Mod_runsOutput_44 : decode M_Mod_runsOutput.2.1 44 = .ok (.iadd, 1) := by decide +kernel
theorem e_Mod_runsOutput_45 : decode M_Mod_runsOutput.2.1 45 = .ok (.iaload, 1) := by decide +kernel
theorem e_Mod_runsOutput_46 : decode M_Mod_runsOutput.2.1 46 = .ok (.iastore, 1) := by decide +kernel
theorem e_Mod_runsOutput_47 : decode M_Mod_runsOutput.2.1 47 = .ok (.iload 4, 2) := by decide +kernel
theorem e_Mod_runsOutput_49 : decode M_Mod_runsOutput.2.1 49 = .ok (.iconst 1, 1) := by decide +kernel
theorem e_Mod_runsOutput_50 : decode M_Mod_runsOutput.2.1 50 = .ok (.if_icmp .ne 19, 3) := by decide +kernel
theorem e_Mod_runsOutput_53 : decode M_Mod_runsOutput.2.1 53 = .ok (.aload_n 0, 1) := by decide +kernel
theorem e_Mod_runsOutput_54 : decode M_Mod_runsOutput.2.1 54 = .ok (.getfield 9, 3) := by decide +kernel
theorem e_Mod_runsOutput_57 : decode M_Mod_runsOutput.2.1 57 = .ok (.iload_n 3, 1) := by decide +kernel
theorem e_Mod_runsOutput_58 : decode M_Mod_runsOutput.2.1 58 = .ok (.iconst 2, 1) := by decide +kernel
theorem e_Mod_runsOutput_59 : decode M_Mod_runsOutput.2.1 59 = .ok (.iadd, 1) := by decide +kernel
theorem e_Mod_runsOutput_60 : decode M_Mod_runsOutput.2.1 60 = .ok (.aload_n 0, 1) := by decide +kernel
theorem e_Mod_runsOutput_61 : decode M_Mod_runsOutput.2.1 61 = .ok (.getfield 9, 3) := by decide +kernel
theorem e_Mod_runsOutput_64 : decode M_Mod_runsOutput.2.1 64 = .ok (.iload_n 3, 1) := by decide +kernel
theorem e_Mod_runsOutput_65 : decode M_Mod_runsOutput.2.1 65 = .ok (.iconst 3, 1) := by decide +kernel
theorem e_Mod_runsOutput_66 : decode M_Mod_runsOutput.2.1 66 = .ok (.iadd, 1) := by decide +kernel
theorem e_Mod_runsOutput_67 : decode M_Mod_runsOutput.2.1 67 = .ok (.iaload, 1) := by decide +kernel
theorem e_Mod_runsOutput_68 : decode M_Mod_runsOutput.2.1 68 = .ok (.iastore, 1) := by decide +kernel
theorem e_Mod_runsOutput_69 : decode M_Mod_runsOutput.2.1 69 = .ok (.aload_n 0, 1) := by decide +kernel
theorem e_Mod_runsOutput_70 : decode M_Mod_runsOutput.2.1 70 = .ok (.getfield 9, 3) := by decide +kernel
theorem e_Mod_runsOutput_73 : decode M_Mod_runsOutput.2.1 73 = .ok (.iload_n 3, 1) := by decide +kernel
theorem e_Mod_runsOutput_74 : decode M_Mod_runsOutput.2.1 74 = .ok (.iconst 2, 1) := by decide +kernel
theorem e_Mod_runsOutput_75 : decode M_Mod_runsOutput.2.1 75 = .ok (.iadd, 1) := by decide +kernel
theorem e_Mod_runsOutput_76 : decode M_Mod_runsOutput.2.1 76 = .ok (.iaload, 1) := by decide +kernel
theorem e_Mod_runsOutput_77 : decode M_Mod_runsOutput.2.1 77 = .ok (.aload_n 0, 1) := by decide +kernel
theorem e_Mod_runsOutput_78 : decode M_Mod_runsOutput.2.1 78 = .ok (.getfield 9, 3) := by decide +kernel
theorem e_Mod_runsOutput_81 : decode M_Mod_runsOutput.2.1 81 = .ok (.iload_n 3, 1) := by decide +kernel
theorem e_Mod_runsOutput_82 : decode M_Mod_runsOutput.2.1 82 = .ok (.iconst 3, 1) := by decide +kernel
theorem e_Mod_runsOutput_83 : decode M_Mod_runsOutput.2.1 83 = .ok (.iadd, 1) := by decide +kernel
theorem e_Mod_runsOutput_84 : decode M_Mod_runsOutput.2.1 84 = .ok (.iaload, 1) := by decide +kernel
theorem e_Mod_runsOutput_85 : decode M_Mod_runsOutput.2.1 85 = .ok (.isub, 1) := by decide +kernel
theorem e_Mod_runsOutput_86 : decode M_Mod_runsOutput.2.1 86 = .ok (.istore 5, 2) := by decide +kernel
theorem e_Mod_runsOutput_88 : decode M_Mod_runsOutput.2.1 88 = .ok (.aload_n 0, 1) := by decide +kernel
theorem e_Mod_runsOutput_89 : decode M_Mod_runsOutput.2.1 89 = .ok (.getfield 25, 3) := by decide +kernel
theorem e_Mod_runsOutput_92 : decode M_Mod_runsOutput.2.1 92 = .ok (.iload_n 2, 1) := by decide +kernel
theorem e_Mod_runsOutput_93 : decode M_Mod_runsOutput.2.1 93 = .ok (.iaload, 1) := by decide +kernel
theorem e_Mod_runsOutput_94 : decode M_Mod_runsOutput.2.1 94 = .ok (.istore 6, 2) := by decide +kernel
theorem e_Mod_runsOutput_96 : decode M_Mod_runsOutput.2.1 96 = .ok (.iload 4, 2) := by decide +kernel
theorem e_Mod_runsOutput_98 : decode M_Mod_runsOutput.2.1 98 = .ok (.iconst 1, 1) := by decide +kernel
theorem e_Mod_runsOutput_99 : decode M_Mod_runsOutput.2.1 99 = .ok (.if_icmp .le 42, 3) := by decide +kernel
theorem e_Mod_runsOutput_102 : decode M_Mod_runsOutput.2.1 102 = .ok (.aload_n 0, 1) := by decide +kernel
theorem e_Mod_runsOutput_103 : decode M_Mod_runsOutput.2.1 103 = .ok (.getfield 9, 3) := by decide +kernel
theorem e_Mod_runsOutput_106 : decode M_Mod_runsOutput.2.1 106 = .ok (.iload_n 3, 1) := by decide +kernel
theorem e_Mod_runsOutput_107 : decode M_Mod_runsOutput.2.1 107 = .ok (.iconst 3, 1) := by decide +kernel
theorem e_Mod_runsOutput_108 : decode M_Mod_runsOutput.2.1 108 = .ok (.iadd, 1) := by decide +kernel
theorem e_Mod_runsOutput_109 : decode M_Mod_runsOutput.2.1 109 = .ok (.dup2, 1) := by decide +kernel
theorem e_Mod_runsOutput_110 : decode M_Mod_runsOutput.2.1 110 = .ok (.iaload, 1) := by decide +kernel
theorem e_Mod_runsOutput_111 : decode M_Mod_runsOutput.2.1 111 = .ok (.iload 5, 2) := by decide +kernel
theorem e_Mod_runsOutput_113 : decode M_Mod_runsOutput.2.1 113 = .ok (.iload 6, 2) := by decide +kernel
theorem e_Mod_runsOutput_115 : decode M_Mod_runsOutput.2.1 115 = .ok (.if_icmp .le 8, 3) := by decide +kernel
theorem e_Mod_runsOutput_118 : decode M_Mod_runsOutput.2.1 118 = .ok (.iload 6, 2) := by decide +kernel
theorem e_Mod_runsOutput_120 : decode M_Mod_runsOutput.2.1 120 = .ok (.goto 19, 3) := by decide +kernel
theorem e_Mod_runsOutput_123 : decode M_Mod_runsOutput.2.1 123 = .ok (.iload 5, 2) := by decide +kernel
theorem e_Mod_runsOutput_125 : decode M_Mod_runsOutput.2.1 125 = .ok (.iload 6, 2) := by decide +kernel
theorem e_Mod_runsOutput_127 : decode M_Mod_runsOutput.2.1 127 = .ok (.ineg, 1) := by decide +kernel
theorem e_Mod_runsOutput_128 : decode M_Mod_runsOutput.2.1 128 = .ok (.if_icmp .ge 9, 3) := by decide +kernel
theorem e_Mod_runsOutput_131 : decode M_Mod_runsOutput.2.1 131 = .ok (.iload 6, 2) := by decide +kernel
theorem e_Mod_runsOutput_133 : decode M_Mod_runsOutput.2.1 133 = .ok (.ineg, 1) := by decide +kernel
theorem e_Mod_runsOutput_134 : decode M_Mod_runsOutput.2.1 134 = .ok (.goto 5, 3) := by decide +kernel
theorem e_Mod_runsOutput_137 : decode M_Mod_runsOutput.2.1 137 = .ok (.iload 5, 2) := by decide +kernel
theorem e_Mod_runsOutput_139 : decode M_Mod_runsOutput.2.1 139 = .ok (.iadd, 1) := by decide +kernel
theorem e_Mod_runsOutput_140 : decode M_Mod_runsOutput.2.1 140 = .ok (.iastore, 1) := by decide +kernel
theorem e_Mod_runsOutput_141 : decode M_Mod_runsOutput.2.1 141 = .ok (.aload_n 0, 1) := by decide +kernel
theorem e_Mod_runsOutput_142 : decode M_Mod_runsOutput.2.1 142 = .ok (.getfield 9, 3) := by decide +kernel
theorem e_Mod_runsOutput_145 : decode M_Mod_runsOutput.2.1 145 = .ok (.iload_n 3, 1) := by decide +kernel
theorem e_Mod_runsOutput_146 : decode M_Mod_runsOutput.2.1 146 = .ok (.iconst 3, 1) := by decide +kernel
theorem e_Mod_runsOutput_147 : decode M_Mod_runsOutput.2.1 147 = .ok (.iadd, 1) := by decide +kernel
theorem e_Mod_runsOutput_148 : decode M_Mod_runsOutput.2.1 148 = .ok (.iaload, 1) := by decide +kernel
theorem e_Mod_runsOutput_149 : decode M_Mod_runsOutput.2.1 149 = .ok (.istore 7, 2) := by decide +kernel
theorem e_Mod_runsOutput_151 : decode M_Mod_runsOutput.2.1 151 = .ok (.aload_n 0, 1) := by decide +kernel
theorem e_Mod_runsOutput_152 : decode M_Mod_runsOutput.2.1 152 = .ok (.getfield 9, 3) := by decide +kernel
theorem e_Mod_runsOutput_155 : decode M_Mod_runsOutput.2.1 155 = .ok (.iload_n 3, 1) := by decide +kernel
theorem e_Mod_runsOutput_156 : decode M_Mod_runsOutput.2.1 156 = .ok (.iconst 2, 1) := by decide +kernel
theorem e_Mod_runsOutput_157 : decode M_Mod_runsOutput.2.1 157 = .ok (.iadd, 1) := by decide +kernel
theorem e_Mod_runsOutput_158 : decode M_Mod_runsOutput.2.1 158 = .ok (.iaload, 1) := by decide +kernel
theorem e_Mod_runsOutput_159 : decode M_Mod_runsOutput.2.1 159 = .ok (.istore 8, 2) := by decide +kernel
theorem e_Mod_runsOutput_161 : decode M_Mod_runsOutput.2.1 161 = .ok (.aload_n 0, 1) := by decide +kernel
theorem e_Mod_runsOutput_162 : decode M_Mod_runsOutput.2.1 162 = .ok (.getfield 9, 3) := by decide +kernel
theorem e_Mod_runsOutput_165 : decode M_Mod_runsOutput.2.1 165 = .ok (.iload_n 3, 1) := by decide +kernel
theorem e_Mod_runsOutput_166 : decode M_Mod_runsOutput.2.1 166 = .ok (.iconst 5, 1) := by decide +kernel
theorem e_Mod_runsOutput_167 : decode M_Mod_runsOutput.2.1 167 = .ok (.iadd, 1) := by decide +kernel
theorem e_Mod_runsOutput_168 : decode M_Mod_runsOutput.2.1 168 = .ok (.iload 4, 2) := by decide +kernel
theorem e_Mod_runsOutput_170 : decode M_Mod_runsOutput.2.1 170 = .ok (.ifCond .ne 7, 3) := by decide +kernel
theorem e_Mod_runsOutput_173 : decode M_Mod_runsOutput.2.1 173 = .ok (.iconst 0, 1) := by decide +kernel
theorem e_Mod_runsOutput_174 : decode M_Mod_runsOutput.2.1 174 = .ok (.goto 4, 3) := by decide +kernel
theorem e_Mod_runsOutput_177 : decode M_Mod_runsOutput.2.1 177 = .ok (.iconst 1, 1) := by decide +kernel
theorem e_Mod_runsOutput_178 : decode M_Mod_runsOutput.2.1 178 = .ok (.iastore, 1) := by decide +kernel
theorem e_Mod_runsOutput_179 : decode M_Mod_runsOutput.2.1 179 = .ok (.aload_n 0, 1) := by decide +kernel
theorem e_Mod_runsOutput_180 : decode M_Mod_runsOutput.2.1 180 = .ok (.getfield 9, 3) := by decide +kernel
theorem e_Mod_runsOutput_183 : decode M_Mod_runsOutput.2.1 183 = .ok (.iload_n 3, 1) := by decide +kernel
theorem e_Mod_runsOutput_184 : decode M_Mod_runsOutput.2.1 184 = .ok (.bipush 6, 2) := by decide +kernel
theorem e_Mod_runsOutput_186 : decode M_Mod_runsOutput.2.1 186 = .ok (.iadd, 1) := by decide +kernel
theorem e_Mod_runsOutput_187 : decode M_Mod_runsOutput.2.1 187 = .ok (.iload 7, 2) := by decide +kernel
theorem e_Mod_runsOutput_189 : decode M_Mod_runsOutput.2.1 189 = .ok (.sipush 1000, 3) := by decide +kernel
theorem e_Mod_runsOutput_192 : decode M_Mod_runsOutput.2.1 192 = .ok (.if_icmp .eq 10, 3) := by decide +kernel
theorem e_Mod_runsOutput_195 : decode M_Mod_runsOutput.2.1 195 = .ok (.iload 8, 2) := by decide +kernel
theorem e_Mod_runsOutput_197 : decode M_Mod_runsOutput.2.1 197 = .ok (.iload 7, 2) := by decide +kernel
theorem e_Mod_runsOutput_199 : decode M_Mod_runsOutput.2.1 199 = .ok (.if_icmp .le 7, 3) := by decide +kernel
theorem e_Mod_runsOutput_202 : decode M_Mod_runsOutput.2.1 202 = .ok (.iconst 2, 1) := by decide +kernel
theorem e_Mod_runsOutput_203 : decode M_Mod_runsOutput.2.1 203 = .ok (.goto 20, 3) := by decide +kernel
theorem e_Mod_runsOutput_206 : decode M_Mod_runsOutput.2.1 206 = .ok (.iload 7, 2) := by decide +kernel
theorem e_Mod_runsOutput_208 : decode M_Mod_runsOutput.2.1 208 = .ok (.ifCond .eq 10, 3) := by decide +kernel
theorem e_Mod_runsOutput_211 : decode M_Mod_runsOutput.2.1 211 = .ok (.iload 8, 2) := by decide +kernel
theorem e_Mod_runsOutput_213 : decode M_Mod_runsOutput.2.1 213 = .ok (.iload 7, 2) := by decide +kernel
theorem e_Mod_runsOutput_215 : decode M_Mod_runsOutput.2.1 215 = .ok (.if_icmp .ge 7, 3) := by decide +kernel
theorem e_Mod_runsOutput_218 : decode M_Mod_runsOutput.2.1 218 = .ok (.iconst 1, 1) := by decide +kernel
theorem e_Mod_runsOutput_219 : decode M_Mod_runsOutput.2.1 219 = .ok (.goto 4, 3) := by decide +kernel
theorem e_Mod_runsOutput_222 : decode M_Mod_runsOutput.2.1 222 = .ok (.iconst 0, 1) := by decide +kernel
theorem e_Mod_runsOutput_223 : decode M_Mod_runsOutput.2.1 223 = .ok (.iastore, 1) := by decide +kernel
theorem e_Mod_runsOutput_224 : decode M_Mod_runsOutput.2.1 224 = .ok (.return_, 1) := by decide +kernel
theorem e_Mod_runsPid_0 : decode M_Mod_runsPid.2.1 0 = .ok (.iload_n 1, 1) := by decide +kernel
theorem e_Mod_runsPid_1 : decode M_Mod_runsPid.2.1 1 = .ok (.iload_n 2, 1) := by decide +kernel
theorem e_Mod_runsPid_2 : decode M_Mod_runsPid.2.1 2 = .ok (.invokestatic 193, 3) := by decide +kernel
theorem e_Mod_runsPid_5 : decode M_Mod_runsPid.2.1 5 = .ok (.istore_n 3, 1) := by decide +kernel
theorem e_Mod_runsPid_6 : decode M_Mod_runsPid.2.1 6 = .ok (.aload_n 0, 1) := by decide +kernel
theorem e_Mod_runsPid_7 : decode M_Mod_runsPid.2.1 7 = .ok (.getfield 9, 3) := by decide +kernel
theorem e_Mod_runsPid_10 : decode M_Mod_runsPid.2.1 10 = .ok (.iload_n 3, 1) := by decide +kernel
theorem e_Mod_runsPid_11 : decode M_Mod_runsPid.2.1 11 = .ok (.iconst 1, 1) := by decide +kernel
theorem e_Mod_runsPid_12 : decode M_Mod_runsPid.2.1 12 = .ok (.iadd, 1) := by decide +kernel
theorem e_Mod_runsPid_13 : decode M_Mod_runsPid.2.1 13 = .ok (.iaload, 1) := by decide +kernel
theorem e_Mod_runsPid_14 : decode M_Mod_runsPid.2.1 14 = .ok (.istore 4, 2) := by decide +kernel
theorem e_Mod_runsPid_16 : decode M_Mod_runsPid.2.1 16 = .ok (.aload_n 0, 1) := by decide +kernel
theorem e_Mod_runsPid_17 : decode M_Mod_runsPid.2.1 17 = .ok (.iload_n 2, 1) := by decide +kernel
theorem e_Mod_runsPid_18 : decode M_Mod_runsPid.2.1 18 = .ok (.iconst 0, 1) := by decide +kernel
theorem e_Mod_runsPid_19 : decode M_Mod_runsPid.2.1 19 = .ok (.invokevirtual 196, 3) := by decide +kernel
theorem e_Mod_runsPid_22 : decode M_Mod_runsPid.2.1 22 = .ok (.istore 5, 2) := by decide +kernel
theorem e_Mod_runsPid_24 : decode M_Mod_runsPid.2.1 24 = .ok (.aload_n 0, 1) := by decide +kernel
theorem e_Mod_runsPid_25 : decode M_Mod_runsPid.2.1 25 = .ok (.iload_n 2, 1) := by decide +kernel
theorem e_Mod_runsPid_26 : decode M_Mod_runsPid.2.1 26 = .ok (.invokevirtual 224, 3) := by decide +kernel
theorem e_Mod_runsPid_29 : decode M_Mod_runsPid.2.1 29 = .ok (.istore 6, 2) := by decide +kernel
theorem e_Mod_runsPid_31 : decode M_Mod_runsPid.2.1 31 = .ok (.iload 4, 2) := by decide +kernel
theorem e_Mod_runsPid_33 : decode M_Mod_runsPid.2.1 33 = .ok (.iconst 3, 1) := by decide +kernel
theorem e_Mod_runsPid_34 : decode M_Mod_runsPid.2.1 34 = .ok (.if_icmp .ne 28, 3) := by decide +kernel
theorem e_Mod_runsPid_37 : decode M_Mod_runsPid.2.1 37 = .ok (.aload_n 0, 1) := by decide +kernel
theorem e_Mod_runsPid_38 : decode M_Mod_runsPid.2.1 38 = .ok (.getfield 9, 3) := by decide +kernel
theorem e_Mod_runsPid_41 : decode M_Mod_runsPid.2.1 41 = .ok (.iload_n 3, 1) := by decide +kernel
theorem e_Mod_runsPid_42 : decode M_Mod_runsPid.2.1 42 = .ok (.iconst 2, 1) := by decide +kernel
theorem e_Mod_runsPid_43 : decode M_Mod_runsPid.2.1 43 = .ok (.iadd, 1) := by decide +kernel
theorem e_Mod_runsPid_44 : decode M_Mod_runsPid.2.1 44 = .ok (.aload_n 0, 1) := by decide +kernel
theorem e_Mod_runsPid_45 : decode M_Mod_runsPid.2.1 45 = .ok (.getfield 9, 3) := by decide +kernel
theorem e_Mod_runsPid_48 : decode M_Mod_runsPid.2.1 48 = .ok (.iload_n 1, 1) := by decide +kernel
theorem e_Mod_runsPid_49 : decode M_Mod_runsPid.2.1 49 = .ok (.aload_n 0, 1) := by decide +kernel
theorem e_Mod_runsPid_50 : decode M_Mod_runsPid.2.1 50 = .ok (.iload_n 2, 1) := by decide +kernel
theorem e_Mod_runsPid_51 : decode M_Mod_runsPid.2.1 51 = .ok (.iconst 2, 1) := by decide +kernel
theorem e_Mod_runsPid_52 : decode M_Mod_runsPid.2.1 52 = .ok (.invokevirtual 196, 3) := by decide +kernel
theorem e_Mod_runsPid_55 : decode M_Mod_runsPid.2.1 55 = .ok (.invokestatic 199, 3) := by decide +kernel
theorem e_Mod_runsPid_58 : decode M_Mod_runsPid.2.1 58 = .ok (.iconst 0, 1) := by decide +kernel
theorem e_Mod_runsPid_59 : decode M_Mod_runsPid.2.1 59 = .ok (.iadd, 1) := by decide +kernel
theorem e_Mod_runsPid_60 : decode M_Mod_runsPid.2.1 60 = .ok (.iaload, 1) := by decide +kernel
theorem e_Mod_runsPid_61 : decode M_Mod_runsPid.2.1 61 = .ok (.iastore, 1) := by decide +kernel
theorem e_Mod_runsPid_62 : decode M_Mod_runsPid.2.1 62 = .ok (.aload_n 0, 1) := by decide +kernel
theorem e_Mod_runsPid_63 : decode M_Mod_runsPid.2.1 63 = .ok (.getfield 9, 3) := by decide +kernel
theorem e_Mod_runsPid_66 : decode M_Mod_runsPid.2.1 66 = .ok (.iload_n 3, 1) := by decide +kernel
theorem e_Mod_runsPid_67 : decode M_Mod_runsPid.2.1 67 = .ok (.iconst 2, 1) := by decide +kernel
theorem e_Mod_runsPid_68 : decode M_Mod_runsPid.2.1 68 = .ok (.iadd, 1) := by decide +kernel
theorem e_Mod_runsPid_69 : decode M_Mod_runsPid.2.1 69 = .ok (.iaload, 1) := by decide +kernel
theorem e_Mod_runsPid_70 : decode M_Mod_runsPid.2.1 70 = .ok (.iload 5, 2) := by decide +kernel
theorem e_Mod_runsPid_72 : decode M_Mod_runsPid.2.1 72 = .ok (.iconst (-1), 1) := by decide +kernel
theorem e_Mod_runsPid_73 : decode M_Mod_runsPid.2.1 73 = .ok (.if_icmp .ne 7, 3) := by decide +kernel
theorem e_Mod_runsPid_76 : decode M_Mod_runsPid.2.1 76 = .ok (.iconst 0, 1) := by decide +kernel
theorem e_Mod_runsPid_77 : decode M_Mod_runsPid.2.1 77 = .ok (.goto 16, 3) := by decide +kernel
theorem e_Mod_runsPid_80 : decode M_Mod_runsPid.2.1 80 = .ok (.aload_n 0, 1) := by decide +kernel
theorem e_Mod_runsPid_81 : decode M_Mod_runsPid.2.1 81 = .ok (.getfield 9, 3) := by decide +kernel
theorem e_Mod_runsPid_84 : decode M_Mod_runsPid.2.1 84 = .ok (.iload_n 1, 1) := by decide +kernel
theorem e_Mod_runsPid_85 : decode M_Mod_runsPid.2.1 85 = .ok (.iload 5, 2) := by decide +kernel
theorem e_Mod_runsPid_87 : decode M_Mod_runsPid.2.1 87 = .ok (.invokestatic 199, 3) := by decide +kernel
theorem e_Mod_runsPid_90 : decode M_Mod_runsPid.2.1 90 = .ok (.iconst 0, 1) := by decide +kernel
theorem e_Mod_runsPid_91 : decode M_Mod_runsPid.2.1 91 = .ok (.iadd, 1) := by decide +kernel
theorem e_Mod_runsPid_92 : decode M_Mod_runsPid.2.1 92 = .ok (.iaload, 1) := by decide +kernel
theorem e_Mod_runsPid_93 : decode M_Mod_runsPid.2.1 93 = .ok (.isub, 1) := by decide +kernel
theorem e_Mod_runsPid_94 : decode M_Mod_runsPid.2.1 94 = .ok (.istore 7, 2) := by decide +kernel
theorem e_Mod_runsPid_96 : decode M_Mod_runsPid.2.1 96 = .ok (.iload 6, 2) := by decide +kernel
theorem e_Mod_runsPid_98 : decode M_Mod_runsPid.2.1 98 = .ok (.iconst (-1), 1) := by decide +kernel
theorem e_Mod_runsPid_99 : decode M_Mod_runsPid.2.1 99 = .ok (.if_icmp .eq 25, 3) := by decide +kernel
theorem e_Mod_runsPid_102 : decode M_Mod_runsPid.2.1 102 = .ok (.aload_n 0, 1) := by decide +kernel
theorem e_Mod_runsPid_103 : decode M_Mod_runsPid.2.1 103 = .ok (.getfield 9, 3) := by decide +kernel
theorem e_Mod_runsPid_106 : decode M_Mod_runsPid.2.1 106 = .ok (.iload_n 1, 1) := by decide +kernel
theorem e_Mod_runsPid_107 : decode M_Mod_runsPid.2.1 107 = .ok (.iload 6, 2) := by decide +kernel
theorem e_Mod_runsPid_109 : decode M_Mod_runsPid.2.1 109 = .ok (.invokestatic 199, 3) := by decide +kernel
theorem e_Mod_runsPid_112 : decode M_Mod_runsPid.2.1 112 = .ok (.bipush 6, 2) := by decide +kernel
theorem e_Mod_runsPid_114 : decode M_Mod_runsPid.2.1 114 = .ok (.iadd, 1) := by decide +kernel
theorem e_Mod_runsPid_115 : decode M_Mod_runsPid.2.1 115 = .ok (.iaload, 1) := by decide +kernel
theorem e_Mod_runsPid_116 : decode M_Mod_runsPid.2.1 116 = .ok (.iconst 1, 1) := by decide +kernel
theorem e_Mod_runsPid_117 : decode M_Mod_runsPid.2.1 117 = .ok (.if_icmp .ne 7, 3) := by decide +kernel
theorem e_Mod_runsPid_120 : decode M_Mod_runsPid.2.1 120 = .ok (.iconst 1, 1) := by decide +kernel
theorem e_Mod_runsPid_121 : decode M_Mod_runsPid.2.1 121 = .ok (.goto 4, 3) := by decide +kernel
theorem e_Mod_runsPid_124 : decode M_Mod_runsPid.2.1 124 = .ok (.iconst 0, 1) := by decide +kernel
theorem e_Mod_runsPid_125 : decode M_Mod_runsPid.2.1 125 = .ok (.istore 8, 2) := by decide +kernel
theorem e_Mod_runsPid_127 : decode M_Mod_runsPid.2.1 127 = .ok (.iload 8, 2) := by decide +kernel
theorem e_Mod_runsPid_129 : decode M_Mod_runsPid.2.1 129 = .ok (.ifCond .eq 30, 3) := by decide +kernel
theorem e_Mod_runsPid_132 : decode M_Mod_runsPid.2.1 132 = .ok (.iload 4, 2) := by decide +kernel
theorem e_Mod_runsPid_134 : decode M_Mod_runsPid.2.1 134 = .ok (.ifCond .eq 25, 3) := by decide +kernel
theorem e_Mod_runsPid_137 : decode M_Mod_runsPid.2.1 137 = .ok (.aload_n 0, 1) := by decide +kernel
theorem e_Mod_runsPid_138 : decode M_Mod_runsPid.2.1 138 = .ok (.getfield 9, 3) := by decide +kernel
theorem e_Mod_runsPid_141 : decode M_Mod_runsPid.2.1 141 = .ok (.iload_n 1, 1) := by decide +kernel
theorem e_Mod_runsPid_142 : decode M_Mod_runsPid.2.1 142 = .ok (.iload 6, 2) := by decide +kernel
theorem e_Mod_runsPid_144 : decode M_Mod_runsPid.2.1 144 = .ok (.invokestatic 199, 3) := by decide +kernel
theorem e_Mod_runsPid_147 : decode M_Mod_runsPid.2.1 147 = .ok (.bipush 8, 2) := by decide +kernel
theorem e_Mod_runsPid_149 : decode M_Mod_runsPid.2.1 149 = .ok (.iadd, 1) := by decide +kernel
theorem e_Mod_runsPid_150 : decode M_Mod_runsPid.2.1 150 = .ok (.iaload, 1) := by decide +kernel
theorem e_Mod_runsPid_151 : decode M_Mod_runsPid.2.1 151 = .ok (.iconst 1, 1) := by decide +kernel
theorem e_Mod_runsPid_152 : decode M_Mod_runsPid.2.1 152 = .ok (.if_icmp .ne 7, 3) := by decide +kernel
theorem e_Mod_runsPid_155 : decode M_Mod_runsPid.2.1 155 = .ok (.iconst 1, 1) := by decide +kernel
theorem e_Mod_runsPid_156 : decode M_Mod_runsPid.2.1 156 = .ok (.goto 4, 3) := by decide +kernel
theorem e_Mod_runsPid_159 : decode M_Mod_runsPid.2.1 159 = .ok (.iconst 0, 1) := by decide +kernel
theorem e_Mod_runsPid_160 : decode M_Mod_runsPid.2.1 160 = .ok (.istore 9, 2) := by decide +kernel
theorem e_Mod_runsPid_162 : decode M_Mod_runsPid.2.1 162 = .ok (.aload_n 0, 1) := by decide +kernel
theorem e_Mod_runsPid_163 : decode M_Mod_runsPid.2.1 163 = .ok (.getfield 9, 3) := by decide +kernel
theorem e_Mod_runsPid_166 : decode M_Mod_runsPid.2.1 166 = .ok (.iload_n 3, 1) := by decide +kernel
theorem e_Mod_runsPid_167 : decode M_Mod_runsPid.2.1 167 = .ok (.bipush 7, 2) := by decide +kernel
theorem e_Mod_runsPid_169 : decode M_Mod_runsPid.2.1 169 = .ok (.iadd, 1) := by decide +kernel
theorem e_Mod_runsPid_170 : decode M_Mod_runsPid.2.1 170 = .ok (.iload 9, 2) := by decide +kernel
theorem e_Mod_runsPid_172 : decode M_Mod_runsPid.2.1 172 = .ok (.ifCond .eq 7, 3) := by decide +kernel
theorem e_Mod_runsPid_175 : decode M_Mod_runsPid.2.1 175 = .ok (.iconst 1, 1) := by decide +kernel
theorem e_Mod_runsPid_176 : decode M_Mod_runsPid.2.1 176 = .ok (.goto 4, 3) := by decide +kernel
theorem e_Mod_runsPid_179 : decode M_Mod_runsPid.2.1 179 = .ok (.iconst 0, 1) := by decide +kernel
theorem e_Mod_runsPid_180 : decode M_Mod_runsPid.2.1 180 = .ok (.iastore, 1) := by decide +kernel
theorem e_Mod_runsPid_181 : decode M_Mod_runsPid.2.1 181 = .ok (.iload 9, 2) := by decide +kernel
theorem e_Mod_runsPid_183 : decode M_Mod_runsPid.2.1 183 = .ok (.ifCond .eq 27, 3) := by decide +kernel
theorem e_Mod_runsPid_186 : decode M_Mod_runsPid.2.1 186 = .ok (.aload_n 0, 1) := by decide +kernel
theorem e_Mod_runsPid_187 : decode M_Mod_runsPid.2.1 187 = .ok (.getfield 9, 3) := by decide +kernel
theorem e_Mod_runsPid_190 : decode M_Mod_runsPid.2.1 190 = .ok (.iload_n 3, 1) := by decide +kernel
theorem e_Mod_runsPid_191 : decode M_Mod_runsPid.2.1 191 = .ok (.iconst 3, 1) := by decide +kernel
theorem e_Mod_runsPid_192 : decode M_Mod_runsPid.2.1 192 = .ok (.iadd, 1) := by decide +kernel
theorem e_Mod_runsPid_193 : decode M_Mod_runsPid.2.1 193 = .ok (.aload_n 0, 1) := by decide +kernel
theorem e_Mod_runsPid_194 : decode M_Mod_runsPid.2.1 194 = .ok (.getfield 9, 3) := by decide +kernel
theorem e_Mod_runsPid_197 : decode M_Mod_runsPid.2.1 197 = .ok (.iload_n 1, 1) := by decide +kernel
theorem e_Mod_runsPid_198 : decode M_Mod_runsPid.2.1 198 = .ok (.iload 6, 2) := by decide +kernel
theorem e_Mod_runsPid_200 : decode M_Mod_runsPid.2.1 200 = .ok (.invokestatic 199, 3) := by decide +kernel
theorem e_Mod_runsPid_203 : decode M_Mod_runsPid.2.1 203 = .ok (.iconst 5, 1) := by decide +kernel
theorem e_Mod_runsPid_204 : decode M_Mod_runsPid.2.1 204 = .ok (.iadd, 1) := by decide +kernel
theorem e_Mod_runsPid_205 : decode M_Mod_runsPid.2.1 205 = .ok (.iaload, 1) := by decide +kernel
theorem e_Mod_runsPid_206 : decode M_Mod_runsPid.2.1 206 = .ok (.iastore, 1) := by decide +kernel
theorem e_Mod_runsPid_207 : decode M_Mod_runsPid.2.1 207 = .ok (.goto 50, 3) := by decide +kernel
theorem e_Mod_runsPid_210 : decode M_Mod_runsPid.2.1 210 = .ok (.iload 4, 2) := by decide +kernel
theorem e_Mod_runsPid_212 : decode M_Mod_runsPid.2.1 212 = .ok (.iconst 1, 1) := by decide +kernel
theorem e_Mod_runsPid_213 : decode M_Mod_runsPid.2.1 213 = .ok (.if_icmp .le 44, 3) := by decide +kernel
theorem e_Mod_runsPid_216 : decode M_Mod_runsPid.2.1 216 = .ok (.iload 6, 2) := by decide +kernel
theorem e_Mod_runsPid_218 : decode M_Mod_runsPid.2.1 218 = .ok (.iconst (-1), 1) := by decide +kernel
theorem e_Mod_runsPid_219 : decode M_Mod_runsPid.2.1 219 = .ok (.if_icmp .eq 8, 3) := by decide +kernel
theorem e_Mod_runsPid_222 : decode M_Mod_runsPid.2.1 222 = .ok (.iload 8, 2) := by decide +kernel
theorem e_Mod_runsPid_224 : decode M_Mod_runsPid.2.1 224 = .ok (.ifCond .eq 33, 3) := by decide +kernel
theorem e_Mod_runsPid_227 : decode M_Mod_runsPid.2.1 227 = .ok (.aload_n 0, 1) := by decide +kernel
theorem e_Mod_runsPid_228 : decode M_Mod_runsPid.2.1 228 = .ok (.getfield 9, 3) := by decide +kernel
theorem e_Mod_runsPid_231 : decode M_Mod_runsPid.2.1 231 = .ok (.iload_n 3, 1) := by decide +kernel
theorem e_Mod_runsPid_232 : decode M_Mod_runsPid.2.1 232 = .ok (.iconst 3, 1) := by decide +kernel
theorem e_Mod_runsPid_233 : decode M_Mod_runsPid.2.1 233 = .ok (.iadd, 1) := by decide +kernel
theorem e_Mod_runsPid_234 : decode M_Mod_runsPid.2.1 234 = .ok (.aload_n 0, 1) := by decide +kernel
theorem e_Mod_runsPid_235 : decode M_Mod_runsPid.2.1 235 = .ok (.getfield 9, 3) := by decide +kernel
theorem e_Mod_runsPid_238 : decode M_Mod_runsPid.2.1 238 = .ok (.iload_n 3, 1) := by decide +kernel
theorem e_Mod_runsPid_239 : decode M_Mod_runsPid.2.1 239 = .ok (.iconst 3, 1) := by decide +kernel
theorem e_Mod_runsPid_240 : decode M_Mod_runsPid.2.1 240 = .ok (.iadd, 1) := by decide +kernel
theorem e_Mod_runsPid_241 : decode M_Mod_runsPid.2.1 241 = .ok (.iaload, 1) := by decide +kernel
theorem e_Mod_runsPid_242 : decode M_Mod_runsPid.2.1 242 = .ok (.aload_n 0, 1) := by decide +kernel
theorem e_Mod_runsPid_243 : decode M_Mod_runsPid.2.1 243 = .ok (.iload_n 1, 1) := by decide +kernel
theorem e_Mod_runsPid_244 : decode M_Mod_runsPid.2.1 244 = .ok (.iload_n 2, 1) := by decide +kernel
theorem e_Mod_runsPid_245 : decode M_Mod_runsPid.2.1 245 = .ok (.iload 7, 2) := by decide +kernel
theorem e_Mod_runsPid_247 : decode M_Mod_runsPid.2.1 247 = .ok (.iload 6, 2) := by decide +kernel
theorem e_Mod_runsPid_249 : decode M_Mod_runsPid.2.1 249 = .ok (.invokevirtual 227, 3) := by decide +kernel
theorem e_Mod_runsPid_252 : decode M_Mod_runsPid.2.1 252 = .ok (.iadd, 1) := by decide +kernel
theorem e_Mod_runsPid_253 : decode M_Mod_runsPid.2.1 253 = .ok (.invokestatic 231, 3) := by decide +kernel
theorem e_Mod_runsPid_256 : decode M_Mod_runsPid.2.1 256 = .ok (.iastore, 1) := by decide +kernel
theorem e_Mod_runsPid_257 : decode M_Mod_runsPid.2.1 257 = .ok (.iload 4, 2) := by decide +kernel
theorem e_Mod_runsPid_259 : decode M_Mod_runsPid.2.1 259 = .ok (.ifCond .eq 13, 3) := by decide +kernel
theorem e_Mod_runsPid_262 : decode M_Mod_runsPid.2.1 262 = .ok (.aload_n 0, 1) := by decide +kernel
theorem e_Mod_runsPid_263 : decode M_Mod_runsPid.2.1 263 = .ok (.getfield 9, 3) := by decide +kernel
theorem e_Mod_runsPid_266 : decode M_Mod_runsPid.2.1 266 = .ok (.iload_n 3, 1) := by decide +kernel
theorem e_Mod_runsPid_267 : decode M_Mod_runsPid.2.1 267 = .ok (.iconst 4, 1) := by decide +kernel
theorem e_Mod_runsPid_268 : decode M_Mod_runsPid.2.1 268 = .ok (.iadd, 1) := by decide +kernel
theorem e_Mod_runsPid_269 : decode M_Mod_runsPid.2.1 269 = .ok (.iload 7, 2) := by decide +kernel
theorem e_Mod_runsPid_271 : decode M_Mod_runsPid.2.1 271 = .ok (.iastore, 1) := by decide +kernel
theorem e_Mod_runsPid_272 : decode M_Mod_runsPid.2.1 272 = .ok (.aload_n 0, 1) := by decide +kernel
theorem e_Mod_runsPid_273 : decode M_Mod_runsPid.2.1 273 = .ok (.getfield 9, 3) := by decide +kernel
theorem e_Mod_runsPid_276 : decode M_Mod_runsPid.2.1 276 = .ok (.iload_n 3, 1) := by decide +kernel
theorem e_Mod_runsPid_277 : decode M_Mod_runsPid.2.1 277 = .ok (.iconst 5, 1) := by decide +kernel
theorem e_Mod_runsPid_278 : decode M_Mod_runsPid.2.1 278 = .ok (.iadd, 1) := by decide +kernel
theorem e_Mod_runsPid_279 : decode M_Mod_runsPid.2.1 279 = .ok (.iload 4, 2) := by decide +kernel
theorem e_Mod_runsPid_281 : decode M_Mod_runsPid.2.1 281 = .ok (.ifCond .ne 7, 3) := by decide +kernel
theorem e_Mod_runsPid_284 : decode M_Mod_runsPid.2.1 284 = .ok (.iconst 0, 1) := by decide +kernel
theorem e_Mod_runsPid_285 : decode M_Mod_runsPid.2.1 285 = .ok (.goto 4, 3) := by decide +kernel
theorem e_Mod_runsPid_288 : decode M_Mod_runsPid.2.1 288 = .ok (.iconst 1, 1) := by decide +kernel
theorem e_Mod_runsPid_289 : decode M_Mod_runsPid.2.1 289 = .ok (.iastore, 1) := by decide +kernel
theorem e_Mod_runsPid_290 : decode M_Mod_runsPid.2.1 290 = .ok (.aload_n 0, 1) := by decide +kernel
theorem e_Mod_runsPid_291 : decode M_Mod_runsPid.2.1 291 = .ok (.getfield 9, 3) := by decide +kernel
theorem e_Mod_runsPid_294 : decode M_Mod_runsPid.2.1 294 = .ok (.iload_n 3, 1) := by decide +kernel
theorem e_Mod_runsPid_295 : decode M_Mod_runsPid.2.1 295 = .ok (.iconst 3, 1) := by decide +kernel
theorem e_Mod_runsPid_296 : decode M_Mod_runsPid.2.1 296 = .ok (.iadd, 1) := by decide +kernel
theorem e_Mod_runsPid_297 : decode M_Mod_runsPid.2.1 297 = .ok (.iaload, 1) := by decide +kernel
theorem e_Mod_runsPid_298 : decode M_Mod_runsPid.2.1 298 = .ok (.sipush 1000, 3) := by decide +kernel
theorem e_Mod_runsPid_301 : decode M_Mod_runsPid.2.1 301 = .ok (.if_icmp .ne 7, 3) := by decide +kernel
theorem e_Mod_runsPid_304 : decode M_Mod_runsPid.2.1 304 = .ok (.iconst 2, 1) := by decide +kernel
theorem e_Mod_runsPid_305 : decode M_Mod_runsPid.2.1 305 = .ok (.goto 19, 3) := by decide +kernel
theorem e_Mod_runsPid_308 : decode M_Mod_runsPid.2.1 308 = .ok (.aload_n 0, 1) := by decide +kernel
theorem e_Mod_runsPid_309 : decode M_Mod_runsPid.2.1 309 = .ok (.getfield 9, 3) := by decide +kernel
theorem e_Mod_runsPid_312 : decode M_Mod_runsPid.2.1 312 = .ok (.iload_n 3, 1) := by decide +kernel
theorem e_Mod_runsPid_313 : decode M_Mod_runsPid.2.1 313 = .ok (.iconst 3, 1) := by decide +kernel
theorem e_Mod_runsPid_314 : decode M_Mod_runsPid.2.1 314 = .ok (.iadd, 1) := by decide +kernel
theorem e_Mod_runsPid_315 : decode M_Mod_runsPid.2.1 315 = .ok (.iaload, 1) := by decide +kernel
theorem e_Mod_runsPid_316 : decode M_Mod_runsPid.2.1 316 = .ok (.ifCond .ne 7, 3) := by decide +kernel
theorem e_Mod_runsPid_319 : decode M_Mod_runsPid.2.1 319 = .ok (.iconst 1, 1) := by decide +kernel
theorem e_Mod_runsPid_320 : decode M_Mod_runsPid.2.1 320 = .ok (.goto 4, 3) := by decide +kernel
theorem e_Mod_runsPid_323 : decode M_Mod_runsPid.2.1 323 = .ok (.iconst 0, 1) := by decide +kernel
theorem e_Mod_runsPid_324 : decode M_Mod_runsPid.2.1 324 = .ok (.istore 10, 2) := by decide +kernel
theorem e_Mod_runsPid_326 : decode M_Mod_runsPid.2.1 326 = .ok (.aload_n 0, 1) := by decide +kernel
theorem e_Mod_runsPid_327 : decode M_Mod_runsPid.2.1 327 = .ok (.getfield 9, 3) := by decide +kernel
theorem e_Mod_runsPid_330 : decode M_Mod_runsPid.2.1 330 = .ok (.iload_n 3, 1) := by decide +kernel
theorem e_Mod_runsPid_331 : decode M_Mod_runsPid.2.1 331 = .ok (.bipush 6, 2) := by decide +kernel
theorem e_Mod_runsPid_333 : decode M_Mod_runsPid.2.1 333 = .ok (.iadd, 1) := by decide +kernel
theorem e_Mod_runsPid_334 : decode M_Mod_runsPid.2.1 334 = .ok (.iload 8, 2) := by decide +kernel
theorem e_Mod_runsPid_336 : decode M_Mod_runsPid.2.1 336 = .ok (.ifCond .eq 37, 3) := by decide +kernel
theorem e_Mod_runsPid_339 : decode M_Mod_runsPid.2.1 339 = .ok (.aload_n 0, 1) := by decide +kernel
theorem e_Mod_runsPid_340 : decode M_Mod_runsPid.2.1 340 = .ok (.getfield 9, 3) := by decide +kernel
theorem e_Mod_runsPid_343 : decode M_Mod_runsPid.2.1 343 = .ok (.iload_n 1, 1) := by decide +kernel
theorem e_Mod_runsPid_344 : decode M_Mod_runsPid.2.1 344 = .ok (.iload 6, 2) := by decide +kernel
theorem e_Mod_runsPid_346 : decode M_Mod_runsPid.2.1 346 = .ok (.invokestatic 199, 3) := by decide +kernel
theorem e_Mod_runsPid_349 : decode M_Mod_runsPid.2.1 349 = .ok (.bipush 7, 2) := by decide +kernel
theorem e_Mod_runsPid_351 : decode M_Mod_runsPid.2.1 351 = .ok (.iadd, 1) := by decide +kernel
theorem e_Mod_runsPid_352 : decode M_Mod_runsPid.2.1 352 = .ok (.iaload, 1) := by decide +kernel
theorem e_Mod_runsPid_353 : decode M_Mod_runsPid.2.1 353 = .ok (.ifCond .eq 20, 3) := by decide +kernel
theorem e_Mod_runsPid_356 : decode M_Mod_runsPid.2.1 356 = .ok (.aload_n 0, 1) := by decide +kernel
theorem e_Mod_runsPid_357 : decode M_Mod_runsPid.2.1 357 = .ok (.getfield 9, 3) := by decide +kernel
theorem e_Mod_runsPid_360 : decode M_Mod_runsPid.2.1 360 = .ok (.iload_n 1, 1) := by decide +kernel
theorem e_Mod_runsPid_361 : decode M_Mod_runsPid.2.1 361 = .ok (.iload 6, 2) := by decide +kernel
theorem e_Mod_runsPid_363 : decode M_Mod_runsPid.2.1 363 = .ok (.invokestatic 199, 3) := by decide +kernel
theorem e_Mod_runsPid_366 : decode M_Mod_runsPid.2.1 366 = .ok (.bipush 7, 2) := by decide +kernel
theorem e_Mod_runsPid_368 : decode M_Mod_runsPid.2.1 368 = .ok (.iadd, 1) := by decide +kernel
theorem e_Mod_runsPid_369 : decode M_Mod_runsPid.2.1 369 = .ok (.iaload, 1) := by decide +kernel
theorem e_Mod_runsPid_370 : decode M_Mod_runsPid.2.1 370 = .ok (.goto 5, 3) := by decide +kernel
theorem e_Mod_runsPid_373 : decode M_Mod_runsPid.2.1 373 = .ok (.iload 10, 2) := by decide +kernel
theorem e_Mod_runsPid_375 : decode M_Mod_runsPid.2.1 375 = .ok (.iastore, 1) := by decide +kernel
theorem e_Mod_runsPid_376 : decode M_Mod_runsPid.2.1 376 = .ok (.return_, 1) := by decide +kernel
theorem e_Mod_setFrom_0 : decode M_Mod_setFrom.2.1 0 = .ok (.iconst 0, 1) := by decide +kernel
theorem e_Mod_setFrom_1 : decode M_Mod_setFrom.2.1 1 = .ok (.istore_n 2, 1) := by decide +kernel
theorem e_Mod_setFrom_2 : decode M_Mod_setFrom.2.1 2 = .ok (.iload_n 2, 1) := by decide +kernel
theorem e_Mod_setFrom_3 : decode M_Mod_setFrom.2.1 3 = .ok (.aload_n 0, 1) := by decide +kernel
theorem e_Mod_setFrom_4 : decode M_Mod_setFrom.2.1 4 = .ok (.getfield 162, 3) := by decide +kernel
theorem e_Mod_setFrom_7 : decode M_Mod_setFrom.2.1 7 = .ok (.if_icmp .ge 31, 3) := by decide +kernel
theorem e_Mod_setFrom_10 : decode M_Mod_setFrom.2.1 10 = .ok (.aload_n 0, 1) := by decide +kernel
theorem e_Mod_setFrom_11 : decode M_Mod_setFrom.2.1 11 = .ok (.getfield 34, 3) := by decide +kernel
theorem e_Mod_setFrom_14 : decode M_Mod_setFrom.2.1 14 = .ok (.iload_n 2, 1) := by decide +kernel
theorem e_Mod_setFrom_15 : decode M_Mod_setFrom.2.1 15 = .ok (.iaload, 1) := by decide +kernel
theorem e_Mod_setFrom_16 : decode M_Mod_setFrom.2.1 16 = .ok (.iload_n 1, 1) := by decide +kernel
theorem e_Mod_setFrom_17 : decode M_Mod_setFrom.2.1 17 = .ok (.if_icmp .ne 15, 3) := by decide +kernel
theorem e_Mod_setFrom_20 : decode M_Mod_setFrom.2.1 20 = .ok (.aload_n 0, 1) := by decide +kernel
theorem e_Mod_setFrom_21 : decode M_Mod_setFrom.2.1 21 = .ok (.getfield 40, 3) := by decide +kernel
theorem e_Mod_setFrom_24 : decode M_Mod_setFrom.2.1 24 = .ok (.iload_n 2, 1) := by decide +kernel
theorem e_Mod_setFrom_25 : decode M_Mod_setFrom.2.1 25 = .ok (.iaload, 1) := by decide +kernel
theorem e_Mod_setFrom_26 : decode M_Mod_setFrom.2.1 26 = .ok (.iconst 2, 1) := by decide +kernel
theorem e_Mod_setFrom_27 : decode M_Mod_setFrom.2.1 27 = .ok (.if_icmp .ne 5, 3) := by decide +kernel
theorem e_Mod_setFrom_30 : decode M_Mod_setFrom.2.1 30 = .ok (.iload_n 2, 1) := by decide +kernel
theorem e_Mod_setFrom_31 : decode M_Mod_setFrom.2.1 31 = .ok (.ireturn, 1) := by decide +kernel
theorem e_Mod_setFrom_32 : decode M_Mod_setFrom.2.1 32 = .ok (.iinc 2 1, 3) := by decide +kernel
theorem e_Mod_setFrom_35 : decode M_Mod_setFrom.2.1 35 = .ok (.goto (-33), 3) := by decide +kernel
theorem e_Mod_setFrom_38 : decode M_Mod_setFrom.2.1 38 = .ok (.iconst (-1), 1) := by decide +kernel
theorem e_Mod_setFrom_39 : decode M_Mod_setFrom.2.1 39 = .ok (.ireturn, 1) := by decide +kernel
theorem e_Mod_moved_0 : decode M_Mod_moved.2.1 0 = .ok (.aload_n 0, 1) := by decide +kernel
theorem e_Mod_moved_1 : decode M_Mod_moved.2.1 1 = .ok (.iload_n 2, 1) := by decide +kernel
theorem e_Mod_moved_2 : decode M_Mod_moved.2.1 2 = .ok (.invokevirtual 234, 3) := by decide +kernel
theorem e_Mod_moved_5 : decode M_Mod_moved.2.1 5 = .ok (.iload_n 3, 1) := by decide +kernel
theorem e_Mod_moved_6 : decode M_Mod_moved.2.1 6 = .ok (.aload_n 0, 1) := by decide +kernel
theorem e_Mod_moved_7 : decode M_Mod_moved.2.1 7 = .ok (.getfield 9, 3) := by decide +kernel
theorem e_Mod_moved_10 : decode M_Mod_moved.2.1 10 = .ok (.iload_n 1, 1) := by decide +kernel
theorem e_Mod_moved_11 : decode M_Mod_moved.2.1 11 = .ok (.iload_n 2, 1) := by decide +kernel
theorem e_Mod_moved_12 : decode M_Mod_moved.2.1 12 = .ok (.invokestatic 193, 3) := by decide +kernel
theorem e_Mod_moved_15 : decode M_Mod_moved.2.1 15 = .ok (.iconst 4, 1) := by decide +kernel
theorem e_Mod_moved_16 : decode M_Mod_moved.2.1 16 = .ok (.iadd, 1) := by decide +kernel
theorem e_Mod_moved_17 : decode M_Mod_moved.2.1 17 = .ok (.iaload, 1) := by decide +kernel
theorem e_Mod_moved_18 : decode M_Mod_moved.2.1 18 = .ok (.isub, 1) := by decide +kernel
theorem e_Mod_moved_19 : decode M_Mod_moved.2.1 19 = .ok (.imul, 1) := by decide +kernel
theorem e_Mod_moved_20 : decode M_Mod_moved.2.1 20 = .ok (.bipush 100, 2) := by decide +kernel
theorem e_Mod_moved_22 : decode M_Mod_moved.2.1 22 = .ok (.idiv, 1) := by decide +kernel
theorem e_Mod_moved_23 : decode M_Mod_moved.2.1 23 = .ok (.aload_n 0, 1) := by decide +kernel
theorem e_Mod_moved_24 : decode M_Mod_moved.2.1 24 = .ok (.getfield 25, 3) := by decide +kernel
theorem e_Mod_moved_27 : decode M_Mod_moved.2.1 27 = .ok (.iload_n 2, 1) := by decide +kernel
theorem e_Mod_moved_28 : decode M_Mod_moved.2.1 28 = .ok (.iaload, 1) := by decide +kernel
theorem e_Mod_moved_29 : decode M_Mod_moved.2.1 29 = .ok (.iload_n 3, 1) := by decide +kernel
theorem e_Mod_moved_30 : decode M_Mod_moved.2.1 30 = .ok (.imul, 1) := by decide +kernel
theorem e_Mod_moved_31 : decode M_Mod_moved.2.1 31 = .ok (.bipush 100, 2) := by decide +kernel
theorem e_Mod_moved_33 : decode M_Mod_moved.2.1 33 = .ok (.idiv, 1) := by decide +kernel
theorem e_Mod_moved_34 : decode M_Mod_moved.2.1 34 = .ok (.iadd, 1) := by decide +kernel
theorem e_Mod_moved_35 : decode M_Mod_moved.2.1 35 = .ok (.istore 5, 2) := by decide +kernel
theorem e_Mod_moved_37 : decode M_Mod_moved.2.1 37 = .ok (.iload 4, 2) := by decide +kernel
theorem e_Mod_moved_39 : decode M_Mod_moved.2.1 39 = .ok (.iconst (-1), 1) := by decide +kernel
theorem e_Mod_moved_40 : decode M_Mod_moved.2.1 40 = .ok (.if_icmp .ne 7, 3) := by decide +kernel
theorem e_Mod_moved_43 : decode M_Mod_moved.2.1 43 = .ok (.iconst 0, 1) := by decide +kernel
theorem e_Mod_moved_44 : decode M_Mod_moved.2.1 44 = .ok (.goto 17, 3) := by decide +kernel
theorem e_Mod_moved_47 : decode M_Mod_moved.2.1 47 = .ok (.aload_n 0, 1) := by decide +kernel
theorem e_Mod_moved_48 : decode M_Mod_moved.2.1 48 = .ok (.getfield 9, 3) := by decide +kernel
theorem e_Mod_moved_51 : decode M_Mod_moved.2.1 51 = .ok (.iload_n 1, 1) := by decide +kernel
theorem e_Mod_moved_52 : decode M_Mod_moved.2.1 52 = .ok (.iload 4, 2) := by decide +kernel
theorem e_Mod_moved_54 : decode M_Mod_moved.2.1 54 = .ok (.invokestatic 199, 3) := by decide +kernel
theorem e_Mod_moved_57 : decode M_Mod_moved.2.1 57 = .ok (.bipush 7, 2) := by decide +kernel
theorem e_Mod_moved_59 : decode M_Mod_moved.2.1 59 = .ok (.iadd, 1) := by decide +kernel
theorem e_Mod_moved_60 : decode M_Mod_moved.2.1 60 = .ok (.iaload, 1) := by decide +kernel
theorem e_Mod_moved_61 : decode M_Mod_moved.2.1 61 = .ok (.istore 6, 2) := by decide +kernel
theorem e_Mod_moved_63 : decode M_Mod_moved.2.1 63 = .ok (.iload 5, 2) := by decide +kernel
theorem e_Mod_moved_65 : decode M_Mod_moved.2.1 65 = .ok (.ifCond .le 9, 3) := by decide +kernel
theorem e_Mod_moved_68 : decode M_Mod_moved.2.1 68 = .ok (.iload 6, 2) := by decide +kernel
theorem e_Mod_moved_70 : decode M_Mod_moved.2.1 70 = .ok (.iconst 2, 1) := by decide +kernel
theorem e_Mod_moved_71 : decode M_Mod_moved.2.1 71 = .ok (.if_icmp .eq 14, 3) := by decide +kernel
theorem e_Mod_moved_74 : decode M_Mod_moved.2.1 74 = .ok (.iload 5, 2) := by decide +kernel
theorem e_Mod_moved_76 : decode M_Mod_moved.2.1 76 = .ok (.ifCond .ge 13, 3) := by decide +kernel
theorem e_Mod_moved_79 : decode M_Mod_moved.2.1 79 = .ok (.iload 6, 2) := by decide +kernel
theorem e_Mod_moved_81 : decode M_Mod_moved.2.1 81 = .ok (.iconst 1, 1) := by decide +kernel
theorem e_Mod_moved_82 : decode M_Mod_moved.2.1 82 = .ok (.if_icmp .ne 7, 3) := by decide +kernel
theorem e_Mod_moved_85 : decode M_Mod_moved.2.1 85 = .ok (.iconst 0, 1) := by decide +kernel
theorem e_Mod_moved_86 : decode M_Mod_moved.2.1 86 = .ok (.goto 5, 3) := by decide +kernel
theorem e_Mod_moved_89 : decode M_Mod_moved.2.1 89 = .ok (.iload 5, 2) := by decide +kernel
theorem e_Mod_moved_91 : decode M_Mod_moved.2.1 91 = .ok (.ireturn, 1) := by decide +kernel
theorem e_Mod_gainOf_0 : decode M_Mod_gainOf.2.1 0 = .ok (.iload_n 1, 1) := by decide +kernel
theorem e_Mod_gainOf_1 : decode M_Mod_gainOf.2.1 1 = .ok (.aload_n 0, 1) := by decide +kernel
theorem e_Mod_gainOf_2 : decode M_Mod_gainOf.2.1 2 = .ok (.getfield 105, 3) := by decide +kernel
theorem e_Mod_gainOf_5 : decode M_Mod_gainOf.2.1 5 = .ok (.if_icmp .ne 10, 3) := by decide +kernel
theorem e_Mod_gainOf_8 : decode M_Mod_gainOf.2.1 8 = .ok (.aload_n 0, 1) := by decide +kernel
theorem e_Mod_gainOf_9 : decode M_Mod_gainOf.2.1 9 = .ok (.getfield 202, 3) := by decide +kernel
theorem e_Mod_gainOf_12 : decode M_Mod_gainOf.2.1 12 = .ok (.goto 9, 3) := by decide +kernel
theorem e_Mod_gainOf_15 : decode M_Mod_gainOf.2.1 15 = .ok (.aload_n 0, 1) := by decide +kernel
theorem e_Mod_gainOf_16 : decode M_Mod_gainOf.2.1 16 = .ok (.getfield 22, 3) := by decide +kernel
theorem e_Mod_gainOf_19 : decode M_Mod_gainOf.2.1 19 = .ok (.iload_n 1, 1) := by decide +kernel
theorem e_Mod_gainOf_20 : decode M_Mod_gainOf.2.1 20 = .ok (.iaload, 1) := by decide +kernel
theorem e_Mod_gainOf_21 : decode M_Mod_gainOf.2.1 21 = .ok (.ireturn, 1) := by decide +kernel
theorem e_Mod_comesBack_0 : decode M_Mod_comesBack.2.1 0 = .ok (.iload_n 1, 1) := by decide +kernel
theorem e_Mod_comesBack_1 : decode M_Mod_comesBack.2.1 1 = .ok (.iload_n 2, 1) := by decide +kernel
theorem e_Mod_comesBack_2 : decode M_Mod_comesBack.2.1 2 = .ok (.invokestatic 199, 3) := by decide +kernel
theorem e_Mod_comesBack_5 : decode M_Mod_comesBack.2.1 5 = .ok (.istore_n 3, 1) := by decide +kernel
theorem e_Mod_comesBack_6 : decode M_Mod_comesBack.2.1 6 = .ok (.aload_n 0, 1) := by decide +kernel
theorem e_Mod_comesBack_7 : decode M_Mod_comesBack.2.1 7 = .ok (.iload_n 1, 1) := by decide +kernel
theorem e_Mod_comesBack_8 : decode M_Mod_comesBack.2.1 8 = .ok (.iload_n 2, 1) := by decide +kernel
theorem e_Mod_comesBack_9 : decode M_Mod_comesBack.2.1 9 = .ok (.aload_n 0, 1) := by decide +kernel
theorem e_Mod_comesBack_10 : decode M_Mod_comesBack.2.1 10 = .ok (.getfield 34, 3) := by decide +kernel
theorem e_Mod_comesBack_13 : decode M_Mod_comesBack.2.1 13 = .ok (.iload_n 2, 1) := by decide +kernel
theorem e_Mod_comesBack_14 : decode M_Mod_comesBack.2.1 14 = .ok (.iaload, 1) := by decide +kernel
theorem e_Mod_comesBack_15 : decode M_Mod_comesBack.2.1 15 = .ok (.invokevirtual 209, 3) := by decide +kernel
theorem e_Mod_comesBack_18 : decode M_Mod_comesBack.2.1 18 = .ok (.ifCond .ne 16, 3) := by decide +kernel
theorem e_Mod_comesBack_21 : decode M_Mod_comesBack.2.1 21 = .ok (.aload_n 0, 1) := by decide +kernel
theorem e_Mod_comesBack_22 : decode M_Mod_comesBack.2.1 22 = .ok (.iload_n 3, 1) := by decide +kernel
theorem e_Mod_comesBack_23 : decode M_Mod_comesBack.2.1 23 = .ok (.bipush 9, 2) := by decide +kernel
theorem e_Mod_comesBack_25 : decode M_Mod_comesBack.2.1 25 = .ok (.iadd, 1) := by decide +kernel
theorem e_Mod_comesBack_26 : decode M_Mod_comesBack.2.1 26 = .ok (.iload_n 3, 1) := by decide +kernel
theorem e_Mod_comesBack_27 : decode M_Mod_comesBack.2.1 27 = .ok (.bipush 6, 2) := by decide +kernel
theorem e_Mod_comesBack_29 : decode M_Mod_comesBack.2.1 29 = .ok (.iadd, 1) := by decide +kernel
theorem e_Mod_comesBack_30 : decode M_Mod_comesBack.2.1 30 = .ok (.invokevirtual 213, 3) := by decide +kernel
theorem e_Mod_comesBack_33 : decode M_Mod_comesBack.2.1 33 = .ok (.return_, 1) := by decide +kernel
theorem e_Mod_comesBack_34 : decode M_Mod_comesBack.2.1 34 = .ok (.iload_n 1, 1) := by decide +kernel
theorem e_Mod_comesBack_35 : decode M_Mod_comesBack.2.1 35 = .ok (.aload_n 0, 1) := by decide +kernel
theorem e_Mod_comesBack_36 : decode M_Mod_comesBack.2.1 36 = .ok (.getfield 37, 3) := by decide +kernel
theorem e_Mod_comesBack_39 : decode M_Mod_comesBack.2.1 39 = .ok (.iload_n 2, 1) := by decide +kernel
theorem e_Mod_comesBack_40 : decode M_Mod_comesBack.2.1 40 = .ok (.iaload, 1) := by decide +kernel
theorem e_Mod_comesBack_41 : decode M_Mod_comesBack.2.1 41 = .ok (.invokestatic 193, 3) := by decide +kernel
theorem e_Mod_comesBack_44 : decode M_Mod_comesBack.2.1 44 = .ok (.istore 4, 2) := by decide +kernel
theorem e_Mod_comesBack_46 : decode M_Mod_comesBack.2.1 46 = .ok (.aload_n 0, 1) := by decide +kernel
theorem e_Mod_comesBack_47 : decode M_Mod_comesBack.2.1 47 = .ok (.getfield 9, 3) := by decide +kernel
theorem e_Mod_comesBack_50 : decode M_Mod_comesBack.2.1 50 = .ok (.iload_n 3, 1) := by decide +kernel
theorem e_Mod_comesBack_51 : decode M_Mod_comesBack.2.1 51 = .ok (.iconst 5, 1) := by decide +kernel
theorem e_Mod_comesBack_52 : decode M_Mod_comesBack.2.1 52 = .ok (.iadd, 1) := by decide +kernel
theorem e_Mod_comesBack_53 : decode M_Mod_comesBack.2.1 53 = .ok (.aload_n 0, 1) := by decide +kernel
theorem e_Mod_comesBack_54 : decode M_Mod_comesBack.2.1 54 = .ok (.getfield 19, 3) := by decide +kernel
theorem e_Mod_comesBack_57 : decode M_Mod_comesBack.2.1 57 = .ok (.aload_n 0, 1) := by decide +kernel
theorem e_Mod_comesBack_58 : decode M_Mod_comesBack.2.1 58 = .ok (.getfield 37, 3) := by decide +kernel
theorem e_Mod_comesBack_61 : decode M_Mod_comesBack.2.1 61 = .ok (.iload_n 2, 1) := by decide +kernel
theorem e_Mod_comesBack_62 : decode M_Mod_comesBack.2.1 62 = .ok (.iaload, 1) := by decide +kernel
theorem e_Mod_comesBack_63 : decode M_Mod_comesBack.2.1 63 = .ok (.iaload, 1) := by decide +kernel
theorem e_Mod_comesBack_64 : decode M_Mod_comesBack.2.1 64 = .ok (.iconst 1, 1) := by decide +kernel
theorem e_Mod_comesBack_65 : decode M_Mod_comesBack.2.1 65 = .ok (.if_icmp .ne 15, 3) := by decide +kernel
theorem e_Mod_comesBack_68 : decode M_Mod_comesBack.2.1 68 = .ok (.aload_n 0, 1) := by decide +kernel
theorem e_Mod_comesBack_69 : decode M_Mod_comesBack.2.1 69 = .ok (.getfield 9, 3) := by decide +kernel
theorem e_Mod_comesBack_72 : decode M_Mod_comesBack.2.1 72 = .ok (.iload 4, 2) := by decide +kernel
theorem e_Mod_comesBack_74 : decode M_Mod_comesBack.2.1 74 = .ok (.iconst 2, 1) := by decide +kernel
theorem e_Mod_comesBack_75 : decode M_Mod_comesBack.2.1 75 = .ok (.iadd, 1) := by decide +kernel
theorem e_Mod_comesBack_76 : decode M_Mod_comesBack.2.1 76 = .ok (.iaload, 1) := by decide +kernel
theorem e_Mod_comesBack_77 : decode M_Mod_comesBack.2.1 77 = .ok (.goto 12, 3) := by decide +kernel
theorem e_Mod_comesBack_80 : decode M_Mod_comesBack.2.1 80 = .ok (.aload_n 0, 1) := by decide +kernel
theorem e_Mod_comesBack_81 : decode M_Mod_comesBack.2.1 81 = .ok (.getfield 9, 3) := by decide +kernel
theorem e_Mod_comesBack_84 : decode M_Mod_comesBack.2.1 84 = .ok (.iload 4, 2) := by decide +kernel
theorem e_Mod_comesBack_86 : decode M_Mod_comesBack.2.1 86 = .ok (.iconst 3, 1) := by decide +kernel
theorem e_Mod_comesBack_87 : decode M_Mod_comesBack.2.1 87 = .ok (.iadd, 1) := by decide +kernel
theorem e_Mod_comesBack_88 : decode M_Mod_comesBack.2.1 88 = .ok (.iaload, 1) := by decide +kernel
theorem e_Mod_comesBack_89 : decode M_Mod_comesBack.2.1 89 = .ok (.iastore, 1) := by decide +kernel
theorem e_Mod_comesBack_90 : decode M_Mod_comesBack.2.1 90 = .ok (.aload_n 0, 1) := by decide +kernel
theorem e_Mod_comesBack_91 : decode M_Mod_comesBack.2.1 91 = .ok (.getfield 9, 3) := by decide +kernel
theorem e_Mod_comesBack_94 : decode M_Mod_comesBack.2.1 94 = .ok (.iload_n 3, 1) := by decide +kernel
theorem e_Mod_comesBack_95 : decode M_Mod_comesBack.2.1 95 = .ok (.bipush 6, 2) := by decide +kernel
theorem e_Mod_comesBack_97 : decode M_Mod_comesBack.2.1 97 = .ok (.iadd, 1) := by decide +kernel
theorem e_Mod_comesBack_98 : decode M_Mod_comesBack.2.1 98 = .ok (.aload_n 0, 1) := by decide +kernel
theorem e_Mod_comesBack_99 : decode M_Mod_comesBack.2.1 99 = .ok (.getfield 9, 3) := by decide +kernel
theorem e_Mod_comesBack_102 : decode M_Mod_comesBack.2.1 102 = .ok (.iload 4, 2) := by decide +kernel
theorem e_Mod_comesBack_104 : decode M_Mod_comesBack.2.1 104 = .ok (.iconst 1, 1) := by decide +kernel
theorem e_Mod_comesBack_105 : decode M_Mod_comesBack.2.1 105 = .ok (.iadd, 1) := by decide +kernel
theorem e_Mod_comesBack_106 : decode M_Mod_comesBack.2.1 106 = .ok (.iaload, 1) := by decide +kernel
theorem e_Mod_comesBack_107 : decode M_Mod_comesBack.2.1 107 = .ok (.ifCond .ne 7, 3) := by decide +kernel
theorem e_Mod_comesBack_110 : decode M_Mod_comesBack.2.1 110 = .ok (.iconst 0, 1) := by decide +kernel
theorem e_Mod_comesBack_111 : decode M_Mod_comesBack.2.1 111 = .ok (.goto 4, 3) := by decide +kernel
theorem e_Mod_comesBack_114 : decode M_Mod_comesBack.2.1 114 = .ok (.iconst 1, 1) := by decide +kernel
theorem e_Mod_comesBack_115 : decode M_Mod_comesBack.2.1 115 = .ok (.iastore, 1) := by decide +kernel
theorem e_Mod_comesBack_116 : decode M_Mod_comesBack.2.1 116 = .ok (.aload_n 0, 1) := by decide +kernel
theorem e_Mod_comesBack_117 : decode M_Mod_comesBack.2.1 117 = .ok (.getfield 9, 3) := by decide +kernel
theorem e_Mod_comesBack_120 : decode M_Mod_comesBack.2.1 120 = .ok (.iload_n 3, 1) := by decide +kernel
theorem e_Mod_comesBack_121 : decode M_Mod_comesBack.2.1 121 = .ok (.bipush 7, 2) := by decide +kernel
theorem e_Mod_comesBack_123 : decode M_Mod_comesBack.2.1 123 = .ok (.iadd, 1) := by decide +kernel
theorem e_Mod_comesBack_124 : decode M_Mod_comesBack.2.1 124 = .ok (.aload_n 0, 1) := by decide +kernel
theorem e_Mod_comesBack_125 : decode M_Mod_comesBack.2.1 125 = .ok (.getfield 9, 3) := by decide +kernel
theorem e_Mod_comesBack_128 : decode M_Mod_comesBack.2.1 128 = .ok (.iload 4, 2) := by decide +kernel
theorem e_Mod_comesBack_130 : decode M_Mod_comesBack.2.1 130 = .ok (.bipush 6, 2) := by decide +kernel
theorem e_Mod_comesBack_132 : decode M_Mod_comesBack.2.1 132 = .ok (.iadd, 1) := by decide +kernel
theorem e_Mod_comesBack_133 : decode M_Mod_comesBack.2.1 133 = .ok (.iaload, 1) := by decide +kernel
theorem e_Mod_comesBack_134 : decode M_Mod_comesBack.2.1 134 = .ok (.iastore, 1) := by decide +kernel
theorem e_Mod_comesBack_135 : decode M_Mod_comesBack.2.1 135 = .ok (.aload_n 0, 1) := by decide +kernel
theorem e_Mod_comesBack_136 : decode M_Mod_comesBack.2.1 136 = .ok (.getfield 9, 3) := by decide +kernel
theorem e_Mod_comesBack_139 : decode M_Mod_comesBack.2.1 139 = .ok (.iload_n 3, 1) := by decide +kernel
theorem e_Mod_comesBack_140 : decode M_Mod_comesBack.2.1 140 = .ok (.bipush 8, 2) := by decide +kernel
theorem e_Mod_comesBack_142 : decode M_Mod_comesBack.2.1 142 = .ok (.iadd, 1) := by decide +kernel
theorem e_Mod_comesBack_143 : decode M_Mod_comesBack.2.1 143 = .ok (.aload_n 0, 1) := by decide +kernel
theorem e_Mod_comesBack_144 : decode M_Mod_comesBack.2.1 144 = .ok (.getfield 9, 3) := by decide +kernel
theorem e_Mod_comesBack_147 : decode M_Mod_comesBack.2.1 147 = .ok (.iload 4, 2) := by decide +kernel
theorem e_Mod_comesBack_149 : decode M_Mod_comesBack.2.1 149 = .ok (.iconst 1, 1) := by decide +kernel
theorem e_Mod_comesBack_150 : decode M_Mod_comesBack.2.1 150 = .ok (.iadd, 1) := by decide +kernel
theorem e_Mod_comesBack_151 : decode M_Mod_comesBack.2.1 151 = .ok (.iaload, 1) := by decide +kernel
theorem e_Mod_comesBack_152 : decode M_Mod_comesBack.2.1 152 = .ok (.iconst 3, 1) := by decide +kernel
theorem e_Mod_comesBack_153 : decode M_Mod_comesBack.2.1 153 = .ok (.if_icmp .ne 7, 3) := by decide +kernel
theorem e_Mod_comesBack_156 : decode M_Mod_comesBack.2.1 156 = .ok (.iconst 0, 1) := by decide +kernel
theorem e_Mod_comesBack_157 : decode M_Mod_comesBack.2.1 157 = .ok (.goto 4, 3) := by decide +kernel
theorem e_Mod_comesBack_160 : decode M_Mod_comesBack.2.1 160 = .ok (.iconst 1, 1) := by decide +kernel
theorem e_Mod_comesBack_161 : decode M_Mod_comesBack.2.1 161 = .ok (.iastore, 1) := by decide +kernel
theorem e_Mod_comesBack_162 : decode M_Mod_comesBack.2.1 162 = .ok (.aload_n 0, 1) := by decide +kernel
theorem e_Mod_comesBack_163 : decode M_Mod_comesBack.2.1 163 = .ok (.getfield 9, 3) := by decide +kernel
theorem e_Mod_comesBack_166 : decode M_Mod_comesBack.2.1 166 = .ok (.iload_n 3, 1) := by decide +kernel
theorem e_Mod_comesBack_167 : decode M_Mod_comesBack.2.1 167 = .ok (.bipush 9, 2) := by decide +kernel
theorem e_Mod_comesBack_169 : decode M_Mod_comesBack.2.1 169 = .ok (.iadd, 1) := by decide +kernel
theorem e_Mod_comesBack_170 : decode M_Mod_comesBack.2.1 170 = .ok (.iconst 0, 1) := by decide +kernel
theorem e_Mod_comesBack_171 : decode M_Mod_comesBack.2.1 171 = .ok (.iastore, 1) := by decide +kernel
theorem e_Mod_comesBack_172 : decode M_Mod_comesBack.2.1 172 = .ok (.return_, 1) := by decide +kernel
theorem e_Mod_undo_0 : decode M_Mod_undo.2.1 0 = .ok (.aload_n 0, 1) := by decide +kernel
theorem e_Mod_undo_1 : decode M_Mod_undo.2.1 1 = .ok (.iconst 0, 1) := by decide +kernel
theorem e_Mod_undo_2 : decode M_Mod_undo.2.1 2 = .ok (.putfield 159, 3) := by decide +kernel
theorem e_Mod_undo_5 : decode M_Mod_undo.2.1 5 = .ok (.aload_n 0, 1) := by decide +kernel
theorem e_Mod_undo_6 : decode M_Mod_undo.2.1 6 = .ok (.getfield 394, 3) := by decide +kernel
theorem e_Mod_undo_9 : decode M_Mod_undo.2.1 9 = .ok (.ifCond .ne 5, 3) := by decide +kernel
theorem e_Mod_undo_12 : decode M_Mod_undo.2.1 12 = .ok (.iconst (-1), 1) := by decide +kernel
theorem e_Mod_undo_13 : decode M_Mod_undo.2.1 13 = .ok (.ireturn, 1) := by decide +kernel
theorem e_Mod_undo_14 : decode M_Mod_undo.2.1 14 = .ok (.aload_n 0, 1) := by decide +kernel
theorem e_Mod_undo_15 : decode M_Mod_undo.2.1 15 = .ok (.dup, 1) := by decide +kernel
theorem e_Mod_undo_16 : decode M_Mod_undo.2.1 16 = .ok (.getfield 394, 3) := by decide +kernel
theorem e_Mod_undo_19 : decode M_Mod_undo.2.1 19 = .ok (.iconst 1, 1) := by decide +kernel
theorem e_Mod_undo_20 : decode M_Mod_undo.2.1 20 = .ok (.isub, 1) := by decide +kernel
theorem e_Mod_undo_21 : decode M_Mod_undo.2.1 21 = .ok (.putfield 394, 3) := by decide +kernel
theorem e_Mod_undo_24 : decode M_Mod_undo.2.1 24 = .ok (.aload_n 0, 1) := by decide +kernel
theorem e_Mod_undo_25 : decode M_Mod_undo.2.1 25 = .ok (.aload_n 0, 1) := by decide +kernel
theorem e_Mod_undo_26 : decode M_Mod_undo.2.1 26 = .ok (.getfield 391, 3) := by decide +kernel
theorem e_Mod_undo_29 : decode M_Mod_undo.2.1 29 = .ok (.aload_n 0, 1) := by decide +kernel
theorem e_Mod_undo_30 : decode M_Mod_undo.2.1 30 = .ok (.getfield 394, 3) := by decide +kernel
theorem e_Mod_undo_33 : decode M_Mod_undo.2.1 33 = .ok (.invokestatic 403, 3) := by decide +kernel
theorem e_Mod_undo_36 : decode M_Mod_undo.2.1 36 = .ok (.iconst 0, 1) := by decide +kernel
theorem e_Mod_undo_37 : decode M_Mod_undo.2.1 37 = .ok (.sipush 210, 3) := by decide +kernel
theorem e_Mod_undo_40 : decode M_Mod_undo.2.1 40 = .ok (.invokevirtual 406, 3) := by decide +kernel
theorem e_Mod_undo_43 : decode M_Mod_undo.2.1 43 = .ok (.aload_n 0, 1) := by decide +kernel
theorem e_Mod_undo_44 : decode M_Mod_undo.2.1 44 = .ok (.getfield 394, 3) := by decide +kernel
theorem e_Mod_undo_47 : decode M_Mod_undo.2.1 47 = .ok (.ireturn, 1) := by decide +kernel
theorem e_Mod_then_0 : decode M_Mod_then.2.1 0 = .ok (.aload_n 0, 1) := by decide +kernel
theorem e_Mod_then_1 : decode M_Mod_then.2.1 1 = .ok (.iconst 0, 1) := by decide +kernel
theorem e_Mod_then_2 : decode M_Mod_then.2.1 2 = .ok (.putfield 159, 3) := by decide +kernel
theorem e_Mod_then_5 : decode M_Mod_then.2.1 5 = .ok (.aload_n 0, 1) := by decide +kernel
theorem e_Mod_then_6 : decode M_Mod_then.2.1 6 = .ok (.iload_n 1, 1) := by decide +kernel
theorem e_Mod_then_7 : decode M_Mod_then.2.1 7 = .ok (.invokevirtual 397, 3) := by decide +kernel
theorem e_Mod_then_10 : decode M_Mod_then.2.1 10 = .ok (.ifCond .eq 32, 3) := by decide +kernel
theorem e_Mod_then_13 : decode M_Mod_then.2.1 13 = .ok (.aload_n 0, 1) := by decide +kernel
theorem e_Mod_then_14 : decode M_Mod_then.2.1 14 = .ok (.iload_n 3, 1) := by decide +kernel
theorem e_Mod_then_15 : decode M_Mod_then.2.1 15 = .ok (.iconst 0, 1) := by decide +kernel
theorem e_Mod_then_16 : decode M_Mod_then.2.1 16 = .ok (.iconst 5, 1) := by decide +kernel
theorem e_Mod_then_17 : decode M_Mod_then.2.1 17 = .ok (.invokestatic 312, 3) := by decide +kernel
theorem e_Mod_then_20 : decode M_Mod_then.2.1 20 = .ok (.iconst 1, 1) := by decide +kernel
theorem e_Mod_then_21 : decode M_Mod_then.2.1 21 = .ok (.invokevirtual 372, 3) := by decide +kernel
theorem e_Mod_then_24 : decode M_Mod_then.2.1 24 = .ok (.ifCond .eq 18, 3) := by decide +kernel
theorem e_Mod_then_27 : decode M_Mod_then.2.1 27 = .ok (.aload_n 0, 1) := by decide +kernel
theorem e_Mod_then_28 : decode M_Mod_then.2.1 28 = .ok (.iload_n 2, 1) := by decide +kernel
theorem e_Mod_then_29 : decode M_Mod_then.2.1 29 = .ok (.iconst 0, 1) := by decide +kernel
theorem e_Mod_then_30 : decode M_Mod_then.2.1 30 = .ok (.bipush 60, 2) := by decide +kernel
theorem e_Mod_then_32 : decode M_Mod_then.2.1 32 = .ok (.invokestatic 312, 3) := by decide +kernel
theorem e_Mod_then_35 : decode M_Mod_then.2.1 35 = .ok (.iconst 2, 1) := by decide +kernel
theorem e_Mod_then_36 : decode M_Mod_then.2.1 36 = .ok (.invokevirtual 372, 3) := by decide +kernel
theorem e_Mod_then_39 : decode M_Mod_then.2.1 39 = .ok (.ifCond .ne 5, 3) := by decide +kernel
theorem e_Mod_then_42 : decode M_Mod_then.2.1 42 = .ok (.iconst 0, 1) := by decide +kernel
theorem e_Mod_then_43 : decode M_Mod_then.2.1 43 = .ok (.ireturn, 1) := by decide +kernel
theorem e_Mod_then_44 : decode M_Mod_then.2.1 44 = .ok (.aload_n 0, 1) := by decide +kernel
theorem e_Mod_then_45 : decode M_Mod_then.2.1 45 = .ok (.invokevirtual 429, 3) := by decide +kernel
theorem e_Mod_then_48 : decode M_Mod_then.2.1 48 = .ok (.aload_n 0, 1) := by decide +kernel
theorem e_Mod_then_49 : decode M_Mod_then.2.1 49 = .ok (.sipush 210, 3) := by decide +kernel
theorem e_Mod_then_52 : decode M_Mod_then.2.1 52 = .ok (.iload_n 2, 1) := by decide +kernel
theorem e_Mod_then_53 : decode M_Mod_then.2.1 53 = .ok (.invokevirtual 426, 3) := by decide +kernel
theorem e_Mod_then_56 : decode M_Mod_then.2.1 56 = .ok (.sipush 210, 3) := by decide +kernel
theorem e_Mod_then_59 : decode M_Mod_then.2.1 59 = .ok (.iload_n 1, 1) := by decide +kernel
theorem e_Mod_then_60 : decode M_Mod_then.2.1 60 = .ok (.invokestatic 193, 3) := by decide +kernel
theorem e_Mod_then_63 : decode M_Mod_then.2.1 63 = .ok (.istore 4, 2) := by decide +kernel
theorem e_Mod_then_65 : decode M_Mod_then.2.1 65 = .ok (.aload_n 0, 1) := by decide +kernel
theorem e_Mod_then_66 : decode M_Mod_then.2.1 66 = .ok (.getfield 9, 3) := by decide +kernel
theorem e_Mod_then_69 : decode M_Mod_then.2.1 69 = .ok (.iload 4, 2) := by decide +kernel
theorem e_Mod_then_71 : decode M_Mod_then.2.1 71 = .ok (.iload_n 3, 1) := by decide +kernel
theorem e_Mod_then_72 : decode M_Mod_then.2.1 72 = .ok (.ifCond .ne 7, 3) := by decide +kernel
theorem e_Mod_then_75 : decode M_Mod_then.2.1 75 = .ok (.iconst 3, 1) := by decide +kernel
theorem e_Mod_then_76 : decode M_Mod_then.2.1 76 = .ok (.goto 41, 3) := by decide +kernel
theorem e_Mod_then_79 : decode M_Mod_then.2.1 79 = .ok (.iload_n 3, 1) := by decide +kernel
theorem e_Mod_then_80 : decode M_Mod_then.2.1 80 = .ok (.iconst 1, 1) := by decide +kernel
theorem e_Mod_then_81 : decode M_Mod_then.2.1 81 = .ok (.if_icmp .ne 7, 3) := by decide +kernel
theorem e_Mod_then_84 : decode M_Mod_then.2.1 84 = .ok (.iconst 1, 1) := by decide +kernel
theorem e_Mod_then_85 : decode M_Mod_then.2.1 85 = .ok (.goto 32, 3) := by decide +kernel
theorem e_Mod_then_88 : decode M_Mod_then.2.1 88 = .ok (.iload_n 3, 1) := by decide +kernel
theorem e_Mod_then_89 : decode M_Mod_then.2.1 89 = .ok (.iconst 2, 1) := by decide +kernel
theorem e_Mod_then_90 : decode M_Mod_then.2.1 90 = .ok (.if_icmp .ne 7, 3) := by decide +kernel
theorem e_Mod_then_93 : decode M_Mod_then.2.1 93 = .ok (.iconst 2, 1) := by decide +kernel
theorem e_Mod_then_94 : decode M_Mod_then.2.1 94 = .ok (.goto 23, 3) := by decide +kernel
theorem e_Mod_then_97 : decode M_Mod_then.2.1 97 = .ok (.iload_n 3, 1) := by decide +kernel
theorem e_Mod_then_98 : decode M_Mod_then.2.1 98 = .ok (.iconst 3, 1) := by decide +kernel
theorem e_Mod_then_99 : decode M_Mod_then.2.1 99 = .ok (.if_icmp .ne 7, 3) := by decide +kernel
theorem e_Mod_then_102 : decode M_Mod_then.2.1 102 = .ok (.iconst 5, 1) := by decide +kernel
theorem e_Mod_then_103 : decode M_Mod_then.2.1 103 = .ok (.goto 14, 3) := by decide +kernel
theorem e_Mod_then_106 : decode M_Mod_then.2.1 106 = .ok (.iload_n 3, 1) := by decide +kernel
theorem e_Mod_then_107 : decode M_Mod_then.2.1 107 = .ok (.iconst 4, 1) := by decide +kernel
theorem e_Mod_then_108 : decode M_Mod_then.2.1 108 = .ok (.if_icmp .ne 8, 3) := by decide +kernel
theorem e_Mod_then_111 : decode M_Mod_then.2.1 111 = .ok (.bipush 6, 2) := by decide +kernel
theorem e_Mod_then_113 : decode M_Mod_then.2.1 113 = .ok (.goto 4, 3) := by decide +kernel
theorem e_Mod_then_116 : decode M_Mod_then.2.1 116 = .ok (.iconst 0, 1) := by decide +kernel
theorem e_Mod_then_117 : decode M_Mod_then.2.1 117 = .ok (.iadd, 1) := by decide +kernel
theorem e_Mod_then_118 : decode M_Mod_then.2.1 118 = .ok (.iaload, 1) := by decide +kernel
theorem e_Mod_then_119 : decode M_Mod_then.2.1 119 = .ok (.ireturn, 1) := by decide +kernel
theorem e_Mod_tries_0 : decode M_Mod_tries.2.1 0 = .ok (.aload_n 0, 1) := by decide +kernel
theorem e_Mod_tries_1 : decode M_Mod_tries.2.1 1 = .ok (.iconst 0, 1) := by decide +kernel
theorem e_Mod_tries_2 : decode M_Mod_tries.2.1 2 = .ok (.sipush 210, 3) := by decide +kernel
theorem e_Mod_tries_5 : decode M_Mod_tries.2.1 5 = .ok (.sipush 210, 3) := by decide +kernel
theorem e_Mod_tries_8 : decode M_Mod_tries.2.1 8 = .ok (.invokevirtual 406, 3) := by decide +kernel
theorem e_Mod_tries_11 : decode M_Mod_tries.2.1 11 = .ok (.return_, 1) := by decide +kernel
theorem e_Mod_first_0 : decode M_Mod_first.2.1 0 = .ok (.aload_n 0, 1) := by decide +kernel
theorem e_Mod_first_1 : decode M_Mod_first.2.1 1 = .ok (.iconst 0, 1) := by decide +kernel
theorem e_Mod_first_2 : decode M_Mod_first.2.1 2 = .ok (.putfield 159, 3) := by decide +kernel
theorem e_Mod_first_5 : decode M_Mod_first.2.1 5 = .ok (.aload_n 0, 1) := by decide +kernel
theorem e_Mod_first_6 : decode M_Mod_first.2.1 6 = .ok (.iload_n 1, 1) := by decide +kernel
theorem e_Mod_first_7 : decode M_Mod_first.2.1 7 = .ok (.invokevirtual 397, 3) := by decide +kernel
theorem e_Mod_first_10 : decode M_Mod_first.2.1 10 = .ok (.ifCond .ne 5, 3) := by decide +kernel
theorem e_Mod_first_13 : decode M_Mod_first.2.1 13 = .ok (.iconst 0, 1) := by decide +kernel
theorem e_Mod_first_14 : decode M_Mod_first.2.1 14 = .ok (.ireturn, 1) := by decide +kernel
theorem e_Mod_first_15 : decode M_Mod_first.2.1 15 = .ok (.aload_n 0, 1) := by decide +kernel
theorem e_Mod_first_16 : decode M_Mod_first.2.1 16 = .ok (.invokevirtual 429, 3) := by decide +kernel
theorem e_Mod_first_19 : decode M_Mod_first.2.1 19 = .ok (.iconst 1, 1) := by decide +kernel
theorem e_Mod_first_20 : decode M_Mod_first.2.1 20 = .ok (.istore_n 2, 1) := by decide +kernel
theorem e_Mod_first_21 : decode M_Mod_first.2.1 21 = .ok (.iload_n 2, 1) := by decide +kernel
theorem e_Mod_first_22 : decode M_Mod_first.2.1 22 = .ok (.bipush 60, 2) := by decide +kernel
theorem e_Mod_first_24 : decode M_Mod_first.2.1 24 = .ok (.if_icmp .gt 47, 3) := by decide +kernel
theorem e_Mod_first_27 : decode M_Mod_first.2.1 27 = .ok (.aload_n 0, 1) := by decide +kernel
theorem e_Mod_first_28 : decode M_Mod_first.2.1 28 = .ok (.sipush 210, 3) := by decide +kernel
theorem e_Mod_first_31 : decode M_Mod_first.2.1 31 = .ok (.invokevirtual 270, 3) := by decide +kernel
theorem e_Mod_first_34 : decode M_Mod_first.2.1 34 = .ok (.aload_n 0, 1) := by decide +kernel
theorem e_Mod_first_35 : decode M_Mod_first.2.1 35 = .ok (.getfield 9, 3) := by decide +kernel
theorem e_Mod_first_38 : decode M_Mod_first.2.1 38 = .ok (.sipush 210, 3) := by decide +kernel
theorem e_Mod_first_41 : decode M_Mod_first.2.1 41 = .ok (.iload_n 1, 1) := by decide +kernel
theorem e_Mod_first_42 : decode M_Mod_first.2.1 42 = .ok (.invokestatic 193, 3) := by decide +kernel
theorem e_Mod_first_45 : decode M_Mod_first.2.1 45 = .ok (.iconst 1, 1) := by decide +kernel
theorem e_Mod_first_46 : decode M_Mod_first.2.1 46 = .ok (.iadd, 1) := by decide +kernel
theorem e_Mod_first_47 : decode M_Mod_first.2.1 47 = .ok (.iaload, 1) := by decide +kernel
theorem e_Mod_first_48 : decode M_Mod_first.2.1 48 = .ok (.aload_n 0, 1) := by decide +kernel
theorem e_Mod_first_49 : decode M_Mod_first.2.1 49 = .ok (.getfield 9, 3) := by decide +kernel
theorem e_Mod_first_52 : decode M_Mod_first.2.1 52 = .ok (.iconst 0, 1) := by decide +kernel
theorem e_Mod_first_53 : decode M_Mod_first.2.1 53 = .ok (.iload_n 1, 1) := by decide +kernel
theorem e_Mod_first_54 : decode M_Mod_first.2.1 54 = .ok (.invokestatic 193, 3) := by decide +kernel
theorem e_Mod_first_57 : decode M_Mod_first.2.1 57 = .ok (.iconst 1, 1) := by decide +kernel
theorem e_Mod_first_58 : decode M_Mod_first.2.1 58 = .ok (.iadd, 1) := by decide +kernel
theorem e_Mod_first_59 : decode M_Mod_first.2.1 59 = .ok (.iaload, 1) := by decide +kernel
theorem e_Mod_first_60 : decode M_Mod_first.2.1 60 = .ok (.if_icmp .eq 5, 3) := by decide +kernel
theorem e_Mod_first_63 : decode M_Mod_first.2.1 63 = .ok (.iload_n 2, 1) := by decide +kernel
theorem e_Mod_first_64 : decode M_Mod_first.2.1 64 = .ok (.ireturn, 1) := by decide +kernel
theorem e_Mod_first_65 : decode M_Mod_first.2.1 65 = .ok (.iinc 2 1, 3) := by decide +kernel
theorem e_Mod_first_68 : decode M_Mod_first.2.1 68 = .ok (.goto (-47), 3) := by decide +kernel
theorem e_Mod_first_71 : decode M_Mod_first.2.1 71 = .ok (.iconst (-1), 1) := by decide +kernel
theorem e_Mod_first_72 : decode M_Mod_first.2.1 72 = .ok (.ireturn, 1) := by decide +kernel
theorem e_Mod_jump_0 : decode M_Mod_jump.2.1 0 = .ok (.aload_n 0, 1) := by decide +kernel
theorem e_Mod_jump_1 : decode M_Mod_jump.2.1 1 = .ok (.iconst 0, 1) := by decide +kernel
theorem e_Mod_jump_2 : decode M_Mod_jump.2.1 2 = .ok (.putfield 159, 3) := by decide +kernel
theorem e_Mod_jump_5 : decode M_Mod_jump.2.1 5 = .ok (.aload_n 0, 1) := by decide +kernel
theorem e_Mod_jump_6 : decode M_Mod_jump.2.1 6 = .ok (.iload_n 1, 1) := by decide +kernel
theorem e_Mod_jump_7 : decode M_Mod_jump.2.1 7 = .ok (.invokevirtual 397, 3) := by decide +kernel
theorem e_Mod_jump_10 : decode M_Mod_jump.2.1 10 = .ok (.ifCond .eq 18, 3) := by decide +kernel
theorem e_Mod_jump_13 : decode M_Mod_jump.2.1 13 = .ok (.aload_n 0, 1) := by decide +kernel
theorem e_Mod_jump_14 : decode M_Mod_jump.2.1 14 = .ok (.iload_n 2, 1) := by decide +kernel
theorem e_Mod_jump_15 : decode M_Mod_jump.2.1 15 = .ok (.iconst 1, 1) := by decide +kernel
theorem e_Mod_jump_16 : decode M_Mod_jump.2.1 16 = .ok (.bipush 60, 2) := by decide +kernel
theorem e_Mod_jump_18 : decode M_Mod_jump.2.1 18 = .ok (.invokestatic 312, 3) := by decide +kernel
theorem e_Mod_jump_21 : decode M_Mod_jump.2.1 21 = .ok (.iconst 2, 1) := by decide +kernel
theorem e_Mod_jump_22 : decode M_Mod_jump.2.1 22 = .ok (.invokevirtual 372, 3) := by decide +kernel
theorem e_Mod_jump_25 : decode M_Mod_jump.2.1 25 = .ok (.ifCond .ne 5, 3) := by decide +kernel
theorem e_Mod_jump_28 : decode M_Mod_jump.2.1 28 = .ok (.iconst 0, 1) := by decide +kernel
theorem e_Mod_jump_29 : decode M_Mod_jump.2.1 29 = .ok (.ireturn, 1) := by decide +kernel
theorem e_Mod_jump_30 : decode M_Mod_jump.2.1 30 = .ok (.aload_n 0, 1) := by decide +kernel
theorem e_Mod_jump_31 : decode M_Mod_jump.2.1 31 = .ok (.invokevirtual 429, 3) := by decide +kernel
theorem e_Mod_jump_34 : decode M_Mod_jump.2.1 34 = .ok (.iconst 0, 1) := by decide +kernel
theorem e_Mod_jump_35 : decode M_Mod_jump.2.1 35 = .ok (.istore_n 3, 1) := by decide +kernel
theorem e_Mod_jump_36 : decode M_Mod_jump.2.1 36 = .ok (.iconst 0, 1) := by decide +kernel
theorem e_Mod_jump_37 : decode M_Mod_jump.2.1 37 = .ok (.istore 4, 2) := by decide +kernel
theorem e_Mod_jump_39 : decode M_Mod_jump.2.1 39 = .ok (.iload 4, 2) := by decide +kernel
theorem e_Mod_jump_41 : decode M_Mod_jump.2.1 41 = .ok (.iload_n 2, 1) := by decide +kernel
theorem e_Mod_jump_42 : decode M_Mod_jump.2.1 42 = .ok (.if_icmp .ge 57, 3) := by decide +kernel
theorem e_Mod_jump_45 : decode M_Mod_jump.2.1 45 = .ok (.aload_n 0, 1) := by decide +kernel
theorem e_Mod_jump_46 : decode M_Mod_jump.2.1 46 = .ok (.getfield 9, 3) := by decide +kernel
theorem e_Mod_jump_49 : decode M_Mod_jump.2.1 49 = .ok (.sipush 210, 3) := by decide +kernel
theorem e_Mod_jump_52 : decode M_Mod_jump.2.1 52 = .ok (.iload_n 1, 1) := by decide +kernel
theorem e_Mod_jump_53 : decode M_Mod_jump.2.1 53 = .ok (.invokestatic 193, 3) := by decide +kernel
theorem e_Mod_jump_56 : decode M_Mod_jump.2.1 56 = .ok (.iconst 3, 1) := by decide +kernel
theorem e_Mod_jump_57 : decode M_Mod_jump.2.1 57 = .ok (.iadd, 1) := by decide +kernel
theorem e_Mod_jump_58 : decode M_Mod_jump.2.1 58 = .ok (.iaload, 1) := by decide +kernel
theorem e_Mod_jump_59 : decode M_Mod_jump.2.1 59 = .ok (.istore 5, 2) := by decide +kernel
theorem e_Mod_jump_61 : decode M_Mod_jump.2.1 61 = .ok (.aload_n 0, 1) := by decide +kernel
theorem e_Mod_jump_62 : decode M_Mod_jump.2.1 62 = .ok (.sipush 210, 3) := by decide +kernel
theorem e_Mod_jump_65 : decode M_Mod_jump.2.1 65 = .ok (.invokevirtual 270, 3) := by decide +kernel
theorem e_Mod_jump_68 : decode M_Mod_jump.2.1 68 = .ok (.iload_n 3, 1) := by decide +kernel
theorem e_Mod_jump_69 : decode M_Mod_jump.2.1 69 = .ok (.aload_n 0, 1) := by decide +kernel
theorem e_Mod_jump_70 : decode M_Mod_jump.2.1 70 = .ok (.getfield 9, 3) := by decide +kernel
theorem e_Mod_jump_73 : decode M_Mod_jump.2.1 73 = .ok (.sipush 210, 3) := by decide +kernel
theorem e_Mod_jump_76 : decode M_Mod_jump.2.1 76 = .ok (.iload_n 1, 1) := by decide +kernel
theorem e_Mod_jump_77 : decode M_Mod_jump.2.1 77 = .ok (.invokestatic 193, 3) := by decide +kernel
theorem e_Mod_jump_80 : decode M_Mod_jump.2.1 80 = .ok (.iconst 3, 1) := by decide +kernel
theorem e_Mod_jump_81 : decode M_Mod_jump.2.1 81 = .ok (.iadd, 1) := by decide +kernel
theorem e_Mod_jump_82 : decode M_Mod_jump.2.1 82 = .ok (.iaload, 1) := by decide +kernel
theorem e_Mod_jump_83 : decode M_Mod_jump.2.1 83 = .ok (.iload 5, 2) := by decide +kernel
theorem e_Mod_jump_85 : decode M_Mod_jump.2.1 85 = .ok (.isub, 1) := by decide +kernel
theorem e_Mod_jump_86 : decode M_Mod_jump.2.1 86 = .ok (.invokestatic 432, 3) := by decide +kernel
theorem e_Mod_jump_89 : decode M_Mod_jump.2.1 89 = .ok (.invokestatic 171, 3) := by decide +kernel
theorem e_Mod_jump_92 : decode M_Mod_jump.2.1 92 = .ok (.istore_n 3, 1) := by decide +kernel
theorem e_Mod_jump_93 : decode M_Mod_jump.2.1 93 = .ok (.iinc 4 1, 3) := by decide +kernel
theorem e_Mod_jump_96 : decode M_Mod_jump.2.1 96 = .ok (.goto (-57), 3) := by decide +kernel
theorem e_Mod_jump_99 : decode M_Mod_jump.2.1 99 = .ok (.iload_n 3, 1) := by decide +kernel
theorem e_Mod_jump_100 : decode M_Mod_jump.2.1 100 = .ok (.ireturn, 1) := by decide +kernel
theorem e_Mod_span_0 : decode M_Mod_span.2.1 0 = .ok (.iload_n 0, 1) := by decide +kernel
theorem e_Mod_span_1 : decode M_Mod_span.2.1 1 = .ok (.ifCond .ge 8, 3) := by decide +kernel
theorem e_Mod_span_4 : decode M_Mod_span.2.1 4 = .ok (.iload_n 0, 1) := by decide +kernel
theorem e_Mod_span_5 : decode M_Mod_span.2.1 5 = .ok (.ineg, 1) := by decide +kernel
theorem e_Mod_span_6 : decode M_Mod_span.2.1 6 = .ok (.goto 4, 3) := by decide +kernel
theorem e_Mod_span_9 : decode M_Mod_span.2.1 9 = .ok (.iload_n 0, 1) := by decide +kernel
theorem e_Mod_span_10 : decode M_Mod_span.2.1 10 = .ok (.ireturn, 1) := by decide +kernel
theorem e_Mod_lost_0 : decode M_Mod_lost.2.1 0 = .ok (.aload_n 0, 1) := by decide +kernel
theorem e_Mod_lost_1 : decode M_Mod_lost.2.1 1 = .ok (.iconst 0, 1) := by decide +kernel
theorem e_Mod_lost_2 : decode M_Mod_lost.2.1 2 = .ok (.putfield 159, 3) := by decide +kernel
theorem e_Mod_lost_5 : decode M_Mod_lost.2.1 5 = .ok (.aload_n 0, 1) := by decide +kernel
theorem e_Mod_lost_6 : decode M_Mod_lost.2.1 6 = .ok (.iload_n 1, 1) := by decide +kernel
theorem e_Mod_lost_7 : decode M_Mod_lost.2.1 7 = .ok (.iconst 0, 1) := by decide +kernel
theorem e_Mod_lost_8 : decode M_Mod_lost.2.1 8 = .ok (.aload_n 0, 1) := by decide +kernel
theorem e_Mod_lost_9 : decode M_Mod_lost.2.1 9 = .ok (.getfield 64, 3) := by decide +kernel
theorem e_Mod_lost_12 : decode M_Mod_lost.2.1 12 = .ok (.iconst 1, 1) := by decide +kernel
theorem e_Mod_lost_13 : decode M_Mod_lost.2.1 13 = .ok (.isub, 1) := by decide +kernel
theorem e_Mod_lost_14 : decode M_Mod_lost.2.1 14 = .ok (.invokestatic 312, 3) := by decide +kernel
theorem e_Mod_lost_17 : decode M_Mod_lost.2.1 17 = .ok (.iconst 1, 1) := by decide +kernel
theorem e_Mod_lost_18 : decode M_Mod_lost.2.1 18 = .ok (.invokevirtual 372, 3) := by decide +kernel
theorem e_Mod_lost_21 : decode M_Mod_lost.2.1 21 = .ok (.ifCond .eq 18, 3) := by decide +kernel
theorem e_Mod_lost_24 : decode M_Mod_lost.2.1 24 = .ok (.aload_n 0, 1) := by decide +kernel
theorem e_Mod_lost_25 : decode M_Mod_lost.2.1 25 = .ok (.iload_n 2, 1) := by decide +kernel
theorem e_Mod_lost_26 : decode M_Mod_lost.2.1 26 = .ok (.iconst 1, 1) := by decide +kernel
theorem e_Mod_lost_27 : decode M_Mod_lost.2.1 27 = .ok (.bipush 30, 2) := by decide +kernel
theorem e_Mod_lost_29 : decode M_Mod_lost.2.1 29 = .ok (.invokestatic 312, 3) := by decide +kernel
theorem e_Mod_lost_32 : decode M_Mod_lost.2.1 32 = .ok (.iconst 2, 1) := by decide +kernel
theorem e_Mod_lost_33 : decode M_Mod_lost.2.1 33 = .ok (.invokevirtual 372, 3) := by decide +kernel
theorem e_Mod_lost_36 : decode M_Mod_lost.2.1 36 = .ok (.ifCond .ne 5, 3) := by decide +kernel
theorem e_Mod_lost_39 : decode M_Mod_lost.2.1 39 = .ok (.iconst 0, 1) := by decide +kernel
theorem e_Mod_lost_40 : decode M_Mod_lost.2.1 40 = .ok (.ireturn, 1) := by decide +kernel
theorem e_Mod_lost_41 : decode M_Mod_lost.2.1 41 = .ok (.aload_n 0, 1) := by decide +kernel
theorem e_Mod_lost_42 : decode M_Mod_lost.2.1 42 = .ok (.iload_n 1, 1) := by decide +kernel
theorem e_Mod_lost_43 : decode M_Mod_lost.2.1 43 = .ok (.iload_n 2, 1) := by decide +kernel
theorem e_Mod_lost_44 : decode M_Mod_lost.2.1 44 = .ok (.invokevirtual 435, 3) := by decide +kernel
theorem e_Mod_lost_47 : decode M_Mod_lost.2.1 47 = .ok (.ireturn, 1) := by decide +kernel
theorem e_Mod_lostBy_0 : decode M_Mod_lostBy.2.1 0 = .ok (.aload_n 0, 1) := by decide +kernel
theorem e_Mod_lostBy_1 : decode M_Mod_lostBy.2.1 1 = .ok (.invokevirtual 429, 3) := by decide +kernel
theorem e_Mod_lostBy_4 : decode M_Mod_lostBy.2.1 4 = .ok (.aload_n 0, 1) := by decide +kernel
theorem e_Mod_lostBy_5 : decode M_Mod_lostBy.2.1 5 = .ok (.iconst 0, 1) := by decide +kernel
theorem e_Mod_lostBy_6 : decode M_Mod_lostBy.2.1 6 = .ok (.sipush 420, 3) := by decide +kernel
theorem e_Mod_lostBy_9 : decode M_Mod_lostBy.2.1 9 = .ok (.sipush 210, 3) := by decide +kernel
theorem e_Mod_lostBy_12 : decode M_Mod_lostBy.2.1 12 = .ok (.invokevirtual 406, 3) := by decide +kernel
theorem e_Mod_lostBy_15 : decode M_Mod_lostBy.2.1 15 = .ok (.aload_n 0, 1) := by decide +kernel
theorem e_Mod_lostBy_16 : decode M_Mod_lostBy.2.1 16 = .ok (.iconst 0, 1) := by decide +kernel
theorem e_Mod_lostBy_17 : decode M_Mod_lostBy.2.1 17 = .ok (.iload_n 1, 1) := by decide +kernel
theorem e_Mod_lostBy_18 : decode M_Mod_lostBy.2.1 18 = .ok (.invokevirtual 205, 3) := by decide +kernel
theorem e_Mod_lostBy_21 : decode M_Mod_lostBy.2.1 21 = .ok (.ifCond .eq 12, 3) := by decide +kernel
theorem e_Mod_lostBy_24 : decode M_Mod_lostBy.2.1 24 = .ok (.aload_n 0, 1) := by decide +kernel
theorem e_Mod_lostBy_25 : decode M_Mod_lostBy.2.1 25 = .ok (.sipush 420, 3) := by decide +kernel
theorem e_Mod_lostBy_28 : decode M_Mod_lostBy.2.1 28 = .ok (.iload_n 1, 1) := by decide +kernel
theorem e_Mod_lostBy_29 : decode M_Mod_lostBy.2.1 29 = .ok (.iconst 0, 1) := by decide +kernel
theorem e_Mod_lostBy_30 : decode M_Mod_lostBy.2.1 30 = .ok (.invokevirtual 422, 3) := by decide +kernel
theorem e_Mod_lostBy_33 : decode M_Mod_lostBy.2.1 33 = .ok (.iconst 0, 1) := by decide +kernel
theorem e_Mod_lostBy_34 : decode M_Mod_lostBy.2.1 34 = .ok (.istore_n 3, 1) := by decide +kernel
theorem e_Mod_lostBy_35 : decode M_Mod_lostBy.2.1 35 = .ok (.iconst 0, 1) := by decide +kernel
theorem e_Mod_lostBy_36 : decode M_Mod_lostBy.2.1 36 = .ok (.istore 4, 2) := by decide +kernel
theorem e_Mod_lostBy_38 : decode M_Mod_lostBy.2.1 38 = .ok (.iload 4, 2) := by decide +kernel
theorem e_Mod_lostBy_40 : decode M_Mod_lostBy.2.1 40 = .ok (.iload_n 2, 1) := by decide +kernel
theorem e_Mod_lostBy_41 : decode M_Mod_lostBy.2.1 41 = .ok (.if_icmp .ge 81, 3) := by decide +kernel
theorem e_Mod_lostBy_44 : decode M_Mod_lostBy.2.1 44 = .ok (.aload_n 0, 1) := by decide +kernel
theorem e_Mod_lostBy_45 : decode M_Mod_lostBy.2.1 45 = .ok (.sipush 210, 3) := by decide +kernel
theorem e_Mod_lostBy_48 : decode M_Mod_lostBy.2.1 48 = .ok (.invokevirtual 270, 3) := by decide +kernel
theorem e_Mod_lostBy_51 : decode M_Mod_lostBy.2.1 51 = .ok (.aload_n 0, 1) := by decide +kernel
theorem e_Mod_lostBy_52 : decode M_Mod_lostBy.2.1 52 = .ok (.sipush 420, 3) := by decide +kernel
theorem e_Mod_lostBy_55 : decode M_Mod_lostBy.2.1 55 = .ok (.invokevirtual 270, 3) := by decide +kernel
theorem e_Mod_lostBy_58 : decode M_Mod_lostBy.2.1 58 = .ok (.iconst 0, 1) := by decide +kernel
theorem e_Mod_lostBy_59 : decode M_Mod_lostBy.2.1 59 = .ok (.istore 5, 2) := by decide +kernel
theorem e_Mod_lostBy_61 : decode M_Mod_lostBy.2.1 61 = .ok (.iload 5, 2) := by decide +kernel
theorem e_Mod_lostBy_63 : decode M_Mod_lostBy.2.1 63 = .ok (.aload_n 0, 1) := by decide +kernel
theorem e_Mod_lostBy_64 : decode M_Mod_lostBy.2.1 64 = .ok (.getfield 183, 3) := by decide +kernel
theorem e_Mod_lostBy_67 : decode M_Mod_lostBy.2.1 67 = .ok (.if_icmp .ge 49, 3) := by decide +kernel
theorem e_Mod_lostBy_70 : decode M_Mod_lostBy.2.1 70 = .ok (.aload_n 0, 1) := by decide +kernel
theorem e_Mod_lostBy_71 : decode M_Mod_lostBy.2.1 71 = .ok (.getfield 9, 3) := by decide +kernel
theorem e_Mod_lostBy_74 : decode M_Mod_lostBy.2.1 74 = .ok (.sipush 210, 3) := by decide +kernel
theorem e_Mod_lostBy_77 : decode M_Mod_lostBy.2.1 77 = .ok (.iload 5, 2) := by decide +kernel
theorem e_Mod_lostBy_79 : decode M_Mod_lostBy.2.1 79 = .ok (.invokestatic 193, 3) := by decide +kernel
theorem e_Mod_lostBy_82 : decode M_Mod_lostBy.2.1 82 = .ok (.iconst 1, 1) := by decide +kernel
theorem e_Mod_lostBy_83 : decode M_Mod_lostBy.2.1 83 = .ok (.iadd, 1) := by decide +kernel
theorem e_Mod_lostBy_84 : decode M_Mod_lostBy.2.1 84 = .ok (.iaload, 1) := by decide +kernel
theorem e_Mod_lostBy_85 : decode M_Mod_lostBy.2.1 85 = .ok (.aload_n 0, 1) := by decide +kernel
theorem e_Mod_lostBy_86 : decode M_Mod_lostBy.2.1 86 = .ok (.getfield 9, 3) := by decide +kernel
theorem e_Mod_lostBy_89 : decode M_Mod_lostBy.2.1 89 = .ok (.sipush 420, 3) := by decide +kernel
theorem e_Mod_lostBy_92 : decode M_Mod_lostBy.2.1 92 = .ok (.iload 5, 2) := by decide +kernel
theorem e_Mod_lostBy_94 : decode M_Mod_lostBy.2.1 94 = .ok (.invokestatic 193, 3) := by decide +kernel
theorem e_Mod_lostBy_97 : decode M_Mod_lostBy.2.1 97 = .ok (.iconst 1, 1) := by decide +kernel
theorem e_Mod_lostBy_98 : decode M_Mod_lostBy.2.1 98 = .ok (.iadd, 1) := by decide +kernel
theorem e_Mod_lostBy_99 : decode M_Mod_lostBy.2.1 99 = .ok (.iaload, 1) := by decide +kernel
theorem e_Mod_lostBy_100 : decode M_Mod_lostBy.2.1 100 = .ok (.if_icmp .eq 10, 3) := by decide +kernel
theorem e_Mod_lostBy_103 : decode M_Mod_lostBy.2.1 103 = .ok (.iload_n 3, 1) := by decide +kernel
theorem e_Mod_lostBy_104 : decode M_Mod_lostBy.2.1 104 = .ok (.iconst 1, 1) := by decide +kernel
theorem e_Mod_lostBy_105 : decode M_Mod_lostBy.2.1 105 = .ok (.iload 5, 2) := by decide +kernel
theorem e_Mod_lostBy_107 : decode M_Mod_lostBy.2.1 107 = .ok (.ishl, 1) := by decide +kernel
theorem e_Mod_lostBy_108 : decode M_Mod_lostBy.2.1 108 = .ok (.ior, 1) := by decide +kernel
theorem e_Mod_lostBy_109 : decode M_Mod_lostBy.2.1 109 = .ok (.istore_n 3, 1) := by decide +kernel
theorem e_Mod_lostBy_110 : decode M_Mod_lostBy.2.1 110 = .ok (.iinc 5 1, 3) := by decide +kernel
theorem e_Mod_lostBy_113 : decode M_Mod_lostBy.2.1 113 = .ok (.goto (-52), 3) := by decide +kernel
theorem e_Mod_lostBy_116 : decode M_Mod_lostBy.2.1 116 = .ok (.iinc 4 1, 3) := by decide +kernel
theorem e_Mod_lostBy_119 : decode M_Mod_lostBy.2.1 119 = .ok (.goto (-81), 3) := by decide +kernel
theorem e_Mod_lostBy_122 : decode M_Mod_lostBy.2.1 122 = .ok (.iload_n 3, 1) := by decide +kernel
theorem e_Mod_lostBy_123 : decode M_Mod_lostBy.2.1 123 = .ok (.ireturn, 1) := by decide +kernel
theorem e_Mod_toRide_0 : decode M_Mod_toRide.2.1 0 = .ok (.aload_n 0, 1) := by decide +kernel
theorem e_Mod_toRide_1 : decode M_Mod_toRide.2.1 1 = .ok (.iconst 0, 1) := by decide +kernel
theorem e_Mod_toRide_2 : decode M_Mod_toRide.2.1 2 = .ok (.putfield 159, 3) := by decide +kernel
theorem e_Mod_toRide_5 : decode M_Mod_toRide.2.1 5 = .ok (.aload_n 0, 1) := by decide +kernel
theorem e_Mod_toRide_6 : decode M_Mod_toRide.2.1 6 = .ok (.getfield 9, 3) := by decide +kernel
theorem e_Mod_toRide_9 : decode M_Mod_toRide.2.1 9 = .ok (.sipush 206, 3) := by decide +kernel
theorem e_Mod_toRide_12 : decode M_Mod_toRide.2.1 12 = .ok (.iaload, 1) := by decide +kernel
theorem e_Mod_toRide_13 : decode M_Mod_toRide.2.1 13 = .ok (.istore_n 1, 1) := by decide +kernel
theorem e_Mod_toRide_14 : decode M_Mod_toRide.2.1 14 = .ok (.iload_n 1, 1) := by decide +kernel
theorem e_Mod_toRide_15 : decode M_Mod_toRide.2.1 15 = .ok (.iconst (-1), 1) := by decide +kernel
theorem e_Mod_toRide_16 : decode M_Mod_toRide.2.1 16 = .ok (.if_icmp .ne 5, 3) := by decide +kernel
theorem e_Mod_toRide_19 : decode M_Mod_toRide.2.1 19 = .ok (.iconst (-1), 1) := by decide +kernel
theorem e_Mod_toRide_20 : decode M_Mod_toRide.2.1 20 = .ok (.ireturn, 1) := by decide +kernel
theorem e_Mod_toRide_21 : decode M_Mod_toRide.2.1 21 = .ok (.aload_n 0, 1) := by decide +kernel
theorem e_Mod_toRide_22 : decode M_Mod_toRide.2.1 22 = .ok (.getfield 68, 3) := by decide +kernel
theorem e_Mod_toRide_25 : decode M_Mod_toRide.2.1 25 = .ok (.istore_n 2, 1) := by decide +kernel
theorem e_Mod_toRide_26 : decode M_Mod_toRide.2.1 26 = .ok (.iconst (-1), 1) := by decide +kernel
theorem e_Mod_toRide_27 : decode M_Mod_toRide.2.1 27 = .ok (.istore_n 3, 1) := by decide +kernel
theorem e_Mod_toRide_28 : decode M_Mod_toRide.2.1 28 = .ok (.iconst 1, 1) := by decide +kernel
theorem e_Mod_toRide_29 : decode M_Mod_toRide.2.1 29 = .ok (.istore 4, 2) := by decide +kernel
theorem e_Mod_toRide_31 : decode M_Mod_toRide.2.1 31 = .ok (.iload 4, 2) := by decide +kernel
theorem e_Mod_toRide_33 : decode M_Mod_toRide.2.1 33 = .ok (.bipush 9, 2) := by decide +kernel
theorem e_Mod_toRide_35 : decode M_Mod_toRide.2.1 35 = .ok (.if_icmp .gt 41, 3) := by decide +kernel
theorem e_Mod_toRide_38 : decode M_Mod_toRide.2.1 38 = .ok (.iload_n 3, 1) := by decide +kernel
theorem e_Mod_toRide_39 : decode M_Mod_toRide.2.1 39 = .ok (.iconst (-1), 1) := by decide +kernel
theorem e_Mod_toRide_40 : decode M_Mod_toRide.2.1 40 = .ok (.if_icmp .ne 36, 3) := by decide +kernel
theorem e_Mod_toRide_43 : decode M_Mod_toRide.2.1 43 = .ok (.aload_n 0, 1) := by decide +kernel
theorem e_Mod_toRide_44 : decode M_Mod_toRide.2.1 44 = .ok (.iload 4, 2) := by decide +kernel
theorem e_Mod_toRide_46 : decode M_Mod_toRide.2.1 46 = .ok (.putfield 68, 3) := by decide +kernel
theorem e_Mod_toRide_49 : decode M_Mod_toRide.2.1 49 = .ok (.aload_n 0, 1) := by decide +kernel
theorem e_Mod_toRide_50 : decode M_Mod_toRide.2.1 50 = .ok (.iload_n 1, 1) := by decide +kernel
theorem e_Mod_toRide_51 : decode M_Mod_toRide.2.1 51 = .ok (.bipush 20, 2) := by decide +kernel
theorem e_Mod_toRide_53 : decode M_Mod_toRide.2.1 53 = .ok (.invokevirtual 435, 3) := by decide +kernel
theorem e_Mod_toRide_56 : decode M_Mod_toRide.2.1 56 = .ok (.aload_n 0, 1) := by decide +kernel
theorem e_Mod_toRide_57 : decode M_Mod_toRide.2.1 57 = .ok (.iload_n 1, 1) := by decide +kernel
theorem e_Mod_toRide_58 : decode M_Mod_toRide.2.1 58 = .ok (.invokevirtual 438, 3) := by decide +kernel
theorem e_Mod_toRide_61 : decode M_Mod_toRide.2.1 61 = .ok (.iconst (-1), 1) := by decide +kernel
theorem e_Mod_toRide_62 : decode M_Mod_toRide.2.1 62 = .ok (.ixor, 1) := by decide +kernel
theorem e_Mod_toRide_63 : decode M_Mod_toRide.2.1 63 = .ok (.iand, 1) := by decide +kernel
theorem e_Mod_toRide_64 : decode M_Mod_toRide.2.1 64 = .ok (.ifCond .ne 6, 3) := by decide +kernel
theorem e_Mod_toRide_67 : decode M_Mod_toRide.2.1 67 = .ok (.iload 4, 2) := by decide +kernel
theorem e_Mod_toRide_69 : decode M_Mod_toRide.2.1 69 = .ok (.istore_n 3, 1) := by decide +kernel
theorem e_Mod_toRide_70 : decode M_Mod_toRide.2.1 70 = .ok (.iinc 4 1, 3) := by decide +kernel
theorem e_Mod_toRide_73 : decode M_Mod_toRide.2.1 73 = .ok (.goto (-42), 3) := by decide +kernel
theorem e_Mod_toRide_76 : decode M_Mod_toRide.2.1 76 = .ok (.aload_n 0, 1) := by decide +kernel
theorem e_Mod_toRide_77 : decode M_Mod_toRide.2.1 77 = .ok (.iload_n 2, 1) := by decide +kernel
theorem e_Mod_toRide_78 : decode M_Mod_toRide.2.1 78 = .ok (.putfield 68, 3) := by decide +kernel
theorem e_Mod_toRide_81 : decode M_Mod_toRide.2.1 81 = .ok (.iload_n 3, 1) := by decide +kernel
theorem e_Mod_toRide_82 : decode M_Mod_toRide.2.1 82 = .ok (.ireturn, 1) := by decide +kernel
theorem e_Mod_ownOf_0 : decode M_Mod_ownOf.2.1 0 = .ok (.iconst 0, 1) := by decide +kernel
theorem e_Mod_ownOf_1 : decode M_Mod_ownOf.2.1 1 = .ok (.istore_n 2, 1) := by decide +kernel
theorem e_Mod_ownOf_2 : decode M_Mod_ownOf.2.1 2 = .ok (.iconst 0, 1) := by decide +kernel
theorem e_Mod_ownOf_3 : decode M_Mod_ownOf.2.1 3 = .ok (.istore_n 3, 1) := by decide +kernel
theorem e_Mod_ownOf_4 : decode M_Mod_ownOf.2.1 4 = .ok (.iload_n 3, 1) := by decide +kernel
theorem e_Mod_ownOf_5 : decode M_Mod_ownOf.2.1 5 = .ok (.aload_n 0, 1) := by decide +kernel
theorem e_Mod_ownOf_6 : decode M_Mod_ownOf.2.1 6 = .ok (.getfield 183, 3) := by decide +kernel
theorem e_Mod_ownOf_9 : decode M_Mod_ownOf.2.1 9 = .ok (.if_icmp .ge 29, 3) := by decide +kernel
theorem e_Mod_ownOf_12 : decode M_Mod_ownOf.2.1 12 = .ok (.iload_n 2, 1) := by decide +kernel
theorem e_Mod_ownOf_13 : decode M_Mod_ownOf.2.1 13 = .ok (.aload_n 0, 1) := by decide +kernel
theorem e_Mod_ownOf_14 : decode M_Mod_ownOf.2.1 14 = .ok (.getfield 13, 3) := by decide +kernel
theorem e_Mod_ownOf_17 : decode M_Mod_ownOf.2.1 17 = .ok (.iload_n 3, 1) := by decide +kernel
theorem e_Mod_ownOf_18 : decode M_Mod_ownOf.2.1 18 = .ok (.iaload, 1) := by decide +kernel
theorem e_Mod_ownOf_19 : decode M_Mod_ownOf.2.1 19 = .ok (.iload_n 1, 1) := by decide +kernel
theorem e_Mod_ownOf_20 : decode M_Mod_ownOf.2.1 20 = .ok (.if_icmp .ne 9, 3) := by decide +kernel
theorem e_Mod_ownOf_23 : decode M_Mod_ownOf.2.1 23 = .ok (.iconst 1, 1) := by decide +kernel
theorem e_Mod_ownOf_24 : decode M_Mod_ownOf.2.1 24 = .ok (.iload_n 3, 1) := by decide +kernel
theorem e_Mod_ownOf_25 : decode M_Mod_ownOf.2.1 25 = .ok (.ishl, 1) := by decide +kernel
theorem e_Mod_ownOf_26 : decode M_Mod_ownOf.2.1 26 = .ok (.goto 4, 3) := by decide +kernel
theorem e_Mod_ownOf_29 : decode M_Mod_ownOf.2.1 29 = .ok (.iconst 0, 1) := by decide +kernel
theorem e_Mod_ownOf_30 : decode M_Mod_ownOf.2.1 30 = .ok (.ior, 1) := by decide +kernel
theorem e_Mod_ownOf_31 : decode M_Mod_ownOf.2.1 31 = .ok (.istore_n 2, 1) := by decide +kernel
theorem e_Mod_ownOf_32 : decode M_Mod_ownOf.2.1 32 = .ok (.iinc 3 1, 3) := by decide +kernel
theorem e_Mod_ownOf_35 : decode M_Mod_ownOf.2.1 35 = .ok (.goto (-31), 3) := by decide +kernel
theorem e_Mod_ownOf_38 : decode M_Mod_ownOf.2.1 38 = .ok (.iload_n 2, 1) := by decide +kernel
theorem e_Mod_ownOf_39 : decode M_Mod_ownOf.2.1 39 = .ok (.ireturn, 1) := by decide +kernel
theorem e_Mod_toTune_0 : decode M_Mod_toTune.2.1 0 = .ok (.aload_n 0, 1) := by decide +kernel
theorem e_Mod_toTune_1 : decode M_Mod_toTune.2.1 1 = .ok (.iconst 0, 1) := by decide +kernel
theorem e_Mod_toTune_2 : decode M_Mod_toTune.2.1 2 = .ok (.putfield 159, 3) := by decide +kernel
theorem e_Mod_toTune_5 : decode M_Mod_toTune.2.1 5 = .ok (.aload_n 0, 1) := by decide +kernel
theorem e_Mod_toTune_6 : decode M_Mod_toTune.2.1 6 = .ok (.iload_n 1, 1) := by decide +kernel
theorem e_Mod_toTune_7 : decode M_Mod_toTune.2.1 7 = .ok (.invokevirtual 397, 3) := by decide +kernel
theorem e_Mod_toTune_10 : decode M_Mod_toTune.2.1 10 = .ok (.ifCond .eq 60, 3) := by decide +kernel
theorem e_Mod_toTune_13 : decode M_Mod_toTune.2.1 13 = .ok (.aload_n 0, 1) := by decide +kernel
theorem e_Mod_toTune_14 : decode M_Mod_toTune.2.1 14 = .ok (.aload_n 0, 1) := by decide +kernel
theorem e_Mod_toTune_15 : decode M_Mod_toTune.2.1 15 = .ok (.getfield 19, 3) := by decide +kernel
theorem e_Mod_toTune_18 : decode M_Mod_toTune.2.1 18 = .ok (.iload_n 1, 1) := by decide +kernel
theorem e_Mod_toTune_19 : decode M_Mod_toTune.2.1 19 = .ok (.iaload, 1) := by decide +kernel
theorem e_Mod_toTune_20 : decode M_Mod_toTune.2.1 20 = .ok (.iconst 1, 1) := by decide +kernel
theorem e_Mod_toTune_21 : decode M_Mod_toTune.2.1 21 = .ok (.if_icmp .ne 7, 3) := by decide +kernel
theorem e_Mod_toTune_24 : decode M_Mod_toTune.2.1 24 = .ok (.iconst 1, 1) := by decide +kernel
theorem e_Mod_toTune_25 : decode M_Mod_toTune.2.1 25 = .ok (.goto 4, 3) := by decide +kernel
theorem e_Mod_toTune_28 : decode M_Mod_toTune.2.1 28 = .ok (.iconst 0, 1) := by decide +kernel
theorem e_Mod_toTune_29 : decode M_Mod_toTune.2.1 29 = .ok (.iconst 1, 1) := by decide +kernel
theorem e_Mod_toTune_30 : decode M_Mod_toTune.2.1 30 = .ok (.invokevirtual 372, 3) := by decide +kernel
theorem e_Mod_toTune_33 : decode M_Mod_toTune.2.1 33 = .ok (.ifCond .eq 37, 3) := by decide +kernel
theorem e_Mod_toTune_36 : decode M_Mod_toTune.2.1 36 = .ok (.aload_n 0, 1) := by decide +kernel
theorem e_Mod_toTune_37 : decode M_Mod_toTune.2.1 37 = .ok (.iload_n 2, 1) := by decide +kernel
theorem e_Mod_toTune_38 : decode M_Mod_toTune.2.1 38 = .ok (.iconst 0, 1) := by decide +kernel
theorem e_Mod_toTune_39 : decode M_Mod_toTune.2.1 39 = .ok (.sipush 1000, 3) := by decide +kernel
theorem e_Mod_toTune_42 : decode M_Mod_toTune.2.1 42 = .ok (.invokestatic 312, 3) := by decide +kernel
theorem e_Mod_toTune_45 : decode M_Mod_toTune.2.1 45 = .ok (.ifCond .eq 17, 3) := by decide +kernel
theorem e_Mod_toTune_48 : decode M_Mod_toTune.2.1 48 = .ok (.iload_n 3, 1) := by decide +kernel
theorem e_Mod_toTune_49 : decode M_Mod_toTune.2.1 49 = .ok (.iconst 1, 1) := by decide +kernel
theorem e_Mod_toTune_50 : decode M_Mod_toTune.2.1 50 = .ok (.bipush 30, 2) := by decide +kernel
theorem e_Mod_toTune_52 : decode M_Mod_toTune.2.1 52 = .ok (.invokestatic 312, 3) := by decide +kernel
theorem e_Mod_toTune_55 : decode M_Mod_toTune.2.1 55 = .ok (.ifCond .eq 7, 3) := by decide +kernel
theorem e_Mod_toTune_58 : decode M_Mod_toTune.2.1 58 = .ok (.iconst 1, 1) := by decide +kernel
theorem e_Mod_toTune_59 : decode M_Mod_toTune.2.1 59 = .ok (.goto 4, 3) := by decide +kernel
theorem e_Mod_toTune_62 : decode M_Mod_toTune.2.1 62 = .ok (.iconst 0, 1) := by decide +kernel
theorem e_Mod_toTune_63 : decode M_Mod_toTune.2.1 63 = .ok (.iconst 2, 1) := by decide +kernel
theorem e_Mod_toTune_64 : decode M_Mod_toTune.2.1 64 = .ok (.invokevirtual 372, 3) := by decide +kernel
theorem e_Mod_toTune_67 : decode M_Mod_toTune.2.1 67 = .ok (.ifCond .ne 5, 3) := by decide +kernel
theorem e_Mod_toTune_70 : decode M_Mod_toTune.2.1 70 = .ok (.iconst 0, 1) := by decide +kernel
theorem e_Mod_toTune_71 : decode M_Mod_toTune.2.1 71 = .ok (.ireturn, 1) := by decide +kernel
theorem e_Mod_toTune_72 : decode M_Mod_toTune.2.1 72 = .ok (.aload_n 0, 1) := by decide +kernel
theorem e_Mod_toTune_73 : decode M_Mod_toTune.2.1 73 = .ok (.iload_n 1, 1) := by decide +kernel
theorem e_Mod_toTune_74 : decode M_Mod_toTune.2.1 74 = .ok (.putfield 105, 3) := by decide +kernel
theorem e_Mod_toTune_77 : decode M_Mod_toTune.2.1 77 = .ok (.iconst (-1), 1) := by decide +kernel
theorem e_Mod_toTune_78 : decode M_Mod_toTune.2.1 78 = .ok (.istore 4, 2) := by decide +kernel
theorem e_Mod_toTune_80 : decode M_Mod_toTune.2.1 80 = .ok (.sipush 300, 3) := by decide +kernel
theorem e_Mod_toTune_83 : decode M_Mod_toTune.2.1 83 = .ok (.istore 5, 2) := by decide +kernel
theorem e_Mod_toTune_85 : decode M_Mod_toTune.2.1 85 = .ok (.iload 5, 2) := by decide +kernel
theorem e_Mod_toTune_87 : decode M_Mod_toTune.2.1 87 = .ok (.ifCond .lt 35, 3) := by decide +kernel
theorem e_Mod_toTune_90 : decode M_Mod_toTune.2.1 90 = .ok (.iload 4, 2) := by decide +kernel
theorem e_Mod_toTune_92 : decode M_Mod_toTune.2.1 92 = .ok (.iconst (-1), 1) := by decide +kernel
theorem e_Mod_toTune_93 : decode M_Mod_toTune.2.1 93 = .ok (.if_icmp .ne 29, 3) := by decide +kernel
theorem e_Mod_toTune_96 : decode M_Mod_toTune.2.1 96 = .ok (.aload_n 0, 1) := by decide +kernel
theorem e_Mod_toTune_97 : decode M_Mod_toTune.2.1 97 = .ok (.iload 5, 2) := by decide +kernel
theorem e_Mod_toTune_99 : decode M_Mod_toTune.2.1 99 = .ok (.putfield 202, 3) := by decide +kernel
theorem e_Mod_toTune_102 : decode M_Mod_toTune.2.1 102 = .ok (.aload_n 0, 1) := by decide +kernel
theorem e_Mod_toTune_103 : decode M_Mod_toTune.2.1 103 = .ok (.iload_n 1, 1) := by decide +kernel
theorem e_Mod_toTune_104 : decode M_Mod_toTune.2.1 104 = .ok (.iload_n 2, 1) := by decide +kernel
theorem e_Mod_toTune_105 : decode M_Mod_toTune.2.1 105 = .ok (.iload_n 3, 1) := by decide +kernel
theorem e_Mod_toTune_106 : decode M_Mod_toTune.2.1 106 = .ok (.invokevirtual 441, 3) := by decide +kernel
theorem e_Mod_toTune_109 : decode M_Mod_toTune.2.1 109 = .ok (.ifCond .eq 7, 3) := by decide +kernel
theorem e_Mod_toTune_112 : decode M_Mod_toTune.2.1 112 = .ok (.iload 5, 2) := by decide +kernel
theorem e_Mod_toTune_114 : decode M_Mod_toTune.2.1 114 = .ok (.istore 4, 2) := by decide +kernel
theorem e_Mod_toTune_116 : decode M_Mod_toTune.2.1 116 = .ok (.iinc 5 (-1), 3) := by decide +kernel
theorem e_Mod_toTune_119 : decode M_Mod_toTune.2.1 119 = .ok (.goto (-34), 3) := by decide +kernel
theorem e_Mod_toTune_122 : decode M_Mod_toTune.2.1 122 = .ok (.aload_n 0, 1) := by decide +kernel
theorem e_Mod_toTune_123 : decode M_Mod_toTune.2.1 123 = .ok (.iconst (-1), 1) := by decide +kernel
theorem e_Mod_toTune_124 : decode M_Mod_toTune.2.1 124 = .ok (.putfield 105, 3) := by decide +kernel
theorem e_Mod_toTune_127 : decode M_Mod_toTune.2.1 127 = .ok (.iload 4, 2) := by decide +kernel
theorem e_Mod_toTune_129 : decode M_Mod_toTune.2.1 129 = .ok (.ireturn, 1) := by decide +kernel
theorem e_Mod_isTame_0 : decode M_Mod_isTame.2.1 0 = .ok (.aload_n 0, 1) := by decide +kernel
theorem e_Mod_isTame_1 : decode M_Mod_isTame.2.1 1 = .ok (.iload_n 1, 1) := by decide +kernel
theorem e_Mod_isTame_2 : decode M_Mod_isTame.2.1 2 = .ok (.iconst 0, 1) := by decide +kernel
theorem e_Mod_isTame_3 : decode M_Mod_isTame.2.1 3 = .ok (.invokevirtual 196, 3) := by decide +kernel
theorem e_Mod_isTame_6 : decode M_Mod_isTame.2.1 6 = .ok (.istore 4, 2) := by decide +kernel
theorem e_Mod_isTame_8 : decode M_Mod_isTame.2.1 8 = .ok (.aload_n 0, 1) := by decide +kernel
theorem e_Mod_isTame_9 : decode M_Mod_isTame.2.1 9 = .ok (.invokevirtual 429, 3) := by decide +kernel
theorem e_Mod_isTame_12 : decode M_Mod_isTame.2.1 12 = .ok (.iconst 0, 1) := by decide +kernel
theorem e_Mod_isTame_13 : decode M_Mod_isTame.2.1 13 = .ok (.istore 5, 2) := by decide +kernel
theorem e_Mod_isTame_15 : decode M_Mod_isTame.2.1 15 = .ok (.iload 5, 2) := by decide +kernel
theorem e_Mod_isTame_17 : decode M_Mod_isTame.2.1 17 = .ok (.iload_n 3, 1) := by decide +kernel
theorem e_Mod_isTame_18 : decode M_Mod_isTame.2.1 18 = .ok (.if_icmp .ge 66, 3) := by decide +kernel
theorem e_Mod_isTame_21 : decode M_Mod_isTame.2.1 21 = .ok (.aload_n 0, 1) := by decide +kernel
theorem e_Mod_isTame_22 : decode M_Mod_isTame.2.1 22 = .ok (.sipush 210, 3) := by decide +kernel
theorem e_Mod_isTame_25 : decode M_Mod_isTame.2.1 25 = .ok (.invokevirtual 270, 3) := by decide +kernel
theorem e_Mod_isTame_28 : decode M_Mod_isTame.2.1 28 = .ok (.iload 4, 2) := by decide +kernel
theorem e_Mod_isTame_30 : decode M_Mod_isTame.2.1 30 = .ok (.iconst (-1), 1) := by decide +kernel
theorem e_Mod_isTame_31 : decode M_Mod_isTame.2.1 31 = .ok (.if_icmp .ne 7, 3) := by decide +kernel
theorem e_Mod_isTame_34 : decode M_Mod_isTame.2.1 34 = .ok (.iconst 0, 1) := by decide +kernel
theorem e_Mod_isTame_35 : decode M_Mod_isTame.2.1 35 = .ok (.goto 18, 3) := by decide +kernel
theorem e_Mod_isTame_38 : decode M_Mod_isTame.2.1 38 = .ok (.aload_n 0, 1) := by decide +kernel
theorem e_Mod_isTame_39 : decode M_Mod_isTame.2.1 39 = .ok (.getfield 9, 3) := by decide +kernel
theorem e_Mod_isTame_42 : decode M_Mod_isTame.2.1 42 = .ok (.sipush 210, 3) := by decide +kernel
theorem e_Mod_isTame_45 : decode M_Mod_isTame.2.1 45 = .ok (.iload 4, 2) := by decide +kernel
theorem e_Mod_isTame_47 : decode M_Mod_isTame.2.1 47 = .ok (.invokestatic 199, 3) := by decide +kernel
theorem e_Mod_isTame_50 : decode M_Mod_isTame.2.1 50 = .ok (.iconst 0, 1) := by decide +kernel
theorem e_Mod_isTame_51 : decode M_Mod_isTame.2.1 51 = .ok (.iadd, 1) := by decide +kernel
theorem e_Mod_isTame_52 : decode M_Mod_isTame.2.1 52 = .ok (.iaload, 1) := by decide +kernel
theorem e_Mod_isTame_53 : decode M_Mod_isTame.2.1 53 = .ok (.istore 6, 2) := by decide +kernel
theorem e_Mod_isTame_55 : decode M_Mod_isTame.2.1 55 = .ok (.iload 6, 2) := by decide +kernel
theorem e_Mod_isTame_57 : decode M_Mod_isTame.2.1 57 = .ok (.aload_n 0, 1) := by decide +kernel
theorem e_Mod_isTame_58 : decode M_Mod_isTame.2.1 58 = .ok (.getfield 9, 3) := by decide +kernel
theorem e_Mod_isTame_61 : decode M_Mod_isTame.2.1 61 = .ok (.sipush 210, 3) := by decide +kernel
theorem e_Mod_isTame_64 : decode M_Mod_isTame.2.1 64 = .ok (.iload_n 1, 1) := by decide +kernel
theorem e_Mod_isTame_65 : decode M_Mod_isTame.2.1 65 = .ok (.invokestatic 193, 3) := by decide +kernel
theorem e_Mod_isTame_68 : decode M_Mod_isTame.2.1 68 = .ok (.iconst 2, 1) := by decide +kernel
theorem e_Mod_isTame_69 : decode M_Mod_isTame.2.1 69 = .ok (.iadd, 1) := by decide +kernel
theorem e_Mod_isTame_70 : decode M_Mod_isTame.2.1 70 = .ok (.iaload, 1) := by decide +kernel
theorem e_Mod_isTame_71 : decode M_Mod_isTame.2.1 71 = .ok (.isub, 1) := by decide +kernel
theorem e_Mod_isTame_72 : decode M_Mod_isTame.2.1 72 = .ok (.iload_n 2, 1) := by decide +kernel
theorem e_Mod_isTame_73 : decode M_Mod_isTame.2.1 73 = .ok (.if_icmp .le 5, 3) := by decide +kernel
theorem e_Mod_isTame_76 : decode M_Mod_isTame.2.1 76 = .ok (.iconst 0, 1) := by decide +kernel
theorem e_Mod_isTame_77 : decode M_Mod_isTame.2.1 77 = .ok (.ireturn, 1) := by decide +kernel
theorem e_Mod_isTame_78 : decode M_Mod_isTame.2.1 78 = .ok (.iinc 5 1, 3) := by decide +kernel
theorem e_Mod_isTame_81 : decode M_Mod_isTame.2.1 81 = .ok (.goto (-66), 3) := by decide +kernel
theorem e_Mod_isTame_84 : decode M_Mod_isTame.2.1 84 = .ok (.iconst 1, 1) := by decide +kernel
theorem e_Mod_isTame_85 : decode M_Mod_isTame.2.1 85 = .ok (.ireturn, 1) := by decide +kernel
theorem e_Mod_slack_0 : decode M_Mod_slack.2.1 0 = .ok (.aload_n 0, 1) := by decide +kernel
theorem e_Mod_slack_1 : decode M_Mod_slack.2.1 1 = .ok (.iconst 0, 1) := by decide +kernel
theorem e_Mod_slack_2 : decode M_Mod_slack.2.1 2 = .ok (.putfield 159, 3) := by decide +kernel
theorem e_Mod_slack_5 : decode M_Mod_slack.2.1 5 = .ok (.aload_n 0, 1) := by decide +kernel
theorem e_Mod_slack_6 : decode M_Mod_slack.2.1 6 = .ok (.iload_n 1, 1) := by decide +kernel
theorem e_Mod_slack_7 : decode M_Mod_slack.2.1 7 = .ok (.invokevirtual 397, 3) := by decide +kernel
theorem e_Mod_slack_10 : decode M_Mod_slack.2.1 10 = .ok (.ifCond .ne 5, 3) := by decide +kernel
theorem e_Mod_slack_13 : decode M_Mod_slack.2.1 13 = .ok (.iconst 0, 1) := by decide +kernel
theorem e_Mod_slack_14 : decode M_Mod_slack.2.1 14 = .ok (.ireturn, 1) := by decide +kernel
theorem e_Mod_slack_15 : decode M_Mod_slack.2.1 15 = .ok (.aload_n 0, 1) := by decide +kernel
theorem e_Mod_slack_16 : decode M_Mod_slack.2.1 16 = .ok (.getfield 16, 3) := by decide +kernel
theorem e_Mod_slack_19 : decode M_Mod_slack.2.1 19 = .ok (.iload_n 1, 1) := by decide +kernel
theorem e_Mod_slack_20 : decode M_Mod_slack.2.1 20 = .ok (.iaload, 1) := by decide +kernel
theorem e_Mod_slack_21 : decode M_Mod_slack.2.1 21 = .ok (.istore_n 2, 1) := by decide +kernel
theorem e_Mod_slack_22 : decode M_Mod_slack.2.1 22 = .ok (.aload_n 0, 1) := by decide +kernel
theorem e_Mod_slack_23 : decode M_Mod_slack.2.1 23 = .ok (.getfield 168, 3) := by decide +kernel
theorem e_Mod_slack_26 : decode M_Mod_slack.2.1 26 = .ok (.istore_n 3, 1) := by decide +kernel
theorem e_Mod_slack_27 : decode M_Mod_slack.2.1 27 = .ok (.iconst 0, 1) := by decide +kernel
theorem e_Mod_slack_28 : decode M_Mod_slack.2.1 28 = .ok (.istore 4, 2) := by decide +kernel
theorem e_Mod_slack_30 : decode M_Mod_slack.2.1 30 = .ok (.iconst 1, 1) := by decide +kernel
theorem e_Mod_slack_31 : decode M_Mod_slack.2.1 31 = .ok (.istore 5, 2) := by decide +kernel
theorem e_Mod_slack_33 : decode M_Mod_slack.2.1 33 = .ok (.iload 5, 2) := by decide +kernel
theorem e_Mod_slack_35 : decode M_Mod_slack.2.1 35 = .ok (.bipush 50, 2) := by decide +kernel
theorem e_Mod_slack_37 : decode M_Mod_slack.2.1 37 = .ok (.if_icmp .gt 35, 3) := by decide +kernel
theorem e_Mod_slack_40 : decode M_Mod_slack.2.1 40 = .ok (.aload_n 0, 1) := by decide +kernel
theorem e_Mod_slack_41 : decode M_Mod_slack.2.1 41 = .ok (.getfield 16, 3) := by decide +kernel
theorem e_Mod_slack_44 : decode M_Mod_slack.2.1 44 = .ok (.iload_n 1, 1) := by decide +kernel
theorem e_Mod_slack_45 : decode M_Mod_slack.2.1 45 = .ok (.iload_n 2, 1) := by decide +kernel
theorem e_Mod_slack_46 : decode M_Mod_slack.2.1 46 = .ok (.iload 5, 2) := by decide +kernel
theorem e_Mod_slack_48 : decode M_Mod_slack.2.1 48 = .ok (.iadd, 1) := by decide +kernel
theorem e_Mod_slack_49 : decode M_Mod_slack.2.1 49 = .ok (.iastore, 1) := by decide +kernel
theorem e_Mod_slack_50 : decode M_Mod_slack.2.1 50 = .ok (.aload_n 0, 1) := by decide +kernel
theorem e_Mod_slack_51 : decode M_Mod_slack.2.1 51 = .ok (.invokevirtual 153, 3) := by decide +kernel
theorem e_Mod_slack_54 : decode M_Mod_slack.2.1 54 = .ok (.aload_n 0, 1) := by decide +kernel
theorem e_Mod_slack_55 : decode M_Mod_slack.2.1 55 = .ok (.getfield 168, 3) := by decide +kernel
theorem e_Mod_slack_58 : decode M_Mod_slack.2.1 58 = .ok (.iload_n 3, 1) := by decide +kernel
theorem e_Mod_slack_59 : decode M_Mod_slack.2.1 59 = .ok (.if_icmp .ne 7, 3) := by decide +kernel
theorem e_Mod_slack_62 : decode M_Mod_slack.2.1 62 = .ok (.iload 5, 2) := by decide +kernel
theorem e_Mod_slack_64 : decode M_Mod_slack.2.1 64 = .ok (.istore 4, 2) := by decide +kernel
theorem e_Mod_slack_66 : decode M_Mod_slack.2.1 66 = .ok (.iinc 5 1, 3) := by decide +kernel
theorem e_Mod_slack_69 : decode M_Mod_slack.2.1 69 = .ok (.goto (-36), 3) := by decide +kernel
theorem e_Mod_slack_72 : decode M_Mod_slack.2.1 72 = .ok (.aload_n 0, 1) := by decide +kernel
theorem e_Mod_slack_73 : decode M_Mod_slack.2.1 73 = .ok (.getfield 16, 3) := by decide +kernel
theorem e_Mod_slack_76 : decode M_Mod_slack.2.1 76 = .ok (.iload_n 1, 1) := by decide +kernel
theorem e_Mod_slack_77 : decode M_Mod_slack.2.1 77 = .ok (.iload_n 2, 1) := by decide +kernel
theorem e_Mod_slack_78 : decode M_Mod_slack.2.1 78 = .ok (.iastore, 1) := by decide +kernel
theorem e_Mod_slack_79 : decode M_Mod_slack.2.1 79 = .ok (.aload_n 0, 1) := by decide +kernel
theorem e_Mod_slack_80 : decode M_Mod_slack.2.1 80 = .ok (.invokevirtual 153, 3) := by decide +kernel
theorem e_Mod_slack_83 : decode M_Mod_slack.2.1 83 = .ok (.iload 4, 2) := by decide +kernel
theorem e_Mod_slack_85 : decode M_Mod_slack.2.1 85 = .ok (.ireturn, 1) := by decide +kernel
theorem e_Mod_note_0 : decode M_Mod_note.2.1 0 = .ok (.aload_n 0, 1) := by decide +kernel
theorem e_Mod_note_1 : decode M_Mod_note.2.1 1 = .ok (.iconst 0, 1) := by decide +kernel
theorem e_Mod_note_2 : decode M_Mod_note.2.1 2 = .ok (.putfield 159, 3) := by decide +kernel
theorem e_Mod_note_5 : decode M_Mod_note.2.1 5 = .ok (.aload_n 0, 1) := by decide +kernel
theorem e_Mod_note_6 : decode M_Mod_note.2.1 6 = .ok (.getfield 388, 3) := by decide +kernel
theorem e_Mod_note_9 : decode M_Mod_note.2.1 9 = .ok (.bipush 6, 2) := by decide +kernel
theorem e_Mod_note_11 : decode M_Mod_note.2.1 11 = .ok (.if_icmp .eq 36, 3) := by decide +kernel
theorem e_Mod_note_14 : decode M_Mod_note.2.1 14 = .ok (.iload_n 1, 1) := by decide +kernel
theorem e_Mod_note_15 : decode M_Mod_note.2.1 15 = .ok (.iconst 0, 1) := by decide +kernel
theorem e_Mod_note_16 : decode M_Mod_note.2.1 16 = .ok (.aload_n 0, 1) := by decide +kernel
theorem e_Mod_note_17 : decode M_Mod_note.2.1 17 = .ok (.getfield 183, 3) := by decide +kernel
theorem e_Mod_note_20 : decode M_Mod_note.2.1 20 = .ok (.iconst 1, 1) := by decide +kernel
theorem e_Mod_note_21 : decode M_Mod_note.2.1 21 = .ok (.isub, 1) := by decide +kernel
theorem e_Mod_note_22 : decode M_Mod_note.2.1 22 = .ok (.invokestatic 312, 3) := by decide +kernel
theorem e_Mod_note_25 : decode M_Mod_note.2.1 25 = .ok (.ifCond .eq 22, 3) := by decide +kernel
theorem e_Mod_note_28 : decode M_Mod_note.2.1 28 = .ok (.iload_n 2, 1) := by decide +kernel
theorem e_Mod_note_29 : decode M_Mod_note.2.1 29 = .ok (.iconst 1, 1) := by decide +kernel
theorem e_Mod_note_30 : decode M_Mod_note.2.1 30 = .ok (.bipush 20, 2) := by decide +kernel
theorem e_Mod_note_32 : decode M_Mod_note.2.1 32 = .ok (.invokestatic 312, 3) := by decide +kernel
theorem e_Mod_note_35 : decode M_Mod_note.2.1 35 = .ok (.ifCond .eq 12, 3) := by decide +kernel
theorem e_Mod_note_38 : decode M_Mod_note.2.1 38 = .ok (.iload_n 3, 1) := by decide +kernel
theorem e_Mod_note_39 : decode M_Mod_note.2.1 39 = .ok (.iconst 0, 1) := by decide +kernel
theorem e_Mod_note_40 : decode M_Mod_note.2.1 40 = .ok (.iconst 3, 1) := by decide +kernel
theorem e_Mod_note_41 : decode M_Mod_note.2.1 41 = .ok (.invokestatic 312, 3) := by decide +kernel
theorem e_Mod_note_44 : decode M_Mod_note.2.1 44 = .ok (.ifCond .ne 9, 3) := by decide +kernel
theorem e_Mod_note_47 : decode M_Mod_note.2.1 47 = .ok (.aload_n 0, 1) := by decide +kernel
theorem e_Mod_note_48 : decode M_Mod_note.2.1 48 = .ok (.iconst 2, 1) := by decide +kernel
theorem e_Mod_note_49 : decode M_Mod_note.2.1 49 = .ok (.invokevirtual 413, 3) := by decide +kernel
theorem e_Mod_note_52 : decode M_Mod_note.2.1 52 = .ok (.ireturn, 1) := by decide +kernel
theorem e_Mod_note_53 : decode M_Mod_note.2.1 53 = .ok (.aload_n 0, 1) := by decide +kernel
theorem e_Mod_note_54 : decode M_Mod_note.2.1 54 = .ok (.getfield 52, 3) := by decide +kernel
theorem e_Mod_note_57 : decode M_Mod_note.2.1 57 = .ok (.aload_n 0, 1) := by decide +kernel
theorem e_Mod_note_58 : decode M_Mod_note.2.1 58 = .ok (.getfield 388, 3) := by decide +kernel
theorem e_Mod_note_61 : decode M_Mod_note.2.1 61 = .ok (.iload_n 1, 1) := by decide +kernel
theorem e_Mod_note_62 : decode M_Mod_note.2.1 62 = .ok (.iastore, 1) := by decide +kernel
theorem e_Mod_note_63 : decode M_Mod_note.2.1 63 = .ok (.aload_n 0, 1) := by decide +kernel
theorem e_Mod_note_64 : decode M_Mod_note.2.1 64 = .ok (.getfield 55, 3) := by decide +kernel
theorem e_Mod_note_67 : decode M_Mod_note.2.1 67 = .ok (.aload_n 0, 1) := by decide +kernel
theorem e_Mod_note_68 : decode M_Mod_note.2.1 68 = .ok (.getfield 388, 3) := by decide +kernel
theorem e_Mod_note_71 : decode M_Mod_note.2.1 71 = .ok (.iload_n 2, 1) := by decide +kernel
theorem e_Mod_note_72 : decode M_Mod_note.2.1 72 = .ok (.iastore, 1) := by decide +kernel
theorem e_Mod_note_73 : decode M_Mod_note.2.1 73 = .ok (.aload_n 0, 1) := by decide +kernel
theorem e_Mod_note_74 : decode M_Mod_note.2.1 74 = .ok (.getfield 58, 3) := by decide +kernel
theorem e_Mod_note_77 : decode M_Mod_note.2.1 77 = .ok (.aload_n 0, 1) := by decide +kernel
theorem e_Mod_note_78 : decode M_Mod_note.2.1 78 = .ok (.getfield 388, 3) := by decide +kernel
theorem e_Mod_note_81 : decode M_Mod_note.2.1 81 = .ok (.iload_n 3, 1) := by decide +kernel
theorem e_Mod_note_82 : decode M_Mod_note.2.1 82 = .ok (.iastore, 1) := by decide +kernel
theorem e_Mod_note_83 : decode M_Mod_note.2.1 83 = .ok (.aload_n 0, 1) := by decide +kernel
theorem e_Mod_note_84 : decode M_Mod_note.2.1 84 = .ok (.dup, 1) := by decide +kernel
theorem e_Mod_note_85 : decode M_Mod_note.2.1 85 = .ok (.getfield 388, 3) := by decide +kernel
theorem e_Mod_note_88 : decode M_Mod_note.2.1 88 = .ok (.iconst 1, 1) := by decide +kernel
theorem e_Mod_note_89 : decode M_Mod_note.2.1 89 = .ok (.iadd, 1) := by decide +kernel
theorem e_Mod_note_90 : decode M_Mod_note.2.1 90 = .ok (.putfield 388, 3) := by decide +kernel
theorem e_Mod_note_93 : decode M_Mod_note.2.1 93 = .ok (.aload_n 0, 1) := by decide +kernel
theorem e_Mod_note_94 : decode M_Mod_note.2.1 94 = .ok (.getfield 388, 3) := by decide +kernel
theorem e_Mod_note_97 : decode M_Mod_note.2.1 97 = .ok (.ireturn, 1) := by decide +kernel
theorem e_Mod_fits_0 : decode M_Mod_fits.2.1 0 = .ok (.aload_n 0, 1) := by decide +kernel
theorem e_Mod_fits_1 : decode M_Mod_fits.2.1 1 = .ok (.iconst 0, 1) := by decide +kernel
theorem e_Mod_fits_2 : decode M_Mod_fits.2.1 2 = .ok (.putfield 159, 3) := by decide +kernel
theorem e_Mod_fits_5 : decode M_Mod_fits.2.1 5 = .ok (.iconst 0, 1) := by decide +kernel
theorem e_Mod_fits_6 : decode M_Mod_fits.2.1 6 = .ok (.istore_n 1, 1) := by decide +kernel
theorem e_Mod_fits_7 : decode M_Mod_fits.2.1 7 = .ok (.iconst 0, 1) := by decide +kernel
theorem e_Mod_fits_8 : decode M_Mod_fits.2.1 8 = .ok (.istore_n 2, 1) := by decide +kernel
theorem e_Mod_fits_9 : decode M_Mod_fits.2.1 9 = .ok (.iload_n 2, 1) := by decide +kernel
theorem e_Mod_fits_10 : decode M_Mod_fits.2.1 10 = .ok (.bipush 10, 2) := by decide +kernel
theorem e_Mod_fits_12 : decode M_Mod_fits.2.1 12 = .ok (.if_icmp .ge 31, 3) := by decide +kernel
theorem e_Mod_fits_15 : decode M_Mod_fits.2.1 15 = .ok (.aload_n 0, 1) := by decide +kernel
theorem e_Mod_fits_16 : decode M_Mod_fits.2.1 16 = .ok (.iload_n 2, 1) := by decide +kernel
theorem e_Mod_fits_17 : decode M_Mod_fits.2.1 17 = .ok (.invokevirtual 447, 3) := by decide +kernel
theorem e_Mod_fits_20 : decode M_Mod_fits.2.1 20 = .ok (.ifCond .eq 17, 3) := by decide +kernel
theorem e_Mod_fits_23 : decode M_Mod_fits.2.1 23 = .ok (.aload_n 0, 1) := by decide +kernel
theorem e_Mod_fits_24 : decode M_Mod_fits.2.1 24 = .ok (.iload_n 2, 1) := by decide +kernel
theorem e_Mod_fits_25 : decode M_Mod_fits.2.1 25 = .ok (.invokevirtual 450, 3) := by decide +kernel
theorem e_Mod_fits_28 : decode M_Mod_fits.2.1 28 = .ok (.ifCond .eq 9, 3) := by decide +kernel
theorem e_Mod_fits_31 : decode M_Mod_fits.2.1 31 = .ok (.iload_n 1, 1) := by decide +kernel
theorem e_Mod_fits_32 : decode M_Mod_fits.2.1 32 = .ok (.iconst 1, 1) := by decide +kernel
theorem e_Mod_fits_33 : decode M_Mod_fits.2.1 33 = .ok (.iload_n 2, 1) := by decide +kernel
theorem e_Mod_fits_34 : decode M_Mod_fits.2.1 34 = .ok (.ishl, 1) := by decide +kernel
theorem e_Mod_fits_35 : decode M_Mod_fits.2.1 35 = .ok (.ior, 1) := by decide +kernel
theorem e_Mod_fits_36 : decode M_Mod_fits.2.1 36 = .ok (.istore_n 1, 1) := by decide +kernel
theorem e_Mod_fits_37 : decode M_Mod_fits.2.1 37 = .ok (.iinc 2 1, 3) := by decide +kernel
theorem e_Mod_fits_40 : decode M_Mod_fits.2.1 40 = .ok (.goto (-31), 3) := by decide +kernel
theorem e_Mod_fits_43 : decode M_Mod_fits.2.1 43 = .ok (.iload_n 1, 1) := by decide +kernel
theorem e_Mod_fits_44 : decode M_Mod_fits.2.1 44 = .ok (.ireturn, 1) := by decide +kernel
theorem e_Mod_isCause_0 : decode M_Mod_isCause.2.1 0 = .ok (.iload_n 1, 1) := by decide +kernel
theorem e_Mod_isCause_1 : decode M_Mod_isCause.2.1 1 = .ok (.ifCond .ne 5, 3) := by decide +kernel
theorem e_Mod_isCause_4 : decode M_Mod_isCause.2.1 4 = .ok (.iconst 1, 1) := by decide +kernel
theorem e_Mod_isCause_5 : decode M_Mod_isCause.2.1 5 = .ok (.ireturn, 1) := by decide +kernel
theorem e_Mod_isCause_6 : decode M_Mod_isCause.2.1 6 = .ok (.iload_n 1, 1) := by decide +kernel
theorem e_Mod_isCause_7 : decode M_Mod_isCause.2.1 7 = .ok (.bipush 6, 2) := by decide +kernel
theorem e_Mod_isCause_9 : decode M_Mod_isCause.2.1 9 = .ok (.if_icmp .ge 30, 3) := by decide +kernel
theorem e_Mod_isCause_12 : decode M_Mod_isCause.2.1 12 = .ok (.iload_n 1, 1) := by decide +kernel
theorem e_Mod_isCause_13 : decode M_Mod_isCause.2.1 13 = .ok (.iconst 1, 1) := by decide +kernel
theorem e_Mod_isCause_14 : decode M_Mod_isCause.2.1 14 = .ok (.isub, 1) := by decide +kernel
theorem e_Mod_isCause_15 : decode M_Mod_isCause.2.1 15 = .ok (.aload_n 0, 1) := by decide +kernel
theorem e_Mod_isCause_16 : decode M_Mod_isCause.2.1 16 = .ok (.getfield 64, 3) := by decide +kernel
theorem e_Mod_isCause_19 : decode M_Mod_isCause.2.1 19 = .ok (.if_icmp .ge 18, 3) := by decide +kernel
theorem e_Mod_isCause_22 : decode M_Mod_isCause.2.1 22 = .ok (.aload_n 0, 1) := by decide +kernel
theorem e_Mod_isCause_23 : decode M_Mod_isCause.2.1 23 = .ok (.iconst 0, 1) := by decide +kernel
theorem e_Mod_isCause_24 : decode M_Mod_isCause.2.1 24 = .ok (.iload_n 1, 1) := by decide +kernel
theorem e_Mod_isCause_25 : decode M_Mod_isCause.2.1 25 = .ok (.iconst 1, 1) := by decide +kernel
theorem e_Mod_isCause_26 : decode M_Mod_isCause.2.1 26 = .ok (.isub, 1) := by decide +kernel
theorem e_Mod_isCause_27 : decode M_Mod_isCause.2.1 27 = .ok (.invokevirtual 205, 3) := by decide +kernel
theorem e_Mod_isCause_30 : decode M_Mod_isCause.2.1 30 = .ok (.ifCond .eq 7, 3) := by decide +kernel
theorem e_Mod_isCause_33 : decode M_Mod_isCause.2.1 33 = .ok (.iconst 1, 1) := by decide +kernel
theorem e_Mod_isCause_34 : decode M_Mod_isCause.2.1 34 = .ok (.goto 4, 3) := by decide +kernel
theorem e_Mod_isCause_37 : decode M_Mod_isCause.2.1 37 = .ok (.iconst 0, 1) := by decide +kernel
theorem e_Mod_isCause_38 : decode M_Mod_isCause.2.1 38 = .ok (.ireturn, 1) := by decide +kernel
theorem e_Mod_isCause_39 : decode M_Mod_isCause.2.1 39 = .ok (.aload_n 0, 1) := by decide +kernel
theorem e_Mod_isCause_40 : decode M_Mod_isCause.2.1 40 = .ok (.getfield 9, 3) := by decide +kernel
theorem e_Mod_isCause_43 : decode M_Mod_isCause.2.1 43 = .ok (.sipush 204, 3) := by decide +kernel
theorem e_Mod_isCause_46 : decode M_Mod_isCause.2.1 46 = .ok (.iaload, 1) := by decide +kernel
theorem e_Mod_isCause_47 : decode M_Mod_isCause.2.1 47 = .ok (.iload_n 1, 1) := by decide +kernel
theorem e_Mod_isCause_48 : decode M_Mod_isCause.2.1 48 = .ok (.bipush 6, 2) := by decide +kernel
theorem e_Mod_isCause_50 : decode M_Mod_isCause.2.1 50 = .ok (.isub, 1) := by decide +kernel
theorem e_Mod_isCause_51 : decode M_Mod_isCause.2.1 51 = .ok (.ishr, 1) := by decide +kernel
theorem e_Mod_isCause_52 : decode M_Mod_isCause.2.1 52 = .ok (.iconst 1, 1) := by decide +kernel
theorem e_Mod_isCause_53 : decode M_Mod_isCause.2.1 53 = .ok (.iand, 1) := by decide +kernel
theorem e_Mod_isCause_54 : decode M_Mod_isCause.2.1 54 = .ok (.ifCond .ne 18, 3) := by decide +kernel
theorem e_Mod_isCause_57 : decode M_Mod_isCause.2.1 57 = .ok (.aload_n 0, 1) := by decide +kernel
theorem e_Mod_isCause_58 : decode M_Mod_isCause.2.1 58 = .ok (.iload_n 1, 1) := by decide +kernel
theorem e_Mod_isCause_59 : decode M_Mod_isCause.2.1 59 = .ok (.bipush 6, 2) := by decide +kernel
theorem e_Mod_isCause_61 : decode M_Mod_isCause.2.1 61 = .ok (.isub, 1) := by decide +kernel
theorem e_Mod_isCause_62 : decode M_Mod_isCause.2.1 62 = .ok (.invokevirtual 444, 3) := by decide +kernel
theorem e_Mod_isCause_65 : decode M_Mod_isCause.2.1 65 = .ok (.ifCond .eq 7, 3) := by decide +kernel
theorem e_Mod_isCause_68 : decode M_Mod_isCause.2.1 68 = .ok (.iconst 1, 1) := by decide +kernel
theorem e_Mod_isCause_69 : decode M_Mod_isCause.2.1 69 = .ok (.goto 4, 3) := by decide +kernel
theorem e_Mod_isCause_72 : decode M_Mod_isCause.2.1 72 = .ok (.iconst 0, 1) := by decide +kernel
theorem e_Mod_isCause_73 : decode M_Mod_isCause.2.1 73 = .ok (.ireturn, 1) := by decide +kernel
theorem e_Mod_hasInput_0 : decode M_Mod_hasInput.2.1 0 = .ok (.iconst 0, 1) := by decide +kernel
theorem e_Mod_hasInput_1 : decode M_Mod_hasInput.2.1 1 = .ok (.istore_n 2, 1) := by decide +kernel
theorem e_Mod_hasInput_2 : decode M_Mod_hasInput.2.1 2 = .ok (.iload_n 2, 1) := by decide +kernel
theorem e_Mod_hasInput_3 : decode M_Mod_hasInput.2.1 3 = .ok (.aload_n 0, 1) := by decide +kernel
theorem e_Mod_hasInput_4 : decode M_Mod_hasInput.2.1 4 = .ok (.getfield 183, 3) := by decide +kernel
theorem e_Mod_hasInput_7 : decode M_Mod_hasInput.2.1 7 = .ok (.if_icmp .ge 30, 3) := by decide +kernel
theorem e_Mod_hasInput_10 : decode M_Mod_hasInput.2.1 10 = .ok (.aload_n 0, 1) := by decide +kernel
theorem e_Mod_hasInput_11 : decode M_Mod_hasInput.2.1 11 = .ok (.getfield 19, 3) := by decide +kernel
theorem e_Mod_hasInput_14 : decode M_Mod_hasInput.2.1 14 = .ok (.iload_n 2, 1) := by decide +kernel
theorem e_Mod_hasInput_15 : decode M_Mod_hasInput.2.1 15 = .ok (.iaload, 1) := by decide +kernel
theorem e_Mod_hasInput_16 : decode M_Mod_hasInput.2.1 16 = .ok (.ifCond .ne 15, 3) := by decide +kernel
theorem e_Mod_hasInput_19 : decode M_Mod_hasInput.2.1 19 = .ok (.aload_n 0, 1) := by decide +kernel
theorem e_Mod_hasInput_20 : decode M_Mod_hasInput.2.1 20 = .ok (.getfield 22, 3) := by decide +kernel
theorem e_Mod_hasInput_23 : decode M_Mod_hasInput.2.1 23 = .ok (.iload_n 2, 1) := by decide +kernel
theorem e_Mod_hasInput_24 : decode M_Mod_hasInput.2.1 24 = .ok (.iaload, 1) := by decide +kernel
theorem e_Mod_hasInput_25 : decode M_Mod_hasInput.2.1 25 = .ok (.iload_n 1, 1) := by decide +kernel
theorem e_Mod_hasInput_26 : decode M_Mod_hasInput.2.1 26 = .ok (.if_icmp .ne 5, 3) := by decide +kernel
theorem e_Mod_hasInput_29 : decode M_Mod_hasInput.2.1 29 = .ok (.iconst 1, 1) := by decide +kernel
theorem e_Mod_hasInput_30 : decode M_Mod_hasInput.2.1 30 = .ok (.ireturn, 1) := by decide +kernel
theorem e_Mod_hasInput_31 : decode M_Mod_hasInput.2.1 31 = .ok (.iinc 2 1, 3) := by decide +kernel
theorem e_Mod_hasInput_34 : decode M_Mod_hasInput.2.1 34 = .ok (.goto (-32), 3) := by decide +kernel
theorem e_Mod_hasInput_37 : decode M_Mod_hasInput.2.1 37 = .ok (.iconst 0, 1) := by decide +kernel
theorem e_Mod_hasInput_38 : decode M_Mod_hasInput.2.1 38 = .ok (.ireturn, 1) := by decide +kernel
theorem e_Mod_isNoted_0 : decode M_Mod_isNoted.2.1 0 = .ok (.aload_n 0, 1) := by decide +kernel
theorem e_Mod_isNoted_1 : decode M_Mod_isNoted.2.1 1 = .ok (.invokevirtual 429, 3) := by decide +kernel
theorem e_Mod_isNoted_4 : decode M_Mod_isNoted.2.1 4 = .ok (.iload_n 1, 1) := by decide +kernel
theorem e_Mod_isNoted_5 : decode M_Mod_isNoted.2.1 5 = .ok (.iconst 5, 1) := by decide +kernel
theorem e_Mod_isNoted_6 : decode M_Mod_isNoted.2.1 6 = .ok (.if_icmp .le 23, 3) := by decide +kernel
theorem e_Mod_isNoted_9 : decode M_Mod_isNoted.2.1 9 = .ok (.aload_n 0, 1) := by decide +kernel
theorem e_Mod_isNoted_10 : decode M_Mod_isNoted.2.1 10 = .ok (.getfield 9, 3) := by decide +kernel
theorem e_Mod_isNoted_13 : decode M_Mod_isNoted.2.1 13 = .ok (.sipush 414, 3) := by decide +kernel
theorem e_Mod_isNoted_16 : decode M_Mod_isNoted.2.1 16 = .ok (.dup2, 1) := by decide +kernel
theorem e_Mod_isNoted_17 : decode M_Mod_isNoted.2.1 17 = .ok (.iaload, 1) := by decide +kernel
theorem e_Mod_isNoted_18 : decode M_Mod_isNoted.2.1 18 = .ok (.iconst 1, 1) := by decide +kernel
theorem e_Mod_isNoted_19 : decode M_Mod_isNoted.2.1 19 = .ok (.iload_n 1, 1) := by decide +kernel
theorem e_Mod_isNoted_20 : decode M_Mod_isNoted.2.1 20 = .ok (.bipush 6, 2) := by decide +kernel
theorem e_Mod_isNoted_22 : decode M_Mod_isNoted.2.1 22 = .ok (.isub, 1) := by decide +kernel
theorem e_Mod_isNoted_23 : decode M_Mod_isNoted.2.1 23 = .ok (.ishl, 1) := by decide +kernel
theorem e_Mod_isNoted_24 : decode M_Mod_isNoted.2.1 24 = .ok (.ior, 1) := by decide +kernel
theorem e_Mod_isNoted_25 : decode M_Mod_isNoted.2.1 25 = .ok (.iastore, 1) := by decide +kernel
theorem e_Mod_isNoted_26 : decode M_Mod_isNoted.2.1 26 = .ok (.goto 18, 3) := by decide +kernel
theorem e_Mod_isNoted_29 : decode M_Mod_isNoted.2.1 29 = .ok (.iload_n 1, 1) := by decide +kernel
theorem e_Mod_isNoted_30 : decode M_Mod_isNoted.2.1 30 = .ok (.ifCond .le 14, 3) := by decide +kernel
theorem e_Mod_isNoted_33 : decode M_Mod_isNoted.2.1 33 = .ok (.aload_n 0, 1) := by decide +kernel
theorem e_Mod_isNoted_34 : decode M_Mod_isNoted.2.1 34 = .ok (.sipush 210, 3) := by decide +kernel
theorem e_Mod_isNoted_37 : decode M_Mod_isNoted.2.1 37 = .ok (.iload_n 1, 1) := by decide +kernel
theorem e_Mod_isNoted_38 : decode M_Mod_isNoted.2.1 38 = .ok (.iconst 1, 1) := by decide +kernel
theorem e_Mod_isNoted_39 : decode M_Mod_isNoted.2.1 39 = .ok (.isub, 1) := by decide +kernel
theorem e_Mod_isNoted_40 : decode M_Mod_isNoted.2.1 40 = .ok (.iconst 0, 1) := by decide +kernel
theorem e_Mod_isNoted_41 : decode M_Mod_isNoted.2.1 41 = .ok (.invokevirtual 422, 3) := by decide +kernel
theorem e_Mod_isNoted_44 : decode M_Mod_isNoted.2.1 44 = .ok (.iconst 1, 1) := by decide +kernel
theorem e_Mod_isNoted_45 : decode M_Mod_isNoted.2.1 45 = .ok (.istore_n 2, 1) := by decide +kernel
theorem e_Mod_isNoted_46 : decode M_Mod_isNoted.2.1 46 = .ok (.iconst 1, 1) := by decide +kernel
theorem e_Mod_isNoted_47 : decode M_Mod_isNoted.2.1 47 = .ok (.istore_n 3, 1) := by decide +kernel
theorem e_Mod_isNoted_48 : decode M_Mod_isNoted.2.1 48 = .ok (.iload_n 3, 1) := by decide +kernel
theorem e_Mod_isNoted_49 : decode M_Mod_isNoted.2.1 49 = .ok (.bipush 20, 2) := by decide +kernel
theorem e_Mod_isNoted_51 : decode M_Mod_isNoted.2.1 51 = .ok (.if_icmp .gt 131, 3) := by decide +kernel
theorem e_Mod_isNoted_54 : decode M_Mod_isNoted.2.1 54 = .ok (.aload_n 0, 1) := by decide +kernel
theorem e_Mod_isNoted_55 : decode M_Mod_isNoted.2.1 55 = .ok (.sipush 210, 3) := by decide +kernel
theorem e_Mod_isNoted_58 : decode M_Mod_isNoted.2.1 58 = .ok (.invokevirtual 270, 3) := by decide +kernel
theorem e_Mod_isNoted_61 : decode M_Mod_isNoted.2.1 61 = .ok (.iconst 0, 1) := by decide +kernel
theorem e_Mod_isNoted_62 : decode M_Mod_isNoted.2.1 62 = .ok (.istore 4, 2) := by decide +kernel
theorem e_Mod_isNoted_64 : decode M_Mod_isNoted.2.1 64 = .ok (.iload 4, 2) := by decide +kernel
theorem e_Mod_isNoted_66 : decode M_Mod_isNoted.2.1 66 = .ok (.aload_n 0, 1) := by decide +kernel
theorem e_Mod_isNoted_67 : decode M_Mod_isNoted.2.1 67 = .ok (.getfield 388, 3) := by decide +kernel
theorem e_Mod_isNoted_70 : decode M_Mod_isNoted.2.1 70 = .ok (.if_icmp .ge 60, 3) := by decide +kernel
theorem e_Mod_isNoted_73 : decode M_Mod_isNoted.2.1 73 = .ok (.iload_n 2, 1) := by decide +kernel
theorem e_Mod_isNoted_74 : decode M_Mod_isNoted.2.1 74 = .ok (.ifCond .eq 48, 3) := by decide +kernel
theorem e_Mod_isNoted_77 : decode M_Mod_isNoted.2.1 77 = .ok (.aload_n 0, 1) := by decide +kernel
theorem e_Mod_isNoted_78 : decode M_Mod_isNoted.2.1 78 = .ok (.getfield 55, 3) := by decide +kernel
theorem e_Mod_isNoted_81 : decode M_Mod_isNoted.2.1 81 = .ok (.iload 4, 2) := by decide +kernel
theorem e_Mod_isNoted_83 : decode M_Mod_isNoted.2.1 83 = .ok (.iaload, 1) := by decide +kernel
theorem e_Mod_isNoted_84 : decode M_Mod_isNoted.2.1 84 = .ok (.iload_n 3, 1) := by decide +kernel
theorem e_Mod_isNoted_85 : decode M_Mod_isNoted.2.1 85 = .ok (.if_icmp .ne 33, 3) := by decide +kernel
theorem e_Mod_isNoted_88 : decode M_Mod_isNoted.2.1 88 = .ok (.aload_n 0, 1) := by decide +kernel
theorem e_Mod_isNoted_89 : decode M_Mod_isNoted.2.1 89 = .ok (.getfield 9, 3) := by decide +kernel
theorem e_Mod_isNoted_92 : decode M_Mod_isNoted.2.1 92 = .ok (.sipush 210, 3) := by decide +kernel
theorem e_Mod_isNoted_95 : decode M_Mod_isNoted.2.1 95 = .ok (.aload_n 0, 1) := by decide +kernel
theorem e_Mod_isNoted_96 : decode M_Mod_isNoted.2.1 96 = .ok (.getfield 52, 3) := by decide +kernel
theorem e_Mod_isNoted_99 : decode M_Mod_isNoted.2.1 99 = .ok (.iload 4, 2) := by decide +kernel
theorem e_Mod_isNoted_101 : decode M_Mod_isNoted.2.1 101 = .ok (.iaload, 1) := by decide +kernel
theorem e_Mod_isNoted_102 : decode M_Mod_isNoted.2.1 102 = .ok (.invokestatic 193, 3) := by decide +kernel
theorem e_Mod_isNoted_105 : decode M_Mod_isNoted.2.1 105 = .ok (.iconst 1, 1) := by decide +kernel
theorem e_Mod_isNoted_106 : decode M_Mod_isNoted.2.1 106 = .ok (.iadd, 1) := by decide +kernel
theorem e_Mod_isNoted_107 : decode M_Mod_isNoted.2.1 107 = .ok (.iaload, 1) := by decide +kernel
theorem e_Mod_isNoted_108 : decode M_Mod_isNoted.2.1 108 = .ok (.aload_n 0, 1) := by decide +kernel
theorem e_Mod_isNoted_109 : decode M_Mod_isNoted.2.1 109 = .ok (.getfield 58, 3) := by decide +kernel
theorem e_Mod_isNoted_112 : decode M_Mod_isNoted.2.1 112 = .ok (.iload 4, 2) := by decide +kernel
theorem e_Mod_isNoted_114 : decode M_Mod_isNoted.2.1 114 = .ok (.iaload, 1) := by decide +kernel
theorem e_Mod_isNoted_115 : decode M_Mod_isNoted.2.1 115 = .ok (.if_icmp .ne 7, 3) := by decide +kernel
theorem e_Mod_isNoted_118 : decode M_Mod_isNoted.2.1 118 = .ok (.iconst 1, 1) := by decide +kernel
theorem e_Mod_isNoted_119 : decode M_Mod_isNoted.2.1 119 = .ok (.goto 4, 3) := by decide +kernel
theorem e_Mod_isNoted_122 : decode M_Mod_isNoted.2.1 122 = .ok (.iconst 0, 1) := by decide +kernel
theorem e_Mod_isNoted_123 : decode M_Mod_isNoted.2.1 123 = .ok (.istore_n 2, 1) := by decide +kernel
theorem e_Mod_isNoted_124 : decode M_Mod_isNoted.2.1 124 = .ok (.iinc 4 1, 3) := by decide +kernel
theorem e_Mod_isNoted_127 : decode M_Mod_isNoted.2.1 127 = .ok (.goto (-63), 3) := by decide +kernel
theorem e_Mod_isNoted_130 : decode M_Mod_isNoted.2.1 130 = .ok (.iload_n 3, 1) := by decide +kernel
theorem e_Mod_isNoted_131 : decode M_Mod_isNoted.2.1 131 = .ok (.bipush 8, 2) := by decide +kernel
theorem e_Mod_isNoted_133 : decode M_Mod_isNoted.2.1 133 = .ok (.if_icmp .ne 43, 3) := by decide +kernel
theorem e_Mod_isNoted_136 : decode M_Mod_isNoted.2.1 136 = .ok (.iconst 0, 1) := by decide +kernel
theorem e_Mod_isNoted_137 : decode M_Mod_isNoted.2.1 137 = .ok (.istore 4, 2) := by decide +kernel
theorem e_Mod_isNoted_139 : decode M_Mod_isNoted.2.1 139 = .ok (.iload 4, 2) := by decide +kernel
theorem e_Mod_isNoted_141 : decode M_Mod_isNoted.2.1 141 = .ok (.aload_n 0, 1) := by decide +kernel
theorem e_Mod_isNoted_142 : decode M_Mod_isNoted.2.1 142 = .ok (.getfield 183, 3) := by decide +kernel
theorem e_Mod_isNoted_145 : decode M_Mod_isNoted.2.1 145 = .ok (.if_icmp .ge 31, 3) := by decide +kernel
theorem e_Mod_isNoted_148 : decode M_Mod_isNoted.2.1 148 = .ok (.aload_n 0, 1) := by decide +kernel
theorem e_Mod_isNoted_149 : decode M_Mod_isNoted.2.1 149 = .ok (.getfield 147, 3) := by decide +kernel
theorem e_Mod_isNoted_152 : decode M_Mod_isNoted.2.1 152 = .ok (.iload 4, 2) := by decide +kernel
theorem e_Mod_isNoted_154 : decode M_Mod_isNoted.2.1 154 = .ok (.aload_n 0, 1) := by decide +kernel
theorem e_Mod_isNoted_155 : decode M_Mod_isNoted.2.1 155 = .ok (.getfield 9, 3) := by decide +kernel
theorem e_Mod_isNoted_158 : decode M_Mod_isNoted.2.1 158 = .ok (.sipush 210, 3) := by decide +kernel
theorem e_Mod_isNoted_161 : decode M_Mod_isNoted.2.1 161 = .ok (.iload 4, 2) := by decide +kernel
theorem e_Mod_isNoted_163 : decode M_Mod_isNoted.2.1 163 = .ok (.invokestatic 193, 3) := by decide +kernel
theorem e_Mod_isNoted_166 : decode M_Mod_isNoted.2.1 166 = .ok (.iconst 1, 1) := by decide +kernel
theorem e_Mod_isNoted_167 : decode M_Mod_isNoted.2.1 167 = .ok (.iadd, 1) := by decide +kernel
theorem e_Mod_isNoted_168 : decode M_Mod_isNoted.2.1 168 = .ok (.iaload, 1) := by decide +kernel
theorem e_Mod_isNoted_169 : decode M_Mod_isNoted.2.1 169 = .ok (.iastore, 1) := by decide +kernel
theorem e_Mod_isNoted_170 : decode M_Mod_isNoted.2.1 170 = .ok (.iinc 4 1, 3) := by decide +kernel
theorem e_Mod_isNoted_173 : decode M_Mod_isNoted.2.1 173 = .ok (.goto (-34), 3) := by decide +kernel
theorem e_Mod_isNoted_176 : decode M_Mod_isNoted.2.1 176 = .ok (.iinc 3 1, 3) := by decide +kernel
theorem e_Mod_isNoted_179 : decode M_Mod_isNoted.2.1 179 = .ok (.goto (-131), 3) := by decide +kernel
theorem e_Mod_isNoted_182 : decode M_Mod_isNoted.2.1 182 = .ok (.iload_n 2, 1) := by decide +kernel
theorem e_Mod_isNoted_183 : decode M_Mod_isNoted.2.1 183 = .ok (.ireturn, 1) := by decide +kernel
theorem e_Mod_look_0 : decode M_Mod_look.2.1 0 = .ok (.aload_n 0, 1) := by decide +kernel
theorem e_Mod_look_1 : decode M_Mod_look.2.1 1 = .ok (.iconst 0, 1) := by decide +kernel
theorem e_Mod_look_2 : decode M_Mod_look.2.1 2 = .ok (.putfield 159, 3) := by decide +kernel
theorem e_Mod_look_5 : decode M_Mod_look.2.1 5 = .ok (.aload_n 0, 1) := by decide +kernel
theorem e_Mod_look_6 : decode M_Mod_look.2.1 6 = .ok (.iload_n 1, 1) := by decide +kernel
theorem e_Mod_look_7 : decode M_Mod_look.2.1 7 = .ok (.iconst 0, 1) := by decide +kernel
theorem e_Mod_look_8 : decode M_Mod_look.2.1 8 = .ok (.iconst 1, 1) := by decide +kernel
theorem e_Mod_look_9 : decode M_Mod_look.2.1 9 = .ok (.invokestatic 312, 3) := by decide +kernel
theorem e_Mod_look_12 : decode M_Mod_look.2.1 12 = .ok (.iconst 1, 1) := by decide +kernel
theorem e_Mod_look_13 : decode M_Mod_look.2.1 13 = .ok (.invokevirtual 372, 3) := by decide +kernel
theorem e_Mod_look_16 : decode M_Mod_look.2.1 16 = .ok (.ifCond .ne 5, 3) := by decide +kernel
theorem e_Mod_look_19 : decode M_Mod_look.2.1 19 = .ok (.iconst 0, 1) := by decide +kernel
theorem e_Mod_look_20 : decode M_Mod_look.2.1 20 = .ok (.ireturn, 1) := by decide +kernel
theorem e_Mod_look_21 : decode M_Mod_look.2.1 21 = .ok (.iconst 0, 1) := by decide +kernel
theorem e_Mod_look_22 : decode M_Mod_look.2.1 22 = .ok (.istore_n 2, 1) := by decide +kernel
theorem e_Mod_look_23 : decode M_Mod_look.2.1 23 = .ok (.iload_n 2, 1) := by decide +kernel
theorem e_Mod_look_24 : decode M_Mod_look.2.1 24 = .ok (.bipush 10, 2) := by decide +kernel
theorem e_Mod_look_26 : decode M_Mod_look.2.1 26 = .ok (.if_icmp .ge 16, 3) := by decide +kernel
theorem e_Mod_look_29 : decode M_Mod_look.2.1 29 = .ok (.aload_n 0, 1) := by decide +kernel
theorem e_Mod_look_30 : decode M_Mod_look.2.1 30 = .ok (.getfield 150, 3) := by decide +kernel
theorem e_Mod_look_33 : decode M_Mod_look.2.1 33 = .ok (.iload_n 2, 1) := by decide +kernel
theorem e_Mod_look_34 : decode M_Mod_look.2.1 34 = .ok (.iconst 0, 1) := by decide +kernel
theorem e_Mod_look_35 : decode M_Mod_look.2.1 35 = .ok (.iastore, 1) := by decide +kernel
theorem e_Mod_look_36 : decode M_Mod_look.2.1 36 = .ok (.iinc 2 1, 3) := by decide +kernel
theorem e_Mod_look_39 : decode M_Mod_look.2.1 39 = .ok (.goto (-16), 3) := by decide +kernel
theorem e_Mod_look_42 : decode M_Mod_look.2.1 42 = .ok (.iconst 0, 1) := by decide +kernel
theorem e_Mod_look_43 : decode M_Mod_look.2.1 43 = .ok (.istore_n 2, 1) := by decide +kernel
theorem e_Mod_look_44 : decode M_Mod_look.2.1 44 = .ok (.iload_n 2, 1) := by decide +kernel
theorem e_Mod_look_45 : decode M_Mod_look.2.1 45 = .ok (.bipush 10, 2) := by decide +kernel
theorem e_Mod_look_47 : decode M_Mod_look.2.1 47 = .ok (.if_icmp .ge 61, 3) := by decide +kernel
theorem e_Mod_look_50 : decode M_Mod_look.2.1 50 = .ok (.aload_n 0, 1) := by decide +kernel
theorem e_Mod_look_51 : decode M_Mod_look.2.1 51 = .ok (.iload_n 2, 1) := by decide +kernel
theorem e_Mod_look_52 : decode M_Mod_look.2.1 52 = .ok (.invokevirtual 447, 3) := by decide +kernel
theorem e_Mod_look_55 : decode M_Mod_look.2.1 55 = .ok (.ifCond .eq 47, 3) := by decide +kernel
theorem e_Mod_look_58 : decode M_Mod_look.2.1 58 = .ok (.aload_n 0, 1) := by decide +kernel
theorem e_Mod_look_59 : decode M_Mod_look.2.1 59 = .ok (.iload_n 2, 1) := by decide +kernel
theorem e_Mod_look_60 : decode M_Mod_look.2.1 60 = .ok (.invokevirtual 450, 3) := by decide +kernel
theorem e_Mod_look_63 : decode M_Mod_look.2.1 63 = .ok (.ifCond .ne 6, 3) := by decide +kernel
theorem e_Mod_look_66 : decode M_Mod_look.2.1 66 = .ok (.goto 36, 3) := by decide +kernel
theorem e_Mod_look_69 : decode M_Mod_look.2.1 69 = .ok (.iconst 0, 1) := by decide +kernel
theorem e_Mod_look_70 : decode M_Mod_look.2.1 70 = .ok (.istore_n 3, 1) := by decide +kernel
theorem e_Mod_look_71 : decode M_Mod_look.2.1 71 = .ok (.iload_n 3, 1) := by decide +kernel
theorem e_Mod_look_72 : decode M_Mod_look.2.1 72 = .ok (.aload_n 0, 1) := by decide +kernel
theorem e_Mod_look_73 : decode M_Mod_look.2.1 73 = .ok (.getfield 183, 3) := by decide +kernel
theorem e_Mod_look_76 : decode M_Mod_look.2.1 76 = .ok (.if_icmp .ge 26, 3) := by decide +kernel
theorem e_Mod_look_79 : decode M_Mod_look.2.1 79 = .ok (.aload_n 0, 1) := by decide +kernel
theorem e_Mod_look_80 : decode M_Mod_look.2.1 80 = .ok (.getfield 150, 3) := by decide +kernel
theorem e_Mod_look_83 : decode M_Mod_look.2.1 83 = .ok (.iload_n 3, 1) := by decide +kernel
theorem e_Mod_look_84 : decode M_Mod_look.2.1 84 = .ok (.dup2, 1) := by decide +kernel
theorem e_Mod_look_85 : decode M_Mod_look.2.1 85 = .ok (.iaload, 1) := by decide +kernel
theorem e_Mod_look_86 : decode M_Mod_look.2.1 86 = .ok (.iconst 1, 1) := by decide +kernel
theorem e_Mod_look_87 : decode M_Mod_look.2.1 87 = .ok (.aload_n 0, 1) := by decide +kernel
theorem e_Mod_look_88 : decode M_Mod_look.2.1 88 = .ok (.getfield 147, 3) := by decide +kernel
theorem e_Mod_look_91 : decode M_Mod_look.2.1 91 = .ok (.iload_n 3, 1) := by decide +kernel
theorem e_Mod_look_92 : decode M_Mod_look.2.1 92 = .ok (.iaload, 1) := by decide +kernel
theorem e_Mod_look_93 : decode M_Mod_look.2.1 93 = .ok (.ishl, 1) := by decide +kernel
theorem e_Mod_look_94 : decode M_Mod_look.2.1 94 = .ok (.ior, 1) := by decide +kernel
theorem e_Mod_look_95 : decode M_Mod_look.2.1 95 = .ok (.iastore, 1) := by decide +kernel
theorem e_Mod_look_96 : decode M_Mod_look.2.1 96 = .ok (.iinc 3 1, 3) := by decide +kernel
theorem e_Mod_look_99 : decode M_Mod_look.2.1 99 = .ok (.goto (-28), 3) := by decide +kernel
theorem e_Mod_look_102 : decode M_Mod_look.2.1 102 = .ok (.iinc 2 1, 3) := by decide +kernel
theorem e_Mod_look_105 : decode M_Mod_look.2.1 105 = .ok (.goto (-61), 3) := by decide +kernel
theorem e_Mod_look_108 : decode M_Mod_look.2.1 108 = .ok (.iconst (-1), 1) := by decide +kernel
theorem e_Mod_look_109 : decode M_Mod_look.2.1 109 = .ok (.istore_n 2, 1) := by decide +kernel
theorem e_Mod_look_110 : decode M_Mod_look.2.1 110 = .ok (.iconst 0, 1) := by decide +kernel
theorem e_Mod_look_111 : decode M_Mod_look.2.1 111 = .ok (.istore_n 3, 1) := by decide +kernel
theorem e_Mod_look_112 : decode M_Mod_look.2.1 112 = .ok (.iconst 0, 1) := by decide +kernel
theorem e_Mod_look_113 : decode M_Mod_look.2.1 113 = .ok (.istore 4, 2) := by decide +kernel
theorem e_Mod_look_115 : decode M_Mod_look.2.1 115 = .ok (.iload 4, 2) := by decide +kernel
theorem e_Mod_look_117 : decode M_Mod_look.2.1 117 = .ok (.aload_n 0, 1) := by decide +kernel
theorem e_Mod_look_118 : decode M_Mod_look.2.1 118 = .ok (.getfield 183, 3) := by decide +kernel
theorem e_Mod_look_121 : decode M_Mod_look.2.1 121 = .ok (.if_icmp .ge 59, 3) := by decide +kernel
theorem e_Mod_look_124 : decode M_Mod_look.2.1 124 = .ok (.iconst 0, 1) := by decide +kernel
theorem e_Mod_look_125 : decode M_Mod_look.2.1 125 = .ok (.istore 5, 2) := by decide +kernel
theorem e_Mod_look_127 : decode M_Mod_look.2.1 127 = .ok (.iconst 0, 1) := by decide +kernel
theorem e_Mod_look_128 : decode M_Mod_look.2.1 128 = .ok (.istore 6, 2) := by decide +kernel
theorem e_Mod_look_130 : decode M_Mod_look.2.1 130 = .ok (.iload 6, 2) := by decide +kernel
theorem e_Mod_look_132 : decode M_Mod_look.2.1 132 = .ok (.iconst 4, 1) := by decide +kernel
theorem e_Mod_look_133 : decode M_Mod_look.2.1 133 = .ok (.if_icmp .ge 26, 3) := by decide +kernel
theorem e_Mod_look_136 : decode M_Mod_look.2.1 136 = .ok (.iload 5, 2) := by decide +kernel
theorem e_Mod_look_138 : decode M_Mod_look.2.1 138 = .ok (.aload_n 0, 1) := by decide +kernel
theorem e_Mod_look_139 : decode M_Mod_look.2.1 139 = .ok (.getfield 150, 3) := by decide +kernel
theorem e_Mod_look_142 : decode M_Mod_look.2.1 142 = .ok (.iload 4, 2) := by decide +kernel
theorem e_Mod_look_144 : decode M_Mod_look.2.1 144 = .ok (.iaload, 1) := by decide +kernel
theorem e_Mod_look_145 : decode M_Mod_look.2.1 145 = .ok (.iload 6, 2) := by decide +kernel
theorem e_Mod_look_147 : decode M_Mod_look.2.1 147 = .ok (.ishr, 1) := by decide +kernel
theorem e_Mod_look_148 : decode M_Mod_look.2.1 148 = .ok (.iconst 1, 1) := by decide +kernel
theorem e_Mod_look_149 : decode M_Mod_look.2.1 149 = .ok (.iand, 1) := by decide +kernel
theorem e_Mod_look_150 : decode M_Mod_look.2.1 150 = .ok (.iadd, 1) := by decide +kernel
theorem e_Mod_look_151 : decode M_Mod_look.2.1 151 = .ok (.istore 5, 2) := by decide +kernel
theorem e_Mod_look_153 : decode M_Mod_look.2.1 153 = .ok (.iinc 6 1, 3) := by decide +kernel
theorem e_Mod_look_156 : decode M_Mod_look.2.1 156 = .ok (.goto (-26), 3) := by decide +kernel
theorem e_Mod_look_159 : decode M_Mod_look.2.1 159 = .ok (.iload 5, 2) := by decide +kernel
theorem e_Mod_look_161 : decode M_Mod_look.2.1 161 = .ok (.iload_n 3, 1) := by decide +kernel
theorem e_Mod_look_162 : decode M_Mod_look.2.1 162 = .ok (.if_icmp .gt 6, 3) := by decide +kernel
theorem e_Mod_look_165 : decode M_Mod_look.2.1 165 = .ok (.goto 9, 3) := by decide +kernel
theorem e_Mod_look_168 : decode M_Mod_look.2.1 168 = .ok (.iload 4, 2) := by decide +kernel
theorem e_Mod_look_170 : decode M_Mod_look.2.1 170 = .ok (.istore_n 2, 1) := by decide +kernel
theorem e_Mod_look_171 : decode M_Mod_look.2.1 171 = .ok (.iload 5, 2) := by decide +kernel
theorem e_Mod_look_173 : decode M_Mod_look.2.1 173 = .ok (.istore_n 3, 1) := by decide +kernel
theorem e_Mod_look_174 : decode M_Mod_look.2.1 174 = .ok (.iinc 4 1, 3) := by decide +kernel
theorem e_Mod_look_177 : decode M_Mod_look.2.1 177 = .ok (.goto (-62), 3) := by decide +kernel
theorem e_Mod_look_180 : decode M_Mod_look.2.1 180 = .ok (.iload_n 1, 1) := by decide +kernel
theorem e_Mod_look_181 : decode M_Mod_look.2.1 181 = .ok (.ifCond .ne 7, 3) := by decide +kernel
theorem e_Mod_look_184 : decode M_Mod_look.2.1 184 = .ok (.iload_n 2, 1) := by decide +kernel
theorem e_Mod_look_185 : decode M_Mod_look.2.1 185 = .ok (.goto 4, 3) := by decide +kernel
theorem e_Mod_look_188 : decode M_Mod_look.2.1 188 = .ok (.iload_n 3, 1) := by decide +kernel
theorem e_Mod_look_189 : decode M_Mod_look.2.1 189 = .ok (.ireturn, 1) := by decide +kernel
theorem e_Mod_forget_0 : decode M_Mod_forget.2.1 0 = .ok (.aload_n 0, 1) := by decide +kernel
theorem e_Mod_forget_1 : decode M_Mod_forget.2.1 1 = .ok (.iconst 0, 1) := by decide +kernel
theorem e_Mod_forget_2 : decode M_Mod_forget.2.1 2 = .ok (.putfield 159, 3) := by decide +kernel
theorem e_Mod_forget_5 : decode M_Mod_forget.2.1 5 = .ok (.aload_n 0, 1) := by decide +kernel
theorem e_Mod_forget_6 : decode M_Mod_forget.2.1 6 = .ok (.iconst 0, 1) := by decide +kernel
theorem e_Mod_forget_7 : decode M_Mod_forget.2.1 7 = .ok (.putfield 388, 3) := by decide +kernel
theorem e_Mod_forget_10 : decode M_Mod_forget.2.1 10 = .ok (.return_, 1) := by decide +kernel
theorem e_Mod_years_0 : decode M_Mod_years.2.1 0 = .ok (.aload_n 0, 1) := by decide +kernel
theorem e_Mod_years_1 : decode M_Mod_years.2.1 1 = .ok (.iconst 0, 1) := by decide +kernel
theorem e_Mod_years_2 : decode M_Mod_years.2.1 2 = .ok (.putfield 159, 3) := by decide +kernel
theorem e_Mod_years_5 : decode M_Mod_years.2.1 5 = .ok (.aload_n 0, 1) := by decide +kernel
theorem e_Mod_years_6 : decode M_Mod_years.2.1 6 = .ok (.iload_n 3, 1) := by decide +kernel
theorem e_Mod_years_7 : decode M_Mod_years.2.1 7 = .ok (.iconst 0, 1) := by decide +kernel
theorem e_Mod_years_8 : decode M_Mod_years.2.1 8 = .ok (.iconst 2, 1) := by decide +kernel
theorem e_Mod_years_9 : decode M_Mod_years.2.1 9 = .ok (.invokestatic 312, 3) := by decide +kernel
theorem e_Mod_years_12 : decode M_Mod_years.2.1 12 = .ok (.iconst 1, 1) := by decide +kernel
theorem e_Mod_years_13 : decode M_Mod_years.2.1 13 = .ok (.invokevirtual 372, 3) := by decide +kernel
theorem e_Mod_years_16 : decode M_Mod_years.2.1 16 = .ok (.ifCond .eq 18, 3) := by decide +kernel
theorem e_Mod_years_19 : decode M_Mod_years.2.1 19 = .ok (.aload_n 0, 1) := by decide +kernel
theorem e_Mod_years_20 : decode M_Mod_years.2.1 20 = .ok (.iload_n 2, 1) := by decide +kernel
theorem e_Mod_years_21 : decode M_Mod_years.2.1 21 = .ok (.iconst 0, 1) := by decide +kernel
theorem e_Mod_years_22 : decode M_Mod_years.2.1 22 = .ok (.bipush 30, 2) := by decide +kernel
theorem e_Mod_years_24 : decode M_Mod_years.2.1 24 = .ok (.invokestatic 312, 3) := by decide +kernel
theorem e_Mod_years_27 : decode M_Mod_years.2.1 27 = .ok (.iconst 2, 1) := by decide +kernel
theorem e_Mod_years_28 : decode M_Mod_years.2.1 28 = .ok (.invokevirtual 372, 3) := by decide +kernel
theorem e_Mod_years_31 : decode M_Mod_years.2.1 31 = .ok (.ifCond .ne 5, 3) := by decide +kernel
theorem e_Mod_years_34 : decode M_Mod_years.2.1 34 = .ok (.iconst 0, 1) := by decide +kernel
theorem e_Mod_years_35 : decode M_Mod_years.2.1 35 = .ok (.ireturn, 1) := by decide +kernel
theorem e_Mod_years_36 : decode M_Mod_years.2.1 36 = .ok (.aload_n 0, 1) := by decide +kernel
theorem e_Mod_years_37 : decode M_Mod_years.2.1 37 = .ok (.invokevirtual 429, 3) := by decide +kernel
theorem e_Mod_years_40 : decode M_Mod_years.2.1 40 = .ok (.aload_n 0, 1) := by decide +kernel
theorem e_Mod_years_41 : decode M_Mod_years.2.1 41 = .ok (.iload_n 1, 1) := by decide +kernel
theorem e_Mod_years_42 : decode M_Mod_years.2.1 42 = .ok (.putfield 453, 3) := by decide +kernel
theorem e_Mod_years_45 : decode M_Mod_years.2.1 45 = .ok (.iconst 0, 1) := by decide +kernel
theorem e_Mod_years_46 : decode M_Mod_years.2.1 46 = .ok (.istore 4, 2) := by decide +kernel
theorem e_Mod_years_48 : decode M_Mod_years.2.1 48 = .ok (.iload 4, 2) := by decide +kernel
theorem e_Mod_years_50 : decode M_Mod_years.2.1 50 = .ok (.iload_n 2, 1) := by decide +kernel
theorem e_Mod_years_51 : decode M_Mod_years.2.1 51 = .ok (.if_icmp .ge 13, 3) := by decide +kernel
theorem e_Mod_years_54 : decode M_Mod_years.2.1 54 = .ok (.aload_n 0, 1) := by decide +kernel
theorem e_Mod_years_55 : decode M_Mod_years.2.1 55 = .ok (.invokevirtual 460, 3) := by decide +kernel
theorem e_Mod_years_58 : decode M_Mod_years.2.1 58 = .ok (.iinc 4 1, 3) := by decide +kernel
theorem e_Mod_years_61 : decode M_Mod_years.2.1 61 = .ok (.goto (-13), 3) := by decide +kernel
theorem e_Mod_years_64 : decode M_Mod_years.2.1 64 = .ok (.iload_n 3, 1) := by decide +kernel
theorem e_Mod_years_65 : decode M_Mod_years.2.1 65 = .ok (.ifCond .le 37, 3) := by decide +kernel
theorem e_Mod_years_68 : decode M_Mod_years.2.1 68 = .ok (.iload_n 3, 1) := by decide +kernel
theorem e_Mod_years_69 : decode M_Mod_years.2.1 69 = .ok (.iconst 1, 1) := by decide +kernel
theorem e_Mod_years_70 : decode M_Mod_years.2.1 70 = .ok (.if_icmp .ne 14, 3) := by decide +kernel
theorem e_Mod_years_73 : decode M_Mod_years.2.1 73 = .ok (.aload_n 0, 1) := by decide +kernel
theorem e_Mod_years_74 : decode M_Mod_years.2.1 74 = .ok (.getfield 9, 3) := by decide +kernel
theorem e_Mod_years_77 : decode M_Mod_years.2.1 77 = .ok (.sipush 415, 3) := by decide +kernel
theorem e_Mod_years_80 : decode M_Mod_years.2.1 80 = .ok (.iaload, 1) := by decide +kernel
theorem e_Mod_years_81 : decode M_Mod_years.2.1 81 = .ok (.goto 20, 3) := by decide +kernel
theorem e_Mod_years_84 : decode M_Mod_years.2.1 84 = .ok (.aload_n 0, 1) := by decide +kernel
theorem e_Mod_years_85 : decode M_Mod_years.2.1 85 = .ok (.getfield 9, 3) := by decide +kernel
theorem e_Mod_years_88 : decode M_Mod_years.2.1 88 = .ok (.sipush 419, 3) := by decide +kernel
theorem e_Mod_years_91 : decode M_Mod_years.2.1 91 = .ok (.iaload, 1) := by decide +kernel
theorem e_Mod_years_92 : decode M_Mod_years.2.1 92 = .ok (.aload_n 0, 1) := by decide +kernel
theorem e_Mod_years_93 : decode M_Mod_years.2.1 93 = .ok (.getfield 9, 3) := by decide +kernel
theorem e_Mod_years_96 : decode M_Mod_years.2.1 96 = .ok (.sipush 209, 3) := by decide +kernel
theorem e_Mod_years_99 : decode M_Mod_years.2.1 99 = .ok (.iaload, 1) := by decide +kernel
theorem e_Mod_years_100 : decode M_Mod_years.2.1 100 = .ok (.isub, 1) := by decide +kernel
theorem e_Mod_years_101 : decode M_Mod_years.2.1 101 = .ok (.ireturn, 1) := by decide +kernel
theorem e_Mod_years_102 : decode M_Mod_years.2.1 102 = .ok (.iconst 0, 1) := by decide +kernel
theorem e_Mod_years_103 : decode M_Mod_years.2.1 103 = .ok (.istore 4, 2) := by decide +kernel
theorem e_Mod_years_105 : decode M_Mod_years.2.1 105 = .ok (.iconst 0, 1) := by decide +kernel
theorem e_Mod_years_106 : decode M_Mod_years.2.1 106 = .ok (.istore 5, 2) := by decide +kernel
theorem e_Mod_years_108 : decode M_Mod_years.2.1 108 = .ok (.iload 5, 2) := by decide +kernel
theorem e_Mod_years_110 : decode M_Mod_years.2.1 110 = .ok (.aload_n 0, 1) := by decide +kernel
theorem e_Mod_years_111 : decode M_Mod_years.2.1 111 = .ok (.getfield 183, 3) := by decide +kernel
theorem e_Mod_years_114 : decode M_Mod_years.2.1 114 = .ok (.if_icmp .ge 29, 3) := by decide +kernel
theorem e_Mod_years_117 : decode M_Mod_years.2.1 117 = .ok (.iload 4, 2) := by decide +kernel
theorem e_Mod_years_119 : decode M_Mod_years.2.1 119 = .ok (.aload_n 0, 1) := by decide +kernel
theorem e_Mod_years_120 : decode M_Mod_years.2.1 120 = .ok (.getfield 9, 3) := by decide +kernel
theorem e_Mod_years_123 : decode M_Mod_years.2.1 123 = .ok (.sipush 210, 3) := by decide +kernel
theorem e_Mod_years_126 : decode M_Mod_years.2.1 126 = .ok (.iload 5, 2) := by decide +kernel
theorem e_Mod_years_128 : decode M_Mod_years.2.1 128 = .ok (.invokestatic 193, 3) := by decide +kernel
theorem e_Mod_years_131 : decode M_Mod_years.2.1 131 = .ok (.iconst 3, 1) := by decide +kernel
theorem e_Mod_years_132 : decode M_Mod_years.2.1 132 = .ok (.iadd, 1) := by decide +kernel
theorem e_Mod_years_133 : decode M_Mod_years.2.1 133 = .ok (.iaload, 1) := by decide +kernel
theorem e_Mod_years_134 : decode M_Mod_years.2.1 134 = .ok (.iadd, 1) := by decide +kernel
theorem e_Mod_years_135 : decode M_Mod_years.2.1 135 = .ok (.istore 4, 2) := by decide +kernel
theorem e_Mod_years_137 : decode M_Mod_years.2.1 137 = .ok (.iinc 5 1, 3) := by decide +kernel
theorem e_Mod_years_140 : decode M_Mod_years.2.1 140 = .ok (.goto (-32), 3) := by decide +kernel
theorem e_Mod_years_143 : decode M_Mod_years.2.1 143 = .ok (.iload 4, 2) := by decide +kernel
theorem e_Mod_years_145 : decode M_Mod_years.2.1 145 = .ok (.ireturn, 1) := by decide +kernel
theorem e_Mod_year_0 : decode M_Mod_year.2.1 0 = .ok (.aload_n 0, 1) := by decide +kernel
theorem e_Mod_year_1 : decode M_Mod_year.2.1 1 = .ok (.bipush 6, 2) := by decide +kernel
theorem e_Mod_year_3 : decode M_Mod_year.2.1 3 = .ok (.invokevirtual 457, 3) := by decide +kernel
theorem e_Mod_year_6 : decode M_Mod_year.2.1 6 = .ok (.istore_n 1, 1) := by decide +kernel
theorem e_Mod_year_7 : decode M_Mod_year.2.1 7 = .ok (.iload_n 1, 1) := by decide +kernel
theorem e_Mod_year_8 : decode M_Mod_year.2.1 8 = .ok (.iconst 2, 1) := by decide +kernel
theorem e_Mod_year_9 : decode M_Mod_year.2.1 9 = .ok (.if_icmp .ge 20, 3) := by decide +kernel
theorem e_Mod_year_12 : decode M_Mod_year.2.1 12 = .ok (.aload_n 0, 1) := by decide +kernel
theorem e_Mod_year_13 : decode M_Mod_year.2.1 13 = .ok (.sipush 210, 3) := by decide +kernel
theorem e_Mod_year_16 : decode M_Mod_year.2.1 16 = .ok (.aload_n 0, 1) := by decide +kernel
theorem e_Mod_year_17 : decode M_Mod_year.2.1 17 = .ok (.iconst 5, 1) := by decide +kernel
theorem e_Mod_year_18 : decode M_Mod_year.2.1 18 = .ok (.invokevirtual 457, 3) := by decide +kernel
theorem e_Mod_year_21 : decode M_Mod_year.2.1 21 = .ok (.iconst 1, 1) := by decide +kernel
theorem e_Mod_year_22 : decode M_Mod_year.2.1 22 = .ok (.iadd, 1) := by decide +kernel
theorem e_Mod_year_23 : decode M_Mod_year.2.1 23 = .ok (.invokevirtual 426, 3) := by decide +kernel
theorem e_Mod_year_26 : decode M_Mod_year.2.1 26 = .ok (.goto 172, 3) := by decide +kernel
theorem e_Mod_year_29 : decode M_Mod_year.2.1 29 = .ok (.iload_n 1, 1) := by decide +kernel
theorem e_Mod_year_30 : decode M_Mod_year.2.1 30 = .ok (.iconst 3, 1) := by decide +kernel
theorem e_Mod_year_31 : decode M_Mod_year.2.1 31 = .ok (.if_icmp .ne 39, 3) := by decide +kernel
theorem e_Mod_year_34 : decode M_Mod_year.2.1 34 = .ok (.aload_n 0, 1) := by decide +kernel
theorem e_Mod_year_35 : decode M_Mod_year.2.1 35 = .ok (.aload_n 0, 1) := by decide +kernel
theorem e_Mod_year_36 : decode M_Mod_year.2.1 36 = .ok (.getfield 64, 3) := by decide +kernel
theorem e_Mod_year_39 : decode M_Mod_year.2.1 39 = .ok (.invokevirtual 457, 3) := by decide +kernel
theorem e_Mod_year_42 : decode M_Mod_year.2.1 42 = .ok (.istore_n 2, 1) := by decide +kernel
theorem e_Mod_year_43 : decode M_Mod_year.2.1 43 = .ok (.aload_n 0, 1) := by decide +kernel
theorem e_Mod_year_44 : decode M_Mod_year.2.1 44 = .ok (.sipush 210, 3) := by decide +kernel
theorem e_Mod_year_47 : decode M_Mod_year.2.1 47 = .ok (.iload_n 2, 1) := by decide +kernel
theorem e_Mod_year_48 : decode M_Mod_year.2.1 48 = .ok (.aload_n 0, 1) := by decide +kernel
theorem e_Mod_year_49 : decode M_Mod_year.2.1 49 = .ok (.sipush 210, 3) := by decide +kernel
theorem e_Mod_year_52 : decode M_Mod_year.2.1 52 = .ok (.iload_n 2, 1) := by decide +kernel
theorem e_Mod_year_53 : decode M_Mod_year.2.1 53 = .ok (.invokevirtual 205, 3) := by decide +kernel
theorem e_Mod_year_56 : decode M_Mod_year.2.1 56 = .ok (.ifCond .ne 7, 3) := by decide +kernel
theorem e_Mod_year_59 : decode M_Mod_year.2.1 59 = .ok (.iconst 1, 1) := by decide +kernel
theorem e_Mod_year_60 : decode M_Mod_year.2.1 60 = .ok (.goto 4, 3) := by decide +kernel
theorem e_Mod_year_63 : decode M_Mod_year.2.1 63 = .ok (.iconst 0, 1) := by decide +kernel
theorem e_Mod_year_64 : decode M_Mod_year.2.1 64 = .ok (.invokevirtual 422, 3) := by decide +kernel
theorem e_Mod_year_67 : decode M_Mod_year.2.1 67 = .ok (.goto 131, 3) := by decide +kernel
theorem e_Mod_year_70 : decode M_Mod_year.2.1 70 = .ok (.iload_n 1, 1) := by decide +kernel
theorem e_Mod_year_71 : decode M_Mod_year.2.1 71 = .ok (.iconst 4, 1) := by decide +kernel
theorem e_Mod_year_72 : decode M_Mod_year.2.1 72 = .ok (.if_icmp .ne 24, 3) := by decide +kernel
theorem e_Mod_year_75 : decode M_Mod_year.2.1 75 = .ok (.aload_n 0, 1) := by decide +kernel
theorem e_Mod_year_76 : decode M_Mod_year.2.1 76 = .ok (.getfield 9, 3) := by decide +kernel
theorem e_Mod_year_79 : decode M_Mod_year.2.1 79 = .ok (.sipush 414, 3) := by decide +kernel
theorem e_Mod_year_82 : decode M_Mod_year.2.1 82 = .ok (.dup2, 1) := by decide +kernel
theorem e_Mod_year_83 : decode M_Mod_year.2.1 83 = .ok (.iaload, 1) := by decide +kernel
theorem e_Mod_year_84 : decode M_Mod_year.2.1 84 = .ok (.iconst 1, 1) := by decide +kernel
theorem e_Mod_year_85 : decode M_Mod_year.2.1 85 = .ok (.aload_n 0, 1) := by decide +kernel
theorem e_Mod_year_86 : decode M_Mod_year.2.1 86 = .ok (.iconst 4, 1) := by decide +kernel
theorem e_Mod_year_87 : decode M_Mod_year.2.1 87 = .ok (.invokevirtual 457, 3) := by decide +kernel
theorem e_Mod_year_90 : decode M_Mod_year.2.1 90 = .ok (.ishl, 1) := by decide +kernel
theorem e_Mod_year_91 : decode M_Mod_year.2.1 91 = .ok (.ixor, 1) := by decide +kernel
theorem e_Mod_year_92 : decode M_Mod_year.2.1 92 = .ok (.iastore, 1) := by decide +kernel
theorem e_Mod_year_93 : decode M_Mod_year.2.1 93 = .ok (.goto 105, 3) := by decide +kernel
theorem e_Mod_year_96 : decode M_Mod_year.2.1 96 = .ok (.aload_n 0, 1) := by decide +kernel
theorem e_Mod_year_97 : decode M_Mod_year.2.1 97 = .ok (.getfield 183, 3) := by decide +kernel
theorem e_Mod_year_100 : decode M_Mod_year.2.1 100 = .ok (.ifCond .le 98, 3) := by decide +kernel
theorem e_Mod_year_103 : decode M_Mod_year.2.1 103 = .ok (.aload_n 0, 1) := by decide +kernel
theorem e_Mod_year_104 : decode M_Mod_year.2.1 104 = .ok (.aload_n 0, 1) := by decide +kernel
theorem e_Mod_year_105 : decode M_Mod_year.2.1 105 = .ok (.getfield 183, 3) := by decide +kernel
theorem e_Mod_year_108 : decode M_Mod_year.2.1 108 = .ok (.invokevirtual 457, 3) := by decide +kernel
theorem e_Mod_year_111 : decode M_Mod_year.2.1 111 = .ok (.istore_n 2, 1) := by decide +kernel
theorem e_Mod_year_112 : decode M_Mod_year.2.1 112 = .ok (.aload_n 0, 1) := by decide +kernel
theorem e_Mod_year_113 : decode M_Mod_year.2.1 113 = .ok (.iload_n 1, 1) := by decide +kernel
theorem e_Mod_year_114 : decode M_Mod_year.2.1 114 = .ok (.iconst 2, 1) := by decide +kernel
theorem e_Mod_year_115 : decode M_Mod_year.2.1 115 = .ok (.if_icmp .ne 7, 3) := by decide +kernel
theorem e_Mod_year_118 : decode M_Mod_year.2.1 118 = .ok (.iconst 4, 1) := by decide +kernel
theorem e_Mod_year_119 : decode M_Mod_year.2.1 119 = .ok (.goto 6, 3) := by decide +kernel
theorem e_Mod_year_122 : decode M_Mod_year.2.1 122 = .ok (.sipush 1001, 3) := by decide +kernel
theorem e_Mod_year_125 : decode M_Mod_year.2.1 125 = .ok (.invokevirtual 457, 3) := by decide +kernel
theorem e_Mod_year_128 : decode M_Mod_year.2.1 128 = .ok (.istore_n 3, 1) := by decide +kernel
theorem e_Mod_year_129 : decode M_Mod_year.2.1 129 = .ok (.aload_n 0, 1) := by decide +kernel
theorem e_Mod_year_130 : decode M_Mod_year.2.1 130 = .ok (.sipush 210, 3) := by decide +kernel
theorem e_Mod_year_133 : decode M_Mod_year.2.1 133 = .ok (.iload_n 2, 1) := by decide +kernel
theorem e_Mod_year_134 : decode M_Mod_year.2.1 134 = .ok (.invokevirtual 419, 3) := by decide +kernel
theorem e_Mod_year_137 : decode M_Mod_year.2.1 137 = .ok (.istore 4, 2) := by decide +kernel
theorem e_Mod_year_139 : decode M_Mod_year.2.1 139 = .ok (.iload_n 1, 1) := by decide +kernel
theorem e_Mod_year_140 : decode M_Mod_year.2.1 140 = .ok (.iconst 2, 1) := by decide +kernel
theorem e_Mod_year_141 : decode M_Mod_year.2.1 141 = .ok (.if_icmp .ne 30, 3) := by decide +kernel
theorem e_Mod_year_144 : decode M_Mod_year.2.1 144 = .ok (.aload_n 0, 1) := by decide +kernel
theorem e_Mod_year_145 : decode M_Mod_year.2.1 145 = .ok (.sipush 210, 3) := by decide +kernel
theorem e_Mod_year_148 : decode M_Mod_year.2.1 148 = .ok (.iload_n 2, 1) := by decide +kernel
theorem e_Mod_year_149 : decode M_Mod_year.2.1 149 = .ok (.iload_n 3, 1) := by decide +kernel
theorem e_Mod_year_150 : decode M_Mod_year.2.1 150 = .ok (.invokevirtual 410, 3) := by decide +kernel
theorem e_Mod_year_153 : decode M_Mod_year.2.1 153 = .ok (.ifCond .eq 18, 3) := by decide +kernel
theorem e_Mod_year_156 : decode M_Mod_year.2.1 156 = .ok (.aload_n 0, 1) := by decide +kernel
theorem e_Mod_year_157 : decode M_Mod_year.2.1 157 = .ok (.getfield 9, 3) := by decide +kernel
theorem e_Mod_year_160 : decode M_Mod_year.2.1 160 = .ok (.sipush 210, 3) := by decide +kernel
theorem e_Mod_year_163 : decode M_Mod_year.2.1 163 = .ok (.iload_n 2, 1) := by decide +kernel
theorem e_Mod_year_164 : decode M_Mod_year.2.1 164 = .ok (.invokestatic 193, 3) := by decide +kernel
theorem e_Mod_year_167 : decode M_Mod_year.2.1 167 = .ok (.iconst 0, 1) := by decide +kernel
theorem e_Mod_year_168 : decode M_Mod_year.2.1 168 = .ok (.iadd, 1) := by decide +kernel
theorem e_Mod_year_169 : decode M_Mod_year.2.1 169 = .ok (.iload_n 3, 1) := by decide +kernel
theorem e_Mod_year_170 : decode M_Mod_year.2.1 170 = .ok (.iastore, 1) := by decide +kernel
theorem e_Mod_year_171 : decode M_Mod_year.2.1 171 = .ok (.iload_n 1, 1) := by decide +kernel
theorem e_Mod_year_172 : decode M_Mod_year.2.1 172 = .ok (.iconst 5, 1) := by decide +kernel
theorem e_Mod_year_173 : decode M_Mod_year.2.1 173 = .ok (.if_icmp .ne 25, 3) := by decide +kernel
theorem e_Mod_year_176 : decode M_Mod_year.2.1 176 = .ok (.iload 4, 2) := by decide +kernel
theorem e_Mod_year_178 : decode M_Mod_year.2.1 178 = .ok (.iconst (-1), 1) := by decide +kernel
theorem e_Mod_year_179 : decode M_Mod_year.2.1 179 = .ok (.if_icmp .eq 19, 3) := by decide +kernel
theorem e_Mod_year_182 : decode M_Mod_year.2.1 182 = .ok (.aload_n 0, 1) := by decide +kernel
theorem e_Mod_year_183 : decode M_Mod_year.2.1 183 = .ok (.getfield 9, 3) := by decide +kernel
theorem e_Mod_year_186 : decode M_Mod_year.2.1 186 = .ok (.sipush 210, 3) := by decide +kernel
theorem e_Mod_year_189 : decode M_Mod_year.2.1 189 = .ok (.iload_n 2, 1) := by decide +kernel
theorem e_Mod_year_190 : decode M_Mod_year.2.1 190 = .ok (.invokestatic 193, 3) := by decide +kernel
theorem e_Mod_year_193 : decode M_Mod_year.2.1 193 = .ok (.iload 4, 2) := by decide +kernel
theorem e_Mod_year_195 : decode M_Mod_year.2.1 195 = .ok (.iadd, 1) := by decide +kernel
theorem e_Mod_year_196 : decode M_Mod_year.2.1 196 = .ok (.iload_n 3, 1) := by decide +kernel
theorem e_Mod_year_197 : decode M_Mod_year.2.1 197 = .ok (.iastore, 1) := by decide +kernel
theorem e_Mod_year_198 : decode M_Mod_year.2.1 198 = .ok (.return_, 1) := by decide +kernel
theorem e_Mod_draw_0 : decode M_Mod_draw.2.1 0 = .ok (.aload_n 0, 1) := by decide +kernel
theorem e_Mod_draw_1 : decode M_Mod_draw.2.1 1 = .ok (.aload_n 0, 1) := by decide +kernel
theorem e_Mod_draw_2 : decode M_Mod_draw.2.1 2 = .ok (.getfield 453, 3) := by decide +kernel
theorem e_Mod_draw_5 : decode M_Mod_draw.2.1 5 = .ok (.ldc_w 456, 3) := by decide +kernel
theorem e_Mod_draw_8 : decode M_Mod_draw.2.1 8 = .ok (.imul, 1) := by decide +kernel
theorem e_Mod_draw_9 : decode M_Mod_draw.2.1 9 = .ok (.sipush 12345, 3) := by decide +kernel
theorem e_Mod_draw_12 : decode M_Mod_draw.2.1 12 = .ok (.iadd, 1) := by decide +kernel
theorem e_Mod_draw_13 : decode M_Mod_draw.2.1 13 = .ok (.putfield 453, 3) := by decide +kernel
theorem e_Mod_draw_16 : decode M_Mod_draw.2.1 16 = .ok (.aload_n 0, 1) := by decide +kernel
theorem e_Mod_draw_17 : decode M_Mod_draw.2.1 17 = .ok (.getfield 453, 3) := by decide +kernel
theorem e_Mod_draw_20 : decode M_Mod_draw.2.1 20 = .ok (.bipush 16, 2) := by decide +kernel
theorem e_Mod_draw_22 : decode M_Mod_draw.2.1 22 = .ok (.ishr, 1) := by decide +kernel
theorem e_Mod_draw_23 : decode M_Mod_draw.2.1 23 = .ok (.sipush 32767, 3) := by decide +kernel
theorem e_Mod_draw_26 : decode M_Mod_draw.2.1 26 = .ok (.iand, 1) := by decide +kernel
theorem e_Mod_draw_27 : decode M_Mod_draw.2.1 27 = .ok (.iload_n 1, 1) := by decide +kernel
theorem e_Mod_draw_28 : decode M_Mod_draw.2.1 28 = .ok (.irem, 1) := by decide +kernel
theorem e_Mod_draw_29 : decode M_Mod_draw.2.1 29 = .ok (.ireturn, 1) := by decide +kernel
theorem e_Mod_image_0 : decode M_Mod_image.2.1 0 = .ok (.aload_n 0, 1) := by decide +kernel
theorem e_Mod_image_1 : decode M_Mod_image.2.1 1 = .ok (.iconst 0, 1) := by decide +kernel
theorem e_Mod_image_2 : decode M_Mod_image.2.1 2 = .ok (.putfield 159, 3) := by decide +kernel
theorem e_Mod_image_5 : decode M_Mod_image.2.1 5 = .ok (.aload_n 0, 1) := by decide +kernel
theorem e_Mod_image_6 : decode M_Mod_image.2.1 6 = .ok (.iconst 0, 1) := by decide +kernel
theorem e_Mod_image_7 : decode M_Mod_image.2.1 7 = .ok (.sipush 9030, 3) := by decide +kernel
theorem e_Mod_image_10 : decode M_Mod_image.2.1 10 = .ok (.sipush 210, 3) := by decide +kernel
theorem e_Mod_image_13 : decode M_Mod_image.2.1 13 = .ok (.invokevirtual 406, 3) := by decide +kernel
theorem e_Mod_image_16 : decode M_Mod_image.2.1 16 = .ok (.aload_n 0, 1) := by decide +kernel
theorem e_Mod_image_17 : decode M_Mod_image.2.1 17 = .ok (.sipush 630, 3) := by decide +kernel
theorem e_Mod_image_20 : decode M_Mod_image.2.1 20 = .ok (.sipush 9240, 3) := by decide +kernel
theorem e_Mod_image_23 : decode M_Mod_image.2.1 23 = .ok (.sipush 8400, 3) := by decide +kernel
theorem e_Mod_image_26 : decode M_Mod_image.2.1 26 = .ok (.invokevirtual 406, 3) := by decide +kernel
theorem e_Mod_image_29 : decode M_Mod_image.2.1 29 = .ok (.aload_n 0, 1) := by decide +kernel
theorem e_Mod_image_30 : decode M_Mod_image.2.1 30 = .ok (.aload_n 0, 1) := by decide +kernel
theorem e_Mod_image_31 : decode M_Mod_image.2.1 31 = .ok (.getfield 394, 3) := by decide +kernel
theorem e_Mod_image_34 : decode M_Mod_image.2.1 34 = .ok (.putfield 463, 3) := by decide +kernel
theorem e_Mod_image_37 : decode M_Mod_image.2.1 37 = .ok (.aload_n 0, 1) := by decide +kernel
theorem e_Mod_image_38 : decode M_Mod_image.2.1 38 = .ok (.aload_n 0, 1) := by decide +kernel
theorem e_Mod_image_39 : decode M_Mod_image.2.1 39 = .ok (.getfield 391, 3) := by decide +kernel
theorem e_Mod_image_42 : decode M_Mod_image.2.1 42 = .ok (.putfield 466, 3) := by decide +kernel
theorem e_Mod_image_45 : decode M_Mod_image.2.1 45 = .ok (.aload_n 0, 1) := by decide +kernel
theorem e_Mod_image_46 : decode M_Mod_image.2.1 46 = .ok (.aload_n 0, 1) := by decide +kernel
theorem e_Mod_image_47 : decode M_Mod_image.2.1 47 = .ok (.getfield 388, 3) := by decide +kernel
theorem e_Mod_image_50 : decode M_Mod_image.2.1 50 = .ok (.putfield 469, 3) := by decide +kernel
theorem e_Mod_image_53 : decode M_Mod_image.2.1 53 = .ok (.iconst 0, 1) := by decide +kernel
theorem e_Mod_image_54 : decode M_Mod_image.2.1 54 = .ok (.istore_n 1, 1) := by decide +kernel
theorem e_Mod_image_55 : decode M_Mod_image.2.1 55 = .ok (.iload_n 1, 1) := by decide +kernel
theorem e_Mod_image_56 : decode M_Mod_image.2.1 56 = .ok (.bipush 6, 2) := by decide +kernel
theorem e_Mod_image_58 : decode M_Mod_image.2.1 58 = .ok (.if_icmp .ge 54, 3) := by decide +kernel
theorem e_Mod_image_61 : decode M_Mod_image.2.1 61 = .ok (.aload_n 0, 1) := by decide +kernel
theorem e_Mod_image_62 : decode M_Mod_image.2.1 62 = .ok (.getfield 52, 3) := by decide +kernel
theorem e_Mod_image_65 : decode M_Mod_image.2.1 65 = .ok (.bipush 6, 2) := by decide +kernel
theorem e_Mod_image_67 : decode M_Mod_image.2.1 67 = .ok (.iload_n 1, 1) := by decide +kernel
theorem e_Mod_image_68 : decode M_Mod_image.2.1 68 = .ok (.iadd, 1) := by decide +kernel
theorem e_Mod_image_69 : decode M_Mod_image.2.1 69 = .ok (.aload_n 0, 1) := by decide +kernel
theorem e_Mod_image_70 : decode M_Mod_image.2.1 70 = .ok (.getfield 52, 3) := by decide +kernel
theorem e_Mod_image_73 : decode M_Mod_image.2.1 73 = .ok (.iload_n 1, 1) := by decide +kernel
theorem e_Mod_image_74 : decode M_Mod_image.2.1 74 = .ok (.iaload, 1) := by decide +kernel
theorem e_Mod_image_75 : decode M_Mod_image.2.1 75 = .ok (.iastore, 1) := by decide +kernel
theorem e_Mod_image_76 : decode M_Mod_image.2.1 76 = .ok (.aload_n 0, 1) := by decide +kernel
theorem e_Mod_image_77 : decode M_Mod_image.2.1 77 = .ok (.getfield 55, 3) := by decide +kernel
theorem e_Mod_image_80 : decode M_Mod_image.2.1 80 = .ok (.bipush 6, 2) := by decide +kernel
theorem e_Mod_image_82 : decode M_Mod_image.2.1 82 = .ok (.iload_n 1, 1) := by decide +kernel
theorem e_Mod_image_83 : decode M_Mod_image.2.1 83 = .ok (.iadd, 1) := by decide +kernel
theorem e_Mod_image_84 : decode M_Mod_image.2.1 84 = .ok (.aload_n 0, 1) := by decide +kernel
theorem e_Mod_image_85 : decode M_Mod_image.2.1 85 = .ok (.getfield 55, 3) := by decide +kernel
theorem e_Mod_image_88 : decode M_Mod_image.2.1 88 = .ok (.iload_n 1, 1) := by decide +kernel
theorem e_Mod_image_89 : decode M_Mod_image.2.1 89 = .ok (.iaload, 1) := by decide +kernel
theorem e_Mod_image_90 : decode M_Mod_image.2.1 90 = .ok (.iastore, 1) := by decide +kernel
theorem e_Mod_image_91 : decode M_Mod_image.2.1 91 = .ok (.aload_n 0, 1) := by decide +kernel
theorem e_Mod_image_92 : decode M_Mod_image.2.1 92 = .ok (.getfield 58, 3) := by decide +kernel
theorem e_Mod_image_95 : decode M_Mod_image.2.1 95 = .ok (.bipush 6, 2) := by decide +kernel
theorem e_Mod_image_97 : decode M_Mod_image.2.1 97 = .ok (.iload_n 1, 1) := by decide +kernel
theorem e_Mod_image_98 : decode M_Mod_image.2.1 98 = .ok (.iadd, 1) := by decide +kernel
theorem e_Mod_image_99 : decode M_Mod_image.2.1 99 = .ok (.aload_n 0, 1) := by decide +kernel
theorem e_Mod_image_100 : decode M_Mod_image.2.1 100 = .ok (.getfield 58, 3) := by decide +kernel
theorem e_Mod_image_103 : decode M_Mod_image.2.1 103 = .ok (.iload_n 1, 1) := by decide +kernel
theorem e_Mod_image_104 : decode M_Mod_image.2.1 104 = .ok (.iaload, 1) := by decide +kernel
theorem e_Mod_image_105 : decode M_Mod_image.2.1 105 = .ok (.iastore, 1) := by decide +kernel
theorem e_Mod_image_106 : decode M_Mod_image.2.1 106 = .ok (.iinc 1 1, 3) := by decide +kernel
theorem e_Mod_image_109 : decode M_Mod_image.2.1 109 = .ok (.goto (-54), 3) := by decide +kernel
theorem e_Mod_image_112 : decode M_Mod_image.2.1 112 = .ok (.iconst 0, 1) := by decide +kernel
theorem e_Mod_image_113 : decode M_Mod_image.2.1 113 = .ok (.istore_n 1, 1) := by decide +kernel
theorem e_Mod_image_114 : decode M_Mod_image.2.1 114 = .ok (.iload_n 1, 1) := by decide +kernel
theorem e_Mod_image_115 : decode M_Mod_image.2.1 115 = .ok (.iconst 3, 1) := by decide +kernel
theorem e_Mod_image_116 : decode M_Mod_image.2.1 116 = .ok (.if_icmp .ge 23, 3) := by decide +kernel
theorem e_Mod_image_119 : decode M_Mod_image.2.1 119 = .ok (.aload_n 0, 1) := by decide +kernel
theorem e_Mod_image_120 : decode M_Mod_image.2.1 120 = .ok (.getfield 61, 3) := by decide +kernel
theorem e_Mod_image_123 : decode M_Mod_image.2.1 123 = .ok (.iconst 3, 1) := by decide +kernel
theorem e_Mod_image_124 : decode M_Mod_image.2.1 124 = .ok (.iload_n 1, 1) := by decide +kernel
theorem e_Mod_image_125 : decode M_Mod_image.2.1 125 = .ok (.iadd, 1) := by decide +kernel
theorem e_Mod_image_126 : decode M_Mod_image.2.1 126 = .ok (.aload_n 0, 1) := by decide +kernel
theorem e_Mod_image_127 : decode M_Mod_image.2.1 127 = .ok (.getfield 61, 3) := by decide +kernel
theorem e_Mod_image_130 : decode M_Mod_image.2.1 130 = .ok (.iload_n 1, 1) := by decide +kernel
theorem e_Mod_image_131 : decode M_Mod_image.2.1 131 = .ok (.iaload, 1) := by decide +kernel
theorem e_Mod_image_132 : decode M_Mod_image.2.1 132 = .ok (.iastore, 1) := by decide +kernel
theorem e_Mod_image_133 : decode M_Mod_image.2.1 133 = .ok (.iinc 1 1, 3) := by decide +kernel
theorem e_Mod_image_136 : decode M_Mod_image.2.1 136 = .ok (.goto (-22), 3) := by decide +kernel
theorem e_Mod_image_139 : decode M_Mod_image.2.1 139 = .ok (.aload_n 0, 1) := by decide +kernel
theorem e_Mod_image_140 : decode M_Mod_image.2.1 140 = .ok (.iconst 1, 1) := by decide +kernel
theorem e_Mod_image_141 : decode M_Mod_image.2.1 141 = .ok (.putfield 385, 3) := by decide +kernel
theorem e_Mod_image_144 : decode M_Mod_image.2.1 144 = .ok (.return_, 1) := by decide +kernel
theorem e_Mod_restore_0 : decode M_Mod_restore.2.1 0 = .ok (.aload_n 0, 1) := by decide +kernel
theorem e_Mod_restore_1 : decode M_Mod_restore.2.1 1 = .ok (.iconst 0, 1) := by decide +kernel
theorem e_Mod_restore_2 : decode M_Mod_restore.2.1 2 = .ok (.putfield 159, 3) := by decide +kernel
theorem e_Mod_restore_5 : decode M_Mod_restore.2.1 5 = .ok (.aload_n 0, 1) := by decide +kernel
theorem e_Mod_restore_6 : decode M_Mod_restore.2.1 6 = .ok (.getfield 385, 3) := by decide +kernel
theorem e_Mod_restore_9 : decode M_Mod_restore.2.1 9 = .ok (.ifCond .ne 5, 3) := by decide +kernel
theorem e_Mod_restore_12 : decode M_Mod_restore.2.1 12 = .ok (.iconst 0, 1) := by decide +kernel
theorem e_Mod_restore_13 : decode M_Mod_restore.2.1 13 = .ok (.ireturn, 1) := by decide +kernel
theorem e_Mod_restore_14 : decode M_Mod_restore.2.1 14 = .ok (.aload_n 0, 1) := by decide +kernel
theorem e_Mod_restore_15 : decode M_Mod_restore.2.1 15 = .ok (.sipush 9030, 3) := by decide +kernel
theorem e_Mod_restore_18 : decode M_Mod_restore.2.1 18 = .ok (.iconst 0, 1) := by decide +kernel
theorem e_Mod_restore_19 : decode M_Mod_restore.2.1 19 = .ok (.sipush 210, 3) := by decide +kernel
theorem e_Mod_restore_22 : decode M_Mod_restore.2.1 22 = .ok (.invokevirtual 406, 3) := by decide +kernel
theorem e_Mod_restore_25 : decode M_Mod_restore.2.1 25 = .ok (.aload_n 0, 1) := by decide +kernel
theorem e_Mod_restore_26 : decode M_Mod_restore.2.1 26 = .ok (.sipush 9240, 3) := by decide +kernel
theorem e_Mod_restore_29 : decode M_Mod_restore.2.1 29 = .ok (.sipush 630, 3) := by decide +kernel
theorem e_Mod_restore_32 : decode M_Mod_restore.2.1 32 = .ok (.sipush 8400, 3) := by decide +kernel
theorem e_Mod_restore_35 : decode M_Mod_restore.2.1 35 = .ok (.invokevirtual 406, 3) := by decide +kernel
theorem e_Mod_restore_38 : decode M_Mod_restore.2.1 38 = .ok (.aload_n 0, 1) := by decide +kernel
theorem e_Mod_restore_39 : decode M_Mod_restore.2.1 39 = .ok (.aload_n 0, 1) := by decide +kernel
theorem e_Mod_restore_40 : decode M_Mod_restore.2.1 40 = .ok (.getfield 463, 3) := by decide +kernel
theorem e_Mod_restore_43 : decode M_Mod_restore.2.1 43 = .ok (.putfield 394, 3) := by decide +kernel
theorem e_Mod_restore_46 : decode M_Mod_restore.2.1 46 = .ok (.aload_n 0, 1) := by decide +kernel
theorem e_Mod_restore_47 : decode M_Mod_restore.2.1 47 = .ok (.aload_n 0, 1) := by decide +kernel
theorem e_Mod_restore_48 : decode M_Mod_restore.2.1 48 = .ok (.getfield 466, 3) := by decide +kernel
theorem e_Mod_restore_51 : decode M_Mod_restore.2.1 51 = .ok (.putfield 391, 3) := by decide +kernel
theorem e_Mod_restore_54 : decode M_Mod_restore.2.1 54 = .ok (.aload_n 0, 1) := by decide +kernel
theorem e_Mod_restore_55 : decode M_Mod_restore.2.1 55 = .ok (.aload_n 0, 1) := by decide +kernel
theorem e_Mod_restore_56 : decode M_Mod_restore.2.1 56 = .ok (.getfield 469, 3) := by decide +kernel
theorem e_Mod_restore_59 : decode M_Mod_restore.2.1 59 = .ok (.putfield 388, 3) := by decide +kernel
theorem e_Mod_restore_62 : decode M_Mod_restore.2.1 62 = .ok (.iconst 0, 1) := by decide +kernel
theorem e_Mod_restore_63 : decode M_Mod_restore.2.1 63 = .ok (.istore_n 1, 1) := by decide +kernel
theorem e_Mod_restore_64 : decode M_Mod_restore.2.1 64 = .ok (.iload_n 1, 1) := by decide +kernel
theorem e_Mod_restore_65 : decode M_Mod_restore.2.1 65 = .ok (.bipush 6, 2) := by decide +kernel
theorem e_Mod_restore_67 : decode M_Mod_restore.2.1 67 = .ok (.if_icmp .ge 54, 3) := by decide +kernel
theorem e_Mod_restore_70 : decode M_Mod_restore.2.1 70 = .ok (.aload_n 0, 1) := by decide +kernel
theorem e_Mod_restore_71 : decode M_Mod_restore.2.1 71 = .ok (.getfield 52, 3) := by decide +kernel
theorem e_Mod_restore_74 : decode M_Mod_restore.2.1 74 = .ok (.iload_n 1, 1) := by decide +kernel
theorem e_Mod_restore_75 : decode M_Mod_restore.2.1 75 = .ok (.aload_n 0, 1) := by decide +kernel
theorem e_Mod_restore_76 : decode M_Mod_restore.2.1 76 = .ok (.getfield 52, 3) := by decide +kernel
theorem e_Mod_restore_79 : decode M_Mod_restore.2.1 79 = .ok (.bipush 6, 2) := by decide +kernel
theorem e_Mod_restore_81 : decode M_Mod_restore.2.1 81 = .ok (.iload_n 1, 1) := by decide +kernel
theorem e_Mod_restore_82 : decode M_Mod_restore.2.1 82 = .ok (.iadd, 1) := by decide +kernel
theorem e_Mod_restore_83 : decode M_Mod_restore.2.1 83 = .ok (.iaload, 1) := by decide +kernel
theorem e_Mod_restore_84 : decode M_Mod_restore.2.1 84 = .ok (.iastore, 1) := by decide +kernel
theorem e_Mod_restore_85 : decode M_Mod_restore.2.1 85 = .ok (.aload_n 0, 1) := by decide +kernel
theorem e_Mod_restore_86 : decode M_Mod_restore.2.1 86 = .ok (.getfield 55, 3) := by decide +kernel
theorem e_Mod_restore_89 : decode M_Mod_restore.2.1 89 = .ok (.iload_n 1, 1) := by decide +kernel
theorem e_Mod_restore_90 : decode M_Mod_restore.2.1 90 = .ok (.aload_n 0, 1) := by decide +kernel
theorem e_Mod_restore_91 : decode M_Mod_restore.2.1 91 = .ok (.getfield 55, 3) := by decide +kernel
theorem e_Mod_restore_94 : decode M_Mod_restore.2.1 94 = .ok (.bipush 6, 2) := by decide +kernel
theorem e_Mod_restore_96 : decode M_Mod_restore.2.1 96 = .ok (.iload_n 1, 1) := by decide +kernel
theorem e_Mod_restore_97 : decode M_Mod_restore.2.1 97 = .ok (.iadd, 1) := by decide +kernel
theorem e_Mod_restore_98 : decode M_Mod_restore.2.1 98 = .ok (.iaload, 1) := by decide +kernel
theorem e_Mod_restore_99 : decode M_Mod_restore.2.1 99 = .ok (.iastore, 1) := by decide +kernel
theorem e_Mod_restore_100 : decode M_Mod_restore.2.1 100 = .ok (.aload_n 0, 1) := by decide +kernel
theorem e_Mod_restore_101 : decode M_Mod_restore.2.1 101 = .ok (.getfield 58, 3) := by decide +kernel
theorem e_Mod_restore_104 : decode M_Mod_restore.2.1 104 = .ok (.iload_n 1, 1) := by decide +kernel
theorem e_Mod_restore_105 : decode M_Mod_restore.2.1 105 = .ok (.aload_n 0, 1) := by decide +kernel
theorem e_Mod_restore_106 : decode M_Mod_restore.2.1 106 = .ok (.getfield 58, 3) := by decide +kernel
theorem e_Mod_restore_109 : decode M_Mod_restore.2.1 109 = .ok (.bipush 6, 2) := by decide +kernel
theorem e_Mod_restore_111 : decode M_Mod_restore.2.1 111 = .ok (.iload_n 1, 1) := by decide +kernel
theorem e_Mod_restore_112 : decode M_Mod_restore.2.1 112 = .ok (.iadd, 1) := by decide +kernel
theorem e_Mod_restore_113 : decode M_Mod_restore.2.1 113 = .ok (.iaload, 1) := by decide +kernel
theorem e_Mod_restore_114 : decode M_Mod_restore.2.1 114 = .ok (.iastore, 1) := by decide +kernel
theorem e_Mod_restore_115 : decode M_Mod_restore.2.1 115 = .ok (.iinc 1 1, 3) := by decide +kernel
theorem e_Mod_restore_118 : decode M_Mod_restore.2.1 118 = .ok (.goto (-54), 3) := by decide +kernel
theorem e_Mod_restore_121 : decode M_Mod_restore.2.1 121 = .ok (.iconst 0, 1) := by decide +kernel
theorem e_Mod_restore_122 : decode M_Mod_restore.2.1 122 = .ok (.istore_n 1, 1) := by decide +kernel
theorem e_Mod_restore_123 : decode M_Mod_restore.2.1 123 = .ok (.iload_n 1, 1) := by decide +kernel
theorem e_Mod_restore_124 : decode M_Mod_restore.2.1 124 = .ok (.iconst 3, 1) := by decide +kernel
theorem e_Mod_restore_125 : decode M_Mod_restore.2.1 125 = .ok (.if_icmp .ge 23, 3) := by decide +kernel
theorem e_Mod_restore_128 : decode M_Mod_restore.2.1 128 = .ok (.aload_n 0, 1) := by decide +kernel
theorem e_Mod_restore_129 : decode M_Mod_restore.2.1 129 = .ok (.getfield 61, 3) := by decide +kernel
theorem e_Mod_restore_132 : decode M_Mod_restore.2.1 132 = .ok (.iload_n 1, 1) := by decide +kernel
theorem e_Mod_restore_133 : decode M_Mod_restore.2.1 133 = .ok (.aload_n 0, 1) := by decide +kernel
theorem e_Mod_restore_134 : decode M_Mod_restore.2.1 134 = .ok (.getfield 61, 3) := by decide +kernel
theorem e_Mod_restore_137 : decode M_Mod_restore.2.1 137 = .ok (.iconst 3, 1) := by decide +kernel
theorem e_Mod_restore_138 : decode M_Mod_restore.2.1 138 = .ok (.iload_n 1, 1) := by decide +kernel
theorem e_Mod_restore_139 : decode M_Mod_restore.2.1 139 = .ok (.iadd, 1) := by decide +kernel
theorem e_Mod_restore_140 : decode M_Mod_restore.2.1 140 = .ok (.iaload, 1) := by decide +kernel
theorem e_Mod_restore_141 : decode M_Mod_restore.2.1 141 = .ok (.iastore, 1) := by decide +kernel
theorem e_Mod_restore_142 : decode M_Mod_restore.2.1 142 = .ok (.iinc 1 1, 3) := by decide +kernel
theorem e_Mod_restore_145 : decode M_Mod_restore.2.1 145 = .ok (.goto (-22), 3) := by decide +kernel
theorem e_Mod_restore_148 : decode M_Mod_restore.2.1 148 = .ok (.iconst 1, 1) := by decide +kernel
theorem e_Mod_restore_149 : decode M_Mod_restore.2.1 149 = .ok (.ireturn, 1) := by decide +kernel
