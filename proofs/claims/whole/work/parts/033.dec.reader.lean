/-! instructions of Reader (written by wip/whole/gen_dec.py) -/
theorem e_Reader_init_0 : decode M_Reader_init.2.1 0 = .ok (.aload_n 0, 1) := by decide +kernel
theorem e_Reader_init_1 : decode M_Reader_init.2.1 1 = .ok (.invokespecial 3, 3) := by decide +kernel
theorem e_Reader_init_4 : decode M_Reader_init.2.1 4 = .ok (.aload_n 0, 1) := by decide +kernel
theorem e_Reader_init_5 : decode M_Reader_init.2.1 5 = .ok (.iconst (-1), 1) := by decide +kernel
theorem e_Reader_init_6 : decode M_Reader_init.2.1 6 = .ok (.putfield 9, 3) := by decide +kernel
theorem e_Reader_init_9 : decode M_Reader_init.2.1 9 = .ok (.aload_n 0, 1) := by decide +kernel
theorem e_Reader_init_10 : decode M_Reader_init.2.1 10 = .ok (.iconst 0, 1) := by decide +kernel
theorem e_Reader_init_11 : decode M_Reader_init.2.1 11 = .ok (.putfield 15, 3) := by decide +kernel
theorem e_Reader_init_14 : decode M_Reader_init.2.1 14 = .ok (.aload_n 0, 1) := by decide +kernel
theorem e_Reader_init_15 : decode M_Reader_init.2.1 15 = .ok (.iconst 0, 1) := by decide +kernel
theorem e_Reader_init_16 : decode M_Reader_init.2.1 16 = .ok (.newarray .byte, 2) := by decide +kernel
theorem e_Reader_init_18 : decode M_Reader_init.2.1 18 = .ok (.putfield 18, 3) := by decide +kernel
theorem e_Reader_init_21 : decode M_Reader_init.2.1 21 = .ok (.aload_n 0, 1) := by decide +kernel
theorem e_Reader_init_22 : decode M_Reader_init.2.1 22 = .ok (.iconst 0, 1) := by decide +kernel
theorem e_Reader_init_23 : decode M_Reader_init.2.1 23 = .ok (.putfield 22, 3) := by decide +kernel
theorem e_Reader_init_26 : decode M_Reader_init.2.1 26 = .ok (.aload_n 0, 1) := by decide +kernel
theorem e_Reader_init_27 : decode M_Reader_init.2.1 27 = .ok (.iconst 0, 1) := by decide +kernel
theorem e_Reader_init_28 : decode M_Reader_init.2.1 28 = .ok (.putfield 25, 3) := by decide +kernel
theorem e_Reader_init_31 : decode M_Reader_init.2.1 31 = .ok (.aload_n 0, 1) := by decide +kernel
theorem e_Reader_init_32 : decode M_Reader_init.2.1 32 = .ok (.new 28, 3) := by decide +kernel
theorem e_Reader_init_35 : decode M_Reader_init.2.1 35 = .ok (.dup, 1) := by decide +kernel
theorem e_Reader_init_36 : decode M_Reader_init.2.1 36 = .ok (.invokespecial 30, 3) := by decide +kernel
theorem e_Reader_init_39 : decode M_Reader_init.2.1 39 = .ok (.putfield 31, 3) := by decide +kernel
theorem e_Reader_init_42 : decode M_Reader_init.2.1 42 = .ok (.aload_n 0, 1) := by decide +kernel
theorem e_Reader_init_43 : decode M_Reader_init.2.1 43 = .ok (.iconst 0, 1) := by decide +kernel
theorem e_Reader_init_44 : decode M_Reader_init.2.1 44 = .ok (.putfield 35, 3) := by decide +kernel
theorem e_Reader_init_47 : decode M_Reader_init.2.1 47 = .ok (.aload_n 0, 1) := by decide +kernel
theorem e_Reader_init_48 : decode M_Reader_init.2.1 48 = .ok (.iconst 0, 1) := by decide +kernel
theorem e_Reader_init_49 : decode M_Reader_init.2.1 49 = .ok (.putfield 38, 3) := by decide +kernel
theorem e_Reader_init_52 : decode M_Reader_init.2.1 52 = .ok (.aload_n 0, 1) := by decide +kernel
theorem e_Reader_init_53 : decode M_Reader_init.2.1 53 = .ok (.iconst 0, 1) := by decide +kernel
theorem e_Reader_init_54 : decode M_Reader_init.2.1 54 = .ok (.putfield 42, 3) := by decide +kernel
theorem e_Reader_init_57 : decode M_Reader_init.2.1 57 = .ok (.aload_n 0, 1) := by decide +kernel
theorem e_Reader_init_58 : decode M_Reader_init.2.1 58 = .ok (.iconst 0, 1) := by decide +kernel
theorem e_Reader_init_59 : decode M_Reader_init.2.1 59 = .ok (.putfield 45, 3) := by decide +kernel
theorem e_Reader_init_62 : decode M_Reader_init.2.1 62 = .ok (.aload_n 0, 1) := by decide +kernel
theorem e_Reader_init_63 : decode M_Reader_init.2.1 63 = .ok (.iconst 0, 1) := by decide +kernel
theorem e_Reader_init_64 : decode M_Reader_init.2.1 64 = .ok (.putfield 48, 3) := by decide +kernel
theorem e_Reader_init_67 : decode M_Reader_init.2.1 67 = .ok (.return_, 1) := by decide +kernel
theorem e_Reader_readText_0 : decode M_Reader_readText.2.1 0 = .ok (.aload_n 0, 1) := by decide +kernel
theorem e_Reader_readText_1 : decode M_Reader_readText.2.1 1 = .ok (.aload_n 1, 1) := by decide +kernel
theorem e_Reader_readText_2 : decode M_Reader_readText.2.1 2 = .ok (.putfield 18, 3) := by decide +kernel
theorem e_Reader_readText_5 : decode M_Reader_readText.2.1 5 = .ok (.aload_n 0, 1) := by decide +kernel
theorem e_Reader_readText_6 : decode M_Reader_readText.2.1 6 = .ok (.iload_n 2, 1) := by decide +kernel
theorem e_Reader_readText_7 : decode M_Reader_readText.2.1 7 = .ok (.aload_n 1, 1) := by decide +kernel
theorem e_Reader_readText_8 : decode M_Reader_readText.2.1 8 = .ok (.arraylength, 1) := by decide +kernel
theorem e_Reader_readText_9 : decode M_Reader_readText.2.1 9 = .ok (.invokestatic 51, 3) := by decide +kernel
theorem e_Reader_readText_12 : decode M_Reader_readText.2.1 12 = .ok (.putfield 22, 3) := by decide +kernel
theorem e_Reader_readText_15 : decode M_Reader_readText.2.1 15 = .ok (.aload_n 0, 1) := by decide +kernel
theorem e_Reader_readText_16 : decode M_Reader_readText.2.1 16 = .ok (.iconst 0, 1) := by decide +kernel
theorem e_Reader_readText_17 : decode M_Reader_readText.2.1 17 = .ok (.putfield 25, 3) := by decide +kernel
theorem e_Reader_readText_20 : decode M_Reader_readText.2.1 20 = .ok (.aload_n 0, 1) := by decide +kernel
theorem e_Reader_readText_21 : decode M_Reader_readText.2.1 21 = .ok (.iconst (-1), 1) := by decide +kernel
theorem e_Reader_readText_22 : decode M_Reader_readText.2.1 22 = .ok (.putfield 9, 3) := by decide +kernel
theorem e_Reader_readText_25 : decode M_Reader_readText.2.1 25 = .ok (.aload_n 0, 1) := by decide +kernel
theorem e_Reader_readText_26 : decode M_Reader_readText.2.1 26 = .ok (.iconst 0, 1) := by decide +kernel
theorem e_Reader_readText_27 : decode M_Reader_readText.2.1 27 = .ok (.putfield 15, 3) := by decide +kernel
theorem e_Reader_readText_30 : decode M_Reader_readText.2.1 30 = .ok (.aload_n 0, 1) := by decide +kernel
theorem e_Reader_readText_31 : decode M_Reader_readText.2.1 31 = .ok (.iconst 0, 1) := by decide +kernel
theorem e_Reader_readText_32 : decode M_Reader_readText.2.1 32 = .ok (.putfield 35, 3) := by decide +kernel
theorem e_Reader_readText_35 : decode M_Reader_readText.2.1 35 = .ok (.aload_n 0, 1) := by decide +kernel
theorem e_Reader_readText_36 : decode M_Reader_readText.2.1 36 = .ok (.iconst 0, 1) := by decide +kernel
theorem e_Reader_readText_37 : decode M_Reader_readText.2.1 37 = .ok (.putfield 38, 3) := by decide +kernel
theorem e_Reader_readText_40 : decode M_Reader_readText.2.1 40 = .ok (.aload_n 0, 1) := by decide +kernel
theorem e_Reader_readText_41 : decode M_Reader_readText.2.1 41 = .ok (.iconst 0, 1) := by decide +kernel
theorem e_Reader_readText_42 : decode M_Reader_readText.2.1 42 = .ok (.putfield 42, 3) := by decide +kernel
theorem e_Reader_readText_45 : decode M_Reader_readText.2.1 45 = .ok (.aload_n 0, 1) := by decide +kernel
theorem e_Reader_readText_46 : decode M_Reader_readText.2.1 46 = .ok (.getfield 31, 3) := by decide +kernel
theorem e_Reader_readText_49 : decode M_Reader_readText.2.1 49 = .ok (.invokevirtual 57, 3) := by decide +kernel
theorem e_Reader_readText_52 : decode M_Reader_readText.2.1 52 = .ok (.aload_n 0, 1) := by decide +kernel
theorem e_Reader_readText_53 : decode M_Reader_readText.2.1 53 = .ok (.invokevirtual 60, 3) := by decide +kernel
theorem e_Reader_readText_56 : decode M_Reader_readText.2.1 56 = .ok (.iconst 0, 1) := by decide +kernel
theorem e_Reader_readText_57 : decode M_Reader_readText.2.1 57 = .ok (.istore_n 3, 1) := by decide +kernel
theorem e_Reader_readText_58 : decode M_Reader_readText.2.1 58 = .ok (.iload_n 3, 1) := by decide +kernel
theorem e_Reader_readText_59 : decode M_Reader_readText.2.1 59 = .ok (.aload_n 0, 1) := by decide +kernel
theorem e_Reader_readText_60 : decode M_Reader_readText.2.1 60 = .ok (.getfield 22, 3) := by decide +kernel
theorem e_Reader_readText_63 : decode M_Reader_readText.2.1 63 = .ok (.if_icmp .ge 31, 3) := by decide +kernel
theorem e_Reader_readText_66 : decode M_Reader_readText.2.1 66 = .ok (.aload_n 0, 1) := by decide +kernel
theorem e_Reader_readText_67 : decode M_Reader_readText.2.1 67 = .ok (.getfield 15, 3) := by decide +kernel
theorem e_Reader_readText_70 : decode M_Reader_readText.2.1 70 = .ok (.ifCond .ne 24, 3) := by decide +kernel
theorem e_Reader_readText_73 : decode M_Reader_readText.2.1 73 = .ok (.aload_n 0, 1) := by decide +kernel
theorem e_Reader_readText_74 : decode M_Reader_readText.2.1 74 = .ok (.getfield 45, 3) := by decide +kernel
theorem e_Reader_readText_77 : decode M_Reader_readText.2.1 77 = .ok (.ifCond .eq 17, 3) := by decide +kernel
theorem e_Reader_readText_80 : decode M_Reader_readText.2.1 80 = .ok (.aload_n 0, 1) := by decide +kernel
theorem e_Reader_readText_81 : decode M_Reader_readText.2.1 81 = .ok (.invokevirtual 63, 3) := by decide +kernel
theorem e_Reader_readText_84 : decode M_Reader_readText.2.1 84 = .ok (.aload_n 0, 1) := by decide +kernel
theorem e_Reader_readText_85 : decode M_Reader_readText.2.1 85 = .ok (.invokevirtual 60, 3) := by decide +kernel
theorem e_Reader_readText_88 : decode M_Reader_readText.2.1 88 = .ok (.iinc 3 1, 3) := by decide +kernel
theorem e_Reader_readText_91 : decode M_Reader_readText.2.1 91 = .ok (.goto (-33), 3) := by decide +kernel
theorem e_Reader_readText_94 : decode M_Reader_readText.2.1 94 = .ok (.aload_n 0, 1) := by decide +kernel
theorem e_Reader_readText_95 : decode M_Reader_readText.2.1 95 = .ok (.getfield 15, 3) := by decide +kernel
theorem e_Reader_readText_98 : decode M_Reader_readText.2.1 98 = .ok (.ireturn, 1) := by decide +kernel
theorem e_Reader_nextToken_0 : decode M_Reader_nextToken.2.1 0 = .ok (.aload_n 0, 1) := by decide +kernel
theorem e_Reader_nextToken_1 : decode M_Reader_nextToken.2.1 1 = .ok (.getfield 15, 3) := by decide +kernel
theorem e_Reader_nextToken_4 : decode M_Reader_nextToken.2.1 4 = .ok (.ifCond .eq 4, 3) := by decide +kernel
theorem e_Reader_nextToken_7 : decode M_Reader_nextToken.2.1 7 = .ok (.return_, 1) := by decide +kernel
theorem e_Reader_nextToken_8 : decode M_Reader_nextToken.2.1 8 = .ok (.aload_n 0, 1) := by decide +kernel
theorem e_Reader_nextToken_9 : decode M_Reader_nextToken.2.1 9 = .ok (.getfield 25, 3) := by decide +kernel
theorem e_Reader_nextToken_12 : decode M_Reader_nextToken.2.1 12 = .ok (.aload_n 0, 1) := by decide +kernel
theorem e_Reader_nextToken_13 : decode M_Reader_nextToken.2.1 13 = .ok (.getfield 22, 3) := by decide +kernel
theorem e_Reader_nextToken_16 : decode M_Reader_nextToken.2.1 16 = .ok (.if_icmp .ge 44, 3) := by decide +kernel
theorem e_Reader_nextToken_19 : decode M_Reader_nextToken.2.1 19 = .ok (.aload_n 0, 1) := by decide +kernel
theorem e_Reader_nextToken_20 : decode M_Reader_nextToken.2.1 20 = .ok (.getfield 18, 3) := by decide +kernel
theorem e_Reader_nextToken_23 : decode M_Reader_nextToken.2.1 23 = .ok (.aload_n 0, 1) := by decide +kernel
theorem e_Reader_nextToken_24 : decode M_Reader_nextToken.2.1 24 = .ok (.getfield 25, 3) := by decide +kernel
theorem e_Reader_nextToken_27 : decode M_Reader_nextToken.2.1 27 = .ok (.baload, 1) := by decide +kernel
theorem e_Reader_nextToken_28 : decode M_Reader_nextToken.2.1 28 = .ok (.bipush 32, 2) := by decide +kernel
theorem e_Reader_nextToken_30 : decode M_Reader_nextToken.2.1 30 = .ok (.if_icmp .eq 17, 3) := by decide +kernel
theorem e_Reader_nextToken_33 : decode M_Reader_nextToken.2.1 33 = .ok (.aload_n 0, 1) := by decide +kernel
theorem e_Reader_nextToken_34 : decode M_Reader_nextToken.2.1 34 = .ok (.getfield 18, 3) := by decide +kernel
theorem e_Reader_nextToken_37 : decode M_Reader_nextToken.2.1 37 = .ok (.aload_n 0, 1) := by decide +kernel
theorem e_Reader_nextToken_38 : decode M_Reader_nextToken.2.1 38 = .ok (.getfield 25, 3) := by decide +kernel
theorem e_Reader_nextToken_41 : decode M_Reader_nextToken.2.1 41 = .ok (.baload, 1) := by decide +kernel
theorem e_Reader_nextToken_42 : decode M_Reader_nextToken.2.1 42 = .ok (.bipush 10, 2) := by decide +kernel
theorem e_Reader_nextToken_44 : decode M_Reader_nextToken.2.1 44 = .ok (.if_icmp .ne 16, 3) := by decide +kernel
theorem e_Reader_nextToken_47 : decode M_Reader_nextToken.2.1 47 = .ok (.aload_n 0, 1) := by decide +kernel
theorem e_Reader_nextToken_48 : decode M_Reader_nextToken.2.1 48 = .ok (.dup, 1) := by decide +kernel
theorem e_Reader_nextToken_49 : decode M_Reader_nextToken.2.1 49 = .ok (.getfield 25, 3) := by decide +kernel
theorem e_Reader_nextToken_52 : decode M_Reader_nextToken.2.1 52 = .ok (.iconst 1, 1) := by decide +kernel
theorem e_Reader_nextToken_53 : decode M_Reader_nextToken.2.1 53 = .ok (.iadd, 1) := by decide +kernel
theorem e_Reader_nextToken_54 : decode M_Reader_nextToken.2.1 54 = .ok (.putfield 25, 3) := by decide +kernel
theorem e_Reader_nextToken_57 : decode M_Reader_nextToken.2.1 57 = .ok (.goto (-49), 3) := by decide +kernel
theorem e_Reader_nextToken_60 : decode M_Reader_nextToken.2.1 60 = .ok (.aload_n 0, 1) := by decide +kernel
theorem e_Reader_nextToken_61 : decode M_Reader_nextToken.2.1 61 = .ok (.aload_n 0, 1) := by decide +kernel
theorem e_Reader_nextToken_62 : decode M_Reader_nextToken.2.1 62 = .ok (.getfield 25, 3) := by decide +kernel
theorem e_Reader_nextToken_65 : decode M_Reader_nextToken.2.1 65 = .ok (.putfield 48, 3) := by decide +kernel
theorem e_Reader_nextToken_68 : decode M_Reader_nextToken.2.1 68 = .ok (.aload_n 0, 1) := by decide +kernel
theorem e_Reader_nextToken_69 : decode M_Reader_nextToken.2.1 69 = .ok (.getfield 25, 3) := by decide +kernel
theorem e_Reader_nextToken_72 : decode M_Reader_nextToken.2.1 72 = .ok (.aload_n 0, 1) := by decide +kernel
theorem e_Reader_nextToken_73 : decode M_Reader_nextToken.2.1 73 = .ok (.getfield 22, 3) := by decide +kernel
theorem e_Reader_nextToken_76 : decode M_Reader_nextToken.2.1 76 = .ok (.if_icmp .lt 9, 3) := by decide +kernel
theorem e_Reader_nextToken_79 : decode M_Reader_nextToken.2.1 79 = .ok (.aload_n 0, 1) := by decide +kernel
theorem e_Reader_nextToken_80 : decode M_Reader_nextToken.2.1 80 = .ok (.iconst 0, 1) := by decide +kernel
theorem e_Reader_nextToken_81 : decode M_Reader_nextToken.2.1 81 = .ok (.putfield 45, 3) := by decide +kernel
theorem e_Reader_nextToken_84 : decode M_Reader_nextToken.2.1 84 = .ok (.return_, 1) := by decide +kernel
theorem e_Reader_nextToken_85 : decode M_Reader_nextToken.2.1 85 = .ok (.aload_n 0, 1) := by decide +kernel
theorem e_Reader_nextToken_86 : decode M_Reader_nextToken.2.1 86 = .ok (.getfield 18, 3) := by decide +kernel
theorem e_Reader_nextToken_89 : decode M_Reader_nextToken.2.1 89 = .ok (.aload_n 0, 1) := by decide +kernel
theorem e_Reader_nextToken_90 : decode M_Reader_nextToken.2.1 90 = .ok (.getfield 25, 3) := by decide +kernel
theorem e_Reader_nextToken_93 : decode M_Reader_nextToken.2.1 93 = .ok (.baload, 1) := by decide +kernel
theorem e_Reader_nextToken_94 : decode M_Reader_nextToken.2.1 94 = .ok (.istore_n 1, 1) := by decide +kernel
theorem e_Reader_nextToken_95 : decode M_Reader_nextToken.2.1 95 = .ok (.aload_n 0, 1) := by decide +kernel
theorem e_Reader_nextToken_96 : decode M_Reader_nextToken.2.1 96 = .ok (.dup, 1) := by decide +kernel
theorem e_Reader_nextToken_97 : decode M_Reader_nextToken.2.1 97 = .ok (.getfield 25, 3) := by decide +kernel
theorem e_Reader_nextToken_100 : decode M_Reader_nextToken.2.1 100 = .ok (.iconst 1, 1) := by decide +kernel
theorem e_Reader_nextToken_101 : decode M_Reader_nextToken.2.1 101 = .ok (.iadd, 1) := by decide +kernel
theorem e_Reader_nextToken_102 : decode M_Reader_nextToken.2.1 102 = .ok (.putfield 25, 3) := by decide +kernel
theorem e_Reader_nextToken_105 : decode M_Reader_nextToken.2.1 105 = .ok (.iload_n 1, 1) := by decide +kernel
theorem e_Reader_nextToken_106 : decode M_Reader_nextToken.2.1 106 = .ok (.bipush 97, 2) := by decide +kernel
theorem e_Reader_nextToken_108 : decode M_Reader_nextToken.2.1 108 = .ok (.if_icmp .lt 25, 3) := by decide +kernel
theorem e_Reader_nextToken_111 : decode M_Reader_nextToken.2.1 111 = .ok (.iload_n 1, 1) := by decide +kernel
theorem e_Reader_nextToken_112 : decode M_Reader_nextToken.2.1 112 = .ok (.bipush 122, 2) := by decide +kernel
theorem e_Reader_nextToken_114 : decode M_Reader_nextToken.2.1 114 = .ok (.if_icmp .gt 19, 3) := by decide +kernel
theorem e_Reader_nextToken_117 : decode M_Reader_nextToken.2.1 117 = .ok (.aload_n 0, 1) := by decide +kernel
theorem e_Reader_nextToken_118 : decode M_Reader_nextToken.2.1 118 = .ok (.iconst 1, 1) := by decide +kernel
theorem e_Reader_nextToken_119 : decode M_Reader_nextToken.2.1 119 = .ok (.putfield 45, 3) := by decide +kernel
theorem e_Reader_nextToken_122 : decode M_Reader_nextToken.2.1 122 = .ok (.aload_n 0, 1) := by decide +kernel
theorem e_Reader_nextToken_123 : decode M_Reader_nextToken.2.1 123 = .ok (.bipush 97, 2) := by decide +kernel
theorem e_Reader_nextToken_125 : decode M_Reader_nextToken.2.1 125 = .ok (.bipush 122, 2) := by decide +kernel
theorem e_Reader_nextToken_127 : decode M_Reader_nextToken.2.1 127 = .ok (.invokevirtual 220, 3) := by decide +kernel
theorem e_Reader_nextToken_130 : decode M_Reader_nextToken.2.1 130 = .ok (.goto 46, 3) := by decide +kernel
theorem e_Reader_nextToken_133 : decode M_Reader_nextToken.2.1 133 = .ok (.iload_n 1, 1) := by decide +kernel
theorem e_Reader_nextToken_134 : decode M_Reader_nextToken.2.1 134 = .ok (.bipush 48, 2) := by decide +kernel
theorem e_Reader_nextToken_136 : decode M_Reader_nextToken.2.1 136 = .ok (.if_icmp .lt 25, 3) := by decide +kernel
theorem e_Reader_nextToken_139 : decode M_Reader_nextToken.2.1 139 = .ok (.iload_n 1, 1) := by decide +kernel
theorem e_Reader_nextToken_140 : decode M_Reader_nextToken.2.1 140 = .ok (.bipush 57, 2) := by decide +kernel
theorem e_Reader_nextToken_142 : decode M_Reader_nextToken.2.1 142 = .ok (.if_icmp .gt 19, 3) := by decide +kernel
theorem e_Reader_nextToken_145 : decode M_Reader_nextToken.2.1 145 = .ok (.aload_n 0, 1) := by decide +kernel
theorem e_Reader_nextToken_146 : decode M_Reader_nextToken.2.1 146 = .ok (.iconst 2, 1) := by decide +kernel
theorem e_Reader_nextToken_147 : decode M_Reader_nextToken.2.1 147 = .ok (.putfield 45, 3) := by decide +kernel
theorem e_Reader_nextToken_150 : decode M_Reader_nextToken.2.1 150 = .ok (.aload_n 0, 1) := by decide +kernel
theorem e_Reader_nextToken_151 : decode M_Reader_nextToken.2.1 151 = .ok (.bipush 48, 2) := by decide +kernel
theorem e_Reader_nextToken_153 : decode M_Reader_nextToken.2.1 153 = .ok (.bipush 57, 2) := by decide +kernel
theorem e_Reader_nextToken_155 : decode M_Reader_nextToken.2.1 155 = .ok (.invokevirtual 220, 3) := by decide +kernel
theorem e_Reader_nextToken_158 : decode M_Reader_nextToken.2.1 158 = .ok (.goto 18, 3) := by decide +kernel
theorem e_Reader_nextToken_161 : decode M_Reader_nextToken.2.1 161 = .ok (.aload_n 0, 1) := by decide +kernel
theorem e_Reader_nextToken_162 : decode M_Reader_nextToken.2.1 162 = .ok (.iload_n 1, 1) := by decide +kernel
theorem e_Reader_nextToken_163 : decode M_Reader_nextToken.2.1 163 = .ok (.bipush 59, 2) := by decide +kernel
theorem e_Reader_nextToken_165 : decode M_Reader_nextToken.2.1 165 = .ok (.if_icmp .ne 7, 3) := by decide +kernel
theorem e_Reader_nextToken_168 : decode M_Reader_nextToken.2.1 168 = .ok (.iconst 3, 1) := by decide +kernel
theorem e_Reader_nextToken_169 : decode M_Reader_nextToken.2.1 169 = .ok (.goto 4, 3) := by decide +kernel
theorem e_Reader_nextToken_172 : decode M_Reader_nextToken.2.1 172 = .ok (.iconst 4, 1) := by decide +kernel
theorem e_Reader_nextToken_173 : decode M_Reader_nextToken.2.1 173 = .ok (.putfield 45, 3) := by decide +kernel
theorem e_Reader_nextToken_176 : decode M_Reader_nextToken.2.1 176 = .ok (.return_, 1) := by decide +kernel
theorem e_Reader_takeRow_0 : decode M_Reader_takeRow.2.1 0 = .ok (.aload_n 0, 1) := by decide +kernel
theorem e_Reader_takeRow_1 : decode M_Reader_takeRow.2.1 1 = .ok (.getfield 25, 3) := by decide +kernel
theorem e_Reader_takeRow_4 : decode M_Reader_takeRow.2.1 4 = .ok (.aload_n 0, 1) := by decide +kernel
theorem e_Reader_takeRow_5 : decode M_Reader_takeRow.2.1 5 = .ok (.getfield 22, 3) := by decide +kernel
theorem e_Reader_takeRow_8 : decode M_Reader_takeRow.2.1 8 = .ok (.if_icmp .ge 42, 3) := by decide +kernel
theorem e_Reader_takeRow_11 : decode M_Reader_takeRow.2.1 11 = .ok (.aload_n 0, 1) := by decide +kernel
theorem e_Reader_takeRow_12 : decode M_Reader_takeRow.2.1 12 = .ok (.getfield 18, 3) := by decide +kernel
theorem e_Reader_takeRow_15 : decode M_Reader_takeRow.2.1 15 = .ok (.aload_n 0, 1) := by decide +kernel
theorem e_Reader_takeRow_16 : decode M_Reader_takeRow.2.1 16 = .ok (.getfield 25, 3) := by decide +kernel
theorem e_Reader_takeRow_19 : decode M_Reader_takeRow.2.1 19 = .ok (.baload, 1) := by decide +kernel
theorem e_Reader_takeRow_20 : decode M_Reader_takeRow.2.1 20 = .ok (.iload_n 1, 1) := by decide +kernel
theorem e_Reader_takeRow_21 : decode M_Reader_takeRow.2.1 21 = .ok (.if_icmp .lt 29, 3) := by decide +kernel
theorem e_Reader_takeRow_24 : decode M_Reader_takeRow.2.1 24 = .ok (.aload_n 0, 1) := by decide +kernel
theorem e_Reader_takeRow_25 : decode M_Reader_takeRow.2.1 25 = .ok (.getfield 18, 3) := by decide +kernel
theorem e_Reader_takeRow_28 : decode M_Reader_takeRow.2.1 28 = .ok (.aload_n 0, 1) := by decide +kernel
theorem e_Reader_takeRow_29 : decode M_Reader_takeRow.2.1 29 = .ok (.getfield 25, 3) := by decide +kernel
theorem e_Reader_takeRow_32 : decode M_Reader_takeRow.2.1 32 = .ok (.baload, 1) := by decide +kernel
theorem e_Reader_takeRow_33 : decode M_Reader_takeRow.2.1 33 = .ok (.iload_n 2, 1) := by decide +kernel
theorem e_Reader_takeRow_34 : decode M_Reader_takeRow.2.1 34 = .ok (.if_icmp .gt 16, 3) := by decide +kernel
theorem e_Reader_takeRow_37 : decode M_Reader_takeRow.2.1 37 = .ok (.aload_n 0, 1) := by decide +kernel
theorem e_Reader_takeRow_38 : decode M_Reader_takeRow.2.1 38 = .ok (.dup, 1) := by decide +kernel
theorem e_Reader_takeRow_39 : decode M_Reader_takeRow.2.1 39 = .ok (.getfield 25, 3) := by decide +kernel
theorem e_Reader_takeRow_42 : decode M_Reader_takeRow.2.1 42 = .ok (.iconst 1, 1) := by decide +kernel
theorem e_Reader_takeRow_43 : decode M_Reader_takeRow.2.1 43 = .ok (.iadd, 1) := by decide +kernel
theorem e_Reader_takeRow_44 : decode M_Reader_takeRow.2.1 44 = .ok (.putfield 25, 3) := by decide +kernel
theorem e_Reader_takeRow_47 : decode M_Reader_takeRow.2.1 47 = .ok (.goto (-47), 3) := by decide +kernel
theorem e_Reader_takeRow_50 : decode M_Reader_takeRow.2.1 50 = .ok (.return_, 1) := by decide +kernel
theorem e_Reader_readClause_0 : decode M_Reader_readClause.2.1 0 = .ok (.aload_n 0, 1) := by decide +kernel
theorem e_Reader_readClause_1 : decode M_Reader_readClause.2.1 1 = .ok (.ldc 66, 2) := by decide +kernel
theorem e_Reader_readClause_3 : decode M_Reader_readClause.2.1 3 = .ok (.invokevirtual 68, 3) := by decide +kernel
theorem e_Reader_readClause_6 : decode M_Reader_readClause.2.1 6 = .ok (.ifCond .eq 10, 3) := by decide +kernel
theorem e_Reader_readClause_9 : decode M_Reader_readClause.2.1 9 = .ok (.aload_n 0, 1) := by decide +kernel
theorem e_Reader_readClause_10 : decode M_Reader_readClause.2.1 10 = .ok (.invokevirtual 72, 3) := by decide +kernel
theorem e_Reader_readClause_13 : decode M_Reader_readClause.2.1 13 = .ok (.goto 88, 3) := by decide +kernel
theorem e_Reader_readClause_16 : decode M_Reader_readClause.2.1 16 = .ok (.aload_n 0, 1) := by decide +kernel
theorem e_Reader_readClause_17 : decode M_Reader_readClause.2.1 17 = .ok (.ldc 75, 2) := by decide +kernel
theorem e_Reader_readClause_19 : decode M_Reader_readClause.2.1 19 = .ok (.invokevirtual 68, 3) := by decide +kernel
theorem e_Reader_readClause_22 : decode M_Reader_readClause.2.1 22 = .ok (.ifCond .eq 10, 3) := by decide +kernel
theorem e_Reader_readClause_25 : decode M_Reader_readClause.2.1 25 = .ok (.aload_n 0, 1) := by decide +kernel
theorem e_Reader_readClause_26 : decode M_Reader_readClause.2.1 26 = .ok (.invokevirtual 77, 3) := by decide +kernel
theorem e_Reader_readClause_29 : decode M_Reader_readClause.2.1 29 = .ok (.goto 72, 3) := by decide +kernel
theorem e_Reader_readClause_32 : decode M_Reader_readClause.2.1 32 = .ok (.aload_n 0, 1) := by decide +kernel
theorem e_Reader_readClause_33 : decode M_Reader_readClause.2.1 33 = .ok (.ldc 80, 2) := by decide +kernel
theorem e_Reader_readClause_35 : decode M_Reader_readClause.2.1 35 = .ok (.invokevirtual 68, 3) := by decide +kernel
theorem e_Reader_readClause_38 : decode M_Reader_readClause.2.1 38 = .ok (.ifCond .eq 10, 3) := by decide +kernel
theorem e_Reader_readClause_41 : decode M_Reader_readClause.2.1 41 = .ok (.aload_n 0, 1) := by decide +kernel
theorem e_Reader_readClause_42 : decode M_Reader_readClause.2.1 42 = .ok (.invokevirtual 82, 3) := by decide +kernel
theorem e_Reader_readClause_45 : decode M_Reader_readClause.2.1 45 = .ok (.goto 56, 3) := by decide +kernel
theorem e_Reader_readClause_48 : decode M_Reader_readClause.2.1 48 = .ok (.aload_n 0, 1) := by decide +kernel
theorem e_Reader_readClause_49 : decode M_Reader_readClause.2.1 49 = .ok (.ldc 85, 2) := by decide +kernel
theorem e_Reader_readClause_51 : decode M_Reader_readClause.2.1 51 = .ok (.invokevirtual 68, 3) := by decide +kernel
theorem e_Reader_readClause_54 : decode M_Reader_readClause.2.1 54 = .ok (.ifCond .eq 10, 3) := by decide +kernel
theorem e_Reader_readClause_57 : decode M_Reader_readClause.2.1 57 = .ok (.aload_n 0, 1) := by decide +kernel
theorem e_Reader_readClause_58 : decode M_Reader_readClause.2.1 58 = .ok (.invokevirtual 87, 3) := by decide +kernel
theorem e_Reader_readClause_61 : decode M_Reader_readClause.2.1 61 = .ok (.goto 40, 3) := by decide +kernel
theorem e_Reader_readClause_64 : decode M_Reader_readClause.2.1 64 = .ok (.aload_n 0, 1) := by decide +kernel
theorem e_Reader_readClause_65 : decode M_Reader_readClause.2.1 65 = .ok (.ldc 90, 2) := by decide +kernel
theorem e_Reader_readClause_67 : decode M_Reader_readClause.2.1 67 = .ok (.invokevirtual 68, 3) := by decide +kernel
theorem e_Reader_readClause_70 : decode M_Reader_readClause.2.1 70 = .ok (.ifCond .eq 10, 3) := by decide +kernel
theorem e_Reader_readClause_73 : decode M_Reader_readClause.2.1 73 = .ok (.aload_n 0, 1) := by decide +kernel
theorem e_Reader_readClause_74 : decode M_Reader_readClause.2.1 74 = .ok (.invokevirtual 92, 3) := by decide +kernel
theorem e_Reader_readClause_77 : decode M_Reader_readClause.2.1 77 = .ok (.goto 24, 3) := by decide +kernel
theorem e_Reader_readClause_80 : decode M_Reader_readClause.2.1 80 = .ok (.aload_n 0, 1) := by decide +kernel
theorem e_Reader_readClause_81 : decode M_Reader_readClause.2.1 81 = .ok (.ldc 95, 2) := by decide +kernel
theorem e_Reader_readClause_83 : decode M_Reader_readClause.2.1 83 = .ok (.invokevirtual 68, 3) := by decide +kernel
theorem e_Reader_readClause_86 : decode M_Reader_readClause.2.1 86 = .ok (.ifCond .eq 10, 3) := by decide +kernel
theorem e_Reader_readClause_89 : decode M_Reader_readClause.2.1 89 = .ok (.aload_n 0, 1) := by decide +kernel
theorem e_Reader_readClause_90 : decode M_Reader_readClause.2.1 90 = .ok (.invokevirtual 97, 3) := by decide +kernel
theorem e_Reader_readClause_93 : decode M_Reader_readClause.2.1 93 = .ok (.goto 8, 3) := by decide +kernel
theorem e_Reader_readClause_96 : decode M_Reader_readClause.2.1 96 = .ok (.aload_n 0, 1) := by decide +kernel
theorem e_Reader_readClause_97 : decode M_Reader_readClause.2.1 97 = .ok (.iconst 1, 1) := by decide +kernel
theorem e_Reader_readClause_98 : decode M_Reader_readClause.2.1 98 = .ok (.invokevirtual 100, 3) := by decide +kernel
theorem e_Reader_readClause_101 : decode M_Reader_readClause.2.1 101 = .ok (.aload_n 0, 1) := by decide +kernel
theorem e_Reader_readClause_102 : decode M_Reader_readClause.2.1 102 = .ok (.invokevirtual 60, 3) := by decide +kernel
theorem e_Reader_readClause_105 : decode M_Reader_readClause.2.1 105 = .ok (.aload_n 0, 1) := by decide +kernel
theorem e_Reader_readClause_106 : decode M_Reader_readClause.2.1 106 = .ok (.getfield 45, 3) := by decide +kernel
theorem e_Reader_readClause_109 : decode M_Reader_readClause.2.1 109 = .ok (.iconst 3, 1) := by decide +kernel
theorem e_Reader_readClause_110 : decode M_Reader_readClause.2.1 110 = .ok (.if_icmp .eq 8, 3) := by decide +kernel
theorem e_Reader_readClause_113 : decode M_Reader_readClause.2.1 113 = .ok (.aload_n 0, 1) := by decide +kernel
theorem e_Reader_readClause_114 : decode M_Reader_readClause.2.1 114 = .ok (.iconst 1, 1) := by decide +kernel
theorem e_Reader_readClause_115 : decode M_Reader_readClause.2.1 115 = .ok (.invokevirtual 100, 3) := by decide +kernel
theorem e_Reader_readClause_118 : decode M_Reader_readClause.2.1 118 = .ok (.aload_n 0, 1) := by decide +kernel
theorem e_Reader_readClause_119 : decode M_Reader_readClause.2.1 119 = .ok (.dup, 1) := by decide +kernel
theorem e_Reader_readClause_120 : decode M_Reader_readClause.2.1 120 = .ok (.getfield 35, 3) := by decide +kernel
theorem e_Reader_readClause_123 : decode M_Reader_readClause.2.1 123 = .ok (.iconst 1, 1) := by decide +kernel
theorem e_Reader_readClause_124 : decode M_Reader_readClause.2.1 124 = .ok (.iadd, 1) := by decide +kernel
theorem e_Reader_readClause_125 : decode M_Reader_readClause.2.1 125 = .ok (.putfield 35, 3) := by decide +kernel
theorem e_Reader_readClause_128 : decode M_Reader_readClause.2.1 128 = .ok (.return_, 1) := by decide +kernel
theorem e_Reader_isWord_0 : decode M_Reader_isWord.2.1 0 = .ok (.aload_n 0, 1) := by decide +kernel
theorem e_Reader_isWord_1 : decode M_Reader_isWord.2.1 1 = .ok (.getfield 45, 3) := by decide +kernel
theorem e_Reader_isWord_4 : decode M_Reader_isWord.2.1 4 = .ok (.iconst 1, 1) := by decide +kernel
theorem e_Reader_isWord_5 : decode M_Reader_isWord.2.1 5 = .ok (.if_icmp .ne 19, 3) := by decide +kernel
theorem e_Reader_isWord_8 : decode M_Reader_isWord.2.1 8 = .ok (.aload_n 0, 1) := by decide +kernel
theorem e_Reader_isWord_9 : decode M_Reader_isWord.2.1 9 = .ok (.getfield 25, 3) := by decide +kernel
theorem e_Reader_isWord_12 : decode M_Reader_isWord.2.1 12 = .ok (.aload_n 0, 1) := by decide +kernel
theorem e_Reader_isWord_13 : decode M_Reader_isWord.2.1 13 = .ok (.getfield 48, 3) := by decide +kernel
theorem e_Reader_isWord_16 : decode M_Reader_isWord.2.1 16 = .ok (.isub, 1) := by decide +kernel
theorem e_Reader_isWord_17 : decode M_Reader_isWord.2.1 17 = .ok (.aload_n 1, 1) := by decide +kernel
theorem e_Reader_isWord_18 : decode M_Reader_isWord.2.1 18 = .ok (.invokevirtual 224, 3) := by decide +kernel
theorem e_Reader_isWord_21 : decode M_Reader_isWord.2.1 21 = .ok (.if_icmp .eq 5, 3) := by decide +kernel
theorem e_Reader_isWord_24 : decode M_Reader_isWord.2.1 24 = .ok (.iconst 0, 1) := by decide +kernel
theorem e_Reader_isWord_25 : decode M_Reader_isWord.2.1 25 = .ok (.ireturn, 1) := by decide +kernel
theorem e_Reader_isWord_26 : decode M_Reader_isWord.2.1 26 = .ok (.iconst 0, 1) := by decide +kernel
theorem e_Reader_isWord_27 : decode M_Reader_isWord.2.1 27 = .ok (.istore_n 2, 1) := by decide +kernel
theorem e_Reader_isWord_28 : decode M_Reader_isWord.2.1 28 = .ok (.iload_n 2, 1) := by decide +kernel
theorem e_Reader_isWord_29 : decode M_Reader_isWord.2.1 29 = .ok (.aload_n 1, 1) := by decide +kernel
theorem e_Reader_isWord_30 : decode M_Reader_isWord.2.1 30 = .ok (.invokevirtual 224, 3) := by decide +kernel
theorem e_Reader_isWord_33 : decode M_Reader_isWord.2.1 33 = .ok (.if_icmp .ge 30, 3) := by decide +kernel
theorem e_Reader_isWord_36 : decode M_Reader_isWord.2.1 36 = .ok (.aload_n 0, 1) := by decide +kernel
theorem e_Reader_isWord_37 : decode M_Reader_isWord.2.1 37 = .ok (.getfield 18, 3) := by decide +kernel
theorem e_Reader_isWord_40 : decode M_Reader_isWord.2.1 40 = .ok (.aload_n 0, 1) := by decide +kernel
theorem e_Reader_isWord_41 : decode M_Reader_isWord.2.1 41 = .ok (.getfield 48, 3) := by decide +kernel
theorem e_Reader_isWord_44 : decode M_Reader_isWord.2.1 44 = .ok (.iload_n 2, 1) := by decide +kernel
theorem e_Reader_isWord_45 : decode M_Reader_isWord.2.1 45 = .ok (.iadd, 1) := by decide +kernel
theorem e_Reader_isWord_46 : decode M_Reader_isWord.2.1 46 = .ok (.baload, 1) := by decide +kernel
theorem e_Reader_isWord_47 : decode M_Reader_isWord.2.1 47 = .ok (.aload_n 1, 1) := by decide +kernel
theorem e_Reader_isWord_48 : decode M_Reader_isWord.2.1 48 = .ok (.iload_n 2, 1) := by decide +kernel
theorem e_Reader_isWord_49 : decode M_Reader_isWord.2.1 49 = .ok (.invokevirtual 228, 3) := by decide +kernel
theorem e_Reader_isWord_52 : decode M_Reader_isWord.2.1 52 = .ok (.if_icmp .eq 5, 3) := by decide +kernel
theorem e_Reader_isWord_55 : decode M_Reader_isWord.2.1 55 = .ok (.iconst 0, 1) := by decide +kernel
theorem e_Reader_isWord_56 : decode M_Reader_isWord.2.1 56 = .ok (.ireturn, 1) := by decide +kernel
theorem e_Reader_isWord_57 : decode M_Reader_isWord.2.1 57 = .ok (.iinc 2 1, 3) := by decide +kernel
theorem e_Reader_isWord_60 : decode M_Reader_isWord.2.1 60 = .ok (.goto (-32), 3) := by decide +kernel
theorem e_Reader_isWord_63 : decode M_Reader_isWord.2.1 63 = .ok (.iconst 1, 1) := by decide +kernel
theorem e_Reader_isWord_64 : decode M_Reader_isWord.2.1 64 = .ok (.ireturn, 1) := by decide +kernel
theorem e_Reader_readDevices_0 : decode M_Reader_readDevices.2.1 0 = .ok (.aload_n 0, 1) := by decide +kernel
theorem e_Reader_readDevices_1 : decode M_Reader_readDevices.2.1 1 = .ok (.getfield 35, 3) := by decide +kernel
theorem e_Reader_readDevices_4 : decode M_Reader_readDevices.2.1 4 = .ok (.ifCond .le 8, 3) := by decide +kernel
theorem e_Reader_readDevices_7 : decode M_Reader_readDevices.2.1 7 = .ok (.aload_n 0, 1) := by decide +kernel
theorem e_Reader_readDevices_8 : decode M_Reader_readDevices.2.1 8 = .ok (.iconst 4, 1) := by decide +kernel
theorem e_Reader_readDevices_9 : decode M_Reader_readDevices.2.1 9 = .ok (.invokevirtual 100, 3) := by decide +kernel
theorem e_Reader_readDevices_12 : decode M_Reader_readDevices.2.1 12 = .ok (.aload_n 0, 1) := by decide +kernel
theorem e_Reader_readDevices_13 : decode M_Reader_readDevices.2.1 13 = .ok (.getfield 31, 3) := by decide +kernel
theorem e_Reader_readDevices_16 : decode M_Reader_readDevices.2.1 16 = .ok (.aload_n 0, 1) := by decide +kernel
theorem e_Reader_readDevices_17 : decode M_Reader_readDevices.2.1 17 = .ok (.iconst 1, 1) := by decide +kernel
theorem e_Reader_readDevices_18 : decode M_Reader_readDevices.2.1 18 = .ok (.iconst 5, 1) := by decide +kernel
theorem e_Reader_readDevices_19 : decode M_Reader_readDevices.2.1 19 = .ok (.invokevirtual 104, 3) := by decide +kernel
theorem e_Reader_readDevices_22 : decode M_Reader_readDevices.2.1 22 = .ok (.putfield 107, 3) := by decide +kernel
theorem e_Reader_readDevices_25 : decode M_Reader_readDevices.2.1 25 = .ok (.return_, 1) := by decide +kernel
theorem e_Reader_fail_0 : decode M_Reader_fail.2.1 0 = .ok (.aload_n 0, 1) := by decide +kernel
theorem e_Reader_fail_1 : decode M_Reader_fail.2.1 1 = .ok (.getfield 15, 3) := by decide +kernel
theorem e_Reader_fail_4 : decode M_Reader_fail.2.1 4 = .ok (.ifCond .ne 16, 3) := by decide +kernel
theorem e_Reader_fail_7 : decode M_Reader_fail.2.1 7 = .ok (.aload_n 0, 1) := by decide +kernel
theorem e_Reader_fail_8 : decode M_Reader_fail.2.1 8 = .ok (.iload_n 1, 1) := by decide +kernel
theorem e_Reader_fail_9 : decode M_Reader_fail.2.1 9 = .ok (.putfield 15, 3) := by decide +kernel
theorem e_Reader_fail_12 : decode M_Reader_fail.2.1 12 = .ok (.aload_n 0, 1) := by decide +kernel
theorem e_Reader_fail_13 : decode M_Reader_fail.2.1 13 = .ok (.aload_n 0, 1) := by decide +kernel
theorem e_Reader_fail_14 : decode M_Reader_fail.2.1 14 = .ok (.getfield 48, 3) := by decide +kernel
theorem e_Reader_fail_17 : decode M_Reader_fail.2.1 17 = .ok (.putfield 9, 3) := by decide +kernel
theorem e_Reader_fail_20 : decode M_Reader_fail.2.1 20 = .ok (.return_, 1) := by decide +kernel
theorem e_Reader_readNumber_0 : decode M_Reader_readNumber.2.1 0 = .ok (.aload_n 0, 1) := by decide +kernel
theorem e_Reader_readNumber_1 : decode M_Reader_readNumber.2.1 1 = .ok (.invokevirtual 60, 3) := by decide +kernel
theorem e_Reader_readNumber_4 : decode M_Reader_readNumber.2.1 4 = .ok (.aload_n 0, 1) := by decide +kernel
theorem e_Reader_readNumber_5 : decode M_Reader_readNumber.2.1 5 = .ok (.getfield 45, 3) := by decide +kernel
theorem e_Reader_readNumber_8 : decode M_Reader_readNumber.2.1 8 = .ok (.iconst 2, 1) := by decide +kernel
theorem e_Reader_readNumber_9 : decode M_Reader_readNumber.2.1 9 = .ok (.if_icmp .eq 10, 3) := by decide +kernel
theorem e_Reader_readNumber_12 : decode M_Reader_readNumber.2.1 12 = .ok (.aload_n 0, 1) := by decide +kernel
theorem e_Reader_readNumber_13 : decode M_Reader_readNumber.2.1 13 = .ok (.iconst 1, 1) := by decide +kernel
theorem e_Reader_readNumber_14 : decode M_Reader_readNumber.2.1 14 = .ok (.invokevirtual 100, 3) := by decide +kernel
theorem e_Reader_readNumber_17 : decode M_Reader_readNumber.2.1 17 = .ok (.iload_n 1, 1) := by decide +kernel
theorem e_Reader_readNumber_18 : decode M_Reader_readNumber.2.1 18 = .ok (.ireturn, 1) := by decide +kernel
theorem e_Reader_readNumber_19 : decode M_Reader_readNumber.2.1 19 = .ok (.aload_n 0, 1) := by decide +kernel
theorem e_Reader_readNumber_20 : decode M_Reader_readNumber.2.1 20 = .ok (.invokevirtual 217, 3) := by decide +kernel
theorem e_Reader_readNumber_23 : decode M_Reader_readNumber.2.1 23 = .ok (.istore_n 3, 1) := by decide +kernel
theorem e_Reader_readNumber_24 : decode M_Reader_readNumber.2.1 24 = .ok (.iload_n 3, 1) := by decide +kernel
theorem e_Reader_readNumber_25 : decode M_Reader_readNumber.2.1 25 = .ok (.iload_n 1, 1) := by decide +kernel
theorem e_Reader_readNumber_26 : decode M_Reader_readNumber.2.1 26 = .ok (.if_icmp .lt 8, 3) := by decide +kernel
theorem e_Reader_readNumber_29 : decode M_Reader_readNumber.2.1 29 = .ok (.iload_n 3, 1) := by decide +kernel
theorem e_Reader_readNumber_30 : decode M_Reader_readNumber.2.1 30 = .ok (.iload_n 2, 1) := by decide +kernel
theorem e_Reader_readNumber_31 : decode M_Reader_readNumber.2.1 31 = .ok (.if_icmp .le 8, 3) := by decide +kernel
theorem e_Reader_readNumber_34 : decode M_Reader_readNumber.2.1 34 = .ok (.aload_n 0, 1) := by decide +kernel
theorem e_Reader_readNumber_35 : decode M_Reader_readNumber.2.1 35 = .ok (.iconst 2, 1) := by decide +kernel
theorem e_Reader_readNumber_36 : decode M_Reader_readNumber.2.1 36 = .ok (.invokevirtual 100, 3) := by decide +kernel
theorem e_Reader_readNumber_39 : decode M_Reader_readNumber.2.1 39 = .ok (.aload_n 0, 1) := by decide +kernel
theorem e_Reader_readNumber_40 : decode M_Reader_readNumber.2.1 40 = .ok (.getfield 15, 3) := by decide +kernel
theorem e_Reader_readNumber_43 : decode M_Reader_readNumber.2.1 43 = .ok (.ifCond .ne 7, 3) := by decide +kernel
theorem e_Reader_readNumber_46 : decode M_Reader_readNumber.2.1 46 = .ok (.iload_n 3, 1) := by decide +kernel
theorem e_Reader_readNumber_47 : decode M_Reader_readNumber.2.1 47 = .ok (.goto 4, 3) := by decide +kernel
theorem e_Reader_readNumber_50 : decode M_Reader_readNumber.2.1 50 = .ok (.iload_n 1, 1) := by decide +kernel
theorem e_Reader_readNumber_51 : decode M_Reader_readNumber.2.1 51 = .ok (.ireturn, 1) := by decide +kernel
theorem e_Reader_numberOfToken_0 : decode M_Reader_numberOfToken.2.1 0 = .ok (.aload_n 0, 1) := by decide +kernel
theorem e_Reader_numberOfToken_1 : decode M_Reader_numberOfToken.2.1 1 = .ok (.getfield 25, 3) := by decide +kernel
theorem e_Reader_numberOfToken_4 : decode M_Reader_numberOfToken.2.1 4 = .ok (.aload_n 0, 1) := by decide +kernel
theorem e_Reader_numberOfToken_5 : decode M_Reader_numberOfToken.2.1 5 = .ok (.getfield 48, 3) := by decide +kernel
theorem e_Reader_numberOfToken_8 : decode M_Reader_numberOfToken.2.1 8 = .ok (.isub, 1) := by decide +kernel
theorem e_Reader_numberOfToken_9 : decode M_Reader_numberOfToken.2.1 9 = .ok (.iconst 4, 1) := by decide +kernel
theorem e_Reader_numberOfToken_10 : decode M_Reader_numberOfToken.2.1 10 = .ok (.if_icmp .le 5, 3) := by decide +kernel
theorem e_Reader_numberOfToken_13 : decode M_Reader_numberOfToken.2.1 13 = .ok (.iconst (-1), 1) := by decide +kernel
theorem e_Reader_numberOfToken_14 : decode M_Reader_numberOfToken.2.1 14 = .ok (.ireturn, 1) := by decide +kernel
theorem e_Reader_numberOfToken_15 : decode M_Reader_numberOfToken.2.1 15 = .ok (.iconst 0, 1) := by decide +kernel
theorem e_Reader_numberOfToken_16 : decode M_Reader_numberOfToken.2.1 16 = .ok (.istore_n 1, 1) := by decide +kernel
theorem e_Reader_numberOfToken_17 : decode M_Reader_numberOfToken.2.1 17 = .ok (.aload_n 0, 1) := by decide +kernel
theorem e_Reader_numberOfToken_18 : decode M_Reader_numberOfToken.2.1 18 = .ok (.getfield 48, 3) := by decide +kernel
theorem e_Reader_numberOfToken_21 : decode M_Reader_numberOfToken.2.1 21 = .ok (.istore_n 2, 1) := by decide +kernel
theorem e_Reader_numberOfToken_22 : decode M_Reader_numberOfToken.2.1 22 = .ok (.iload_n 2, 1) := by decide +kernel
theorem e_Reader_numberOfToken_23 : decode M_Reader_numberOfToken.2.1 23 = .ok (.aload_n 0, 1) := by decide +kernel
theorem e_Reader_numberOfToken_24 : decode M_Reader_numberOfToken.2.1 24 = .ok (.getfield 25, 3) := by decide +kernel
theorem e_Reader_numberOfToken_27 : decode M_Reader_numberOfToken.2.1 27 = .ok (.if_icmp .ge 24, 3) := by decide +kernel
theorem e_Reader_numberOfToken_30 : decode M_Reader_numberOfToken.2.1 30 = .ok (.iload_n 1, 1) := by decide +kernel
theorem e_Reader_numberOfToken_31 : decode M_Reader_numberOfToken.2.1 31 = .ok (.bipush 10, 2) := by decide +kernel
theorem e_Reader_numberOfToken_33 : decode M_Reader_numberOfToken.2.1 33 = .ok (.imul, 1) := by decide +kernel
theorem e_Reader_numberOfToken_34 : decode M_Reader_numberOfToken.2.1 34 = .ok (.aload_n 0, 1) := by decide +kernel
theorem e_Reader_numberOfToken_35 : decode M_Reader_numberOfToken.2.1 35 = .ok (.getfield 18, 3) := by decide +kernel
theorem e_Reader_numberOfToken_38 : decode M_Reader_numberOfToken.2.1 38 = .ok (.iload_n 2, 1) := by decide +kernel
theorem e_Reader_numberOfToken_39 : decode M_Reader_numberOfToken.2.1 39 = .ok (.baload, 1) := by decide +kernel
theorem e_Reader_numberOfToken_40 : decode M_Reader_numberOfToken.2.1 40 = .ok (.iadd, 1) := by decide +kernel
theorem e_Reader_numberOfToken_41 : decode M_Reader_numberOfToken.2.1 41 = .ok (.bipush 48, 2) := by decide +kernel
theorem e_Reader_numberOfToken_43 : decode M_Reader_numberOfToken.2.1 43 = .ok (.isub, 1) := by decide +kernel
theorem e_Reader_numberOfToken_44 : decode M_Reader_numberOfToken.2.1 44 = .ok (.istore_n 1, 1) := by decide +kernel
theorem e_Reader_numberOfToken_45 : decode M_Reader_numberOfToken.2.1 45 = .ok (.iinc 2 1, 3) := by decide +kernel
theorem e_Reader_numberOfToken_48 : decode M_Reader_numberOfToken.2.1 48 = .ok (.goto (-26), 3) := by decide +kernel
theorem e_Reader_numberOfToken_51 : decode M_Reader_numberOfToken.2.1 51 = .ok (.iload_n 1, 1) := by decide +kernel
theorem e_Reader_numberOfToken_52 : decode M_Reader_numberOfToken.2.1 52 = .ok (.ireturn, 1) := by decide +kernel
theorem e_Reader_readBlock_0 : decode M_Reader_readBlock.2.1 0 = .ok (.aload_n 0, 1) := by decide +kernel
theorem e_Reader_readBlock_1 : decode M_Reader_readBlock.2.1 1 = .ok (.getfield 31, 3) := by decide +kernel
theorem e_Reader_readBlock_4 : decode M_Reader_readBlock.2.1 4 = .ok (.getfield 129, 3) := by decide +kernel
theorem e_Reader_readBlock_7 : decode M_Reader_readBlock.2.1 7 = .ok (.bipush 10, 2) := by decide +kernel
theorem e_Reader_readBlock_9 : decode M_Reader_readBlock.2.1 9 = .ok (.if_icmp .lt 8, 3) := by decide +kernel
theorem e_Reader_readBlock_12 : decode M_Reader_readBlock.2.1 12 = .ok (.aload_n 0, 1) := by decide +kernel
theorem e_Reader_readBlock_13 : decode M_Reader_readBlock.2.1 13 = .ok (.iconst 2, 1) := by decide +kernel
theorem e_Reader_readBlock_14 : decode M_Reader_readBlock.2.1 14 = .ok (.invokevirtual 100, 3) := by decide +kernel
theorem e_Reader_readBlock_17 : decode M_Reader_readBlock.2.1 17 = .ok (.aload_n 0, 1) := by decide +kernel
theorem e_Reader_readBlock_18 : decode M_Reader_readBlock.2.1 18 = .ok (.iconst 0, 1) := by decide +kernel
theorem e_Reader_readBlock_19 : decode M_Reader_readBlock.2.1 19 = .ok (.iconst 4, 1) := by decide +kernel
theorem e_Reader_readBlock_20 : decode M_Reader_readBlock.2.1 20 = .ok (.invokevirtual 104, 3) := by decide +kernel
theorem e_Reader_readBlock_23 : decode M_Reader_readBlock.2.1 23 = .ok (.istore_n 1, 1) := by decide +kernel
theorem e_Reader_readBlock_24 : decode M_Reader_readBlock.2.1 24 = .ok (.iload_n 1, 1) := by decide +kernel
theorem e_Reader_readBlock_25 : decode M_Reader_readBlock.2.1 25 = .ok (.aload_n 0, 1) := by decide +kernel
theorem e_Reader_readBlock_26 : decode M_Reader_readBlock.2.1 26 = .ok (.getfield 31, 3) := by decide +kernel
theorem e_Reader_readBlock_29 : decode M_Reader_readBlock.2.1 29 = .ok (.getfield 107, 3) := by decide +kernel
theorem e_Reader_readBlock_32 : decode M_Reader_readBlock.2.1 32 = .ok (.if_icmp .lt 8, 3) := by decide +kernel
theorem e_Reader_readBlock_35 : decode M_Reader_readBlock.2.1 35 = .ok (.aload_n 0, 1) := by decide +kernel
theorem e_Reader_readBlock_36 : decode M_Reader_readBlock.2.1 36 = .ok (.iconst 3, 1) := by decide +kernel
theorem e_Reader_readBlock_37 : decode M_Reader_readBlock.2.1 37 = .ok (.invokevirtual 100, 3) := by decide +kernel
theorem e_Reader_readBlock_40 : decode M_Reader_readBlock.2.1 40 = .ok (.aload_n 0, 1) := by decide +kernel
theorem e_Reader_readBlock_41 : decode M_Reader_readBlock.2.1 41 = .ok (.iconst 1, 1) := by decide +kernel
theorem e_Reader_readBlock_42 : decode M_Reader_readBlock.2.1 42 = .ok (.bipush 9, 2) := by decide +kernel
theorem e_Reader_readBlock_44 : decode M_Reader_readBlock.2.1 44 = .ok (.invokevirtual 104, 3) := by decide +kernel
theorem e_Reader_readBlock_47 : decode M_Reader_readBlock.2.1 47 = .ok (.istore_n 2, 1) := by decide +kernel
theorem e_Reader_readBlock_48 : decode M_Reader_readBlock.2.1 48 = .ok (.aload_n 0, 1) := by decide +kernel
theorem e_Reader_readBlock_49 : decode M_Reader_readBlock.2.1 49 = .ok (.invokevirtual 60, 3) := by decide +kernel
theorem e_Reader_readBlock_52 : decode M_Reader_readBlock.2.1 52 = .ok (.aload_n 0, 1) := by decide +kernel
theorem e_Reader_readBlock_53 : decode M_Reader_readBlock.2.1 53 = .ok (.getfield 15, 3) := by decide +kernel
theorem e_Reader_readBlock_56 : decode M_Reader_readBlock.2.1 56 = .ok (.ifCond .eq 4, 3) := by decide +kernel
theorem e_Reader_readBlock_59 : decode M_Reader_readBlock.2.1 59 = .ok (.return_, 1) := by decide +kernel
theorem e_Reader_readBlock_60 : decode M_Reader_readBlock.2.1 60 = .ok (.aload_n 0, 1) := by decide +kernel
theorem e_Reader_readBlock_61 : decode M_Reader_readBlock.2.1 61 = .ok (.getfield 31, 3) := by decide +kernel
theorem e_Reader_readBlock_64 : decode M_Reader_readBlock.2.1 64 = .ok (.iload_n 1, 1) := by decide +kernel
theorem e_Reader_readBlock_65 : decode M_Reader_readBlock.2.1 65 = .ok (.iload_n 2, 1) := by decide +kernel
theorem e_Reader_readBlock_66 : decode M_Reader_readBlock.2.1 66 = .ok (.invokevirtual 132, 3) := by decide +kernel
theorem e_Reader_readBlock_69 : decode M_Reader_readBlock.2.1 69 = .ok (.istore_n 3, 1) := by decide +kernel
theorem e_Reader_readBlock_70 : decode M_Reader_readBlock.2.1 70 = .ok (.aload_n 0, 1) := by decide +kernel
theorem e_Reader_readBlock_71 : decode M_Reader_readBlock.2.1 71 = .ok (.ldc 135, 2) := by decide +kernel
theorem e_Reader_readBlock_73 : decode M_Reader_readBlock.2.1 73 = .ok (.invokevirtual 68, 3) := by decide +kernel
theorem e_Reader_readBlock_76 : decode M_Reader_readBlock.2.1 76 = .ok (.ifCond .eq 31, 3) := by decide +kernel
theorem e_Reader_readBlock_79 : decode M_Reader_readBlock.2.1 79 = .ok (.aload_n 0, 1) := by decide +kernel
theorem e_Reader_readBlock_80 : decode M_Reader_readBlock.2.1 80 = .ok (.getfield 31, 3) := by decide +kernel
theorem e_Reader_readBlock_83 : decode M_Reader_readBlock.2.1 83 = .ok (.getfield 137, 3) := by decide +kernel
theorem e_Reader_readBlock_86 : decode M_Reader_readBlock.2.1 86 = .ok (.iload_n 3, 1) := by decide +kernel
theorem e_Reader_readBlock_87 : decode M_Reader_readBlock.2.1 87 = .ok (.iconst 0, 1) := by decide +kernel
theorem e_Reader_readBlock_88 : decode M_Reader_readBlock.2.1 88 = .ok (.iastore, 1) := by decide +kernel
theorem e_Reader_readBlock_89 : decode M_Reader_readBlock.2.1 89 = .ok (.aload_n 0, 1) := by decide +kernel
theorem e_Reader_readBlock_90 : decode M_Reader_readBlock.2.1 90 = .ok (.getfield 31, 3) := by decide +kernel
theorem e_Reader_readBlock_93 : decode M_Reader_readBlock.2.1 93 = .ok (.getfield 140, 3) := by decide +kernel
theorem e_Reader_readBlock_96 : decode M_Reader_readBlock.2.1 96 = .ok (.iload_n 3, 1) := by decide +kernel
theorem e_Reader_readBlock_97 : decode M_Reader_readBlock.2.1 97 = .ok (.aload_n 0, 1) := by decide +kernel
theorem e_Reader_readBlock_98 : decode M_Reader_readBlock.2.1 98 = .ok (.iconst 0, 1) := by decide +kernel
theorem e_Reader_readBlock_99 : decode M_Reader_readBlock.2.1 99 = .ok (.iconst 3, 1) := by decide +kernel
theorem e_Reader_readBlock_100 : decode M_Reader_readBlock.2.1 100 = .ok (.invokevirtual 104, 3) := by decide +kernel
theorem e_Reader_readBlock_103 : decode M_Reader_readBlock.2.1 103 = .ok (.iastore, 1) := by decide +kernel
theorem e_Reader_readBlock_104 : decode M_Reader_readBlock.2.1 104 = .ok (.goto 118, 3) := by decide +kernel
theorem e_Reader_readBlock_107 : decode M_Reader_readBlock.2.1 107 = .ok (.aload_n 0, 1) := by decide +kernel
theorem e_Reader_readBlock_108 : decode M_Reader_readBlock.2.1 108 = .ok (.ldc 143, 2) := by decide +kernel
theorem e_Reader_readBlock_110 : decode M_Reader_readBlock.2.1 110 = .ok (.invokevirtual 68, 3) := by decide +kernel
theorem e_Reader_readBlock_113 : decode M_Reader_readBlock.2.1 113 = .ok (.ifCond .eq 11, 3) := by decide +kernel
theorem e_Reader_readBlock_116 : decode M_Reader_readBlock.2.1 116 = .ok (.aload_n 0, 1) := by decide +kernel
theorem e_Reader_readBlock_117 : decode M_Reader_readBlock.2.1 117 = .ok (.iload_n 3, 1) := by decide +kernel
theorem e_Reader_readBlock_118 : decode M_Reader_readBlock.2.1 118 = .ok (.invokevirtual 145, 3) := by decide +kernel
theorem e_Reader_readBlock_121 : decode M_Reader_readBlock.2.1 121 = .ok (.goto 101, 3) := by decide +kernel
theorem e_Reader_readBlock_124 : decode M_Reader_readBlock.2.1 124 = .ok (.aload_n 0, 1) := by decide +kernel
theorem e_Reader_readBlock_125 : decode M_Reader_readBlock.2.1 125 = .ok (.ldc 148, 2) := by decide +kernel
theorem e_Reader_readBlock_127 : decode M_Reader_readBlock.2.1 127 = .ok (.invokevirtual 68, 3) := by decide +kernel
theorem e_Reader_readBlock_130 : decode M_Reader_readBlock.2.1 130 = .ok (.ifCond .eq 48, 3) := by decide +kernel
theorem e_Reader_readBlock_133 : decode M_Reader_readBlock.2.1 133 = .ok (.aload_n 0, 1) := by decide +kernel
theorem e_Reader_readBlock_134 : decode M_Reader_readBlock.2.1 134 = .ok (.getfield 31, 3) := by decide +kernel
theorem e_Reader_readBlock_137 : decode M_Reader_readBlock.2.1 137 = .ok (.getfield 137, 3) := by decide +kernel
theorem e_Reader_readBlock_140 : decode M_Reader_readBlock.2.1 140 = .ok (.iload_n 3, 1) := by decide +kernel
theorem e_Reader_readBlock_141 : decode M_Reader_readBlock.2.1 141 = .ok (.iconst 2, 1) := by decide +kernel
theorem e_Reader_readBlock_142 : decode M_Reader_readBlock.2.1 142 = .ok (.iastore, 1) := by decide +kernel
theorem e_Reader_readBlock_143 : decode M_Reader_readBlock.2.1 143 = .ok (.aload_n 0, 1) := by decide +kernel
theorem e_Reader_readBlock_144 : decode M_Reader_readBlock.2.1 144 = .ok (.getfield 31, 3) := by decide +kernel
theorem e_Reader_readBlock_147 : decode M_Reader_readBlock.2.1 147 = .ok (.getfield 140, 3) := by decide +kernel
theorem e_Reader_readBlock_150 : decode M_Reader_readBlock.2.1 150 = .ok (.iload_n 3, 1) := by decide +kernel
theorem e_Reader_readBlock_151 : decode M_Reader_readBlock.2.1 151 = .ok (.aload_n 0, 1) := by decide +kernel
theorem e_Reader_readBlock_152 : decode M_Reader_readBlock.2.1 152 = .ok (.iconst 0, 1) := by decide +kernel
theorem e_Reader_readBlock_153 : decode M_Reader_readBlock.2.1 153 = .ok (.iconst 3, 1) := by decide +kernel
theorem e_Reader_readBlock_154 : decode M_Reader_readBlock.2.1 154 = .ok (.invokevirtual 104, 3) := by decide +kernel
theorem e_Reader_readBlock_157 : decode M_Reader_readBlock.2.1 157 = .ok (.iastore, 1) := by decide +kernel
theorem e_Reader_readBlock_158 : decode M_Reader_readBlock.2.1 158 = .ok (.aload_n 0, 1) := by decide +kernel
theorem e_Reader_readBlock_159 : decode M_Reader_readBlock.2.1 159 = .ok (.getfield 31, 3) := by decide +kernel
theorem e_Reader_readBlock_162 : decode M_Reader_readBlock.2.1 162 = .ok (.getfield 150, 3) := by decide +kernel
theorem e_Reader_readBlock_165 : decode M_Reader_readBlock.2.1 165 = .ok (.iload_n 3, 1) := by decide +kernel
theorem e_Reader_readBlock_166 : decode M_Reader_readBlock.2.1 166 = .ok (.aload_n 0, 1) := by decide +kernel
theorem e_Reader_readBlock_167 : decode M_Reader_readBlock.2.1 167 = .ok (.iconst 1, 1) := by decide +kernel
theorem e_Reader_readBlock_168 : decode M_Reader_readBlock.2.1 168 = .ok (.sipush 1000, 3) := by decide +kernel
theorem e_Reader_readBlock_171 : decode M_Reader_readBlock.2.1 171 = .ok (.invokevirtual 104, 3) := by decide +kernel
theorem e_Reader_readBlock_174 : decode M_Reader_readBlock.2.1 174 = .ok (.iastore, 1) := by decide +kernel
theorem e_Reader_readBlock_175 : decode M_Reader_readBlock.2.1 175 = .ok (.goto 47, 3) := by decide +kernel
theorem e_Reader_readBlock_178 : decode M_Reader_readBlock.2.1 178 = .ok (.aload_n 0, 1) := by decide +kernel
theorem e_Reader_readBlock_179 : decode M_Reader_readBlock.2.1 179 = .ok (.ldc 153, 2) := by decide +kernel
theorem e_Reader_readBlock_181 : decode M_Reader_readBlock.2.1 181 = .ok (.invokevirtual 68, 3) := by decide +kernel
theorem e_Reader_readBlock_184 : decode M_Reader_readBlock.2.1 184 = .ok (.ifCond .eq 33, 3) := by decide +kernel
theorem e_Reader_readBlock_187 : decode M_Reader_readBlock.2.1 187 = .ok (.aload_n 0, 1) := by decide +kernel
theorem e_Reader_readBlock_188 : decode M_Reader_readBlock.2.1 188 = .ok (.getfield 31, 3) := by decide +kernel
theorem e_Reader_readBlock_191 : decode M_Reader_readBlock.2.1 191 = .ok (.getfield 137, 3) := by decide +kernel
theorem e_Reader_readBlock_194 : decode M_Reader_readBlock.2.1 194 = .ok (.iload_n 3, 1) := by decide +kernel
theorem e_Reader_readBlock_195 : decode M_Reader_readBlock.2.1 195 = .ok (.iconst 3, 1) := by decide +kernel
theorem e_Reader_readBlock_196 : decode M_Reader_readBlock.2.1 196 = .ok (.iastore, 1) := by decide +kernel
theorem e_Reader_readBlock_197 : decode M_Reader_readBlock.2.1 197 = .ok (.aload_n 0, 1) := by decide +kernel
theorem e_Reader_readBlock_198 : decode M_Reader_readBlock.2.1 198 = .ok (.getfield 31, 3) := by decide +kernel
theorem e_Reader_readBlock_201 : decode M_Reader_readBlock.2.1 201 = .ok (.getfield 155, 3) := by decide +kernel
theorem e_Reader_readBlock_204 : decode M_Reader_readBlock.2.1 204 = .ok (.iload_n 3, 1) := by decide +kernel
theorem e_Reader_readBlock_205 : decode M_Reader_readBlock.2.1 205 = .ok (.aload_n 0, 1) := by decide +kernel
theorem e_Reader_readBlock_206 : decode M_Reader_readBlock.2.1 206 = .ok (.ldc 159, 2) := by decide +kernel
theorem e_Reader_readBlock_208 : decode M_Reader_readBlock.2.1 208 = .ok (.ldc 160, 2) := by decide +kernel
theorem e_Reader_readBlock_210 : decode M_Reader_readBlock.2.1 210 = .ok (.invokevirtual 162, 3) := by decide +kernel
theorem e_Reader_readBlock_213 : decode M_Reader_readBlock.2.1 213 = .ok (.bastore, 1) := by decide +kernel
theorem e_Reader_readBlock_214 : decode M_Reader_readBlock.2.1 214 = .ok (.goto 8, 3) := by decide +kernel
theorem e_Reader_readBlock_217 : decode M_Reader_readBlock.2.1 217 = .ok (.aload_n 0, 1) := by decide +kernel
theorem e_Reader_readBlock_218 : decode M_Reader_readBlock.2.1 218 = .ok (.iconst 1, 1) := by decide +kernel
theorem e_Reader_readBlock_219 : decode M_Reader_readBlock.2.1 219 = .ok (.invokevirtual 100, 3) := by decide +kernel
theorem e_Reader_readBlock_222 : decode M_Reader_readBlock.2.1 222 = .ok (.return_, 1) := by decide +kernel
theorem e_Reader_readPid_0 : decode M_Reader_readPid.2.1 0 = .ok (.aload_n 0, 1) := by decide +kernel
theorem e_Reader_readPid_1 : decode M_Reader_readPid.2.1 1 = .ok (.getfield 31, 3) := by decide +kernel
theorem e_Reader_readPid_4 : decode M_Reader_readPid.2.1 4 = .ok (.getfield 137, 3) := by decide +kernel
theorem e_Reader_readPid_7 : decode M_Reader_readPid.2.1 7 = .ok (.iload_n 1, 1) := by decide +kernel
theorem e_Reader_readPid_8 : decode M_Reader_readPid.2.1 8 = .ok (.iconst 1, 1) := by decide +kernel
theorem e_Reader_readPid_9 : decode M_Reader_readPid.2.1 9 = .ok (.iastore, 1) := by decide +kernel
theorem e_Reader_readPid_10 : decode M_Reader_readPid.2.1 10 = .ok (.aload_n 0, 1) := by decide +kernel
theorem e_Reader_readPid_11 : decode M_Reader_readPid.2.1 11 = .ok (.getfield 31, 3) := by decide +kernel
theorem e_Reader_readPid_14 : decode M_Reader_readPid.2.1 14 = .ok (.getfield 166, 3) := by decide +kernel
theorem e_Reader_readPid_17 : decode M_Reader_readPid.2.1 17 = .ok (.iload_n 1, 1) := by decide +kernel
theorem e_Reader_readPid_18 : decode M_Reader_readPid.2.1 18 = .ok (.aload_n 0, 1) := by decide +kernel
theorem e_Reader_readPid_19 : decode M_Reader_readPid.2.1 19 = .ok (.iconst 0, 1) := by decide +kernel
theorem e_Reader_readPid_20 : decode M_Reader_readPid.2.1 20 = .ok (.sipush 300, 3) := by decide +kernel
theorem e_Reader_readPid_23 : decode M_Reader_readPid.2.1 23 = .ok (.invokevirtual 104, 3) := by decide +kernel
theorem e_Reader_readPid_26 : decode M_Reader_readPid.2.1 26 = .ok (.iastore, 1) := by decide +kernel
theorem e_Reader_readPid_27 : decode M_Reader_readPid.2.1 27 = .ok (.aload_n 0, 1) := by decide +kernel
theorem e_Reader_readPid_28 : decode M_Reader_readPid.2.1 28 = .ok (.getfield 31, 3) := by decide +kernel
theorem e_Reader_readPid_31 : decode M_Reader_readPid.2.1 31 = .ok (.getfield 167, 3) := by decide +kernel
theorem e_Reader_readPid_34 : decode M_Reader_readPid.2.1 34 = .ok (.iload_n 1, 1) := by decide +kernel
theorem e_Reader_readPid_35 : decode M_Reader_readPid.2.1 35 = .ok (.aload_n 0, 1) := by decide +kernel
theorem e_Reader_readPid_36 : decode M_Reader_readPid.2.1 36 = .ok (.iconst 0, 1) := by decide +kernel
theorem e_Reader_readPid_37 : decode M_Reader_readPid.2.1 37 = .ok (.bipush 100, 2) := by decide +kernel
theorem e_Reader_readPid_39 : decode M_Reader_readPid.2.1 39 = .ok (.invokevirtual 104, 3) := by decide +kernel
theorem e_Reader_readPid_42 : decode M_Reader_readPid.2.1 42 = .ok (.iastore, 1) := by decide +kernel
theorem e_Reader_readPid_43 : decode M_Reader_readPid.2.1 43 = .ok (.aload_n 0, 1) := by decide +kernel
theorem e_Reader_readPid_44 : decode M_Reader_readPid.2.1 44 = .ok (.getfield 31, 3) := by decide +kernel
theorem e_Reader_readPid_47 : decode M_Reader_readPid.2.1 47 = .ok (.getfield 170, 3) := by decide +kernel
theorem e_Reader_readPid_50 : decode M_Reader_readPid.2.1 50 = .ok (.iload_n 1, 1) := by decide +kernel
theorem e_Reader_readPid_51 : decode M_Reader_readPid.2.1 51 = .ok (.aload_n 0, 1) := by decide +kernel
theorem e_Reader_readPid_52 : decode M_Reader_readPid.2.1 52 = .ok (.ldc 173, 2) := by decide +kernel
theorem e_Reader_readPid_54 : decode M_Reader_readPid.2.1 54 = .ok (.ldc 175, 2) := by decide +kernel
theorem e_Reader_readPid_56 : decode M_Reader_readPid.2.1 56 = .ok (.invokevirtual 162, 3) := by decide +kernel
theorem e_Reader_readPid_59 : decode M_Reader_readPid.2.1 59 = .ok (.ifCond .eq 7, 3) := by decide +kernel
theorem e_Reader_readPid_62 : decode M_Reader_readPid.2.1 62 = .ok (.iconst 1, 1) := by decide +kernel
theorem e_Reader_readPid_63 : decode M_Reader_readPid.2.1 63 = .ok (.goto 4, 3) := by decide +kernel
theorem e_Reader_readPid_66 : decode M_Reader_readPid.2.1 66 = .ok (.iconst 2, 1) := by decide +kernel
theorem e_Reader_readPid_67 : decode M_Reader_readPid.2.1 67 = .ok (.iastore, 1) := by decide +kernel
theorem e_Reader_readPid_68 : decode M_Reader_readPid.2.1 68 = .ok (.aload_n 0, 1) := by decide +kernel
theorem e_Reader_readPid_69 : decode M_Reader_readPid.2.1 69 = .ok (.getfield 31, 3) := by decide +kernel
theorem e_Reader_readPid_72 : decode M_Reader_readPid.2.1 72 = .ok (.getfield 177, 3) := by decide +kernel
theorem e_Reader_readPid_75 : decode M_Reader_readPid.2.1 75 = .ok (.iload_n 1, 1) := by decide +kernel
theorem e_Reader_readPid_76 : decode M_Reader_readPid.2.1 76 = .ok (.aload_n 0, 1) := by decide +kernel
theorem e_Reader_readPid_77 : decode M_Reader_readPid.2.1 77 = .ok (.ldc 180, 2) := by decide +kernel
theorem e_Reader_readPid_79 : decode M_Reader_readPid.2.1 79 = .ok (.ldc 181, 2) := by decide +kernel
theorem e_Reader_readPid_81 : decode M_Reader_readPid.2.1 81 = .ok (.invokevirtual 162, 3) := by decide +kernel
theorem e_Reader_readPid_84 : decode M_Reader_readPid.2.1 84 = .ok (.bastore, 1) := by decide +kernel
theorem e_Reader_readPid_85 : decode M_Reader_readPid.2.1 85 = .ok (.return_, 1) := by decide +kernel
theorem e_Reader_readChoice_0 : decode M_Reader_readChoice.2.1 0 = .ok (.aload_n 0, 1) := by decide +kernel
theorem e_Reader_readChoice_1 : decode M_Reader_readChoice.2.1 1 = .ok (.invokevirtual 60, 3) := by decide +kernel
theorem e_Reader_readChoice_4 : decode M_Reader_readChoice.2.1 4 = .ok (.aload_n 0, 1) := by decide +kernel
theorem e_Reader_readChoice_5 : decode M_Reader_readChoice.2.1 5 = .ok (.aload_n 1, 1) := by decide +kernel
theorem e_Reader_readChoice_6 : decode M_Reader_readChoice.2.1 6 = .ok (.invokevirtual 68, 3) := by decide +kernel
theorem e_Reader_readChoice_9 : decode M_Reader_readChoice.2.1 9 = .ok (.istore_n 3, 1) := by decide +kernel
theorem e_Reader_readChoice_10 : decode M_Reader_readChoice.2.1 10 = .ok (.iload_n 3, 1) := by decide +kernel
theorem e_Reader_readChoice_11 : decode M_Reader_readChoice.2.1 11 = .ok (.ifCond .ne 16, 3) := by decide +kernel
theorem e_Reader_readChoice_14 : decode M_Reader_readChoice.2.1 14 = .ok (.aload_n 0, 1) := by decide +kernel
theorem e_Reader_readChoice_15 : decode M_Reader_readChoice.2.1 15 = .ok (.aload_n 2, 1) := by decide +kernel
theorem e_Reader_readChoice_16 : decode M_Reader_readChoice.2.1 16 = .ok (.invokevirtual 68, 3) := by decide +kernel
theorem e_Reader_readChoice_19 : decode M_Reader_readChoice.2.1 19 = .ok (.ifCond .ne 8, 3) := by decide +kernel
theorem e_Reader_readChoice_22 : decode M_Reader_readChoice.2.1 22 = .ok (.aload_n 0, 1) := by decide +kernel
theorem e_Reader_readChoice_23 : decode M_Reader_readChoice.2.1 23 = .ok (.iconst 1, 1) := by decide +kernel
theorem e_Reader_readChoice_24 : decode M_Reader_readChoice.2.1 24 = .ok (.invokevirtual 100, 3) := by decide +kernel
theorem e_Reader_readChoice_27 : decode M_Reader_readChoice.2.1 27 = .ok (.iload_n 3, 1) := by decide +kernel
theorem e_Reader_readChoice_28 : decode M_Reader_readChoice.2.1 28 = .ok (.ireturn, 1) := by decide +kernel
theorem e_Reader_readLink_0 : decode M_Reader_readLink.2.1 0 = .ok (.aload_n 0, 1) := by decide +kernel
theorem e_Reader_readLink_1 : decode M_Reader_readLink.2.1 1 = .ok (.getfield 31, 3) := by decide +kernel
theorem e_Reader_readLink_4 : decode M_Reader_readLink.2.1 4 = .ok (.getfield 183, 3) := by decide +kernel
theorem e_Reader_readLink_7 : decode M_Reader_readLink.2.1 7 = .ok (.getfield 187, 3) := by decide +kernel
theorem e_Reader_readLink_10 : decode M_Reader_readLink.2.1 10 = .ok (.bipush 12, 2) := by decide +kernel
theorem e_Reader_readLink_12 : decode M_Reader_readLink.2.1 12 = .ok (.if_icmp .lt 8, 3) := by decide +kernel
theorem e_Reader_readLink_15 : decode M_Reader_readLink.2.1 15 = .ok (.aload_n 0, 1) := by decide +kernel
theorem e_Reader_readLink_16 : decode M_Reader_readLink.2.1 16 = .ok (.iconst 2, 1) := by decide +kernel
theorem e_Reader_readLink_17 : decode M_Reader_readLink.2.1 17 = .ok (.invokevirtual 100, 3) := by decide +kernel
theorem e_Reader_readLink_20 : decode M_Reader_readLink.2.1 20 = .ok (.aload_n 0, 1) := by decide +kernel
theorem e_Reader_readLink_21 : decode M_Reader_readLink.2.1 21 = .ok (.invokevirtual 192, 3) := by decide +kernel
theorem e_Reader_readLink_24 : decode M_Reader_readLink.2.1 24 = .ok (.istore_n 1, 1) := by decide +kernel
theorem e_Reader_readLink_25 : decode M_Reader_readLink.2.1 25 = .ok (.aload_n 0, 1) := by decide +kernel
theorem e_Reader_readLink_26 : decode M_Reader_readLink.2.1 26 = .ok (.invokevirtual 192, 3) := by decide +kernel
theorem e_Reader_readLink_29 : decode M_Reader_readLink.2.1 29 = .ok (.istore_n 2, 1) := by decide +kernel
theorem e_Reader_readLink_30 : decode M_Reader_readLink.2.1 30 = .ok (.aload_n 0, 1) := by decide +kernel
theorem e_Reader_readLink_31 : decode M_Reader_readLink.2.1 31 = .ok (.invokevirtual 60, 3) := by decide +kernel
theorem e_Reader_readLink_34 : decode M_Reader_readLink.2.1 34 = .ok (.aload_n 0, 1) := by decide +kernel
theorem e_Reader_readLink_35 : decode M_Reader_readLink.2.1 35 = .ok (.getfield 15, 3) := by decide +kernel
theorem e_Reader_readLink_38 : decode M_Reader_readLink.2.1 38 = .ok (.ifCond .eq 4, 3) := by decide +kernel
theorem e_Reader_readLink_41 : decode M_Reader_readLink.2.1 41 = .ok (.return_, 1) := by decide +kernel
theorem e_Reader_readLink_42 : decode M_Reader_readLink.2.1 42 = .ok (.aload_n 0, 1) := by decide +kernel
theorem e_Reader_readLink_43 : decode M_Reader_readLink.2.1 43 = .ok (.ldc 196, 2) := by decide +kernel
theorem e_Reader_readLink_45 : decode M_Reader_readLink.2.1 45 = .ok (.invokevirtual 68, 3) := by decide +kernel
theorem e_Reader_readLink_48 : decode M_Reader_readLink.2.1 48 = .ok (.ifCond .eq 7, 3) := by decide +kernel
theorem e_Reader_readLink_51 : decode M_Reader_readLink.2.1 51 = .ok (.iconst 0, 1) := by decide +kernel
theorem e_Reader_readLink_52 : decode M_Reader_readLink.2.1 52 = .ok (.goto 30, 3) := by decide +kernel
theorem e_Reader_readLink_55 : decode M_Reader_readLink.2.1 55 = .ok (.aload_n 0, 1) := by decide +kernel
theorem e_Reader_readLink_56 : decode M_Reader_readLink.2.1 56 = .ok (.ldc 198, 2) := by decide +kernel
theorem e_Reader_readLink_58 : decode M_Reader_readLink.2.1 58 = .ok (.invokevirtual 68, 3) := by decide +kernel
theorem e_Reader_readLink_61 : decode M_Reader_readLink.2.1 61 = .ok (.ifCond .eq 7, 3) := by decide +kernel
theorem e_Reader_readLink_64 : decode M_Reader_readLink.2.1 64 = .ok (.iconst 1, 1) := by decide +kernel
theorem e_Reader_readLink_65 : decode M_Reader_readLink.2.1 65 = .ok (.goto 17, 3) := by decide +kernel
theorem e_Reader_readLink_68 : decode M_Reader_readLink.2.1 68 = .ok (.aload_n 0, 1) := by decide +kernel
theorem e_Reader_readLink_69 : decode M_Reader_readLink.2.1 69 = .ok (.ldc 200, 2) := by decide +kernel
theorem e_Reader_readLink_71 : decode M_Reader_readLink.2.1 71 = .ok (.invokevirtual 68, 3) := by decide +kernel
theorem e_Reader_readLink_74 : decode M_Reader_readLink.2.1 74 = .ok (.ifCond .eq 7, 3) := by decide +kernel
theorem e_Reader_readLink_77 : decode M_Reader_readLink.2.1 77 = .ok (.iconst 2, 1) := by decide +kernel
theorem e_Reader_readLink_78 : decode M_Reader_readLink.2.1 78 = .ok (.goto 4, 3) := by decide +kernel
theorem e_Reader_readLink_81 : decode M_Reader_readLink.2.1 81 = .ok (.iconst (-1), 1) := by decide +kernel
theorem e_Reader_readLink_82 : decode M_Reader_readLink.2.1 82 = .ok (.istore_n 3, 1) := by decide +kernel
theorem e_Reader_readLink_83 : decode M_Reader_readLink.2.1 83 = .ok (.iload_n 3, 1) := by decide +kernel
theorem e_Reader_readLink_84 : decode M_Reader_readLink.2.1 84 = .ok (.iconst (-1), 1) := by decide +kernel
theorem e_Reader_readLink_85 : decode M_Reader_readLink.2.1 85 = .ok (.if_icmp .ne 11, 3) := by decide +kernel
theorem e_Reader_readLink_88 : decode M_Reader_readLink.2.1 88 = .ok (.aload_n 0, 1) := by decide +kernel
theorem e_Reader_readLink_89 : decode M_Reader_readLink.2.1 89 = .ok (.iconst 1, 1) := by decide +kernel
theorem e_Reader_readLink_90 : decode M_Reader_readLink.2.1 90 = .ok (.invokevirtual 100, 3) := by decide +kernel
theorem e_Reader_readLink_93 : decode M_Reader_readLink.2.1 93 = .ok (.goto 70, 3) := by decide +kernel
theorem e_Reader_readLink_96 : decode M_Reader_readLink.2.1 96 = .ok (.aload_n 0, 1) := by decide +kernel
theorem e_Reader_readLink_97 : decode M_Reader_readLink.2.1 97 = .ok (.getfield 31, 3) := by decide +kernel
theorem e_Reader_readLink_100 : decode M_Reader_readLink.2.1 100 = .ok (.iload_n 1, 1) := by decide +kernel
theorem e_Reader_readLink_101 : decode M_Reader_readLink.2.1 101 = .ok (.iload_n 2, 1) := by decide +kernel
theorem e_Reader_readLink_102 : decode M_Reader_readLink.2.1 102 = .ok (.iload_n 3, 1) := by decide +kernel
theorem e_Reader_readLink_103 : decode M_Reader_readLink.2.1 103 = .ok (.invokevirtual 202, 3) := by decide +kernel
theorem e_Reader_readLink_106 : decode M_Reader_readLink.2.1 106 = .ok (.ifCond .ne 11, 3) := by decide +kernel
theorem e_Reader_readLink_109 : decode M_Reader_readLink.2.1 109 = .ok (.aload_n 0, 1) := by decide +kernel
theorem e_Reader_readLink_110 : decode M_Reader_readLink.2.1 110 = .ok (.iconst 3, 1) := by decide +kernel
theorem e_Reader_readLink_111 : decode M_Reader_readLink.2.1 111 = .ok (.invokevirtual 100, 3) := by decide +kernel
theorem e_Reader_readLink_114 : decode M_Reader_readLink.2.1 114 = .ok (.goto 49, 3) := by decide +kernel
theorem e_Reader_readLink_117 : decode M_Reader_readLink.2.1 117 = .ok (.aload_n 0, 1) := by decide +kernel
theorem e_Reader_readLink_118 : decode M_Reader_readLink.2.1 118 = .ok (.getfield 31, 3) := by decide +kernel
theorem e_Reader_readLink_121 : decode M_Reader_readLink.2.1 121 = .ok (.iload_n 1, 1) := by decide +kernel
theorem e_Reader_readLink_122 : decode M_Reader_readLink.2.1 122 = .ok (.iload_n 2, 1) := by decide +kernel
theorem e_Reader_readLink_123 : decode M_Reader_readLink.2.1 123 = .ok (.iload_n 3, 1) := by decide +kernel
theorem e_Reader_readLink_124 : decode M_Reader_readLink.2.1 124 = .ok (.invokevirtual 206, 3) := by decide +kernel
theorem e_Reader_readLink_127 : decode M_Reader_readLink.2.1 127 = .ok (.ifCond .ne 18, 3) := by decide +kernel
theorem e_Reader_readLink_130 : decode M_Reader_readLink.2.1 130 = .ok (.aload_n 0, 1) := by decide +kernel
theorem e_Reader_readLink_131 : decode M_Reader_readLink.2.1 131 = .ok (.getfield 31, 3) := by decide +kernel
theorem e_Reader_readLink_134 : decode M_Reader_readLink.2.1 134 = .ok (.getfield 183, 3) := by decide +kernel
theorem e_Reader_readLink_137 : decode M_Reader_readLink.2.1 137 = .ok (.iload_n 2, 1) := by decide +kernel
theorem e_Reader_readLink_138 : decode M_Reader_readLink.2.1 138 = .ok (.iload_n 1, 1) := by decide +kernel
theorem e_Reader_readLink_139 : decode M_Reader_readLink.2.1 139 = .ok (.invokevirtual 209, 3) := by decide +kernel
theorem e_Reader_readLink_142 : decode M_Reader_readLink.2.1 142 = .ok (.ifCond .eq 11, 3) := by decide +kernel
theorem e_Reader_readLink_145 : decode M_Reader_readLink.2.1 145 = .ok (.aload_n 0, 1) := by decide +kernel
theorem e_Reader_readLink_146 : decode M_Reader_readLink.2.1 146 = .ok (.iconst 5, 1) := by decide +kernel
theorem e_Reader_readLink_147 : decode M_Reader_readLink.2.1 147 = .ok (.invokevirtual 100, 3) := by decide +kernel
theorem e_Reader_readLink_150 : decode M_Reader_readLink.2.1 150 = .ok (.goto 13, 3) := by decide +kernel
theorem e_Reader_readLink_153 : decode M_Reader_readLink.2.1 153 = .ok (.aload_n 0, 1) := by decide +kernel
theorem e_Reader_readLink_154 : decode M_Reader_readLink.2.1 154 = .ok (.getfield 31, 3) := by decide +kernel
theorem e_Reader_readLink_157 : decode M_Reader_readLink.2.1 157 = .ok (.iload_n 1, 1) := by decide +kernel
theorem e_Reader_readLink_158 : decode M_Reader_readLink.2.1 158 = .ok (.iload_n 2, 1) := by decide +kernel
theorem e_Reader_readLink_159 : decode M_Reader_readLink.2.1 159 = .ok (.iload_n 3, 1) := by decide +kernel
theorem e_Reader_readLink_160 : decode M_Reader_readLink.2.1 160 = .ok (.invokevirtual 213, 3) := by decide +kernel
theorem e_Reader_readLink_163 : decode M_Reader_readLink.2.1 163 = .ok (.return_, 1) := by decide +kernel
theorem e_Reader_readBlockNumber_0 : decode M_Reader_readBlockNumber.2.1 0 = .ok (.aload_n 0, 1) := by decide +kernel
theorem e_Reader_readBlockNumber_1 : decode M_Reader_readBlockNumber.2.1 1 = .ok (.iconst 0, 1) := by decide +kernel
theorem e_Reader_readBlockNumber_2 : decode M_Reader_readBlockNumber.2.1 2 = .ok (.bipush 9, 2) := by decide +kernel
theorem e_Reader_readBlockNumber_4 : decode M_Reader_readBlockNumber.2.1 4 = .ok (.invokevirtual 104, 3) := by decide +kernel
theorem e_Reader_readBlockNumber_7 : decode M_Reader_readBlockNumber.2.1 7 = .ok (.istore_n 1, 1) := by decide +kernel
theorem e_Reader_readBlockNumber_8 : decode M_Reader_readBlockNumber.2.1 8 = .ok (.iload_n 1, 1) := by decide +kernel
theorem e_Reader_readBlockNumber_9 : decode M_Reader_readBlockNumber.2.1 9 = .ok (.aload_n 0, 1) := by decide +kernel
theorem e_Reader_readBlockNumber_10 : decode M_Reader_readBlockNumber.2.1 10 = .ok (.getfield 31, 3) := by decide +kernel
theorem e_Reader_readBlockNumber_13 : decode M_Reader_readBlockNumber.2.1 13 = .ok (.getfield 129, 3) := by decide +kernel
theorem e_Reader_readBlockNumber_16 : decode M_Reader_readBlockNumber.2.1 16 = .ok (.if_icmp .lt 8, 3) := by decide +kernel
theorem e_Reader_readBlockNumber_19 : decode M_Reader_readBlockNumber.2.1 19 = .ok (.aload_n 0, 1) := by decide +kernel
theorem e_Reader_readBlockNumber_20 : decode M_Reader_readBlockNumber.2.1 20 = .ok (.iconst 3, 1) := by decide +kernel
theorem e_Reader_readBlockNumber_21 : decode M_Reader_readBlockNumber.2.1 21 = .ok (.invokevirtual 100, 3) := by decide +kernel
theorem e_Reader_readBlockNumber_24 : decode M_Reader_readBlockNumber.2.1 24 = .ok (.iload_n 1, 1) := by decide +kernel
theorem e_Reader_readBlockNumber_25 : decode M_Reader_readBlockNumber.2.1 25 = .ok (.ireturn, 1) := by decide +kernel
theorem e_Reader_readPlant_0 : decode M_Reader_readPlant.2.1 0 = .ok (.aload_n 0, 1) := by decide +kernel
theorem e_Reader_readPlant_1 : decode M_Reader_readPlant.2.1 1 = .ok (.iconst 0, 1) := by decide +kernel
theorem e_Reader_readPlant_2 : decode M_Reader_readPlant.2.1 2 = .ok (.iconst 3, 1) := by decide +kernel
theorem e_Reader_readPlant_3 : decode M_Reader_readPlant.2.1 3 = .ok (.invokevirtual 104, 3) := by decide +kernel
theorem e_Reader_readPlant_6 : decode M_Reader_readPlant.2.1 6 = .ok (.istore_n 1, 1) := by decide +kernel
theorem e_Reader_readPlant_7 : decode M_Reader_readPlant.2.1 7 = .ok (.aload_n 0, 1) := by decide +kernel
theorem e_Reader_readPlant_8 : decode M_Reader_readPlant.2.1 8 = .ok (.getfield 31, 3) := by decide +kernel
theorem e_Reader_readPlant_11 : decode M_Reader_readPlant.2.1 11 = .ok (.getfield 113, 3) := by decide +kernel
theorem e_Reader_readPlant_14 : decode M_Reader_readPlant.2.1 14 = .ok (.getfield 117, 3) := by decide +kernel
theorem e_Reader_readPlant_17 : decode M_Reader_readPlant.2.1 17 = .ok (.iload_n 1, 1) := by decide +kernel
theorem e_Reader_readPlant_18 : decode M_Reader_readPlant.2.1 18 = .ok (.iaload, 1) := by decide +kernel
theorem e_Reader_readPlant_19 : decode M_Reader_readPlant.2.1 19 = .ok (.iconst (-1), 1) := by decide +kernel
theorem e_Reader_readPlant_20 : decode M_Reader_readPlant.2.1 20 = .ok (.if_icmp .eq 8, 3) := by decide +kernel
theorem e_Reader_readPlant_23 : decode M_Reader_readPlant.2.1 23 = .ok (.aload_n 0, 1) := by decide +kernel
theorem e_Reader_readPlant_24 : decode M_Reader_readPlant.2.1 24 = .ok (.iconst 4, 1) := by decide +kernel
theorem e_Reader_readPlant_25 : decode M_Reader_readPlant.2.1 25 = .ok (.invokevirtual 100, 3) := by decide +kernel
theorem e_Reader_readPlant_28 : decode M_Reader_readPlant.2.1 28 = .ok (.aload_n 0, 1) := by decide +kernel
theorem e_Reader_readPlant_29 : decode M_Reader_readPlant.2.1 29 = .ok (.iconst 0, 1) := by decide +kernel
theorem e_Reader_readPlant_30 : decode M_Reader_readPlant.2.1 30 = .ok (.iconst 3, 1) := by decide +kernel
theorem e_Reader_readPlant_31 : decode M_Reader_readPlant.2.1 31 = .ok (.invokevirtual 104, 3) := by decide +kernel
theorem e_Reader_readPlant_34 : decode M_Reader_readPlant.2.1 34 = .ok (.istore_n 2, 1) := by decide +kernel
theorem e_Reader_readPlant_35 : decode M_Reader_readPlant.2.1 35 = .ok (.aload_n 0, 1) := by decide +kernel
theorem e_Reader_readPlant_36 : decode M_Reader_readPlant.2.1 36 = .ok (.iconst 0, 1) := by decide +kernel
theorem e_Reader_readPlant_37 : decode M_Reader_readPlant.2.1 37 = .ok (.sipush 300, 3) := by decide +kernel
theorem e_Reader_readPlant_40 : decode M_Reader_readPlant.2.1 40 = .ok (.invokevirtual 104, 3) := by decide +kernel
theorem e_Reader_readPlant_43 : decode M_Reader_readPlant.2.1 43 = .ok (.istore_n 3, 1) := by decide +kernel
theorem e_Reader_readPlant_44 : decode M_Reader_readPlant.2.1 44 = .ok (.aload_n 0, 1) := by decide +kernel
theorem e_Reader_readPlant_45 : decode M_Reader_readPlant.2.1 45 = .ok (.iconst 1, 1) := by decide +kernel
theorem e_Reader_readPlant_46 : decode M_Reader_readPlant.2.1 46 = .ok (.bipush 50, 2) := by decide +kernel
theorem e_Reader_readPlant_48 : decode M_Reader_readPlant.2.1 48 = .ok (.invokevirtual 104, 3) := by decide +kernel
theorem e_Reader_readPlant_51 : decode M_Reader_readPlant.2.1 51 = .ok (.istore 4, 2) := by decide +kernel
theorem e_Reader_readPlant_53 : decode M_Reader_readPlant.2.1 53 = .ok (.aload_n 0, 1) := by decide +kernel
theorem e_Reader_readPlant_54 : decode M_Reader_readPlant.2.1 54 = .ok (.getfield 15, 3) := by decide +kernel
theorem e_Reader_readPlant_57 : decode M_Reader_readPlant.2.1 57 = .ok (.ifCond .ne 43, 3) := by decide +kernel
theorem e_Reader_readPlant_60 : decode M_Reader_readPlant.2.1 60 = .ok (.aload_n 0, 1) := by decide +kernel
theorem e_Reader_readPlant_61 : decode M_Reader_readPlant.2.1 61 = .ok (.getfield 31, 3) := by decide +kernel
theorem e_Reader_readPlant_64 : decode M_Reader_readPlant.2.1 64 = .ok (.getfield 113, 3) := by decide +kernel
theorem e_Reader_readPlant_67 : decode M_Reader_readPlant.2.1 67 = .ok (.getfield 117, 3) := by decide +kernel
theorem e_Reader_readPlant_70 : decode M_Reader_readPlant.2.1 70 = .ok (.iload_n 1, 1) := by decide +kernel
theorem e_Reader_readPlant_71 : decode M_Reader_readPlant.2.1 71 = .ok (.iload_n 2, 1) := by decide +kernel
theorem e_Reader_readPlant_72 : decode M_Reader_readPlant.2.1 72 = .ok (.iastore, 1) := by decide +kernel
theorem e_Reader_readPlant_73 : decode M_Reader_readPlant.2.1 73 = .ok (.aload_n 0, 1) := by decide +kernel
theorem e_Reader_readPlant_74 : decode M_Reader_readPlant.2.1 74 = .ok (.getfield 31, 3) := by decide +kernel
theorem e_Reader_readPlant_77 : decode M_Reader_readPlant.2.1 77 = .ok (.getfield 113, 3) := by decide +kernel
theorem e_Reader_readPlant_80 : decode M_Reader_readPlant.2.1 80 = .ok (.getfield 123, 3) := by decide +kernel
theorem e_Reader_readPlant_83 : decode M_Reader_readPlant.2.1 83 = .ok (.iload_n 1, 1) := by decide +kernel
theorem e_Reader_readPlant_84 : decode M_Reader_readPlant.2.1 84 = .ok (.iload_n 3, 1) := by decide +kernel
theorem e_Reader_readPlant_85 : decode M_Reader_readPlant.2.1 85 = .ok (.iastore, 1) := by decide +kernel
theorem e_Reader_readPlant_86 : decode M_Reader_readPlant.2.1 86 = .ok (.aload_n 0, 1) := by decide +kernel
theorem e_Reader_readPlant_87 : decode M_Reader_readPlant.2.1 87 = .ok (.getfield 31, 3) := by decide +kernel
theorem e_Reader_readPlant_90 : decode M_Reader_readPlant.2.1 90 = .ok (.getfield 113, 3) := by decide +kernel
theorem e_Reader_readPlant_93 : decode M_Reader_readPlant.2.1 93 = .ok (.getfield 126, 3) := by decide +kernel
theorem e_Reader_readPlant_96 : decode M_Reader_readPlant.2.1 96 = .ok (.iload_n 1, 1) := by decide +kernel
theorem e_Reader_readPlant_97 : decode M_Reader_readPlant.2.1 97 = .ok (.iload 4, 2) := by decide +kernel
theorem e_Reader_readPlant_99 : decode M_Reader_readPlant.2.1 99 = .ok (.iastore, 1) := by decide +kernel
theorem e_Reader_readPlant_100 : decode M_Reader_readPlant.2.1 100 = .ok (.return_, 1) := by decide +kernel
theorem e_Reader_readOld_0 : decode M_Reader_readOld.2.1 0 = .ok (.aload_n 0, 1) := by decide +kernel
theorem e_Reader_readOld_1 : decode M_Reader_readOld.2.1 1 = .ok (.getfield 38, 3) := by decide +kernel
theorem e_Reader_readOld_4 : decode M_Reader_readOld.2.1 4 = .ok (.ifCond .eq 8, 3) := by decide +kernel
theorem e_Reader_readOld_7 : decode M_Reader_readOld.2.1 7 = .ok (.aload_n 0, 1) := by decide +kernel
theorem e_Reader_readOld_8 : decode M_Reader_readOld.2.1 8 = .ok (.iconst 4, 1) := by decide +kernel
theorem e_Reader_readOld_9 : decode M_Reader_readOld.2.1 9 = .ok (.invokevirtual 100, 3) := by decide +kernel
theorem e_Reader_readOld_12 : decode M_Reader_readOld.2.1 12 = .ok (.aload_n 0, 1) := by decide +kernel
theorem e_Reader_readOld_13 : decode M_Reader_readOld.2.1 13 = .ok (.iconst 1, 1) := by decide +kernel
theorem e_Reader_readOld_14 : decode M_Reader_readOld.2.1 14 = .ok (.putfield 38, 3) := by decide +kernel
theorem e_Reader_readOld_17 : decode M_Reader_readOld.2.1 17 = .ok (.aload_n 0, 1) := by decide +kernel
theorem e_Reader_readOld_18 : decode M_Reader_readOld.2.1 18 = .ok (.getfield 31, 3) := by decide +kernel
theorem e_Reader_readOld_21 : decode M_Reader_readOld.2.1 21 = .ok (.aload_n 0, 1) := by decide +kernel
theorem e_Reader_readOld_22 : decode M_Reader_readOld.2.1 22 = .ok (.iconst 1, 1) := by decide +kernel
theorem e_Reader_readOld_23 : decode M_Reader_readOld.2.1 23 = .ok (.bipush 9, 2) := by decide +kernel
theorem e_Reader_readOld_25 : decode M_Reader_readOld.2.1 25 = .ok (.invokevirtual 104, 3) := by decide +kernel
theorem e_Reader_readOld_28 : decode M_Reader_readOld.2.1 28 = .ok (.putfield 109, 3) := by decide +kernel
theorem e_Reader_readOld_31 : decode M_Reader_readOld.2.1 31 = .ok (.return_, 1) := by decide +kernel
theorem e_Reader_readOver_0 : decode M_Reader_readOver.2.1 0 = .ok (.aload_n 0, 1) := by decide +kernel
theorem e_Reader_readOver_1 : decode M_Reader_readOver.2.1 1 = .ok (.getfield 42, 3) := by decide +kernel
theorem e_Reader_readOver_4 : decode M_Reader_readOver.2.1 4 = .ok (.ifCond .eq 8, 3) := by decide +kernel
theorem e_Reader_readOver_7 : decode M_Reader_readOver.2.1 7 = .ok (.aload_n 0, 1) := by decide +kernel
theorem e_Reader_readOver_8 : decode M_Reader_readOver.2.1 8 = .ok (.iconst 4, 1) := by decide +kernel
theorem e_Reader_readOver_9 : decode M_Reader_readOver.2.1 9 = .ok (.invokevirtual 100, 3) := by decide +kernel
theorem e_Reader_readOver_12 : decode M_Reader_readOver.2.1 12 = .ok (.aload_n 0, 1) := by decide +kernel
theorem e_Reader_readOver_13 : decode M_Reader_readOver.2.1 13 = .ok (.iconst 1, 1) := by decide +kernel
theorem e_Reader_readOver_14 : decode M_Reader_readOver.2.1 14 = .ok (.putfield 42, 3) := by decide +kernel
theorem e_Reader_readOver_17 : decode M_Reader_readOver.2.1 17 = .ok (.aload_n 0, 1) := by decide +kernel
theorem e_Reader_readOver_18 : decode M_Reader_readOver.2.1 18 = .ok (.getfield 31, 3) := by decide +kernel
theorem e_Reader_readOver_21 : decode M_Reader_readOver.2.1 21 = .ok (.aload_n 0, 1) := by decide +kernel
theorem e_Reader_readOver_22 : decode M_Reader_readOver.2.1 22 = .ok (.iconst 0, 1) := by decide +kernel
theorem e_Reader_readOver_23 : decode M_Reader_readOver.2.1 23 = .ok (.bipush 9, 2) := by decide +kernel
theorem e_Reader_readOver_25 : decode M_Reader_readOver.2.1 25 = .ok (.invokevirtual 104, 3) := by decide +kernel
theorem e_Reader_readOver_28 : decode M_Reader_readOver.2.1 28 = .ok (.putfield 111, 3) := by decide +kernel
theorem e_Reader_readOver_31 : decode M_Reader_readOver.2.1 31 = .ok (.return_, 1) := by decide +kernel
theorem e_Reader_changePlan_0 : decode M_Reader_changePlan.2.1 0 = .ok (.aload_n 0, 1) := by decide +kernel
theorem e_Reader_changePlan_1 : decode M_Reader_changePlan.2.1 1 = .ok (.getfield 31, 3) := by decide +kernel
theorem e_Reader_changePlan_4 : decode M_Reader_changePlan.2.1 4 = .ok (.astore_n 2, 1) := by decide +kernel
theorem e_Reader_changePlan_5 : decode M_Reader_changePlan.2.1 5 = .ok (.aload_n 0, 1) := by decide +kernel
theorem e_Reader_changePlan_6 : decode M_Reader_changePlan.2.1 6 = .ok (.aload_n 1, 1) := by decide +kernel
theorem e_Reader_changePlan_7 : decode M_Reader_changePlan.2.1 7 = .ok (.putfield 31, 3) := by decide +kernel
theorem e_Reader_changePlan_10 : decode M_Reader_changePlan.2.1 10 = .ok (.aload_n 2, 1) := by decide +kernel
theorem e_Reader_changePlan_11 : decode M_Reader_changePlan.2.1 11 = .ok (.areturn, 1) := by decide +kernel
