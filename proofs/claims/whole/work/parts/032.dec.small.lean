/-! instructions of History Layout Links Memory Noted Plan Plants State Years (written by wip/whole/gen_dec.py) -/
theorem e_Plan_init_0 : decode M_Plan_init.2.1 0 = .ok (.aload_n 0, 1) := by decide +kernel
theorem e_Plan_init_1 : decode M_Plan_init.2.1 1 = .ok (.invokespecial 3, 3) := by decide +kernel
theorem e_Plan_init_4 : decode M_Plan_init.2.1 4 = .ok (.aload_n 0, 1) := by decide +kernel
theorem e_Plan_init_5 : decode M_Plan_init.2.1 5 = .ok (.iconst 2, 1) := by decide +kernel
theorem e_Plan_init_6 : decode M_Plan_init.2.1 6 = .ok (.putfield 9, 3) := by decide +kernel
theorem e_Plan_init_9 : decode M_Plan_init.2.1 9 = .ok (.aload_n 0, 1) := by decide +kernel
theorem e_Plan_init_10 : decode M_Plan_init.2.1 10 = .ok (.iconst 3, 1) := by decide +kernel
theorem e_Plan_init_11 : decode M_Plan_init.2.1 11 = .ok (.putfield 15, 3) := by decide +kernel
theorem e_Plan_init_14 : decode M_Plan_init.2.1 14 = .ok (.aload_n 0, 1) := by decide +kernel
theorem e_Plan_init_15 : decode M_Plan_init.2.1 15 = .ok (.iconst 2, 1) := by decide +kernel
theorem e_Plan_init_16 : decode M_Plan_init.2.1 16 = .ok (.putfield 18, 3) := by decide +kernel
theorem e_Plan_init_19 : decode M_Plan_init.2.1 19 = .ok (.aload_n 0, 1) := by decide +kernel
theorem e_Plan_init_20 : decode M_Plan_init.2.1 20 = .ok (.iconst 0, 1) := by decide +kernel
theorem e_Plan_init_21 : decode M_Plan_init.2.1 21 = .ok (.putfield 21, 3) := by decide +kernel
theorem e_Plan_init_24 : decode M_Plan_init.2.1 24 = .ok (.aload_n 0, 1) := by decide +kernel
theorem e_Plan_init_25 : decode M_Plan_init.2.1 25 = .ok (.bipush 10, 2) := by decide +kernel
theorem e_Plan_init_27 : decode M_Plan_init.2.1 27 = .ok (.newarray .int, 2) := by decide +kernel
theorem e_Plan_init_29 : decode M_Plan_init.2.1 29 = .ok (.putfield 24, 3) := by decide +kernel
theorem e_Plan_init_32 : decode M_Plan_init.2.1 32 = .ok (.aload_n 0, 1) := by decide +kernel
theorem e_Plan_init_33 : decode M_Plan_init.2.1 33 = .ok (.bipush 10, 2) := by decide +kernel
theorem e_Plan_init_35 : decode M_Plan_init.2.1 35 = .ok (.newarray .int, 2) := by decide +kernel
theorem e_Plan_init_37 : decode M_Plan_init.2.1 37 = .ok (.putfield 28, 3) := by decide +kernel
theorem e_Plan_init_40 : decode M_Plan_init.2.1 40 = .ok (.aload_n 0, 1) := by decide +kernel
theorem e_Plan_init_41 : decode M_Plan_init.2.1 41 = .ok (.bipush 10, 2) := by decide +kernel
theorem e_Plan_init_43 : decode M_Plan_init.2.1 43 = .ok (.newarray .int, 2) := by decide +kernel
theorem e_Plan_init_45 : decode M_Plan_init.2.1 45 = .ok (.putfield 31, 3) := by decide +kernel
theorem e_Plan_init_48 : decode M_Plan_init.2.1 48 = .ok (.aload_n 0, 1) := by decide +kernel
theorem e_Plan_init_49 : decode M_Plan_init.2.1 49 = .ok (.bipush 10, 2) := by decide +kernel
theorem e_Plan_init_51 : decode M_Plan_init.2.1 51 = .ok (.newarray .int, 2) := by decide +kernel
theorem e_Plan_init_53 : decode M_Plan_init.2.1 53 = .ok (.putfield 34, 3) := by decide +kernel
theorem e_Plan_init_56 : decode M_Plan_init.2.1 56 = .ok (.aload_n 0, 1) := by decide +kernel
theorem e_Plan_init_57 : decode M_Plan_init.2.1 57 = .ok (.bipush 10, 2) := by decide +kernel
theorem e_Plan_init_59 : decode M_Plan_init.2.1 59 = .ok (.newarray .int, 2) := by decide +kernel
theorem e_Plan_init_61 : decode M_Plan_init.2.1 61 = .ok (.putfield 37, 3) := by decide +kernel
theorem e_Plan_init_64 : decode M_Plan_init.2.1 64 = .ok (.aload_n 0, 1) := by decide +kernel
theorem e_Plan_init_65 : decode M_Plan_init.2.1 65 = .ok (.bipush 10, 2) := by decide +kernel
theorem e_Plan_init_67 : decode M_Plan_init.2.1 67 = .ok (.newarray .int, 2) := by decide +kernel
theorem e_Plan_init_69 : decode M_Plan_init.2.1 69 = .ok (.putfield 40, 3) := by decide +kernel
theorem e_Plan_init_72 : decode M_Plan_init.2.1 72 = .ok (.aload_n 0, 1) := by decide +kernel
theorem e_Plan_init_73 : decode M_Plan_init.2.1 73 = .ok (.bipush 10, 2) := by decide +kernel
theorem e_Plan_init_75 : decode M_Plan_init.2.1 75 = .ok (.newarray .int, 2) := by decide +kernel
theorem e_Plan_init_77 : decode M_Plan_init.2.1 77 = .ok (.putfield 43, 3) := by decide +kernel
theorem e_Plan_init_80 : decode M_Plan_init.2.1 80 = .ok (.aload_n 0, 1) := by decide +kernel
theorem e_Plan_init_81 : decode M_Plan_init.2.1 81 = .ok (.bipush 10, 2) := by decide +kernel
theorem e_Plan_init_83 : decode M_Plan_init.2.1 83 = .ok (.newarray .int, 2) := by decide +kernel
theorem e_Plan_init_85 : decode M_Plan_init.2.1 85 = .ok (.putfield 46, 3) := by decide +kernel
theorem e_Plan_init_88 : decode M_Plan_init.2.1 88 = .ok (.aload_n 0, 1) := by decide +kernel
theorem e_Plan_init_89 : decode M_Plan_init.2.1 89 = .ok (.bipush 10, 2) := by decide +kernel
theorem e_Plan_init_91 : decode M_Plan_init.2.1 91 = .ok (.newarray .boolean, 2) := by decide +kernel
theorem e_Plan_init_93 : decode M_Plan_init.2.1 93 = .ok (.putfield 49, 3) := by decide +kernel
theorem e_Plan_init_96 : decode M_Plan_init.2.1 96 = .ok (.aload_n 0, 1) := by decide +kernel
theorem e_Plan_init_97 : decode M_Plan_init.2.1 97 = .ok (.bipush 10, 2) := by decide +kernel
theorem e_Plan_init_99 : decode M_Plan_init.2.1 99 = .ok (.newarray .boolean, 2) := by decide +kernel
theorem e_Plan_init_101 : decode M_Plan_init.2.1 101 = .ok (.putfield 53, 3) := by decide +kernel
theorem e_Plan_init_104 : decode M_Plan_init.2.1 104 = .ok (.aload_n 0, 1) := by decide +kernel
theorem e_Plan_init_105 : decode M_Plan_init.2.1 105 = .ok (.bipush 30, 2) := by decide +kernel
theorem e_Plan_init_107 : decode M_Plan_init.2.1 107 = .ok (.newarray .int, 2) := by decide +kernel
theorem e_Plan_init_109 : decode M_Plan_init.2.1 109 = .ok (.putfield 56, 3) := by decide +kernel
theorem e_Plan_init_112 : decode M_Plan_init.2.1 112 = .ok (.aload_n 0, 1) := by decide +kernel
theorem e_Plan_init_113 : decode M_Plan_init.2.1 113 = .ok (.bipush 10, 2) := by decide +kernel
theorem e_Plan_init_115 : decode M_Plan_init.2.1 115 = .ok (.newarray .int, 2) := by decide +kernel
theorem e_Plan_init_117 : decode M_Plan_init.2.1 117 = .ok (.putfield 59, 3) := by decide +kernel
theorem e_Plan_init_120 : decode M_Plan_init.2.1 120 = .ok (.aload_n 0, 1) := by decide +kernel
theorem e_Plan_init_121 : decode M_Plan_init.2.1 121 = .ok (.new 62, 3) := by decide +kernel
theorem e_Plan_init_124 : decode M_Plan_init.2.1 124 = .ok (.dup, 1) := by decide +kernel
theorem e_Plan_init_125 : decode M_Plan_init.2.1 125 = .ok (.invokespecial 64, 3) := by decide +kernel
theorem e_Plan_init_128 : decode M_Plan_init.2.1 128 = .ok (.putfield 65, 3) := by decide +kernel
theorem e_Plan_init_131 : decode M_Plan_init.2.1 131 = .ok (.aload_n 0, 1) := by decide +kernel
theorem e_Plan_init_132 : decode M_Plan_init.2.1 132 = .ok (.new 69, 3) := by decide +kernel
theorem e_Plan_init_135 : decode M_Plan_init.2.1 135 = .ok (.dup, 1) := by decide +kernel
theorem e_Plan_init_136 : decode M_Plan_init.2.1 136 = .ok (.invokespecial 71, 3) := by decide +kernel
theorem e_Plan_init_139 : decode M_Plan_init.2.1 139 = .ok (.putfield 72, 3) := by decide +kernel
theorem e_Plan_init_142 : decode M_Plan_init.2.1 142 = .ok (.aload_n 0, 1) := by decide +kernel
theorem e_Plan_init_143 : decode M_Plan_init.2.1 143 = .ok (.new 76, 3) := by decide +kernel
theorem e_Plan_init_146 : decode M_Plan_init.2.1 146 = .ok (.dup, 1) := by decide +kernel
theorem e_Plan_init_147 : decode M_Plan_init.2.1 147 = .ok (.invokespecial 78, 3) := by decide +kernel
theorem e_Plan_init_150 : decode M_Plan_init.2.1 150 = .ok (.putfield 79, 3) := by decide +kernel
theorem e_Plan_init_153 : decode M_Plan_init.2.1 153 = .ok (.return_, 1) := by decide +kernel
theorem e_Links_init_0 : decode M_Links_init.2.1 0 = .ok (.aload_n 0, 1) := by decide +kernel
theorem e_Links_init_1 : decode M_Links_init.2.1 1 = .ok (.invokespecial 3, 3) := by decide +kernel
theorem e_Links_init_4 : decode M_Links_init.2.1 4 = .ok (.aload_n 0, 1) := by decide +kernel
theorem e_Links_init_5 : decode M_Links_init.2.1 5 = .ok (.iconst 0, 1) := by decide +kernel
theorem e_Links_init_6 : decode M_Links_init.2.1 6 = .ok (.putfield 9, 3) := by decide +kernel
theorem e_Links_init_9 : decode M_Links_init.2.1 9 = .ok (.aload_n 0, 1) := by decide +kernel
theorem e_Links_init_10 : decode M_Links_init.2.1 10 = .ok (.bipush 12, 2) := by decide +kernel
theorem e_Links_init_12 : decode M_Links_init.2.1 12 = .ok (.newarray .int, 2) := by decide +kernel
theorem e_Links_init_14 : decode M_Links_init.2.1 14 = .ok (.putfield 15, 3) := by decide +kernel
theorem e_Links_init_17 : decode M_Links_init.2.1 17 = .ok (.aload_n 0, 1) := by decide +kernel
theorem e_Links_init_18 : decode M_Links_init.2.1 18 = .ok (.bipush 12, 2) := by decide +kernel
theorem e_Links_init_20 : decode M_Links_init.2.1 20 = .ok (.newarray .int, 2) := by decide +kernel
theorem e_Links_init_22 : decode M_Links_init.2.1 22 = .ok (.putfield 19, 3) := by decide +kernel
theorem e_Links_init_25 : decode M_Links_init.2.1 25 = .ok (.aload_n 0, 1) := by decide +kernel
theorem e_Links_init_26 : decode M_Links_init.2.1 26 = .ok (.bipush 12, 2) := by decide +kernel
theorem e_Links_init_28 : decode M_Links_init.2.1 28 = .ok (.newarray .int, 2) := by decide +kernel
theorem e_Links_init_30 : decode M_Links_init.2.1 30 = .ok (.putfield 22, 3) := by decide +kernel
theorem e_Links_init_33 : decode M_Links_init.2.1 33 = .ok (.return_, 1) := by decide +kernel
theorem e_Plants_init_0 : decode M_Plants_init.2.1 0 = .ok (.aload_n 0, 1) := by decide +kernel
theorem e_Plants_init_1 : decode M_Plants_init.2.1 1 = .ok (.invokespecial 3, 3) := by decide +kernel
theorem e_Plants_init_4 : decode M_Plants_init.2.1 4 = .ok (.aload_n 0, 1) := by decide +kernel
theorem e_Plants_init_5 : decode M_Plants_init.2.1 5 = .ok (.iconst 4, 1) := by decide +kernel
theorem e_Plants_init_6 : decode M_Plants_init.2.1 6 = .ok (.newarray .int, 2) := by decide +kernel
theorem e_Plants_init_8 : decode M_Plants_init.2.1 8 = .ok (.dup, 1) := by decide +kernel
theorem e_Plants_init_9 : decode M_Plants_init.2.1 9 = .ok (.iconst 0, 1) := by decide +kernel
theorem e_Plants_init_10 : decode M_Plants_init.2.1 10 = .ok (.iconst (-1), 1) := by decide +kernel
theorem e_Plants_init_11 : decode M_Plants_init.2.1 11 = .ok (.iastore, 1) := by decide +kernel
theorem e_Plants_init_12 : decode M_Plants_init.2.1 12 = .ok (.dup, 1) := by decide +kernel
theorem e_Plants_init_13 : decode M_Plants_init.2.1 13 = .ok (.iconst 1, 1) := by decide +kernel
theorem e_Plants_init_14 : decode M_Plants_init.2.1 14 = .ok (.iconst (-1), 1) := by decide +kernel
theorem e_Plants_init_15 : decode M_Plants_init.2.1 15 = .ok (.iastore, 1) := by decide +kernel
theorem e_Plants_init_16 : decode M_Plants_init.2.1 16 = .ok (.dup, 1) := by decide +kernel
theorem e_Plants_init_17 : decode M_Plants_init.2.1 17 = .ok (.iconst 2, 1) := by decide +kernel
theorem e_Plants_init_18 : decode M_Plants_init.2.1 18 = .ok (.iconst (-1), 1) := by decide +kernel
theorem e_Plants_init_19 : decode M_Plants_init.2.1 19 = .ok (.iastore, 1) := by decide +kernel
theorem e_Plants_init_20 : decode M_Plants_init.2.1 20 = .ok (.dup, 1) := by decide +kernel
theorem e_Plants_init_21 : decode M_Plants_init.2.1 21 = .ok (.iconst 3, 1) := by decide +kernel
theorem e_Plants_init_22 : decode M_Plants_init.2.1 22 = .ok (.iconst (-1), 1) := by decide +kernel
theorem e_Plants_init_23 : decode M_Plants_init.2.1 23 = .ok (.iastore, 1) := by decide +kernel
theorem e_Plants_init_24 : decode M_Plants_init.2.1 24 = .ok (.putfield 9, 3) := by decide +kernel
theorem e_Plants_init_27 : decode M_Plants_init.2.1 27 = .ok (.aload_n 0, 1) := by decide +kernel
theorem e_Plants_init_28 : decode M_Plants_init.2.1 28 = .ok (.iconst 4, 1) := by decide +kernel
theorem e_Plants_init_29 : decode M_Plants_init.2.1 29 = .ok (.newarray .int, 2) := by decide +kernel
theorem e_Plants_init_31 : decode M_Plants_init.2.1 31 = .ok (.putfield 15, 3) := by decide +kernel
theorem e_Plants_init_34 : decode M_Plants_init.2.1 34 = .ok (.aload_n 0, 1) := by decide +kernel
theorem e_Plants_init_35 : decode M_Plants_init.2.1 35 = .ok (.iconst 4, 1) := by decide +kernel
theorem e_Plants_init_36 : decode M_Plants_init.2.1 36 = .ok (.newarray .int, 2) := by decide +kernel
theorem e_Plants_init_38 : decode M_Plants_init.2.1 38 = .ok (.putfield 18, 3) := by decide +kernel
theorem e_Plants_init_41 : decode M_Plants_init.2.1 41 = .ok (.return_, 1) := by decide +kernel
theorem e_Layout_init_0 : decode M_Layout_init.2.1 0 = .ok (.aload_n 0, 1) := by decide +kernel
theorem e_Layout_init_1 : decode M_Layout_init.2.1 1 = .ok (.invokespecial 3, 3) := by decide +kernel
theorem e_Layout_init_4 : decode M_Layout_init.2.1 4 = .ok (.aload_n 0, 1) := by decide +kernel
theorem e_Layout_init_5 : decode M_Layout_init.2.1 5 = .ok (.iconst 0, 1) := by decide +kernel
theorem e_Layout_init_6 : decode M_Layout_init.2.1 6 = .ok (.putfield 9, 3) := by decide +kernel
theorem e_Layout_init_9 : decode M_Layout_init.2.1 9 = .ok (.aload_n 0, 1) := by decide +kernel
theorem e_Layout_init_10 : decode M_Layout_init.2.1 10 = .ok (.iconst 0, 1) := by decide +kernel
theorem e_Layout_init_11 : decode M_Layout_init.2.1 11 = .ok (.putfield 15, 3) := by decide +kernel
theorem e_Layout_init_14 : decode M_Layout_init.2.1 14 = .ok (.aload_n 0, 1) := by decide +kernel
theorem e_Layout_init_15 : decode M_Layout_init.2.1 15 = .ok (.iconst 0, 1) := by decide +kernel
theorem e_Layout_init_16 : decode M_Layout_init.2.1 16 = .ok (.putfield 18, 3) := by decide +kernel
theorem e_Layout_init_19 : decode M_Layout_init.2.1 19 = .ok (.aload_n 0, 1) := by decide +kernel
theorem e_Layout_init_20 : decode M_Layout_init.2.1 20 = .ok (.bipush 10, 2) := by decide +kernel
theorem e_Layout_init_22 : decode M_Layout_init.2.1 22 = .ok (.newarray .int, 2) := by decide +kernel
theorem e_Layout_init_24 : decode M_Layout_init.2.1 24 = .ok (.putfield 21, 3) := by decide +kernel
theorem e_Layout_init_27 : decode M_Layout_init.2.1 27 = .ok (.aload_n 0, 1) := by decide +kernel
theorem e_Layout_init_28 : decode M_Layout_init.2.1 28 = .ok (.bipush 10, 2) := by decide +kernel
theorem e_Layout_init_30 : decode M_Layout_init.2.1 30 = .ok (.newarray .int, 2) := by decide +kernel
theorem e_Layout_init_32 : decode M_Layout_init.2.1 32 = .ok (.putfield 25, 3) := by decide +kernel
theorem e_Layout_init_35 : decode M_Layout_init.2.1 35 = .ok (.aload_n 0, 1) := by decide +kernel
theorem e_Layout_init_36 : decode M_Layout_init.2.1 36 = .ok (.bipush 10, 2) := by decide +kernel
theorem e_Layout_init_38 : decode M_Layout_init.2.1 38 = .ok (.newarray .int, 2) := by decide +kernel
theorem e_Layout_init_40 : decode M_Layout_init.2.1 40 = .ok (.putfield 28, 3) := by decide +kernel
theorem e_Layout_init_43 : decode M_Layout_init.2.1 43 = .ok (.aload_n 0, 1) := by decide +kernel
theorem e_Layout_init_44 : decode M_Layout_init.2.1 44 = .ok (.bipush 10, 2) := by decide +kernel
theorem e_Layout_init_46 : decode M_Layout_init.2.1 46 = .ok (.newarray .int, 2) := by decide +kernel
theorem e_Layout_init_48 : decode M_Layout_init.2.1 48 = .ok (.putfield 31, 3) := by decide +kernel
theorem e_Layout_init_51 : decode M_Layout_init.2.1 51 = .ok (.aload_n 0, 1) := by decide +kernel
theorem e_Layout_init_52 : decode M_Layout_init.2.1 52 = .ok (.bipush 12, 2) := by decide +kernel
theorem e_Layout_init_54 : decode M_Layout_init.2.1 54 = .ok (.newarray .int, 2) := by decide +kernel
theorem e_Layout_init_56 : decode M_Layout_init.2.1 56 = .ok (.putfield 34, 3) := by decide +kernel
theorem e_Layout_init_59 : decode M_Layout_init.2.1 59 = .ok (.aload_n 0, 1) := by decide +kernel
theorem e_Layout_init_60 : decode M_Layout_init.2.1 60 = .ok (.bipush 12, 2) := by decide +kernel
theorem e_Layout_init_62 : decode M_Layout_init.2.1 62 = .ok (.newarray .int, 2) := by decide +kernel
theorem e_Layout_init_64 : decode M_Layout_init.2.1 64 = .ok (.putfield 37, 3) := by decide +kernel
theorem e_Layout_init_67 : decode M_Layout_init.2.1 67 = .ok (.aload_n 0, 1) := by decide +kernel
theorem e_Layout_init_68 : decode M_Layout_init.2.1 68 = .ok (.iconst 5, 1) := by decide +kernel
theorem e_Layout_init_69 : decode M_Layout_init.2.1 69 = .ok (.newarray .int, 2) := by decide +kernel
theorem e_Layout_init_71 : decode M_Layout_init.2.1 71 = .ok (.putfield 40, 3) := by decide +kernel
theorem e_Layout_init_74 : decode M_Layout_init.2.1 74 = .ok (.return_, 1) := by decide +kernel
theorem e_Memory_init_0 : decode M_Memory_init.2.1 0 = .ok (.aload_n 0, 1) := by decide +kernel
theorem e_Memory_init_1 : decode M_Memory_init.2.1 1 = .ok (.invokespecial 3, 3) := by decide +kernel
theorem e_Memory_init_4 : decode M_Memory_init.2.1 4 = .ok (.aload_n 0, 1) := by decide +kernel
theorem e_Memory_init_5 : decode M_Memory_init.2.1 5 = .ok (.new 9, 3) := by decide +kernel
theorem e_Memory_init_8 : decode M_Memory_init.2.1 8 = .ok (.dup, 1) := by decide +kernel
theorem e_Memory_init_9 : decode M_Memory_init.2.1 9 = .ok (.invokespecial 11, 3) := by decide +kernel
theorem e_Memory_init_12 : decode M_Memory_init.2.1 12 = .ok (.putfield 12, 3) := by decide +kernel
theorem e_Memory_init_15 : decode M_Memory_init.2.1 15 = .ok (.aload_n 0, 1) := by decide +kernel
theorem e_Memory_init_16 : decode M_Memory_init.2.1 16 = .ok (.new 18, 3) := by decide +kernel
theorem e_Memory_init_19 : decode M_Memory_init.2.1 19 = .ok (.dup, 1) := by decide +kernel
theorem e_Memory_init_20 : decode M_Memory_init.2.1 20 = .ok (.invokespecial 20, 3) := by decide +kernel
theorem e_Memory_init_23 : decode M_Memory_init.2.1 23 = .ok (.putfield 21, 3) := by decide +kernel
theorem e_Memory_init_26 : decode M_Memory_init.2.1 26 = .ok (.aload_n 0, 1) := by decide +kernel
theorem e_Memory_init_27 : decode M_Memory_init.2.1 27 = .ok (.new 25, 3) := by decide +kernel
theorem e_Memory_init_30 : decode M_Memory_init.2.1 30 = .ok (.dup, 1) := by decide +kernel
theorem e_Memory_init_31 : decode M_Memory_init.2.1 31 = .ok (.invokespecial 27, 3) := by decide +kernel
theorem e_Memory_init_34 : decode M_Memory_init.2.1 34 = .ok (.putfield 28, 3) := by decide +kernel
theorem e_Memory_init_37 : decode M_Memory_init.2.1 37 = .ok (.aload_n 0, 1) := by decide +kernel
theorem e_Memory_init_38 : decode M_Memory_init.2.1 38 = .ok (.iconst 3, 1) := by decide +kernel
theorem e_Memory_init_39 : decode M_Memory_init.2.1 39 = .ok (.newarray .int, 2) := by decide +kernel
theorem e_Memory_init_41 : decode M_Memory_init.2.1 41 = .ok (.putfield 32, 3) := by decide +kernel
theorem e_Memory_init_44 : decode M_Memory_init.2.1 44 = .ok (.return_, 1) := by decide +kernel
theorem e_State_init_0 : decode M_State_init.2.1 0 = .ok (.aload_n 0, 1) := by decide +kernel
theorem e_State_init_1 : decode M_State_init.2.1 1 = .ok (.invokespecial 3, 3) := by decide +kernel
theorem e_State_init_4 : decode M_State_init.2.1 4 = .ok (.aload_n 0, 1) := by decide +kernel
theorem e_State_init_5 : decode M_State_init.2.1 5 = .ok (.sipush 225, 3) := by decide +kernel
theorem e_State_init_8 : decode M_State_init.2.1 8 = .ok (.newarray .int, 2) := by decide +kernel
theorem e_State_init_10 : decode M_State_init.2.1 10 = .ok (.putfield 9, 3) := by decide +kernel
theorem e_State_init_13 : decode M_State_init.2.1 13 = .ok (.return_, 1) := by decide +kernel
theorem e_History_init_0 : decode M_History_init.2.1 0 = .ok (.aload_n 0, 1) := by decide +kernel
theorem e_History_init_1 : decode M_History_init.2.1 1 = .ok (.invokespecial 3, 3) := by decide +kernel
theorem e_History_init_4 : decode M_History_init.2.1 4 = .ok (.aload_n 0, 1) := by decide +kernel
theorem e_History_init_5 : decode M_History_init.2.1 5 = .ok (.iconst 0, 1) := by decide +kernel
theorem e_History_init_6 : decode M_History_init.2.1 6 = .ok (.putfield 9, 3) := by decide +kernel
theorem e_History_init_9 : decode M_History_init.2.1 9 = .ok (.aload_n 0, 1) := by decide +kernel
theorem e_History_init_10 : decode M_History_init.2.1 10 = .ok (.iconst 0, 1) := by decide +kernel
theorem e_History_init_11 : decode M_History_init.2.1 11 = .ok (.putfield 15, 3) := by decide +kernel
theorem e_History_init_14 : decode M_History_init.2.1 14 = .ok (.aload_n 0, 1) := by decide +kernel
theorem e_History_init_15 : decode M_History_init.2.1 15 = .ok (.bipush 40, 2) := by decide +kernel
theorem e_History_init_17 : decode M_History_init.2.1 17 = .ok (.anewarray 18, 3) := by decide +kernel
theorem e_History_init_20 : decode M_History_init.2.1 20 = .ok (.putfield 20, 3) := by decide +kernel
theorem e_History_init_23 : decode M_History_init.2.1 23 = .ok (.return_, 1) := by decide +kernel
theorem e_Noted_init_0 : decode M_Noted_init.2.1 0 = .ok (.aload_n 0, 1) := by decide +kernel
theorem e_Noted_init_1 : decode M_Noted_init.2.1 1 = .ok (.invokespecial 3, 3) := by decide +kernel
theorem e_Noted_init_4 : decode M_Noted_init.2.1 4 = .ok (.aload_n 0, 1) := by decide +kernel
theorem e_Noted_init_5 : decode M_Noted_init.2.1 5 = .ok (.iconst 0, 1) := by decide +kernel
theorem e_Noted_init_6 : decode M_Noted_init.2.1 6 = .ok (.putfield 9, 3) := by decide +kernel
theorem e_Noted_init_9 : decode M_Noted_init.2.1 9 = .ok (.aload_n 0, 1) := by decide +kernel
theorem e_Noted_init_10 : decode M_Noted_init.2.1 10 = .ok (.bipush 6, 2) := by decide +kernel
theorem e_Noted_init_12 : decode M_Noted_init.2.1 12 = .ok (.newarray .int, 2) := by decide +kernel
theorem e_Noted_init_14 : decode M_Noted_init.2.1 14 = .ok (.putfield 15, 3) := by decide +kernel
theorem e_Noted_init_17 : decode M_Noted_init.2.1 17 = .ok (.aload_n 0, 1) := by decide +kernel
theorem e_Noted_init_18 : decode M_Noted_init.2.1 18 = .ok (.bipush 6, 2) := by decide +kernel
theorem e_Noted_init_20 : decode M_Noted_init.2.1 20 = .ok (.newarray .int, 2) := by decide +kernel
theorem e_Noted_init_22 : decode M_Noted_init.2.1 22 = .ok (.putfield 19, 3) := by decide +kernel
theorem e_Noted_init_25 : decode M_Noted_init.2.1 25 = .ok (.aload_n 0, 1) := by decide +kernel
theorem e_Noted_init_26 : decode M_Noted_init.2.1 26 = .ok (.bipush 6, 2) := by decide +kernel
theorem e_Noted_init_28 : decode M_Noted_init.2.1 28 = .ok (.newarray .int, 2) := by decide +kernel
theorem e_Noted_init_30 : decode M_Noted_init.2.1 30 = .ok (.putfield 22, 3) := by decide +kernel
theorem e_Noted_init_33 : decode M_Noted_init.2.1 33 = .ok (.return_, 1) := by decide +kernel
theorem e_Years_init_0 : decode M_Years_init.2.1 0 = .ok (.aload_n 0, 1) := by decide +kernel
theorem e_Years_init_1 : decode M_Years_init.2.1 1 = .ok (.invokespecial 3, 3) := by decide +kernel
theorem e_Years_init_4 : decode M_Years_init.2.1 4 = .ok (.aload_n 0, 1) := by decide +kernel
theorem e_Years_init_5 : decode M_Years_init.2.1 5 = .ok (.iconst 0, 1) := by decide +kernel
theorem e_Years_init_6 : decode M_Years_init.2.1 6 = .ok (.putfield 9, 3) := by decide +kernel
theorem e_Years_init_9 : decode M_Years_init.2.1 9 = .ok (.aload_n 0, 1) := by decide +kernel
theorem e_Years_init_10 : decode M_Years_init.2.1 10 = .ok (.iconst 0, 1) := by decide +kernel
theorem e_Years_init_11 : decode M_Years_init.2.1 11 = .ok (.putfield 15, 3) := by decide +kernel
theorem e_Years_init_14 : decode M_Years_init.2.1 14 = .ok (.return_, 1) := by decide +kernel
theorem e_State_startAnew_0 : decode M_State_startAnew.2.1 0 = .ok (.iconst 0, 1) := by decide +kernel
theorem e_State_startAnew_1 : decode M_State_startAnew.2.1 1 = .ok (.istore_n 2, 1) := by decide +kernel
theorem e_State_startAnew_2 : decode M_State_startAnew.2.1 2 = .ok (.iload_n 2, 1) := by decide +kernel
theorem e_State_startAnew_3 : decode M_State_startAnew.2.1 3 = .ok (.sipush 225, 3) := by decide +kernel
theorem e_State_startAnew_6 : decode M_State_startAnew.2.1 6 = .ok (.if_icmp .ge 16, 3) := by decide +kernel
theorem e_State_startAnew_9 : decode M_State_startAnew.2.1 9 = .ok (.aload_n 0, 1) := by decide +kernel
theorem e_State_startAnew_10 : decode M_State_startAnew.2.1 10 = .ok (.getfield 9, 3) := by decide +kernel
theorem e_State_startAnew_13 : decode M_State_startAnew.2.1 13 = .ok (.iload_n 2, 1) := by decide +kernel
theorem e_State_startAnew_14 : decode M_State_startAnew.2.1 14 = .ok (.iconst 0, 1) := by decide +kernel
theorem e_State_startAnew_15 : decode M_State_startAnew.2.1 15 = .ok (.iastore, 1) := by decide +kernel
theorem e_State_startAnew_16 : decode M_State_startAnew.2.1 16 = .ok (.iinc 2 1, 3) := by decide +kernel
theorem e_State_startAnew_19 : decode M_State_startAnew.2.1 19 = .ok (.goto (-17), 3) := by decide +kernel
theorem e_State_startAnew_22 : decode M_State_startAnew.2.1 22 = .ok (.iconst 0, 1) := by decide +kernel
theorem e_State_startAnew_23 : decode M_State_startAnew.2.1 23 = .ok (.istore_n 2, 1) := by decide +kernel
theorem e_State_startAnew_24 : decode M_State_startAnew.2.1 24 = .ok (.iload_n 2, 1) := by decide +kernel
theorem e_State_startAnew_25 : decode M_State_startAnew.2.1 25 = .ok (.aload_n 1, 1) := by decide +kernel
theorem e_State_startAnew_26 : decode M_State_startAnew.2.1 26 = .ok (.getfield 21, 3) := by decide +kernel
theorem e_State_startAnew_29 : decode M_State_startAnew.2.1 29 = .ok (.if_icmp .ge 74, 3) := by decide +kernel
theorem e_State_startAnew_32 : decode M_State_startAnew.2.1 32 = .ok (.iload_n 2, 1) := by decide +kernel
theorem e_State_startAnew_33 : decode M_State_startAnew.2.1 33 = .ok (.bipush 9, 2) := by decide +kernel
theorem e_State_startAnew_35 : decode M_State_startAnew.2.1 35 = .ok (.imul, 1) := by decide +kernel
theorem e_State_startAnew_36 : decode M_State_startAnew.2.1 36 = .ok (.istore_n 3, 1) := by decide +kernel
theorem e_State_startAnew_37 : decode M_State_startAnew.2.1 37 = .ok (.aload_n 0, 1) := by decide +kernel
theorem e_State_startAnew_38 : decode M_State_startAnew.2.1 38 = .ok (.getfield 9, 3) := by decide +kernel
theorem e_State_startAnew_41 : decode M_State_startAnew.2.1 41 = .ok (.iload_n 3, 1) := by decide +kernel
theorem e_State_startAnew_42 : decode M_State_startAnew.2.1 42 = .ok (.iconst 0, 1) := by decide +kernel
theorem e_State_startAnew_43 : decode M_State_startAnew.2.1 43 = .ok (.iadd, 1) := by decide +kernel
theorem e_State_startAnew_44 : decode M_State_startAnew.2.1 44 = .ok (.aload_n 1, 1) := by decide +kernel
theorem e_State_startAnew_45 : decode M_State_startAnew.2.1 45 = .ok (.getfield 27, 3) := by decide +kernel
theorem e_State_startAnew_48 : decode M_State_startAnew.2.1 48 = .ok (.iload_n 2, 1) := by decide +kernel
theorem e_State_startAnew_49 : decode M_State_startAnew.2.1 49 = .ok (.iconst 3, 1) := by decide +kernel
theorem e_State_startAnew_50 : decode M_State_startAnew.2.1 50 = .ok (.imul, 1) := by decide +kernel
theorem e_State_startAnew_51 : decode M_State_startAnew.2.1 51 = .ok (.iconst 2, 1) := by decide +kernel
theorem e_State_startAnew_52 : decode M_State_startAnew.2.1 52 = .ok (.iadd, 1) := by decide +kernel
theorem e_State_startAnew_53 : decode M_State_startAnew.2.1 53 = .ok (.iaload, 1) := by decide +kernel
theorem e_State_startAnew_54 : decode M_State_startAnew.2.1 54 = .ok (.iconst (-1), 1) := by decide +kernel
theorem e_State_startAnew_55 : decode M_State_startAnew.2.1 55 = .ok (.if_icmp .ne 7, 3) := by decide +kernel
theorem e_State_startAnew_58 : decode M_State_startAnew.2.1 58 = .ok (.iconst 2, 1) := by decide +kernel
theorem e_State_startAnew_59 : decode M_State_startAnew.2.1 59 = .ok (.goto 4, 3) := by decide +kernel
theorem e_State_startAnew_62 : decode M_State_startAnew.2.1 62 = .ok (.iconst 3, 1) := by decide +kernel
theorem e_State_startAnew_63 : decode M_State_startAnew.2.1 63 = .ok (.iastore, 1) := by decide +kernel
theorem e_State_startAnew_64 : decode M_State_startAnew.2.1 64 = .ok (.aload_n 0, 1) := by decide +kernel
theorem e_State_startAnew_65 : decode M_State_startAnew.2.1 65 = .ok (.getfield 9, 3) := by decide +kernel
theorem e_State_startAnew_68 : decode M_State_startAnew.2.1 68 = .ok (.iload_n 3, 1) := by decide +kernel
theorem e_State_startAnew_69 : decode M_State_startAnew.2.1 69 = .ok (.iconst 1, 1) := by decide +kernel
theorem e_State_startAnew_70 : decode M_State_startAnew.2.1 70 = .ok (.iadd, 1) := by decide +kernel
theorem e_State_startAnew_71 : decode M_State_startAnew.2.1 71 = .ok (.iconst 1, 1) := by decide +kernel
theorem e_State_startAnew_72 : decode M_State_startAnew.2.1 72 = .ok (.iastore, 1) := by decide +kernel
theorem e_State_startAnew_73 : decode M_State_startAnew.2.1 73 = .ok (.aload_n 0, 1) := by decide +kernel
theorem e_State_startAnew_74 : decode M_State_startAnew.2.1 74 = .ok (.getfield 9, 3) := by decide +kernel
theorem e_State_startAnew_77 : decode M_State_startAnew.2.1 77 = .ok (.iload_n 3, 1) := by decide +kernel
theorem e_State_startAnew_78 : decode M_State_startAnew.2.1 78 = .ok (.iconst 5, 1) := by decide +kernel
theorem e_State_startAnew_79 : decode M_State_startAnew.2.1 79 = .ok (.iadd, 1) := by decide +kernel
theorem e_State_startAnew_80 : decode M_State_startAnew.2.1 80 = .ok (.iconst 1, 1) := by decide +kernel
theorem e_State_startAnew_81 : decode M_State_startAnew.2.1 81 = .ok (.iastore, 1) := by decide +kernel
theorem e_State_startAnew_82 : decode M_State_startAnew.2.1 82 = .ok (.aload_n 0, 1) := by decide +kernel
theorem e_State_startAnew_83 : decode M_State_startAnew.2.1 83 = .ok (.getfield 9, 3) := by decide +kernel
theorem e_State_startAnew_86 : decode M_State_startAnew.2.1 86 = .ok (.iload_n 3, 1) := by decide +kernel
theorem e_State_startAnew_87 : decode M_State_startAnew.2.1 87 = .ok (.bipush 8, 2) := by decide +kernel
theorem e_State_startAnew_89 : decode M_State_startAnew.2.1 89 = .ok (.iadd, 1) := by decide +kernel
theorem e_State_startAnew_90 : decode M_State_startAnew.2.1 90 = .ok (.aload_n 1, 1) := by decide +kernel
theorem e_State_startAnew_91 : decode M_State_startAnew.2.1 91 = .ok (.getfield 30, 3) := by decide +kernel
theorem e_State_startAnew_94 : decode M_State_startAnew.2.1 94 = .ok (.iload_n 2, 1) := by decide +kernel
theorem e_State_startAnew_95 : decode M_State_startAnew.2.1 95 = .ok (.iaload, 1) := by decide +kernel
theorem e_State_startAnew_96 : decode M_State_startAnew.2.1 96 = .ok (.iastore, 1) := by decide +kernel
theorem e_State_startAnew_97 : decode M_State_startAnew.2.1 97 = .ok (.iinc 2 1, 3) := by decide +kernel
theorem e_State_startAnew_100 : decode M_State_startAnew.2.1 100 = .ok (.goto (-76), 3) := by decide +kernel
theorem e_State_startAnew_103 : decode M_State_startAnew.2.1 103 = .ok (.iconst 0, 1) := by decide +kernel
theorem e_State_startAnew_104 : decode M_State_startAnew.2.1 104 = .ok (.istore_n 2, 1) := by decide +kernel
theorem e_State_startAnew_105 : decode M_State_startAnew.2.1 105 = .ok (.iload_n 2, 1) := by decide +kernel
theorem e_State_startAnew_106 : decode M_State_startAnew.2.1 106 = .ok (.bipush 12, 2) := by decide +kernel
theorem e_State_startAnew_108 : decode M_State_startAnew.2.1 108 = .ok (.if_icmp .ge 24, 3) := by decide +kernel
theorem e_State_startAnew_111 : decode M_State_startAnew.2.1 111 = .ok (.aload_n 0, 1) := by decide +kernel
theorem e_State_startAnew_112 : decode M_State_startAnew.2.1 112 = .ok (.getfield 9, 3) := by decide +kernel
theorem e_State_startAnew_115 : decode M_State_startAnew.2.1 115 = .ok (.sipush 155, 3) := by decide +kernel
theorem e_State_startAnew_118 : decode M_State_startAnew.2.1 118 = .ok (.iload_n 2, 1) := by decide +kernel
theorem e_State_startAnew_119 : decode M_State_startAnew.2.1 119 = .ok (.iconst 5, 1) := by decide +kernel
theorem e_State_startAnew_120 : decode M_State_startAnew.2.1 120 = .ok (.imul, 1) := by decide +kernel
theorem e_State_startAnew_121 : decode M_State_startAnew.2.1 121 = .ok (.iadd, 1) := by decide +kernel
theorem e_State_startAnew_122 : decode M_State_startAnew.2.1 122 = .ok (.iconst 3, 1) := by decide +kernel
theorem e_State_startAnew_123 : decode M_State_startAnew.2.1 123 = .ok (.iadd, 1) := by decide +kernel
theorem e_State_startAnew_124 : decode M_State_startAnew.2.1 124 = .ok (.iconst 1, 1) := by decide +kernel
theorem e_State_startAnew_125 : decode M_State_startAnew.2.1 125 = .ok (.iastore, 1) := by decide +kernel
theorem e_State_startAnew_126 : decode M_State_startAnew.2.1 126 = .ok (.iinc 2 1, 3) := by decide +kernel
theorem e_State_startAnew_129 : decode M_State_startAnew.2.1 129 = .ok (.goto (-24), 3) := by decide +kernel
theorem e_State_startAnew_132 : decode M_State_startAnew.2.1 132 = .ok (.aload_n 0, 1) := by decide +kernel
theorem e_State_startAnew_133 : decode M_State_startAnew.2.1 133 = .ok (.getfield 9, 3) := by decide +kernel
theorem e_State_startAnew_136 : decode M_State_startAnew.2.1 136 = .ok (.sipush 220, 3) := by decide +kernel
theorem e_State_startAnew_139 : decode M_State_startAnew.2.1 139 = .ok (.iconst 1, 1) := by decide +kernel
theorem e_State_startAnew_140 : decode M_State_startAnew.2.1 140 = .ok (.aload_n 1, 1) := by decide +kernel
theorem e_State_startAnew_141 : decode M_State_startAnew.2.1 141 = .ok (.getfield 33, 3) := by decide +kernel
theorem e_State_startAnew_144 : decode M_State_startAnew.2.1 144 = .ok (.ishl, 1) := by decide +kernel
theorem e_State_startAnew_145 : decode M_State_startAnew.2.1 145 = .ok (.iconst 1, 1) := by decide +kernel
theorem e_State_startAnew_146 : decode M_State_startAnew.2.1 146 = .ok (.isub, 1) := by decide +kernel
theorem e_State_startAnew_147 : decode M_State_startAnew.2.1 147 = .ok (.iastore, 1) := by decide +kernel
theorem e_State_startAnew_148 : decode M_State_startAnew.2.1 148 = .ok (.aload_n 0, 1) := by decide +kernel
theorem e_State_startAnew_149 : decode M_State_startAnew.2.1 149 = .ok (.getfield 9, 3) := by decide +kernel
theorem e_State_startAnew_152 : decode M_State_startAnew.2.1 152 = .ok (.sipush 224, 3) := by decide +kernel
theorem e_State_startAnew_155 : decode M_State_startAnew.2.1 155 = .ok (.aload_n 1, 1) := by decide +kernel
theorem e_State_startAnew_156 : decode M_State_startAnew.2.1 156 = .ok (.getfield 36, 3) := by decide +kernel
theorem e_State_startAnew_159 : decode M_State_startAnew.2.1 159 = .ok (.iastore, 1) := by decide +kernel
theorem e_State_startAnew_160 : decode M_State_startAnew.2.1 160 = .ok (.return_, 1) := by decide +kernel
theorem e_State_canTell_0 : decode M_State_canTell.2.1 0 = .ok (.aload_n 1, 1) := by decide +kernel
theorem e_State_canTell_1 : decode M_State_canTell.2.1 1 = .ok (.getfield 43, 3) := by decide +kernel
theorem e_State_canTell_4 : decode M_State_canTell.2.1 4 = .ok (.iload_n 2, 1) := by decide +kernel
theorem e_State_canTell_5 : decode M_State_canTell.2.1 5 = .ok (.iaload, 1) := by decide +kernel
theorem e_State_canTell_6 : decode M_State_canTell.2.1 6 = .ok (.iconst 1, 1) := by decide +kernel
theorem e_State_canTell_7 : decode M_State_canTell.2.1 7 = .ok (.if_icmp .eq 13, 3) := by decide +kernel
theorem e_State_canTell_10 : decode M_State_canTell.2.1 10 = .ok (.aload_n 1, 1) := by decide +kernel
theorem e_State_canTell_11 : decode M_State_canTell.2.1 11 = .ok (.getfield 43, 3) := by decide +kernel
theorem e_State_canTell_14 : decode M_State_canTell.2.1 14 = .ok (.iload_n 2, 1) := by decide +kernel
theorem e_State_canTell_15 : decode M_State_canTell.2.1 15 = .ok (.iaload, 1) := by decide +kernel
theorem e_State_canTell_16 : decode M_State_canTell.2.1 16 = .ok (.iconst 2, 1) := by decide +kernel
theorem e_State_canTell_17 : decode M_State_canTell.2.1 17 = .ok (.if_icmp .ne 7, 3) := by decide +kernel
theorem e_State_canTell_20 : decode M_State_canTell.2.1 20 = .ok (.iconst 1, 1) := by decide +kernel
theorem e_State_canTell_21 : decode M_State_canTell.2.1 21 = .ok (.goto 4, 3) := by decide +kernel
theorem e_State_canTell_24 : decode M_State_canTell.2.1 24 = .ok (.iconst 0, 1) := by decide +kernel
theorem e_State_canTell_25 : decode M_State_canTell.2.1 25 = .ok (.istore 4, 2) := by decide +kernel
theorem e_State_canTell_27 : decode M_State_canTell.2.1 27 = .ok (.iload 4, 2) := by decide +kernel
theorem e_State_canTell_29 : decode M_State_canTell.2.1 29 = .ok (.ifCond .eq 7, 3) := by decide +kernel
theorem e_State_canTell_32 : decode M_State_canTell.2.1 32 = .ok (.iconst 3, 1) := by decide +kernel
theorem e_State_canTell_33 : decode M_State_canTell.2.1 33 = .ok (.goto 4, 3) := by decide +kernel
theorem e_State_canTell_36 : decode M_State_canTell.2.1 36 = .ok (.iconst 2, 1) := by decide +kernel
theorem e_State_canTell_37 : decode M_State_canTell.2.1 37 = .ok (.istore 5, 2) := by decide +kernel
theorem e_State_canTell_39 : decode M_State_canTell.2.1 39 = .ok (.iload_n 3, 1) := by decide +kernel
theorem e_State_canTell_40 : decode M_State_canTell.2.1 40 = .ok (.ifCond .lt 28, 3) := by decide +kernel
theorem e_State_canTell_43 : decode M_State_canTell.2.1 43 = .ok (.iload_n 3, 1) := by decide +kernel
theorem e_State_canTell_44 : decode M_State_canTell.2.1 44 = .ok (.iload 5, 2) := by decide +kernel
theorem e_State_canTell_46 : decode M_State_canTell.2.1 46 = .ok (.if_icmp .gt 22, 3) := by decide +kernel
theorem e_State_canTell_49 : decode M_State_canTell.2.1 49 = .ok (.aload_n 0, 1) := by decide +kernel
theorem e_State_canTell_50 : decode M_State_canTell.2.1 50 = .ok (.getfield 9, 3) := by decide +kernel
theorem e_State_canTell_53 : decode M_State_canTell.2.1 53 = .ok (.iload_n 2, 1) := by decide +kernel
theorem e_State_canTell_54 : decode M_State_canTell.2.1 54 = .ok (.bipush 9, 2) := by decide +kernel
theorem e_State_canTell_56 : decode M_State_canTell.2.1 56 = .ok (.imul, 1) := by decide +kernel
theorem e_State_canTell_57 : decode M_State_canTell.2.1 57 = .ok (.iconst 0, 1) := by decide +kernel
theorem e_State_canTell_58 : decode M_State_canTell.2.1 58 = .ok (.iadd, 1) := by decide +kernel
theorem e_State_canTell_59 : decode M_State_canTell.2.1 59 = .ok (.iaload, 1) := by decide +kernel
theorem e_State_canTell_60 : decode M_State_canTell.2.1 60 = .ok (.iload_n 3, 1) := by decide +kernel
theorem e_State_canTell_61 : decode M_State_canTell.2.1 61 = .ok (.if_icmp .eq 7, 3) := by decide +kernel
theorem e_State_canTell_64 : decode M_State_canTell.2.1 64 = .ok (.iconst 1, 1) := by decide +kernel
theorem e_State_canTell_65 : decode M_State_canTell.2.1 65 = .ok (.goto 4, 3) := by decide +kernel
theorem e_State_canTell_68 : decode M_State_canTell.2.1 68 = .ok (.iconst 0, 1) := by decide +kernel
theorem e_State_canTell_69 : decode M_State_canTell.2.1 69 = .ok (.ireturn, 1) := by decide +kernel
theorem e_Memory_keepAct_0 : decode M_Memory_keepAct.2.1 0 = .ok (.aload_n 0, 1) := by decide +kernel
theorem e_Memory_keepAct_1 : decode M_Memory_keepAct.2.1 1 = .ok (.getfield 21, 3) := by decide +kernel
theorem e_Memory_keepAct_4 : decode M_Memory_keepAct.2.1 4 = .ok (.aload_n 0, 1) := by decide +kernel
theorem e_Memory_keepAct_5 : decode M_Memory_keepAct.2.1 5 = .ok (.getfield 12, 3) := by decide +kernel
theorem e_Memory_keepAct_8 : decode M_Memory_keepAct.2.1 8 = .ok (.invokevirtual 36, 3) := by decide +kernel
theorem e_Memory_keepAct_11 : decode M_Memory_keepAct.2.1 11 = .ok (.return_, 1) := by decide +kernel
theorem e_History_keep_0 : decode M_History_keep.2.1 0 = .ok (.aload_n 0, 1) := by decide +kernel
theorem e_History_keep_1 : decode M_History_keep.2.1 1 = .ok (.getfield 9, 3) := by decide +kernel
theorem e_History_keep_4 : decode M_History_keep.2.1 4 = .ok (.bipush 40, 2) := by decide +kernel
theorem e_History_keep_6 : decode M_History_keep.2.1 6 = .ok (.if_icmp .ne 26, 3) := by decide +kernel
theorem e_History_keep_9 : decode M_History_keep.2.1 9 = .ok (.aload_n 0, 1) := by decide +kernel
theorem e_History_keep_10 : decode M_History_keep.2.1 10 = .ok (.aload_n 0, 1) := by decide +kernel
theorem e_History_keep_11 : decode M_History_keep.2.1 11 = .ok (.getfield 15, 3) := by decide +kernel
theorem e_History_keep_14 : decode M_History_keep.2.1 14 = .ok (.iconst 1, 1) := by decide +kernel
theorem e_History_keep_15 : decode M_History_keep.2.1 15 = .ok (.iadd, 1) := by decide +kernel
theorem e_History_keep_16 : decode M_History_keep.2.1 16 = .ok (.bipush 40, 2) := by decide +kernel
theorem e_History_keep_18 : decode M_History_keep.2.1 18 = .ok (.irem, 1) := by decide +kernel
theorem e_History_keep_19 : decode M_History_keep.2.1 19 = .ok (.putfield 15, 3) := by decide +kernel
theorem e_History_keep_22 : decode M_History_keep.2.1 22 = .ok (.aload_n 0, 1) := by decide +kernel
theorem e_History_keep_23 : decode M_History_keep.2.1 23 = .ok (.dup, 1) := by decide +kernel
theorem e_History_keep_24 : decode M_History_keep.2.1 24 = .ok (.getfield 9, 3) := by decide +kernel
theorem e_History_keep_27 : decode M_History_keep.2.1 27 = .ok (.iconst 1, 1) := by decide +kernel
theorem e_History_keep_28 : decode M_History_keep.2.1 28 = .ok (.isub, 1) := by decide +kernel
theorem e_History_keep_29 : decode M_History_keep.2.1 29 = .ok (.putfield 9, 3) := by decide +kernel
theorem e_History_keep_32 : decode M_History_keep.2.1 32 = .ok (.aload_n 0, 1) := by decide +kernel
theorem e_History_keep_33 : decode M_History_keep.2.1 33 = .ok (.aload_n 0, 1) := by decide +kernel
theorem e_History_keep_34 : decode M_History_keep.2.1 34 = .ok (.getfield 15, 3) := by decide +kernel
theorem e_History_keep_37 : decode M_History_keep.2.1 37 = .ok (.aload_n 0, 1) := by decide +kernel
theorem e_History_keep_38 : decode M_History_keep.2.1 38 = .ok (.getfield 9, 3) := by decide +kernel
theorem e_History_keep_41 : decode M_History_keep.2.1 41 = .ok (.iadd, 1) := by decide +kernel
theorem e_History_keep_42 : decode M_History_keep.2.1 42 = .ok (.bipush 40, 2) := by decide +kernel
theorem e_History_keep_44 : decode M_History_keep.2.1 44 = .ok (.irem, 1) := by decide +kernel
theorem e_History_keep_45 : decode M_History_keep.2.1 45 = .ok (.aload_n 1, 1) := by decide +kernel
theorem e_History_keep_46 : decode M_History_keep.2.1 46 = .ok (.invokevirtual 24, 3) := by decide +kernel
theorem e_History_keep_49 : decode M_History_keep.2.1 49 = .ok (.aload_n 0, 1) := by decide +kernel
theorem e_History_keep_50 : decode M_History_keep.2.1 50 = .ok (.dup, 1) := by decide +kernel
theorem e_History_keep_51 : decode M_History_keep.2.1 51 = .ok (.getfield 9, 3) := by decide +kernel
theorem e_History_keep_54 : decode M_History_keep.2.1 54 = .ok (.iconst 1, 1) := by decide +kernel
theorem e_History_keep_55 : decode M_History_keep.2.1 55 = .ok (.iadd, 1) := by decide +kernel
theorem e_History_keep_56 : decode M_History_keep.2.1 56 = .ok (.putfield 9, 3) := by decide +kernel
theorem e_History_keep_59 : decode M_History_keep.2.1 59 = .ok (.return_, 1) := by decide +kernel
theorem e_History_put_0 : decode M_History_put.2.1 0 = .ok (.aload_n 0, 1) := by decide +kernel
theorem e_History_put_1 : decode M_History_put.2.1 1 = .ok (.getfield 20, 3) := by decide +kernel
theorem e_History_put_4 : decode M_History_put.2.1 4 = .ok (.iload_n 1, 1) := by decide +kernel
theorem e_History_put_5 : decode M_History_put.2.1 5 = .ok (.aaload, 1) := by decide +kernel
theorem e_History_put_6 : decode M_History_put.2.1 6 = .ok (.ifnonnull 16, 3) := by decide +kernel
theorem e_History_put_9 : decode M_History_put.2.1 9 = .ok (.aload_n 0, 1) := by decide +kernel
theorem e_History_put_10 : decode M_History_put.2.1 10 = .ok (.getfield 20, 3) := by decide +kernel
theorem e_History_put_13 : decode M_History_put.2.1 13 = .ok (.iload_n 1, 1) := by decide +kernel
theorem e_History_put_14 : decode M_History_put.2.1 14 = .ok (.new 18, 3) := by decide +kernel
theorem e_History_put_17 : decode M_History_put.2.1 17 = .ok (.dup, 1) := by decide +kernel
theorem e_History_put_18 : decode M_History_put.2.1 18 = .ok (.invokespecial 32, 3) := by decide +kernel
theorem e_History_put_21 : decode M_History_put.2.1 21 = .ok (.aastore, 1) := by decide +kernel
theorem e_History_put_22 : decode M_History_put.2.1 22 = .ok (.aload_n 0, 1) := by decide +kernel
theorem e_History_put_23 : decode M_History_put.2.1 23 = .ok (.getfield 20, 3) := by decide +kernel
theorem e_History_put_26 : decode M_History_put.2.1 26 = .ok (.iload_n 1, 1) := by decide +kernel
theorem e_History_put_27 : decode M_History_put.2.1 27 = .ok (.aaload, 1) := by decide +kernel
theorem e_History_put_28 : decode M_History_put.2.1 28 = .ok (.aload_n 2, 1) := by decide +kernel
theorem e_History_put_29 : decode M_History_put.2.1 29 = .ok (.invokevirtual 28, 3) := by decide +kernel
theorem e_History_put_32 : decode M_History_put.2.1 32 = .ok (.return_, 1) := by decide +kernel
theorem e_State_copyFrom_0 : decode M_State_copyFrom.2.1 0 = .ok (.aload_n 1, 1) := by decide +kernel
theorem e_State_copyFrom_1 : decode M_State_copyFrom.2.1 1 = .ok (.getfield 9, 3) := by decide +kernel
theorem e_State_copyFrom_4 : decode M_State_copyFrom.2.1 4 = .ok (.iconst 0, 1) := by decide +kernel
theorem e_State_copyFrom_5 : decode M_State_copyFrom.2.1 5 = .ok (.aload_n 0, 1) := by decide +kernel
theorem e_State_copyFrom_6 : decode M_State_copyFrom.2.1 6 = .ok (.getfield 9, 3) := by decide +kernel
theorem e_State_copyFrom_9 : decode M_State_copyFrom.2.1 9 = .ok (.iconst 0, 1) := by decide +kernel
theorem e_State_copyFrom_10 : decode M_State_copyFrom.2.1 10 = .ok (.sipush 225, 3) := by decide +kernel
theorem e_State_copyFrom_13 : decode M_State_copyFrom.2.1 13 = .ok (.invokestatic 15, 3) := by decide +kernel
theorem e_State_copyFrom_16 : decode M_State_copyFrom.2.1 16 = .ok (.return_, 1) := by decide +kernel
theorem e_State_handCell_0 : decode M_State_handCell.2.1 0 = .ok (.iload_n 2, 1) := by decide +kernel
theorem e_State_handCell_1 : decode M_State_handCell.2.1 1 = .ok (.bipush 9, 2) := by decide +kernel
theorem e_State_handCell_3 : decode M_State_handCell.2.1 3 = .ok (.imul, 1) := by decide +kernel
theorem e_State_handCell_4 : decode M_State_handCell.2.1 4 = .ok (.istore_n 3, 1) := by decide +kernel
theorem e_State_handCell_5 : decode M_State_handCell.2.1 5 = .ok (.aload_n 0, 1) := by decide +kernel
theorem e_State_handCell_6 : decode M_State_handCell.2.1 6 = .ok (.getfield 9, 3) := by decide +kernel
theorem e_State_handCell_9 : decode M_State_handCell.2.1 9 = .ok (.iload_n 3, 1) := by decide +kernel
theorem e_State_handCell_10 : decode M_State_handCell.2.1 10 = .ok (.iconst 1, 1) := by decide +kernel
theorem e_State_handCell_11 : decode M_State_handCell.2.1 11 = .ok (.iadd, 1) := by decide +kernel
theorem e_State_handCell_12 : decode M_State_handCell.2.1 12 = .ok (.iaload, 1) := by decide +kernel
theorem e_State_handCell_13 : decode M_State_handCell.2.1 13 = .ok (.iconst 1, 1) := by decide +kernel
theorem e_State_handCell_14 : decode M_State_handCell.2.1 14 = .ok (.if_icmp .ne 7, 3) := by decide +kernel
theorem e_State_handCell_17 : decode M_State_handCell.2.1 17 = .ok (.iload_n 3, 1) := by decide +kernel
theorem e_State_handCell_18 : decode M_State_handCell.2.1 18 = .ok (.iconst 3, 1) := by decide +kernel
theorem e_State_handCell_19 : decode M_State_handCell.2.1 19 = .ok (.iadd, 1) := by decide +kernel
theorem e_State_handCell_20 : decode M_State_handCell.2.1 20 = .ok (.ireturn, 1) := by decide +kernel
theorem e_State_handCell_21 : decode M_State_handCell.2.1 21 = .ok (.aload_n 1, 1) := by decide +kernel
theorem e_State_handCell_22 : decode M_State_handCell.2.1 22 = .ok (.getfield 43, 3) := by decide +kernel
theorem e_State_handCell_25 : decode M_State_handCell.2.1 25 = .ok (.iload_n 2, 1) := by decide +kernel
theorem e_State_handCell_26 : decode M_State_handCell.2.1 26 = .ok (.iaload, 1) := by decide +kernel
theorem e_State_handCell_27 : decode M_State_handCell.2.1 27 = .ok (.iconst 1, 1) := by decide +kernel
theorem e_State_handCell_28 : decode M_State_handCell.2.1 28 = .ok (.if_icmp .eq 13, 3) := by decide +kernel
theorem e_State_handCell_31 : decode M_State_handCell.2.1 31 = .ok (.aload_n 1, 1) := by decide +kernel
theorem e_State_handCell_32 : decode M_State_handCell.2.1 32 = .ok (.getfield 43, 3) := by decide +kernel
theorem e_State_handCell_35 : decode M_State_handCell.2.1 35 = .ok (.iload_n 2, 1) := by decide +kernel
theorem e_State_handCell_36 : decode M_State_handCell.2.1 36 = .ok (.iaload, 1) := by decide +kernel
theorem e_State_handCell_37 : decode M_State_handCell.2.1 37 = .ok (.iconst 2, 1) := by decide +kernel
theorem e_State_handCell_38 : decode M_State_handCell.2.1 38 = .ok (.if_icmp .ne 7, 3) := by decide +kernel
theorem e_State_handCell_41 : decode M_State_handCell.2.1 41 = .ok (.iconst 1, 1) := by decide +kernel
theorem e_State_handCell_42 : decode M_State_handCell.2.1 42 = .ok (.goto 4, 3) := by decide +kernel
theorem e_State_handCell_45 : decode M_State_handCell.2.1 45 = .ok (.iconst 0, 1) := by decide +kernel
theorem e_State_handCell_46 : decode M_State_handCell.2.1 46 = .ok (.istore 4, 2) := by decide +kernel
theorem e_State_handCell_48 : decode M_State_handCell.2.1 48 = .ok (.iload 4, 2) := by decide +kernel
theorem e_State_handCell_50 : decode M_State_handCell.2.1 50 = .ok (.ifCond .eq 21, 3) := by decide +kernel
theorem e_State_handCell_53 : decode M_State_handCell.2.1 53 = .ok (.aload_n 0, 1) := by decide +kernel
theorem e_State_handCell_54 : decode M_State_handCell.2.1 54 = .ok (.getfield 9, 3) := by decide +kernel
theorem e_State_handCell_57 : decode M_State_handCell.2.1 57 = .ok (.iload_n 3, 1) := by decide +kernel
theorem e_State_handCell_58 : decode M_State_handCell.2.1 58 = .ok (.iconst 1, 1) := by decide +kernel
theorem e_State_handCell_59 : decode M_State_handCell.2.1 59 = .ok (.iadd, 1) := by decide +kernel
theorem e_State_handCell_60 : decode M_State_handCell.2.1 60 = .ok (.iaload, 1) := by decide +kernel
theorem e_State_handCell_61 : decode M_State_handCell.2.1 61 = .ok (.iconst 2, 1) := by decide +kernel
theorem e_State_handCell_62 : decode M_State_handCell.2.1 62 = .ok (.if_icmp .ne 9, 3) := by decide +kernel
theorem e_State_handCell_65 : decode M_State_handCell.2.1 65 = .ok (.iload_n 3, 1) := by decide +kernel
theorem e_State_handCell_66 : decode M_State_handCell.2.1 66 = .ok (.iconst 2, 1) := by decide +kernel
theorem e_State_handCell_67 : decode M_State_handCell.2.1 67 = .ok (.iadd, 1) := by decide +kernel
theorem e_State_handCell_68 : decode M_State_handCell.2.1 68 = .ok (.goto 4, 3) := by decide +kernel
theorem e_State_handCell_71 : decode M_State_handCell.2.1 71 = .ok (.iconst (-1), 1) := by decide +kernel
theorem e_State_handCell_72 : decode M_State_handCell.2.1 72 = .ok (.ireturn, 1) := by decide +kernel
theorem e_State_isOn_0 : decode M_State_isOn.2.1 0 = .ok (.aload_n 0, 1) := by decide +kernel
theorem e_State_isOn_1 : decode M_State_isOn.2.1 1 = .ok (.getfield 9, 3) := by decide +kernel
theorem e_State_isOn_4 : decode M_State_isOn.2.1 4 = .ok (.sipush 220, 3) := by decide +kernel
theorem e_State_isOn_7 : decode M_State_isOn.2.1 7 = .ok (.iaload, 1) := by decide +kernel
theorem e_State_isOn_8 : decode M_State_isOn.2.1 8 = .ok (.iload_n 1, 1) := by decide +kernel
theorem e_State_isOn_9 : decode M_State_isOn.2.1 9 = .ok (.invokestatic 39, 3) := by decide +kernel
theorem e_State_isOn_12 : decode M_State_isOn.2.1 12 = .ok (.ireturn, 1) := by decide +kernel
theorem e_State_switchDevice_0 : decode M_State_switchDevice.2.1 0 = .ok (.iload_n 2, 1) := by decide +kernel
theorem e_State_switchDevice_1 : decode M_State_switchDevice.2.1 1 = .ok (.ifCond .eq 18, 3) := by decide +kernel
theorem e_State_switchDevice_4 : decode M_State_switchDevice.2.1 4 = .ok (.aload_n 0, 1) := by decide +kernel
theorem e_State_switchDevice_5 : decode M_State_switchDevice.2.1 5 = .ok (.getfield 9, 3) := by decide +kernel
theorem e_State_switchDevice_8 : decode M_State_switchDevice.2.1 8 = .ok (.sipush 220, 3) := by decide +kernel
theorem e_State_switchDevice_11 : decode M_State_switchDevice.2.1 11 = .ok (.dup2, 1) := by decide +kernel
theorem e_State_switchDevice_12 : decode M_State_switchDevice.2.1 12 = .ok (.iaload, 1) := by decide +kernel
theorem e_State_switchDevice_13 : decode M_State_switchDevice.2.1 13 = .ok (.iconst 1, 1) := by decide +kernel
theorem e_State_switchDevice_14 : decode M_State_switchDevice.2.1 14 = .ok (.iload_n 1, 1) := by decide +kernel
theorem e_State_switchDevice_15 : decode M_State_switchDevice.2.1 15 = .ok (.ishl, 1) := by decide +kernel
theorem e_State_switchDevice_16 : decode M_State_switchDevice.2.1 16 = .ok (.ior, 1) := by decide +kernel
theorem e_State_switchDevice_17 : decode M_State_switchDevice.2.1 17 = .ok (.iastore, 1) := by decide +kernel
theorem e_State_switchDevice_18 : decode M_State_switchDevice.2.1 18 = .ok (.return_, 1) := by decide +kernel
theorem e_State_switchDevice_19 : decode M_State_switchDevice.2.1 19 = .ok (.aload_n 0, 1) := by decide +kernel
theorem e_State_switchDevice_20 : decode M_State_switchDevice.2.1 20 = .ok (.getfield 9, 3) := by decide +kernel
theorem e_State_switchDevice_23 : decode M_State_switchDevice.2.1 23 = .ok (.sipush 220, 3) := by decide +kernel
theorem e_State_switchDevice_26 : decode M_State_switchDevice.2.1 26 = .ok (.dup2, 1) := by decide +kernel
theorem e_State_switchDevice_27 : decode M_State_switchDevice.2.1 27 = .ok (.iaload, 1) := by decide +kernel
theorem e_State_switchDevice_28 : decode M_State_switchDevice.2.1 28 = .ok (.iconst 1, 1) := by decide +kernel
theorem e_State_switchDevice_29 : decode M_State_switchDevice.2.1 29 = .ok (.iload_n 1, 1) := by decide +kernel
theorem e_State_switchDevice_30 : decode M_State_switchDevice.2.1 30 = .ok (.ishl, 1) := by decide +kernel
theorem e_State_switchDevice_31 : decode M_State_switchDevice.2.1 31 = .ok (.iconst (-1), 1) := by decide +kernel
theorem e_State_switchDevice_32 : decode M_State_switchDevice.2.1 32 = .ok (.ixor, 1) := by decide +kernel
theorem e_State_switchDevice_33 : decode M_State_switchDevice.2.1 33 = .ok (.iand, 1) := by decide +kernel
theorem e_State_switchDevice_34 : decode M_State_switchDevice.2.1 34 = .ok (.iastore, 1) := by decide +kernel
theorem e_State_switchDevice_35 : decode M_State_switchDevice.2.1 35 = .ok (.aload_n 0, 1) := by decide +kernel
theorem e_State_switchDevice_36 : decode M_State_switchDevice.2.1 36 = .ok (.getfield 9, 3) := by decide +kernel
theorem e_State_switchDevice_39 : decode M_State_switchDevice.2.1 39 = .ok (.sipush 221, 3) := by decide +kernel
theorem e_State_switchDevice_42 : decode M_State_switchDevice.2.1 42 = .ok (.iaload, 1) := by decide +kernel
theorem e_State_switchDevice_43 : decode M_State_switchDevice.2.1 43 = .ok (.iload_n 1, 1) := by decide +kernel
theorem e_State_switchDevice_44 : decode M_State_switchDevice.2.1 44 = .ok (.if_icmp .ne 21, 3) := by decide +kernel
theorem e_State_switchDevice_47 : decode M_State_switchDevice.2.1 47 = .ok (.aload_n 0, 1) := by decide +kernel
theorem e_State_switchDevice_48 : decode M_State_switchDevice.2.1 48 = .ok (.getfield 9, 3) := by decide +kernel
theorem e_State_switchDevice_51 : decode M_State_switchDevice.2.1 51 = .ok (.sipush 221, 3) := by decide +kernel
theorem e_State_switchDevice_54 : decode M_State_switchDevice.2.1 54 = .ok (.iconst (-1), 1) := by decide +kernel
theorem e_State_switchDevice_55 : decode M_State_switchDevice.2.1 55 = .ok (.iastore, 1) := by decide +kernel
theorem e_State_switchDevice_56 : decode M_State_switchDevice.2.1 56 = .ok (.aload_n 0, 1) := by decide +kernel
theorem e_State_switchDevice_57 : decode M_State_switchDevice.2.1 57 = .ok (.getfield 9, 3) := by decide +kernel
theorem e_State_switchDevice_60 : decode M_State_switchDevice.2.1 60 = .ok (.sipush 222, 3) := by decide +kernel
theorem e_State_switchDevice_63 : decode M_State_switchDevice.2.1 63 = .ok (.iload_n 3, 1) := by decide +kernel
theorem e_State_switchDevice_64 : decode M_State_switchDevice.2.1 64 = .ok (.iastore, 1) := by decide +kernel
theorem e_State_switchDevice_65 : decode M_State_switchDevice.2.1 65 = .ok (.return_, 1) := by decide +kernel
theorem e_State_isBroken_0 : decode M_State_isBroken.2.1 0 = .ok (.aload_n 0, 1) := by decide +kernel
theorem e_State_isBroken_1 : decode M_State_isBroken.2.1 1 = .ok (.getfield 9, 3) := by decide +kernel
theorem e_State_isBroken_4 : decode M_State_isBroken.2.1 4 = .ok (.sipush 219, 3) := by decide +kernel
theorem e_State_isBroken_7 : decode M_State_isBroken.2.1 7 = .ok (.iaload, 1) := by decide +kernel
theorem e_State_isBroken_8 : decode M_State_isBroken.2.1 8 = .ok (.iload_n 1, 1) := by decide +kernel
theorem e_State_isBroken_9 : decode M_State_isBroken.2.1 9 = .ok (.invokestatic 39, 3) := by decide +kernel
theorem e_State_isBroken_12 : decode M_State_isBroken.2.1 12 = .ok (.ireturn, 1) := by decide +kernel
theorem e_State_turnSensor_0 : decode M_State_turnSensor.2.1 0 = .ok (.aload_n 0, 1) := by decide +kernel
theorem e_State_turnSensor_1 : decode M_State_turnSensor.2.1 1 = .ok (.getfield 9, 3) := by decide +kernel
theorem e_State_turnSensor_4 : decode M_State_turnSensor.2.1 4 = .ok (.sipush 219, 3) := by decide +kernel
theorem e_State_turnSensor_7 : decode M_State_turnSensor.2.1 7 = .ok (.dup2, 1) := by decide +kernel
theorem e_State_turnSensor_8 : decode M_State_turnSensor.2.1 8 = .ok (.iaload, 1) := by decide +kernel
theorem e_State_turnSensor_9 : decode M_State_turnSensor.2.1 9 = .ok (.iconst 1, 1) := by decide +kernel
theorem e_State_turnSensor_10 : decode M_State_turnSensor.2.1 10 = .ok (.iload_n 1, 1) := by decide +kernel
theorem e_State_turnSensor_11 : decode M_State_turnSensor.2.1 11 = .ok (.ishl, 1) := by decide +kernel
theorem e_State_turnSensor_12 : decode M_State_turnSensor.2.1 12 = .ok (.ixor, 1) := by decide +kernel
theorem e_State_turnSensor_13 : decode M_State_turnSensor.2.1 13 = .ok (.iastore, 1) := by decide +kernel
theorem e_State_turnSensor_14 : decode M_State_turnSensor.2.1 14 = .ok (.return_, 1) := by decide +kernel
theorem e_Plan_cameAt_0 : decode M_Plan_cameAt.2.1 0 = .ok (.aload_n 0, 1) := by decide +kernel
theorem e_Plan_cameAt_1 : decode M_Plan_cameAt.2.1 1 = .ok (.getfield 56, 3) := by decide +kernel
theorem e_Plan_cameAt_4 : decode M_Plan_cameAt.2.1 4 = .ok (.iload_n 1, 1) := by decide +kernel
theorem e_Plan_cameAt_5 : decode M_Plan_cameAt.2.1 5 = .ok (.iconst 3, 1) := by decide +kernel
theorem e_Plan_cameAt_6 : decode M_Plan_cameAt.2.1 6 = .ok (.imul, 1) := by decide +kernel
theorem e_Plan_cameAt_7 : decode M_Plan_cameAt.2.1 7 = .ok (.iload_n 2, 1) := by decide +kernel
theorem e_Plan_cameAt_8 : decode M_Plan_cameAt.2.1 8 = .ok (.iadd, 1) := by decide +kernel
theorem e_Plan_cameAt_9 : decode M_Plan_cameAt.2.1 9 = .ok (.iaload, 1) := by decide +kernel
theorem e_Plan_cameAt_10 : decode M_Plan_cameAt.2.1 10 = .ok (.istore_n 3, 1) := by decide +kernel
theorem e_Plan_cameAt_11 : decode M_Plan_cameAt.2.1 11 = .ok (.iload_n 3, 1) := by decide +kernel
theorem e_Plan_cameAt_12 : decode M_Plan_cameAt.2.1 12 = .ok (.iconst (-1), 1) := by decide +kernel
theorem e_Plan_cameAt_13 : decode M_Plan_cameAt.2.1 13 = .ok (.if_icmp .ne 9, 3) := by decide +kernel
theorem e_Plan_cameAt_16 : decode M_Plan_cameAt.2.1 16 = .ok (.sipush 150, 3) := by decide +kernel
theorem e_Plan_cameAt_19 : decode M_Plan_cameAt.2.1 19 = .ok (.goto 9, 3) := by decide +kernel
theorem e_Plan_cameAt_22 : decode M_Plan_cameAt.2.1 22 = .ok (.bipush 90, 2) := by decide +kernel
theorem e_Plan_cameAt_24 : decode M_Plan_cameAt.2.1 24 = .ok (.iload_n 3, 1) := by decide +kernel
theorem e_Plan_cameAt_25 : decode M_Plan_cameAt.2.1 25 = .ok (.iconst 5, 1) := by decide +kernel
theorem e_Plan_cameAt_26 : decode M_Plan_cameAt.2.1 26 = .ok (.imul, 1) := by decide +kernel
theorem e_Plan_cameAt_27 : decode M_Plan_cameAt.2.1 27 = .ok (.iadd, 1) := by decide +kernel
theorem e_Plan_cameAt_28 : decode M_Plan_cameAt.2.1 28 = .ok (.ireturn, 1) := by decide +kernel
theorem e_History_takeBack_0 : decode M_History_takeBack.2.1 0 = .ok (.aload_n 0, 1) := by decide +kernel
theorem e_History_takeBack_1 : decode M_History_takeBack.2.1 1 = .ok (.getfield 9, 3) := by decide +kernel
theorem e_History_takeBack_4 : decode M_History_takeBack.2.1 4 = .ok (.ifCond .ne 5, 3) := by decide +kernel
theorem e_History_takeBack_7 : decode M_History_takeBack.2.1 7 = .ok (.iconst (-1), 1) := by decide +kernel
theorem e_History_takeBack_8 : decode M_History_takeBack.2.1 8 = .ok (.ireturn, 1) := by decide +kernel
theorem e_History_takeBack_9 : decode M_History_takeBack.2.1 9 = .ok (.aload_n 0, 1) := by decide +kernel
theorem e_History_takeBack_10 : decode M_History_takeBack.2.1 10 = .ok (.getfield 20, 3) := by decide +kernel
theorem e_History_takeBack_13 : decode M_History_takeBack.2.1 13 = .ok (.aload_n 0, 1) := by decide +kernel
theorem e_History_takeBack_14 : decode M_History_takeBack.2.1 14 = .ok (.getfield 15, 3) := by decide +kernel
theorem e_History_takeBack_17 : decode M_History_takeBack.2.1 17 = .ok (.aload_n 0, 1) := by decide +kernel
theorem e_History_takeBack_18 : decode M_History_takeBack.2.1 18 = .ok (.getfield 9, 3) := by decide +kernel
theorem e_History_takeBack_21 : decode M_History_takeBack.2.1 21 = .ok (.iadd, 1) := by decide +kernel
theorem e_History_takeBack_22 : decode M_History_takeBack.2.1 22 = .ok (.iconst 1, 1) := by decide +kernel
theorem e_History_takeBack_23 : decode M_History_takeBack.2.1 23 = .ok (.isub, 1) := by decide +kernel
theorem e_History_takeBack_24 : decode M_History_takeBack.2.1 24 = .ok (.bipush 40, 2) := by decide +kernel
theorem e_History_takeBack_26 : decode M_History_takeBack.2.1 26 = .ok (.irem, 1) := by decide +kernel
theorem e_History_takeBack_27 : decode M_History_takeBack.2.1 27 = .ok (.aaload, 1) := by decide +kernel
theorem e_History_takeBack_28 : decode M_History_takeBack.2.1 28 = .ok (.astore_n 2, 1) := by decide +kernel
theorem e_History_takeBack_29 : decode M_History_takeBack.2.1 29 = .ok (.aload_n 2, 1) := by decide +kernel
theorem e_History_takeBack_30 : decode M_History_takeBack.2.1 30 = .ok (.ifnull 8, 3) := by decide +kernel
theorem e_History_takeBack_33 : decode M_History_takeBack.2.1 33 = .ok (.aload_n 1, 1) := by decide +kernel
theorem e_History_takeBack_34 : decode M_History_takeBack.2.1 34 = .ok (.aload_n 2, 1) := by decide +kernel
theorem e_History_takeBack_35 : decode M_History_takeBack.2.1 35 = .ok (.invokevirtual 28, 3) := by decide +kernel
theorem e_History_takeBack_38 : decode M_History_takeBack.2.1 38 = .ok (.aload_n 0, 1) := by decide +kernel
theorem e_History_takeBack_39 : decode M_History_takeBack.2.1 39 = .ok (.dup, 1) := by decide +kernel
theorem e_History_takeBack_40 : decode M_History_takeBack.2.1 40 = .ok (.getfield 9, 3) := by decide +kernel
theorem e_History_takeBack_43 : decode M_History_takeBack.2.1 43 = .ok (.iconst 1, 1) := by decide +kernel
theorem e_History_takeBack_44 : decode M_History_takeBack.2.1 44 = .ok (.isub, 1) := by decide +kernel
theorem e_History_takeBack_45 : decode M_History_takeBack.2.1 45 = .ok (.putfield 9, 3) := by decide +kernel
theorem e_History_takeBack_48 : decode M_History_takeBack.2.1 48 = .ok (.aload_n 0, 1) := by decide +kernel
theorem e_History_takeBack_49 : decode M_History_takeBack.2.1 49 = .ok (.getfield 9, 3) := by decide +kernel
theorem e_History_takeBack_52 : decode M_History_takeBack.2.1 52 = .ok (.ireturn, 1) := by decide +kernel
theorem e_Noted_add_0 : decode M_Noted_add.2.1 0 = .ok (.aload_n 0, 1) := by decide +kernel
theorem e_Noted_add_1 : decode M_Noted_add.2.1 1 = .ok (.getfield 15, 3) := by decide +kernel
theorem e_Noted_add_4 : decode M_Noted_add.2.1 4 = .ok (.aload_n 0, 1) := by decide +kernel
theorem e_Noted_add_5 : decode M_Noted_add.2.1 5 = .ok (.getfield 9, 3) := by decide +kernel
theorem e_Noted_add_8 : decode M_Noted_add.2.1 8 = .ok (.iload_n 1, 1) := by decide +kernel
theorem e_Noted_add_9 : decode M_Noted_add.2.1 9 = .ok (.iastore, 1) := by decide +kernel
theorem e_Noted_add_10 : decode M_Noted_add.2.1 10 = .ok (.aload_n 0, 1) := by decide +kernel
theorem e_Noted_add_11 : decode M_Noted_add.2.1 11 = .ok (.getfield 19, 3) := by decide +kernel
theorem e_Noted_add_14 : decode M_Noted_add.2.1 14 = .ok (.aload_n 0, 1) := by decide +kernel
theorem e_Noted_add_15 : decode M_Noted_add.2.1 15 = .ok (.getfield 9, 3) := by decide +kernel
theorem e_Noted_add_18 : decode M_Noted_add.2.1 18 = .ok (.iload_n 2, 1) := by decide +kernel
theorem e_Noted_add_19 : decode M_Noted_add.2.1 19 = .ok (.iastore, 1) := by decide +kernel
theorem e_Noted_add_20 : decode M_Noted_add.2.1 20 = .ok (.aload_n 0, 1) := by decide +kernel
theorem e_Noted_add_21 : decode M_Noted_add.2.1 21 = .ok (.getfield 22, 3) := by decide +kernel
theorem e_Noted_add_24 : decode M_Noted_add.2.1 24 = .ok (.aload_n 0, 1) := by decide +kernel
theorem e_Noted_add_25 : decode M_Noted_add.2.1 25 = .ok (.getfield 9, 3) := by decide +kernel
theorem e_Noted_add_28 : decode M_Noted_add.2.1 28 = .ok (.iload_n 3, 1) := by decide +kernel
theorem e_Noted_add_29 : decode M_Noted_add.2.1 29 = .ok (.iastore, 1) := by decide +kernel
theorem e_Noted_add_30 : decode M_Noted_add.2.1 30 = .ok (.aload_n 0, 1) := by decide +kernel
theorem e_Noted_add_31 : decode M_Noted_add.2.1 31 = .ok (.dup, 1) := by decide +kernel
theorem e_Noted_add_32 : decode M_Noted_add.2.1 32 = .ok (.getfield 9, 3) := by decide +kernel
theorem e_Noted_add_35 : decode M_Noted_add.2.1 35 = .ok (.iconst 1, 1) := by decide +kernel
theorem e_Noted_add_36 : decode M_Noted_add.2.1 36 = .ok (.iadd, 1) := by decide +kernel
theorem e_Noted_add_37 : decode M_Noted_add.2.1 37 = .ok (.putfield 9, 3) := by decide +kernel
theorem e_Noted_add_40 : decode M_Noted_add.2.1 40 = .ok (.return_, 1) := by decide +kernel
theorem e_Plan_hasInputOf_0 : decode M_Plan_hasInputOf.2.1 0 = .ok (.iconst 0, 1) := by decide +kernel
theorem e_Plan_hasInputOf_1 : decode M_Plan_hasInputOf.2.1 1 = .ok (.istore_n 2, 1) := by decide +kernel
theorem e_Plan_hasInputOf_2 : decode M_Plan_hasInputOf.2.1 2 = .ok (.iload_n 2, 1) := by decide +kernel
theorem e_Plan_hasInputOf_3 : decode M_Plan_hasInputOf.2.1 3 = .ok (.aload_n 0, 1) := by decide +kernel
theorem e_Plan_hasInputOf_4 : decode M_Plan_hasInputOf.2.1 4 = .ok (.getfield 21, 3) := by decide +kernel
theorem e_Plan_hasInputOf_7 : decode M_Plan_hasInputOf.2.1 7 = .ok (.if_icmp .ge 30, 3) := by decide +kernel
theorem e_Plan_hasInputOf_10 : decode M_Plan_hasInputOf.2.1 10 = .ok (.aload_n 0, 1) := by decide +kernel
theorem e_Plan_hasInputOf_11 : decode M_Plan_hasInputOf.2.1 11 = .ok (.getfield 24, 3) := by decide +kernel
theorem e_Plan_hasInputOf_14 : decode M_Plan_hasInputOf.2.1 14 = .ok (.iload_n 2, 1) := by decide +kernel
theorem e_Plan_hasInputOf_15 : decode M_Plan_hasInputOf.2.1 15 = .ok (.iaload, 1) := by decide +kernel
theorem e_Plan_hasInputOf_16 : decode M_Plan_hasInputOf.2.1 16 = .ok (.ifCond .ne 15, 3) := by decide +kernel
theorem e_Plan_hasInputOf_19 : decode M_Plan_hasInputOf.2.1 19 = .ok (.aload_n 0, 1) := by decide +kernel
theorem e_Plan_hasInputOf_20 : decode M_Plan_hasInputOf.2.1 20 = .ok (.getfield 34, 3) := by decide +kernel
theorem e_Plan_hasInputOf_23 : decode M_Plan_hasInputOf.2.1 23 = .ok (.iload_n 2, 1) := by decide +kernel
theorem e_Plan_hasInputOf_24 : decode M_Plan_hasInputOf.2.1 24 = .ok (.iaload, 1) := by decide +kernel
theorem e_Plan_hasInputOf_25 : decode M_Plan_hasInputOf.2.1 25 = .ok (.iload_n 1, 1) := by decide +kernel
theorem e_Plan_hasInputOf_26 : decode M_Plan_hasInputOf.2.1 26 = .ok (.if_icmp .ne 5, 3) := by decide +kernel
theorem e_Plan_hasInputOf_29 : decode M_Plan_hasInputOf.2.1 29 = .ok (.iconst 1, 1) := by decide +kernel
theorem e_Plan_hasInputOf_30 : decode M_Plan_hasInputOf.2.1 30 = .ok (.ireturn, 1) := by decide +kernel
theorem e_Plan_hasInputOf_31 : decode M_Plan_hasInputOf.2.1 31 = .ok (.iinc 2 1, 3) := by decide +kernel
theorem e_Plan_hasInputOf_34 : decode M_Plan_hasInputOf.2.1 34 = .ok (.goto (-32), 3) := by decide +kernel
theorem e_Plan_hasInputOf_37 : decode M_Plan_hasInputOf.2.1 37 = .ok (.iconst 0, 1) := by decide +kernel
theorem e_Plan_hasInputOf_38 : decode M_Plan_hasInputOf.2.1 38 = .ok (.ireturn, 1) := by decide +kernel
theorem e_Noted_furthest_0 : decode M_Noted_furthest.2.1 0 = .ok (.iconst 0, 1) := by decide +kernel
theorem e_Noted_furthest_1 : decode M_Noted_furthest.2.1 1 = .ok (.istore_n 1, 1) := by decide +kernel
theorem e_Noted_furthest_2 : decode M_Noted_furthest.2.1 2 = .ok (.iconst 0, 1) := by decide +kernel
theorem e_Noted_furthest_3 : decode M_Noted_furthest.2.1 3 = .ok (.istore_n 2, 1) := by decide +kernel
theorem e_Noted_furthest_4 : decode M_Noted_furthest.2.1 4 = .ok (.iload_n 2, 1) := by decide +kernel
theorem e_Noted_furthest_5 : decode M_Noted_furthest.2.1 5 = .ok (.aload_n 0, 1) := by decide +kernel
theorem e_Noted_furthest_6 : decode M_Noted_furthest.2.1 6 = .ok (.getfield 9, 3) := by decide +kernel
theorem e_Noted_furthest_9 : decode M_Noted_furthest.2.1 9 = .ok (.if_icmp .ge 20, 3) := by decide +kernel
theorem e_Noted_furthest_12 : decode M_Noted_furthest.2.1 12 = .ok (.iload_n 1, 1) := by decide +kernel
theorem e_Noted_furthest_13 : decode M_Noted_furthest.2.1 13 = .ok (.aload_n 0, 1) := by decide +kernel
theorem e_Noted_furthest_14 : decode M_Noted_furthest.2.1 14 = .ok (.getfield 19, 3) := by decide +kernel
theorem e_Noted_furthest_17 : decode M_Noted_furthest.2.1 17 = .ok (.iload_n 2, 1) := by decide +kernel
theorem e_Noted_furthest_18 : decode M_Noted_furthest.2.1 18 = .ok (.iaload, 1) := by decide +kernel
theorem e_Noted_furthest_19 : decode M_Noted_furthest.2.1 19 = .ok (.invokestatic 25, 3) := by decide +kernel
theorem e_Noted_furthest_22 : decode M_Noted_furthest.2.1 22 = .ok (.istore_n 1, 1) := by decide +kernel
theorem e_Noted_furthest_23 : decode M_Noted_furthest.2.1 23 = .ok (.iinc 2 1, 3) := by decide +kernel
theorem e_Noted_furthest_26 : decode M_Noted_furthest.2.1 26 = .ok (.goto (-22), 3) := by decide +kernel
theorem e_Noted_furthest_29 : decode M_Noted_furthest.2.1 29 = .ok (.iload_n 1, 1) := by decide +kernel
theorem e_Noted_furthest_30 : decode M_Noted_furthest.2.1 30 = .ok (.ireturn, 1) := by decide +kernel
theorem e_Noted_isSo_0 : decode M_Noted_isSo.2.1 0 = .ok (.iconst 0, 1) := by decide +kernel
theorem e_Noted_isSo_1 : decode M_Noted_isSo.2.1 1 = .ok (.istore_n 3, 1) := by decide +kernel
theorem e_Noted_isSo_2 : decode M_Noted_isSo.2.1 2 = .ok (.iload_n 3, 1) := by decide +kernel
theorem e_Noted_isSo_3 : decode M_Noted_isSo.2.1 3 = .ok (.aload_n 0, 1) := by decide +kernel
theorem e_Noted_isSo_4 : decode M_Noted_isSo.2.1 4 = .ok (.getfield 9, 3) := by decide +kernel
theorem e_Noted_isSo_7 : decode M_Noted_isSo.2.1 7 = .ok (.if_icmp .ge 43, 3) := by decide +kernel
theorem e_Noted_isSo_10 : decode M_Noted_isSo.2.1 10 = .ok (.aload_n 0, 1) := by decide +kernel
theorem e_Noted_isSo_11 : decode M_Noted_isSo.2.1 11 = .ok (.getfield 19, 3) := by decide +kernel
theorem e_Noted_isSo_14 : decode M_Noted_isSo.2.1 14 = .ok (.iload_n 3, 1) := by decide +kernel
theorem e_Noted_isSo_15 : decode M_Noted_isSo.2.1 15 = .ok (.iaload, 1) := by decide +kernel
theorem e_Noted_isSo_16 : decode M_Noted_isSo.2.1 16 = .ok (.iload_n 2, 1) := by decide +kernel
theorem e_Noted_isSo_17 : decode M_Noted_isSo.2.1 17 = .ok (.if_icmp .ne 27, 3) := by decide +kernel
theorem e_Noted_isSo_20 : decode M_Noted_isSo.2.1 20 = .ok (.aload_n 1, 1) := by decide +kernel
theorem e_Noted_isSo_21 : decode M_Noted_isSo.2.1 21 = .ok (.aload_n 0, 1) := by decide +kernel
theorem e_Noted_isSo_22 : decode M_Noted_isSo.2.1 22 = .ok (.getfield 15, 3) := by decide +kernel
theorem e_Noted_isSo_25 : decode M_Noted_isSo.2.1 25 = .ok (.iload_n 3, 1) := by decide +kernel
theorem e_Noted_isSo_26 : decode M_Noted_isSo.2.1 26 = .ok (.iaload, 1) := by decide +kernel
theorem e_Noted_isSo_27 : decode M_Noted_isSo.2.1 27 = .ok (.bipush 9, 2) := by decide +kernel
theorem e_Noted_isSo_29 : decode M_Noted_isSo.2.1 29 = .ok (.imul, 1) := by decide +kernel
theorem e_Noted_isSo_30 : decode M_Noted_isSo.2.1 30 = .ok (.iconst 1, 1) := by decide +kernel
theorem e_Noted_isSo_31 : decode M_Noted_isSo.2.1 31 = .ok (.iadd, 1) := by decide +kernel
theorem e_Noted_isSo_32 : decode M_Noted_isSo.2.1 32 = .ok (.iaload, 1) := by decide +kernel
theorem e_Noted_isSo_33 : decode M_Noted_isSo.2.1 33 = .ok (.aload_n 0, 1) := by decide +kernel
theorem e_Noted_isSo_34 : decode M_Noted_isSo.2.1 34 = .ok (.getfield 22, 3) := by decide +kernel
theorem e_Noted_isSo_37 : decode M_Noted_isSo.2.1 37 = .ok (.iload_n 3, 1) := by decide +kernel
theorem e_Noted_isSo_38 : decode M_Noted_isSo.2.1 38 = .ok (.iaload, 1) := by decide +kernel
theorem e_Noted_isSo_39 : decode M_Noted_isSo.2.1 39 = .ok (.if_icmp .eq 5, 3) := by decide +kernel
theorem e_Noted_isSo_42 : decode M_Noted_isSo.2.1 42 = .ok (.iconst 0, 1) := by decide +kernel
theorem e_Noted_isSo_43 : decode M_Noted_isSo.2.1 43 = .ok (.ireturn, 1) := by decide +kernel
theorem e_Noted_isSo_44 : decode M_Noted_isSo.2.1 44 = .ok (.iinc 3 1, 3) := by decide +kernel
theorem e_Noted_isSo_47 : decode M_Noted_isSo.2.1 47 = .ok (.goto (-45), 3) := by decide +kernel
theorem e_Noted_isSo_50 : decode M_Noted_isSo.2.1 50 = .ok (.iconst 1, 1) := by decide +kernel
theorem e_Noted_isSo_51 : decode M_Noted_isSo.2.1 51 = .ok (.ireturn, 1) := by decide +kernel
theorem e_Noted_clear_0 : decode M_Noted_clear.2.1 0 = .ok (.aload_n 0, 1) := by decide +kernel
theorem e_Noted_clear_1 : decode M_Noted_clear.2.1 1 = .ok (.iconst 0, 1) := by decide +kernel
theorem e_Noted_clear_2 : decode M_Noted_clear.2.1 2 = .ok (.putfield 9, 3) := by decide +kernel
theorem e_Noted_clear_5 : decode M_Noted_clear.2.1 5 = .ok (.return_, 1) := by decide +kernel
theorem e_Memory_copyFrom_0 : decode M_Memory_copyFrom.2.1 0 = .ok (.aload_n 0, 1) := by decide +kernel
theorem e_Memory_copyFrom_1 : decode M_Memory_copyFrom.2.1 1 = .ok (.getfield 12, 3) := by decide +kernel
theorem e_Memory_copyFrom_4 : decode M_Memory_copyFrom.2.1 4 = .ok (.aload_n 1, 1) := by decide +kernel
theorem e_Memory_copyFrom_5 : decode M_Memory_copyFrom.2.1 5 = .ok (.getfield 12, 3) := by decide +kernel
theorem e_Memory_copyFrom_8 : decode M_Memory_copyFrom.2.1 8 = .ok (.invokevirtual 40, 3) := by decide +kernel
theorem e_Memory_copyFrom_11 : decode M_Memory_copyFrom.2.1 11 = .ok (.aload_n 0, 1) := by decide +kernel
theorem e_Memory_copyFrom_12 : decode M_Memory_copyFrom.2.1 12 = .ok (.getfield 21, 3) := by decide +kernel
theorem e_Memory_copyFrom_15 : decode M_Memory_copyFrom.2.1 15 = .ok (.aload_n 1, 1) := by decide +kernel
theorem e_Memory_copyFrom_16 : decode M_Memory_copyFrom.2.1 16 = .ok (.getfield 21, 3) := by decide +kernel
theorem e_Memory_copyFrom_19 : decode M_Memory_copyFrom.2.1 19 = .ok (.invokevirtual 43, 3) := by decide +kernel
theorem e_Memory_copyFrom_22 : decode M_Memory_copyFrom.2.1 22 = .ok (.aload_n 0, 1) := by decide +kernel
theorem e_Memory_copyFrom_23 : decode M_Memory_copyFrom.2.1 23 = .ok (.getfield 28, 3) := by decide +kernel
theorem e_Memory_copyFrom_26 : decode M_Memory_copyFrom.2.1 26 = .ok (.aload_n 1, 1) := by decide +kernel
theorem e_Memory_copyFrom_27 : decode M_Memory_copyFrom.2.1 27 = .ok (.getfield 28, 3) := by decide +kernel
theorem e_Memory_copyFrom_30 : decode M_Memory_copyFrom.2.1 30 = .ok (.invokevirtual 46, 3) := by decide +kernel
theorem e_Memory_copyFrom_33 : decode M_Memory_copyFrom.2.1 33 = .ok (.iconst 0, 1) := by decide +kernel
theorem e_Memory_copyFrom_34 : decode M_Memory_copyFrom.2.1 34 = .ok (.istore_n 2, 1) := by decide +kernel
theorem e_Memory_copyFrom_35 : decode M_Memory_copyFrom.2.1 35 = .ok (.iload_n 2, 1) := by decide +kernel
theorem e_Memory_copyFrom_36 : decode M_Memory_copyFrom.2.1 36 = .ok (.iconst 3, 1) := by decide +kernel
theorem e_Memory_copyFrom_37 : decode M_Memory_copyFrom.2.1 37 = .ok (.if_icmp .ge 21, 3) := by decide +kernel
theorem e_Memory_copyFrom_40 : decode M_Memory_copyFrom.2.1 40 = .ok (.aload_n 0, 1) := by decide +kernel
theorem e_Memory_copyFrom_41 : decode M_Memory_copyFrom.2.1 41 = .ok (.getfield 32, 3) := by decide +kernel
theorem e_Memory_copyFrom_44 : decode M_Memory_copyFrom.2.1 44 = .ok (.iload_n 2, 1) := by decide +kernel
theorem e_Memory_copyFrom_45 : decode M_Memory_copyFrom.2.1 45 = .ok (.aload_n 1, 1) := by decide +kernel
theorem e_Memory_copyFrom_46 : decode M_Memory_copyFrom.2.1 46 = .ok (.getfield 32, 3) := by decide +kernel
theorem e_Memory_copyFrom_49 : decode M_Memory_copyFrom.2.1 49 = .ok (.iload_n 2, 1) := by decide +kernel
theorem e_Memory_copyFrom_50 : decode M_Memory_copyFrom.2.1 50 = .ok (.iaload, 1) := by decide +kernel
theorem e_Memory_copyFrom_51 : decode M_Memory_copyFrom.2.1 51 = .ok (.iastore, 1) := by decide +kernel
theorem e_Memory_copyFrom_52 : decode M_Memory_copyFrom.2.1 52 = .ok (.iinc 2 1, 3) := by decide +kernel
theorem e_Memory_copyFrom_55 : decode M_Memory_copyFrom.2.1 55 = .ok (.goto (-20), 3) := by decide +kernel
theorem e_Memory_copyFrom_58 : decode M_Memory_copyFrom.2.1 58 = .ok (.return_, 1) := by decide +kernel
theorem e_History_copyFrom_0 : decode M_History_copyFrom.2.1 0 = .ok (.aload_n 0, 1) := by decide +kernel
theorem e_History_copyFrom_1 : decode M_History_copyFrom.2.1 1 = .ok (.aload_n 1, 1) := by decide +kernel
theorem e_History_copyFrom_2 : decode M_History_copyFrom.2.1 2 = .ok (.getfield 9, 3) := by decide +kernel
theorem e_History_copyFrom_5 : decode M_History_copyFrom.2.1 5 = .ok (.putfield 9, 3) := by decide +kernel
theorem e_History_copyFrom_8 : decode M_History_copyFrom.2.1 8 = .ok (.aload_n 0, 1) := by decide +kernel
theorem e_History_copyFrom_9 : decode M_History_copyFrom.2.1 9 = .ok (.iconst 0, 1) := by decide +kernel
theorem e_History_copyFrom_10 : decode M_History_copyFrom.2.1 10 = .ok (.putfield 15, 3) := by decide +kernel
theorem e_History_copyFrom_13 : decode M_History_copyFrom.2.1 13 = .ok (.iconst 0, 1) := by decide +kernel
theorem e_History_copyFrom_14 : decode M_History_copyFrom.2.1 14 = .ok (.istore_n 2, 1) := by decide +kernel
theorem e_History_copyFrom_15 : decode M_History_copyFrom.2.1 15 = .ok (.iload_n 2, 1) := by decide +kernel
theorem e_History_copyFrom_16 : decode M_History_copyFrom.2.1 16 = .ok (.aload_n 0, 1) := by decide +kernel
theorem e_History_copyFrom_17 : decode M_History_copyFrom.2.1 17 = .ok (.getfield 9, 3) := by decide +kernel
theorem e_History_copyFrom_20 : decode M_History_copyFrom.2.1 20 = .ok (.if_icmp .ge 34, 3) := by decide +kernel
theorem e_History_copyFrom_23 : decode M_History_copyFrom.2.1 23 = .ok (.aload_n 1, 1) := by decide +kernel
theorem e_History_copyFrom_24 : decode M_History_copyFrom.2.1 24 = .ok (.getfield 20, 3) := by decide +kernel
theorem e_History_copyFrom_27 : decode M_History_copyFrom.2.1 27 = .ok (.aload_n 1, 1) := by decide +kernel
theorem e_History_copyFrom_28 : decode M_History_copyFrom.2.1 28 = .ok (.getfield 15, 3) := by decide +kernel
theorem e_History_copyFrom_31 : decode M_History_copyFrom.2.1 31 = .ok (.iload_n 2, 1) := by decide +kernel
theorem e_History_copyFrom_32 : decode M_History_copyFrom.2.1 32 = .ok (.iadd, 1) := by decide +kernel
theorem e_History_copyFrom_33 : decode M_History_copyFrom.2.1 33 = .ok (.bipush 40, 2) := by decide +kernel
theorem e_History_copyFrom_35 : decode M_History_copyFrom.2.1 35 = .ok (.irem, 1) := by decide +kernel
theorem e_History_copyFrom_36 : decode M_History_copyFrom.2.1 36 = .ok (.aaload, 1) := by decide +kernel
theorem e_History_copyFrom_37 : decode M_History_copyFrom.2.1 37 = .ok (.astore_n 3, 1) := by decide +kernel
theorem e_History_copyFrom_38 : decode M_History_copyFrom.2.1 38 = .ok (.aload_n 3, 1) := by decide +kernel
theorem e_History_copyFrom_39 : decode M_History_copyFrom.2.1 39 = .ok (.ifnull 9, 3) := by decide +kernel
theorem e_History_copyFrom_42 : decode M_History_copyFrom.2.1 42 = .ok (.aload_n 0, 1) := by decide +kernel
theorem e_History_copyFrom_43 : decode M_History_copyFrom.2.1 43 = .ok (.iload_n 2, 1) := by decide +kernel
theorem e_History_copyFrom_44 : decode M_History_copyFrom.2.1 44 = .ok (.aload_n 3, 1) := by decide +kernel
theorem e_History_copyFrom_45 : decode M_History_copyFrom.2.1 45 = .ok (.invokevirtual 24, 3) := by decide +kernel
theorem e_History_copyFrom_48 : decode M_History_copyFrom.2.1 48 = .ok (.iinc 2 1, 3) := by decide +kernel
theorem e_History_copyFrom_51 : decode M_History_copyFrom.2.1 51 = .ok (.goto (-36), 3) := by decide +kernel
theorem e_History_copyFrom_54 : decode M_History_copyFrom.2.1 54 = .ok (.return_, 1) := by decide +kernel
theorem e_Noted_copyFrom_0 : decode M_Noted_copyFrom.2.1 0 = .ok (.aload_n 0, 1) := by decide +kernel
theorem e_Noted_copyFrom_1 : decode M_Noted_copyFrom.2.1 1 = .ok (.aload_n 1, 1) := by decide +kernel
theorem e_Noted_copyFrom_2 : decode M_Noted_copyFrom.2.1 2 = .ok (.getfield 9, 3) := by decide +kernel
theorem e_Noted_copyFrom_5 : decode M_Noted_copyFrom.2.1 5 = .ok (.putfield 9, 3) := by decide +kernel
theorem e_Noted_copyFrom_8 : decode M_Noted_copyFrom.2.1 8 = .ok (.iconst 0, 1) := by decide +kernel
theorem e_Noted_copyFrom_9 : decode M_Noted_copyFrom.2.1 9 = .ok (.istore_n 2, 1) := by decide +kernel
theorem e_Noted_copyFrom_10 : decode M_Noted_copyFrom.2.1 10 = .ok (.iload_n 2, 1) := by decide +kernel
theorem e_Noted_copyFrom_11 : decode M_Noted_copyFrom.2.1 11 = .ok (.aload_n 0, 1) := by decide +kernel
theorem e_Noted_copyFrom_12 : decode M_Noted_copyFrom.2.1 12 = .ok (.getfield 9, 3) := by decide +kernel
theorem e_Noted_copyFrom_15 : decode M_Noted_copyFrom.2.1 15 = .ok (.if_icmp .ge 45, 3) := by decide +kernel
theorem e_Noted_copyFrom_18 : decode M_Noted_copyFrom.2.1 18 = .ok (.aload_n 0, 1) := by decide +kernel
theorem e_Noted_copyFrom_19 : decode M_Noted_copyFrom.2.1 19 = .ok (.getfield 15, 3) := by decide +kernel
theorem e_Noted_copyFrom_22 : decode M_Noted_copyFrom.2.1 22 = .ok (.iload_n 2, 1) := by decide +kernel
theorem e_Noted_copyFrom_23 : decode M_Noted_copyFrom.2.1 23 = .ok (.aload_n 1, 1) := by decide +kernel
theorem e_Noted_copyFrom_24 : decode M_Noted_copyFrom.2.1 24 = .ok (.getfield 15, 3) := by decide +kernel
theorem e_Noted_copyFrom_27 : decode M_Noted_copyFrom.2.1 27 = .ok (.iload_n 2, 1) := by decide +kernel
theorem e_Noted_copyFrom_28 : decode M_Noted_copyFrom.2.1 28 = .ok (.iaload, 1) := by decide +kernel
theorem e_Noted_copyFrom_29 : decode M_Noted_copyFrom.2.1 29 = .ok (.iastore, 1) := by decide +kernel
theorem e_Noted_copyFrom_30 : decode M_Noted_copyFrom.2.1 30 = .ok (.aload_n 0, 1) := by decide +kernel
theorem e_Noted_copyFrom_31 : decode M_Noted_copyFrom.2.1 31 = .ok (.getfield 19, 3) := by decide +kernel
theorem e_Noted_copyFrom_34 : decode M_Noted_copyFrom.2.1 34 = .ok (.iload_n 2, 1) := by decide +kernel
theorem e_Noted_copyFrom_35 : decode M_Noted_copyFrom.2.1 35 = .ok (.aload_n 1, 1) := by decide +kernel
theorem e_Noted_copyFrom_36 : decode M_Noted_copyFrom.2.1 36 = .ok (.getfield 19, 3) := by decide +kernel
theorem e_Noted_copyFrom_39 : decode M_Noted_copyFrom.2.1 39 = .ok (.iload_n 2, 1) := by decide +kernel
theorem e_Noted_copyFrom_40 : decode M_Noted_copyFrom.2.1 40 = .ok (.iaload, 1) := by decide +kernel
theorem e_Noted_copyFrom_41 : decode M_Noted_copyFrom.2.1 41 = .ok (.iastore, 1) := by decide +kernel
theorem e_Noted_copyFrom_42 : decode M_Noted_copyFrom.2.1 42 = .ok (.aload_n 0, 1) := by decide +kernel
theorem e_Noted_copyFrom_43 : decode M_Noted_copyFrom.2.1 43 = .ok (.getfield 22, 3) := by decide +kernel
theorem e_Noted_copyFrom_46 : decode M_Noted_copyFrom.2.1 46 = .ok (.iload_n 2, 1) := by decide +kernel
theorem e_Noted_copyFrom_47 : decode M_Noted_copyFrom.2.1 47 = .ok (.aload_n 1, 1) := by decide +kernel
theorem e_Noted_copyFrom_48 : decode M_Noted_copyFrom.2.1 48 = .ok (.getfield 22, 3) := by decide +kernel
theorem e_Noted_copyFrom_51 : decode M_Noted_copyFrom.2.1 51 = .ok (.iload_n 2, 1) := by decide +kernel
theorem e_Noted_copyFrom_52 : decode M_Noted_copyFrom.2.1 52 = .ok (.iaload, 1) := by decide +kernel
theorem e_Noted_copyFrom_53 : decode M_Noted_copyFrom.2.1 53 = .ok (.iastore, 1) := by decide +kernel
theorem e_Noted_copyFrom_54 : decode M_Noted_copyFrom.2.1 54 = .ok (.iinc 2 1, 3) := by decide +kernel
theorem e_Noted_copyFrom_57 : decode M_Noted_copyFrom.2.1 57 = .ok (.goto (-47), 3) := by decide +kernel
theorem e_Noted_copyFrom_60 : decode M_Noted_copyFrom.2.1 60 = .ok (.return_, 1) := by decide +kernel
theorem e_Plan_clear_0 : decode M_Plan_clear.2.1 0 = .ok (.aload_n 0, 1) := by decide +kernel
theorem e_Plan_clear_1 : decode M_Plan_clear.2.1 1 = .ok (.iconst 2, 1) := by decide +kernel
theorem e_Plan_clear_2 : decode M_Plan_clear.2.1 2 = .ok (.putfield 9, 3) := by decide +kernel
theorem e_Plan_clear_5 : decode M_Plan_clear.2.1 5 = .ok (.aload_n 0, 1) := by decide +kernel
theorem e_Plan_clear_6 : decode M_Plan_clear.2.1 6 = .ok (.iconst 3, 1) := by decide +kernel
theorem e_Plan_clear_7 : decode M_Plan_clear.2.1 7 = .ok (.putfield 15, 3) := by decide +kernel
theorem e_Plan_clear_10 : decode M_Plan_clear.2.1 10 = .ok (.aload_n 0, 1) := by decide +kernel
theorem e_Plan_clear_11 : decode M_Plan_clear.2.1 11 = .ok (.iconst 2, 1) := by decide +kernel
theorem e_Plan_clear_12 : decode M_Plan_clear.2.1 12 = .ok (.putfield 18, 3) := by decide +kernel
theorem e_Plan_clear_15 : decode M_Plan_clear.2.1 15 = .ok (.aload_n 0, 1) := by decide +kernel
theorem e_Plan_clear_16 : decode M_Plan_clear.2.1 16 = .ok (.iconst 0, 1) := by decide +kernel
theorem e_Plan_clear_17 : decode M_Plan_clear.2.1 17 = .ok (.putfield 21, 3) := by decide +kernel
theorem e_Plan_clear_20 : decode M_Plan_clear.2.1 20 = .ok (.aload_n 0, 1) := by decide +kernel
theorem e_Plan_clear_21 : decode M_Plan_clear.2.1 21 = .ok (.getfield 65, 3) := by decide +kernel
theorem e_Plan_clear_24 : decode M_Plan_clear.2.1 24 = .ok (.iconst 0, 1) := by decide +kernel
theorem e_Plan_clear_25 : decode M_Plan_clear.2.1 25 = .ok (.putfield 83, 3) := by decide +kernel
theorem e_Plan_clear_28 : decode M_Plan_clear.2.1 28 = .ok (.aload_n 0, 1) := by decide +kernel
theorem e_Plan_clear_29 : decode M_Plan_clear.2.1 29 = .ok (.getfield 72, 3) := by decide +kernel
theorem e_Plan_clear_32 : decode M_Plan_clear.2.1 32 = .ok (.invokevirtual 86, 3) := by decide +kernel
theorem e_Plan_clear_35 : decode M_Plan_clear.2.1 35 = .ok (.return_, 1) := by decide +kernel
theorem e_Plants_clear_0 : decode M_Plants_clear.2.1 0 = .ok (.iconst 0, 1) := by decide +kernel
theorem e_Plants_clear_1 : decode M_Plants_clear.2.1 1 = .ok (.istore_n 1, 1) := by decide +kernel
theorem e_Plants_clear_2 : decode M_Plants_clear.2.1 2 = .ok (.iload_n 1, 1) := by decide +kernel
theorem e_Plants_clear_3 : decode M_Plants_clear.2.1 3 = .ok (.iconst 4, 1) := by decide +kernel
theorem e_Plants_clear_4 : decode M_Plants_clear.2.1 4 = .ok (.if_icmp .ge 30, 3) := by decide +kernel
theorem e_Plants_clear_7 : decode M_Plants_clear.2.1 7 = .ok (.aload_n 0, 1) := by decide +kernel
theorem e_Plants_clear_8 : decode M_Plants_clear.2.1 8 = .ok (.getfield 9, 3) := by decide +kernel
theorem e_Plants_clear_11 : decode M_Plants_clear.2.1 11 = .ok (.iload_n 1, 1) := by decide +kernel
theorem e_Plants_clear_12 : decode M_Plants_clear.2.1 12 = .ok (.iconst (-1), 1) := by decide +kernel
theorem e_Plants_clear_13 : decode M_Plants_clear.2.1 13 = .ok (.iastore, 1) := by decide +kernel
theorem e_Plants_clear_14 : decode M_Plants_clear.2.1 14 = .ok (.aload_n 0, 1) := by decide +kernel
theorem e_Plants_clear_15 : decode M_Plants_clear.2.1 15 = .ok (.getfield 15, 3) := by decide +kernel
theorem e_Plants_clear_18 : decode M_Plants_clear.2.1 18 = .ok (.iload_n 1, 1) := by decide +kernel
theorem e_Plants_clear_19 : decode M_Plants_clear.2.1 19 = .ok (.iconst 0, 1) := by decide +kernel
theorem e_Plants_clear_20 : decode M_Plants_clear.2.1 20 = .ok (.iastore, 1) := by decide +kernel
theorem e_Plants_clear_21 : decode M_Plants_clear.2.1 21 = .ok (.aload_n 0, 1) := by decide +kernel
theorem e_Plants_clear_22 : decode M_Plants_clear.2.1 22 = .ok (.getfield 18, 3) := by decide +kernel
theorem e_Plants_clear_25 : decode M_Plants_clear.2.1 25 = .ok (.iload_n 1, 1) := by decide +kernel
theorem e_Plants_clear_26 : decode M_Plants_clear.2.1 26 = .ok (.iconst 1, 1) := by decide +kernel
theorem e_Plants_clear_27 : decode M_Plants_clear.2.1 27 = .ok (.iastore, 1) := by decide +kernel
theorem e_Plants_clear_28 : decode M_Plants_clear.2.1 28 = .ok (.iinc 1 1, 3) := by decide +kernel
theorem e_Plants_clear_31 : decode M_Plants_clear.2.1 31 = .ok (.goto (-29), 3) := by decide +kernel
theorem e_Plants_clear_34 : decode M_Plants_clear.2.1 34 = .ok (.return_, 1) := by decide +kernel
theorem e_Plan_addBlock_0 : decode M_Plan_addBlock.2.1 0 = .ok (.aload_n 0, 1) := by decide +kernel
theorem e_Plan_addBlock_1 : decode M_Plan_addBlock.2.1 1 = .ok (.getfield 21, 3) := by decide +kernel
theorem e_Plan_addBlock_4 : decode M_Plan_addBlock.2.1 4 = .ok (.istore_n 3, 1) := by decide +kernel
theorem e_Plan_addBlock_5 : decode M_Plan_addBlock.2.1 5 = .ok (.aload_n 0, 1) := by decide +kernel
theorem e_Plan_addBlock_6 : decode M_Plan_addBlock.2.1 6 = .ok (.getfield 28, 3) := by decide +kernel
theorem e_Plan_addBlock_9 : decode M_Plan_addBlock.2.1 9 = .ok (.iload_n 3, 1) := by decide +kernel
theorem e_Plan_addBlock_10 : decode M_Plan_addBlock.2.1 10 = .ok (.iload_n 1, 1) := by decide +kernel
theorem e_Plan_addBlock_11 : decode M_Plan_addBlock.2.1 11 = .ok (.iastore, 1) := by decide +kernel
theorem e_Plan_addBlock_12 : decode M_Plan_addBlock.2.1 12 = .ok (.aload_n 0, 1) := by decide +kernel
theorem e_Plan_addBlock_13 : decode M_Plan_addBlock.2.1 13 = .ok (.getfield 31, 3) := by decide +kernel
theorem e_Plan_addBlock_16 : decode M_Plan_addBlock.2.1 16 = .ok (.iload_n 3, 1) := by decide +kernel
theorem e_Plan_addBlock_17 : decode M_Plan_addBlock.2.1 17 = .ok (.iload_n 2, 1) := by decide +kernel
theorem e_Plan_addBlock_18 : decode M_Plan_addBlock.2.1 18 = .ok (.iastore, 1) := by decide +kernel
theorem e_Plan_addBlock_19 : decode M_Plan_addBlock.2.1 19 = .ok (.aload_n 0, 1) := by decide +kernel
theorem e_Plan_addBlock_20 : decode M_Plan_addBlock.2.1 20 = .ok (.getfield 34, 3) := by decide +kernel
theorem e_Plan_addBlock_23 : decode M_Plan_addBlock.2.1 23 = .ok (.iload_n 3, 1) := by decide +kernel
theorem e_Plan_addBlock_24 : decode M_Plan_addBlock.2.1 24 = .ok (.iconst (-1), 1) := by decide +kernel
theorem e_Plan_addBlock_25 : decode M_Plan_addBlock.2.1 25 = .ok (.iastore, 1) := by decide +kernel
theorem e_Plan_addBlock_26 : decode M_Plan_addBlock.2.1 26 = .ok (.aload_n 0, 1) := by decide +kernel
theorem e_Plan_addBlock_27 : decode M_Plan_addBlock.2.1 27 = .ok (.getfield 37, 3) := by decide +kernel
theorem e_Plan_addBlock_30 : decode M_Plan_addBlock.2.1 30 = .ok (.iload_n 3, 1) := by decide +kernel
theorem e_Plan_addBlock_31 : decode M_Plan_addBlock.2.1 31 = .ok (.iconst 0, 1) := by decide +kernel
theorem e_Plan_addBlock_32 : decode M_Plan_addBlock.2.1 32 = .ok (.iastore, 1) := by decide +kernel
theorem e_Plan_addBlock_33 : decode M_Plan_addBlock.2.1 33 = .ok (.iconst 0, 1) := by decide +kernel
theorem e_Plan_addBlock_34 : decode M_Plan_addBlock.2.1 34 = .ok (.istore 4, 2) := by decide +kernel
theorem e_Plan_addBlock_36 : decode M_Plan_addBlock.2.1 36 = .ok (.iload 4, 2) := by decide +kernel
theorem e_Plan_addBlock_38 : decode M_Plan_addBlock.2.1 38 = .ok (.iconst 3, 1) := by decide +kernel
theorem e_Plan_addBlock_39 : decode M_Plan_addBlock.2.1 39 = .ok (.if_icmp .ge 21, 3) := by decide +kernel
theorem e_Plan_addBlock_42 : decode M_Plan_addBlock.2.1 42 = .ok (.aload_n 0, 1) := by decide +kernel
theorem e_Plan_addBlock_43 : decode M_Plan_addBlock.2.1 43 = .ok (.getfield 56, 3) := by decide +kernel
theorem e_Plan_addBlock_46 : decode M_Plan_addBlock.2.1 46 = .ok (.iload_n 3, 1) := by decide +kernel
theorem e_Plan_addBlock_47 : decode M_Plan_addBlock.2.1 47 = .ok (.iconst 3, 1) := by decide +kernel
theorem e_Plan_addBlock_48 : decode M_Plan_addBlock.2.1 48 = .ok (.imul, 1) := by decide +kernel
theorem e_Plan_addBlock_49 : decode M_Plan_addBlock.2.1 49 = .ok (.iload 4, 2) := by decide +kernel
theorem e_Plan_addBlock_51 : decode M_Plan_addBlock.2.1 51 = .ok (.iadd, 1) := by decide +kernel
theorem e_Plan_addBlock_52 : decode M_Plan_addBlock.2.1 52 = .ok (.iconst (-1), 1) := by decide +kernel
theorem e_Plan_addBlock_53 : decode M_Plan_addBlock.2.1 53 = .ok (.iastore, 1) := by decide +kernel
theorem e_Plan_addBlock_54 : decode M_Plan_addBlock.2.1 54 = .ok (.iinc 4 1, 3) := by decide +kernel
theorem e_Plan_addBlock_57 : decode M_Plan_addBlock.2.1 57 = .ok (.goto (-21), 3) := by decide +kernel
theorem e_Plan_addBlock_60 : decode M_Plan_addBlock.2.1 60 = .ok (.aload_n 0, 1) := by decide +kernel
theorem e_Plan_addBlock_61 : decode M_Plan_addBlock.2.1 61 = .ok (.getfield 59, 3) := by decide +kernel
theorem e_Plan_addBlock_64 : decode M_Plan_addBlock.2.1 64 = .ok (.iload_n 3, 1) := by decide +kernel
theorem e_Plan_addBlock_65 : decode M_Plan_addBlock.2.1 65 = .ok (.iconst (-1), 1) := by decide +kernel
theorem e_Plan_addBlock_66 : decode M_Plan_addBlock.2.1 66 = .ok (.iastore, 1) := by decide +kernel
theorem e_Plan_addBlock_67 : decode M_Plan_addBlock.2.1 67 = .ok (.aload_n 0, 1) := by decide +kernel
theorem e_Plan_addBlock_68 : decode M_Plan_addBlock.2.1 68 = .ok (.dup, 1) := by decide +kernel
theorem e_Plan_addBlock_69 : decode M_Plan_addBlock.2.1 69 = .ok (.getfield 21, 3) := by decide +kernel
theorem e_Plan_addBlock_72 : decode M_Plan_addBlock.2.1 72 = .ok (.iconst 1, 1) := by decide +kernel
theorem e_Plan_addBlock_73 : decode M_Plan_addBlock.2.1 73 = .ok (.iadd, 1) := by decide +kernel
theorem e_Plan_addBlock_74 : decode M_Plan_addBlock.2.1 74 = .ok (.putfield 21, 3) := by decide +kernel
theorem e_Plan_addBlock_77 : decode M_Plan_addBlock.2.1 77 = .ok (.iload_n 3, 1) := by decide +kernel
theorem e_Plan_addBlock_78 : decode M_Plan_addBlock.2.1 78 = .ok (.ireturn, 1) := by decide +kernel
theorem e_Plan_suits_0 : decode M_Plan_suits.2.1 0 = .ok (.iload_n 3, 1) := by decide +kernel
theorem e_Plan_suits_1 : decode M_Plan_suits.2.1 1 = .ok (.iconst 2, 1) := by decide +kernel
theorem e_Plan_suits_2 : decode M_Plan_suits.2.1 2 = .ok (.if_icmp .ne 39, 3) := by decide +kernel
theorem e_Plan_suits_5 : decode M_Plan_suits.2.1 5 = .ok (.aload_n 0, 1) := by decide +kernel
theorem e_Plan_suits_6 : decode M_Plan_suits.2.1 6 = .ok (.getfield 24, 3) := by decide +kernel
theorem e_Plan_suits_9 : decode M_Plan_suits.2.1 9 = .ok (.iload_n 1, 1) := by decide +kernel
theorem e_Plan_suits_10 : decode M_Plan_suits.2.1 10 = .ok (.iaload, 1) := by decide +kernel
theorem e_Plan_suits_11 : decode M_Plan_suits.2.1 11 = .ok (.iconst 1, 1) := by decide +kernel
theorem e_Plan_suits_12 : decode M_Plan_suits.2.1 12 = .ok (.if_icmp .ne 27, 3) := by decide +kernel
theorem e_Plan_suits_15 : decode M_Plan_suits.2.1 15 = .ok (.aload_n 0, 1) := by decide +kernel
theorem e_Plan_suits_16 : decode M_Plan_suits.2.1 16 = .ok (.getfield 24, 3) := by decide +kernel
theorem e_Plan_suits_19 : decode M_Plan_suits.2.1 19 = .ok (.iload_n 2, 1) := by decide +kernel
theorem e_Plan_suits_20 : decode M_Plan_suits.2.1 20 = .ok (.iaload, 1) := by decide +kernel
theorem e_Plan_suits_21 : decode M_Plan_suits.2.1 21 = .ok (.iconst 1, 1) := by decide +kernel
theorem e_Plan_suits_22 : decode M_Plan_suits.2.1 22 = .ok (.if_icmp .eq 13, 3) := by decide +kernel
theorem e_Plan_suits_25 : decode M_Plan_suits.2.1 25 = .ok (.aload_n 0, 1) := by decide +kernel
theorem e_Plan_suits_26 : decode M_Plan_suits.2.1 26 = .ok (.getfield 24, 3) := by decide +kernel
theorem e_Plan_suits_29 : decode M_Plan_suits.2.1 29 = .ok (.iload_n 2, 1) := by decide +kernel
theorem e_Plan_suits_30 : decode M_Plan_suits.2.1 30 = .ok (.iaload, 1) := by decide +kernel
theorem e_Plan_suits_31 : decode M_Plan_suits.2.1 31 = .ok (.iconst 2, 1) := by decide +kernel
theorem e_Plan_suits_32 : decode M_Plan_suits.2.1 32 = .ok (.if_icmp .ne 7, 3) := by decide +kernel
theorem e_Plan_suits_35 : decode M_Plan_suits.2.1 35 = .ok (.iconst 1, 1) := by decide +kernel
theorem e_Plan_suits_36 : decode M_Plan_suits.2.1 36 = .ok (.goto 4, 3) := by decide +kernel
theorem e_Plan_suits_39 : decode M_Plan_suits.2.1 39 = .ok (.iconst 0, 1) := by decide +kernel
theorem e_Plan_suits_40 : decode M_Plan_suits.2.1 40 = .ok (.ireturn, 1) := by decide +kernel
theorem e_Plan_suits_41 : decode M_Plan_suits.2.1 41 = .ok (.aload_n 0, 1) := by decide +kernel
theorem e_Plan_suits_42 : decode M_Plan_suits.2.1 42 = .ok (.getfield 24, 3) := by decide +kernel
theorem e_Plan_suits_45 : decode M_Plan_suits.2.1 45 = .ok (.iload_n 2, 1) := by decide +kernel
theorem e_Plan_suits_46 : decode M_Plan_suits.2.1 46 = .ok (.iaload, 1) := by decide +kernel
theorem e_Plan_suits_47 : decode M_Plan_suits.2.1 47 = .ok (.iconst 3, 1) := by decide +kernel
theorem e_Plan_suits_48 : decode M_Plan_suits.2.1 48 = .ok (.if_icmp .eq 17, 3) := by decide +kernel
theorem e_Plan_suits_51 : decode M_Plan_suits.2.1 51 = .ok (.iload_n 3, 1) := by decide +kernel
theorem e_Plan_suits_52 : decode M_Plan_suits.2.1 52 = .ok (.ifCond .ne 17, 3) := by decide +kernel
theorem e_Plan_suits_55 : decode M_Plan_suits.2.1 55 = .ok (.aload_n 0, 1) := by decide +kernel
theorem e_Plan_suits_56 : decode M_Plan_suits.2.1 56 = .ok (.getfield 24, 3) := by decide +kernel
theorem e_Plan_suits_59 : decode M_Plan_suits.2.1 59 = .ok (.iload_n 2, 1) := by decide +kernel
theorem e_Plan_suits_60 : decode M_Plan_suits.2.1 60 = .ok (.iaload, 1) := by decide +kernel
theorem e_Plan_suits_61 : decode M_Plan_suits.2.1 61 = .ok (.iconst 1, 1) := by decide +kernel
theorem e_Plan_suits_62 : decode M_Plan_suits.2.1 62 = .ok (.if_icmp .ne 7, 3) := by decide +kernel
theorem e_Plan_suits_65 : decode M_Plan_suits.2.1 65 = .ok (.iconst 1, 1) := by decide +kernel
theorem e_Plan_suits_66 : decode M_Plan_suits.2.1 66 = .ok (.goto 4, 3) := by decide +kernel
theorem e_Plan_suits_69 : decode M_Plan_suits.2.1 69 = .ok (.iconst 0, 1) := by decide +kernel
theorem e_Plan_suits_70 : decode M_Plan_suits.2.1 70 = .ok (.ireturn, 1) := by decide +kernel
theorem e_Plan_hasLinked_0 : decode M_Plan_hasLinked.2.1 0 = .ok (.aload_n 0, 1) := by decide +kernel
theorem e_Plan_hasLinked_1 : decode M_Plan_hasLinked.2.1 1 = .ok (.getfield 56, 3) := by decide +kernel
theorem e_Plan_hasLinked_4 : decode M_Plan_hasLinked.2.1 4 = .ok (.iload_n 2, 1) := by decide +kernel
theorem e_Plan_hasLinked_5 : decode M_Plan_hasLinked.2.1 5 = .ok (.iconst 3, 1) := by decide +kernel
theorem e_Plan_hasLinked_6 : decode M_Plan_hasLinked.2.1 6 = .ok (.imul, 1) := by decide +kernel
theorem e_Plan_hasLinked_7 : decode M_Plan_hasLinked.2.1 7 = .ok (.iload_n 3, 1) := by decide +kernel
theorem e_Plan_hasLinked_8 : decode M_Plan_hasLinked.2.1 8 = .ok (.iadd, 1) := by decide +kernel
theorem e_Plan_hasLinked_9 : decode M_Plan_hasLinked.2.1 9 = .ok (.iaload, 1) := by decide +kernel
theorem e_Plan_hasLinked_10 : decode M_Plan_hasLinked.2.1 10 = .ok (.iconst (-1), 1) := by decide +kernel
theorem e_Plan_hasLinked_11 : decode M_Plan_hasLinked.2.1 11 = .ok (.if_icmp .ne 18, 3) := by decide +kernel
theorem e_Plan_hasLinked_14 : decode M_Plan_hasLinked.2.1 14 = .ok (.iload_n 3, 1) := by decide +kernel
theorem e_Plan_hasLinked_15 : decode M_Plan_hasLinked.2.1 15 = .ok (.iconst 2, 1) := by decide +kernel
theorem e_Plan_hasLinked_16 : decode M_Plan_hasLinked.2.1 16 = .ok (.if_icmp .ne 17, 3) := by decide +kernel
theorem e_Plan_hasLinked_19 : decode M_Plan_hasLinked.2.1 19 = .ok (.aload_n 0, 1) := by decide +kernel
theorem e_Plan_hasLinked_20 : decode M_Plan_hasLinked.2.1 20 = .ok (.getfield 59, 3) := by decide +kernel
theorem e_Plan_hasLinked_23 : decode M_Plan_hasLinked.2.1 23 = .ok (.iload_n 1, 1) := by decide +kernel
theorem e_Plan_hasLinked_24 : decode M_Plan_hasLinked.2.1 24 = .ok (.iaload, 1) := by decide +kernel
theorem e_Plan_hasLinked_25 : decode M_Plan_hasLinked.2.1 25 = .ok (.iconst (-1), 1) := by decide +kernel
theorem e_Plan_hasLinked_26 : decode M_Plan_hasLinked.2.1 26 = .ok (.if_icmp .eq 7, 3) := by decide +kernel
theorem e_Plan_hasLinked_29 : decode M_Plan_hasLinked.2.1 29 = .ok (.iconst 1, 1) := by decide +kernel
theorem e_Plan_hasLinked_30 : decode M_Plan_hasLinked.2.1 30 = .ok (.goto 4, 3) := by decide +kernel
theorem e_Plan_hasLinked_33 : decode M_Plan_hasLinked.2.1 33 = .ok (.iconst 0, 1) := by decide +kernel
theorem e_Plan_hasLinked_34 : decode M_Plan_hasLinked.2.1 34 = .ok (.ireturn, 1) := by decide +kernel
theorem e_Links_leads_0 : decode M_Links_leads.2.1 0 = .ok (.iconst 1, 1) := by decide +kernel
theorem e_Links_leads_1 : decode M_Links_leads.2.1 1 = .ok (.iload_n 1, 1) := by decide +kernel
theorem e_Links_leads_2 : decode M_Links_leads.2.1 2 = .ok (.ishl, 1) := by decide +kernel
theorem e_Links_leads_3 : decode M_Links_leads.2.1 3 = .ok (.istore_n 3, 1) := by decide +kernel
theorem e_Links_leads_4 : decode M_Links_leads.2.1 4 = .ok (.iconst 0, 1) := by decide +kernel
theorem e_Links_leads_5 : decode M_Links_leads.2.1 5 = .ok (.istore 4, 2) := by decide +kernel
theorem e_Links_leads_7 : decode M_Links_leads.2.1 7 = .ok (.iload 4, 2) := by decide +kernel
theorem e_Links_leads_9 : decode M_Links_leads.2.1 9 = .ok (.bipush 10, 2) := by decide +kernel
theorem e_Links_leads_11 : decode M_Links_leads.2.1 11 = .ok (.if_icmp .ge 53, 3) := by decide +kernel
theorem e_Links_leads_14 : decode M_Links_leads.2.1 14 = .ok (.iconst 0, 1) := by decide +kernel
theorem e_Links_leads_15 : decode M_Links_leads.2.1 15 = .ok (.istore 5, 2) := by decide +kernel
theorem e_Links_leads_17 : decode M_Links_leads.2.1 17 = .ok (.iload 5, 2) := by decide +kernel
theorem e_Links_leads_19 : decode M_Links_leads.2.1 19 = .ok (.aload_n 0, 1) := by decide +kernel
theorem e_Links_leads_20 : decode M_Links_leads.2.1 20 = .ok (.getfield 9, 3) := by decide +kernel
theorem e_Links_leads_23 : decode M_Links_leads.2.1 23 = .ok (.if_icmp .ge 35, 3) := by decide +kernel
theorem e_Links_leads_26 : decode M_Links_leads.2.1 26 = .ok (.iload_n 3, 1) := by decide +kernel
theorem e_Links_leads_27 : decode M_Links_leads.2.1 27 = .ok (.aload_n 0, 1) := by decide +kernel
theorem e_Links_leads_28 : decode M_Links_leads.2.1 28 = .ok (.getfield 15, 3) := by decide +kernel
theorem e_Links_leads_31 : decode M_Links_leads.2.1 31 = .ok (.iload 5, 2) := by decide +kernel
theorem e_Links_leads_33 : decode M_Links_leads.2.1 33 = .ok (.iaload, 1) := by decide +kernel
theorem e_Links_leads_34 : decode M_Links_leads.2.1 34 = .ok (.invokestatic 25, 3) := by decide +kernel
theorem e_Links_leads_37 : decode M_Links_leads.2.1 37 = .ok (.ifCond .eq 15, 3) := by decide +kernel
theorem e_Links_leads_40 : decode M_Links_leads.2.1 40 = .ok (.iload_n 3, 1) := by decide +kernel
theorem e_Links_leads_41 : decode M_Links_leads.2.1 41 = .ok (.iconst 1, 1) := by decide +kernel
theorem e_Links_leads_42 : decode M_Links_leads.2.1 42 = .ok (.aload_n 0, 1) := by decide +kernel
theorem e_Links_leads_43 : decode M_Links_leads.2.1 43 = .ok (.getfield 19, 3) := by decide +kernel
theorem e_Links_leads_46 : decode M_Links_leads.2.1 46 = .ok (.iload 5, 2) := by decide +kernel
theorem e_Links_leads_48 : decode M_Links_leads.2.1 48 = .ok (.iaload, 1) := by decide +kernel
theorem e_Links_leads_49 : decode M_Links_leads.2.1 49 = .ok (.ishl, 1) := by decide +kernel
theorem e_Links_leads_50 : decode M_Links_leads.2.1 50 = .ok (.ior, 1) := by decide +kernel
theorem e_Links_leads_51 : decode M_Links_leads.2.1 51 = .ok (.istore_n 3, 1) := by decide +kernel
theorem e_Links_leads_52 : decode M_Links_leads.2.1 52 = .ok (.iinc 5 1, 3) := by decide +kernel
theorem e_Links_leads_55 : decode M_Links_leads.2.1 55 = .ok (.goto (-38), 3) := by decide +kernel
theorem e_Links_leads_58 : decode M_Links_leads.2.1 58 = .ok (.iinc 4 1, 3) := by decide +kernel
theorem e_Links_leads_61 : decode M_Links_leads.2.1 61 = .ok (.goto (-54), 3) := by decide +kernel
theorem e_Links_leads_64 : decode M_Links_leads.2.1 64 = .ok (.iload_n 3, 1) := by decide +kernel
theorem e_Links_leads_65 : decode M_Links_leads.2.1 65 = .ok (.iload_n 2, 1) := by decide +kernel
theorem e_Links_leads_66 : decode M_Links_leads.2.1 66 = .ok (.invokestatic 25, 3) := by decide +kernel
theorem e_Links_leads_69 : decode M_Links_leads.2.1 69 = .ok (.ireturn, 1) := by decide +kernel
theorem e_Plan_addLink_0 : decode M_Plan_addLink.2.1 0 = .ok (.aload_n 0, 1) := by decide +kernel
theorem e_Plan_addLink_1 : decode M_Plan_addLink.2.1 1 = .ok (.getfield 56, 3) := by decide +kernel
theorem e_Plan_addLink_4 : decode M_Plan_addLink.2.1 4 = .ok (.iload_n 2, 1) := by decide +kernel
theorem e_Plan_addLink_5 : decode M_Plan_addLink.2.1 5 = .ok (.iconst 3, 1) := by decide +kernel
theorem e_Plan_addLink_6 : decode M_Plan_addLink.2.1 6 = .ok (.imul, 1) := by decide +kernel
theorem e_Plan_addLink_7 : decode M_Plan_addLink.2.1 7 = .ok (.iload_n 3, 1) := by decide +kernel
theorem e_Plan_addLink_8 : decode M_Plan_addLink.2.1 8 = .ok (.iadd, 1) := by decide +kernel
theorem e_Plan_addLink_9 : decode M_Plan_addLink.2.1 9 = .ok (.aload_n 0, 1) := by decide +kernel
theorem e_Plan_addLink_10 : decode M_Plan_addLink.2.1 10 = .ok (.getfield 65, 3) := by decide +kernel
theorem e_Plan_addLink_13 : decode M_Plan_addLink.2.1 13 = .ok (.getfield 83, 3) := by decide +kernel
theorem e_Plan_addLink_16 : decode M_Plan_addLink.2.1 16 = .ok (.iastore, 1) := by decide +kernel
theorem e_Plan_addLink_17 : decode M_Plan_addLink.2.1 17 = .ok (.iload_n 3, 1) := by decide +kernel
theorem e_Plan_addLink_18 : decode M_Plan_addLink.2.1 18 = .ok (.iconst 2, 1) := by decide +kernel
theorem e_Plan_addLink_19 : decode M_Plan_addLink.2.1 19 = .ok (.if_icmp .ne 16, 3) := by decide +kernel
theorem e_Plan_addLink_22 : decode M_Plan_addLink.2.1 22 = .ok (.aload_n 0, 1) := by decide +kernel
theorem e_Plan_addLink_23 : decode M_Plan_addLink.2.1 23 = .ok (.getfield 59, 3) := by decide +kernel
theorem e_Plan_addLink_26 : decode M_Plan_addLink.2.1 26 = .ok (.iload_n 1, 1) := by decide +kernel
theorem e_Plan_addLink_27 : decode M_Plan_addLink.2.1 27 = .ok (.aload_n 0, 1) := by decide +kernel
theorem e_Plan_addLink_28 : decode M_Plan_addLink.2.1 28 = .ok (.getfield 65, 3) := by decide +kernel
theorem e_Plan_addLink_31 : decode M_Plan_addLink.2.1 31 = .ok (.getfield 83, 3) := by decide +kernel
theorem e_Plan_addLink_34 : decode M_Plan_addLink.2.1 34 = .ok (.iastore, 1) := by decide +kernel
theorem e_Plan_addLink_35 : decode M_Plan_addLink.2.1 35 = .ok (.aload_n 0, 1) := by decide +kernel
theorem e_Plan_addLink_36 : decode M_Plan_addLink.2.1 36 = .ok (.getfield 65, 3) := by decide +kernel
theorem e_Plan_addLink_39 : decode M_Plan_addLink.2.1 39 = .ok (.iload_n 1, 1) := by decide +kernel
theorem e_Plan_addLink_40 : decode M_Plan_addLink.2.1 40 = .ok (.iload_n 2, 1) := by decide +kernel
theorem e_Plan_addLink_41 : decode M_Plan_addLink.2.1 41 = .ok (.iload_n 3, 1) := by decide +kernel
theorem e_Plan_addLink_42 : decode M_Plan_addLink.2.1 42 = .ok (.invokevirtual 89, 3) := by decide +kernel
theorem e_Plan_addLink_45 : decode M_Plan_addLink.2.1 45 = .ok (.return_, 1) := by decide +kernel
theorem e_Links_add_0 : decode M_Links_add.2.1 0 = .ok (.aload_n 0, 1) := by decide +kernel
theorem e_Links_add_1 : decode M_Links_add.2.1 1 = .ok (.getfield 15, 3) := by decide +kernel
theorem e_Links_add_4 : decode M_Links_add.2.1 4 = .ok (.aload_n 0, 1) := by decide +kernel
theorem e_Links_add_5 : decode M_Links_add.2.1 5 = .ok (.getfield 9, 3) := by decide +kernel
theorem e_Links_add_8 : decode M_Links_add.2.1 8 = .ok (.iload_n 1, 1) := by decide +kernel
theorem e_Links_add_9 : decode M_Links_add.2.1 9 = .ok (.iastore, 1) := by decide +kernel
theorem e_Links_add_10 : decode M_Links_add.2.1 10 = .ok (.aload_n 0, 1) := by decide +kernel
theorem e_Links_add_11 : decode M_Links_add.2.1 11 = .ok (.getfield 19, 3) := by decide +kernel
theorem e_Links_add_14 : decode M_Links_add.2.1 14 = .ok (.aload_n 0, 1) := by decide +kernel
theorem e_Links_add_15 : decode M_Links_add.2.1 15 = .ok (.getfield 9, 3) := by decide +kernel
theorem e_Links_add_18 : decode M_Links_add.2.1 18 = .ok (.iload_n 2, 1) := by decide +kernel
theorem e_Links_add_19 : decode M_Links_add.2.1 19 = .ok (.iastore, 1) := by decide +kernel
theorem e_Links_add_20 : decode M_Links_add.2.1 20 = .ok (.aload_n 0, 1) := by decide +kernel
theorem e_Links_add_21 : decode M_Links_add.2.1 21 = .ok (.getfield 22, 3) := by decide +kernel
theorem e_Links_add_24 : decode M_Links_add.2.1 24 = .ok (.aload_n 0, 1) := by decide +kernel
theorem e_Links_add_25 : decode M_Links_add.2.1 25 = .ok (.getfield 9, 3) := by decide +kernel
theorem e_Links_add_28 : decode M_Links_add.2.1 28 = .ok (.iload_n 3, 1) := by decide +kernel
theorem e_Links_add_29 : decode M_Links_add.2.1 29 = .ok (.iastore, 1) := by decide +kernel
theorem e_Links_add_30 : decode M_Links_add.2.1 30 = .ok (.aload_n 0, 1) := by decide +kernel
theorem e_Links_add_31 : decode M_Links_add.2.1 31 = .ok (.dup, 1) := by decide +kernel
theorem e_Links_add_32 : decode M_Links_add.2.1 32 = .ok (.getfield 9, 3) := by decide +kernel
theorem e_Links_add_35 : decode M_Links_add.2.1 35 = .ok (.iconst 1, 1) := by decide +kernel
theorem e_Links_add_36 : decode M_Links_add.2.1 36 = .ok (.iadd, 1) := by decide +kernel
theorem e_Links_add_37 : decode M_Links_add.2.1 37 = .ok (.putfield 9, 3) := by decide +kernel
theorem e_Links_add_40 : decode M_Links_add.2.1 40 = .ok (.return_, 1) := by decide +kernel
theorem e_Layout_lay_0 : decode M_Layout_lay.2.1 0 = .ok (.aload_n 0, 1) := by decide +kernel
theorem e_Layout_lay_1 : decode M_Layout_lay.2.1 1 = .ok (.invokevirtual 43, 3) := by decide +kernel
theorem e_Layout_lay_4 : decode M_Layout_lay.2.1 4 = .ok (.iconst 0, 1) := by decide +kernel
theorem e_Layout_lay_5 : decode M_Layout_lay.2.1 5 = .ok (.istore 4, 2) := by decide +kernel
theorem e_Layout_lay_7 : decode M_Layout_lay.2.1 7 = .ok (.iload 4, 2) := by decide +kernel
theorem e_Layout_lay_9 : decode M_Layout_lay.2.1 9 = .ok (.aload_n 1, 1) := by decide +kernel
theorem e_Layout_lay_10 : decode M_Layout_lay.2.1 10 = .ok (.getfield 46, 3) := by decide +kernel
theorem e_Layout_lay_13 : decode M_Layout_lay.2.1 13 = .ok (.if_icmp .ge 55, 3) := by decide +kernel
theorem e_Layout_lay_16 : decode M_Layout_lay.2.1 16 = .ok (.aload_n 0, 1) := by decide +kernel
theorem e_Layout_lay_17 : decode M_Layout_lay.2.1 17 = .ok (.aload_n 1, 1) := by decide +kernel
theorem e_Layout_lay_18 : decode M_Layout_lay.2.1 18 = .ok (.invokevirtual 51, 3) := by decide +kernel
theorem e_Layout_lay_21 : decode M_Layout_lay.2.1 21 = .ok (.istore 5, 2) := by decide +kernel
theorem e_Layout_lay_23 : decode M_Layout_lay.2.1 23 = .ok (.iload 5, 2) := by decide +kernel
theorem e_Layout_lay_25 : decode M_Layout_lay.2.1 25 = .ok (.iconst (-1), 1) := by decide +kernel
theorem e_Layout_lay_26 : decode M_Layout_lay.2.1 26 = .ok (.if_icmp .ne 4, 3) := by decide +kernel
theorem e_Layout_lay_29 : decode M_Layout_lay.2.1 29 = .ok (.return_, 1) := by decide +kernel
theorem e_Layout_lay_30 : decode M_Layout_lay.2.1 30 = .ok (.aload_n 0, 1) := by decide +kernel
theorem e_Layout_lay_31 : decode M_Layout_lay.2.1 31 = .ok (.aload_n 1, 1) := by decide +kernel
theorem e_Layout_lay_32 : decode M_Layout_lay.2.1 32 = .ok (.iload 5, 2) := by decide +kernel
theorem e_Layout_lay_34 : decode M_Layout_lay.2.1 34 = .ok (.iload 5, 2) := by decide +kernel
theorem e_Layout_lay_36 : decode M_Layout_lay.2.1 36 = .ok (.iload_n 2, 1) := by decide +kernel
theorem e_Layout_lay_37 : decode M_Layout_lay.2.1 37 = .ok (.if_icmp .ne 15, 3) := by decide +kernel
theorem e_Layout_lay_40 : decode M_Layout_lay.2.1 40 = .ok (.aload_n 1, 1) := by decide +kernel
theorem e_Layout_lay_41 : decode M_Layout_lay.2.1 41 = .ok (.getfield 55, 3) := by decide +kernel
theorem e_Layout_lay_44 : decode M_Layout_lay.2.1 44 = .ok (.iload 5, 2) := by decide +kernel
theorem e_Layout_lay_46 : decode M_Layout_lay.2.1 46 = .ok (.iaload, 1) := by decide +kernel
theorem e_Layout_lay_47 : decode M_Layout_lay.2.1 47 = .ok (.iload_n 3, 1) := by decide +kernel
theorem e_Layout_lay_48 : decode M_Layout_lay.2.1 48 = .ok (.iadd, 1) := by decide +kernel
theorem e_Layout_lay_49 : decode M_Layout_lay.2.1 49 = .ok (.goto 10, 3) := by decide +kernel
theorem e_Layout_lay_52 : decode M_Layout_lay.2.1 52 = .ok (.aload_n 1, 1) := by decide +kernel
theorem e_Layout_lay_53 : decode M_Layout_lay.2.1 53 = .ok (.getfield 55, 3) := by decide +kernel
theorem e_Layout_lay_56 : decode M_Layout_lay.2.1 56 = .ok (.iload 5, 2) := by decide +kernel
theorem e_Layout_lay_58 : decode M_Layout_lay.2.1 58 = .ok (.iaload, 1) := by decide +kernel
theorem e_Layout_lay_59 : decode M_Layout_lay.2.1 59 = .ok (.invokevirtual 58, 3) := by decide +kernel
theorem e_Layout_lay_62 : decode M_Layout_lay.2.1 62 = .ok (.iinc 4 1, 3) := by decide +kernel
theorem e_Layout_lay_65 : decode M_Layout_lay.2.1 65 = .ok (.goto (-58), 3) := by decide +kernel
theorem e_Layout_lay_68 : decode M_Layout_lay.2.1 68 = .ok (.iconst 0, 1) := by decide +kernel
theorem e_Layout_lay_69 : decode M_Layout_lay.2.1 69 = .ok (.istore 4, 2) := by decide +kernel
theorem e_Layout_lay_71 : decode M_Layout_lay.2.1 71 = .ok (.iload 4, 2) := by decide +kernel
theorem e_Layout_lay_73 : decode M_Layout_lay.2.1 73 = .ok (.aload_n 1, 1) := by decide +kernel
theorem e_Layout_lay_74 : decode M_Layout_lay.2.1 74 = .ok (.getfield 62, 3) := by decide +kernel
theorem e_Layout_lay_77 : decode M_Layout_lay.2.1 77 = .ok (.getfield 66, 3) := by decide +kernel
theorem e_Layout_lay_80 : decode M_Layout_lay.2.1 80 = .ok (.if_icmp .ge 58, 3) := by decide +kernel
theorem e_Layout_lay_83 : decode M_Layout_lay.2.1 83 = .ok (.aload_n 1, 1) := by decide +kernel
theorem e_Layout_lay_84 : decode M_Layout_lay.2.1 84 = .ok (.getfield 62, 3) := by decide +kernel
theorem e_Layout_lay_87 : decode M_Layout_lay.2.1 87 = .ok (.getfield 71, 3) := by decide +kernel
theorem e_Layout_lay_90 : decode M_Layout_lay.2.1 90 = .ok (.iload 4, 2) := by decide +kernel
theorem e_Layout_lay_92 : decode M_Layout_lay.2.1 92 = .ok (.iaload, 1) := by decide +kernel
theorem e_Layout_lay_93 : decode M_Layout_lay.2.1 93 = .ok (.iconst 2, 1) := by decide +kernel
theorem e_Layout_lay_94 : decode M_Layout_lay.2.1 94 = .ok (.if_icmp .ne 38, 3) := by decide +kernel
theorem e_Layout_lay_97 : decode M_Layout_lay.2.1 97 = .ok (.aload_n 1, 1) := by decide +kernel
theorem e_Layout_lay_98 : decode M_Layout_lay.2.1 98 = .ok (.iload 4, 2) := by decide +kernel
theorem e_Layout_lay_100 : decode M_Layout_lay.2.1 100 = .ok (.invokestatic 74, 3) := by decide +kernel
theorem e_Layout_lay_103 : decode M_Layout_lay.2.1 103 = .ok (.ifCond .eq 29, 3) := by decide +kernel
theorem e_Layout_lay_106 : decode M_Layout_lay.2.1 106 = .ok (.aload_n 0, 1) := by decide +kernel
theorem e_Layout_lay_107 : decode M_Layout_lay.2.1 107 = .ok (.getfield 37, 3) := by decide +kernel
theorem e_Layout_lay_110 : decode M_Layout_lay.2.1 110 = .ok (.iload 4, 2) := by decide +kernel
theorem e_Layout_lay_112 : decode M_Layout_lay.2.1 112 = .ok (.aload_n 0, 1) := by decide +kernel
theorem e_Layout_lay_113 : decode M_Layout_lay.2.1 113 = .ok (.aload_n 0, 1) := by decide +kernel
theorem e_Layout_lay_114 : decode M_Layout_lay.2.1 114 = .ok (.getfield 31, 3) := by decide +kernel
theorem e_Layout_lay_117 : decode M_Layout_lay.2.1 117 = .ok (.aload_n 1, 1) := by decide +kernel
theorem e_Layout_lay_118 : decode M_Layout_lay.2.1 118 = .ok (.getfield 62, 3) := by decide +kernel
theorem e_Layout_lay_121 : decode M_Layout_lay.2.1 121 = .ok (.getfield 78, 3) := by decide +kernel
theorem e_Layout_lay_124 : decode M_Layout_lay.2.1 124 = .ok (.iload 4, 2) := by decide +kernel
theorem e_Layout_lay_126 : decode M_Layout_lay.2.1 126 = .ok (.iaload, 1) := by decide +kernel
theorem e_Layout_lay_127 : decode M_Layout_lay.2.1 127 = .ok (.iaload, 1) := by decide +kernel
theorem e_Layout_lay_128 : decode M_Layout_lay.2.1 128 = .ok (.invokevirtual 81, 3) := by decide +kernel
theorem e_Layout_lay_131 : decode M_Layout_lay.2.1 131 = .ok (.iastore, 1) := by decide +kernel
theorem e_Layout_lay_132 : decode M_Layout_lay.2.1 132 = .ok (.iinc 4 1, 3) := by decide +kernel
theorem e_Layout_lay_135 : decode M_Layout_lay.2.1 135 = .ok (.goto (-64), 3) := by decide +kernel
theorem e_Layout_lay_138 : decode M_Layout_lay.2.1 138 = .ok (.return_, 1) := by decide +kernel
theorem e_Layout_startEmpty_0 : decode M_Layout_startEmpty.2.1 0 = .ok (.aload_n 0, 1) := by decide +kernel
theorem e_Layout_startEmpty_1 : decode M_Layout_startEmpty.2.1 1 = .ok (.iconst 0, 1) := by decide +kernel
theorem e_Layout_startEmpty_2 : decode M_Layout_startEmpty.2.1 2 = .ok (.putfield 9, 3) := by decide +kernel
theorem e_Layout_startEmpty_5 : decode M_Layout_startEmpty.2.1 5 = .ok (.aload_n 0, 1) := by decide +kernel
theorem e_Layout_startEmpty_6 : decode M_Layout_startEmpty.2.1 6 = .ok (.iconst 0, 1) := by decide +kernel
theorem e_Layout_startEmpty_7 : decode M_Layout_startEmpty.2.1 7 = .ok (.putfield 15, 3) := by decide +kernel
theorem e_Layout_startEmpty_10 : decode M_Layout_startEmpty.2.1 10 = .ok (.aload_n 0, 1) := by decide +kernel
theorem e_Layout_startEmpty_11 : decode M_Layout_startEmpty.2.1 11 = .ok (.iconst 0, 1) := by decide +kernel
theorem e_Layout_startEmpty_12 : decode M_Layout_startEmpty.2.1 12 = .ok (.putfield 18, 3) := by decide +kernel
theorem e_Layout_startEmpty_15 : decode M_Layout_startEmpty.2.1 15 = .ok (.iconst 0, 1) := by decide +kernel
theorem e_Layout_startEmpty_16 : decode M_Layout_startEmpty.2.1 16 = .ok (.istore_n 1, 1) := by decide +kernel
theorem e_Layout_startEmpty_17 : decode M_Layout_startEmpty.2.1 17 = .ok (.iload_n 1, 1) := by decide +kernel
theorem e_Layout_startEmpty_18 : decode M_Layout_startEmpty.2.1 18 = .ok (.bipush 10, 2) := by decide +kernel
theorem e_Layout_startEmpty_20 : decode M_Layout_startEmpty.2.1 20 = .ok (.if_icmp .ge 16, 3) := by decide +kernel
theorem e_Layout_startEmpty_23 : decode M_Layout_startEmpty.2.1 23 = .ok (.aload_n 0, 1) := by decide +kernel
theorem e_Layout_startEmpty_24 : decode M_Layout_startEmpty.2.1 24 = .ok (.getfield 25, 3) := by decide +kernel
theorem e_Layout_startEmpty_27 : decode M_Layout_startEmpty.2.1 27 = .ok (.iload_n 1, 1) := by decide +kernel
theorem e_Layout_startEmpty_28 : decode M_Layout_startEmpty.2.1 28 = .ok (.iconst (-1), 1) := by decide +kernel
theorem e_Layout_startEmpty_29 : decode M_Layout_startEmpty.2.1 29 = .ok (.iastore, 1) := by decide +kernel
theorem e_Layout_startEmpty_30 : decode M_Layout_startEmpty.2.1 30 = .ok (.iinc 1 1, 3) := by decide +kernel
theorem e_Layout_startEmpty_33 : decode M_Layout_startEmpty.2.1 33 = .ok (.goto (-16), 3) := by decide +kernel
theorem e_Layout_startEmpty_36 : decode M_Layout_startEmpty.2.1 36 = .ok (.iconst 0, 1) := by decide +kernel
theorem e_Layout_startEmpty_37 : decode M_Layout_startEmpty.2.1 37 = .ok (.istore_n 1, 1) := by decide +kernel
theorem e_Layout_startEmpty_38 : decode M_Layout_startEmpty.2.1 38 = .ok (.iload_n 1, 1) := by decide +kernel
theorem e_Layout_startEmpty_39 : decode M_Layout_startEmpty.2.1 39 = .ok (.bipush 12, 2) := by decide +kernel
theorem e_Layout_startEmpty_41 : decode M_Layout_startEmpty.2.1 41 = .ok (.if_icmp .ge 23, 3) := by decide +kernel
theorem e_Layout_startEmpty_44 : decode M_Layout_startEmpty.2.1 44 = .ok (.aload_n 0, 1) := by decide +kernel
theorem e_Layout_startEmpty_45 : decode M_Layout_startEmpty.2.1 45 = .ok (.getfield 34, 3) := by decide +kernel
theorem e_Layout_startEmpty_48 : decode M_Layout_startEmpty.2.1 48 = .ok (.iload_n 1, 1) := by decide +kernel
theorem e_Layout_startEmpty_49 : decode M_Layout_startEmpty.2.1 49 = .ok (.iconst (-1), 1) := by decide +kernel
theorem e_Layout_startEmpty_50 : decode M_Layout_startEmpty.2.1 50 = .ok (.iastore, 1) := by decide +kernel
theorem e_Layout_startEmpty_51 : decode M_Layout_startEmpty.2.1 51 = .ok (.aload_n 0, 1) := by decide +kernel
theorem e_Layout_startEmpty_52 : decode M_Layout_startEmpty.2.1 52 = .ok (.getfield 37, 3) := by decide +kernel
theorem e_Layout_startEmpty_55 : decode M_Layout_startEmpty.2.1 55 = .ok (.iload_n 1, 1) := by decide +kernel
theorem e_Layout_startEmpty_56 : decode M_Layout_startEmpty.2.1 56 = .ok (.iconst (-1), 1) := by decide +kernel
theorem e_Layout_startEmpty_57 : decode M_Layout_startEmpty.2.1 57 = .ok (.iastore, 1) := by decide +kernel
theorem e_Layout_startEmpty_58 : decode M_Layout_startEmpty.2.1 58 = .ok (.iinc 1 1, 3) := by decide +kernel
theorem e_Layout_startEmpty_61 : decode M_Layout_startEmpty.2.1 61 = .ok (.goto (-23), 3) := by decide +kernel
theorem e_Layout_startEmpty_64 : decode M_Layout_startEmpty.2.1 64 = .ok (.iconst 0, 1) := by decide +kernel
theorem e_Layout_startEmpty_65 : decode M_Layout_startEmpty.2.1 65 = .ok (.istore_n 1, 1) := by decide +kernel
theorem e_Layout_startEmpty_66 : decode M_Layout_startEmpty.2.1 66 = .ok (.iload_n 1, 1) := by decide +kernel
theorem e_Layout_startEmpty_67 : decode M_Layout_startEmpty.2.1 67 = .ok (.iconst 5, 1) := by decide +kernel
theorem e_Layout_startEmpty_68 : decode M_Layout_startEmpty.2.1 68 = .ok (.if_icmp .ge 16, 3) := by decide +kernel
theorem e_Layout_startEmpty_71 : decode M_Layout_startEmpty.2.1 71 = .ok (.aload_n 0, 1) := by decide +kernel
theorem e_Layout_startEmpty_72 : decode M_Layout_startEmpty.2.1 72 = .ok (.getfield 40, 3) := by decide +kernel
theorem e_Layout_startEmpty_75 : decode M_Layout_startEmpty.2.1 75 = .ok (.iload_n 1, 1) := by decide +kernel
theorem e_Layout_startEmpty_76 : decode M_Layout_startEmpty.2.1 76 = .ok (.iconst 0, 1) := by decide +kernel
theorem e_Layout_startEmpty_77 : decode M_Layout_startEmpty.2.1 77 = .ok (.iastore, 1) := by decide +kernel
theorem e_Layout_startEmpty_78 : decode M_Layout_startEmpty.2.1 78 = .ok (.iinc 1 1, 3) := by decide +kernel
theorem e_Layout_startEmpty_81 : decode M_Layout_startEmpty.2.1 81 = .ok (.goto (-15), 3) := by decide +kernel
theorem e_Layout_startEmpty_84 : decode M_Layout_startEmpty.2.1 84 = .ok (.return_, 1) := by decide +kernel
theorem e_Layout_leastReady_0 : decode M_Layout_leastReady.2.1 0 = .ok (.iconst 0, 1) := by decide +kernel
theorem e_Layout_leastReady_1 : decode M_Layout_leastReady.2.1 1 = .ok (.istore_n 2, 1) := by decide +kernel
theorem e_Layout_leastReady_2 : decode M_Layout_leastReady.2.1 2 = .ok (.iload_n 2, 1) := by decide +kernel
theorem e_Layout_leastReady_3 : decode M_Layout_leastReady.2.1 3 = .ok (.aload_n 1, 1) := by decide +kernel
theorem e_Layout_leastReady_4 : decode M_Layout_leastReady.2.1 4 = .ok (.getfield 46, 3) := by decide +kernel
theorem e_Layout_leastReady_7 : decode M_Layout_leastReady.2.1 7 = .ok (.if_icmp .ge 30, 3) := by decide +kernel
theorem e_Layout_leastReady_10 : decode M_Layout_leastReady.2.1 10 = .ok (.aload_n 0, 1) := by decide +kernel
theorem e_Layout_leastReady_11 : decode M_Layout_leastReady.2.1 11 = .ok (.getfield 25, 3) := by decide +kernel
theorem e_Layout_leastReady_14 : decode M_Layout_leastReady.2.1 14 = .ok (.iload_n 2, 1) := by decide +kernel
theorem e_Layout_leastReady_15 : decode M_Layout_leastReady.2.1 15 = .ok (.iaload, 1) := by decide +kernel
theorem e_Layout_leastReady_16 : decode M_Layout_leastReady.2.1 16 = .ok (.iconst (-1), 1) := by decide +kernel
theorem e_Layout_leastReady_17 : decode M_Layout_leastReady.2.1 17 = .ok (.if_icmp .ne 14, 3) := by decide +kernel
theorem e_Layout_leastReady_20 : decode M_Layout_leastReady.2.1 20 = .ok (.aload_n 0, 1) := by decide +kernel
theorem e_Layout_leastReady_21 : decode M_Layout_leastReady.2.1 21 = .ok (.aload_n 1, 1) := by decide +kernel
theorem e_Layout_leastReady_22 : decode M_Layout_leastReady.2.1 22 = .ok (.iload_n 2, 1) := by decide +kernel
theorem e_Layout_leastReady_23 : decode M_Layout_leastReady.2.1 23 = .ok (.invokevirtual 85, 3) := by decide +kernel
theorem e_Layout_leastReady_26 : decode M_Layout_leastReady.2.1 26 = .ok (.ifCond .eq 5, 3) := by decide +kernel
theorem e_Layout_leastReady_29 : decode M_Layout_leastReady.2.1 29 = .ok (.iload_n 2, 1) := by decide +kernel
theorem e_Layout_leastReady_30 : decode M_Layout_leastReady.2.1 30 = .ok (.ireturn, 1) := by decide +kernel
theorem e_Layout_leastReady_31 : decode M_Layout_leastReady.2.1 31 = .ok (.iinc 2 1, 3) := by decide +kernel
theorem e_Layout_leastReady_34 : decode M_Layout_leastReady.2.1 34 = .ok (.goto (-32), 3) := by decide +kernel
theorem e_Layout_leastReady_37 : decode M_Layout_leastReady.2.1 37 = .ok (.iconst (-1), 1) := by decide +kernel
theorem e_Layout_leastReady_38 : decode M_Layout_leastReady.2.1 38 = .ok (.ireturn, 1) := by decide +kernel
theorem e_Layout_isReady_0 : decode M_Layout_isReady.2.1 0 = .ok (.iconst 0, 1) := by decide +kernel
theorem e_Layout_isReady_1 : decode M_Layout_isReady.2.1 1 = .ok (.istore_n 3, 1) := by decide +kernel
theorem e_Layout_isReady_2 : decode M_Layout_isReady.2.1 2 = .ok (.iload_n 3, 1) := by decide +kernel
theorem e_Layout_isReady_3 : decode M_Layout_isReady.2.1 3 = .ok (.aload_n 1, 1) := by decide +kernel
theorem e_Layout_isReady_4 : decode M_Layout_isReady.2.1 4 = .ok (.getfield 62, 3) := by decide +kernel
theorem e_Layout_isReady_7 : decode M_Layout_isReady.2.1 7 = .ok (.getfield 66, 3) := by decide +kernel
theorem e_Layout_isReady_10 : decode M_Layout_isReady.2.1 10 = .ok (.if_icmp .ge 42, 3) := by decide +kernel
theorem e_Layout_isReady_13 : decode M_Layout_isReady.2.1 13 = .ok (.aload_n 1, 1) := by decide +kernel
theorem e_Layout_isReady_14 : decode M_Layout_isReady.2.1 14 = .ok (.getfield 62, 3) := by decide +kernel
theorem e_Layout_isReady_17 : decode M_Layout_isReady.2.1 17 = .ok (.getfield 78, 3) := by decide +kernel
theorem e_Layout_isReady_20 : decode M_Layout_isReady.2.1 20 = .ok (.iload_n 3, 1) := by decide +kernel
theorem e_Layout_isReady_21 : decode M_Layout_isReady.2.1 21 = .ok (.iaload, 1) := by decide +kernel
theorem e_Layout_isReady_22 : decode M_Layout_isReady.2.1 22 = .ok (.iload_n 2, 1) := by decide +kernel
theorem e_Layout_isReady_23 : decode M_Layout_isReady.2.1 23 = .ok (.if_icmp .ne 23, 3) := by decide +kernel
theorem e_Layout_isReady_26 : decode M_Layout_isReady.2.1 26 = .ok (.aload_n 0, 1) := by decide +kernel
theorem e_Layout_isReady_27 : decode M_Layout_isReady.2.1 27 = .ok (.getfield 25, 3) := by decide +kernel
theorem e_Layout_isReady_30 : decode M_Layout_isReady.2.1 30 = .ok (.aload_n 1, 1) := by decide +kernel
theorem e_Layout_isReady_31 : decode M_Layout_isReady.2.1 31 = .ok (.getfield 62, 3) := by decide +kernel
theorem e_Layout_isReady_34 : decode M_Layout_isReady.2.1 34 = .ok (.getfield 88, 3) := by decide +kernel
theorem e_Layout_isReady_37 : decode M_Layout_isReady.2.1 37 = .ok (.iload_n 3, 1) := by decide +kernel
theorem e_Layout_isReady_38 : decode M_Layout_isReady.2.1 38 = .ok (.iaload, 1) := by decide +kernel
theorem e_Layout_isReady_39 : decode M_Layout_isReady.2.1 39 = .ok (.iaload, 1) := by decide +kernel
theorem e_Layout_isReady_40 : decode M_Layout_isReady.2.1 40 = .ok (.iconst (-1), 1) := by decide +kernel
theorem e_Layout_isReady_41 : decode M_Layout_isReady.2.1 41 = .ok (.if_icmp .ne 5, 3) := by decide +kernel
theorem e_Layout_isReady_44 : decode M_Layout_isReady.2.1 44 = .ok (.iconst 0, 1) := by decide +kernel
theorem e_Layout_isReady_45 : decode M_Layout_isReady.2.1 45 = .ok (.ireturn, 1) := by decide +kernel
theorem e_Layout_isReady_46 : decode M_Layout_isReady.2.1 46 = .ok (.iinc 3 1, 3) := by decide +kernel
theorem e_Layout_isReady_49 : decode M_Layout_isReady.2.1 49 = .ok (.goto (-47), 3) := by decide +kernel
theorem e_Layout_isReady_52 : decode M_Layout_isReady.2.1 52 = .ok (.iconst 1, 1) := by decide +kernel
theorem e_Layout_isReady_53 : decode M_Layout_isReady.2.1 53 = .ok (.ireturn, 1) := by decide +kernel
theorem e_Layout_takeBlock_0 : decode M_Layout_takeBlock.2.1 0 = .ok (.aload_n 0, 1) := by decide +kernel
theorem e_Layout_takeBlock_1 : decode M_Layout_takeBlock.2.1 1 = .ok (.getfield 40, 3) := by decide +kernel
theorem e_Layout_takeBlock_4 : decode M_Layout_takeBlock.2.1 4 = .ok (.aload_n 1, 1) := by decide +kernel
theorem e_Layout_takeBlock_5 : decode M_Layout_takeBlock.2.1 5 = .ok (.getfield 91, 3) := by decide +kernel
theorem e_Layout_takeBlock_8 : decode M_Layout_takeBlock.2.1 8 = .ok (.iload_n 2, 1) := by decide +kernel
theorem e_Layout_takeBlock_9 : decode M_Layout_takeBlock.2.1 9 = .ok (.iaload, 1) := by decide +kernel
theorem e_Layout_takeBlock_10 : decode M_Layout_takeBlock.2.1 10 = .ok (.iaload, 1) := by decide +kernel
theorem e_Layout_takeBlock_11 : decode M_Layout_takeBlock.2.1 11 = .ok (.istore 4, 2) := by decide +kernel
theorem e_Layout_takeBlock_13 : decode M_Layout_takeBlock.2.1 13 = .ok (.iconst 0, 1) := by decide +kernel
theorem e_Layout_takeBlock_14 : decode M_Layout_takeBlock.2.1 14 = .ok (.istore 5, 2) := by decide +kernel
theorem e_Layout_takeBlock_16 : decode M_Layout_takeBlock.2.1 16 = .ok (.iload 5, 2) := by decide +kernel
theorem e_Layout_takeBlock_18 : decode M_Layout_takeBlock.2.1 18 = .ok (.aload_n 1, 1) := by decide +kernel
theorem e_Layout_takeBlock_19 : decode M_Layout_takeBlock.2.1 19 = .ok (.getfield 62, 3) := by decide +kernel
theorem e_Layout_takeBlock_22 : decode M_Layout_takeBlock.2.1 22 = .ok (.getfield 66, 3) := by decide +kernel
theorem e_Layout_takeBlock_25 : decode M_Layout_takeBlock.2.1 25 = .ok (.if_icmp .ge 82, 3) := by decide +kernel
theorem e_Layout_takeBlock_28 : decode M_Layout_takeBlock.2.1 28 = .ok (.aload_n 1, 1) := by decide +kernel
theorem e_Layout_takeBlock_29 : decode M_Layout_takeBlock.2.1 29 = .ok (.getfield 62, 3) := by decide +kernel
theorem e_Layout_takeBlock_32 : decode M_Layout_takeBlock.2.1 32 = .ok (.getfield 78, 3) := by decide +kernel
theorem e_Layout_takeBlock_35 : decode M_Layout_takeBlock.2.1 35 = .ok (.iload 5, 2) := by decide +kernel
theorem e_Layout_takeBlock_37 : decode M_Layout_takeBlock.2.1 37 = .ok (.iaload, 1) := by decide +kernel
theorem e_Layout_takeBlock_38 : decode M_Layout_takeBlock.2.1 38 = .ok (.iload_n 2, 1) := by decide +kernel
theorem e_Layout_takeBlock_39 : decode M_Layout_takeBlock.2.1 39 = .ok (.if_icmp .ne 62, 3) := by decide +kernel
theorem e_Layout_takeBlock_42 : decode M_Layout_takeBlock.2.1 42 = .ok (.aload_n 0, 1) := by decide +kernel
theorem e_Layout_takeBlock_43 : decode M_Layout_takeBlock.2.1 43 = .ok (.getfield 31, 3) := by decide +kernel
theorem e_Layout_takeBlock_46 : decode M_Layout_takeBlock.2.1 46 = .ok (.aload_n 1, 1) := by decide +kernel
theorem e_Layout_takeBlock_47 : decode M_Layout_takeBlock.2.1 47 = .ok (.getfield 62, 3) := by decide +kernel
theorem e_Layout_takeBlock_50 : decode M_Layout_takeBlock.2.1 50 = .ok (.getfield 88, 3) := by decide +kernel
theorem e_Layout_takeBlock_53 : decode M_Layout_takeBlock.2.1 53 = .ok (.iload 5, 2) := by decide +kernel
theorem e_Layout_takeBlock_55 : decode M_Layout_takeBlock.2.1 55 = .ok (.iaload, 1) := by decide +kernel
theorem e_Layout_takeBlock_56 : decode M_Layout_takeBlock.2.1 56 = .ok (.iaload, 1) := by decide +kernel
theorem e_Layout_takeBlock_57 : decode M_Layout_takeBlock.2.1 57 = .ok (.istore 6, 2) := by decide +kernel
theorem e_Layout_takeBlock_59 : decode M_Layout_takeBlock.2.1 59 = .ok (.aload_n 1, 1) := by decide +kernel
theorem e_Layout_takeBlock_60 : decode M_Layout_takeBlock.2.1 60 = .ok (.iload 5, 2) := by decide +kernel
theorem e_Layout_takeBlock_62 : decode M_Layout_takeBlock.2.1 62 = .ok (.invokestatic 74, 3) := by decide +kernel
theorem e_Layout_takeBlock_65 : decode M_Layout_takeBlock.2.1 65 = .ok (.ifCond .eq 27, 3) := by decide +kernel
theorem e_Layout_takeBlock_68 : decode M_Layout_takeBlock.2.1 68 = .ok (.aload_n 0, 1) := by decide +kernel
theorem e_Layout_takeBlock_69 : decode M_Layout_takeBlock.2.1 69 = .ok (.getfield 34, 3) := by decide +kernel
theorem e_Layout_takeBlock_72 : decode M_Layout_takeBlock.2.1 72 = .ok (.iload 5, 2) := by decide +kernel
theorem e_Layout_takeBlock_74 : decode M_Layout_takeBlock.2.1 74 = .ok (.aload_n 0, 1) := by decide +kernel
theorem e_Layout_takeBlock_75 : decode M_Layout_takeBlock.2.1 75 = .ok (.iload 6, 2) := by decide +kernel
theorem e_Layout_takeBlock_77 : decode M_Layout_takeBlock.2.1 77 = .ok (.invokevirtual 81, 3) := by decide +kernel
theorem e_Layout_takeBlock_80 : decode M_Layout_takeBlock.2.1 80 = .ok (.iastore, 1) := by decide +kernel
theorem e_Layout_takeBlock_81 : decode M_Layout_takeBlock.2.1 81 = .ok (.aload_n 0, 1) := by decide +kernel
theorem e_Layout_takeBlock_82 : decode M_Layout_takeBlock.2.1 82 = .ok (.getfield 34, 3) := by decide +kernel
theorem e_Layout_takeBlock_85 : decode M_Layout_takeBlock.2.1 85 = .ok (.iload 5, 2) := by decide +kernel
theorem e_Layout_takeBlock_87 : decode M_Layout_takeBlock.2.1 87 = .ok (.iaload, 1) := by decide +kernel
theorem e_Layout_takeBlock_88 : decode M_Layout_takeBlock.2.1 88 = .ok (.iconst 1, 1) := by decide +kernel
theorem e_Layout_takeBlock_89 : decode M_Layout_takeBlock.2.1 89 = .ok (.iadd, 1) := by decide +kernel
theorem e_Layout_takeBlock_90 : decode M_Layout_takeBlock.2.1 90 = .ok (.istore 6, 2) := by decide +kernel
theorem e_Layout_takeBlock_92 : decode M_Layout_takeBlock.2.1 92 = .ok (.iload 4, 2) := by decide +kernel
theorem e_Layout_takeBlock_94 : decode M_Layout_takeBlock.2.1 94 = .ok (.iload 6, 2) := by decide +kernel
theorem e_Layout_takeBlock_96 : decode M_Layout_takeBlock.2.1 96 = .ok (.invokestatic 94, 3) := by decide +kernel
theorem e_Layout_takeBlock_99 : decode M_Layout_takeBlock.2.1 99 = .ok (.istore 4, 2) := by decide +kernel
theorem e_Layout_takeBlock_101 : decode M_Layout_takeBlock.2.1 101 = .ok (.iinc 5 1, 3) := by decide +kernel
theorem e_Layout_takeBlock_104 : decode M_Layout_takeBlock.2.1 104 = .ok (.goto (-88), 3) := by decide +kernel
theorem e_Layout_takeBlock_107 : decode M_Layout_takeBlock.2.1 107 = .ok (.aload_n 0, 1) := by decide +kernel
theorem e_Layout_takeBlock_108 : decode M_Layout_takeBlock.2.1 108 = .ok (.getfield 28, 3) := by decide +kernel
theorem e_Layout_takeBlock_111 : decode M_Layout_takeBlock.2.1 111 = .ok (.iload_n 2, 1) := by decide +kernel
theorem e_Layout_takeBlock_112 : decode M_Layout_takeBlock.2.1 112 = .ok (.iload 4, 2) := by decide +kernel
theorem e_Layout_takeBlock_114 : decode M_Layout_takeBlock.2.1 114 = .ok (.iastore, 1) := by decide +kernel
theorem e_Layout_takeBlock_115 : decode M_Layout_takeBlock.2.1 115 = .ok (.aload_n 0, 1) := by decide +kernel
theorem e_Layout_takeBlock_116 : decode M_Layout_takeBlock.2.1 116 = .ok (.getfield 31, 3) := by decide +kernel
theorem e_Layout_takeBlock_119 : decode M_Layout_takeBlock.2.1 119 = .ok (.iload_n 2, 1) := by decide +kernel
theorem e_Layout_takeBlock_120 : decode M_Layout_takeBlock.2.1 120 = .ok (.iload 4, 2) := by decide +kernel
theorem e_Layout_takeBlock_122 : decode M_Layout_takeBlock.2.1 122 = .ok (.iload_n 3, 1) := by decide +kernel
theorem e_Layout_takeBlock_123 : decode M_Layout_takeBlock.2.1 123 = .ok (.iadd, 1) := by decide +kernel
theorem e_Layout_takeBlock_124 : decode M_Layout_takeBlock.2.1 124 = .ok (.iastore, 1) := by decide +kernel
theorem e_Layout_takeBlock_125 : decode M_Layout_takeBlock.2.1 125 = .ok (.aload_n 0, 1) := by decide +kernel
theorem e_Layout_takeBlock_126 : decode M_Layout_takeBlock.2.1 126 = .ok (.getfield 40, 3) := by decide +kernel
theorem e_Layout_takeBlock_129 : decode M_Layout_takeBlock.2.1 129 = .ok (.aload_n 1, 1) := by decide +kernel
theorem e_Layout_takeBlock_130 : decode M_Layout_takeBlock.2.1 130 = .ok (.getfield 91, 3) := by decide +kernel
theorem e_Layout_takeBlock_133 : decode M_Layout_takeBlock.2.1 133 = .ok (.iload_n 2, 1) := by decide +kernel
theorem e_Layout_takeBlock_134 : decode M_Layout_takeBlock.2.1 134 = .ok (.iaload, 1) := by decide +kernel
theorem e_Layout_takeBlock_135 : decode M_Layout_takeBlock.2.1 135 = .ok (.aload_n 0, 1) := by decide +kernel
theorem e_Layout_takeBlock_136 : decode M_Layout_takeBlock.2.1 136 = .ok (.getfield 31, 3) := by decide +kernel
theorem e_Layout_takeBlock_139 : decode M_Layout_takeBlock.2.1 139 = .ok (.iload_n 2, 1) := by decide +kernel
theorem e_Layout_takeBlock_140 : decode M_Layout_takeBlock.2.1 140 = .ok (.iaload, 1) := by decide +kernel
theorem e_Layout_takeBlock_141 : decode M_Layout_takeBlock.2.1 141 = .ok (.iastore, 1) := by decide +kernel
theorem e_Layout_takeBlock_142 : decode M_Layout_takeBlock.2.1 142 = .ok (.aload_n 0, 1) := by decide +kernel
theorem e_Layout_takeBlock_143 : decode M_Layout_takeBlock.2.1 143 = .ok (.aload_n 0, 1) := by decide +kernel
theorem e_Layout_takeBlock_144 : decode M_Layout_takeBlock.2.1 144 = .ok (.getfield 9, 3) := by decide +kernel
theorem e_Layout_takeBlock_147 : decode M_Layout_takeBlock.2.1 147 = .ok (.aload_n 0, 1) := by decide +kernel
theorem e_Layout_takeBlock_148 : decode M_Layout_takeBlock.2.1 148 = .ok (.getfield 31, 3) := by decide +kernel
theorem e_Layout_takeBlock_151 : decode M_Layout_takeBlock.2.1 151 = .ok (.iload_n 2, 1) := by decide +kernel
theorem e_Layout_takeBlock_152 : decode M_Layout_takeBlock.2.1 152 = .ok (.iaload, 1) := by decide +kernel
theorem e_Layout_takeBlock_153 : decode M_Layout_takeBlock.2.1 153 = .ok (.invokestatic 94, 3) := by decide +kernel
theorem e_Layout_takeBlock_156 : decode M_Layout_takeBlock.2.1 156 = .ok (.putfield 9, 3) := by decide +kernel
theorem e_Layout_takeBlock_159 : decode M_Layout_takeBlock.2.1 159 = .ok (.aload_n 0, 1) := by decide +kernel
theorem e_Layout_takeBlock_160 : decode M_Layout_takeBlock.2.1 160 = .ok (.getfield 21, 3) := by decide +kernel
theorem e_Layout_takeBlock_163 : decode M_Layout_takeBlock.2.1 163 = .ok (.aload_n 0, 1) := by decide +kernel
theorem e_Layout_takeBlock_164 : decode M_Layout_takeBlock.2.1 164 = .ok (.getfield 18, 3) := by decide +kernel
theorem e_Layout_takeBlock_167 : decode M_Layout_takeBlock.2.1 167 = .ok (.iload_n 2, 1) := by decide +kernel
theorem e_Layout_takeBlock_168 : decode M_Layout_takeBlock.2.1 168 = .ok (.iastore, 1) := by decide +kernel
theorem e_Layout_takeBlock_169 : decode M_Layout_takeBlock.2.1 169 = .ok (.aload_n 0, 1) := by decide +kernel
theorem e_Layout_takeBlock_170 : decode M_Layout_takeBlock.2.1 170 = .ok (.getfield 25, 3) := by decide +kernel
theorem e_Layout_takeBlock_173 : decode M_Layout_takeBlock.2.1 173 = .ok (.iload_n 2, 1) := by decide +kernel
theorem e_Layout_takeBlock_174 : decode M_Layout_takeBlock.2.1 174 = .ok (.aload_n 0, 1) := by decide +kernel
theorem e_Layout_takeBlock_175 : decode M_Layout_takeBlock.2.1 175 = .ok (.getfield 18, 3) := by decide +kernel
theorem e_Layout_takeBlock_178 : decode M_Layout_takeBlock.2.1 178 = .ok (.iastore, 1) := by decide +kernel
theorem e_Layout_takeBlock_179 : decode M_Layout_takeBlock.2.1 179 = .ok (.aload_n 0, 1) := by decide +kernel
theorem e_Layout_takeBlock_180 : decode M_Layout_takeBlock.2.1 180 = .ok (.dup, 1) := by decide +kernel
theorem e_Layout_takeBlock_181 : decode M_Layout_takeBlock.2.1 181 = .ok (.getfield 18, 3) := by decide +kernel
theorem e_Layout_takeBlock_184 : decode M_Layout_takeBlock.2.1 184 = .ok (.iconst 1, 1) := by decide +kernel
theorem e_Layout_takeBlock_185 : decode M_Layout_takeBlock.2.1 185 = .ok (.iadd, 1) := by decide +kernel
theorem e_Layout_takeBlock_186 : decode M_Layout_takeBlock.2.1 186 = .ok (.putfield 18, 3) := by decide +kernel
theorem e_Layout_takeBlock_189 : decode M_Layout_takeBlock.2.1 189 = .ok (.return_, 1) := by decide +kernel
theorem e_Layout_isAcross_0 : decode M_Layout_isAcross.2.1 0 = .ok (.aload_n 0, 1) := by decide +kernel
theorem e_Layout_isAcross_1 : decode M_Layout_isAcross.2.1 1 = .ok (.getfield 91, 3) := by decide +kernel
theorem e_Layout_isAcross_4 : decode M_Layout_isAcross.2.1 4 = .ok (.aload_n 0, 1) := by decide +kernel
theorem e_Layout_isAcross_5 : decode M_Layout_isAcross.2.1 5 = .ok (.getfield 62, 3) := by decide +kernel
theorem e_Layout_isAcross_8 : decode M_Layout_isAcross.2.1 8 = .ok (.getfield 88, 3) := by decide +kernel
theorem e_Layout_isAcross_11 : decode M_Layout_isAcross.2.1 11 = .ok (.iload_n 1, 1) := by decide +kernel
theorem e_Layout_isAcross_12 : decode M_Layout_isAcross.2.1 12 = .ok (.iaload, 1) := by decide +kernel
theorem e_Layout_isAcross_13 : decode M_Layout_isAcross.2.1 13 = .ok (.iaload, 1) := by decide +kernel
theorem e_Layout_isAcross_14 : decode M_Layout_isAcross.2.1 14 = .ok (.aload_n 0, 1) := by decide +kernel
theorem e_Layout_isAcross_15 : decode M_Layout_isAcross.2.1 15 = .ok (.getfield 91, 3) := by decide +kernel
theorem e_Layout_isAcross_18 : decode M_Layout_isAcross.2.1 18 = .ok (.aload_n 0, 1) := by decide +kernel
theorem e_Layout_isAcross_19 : decode M_Layout_isAcross.2.1 19 = .ok (.getfield 62, 3) := by decide +kernel
theorem e_Layout_isAcross_22 : decode M_Layout_isAcross.2.1 22 = .ok (.getfield 78, 3) := by decide +kernel
theorem e_Layout_isAcross_25 : decode M_Layout_isAcross.2.1 25 = .ok (.iload_n 1, 1) := by decide +kernel
theorem e_Layout_isAcross_26 : decode M_Layout_isAcross.2.1 26 = .ok (.iaload, 1) := by decide +kernel
theorem e_Layout_isAcross_27 : decode M_Layout_isAcross.2.1 27 = .ok (.iaload, 1) := by decide +kernel
theorem e_Layout_isAcross_28 : decode M_Layout_isAcross.2.1 28 = .ok (.if_icmp .eq 7, 3) := by decide +kernel
theorem e_Layout_isAcross_31 : decode M_Layout_isAcross.2.1 31 = .ok (.iconst 1, 1) := by decide +kernel
theorem e_Layout_isAcross_32 : decode M_Layout_isAcross.2.1 32 = .ok (.goto 4, 3) := by decide +kernel
theorem e_Layout_isAcross_35 : decode M_Layout_isAcross.2.1 35 = .ok (.iconst 0, 1) := by decide +kernel
theorem e_Layout_isAcross_36 : decode M_Layout_isAcross.2.1 36 = .ok (.ireturn, 1) := by decide +kernel
theorem e_Layout_claimSlot_0 : decode M_Layout_claimSlot.2.1 0 = .ok (.iload_n 1, 1) := by decide +kernel
theorem e_Layout_claimSlot_1 : decode M_Layout_claimSlot.2.1 1 = .ok (.istore_n 2, 1) := by decide +kernel
theorem e_Layout_claimSlot_2 : decode M_Layout_claimSlot.2.1 2 = .ok (.iconst 0, 1) := by decide +kernel
theorem e_Layout_claimSlot_3 : decode M_Layout_claimSlot.2.1 3 = .ok (.istore_n 3, 1) := by decide +kernel
theorem e_Layout_claimSlot_4 : decode M_Layout_claimSlot.2.1 4 = .ok (.iload_n 3, 1) := by decide +kernel
theorem e_Layout_claimSlot_5 : decode M_Layout_claimSlot.2.1 5 = .ok (.bipush 24, 2) := by decide +kernel
theorem e_Layout_claimSlot_7 : decode M_Layout_claimSlot.2.1 7 = .ok (.if_icmp .ge 20, 3) := by decide +kernel
theorem e_Layout_claimSlot_10 : decode M_Layout_claimSlot.2.1 10 = .ok (.aload_n 0, 1) := by decide +kernel
theorem e_Layout_claimSlot_11 : decode M_Layout_claimSlot.2.1 11 = .ok (.iload_n 2, 1) := by decide +kernel
theorem e_Layout_claimSlot_12 : decode M_Layout_claimSlot.2.1 12 = .ok (.invokevirtual 100, 3) := by decide +kernel
theorem e_Layout_claimSlot_15 : decode M_Layout_claimSlot.2.1 15 = .ok (.ifCond .eq 12, 3) := by decide +kernel
theorem e_Layout_claimSlot_18 : decode M_Layout_claimSlot.2.1 18 = .ok (.iinc 2 1, 3) := by decide +kernel
theorem e_Layout_claimSlot_21 : decode M_Layout_claimSlot.2.1 21 = .ok (.iinc 3 1, 3) := by decide +kernel
theorem e_Layout_claimSlot_24 : decode M_Layout_claimSlot.2.1 24 = .ok (.goto (-20), 3) := by decide +kernel
theorem e_Layout_claimSlot_27 : decode M_Layout_claimSlot.2.1 27 = .ok (.aload_n 0, 1) := by decide +kernel
theorem e_Layout_claimSlot_28 : decode M_Layout_claimSlot.2.1 28 = .ok (.dup, 1) := by decide +kernel
theorem e_Layout_claimSlot_29 : decode M_Layout_claimSlot.2.1 29 = .ok (.getfield 15, 3) := by decide +kernel
theorem e_Layout_claimSlot_32 : decode M_Layout_claimSlot.2.1 32 = .ok (.iconst 1, 1) := by decide +kernel
theorem e_Layout_claimSlot_33 : decode M_Layout_claimSlot.2.1 33 = .ok (.iadd, 1) := by decide +kernel
theorem e_Layout_claimSlot_34 : decode M_Layout_claimSlot.2.1 34 = .ok (.putfield 15, 3) := by decide +kernel
theorem e_Layout_claimSlot_37 : decode M_Layout_claimSlot.2.1 37 = .ok (.aload_n 0, 1) := by decide +kernel
theorem e_Layout_claimSlot_38 : decode M_Layout_claimSlot.2.1 38 = .ok (.aload_n 0, 1) := by decide +kernel
theorem e_Layout_claimSlot_39 : decode M_Layout_claimSlot.2.1 39 = .ok (.getfield 9, 3) := by decide +kernel
theorem e_Layout_claimSlot_42 : decode M_Layout_claimSlot.2.1 42 = .ok (.iload_n 2, 1) := by decide +kernel
theorem e_Layout_claimSlot_43 : decode M_Layout_claimSlot.2.1 43 = .ok (.iconst 1, 1) := by decide +kernel
theorem e_Layout_claimSlot_44 : decode M_Layout_claimSlot.2.1 44 = .ok (.iadd, 1) := by decide +kernel
theorem e_Layout_claimSlot_45 : decode M_Layout_claimSlot.2.1 45 = .ok (.invokestatic 94, 3) := by decide +kernel
theorem e_Layout_claimSlot_48 : decode M_Layout_claimSlot.2.1 48 = .ok (.putfield 9, 3) := by decide +kernel
theorem e_Layout_claimSlot_51 : decode M_Layout_claimSlot.2.1 51 = .ok (.iload_n 2, 1) := by decide +kernel
theorem e_Layout_claimSlot_52 : decode M_Layout_claimSlot.2.1 52 = .ok (.ireturn, 1) := by decide +kernel
theorem e_Layout_isClaimed_0 : decode M_Layout_isClaimed.2.1 0 = .ok (.iconst 0, 1) := by decide +kernel
theorem e_Layout_isClaimed_1 : decode M_Layout_isClaimed.2.1 1 = .ok (.istore_n 2, 1) := by decide +kernel
theorem e_Layout_isClaimed_2 : decode M_Layout_isClaimed.2.1 2 = .ok (.iload_n 2, 1) := by decide +kernel
theorem e_Layout_isClaimed_3 : decode M_Layout_isClaimed.2.1 3 = .ok (.bipush 12, 2) := by decide +kernel
theorem e_Layout_isClaimed_5 : decode M_Layout_isClaimed.2.1 5 = .ok (.if_icmp .ge 31, 3) := by decide +kernel
theorem e_Layout_isClaimed_8 : decode M_Layout_isClaimed.2.1 8 = .ok (.aload_n 0, 1) := by decide +kernel
theorem e_Layout_isClaimed_9 : decode M_Layout_isClaimed.2.1 9 = .ok (.getfield 34, 3) := by decide +kernel
theorem e_Layout_isClaimed_12 : decode M_Layout_isClaimed.2.1 12 = .ok (.iload_n 2, 1) := by decide +kernel
theorem e_Layout_isClaimed_13 : decode M_Layout_isClaimed.2.1 13 = .ok (.iaload, 1) := by decide +kernel
theorem e_Layout_isClaimed_14 : decode M_Layout_isClaimed.2.1 14 = .ok (.iload_n 1, 1) := by decide +kernel
theorem e_Layout_isClaimed_15 : decode M_Layout_isClaimed.2.1 15 = .ok (.if_icmp .eq 13, 3) := by decide +kernel
theorem e_Layout_isClaimed_18 : decode M_Layout_isClaimed.2.1 18 = .ok (.aload_n 0, 1) := by decide +kernel
theorem e_Layout_isClaimed_19 : decode M_Layout_isClaimed.2.1 19 = .ok (.getfield 37, 3) := by decide +kernel
theorem e_Layout_isClaimed_22 : decode M_Layout_isClaimed.2.1 22 = .ok (.iload_n 2, 1) := by decide +kernel
theorem e_Layout_isClaimed_23 : decode M_Layout_isClaimed.2.1 23 = .ok (.iaload, 1) := by decide +kernel
theorem e_Layout_isClaimed_24 : decode M_Layout_isClaimed.2.1 24 = .ok (.iload_n 1, 1) := by decide +kernel
theorem e_Layout_isClaimed_25 : decode M_Layout_isClaimed.2.1 25 = .ok (.if_icmp .ne 5, 3) := by decide +kernel
theorem e_Layout_isClaimed_28 : decode M_Layout_isClaimed.2.1 28 = .ok (.iconst 1, 1) := by decide +kernel
theorem e_Layout_isClaimed_29 : decode M_Layout_isClaimed.2.1 29 = .ok (.ireturn, 1) := by decide +kernel
theorem e_Layout_isClaimed_30 : decode M_Layout_isClaimed.2.1 30 = .ok (.iinc 2 1, 3) := by decide +kernel
theorem e_Layout_isClaimed_33 : decode M_Layout_isClaimed.2.1 33 = .ok (.goto (-31), 3) := by decide +kernel
theorem e_Layout_isClaimed_36 : decode M_Layout_isClaimed.2.1 36 = .ok (.iconst 0, 1) := by decide +kernel
theorem e_Layout_isClaimed_37 : decode M_Layout_isClaimed.2.1 37 = .ok (.ireturn, 1) := by decide +kernel
theorem e_History_clear_0 : decode M_History_clear.2.1 0 = .ok (.aload_n 0, 1) := by decide +kernel
theorem e_History_clear_1 : decode M_History_clear.2.1 1 = .ok (.iconst 0, 1) := by decide +kernel
theorem e_History_clear_2 : decode M_History_clear.2.1 2 = .ok (.putfield 9, 3) := by decide +kernel
theorem e_History_clear_5 : decode M_History_clear.2.1 5 = .ok (.return_, 1) := by decide +kernel
theorem e_Years_play_0 : decode M_Years_play.2.1 0 = .ok (.aload_n 0, 1) := by decide +kernel
theorem e_Years_play_1 : decode M_Years_play.2.1 1 = .ok (.iconst 0, 1) := by decide +kernel
theorem e_Years_play_2 : decode M_Years_play.2.1 2 = .ok (.putfield 9, 3) := by decide +kernel
theorem e_Years_play_5 : decode M_Years_play.2.1 5 = .ok (.aload_n 0, 1) := by decide +kernel
theorem e_Years_play_6 : decode M_Years_play.2.1 6 = .ok (.iload_n 3, 1) := by decide +kernel
theorem e_Years_play_7 : decode M_Years_play.2.1 7 = .ok (.putfield 15, 3) := by decide +kernel
theorem e_Years_play_10 : decode M_Years_play.2.1 10 = .ok (.iconst 0, 1) := by decide +kernel
theorem e_Years_play_11 : decode M_Years_play.2.1 11 = .ok (.istore 5, 2) := by decide +kernel
theorem e_Years_play_13 : decode M_Years_play.2.1 13 = .ok (.iload 5, 2) := by decide +kernel
theorem e_Years_play_15 : decode M_Years_play.2.1 15 = .ok (.iload 4, 2) := by decide +kernel
theorem e_Years_play_17 : decode M_Years_play.2.1 17 = .ok (.if_icmp .ge 124, 3) := by decide +kernel
theorem e_Years_play_20 : decode M_Years_play.2.1 20 = .ok (.aload_n 0, 1) := by decide +kernel
theorem e_Years_play_21 : decode M_Years_play.2.1 21 = .ok (.bipush 6, 2) := by decide +kernel
theorem e_Years_play_23 : decode M_Years_play.2.1 23 = .ok (.invokevirtual 18, 3) := by decide +kernel
theorem e_Years_play_26 : decode M_Years_play.2.1 26 = .ok (.istore 6, 2) := by decide +kernel
theorem e_Years_play_28 : decode M_Years_play.2.1 28 = .ok (.iload 6, 2) := by decide +kernel
theorem e_Years_play_30 : decode M_Years_play.2.1 30 = .ok (.iconst 1, 1) := by decide +kernel
theorem e_Years_play_31 : decode M_Years_play.2.1 31 = .ok (.if_icmp .gt 19, 3) := by decide +kernel
theorem e_Years_play_34 : decode M_Years_play.2.1 34 = .ok (.aload_n 0, 1) := by decide +kernel
theorem e_Years_play_35 : decode M_Years_play.2.1 35 = .ok (.aload_n 1, 1) := by decide +kernel
theorem e_Years_play_36 : decode M_Years_play.2.1 36 = .ok (.aload_n 2, 1) := by decide +kernel
theorem e_Years_play_37 : decode M_Years_play.2.1 37 = .ok (.aload_n 0, 1) := by decide +kernel
theorem e_Years_play_38 : decode M_Years_play.2.1 38 = .ok (.iconst 5, 1) := by decide +kernel
theorem e_Years_play_39 : decode M_Years_play.2.1 39 = .ok (.invokevirtual 18, 3) := by decide +kernel
theorem e_Years_play_42 : decode M_Years_play.2.1 42 = .ok (.iconst 1, 1) := by decide +kernel
theorem e_Years_play_43 : decode M_Years_play.2.1 43 = .ok (.iadd, 1) := by decide +kernel
theorem e_Years_play_44 : decode M_Years_play.2.1 44 = .ok (.invokevirtual 22, 3) := by decide +kernel
theorem e_Years_play_47 : decode M_Years_play.2.1 47 = .ok (.goto 88, 3) := by decide +kernel
theorem e_Years_play_50 : decode M_Years_play.2.1 50 = .ok (.iload 6, 2) := by decide +kernel
theorem e_Years_play_52 : decode M_Years_play.2.1 52 = .ok (.iconst 3, 1) := by decide +kernel
theorem e_Years_play_53 : decode M_Years_play.2.1 53 = .ok (.if_icmp .ne 40, 3) := by decide +kernel
theorem e_Years_play_56 : decode M_Years_play.2.1 56 = .ok (.aload_n 0, 1) := by decide +kernel
theorem e_Years_play_57 : decode M_Years_play.2.1 57 = .ok (.aload_n 1, 1) := by decide +kernel
theorem e_Years_play_58 : decode M_Years_play.2.1 58 = .ok (.getfield 26, 3) := by decide +kernel
theorem e_Years_play_61 : decode M_Years_play.2.1 61 = .ok (.invokevirtual 18, 3) := by decide +kernel
theorem e_Years_play_64 : decode M_Years_play.2.1 64 = .ok (.istore 7, 2) := by decide +kernel
theorem e_Years_play_66 : decode M_Years_play.2.1 66 = .ok (.aload_n 2, 1) := by decide +kernel
theorem e_Years_play_67 : decode M_Years_play.2.1 67 = .ok (.iload 7, 2) := by decide +kernel
theorem e_Years_play_69 : decode M_Years_play.2.1 69 = .ok (.aload_n 2, 1) := by decide +kernel
theorem e_Years_play_70 : decode M_Years_play.2.1 70 = .ok (.iload 7, 2) := by decide +kernel
theorem e_Years_play_72 : decode M_Years_play.2.1 72 = .ok (.invokevirtual 31, 3) := by decide +kernel
theorem e_Years_play_75 : decode M_Years_play.2.1 75 = .ok (.ifCond .ne 7, 3) := by decide +kernel
theorem e_Years_play_78 : decode M_Years_play.2.1 78 = .ok (.iconst 1, 1) := by decide +kernel
theorem e_Years_play_79 : decode M_Years_play.2.1 79 = .ok (.goto 4, 3) := by decide +kernel
theorem e_Years_play_82 : decode M_Years_play.2.1 82 = .ok (.iconst 0, 1) := by decide +kernel
theorem e_Years_play_83 : decode M_Years_play.2.1 83 = .ok (.aload_n 1, 1) := by decide +kernel
theorem e_Years_play_84 : decode M_Years_play.2.1 84 = .ok (.getfield 37, 3) := by decide +kernel
theorem e_Years_play_87 : decode M_Years_play.2.1 87 = .ok (.invokevirtual 40, 3) := by decide +kernel
theorem e_Years_play_90 : decode M_Years_play.2.1 90 = .ok (.goto 45, 3) := by decide +kernel
theorem e_Years_play_93 : decode M_Years_play.2.1 93 = .ok (.iload 6, 2) := by decide +kernel
theorem e_Years_play_95 : decode M_Years_play.2.1 95 = .ok (.iconst 4, 1) := by decide +kernel
theorem e_Years_play_96 : decode M_Years_play.2.1 96 = .ok (.if_icmp .ne 15, 3) := by decide +kernel
theorem e_Years_play_99 : decode M_Years_play.2.1 99 = .ok (.aload_n 2, 1) := by decide +kernel
theorem e_Years_play_100 : decode M_Years_play.2.1 100 = .ok (.aload_n 0, 1) := by decide +kernel
theorem e_Years_play_101 : decode M_Years_play.2.1 101 = .ok (.iconst 4, 1) := by decide +kernel
theorem e_Years_play_102 : decode M_Years_play.2.1 102 = .ok (.invokevirtual 18, 3) := by decide +kernel
theorem e_Years_play_105 : decode M_Years_play.2.1 105 = .ok (.invokevirtual 44, 3) := by decide +kernel
theorem e_Years_play_108 : decode M_Years_play.2.1 108 = .ok (.goto 27, 3) := by decide +kernel
theorem e_Years_play_111 : decode M_Years_play.2.1 111 = .ok (.aload_n 1, 1) := by decide +kernel
theorem e_Years_play_112 : decode M_Years_play.2.1 112 = .ok (.getfield 48, 3) := by decide +kernel
theorem e_Years_play_115 : decode M_Years_play.2.1 115 = .ok (.ifCond .le 20, 3) := by decide +kernel
theorem e_Years_play_118 : decode M_Years_play.2.1 118 = .ok (.aload_n 0, 1) := by decide +kernel
theorem e_Years_play_119 : decode M_Years_play.2.1 119 = .ok (.aload_n 1, 1) := by decide +kernel
theorem e_Years_play_120 : decode M_Years_play.2.1 120 = .ok (.aload_n 2, 1) := by decide +kernel
theorem e_Years_play_121 : decode M_Years_play.2.1 121 = .ok (.iload 6, 2) := by decide +kernel
theorem e_Years_play_123 : decode M_Years_play.2.1 123 = .ok (.iconst 2, 1) := by decide +kernel
theorem e_Years_play_124 : decode M_Years_play.2.1 124 = .ok (.if_icmp .ne 7, 3) := by decide +kernel
theorem e_Years_play_127 : decode M_Years_play.2.1 127 = .ok (.iconst 1, 1) := by decide +kernel
theorem e_Years_play_128 : decode M_Years_play.2.1 128 = .ok (.goto 4, 3) := by decide +kernel
theorem e_Years_play_131 : decode M_Years_play.2.1 131 = .ok (.iconst 0, 1) := by decide +kernel
theorem e_Years_play_132 : decode M_Years_play.2.1 132 = .ok (.invokevirtual 51, 3) := by decide +kernel
theorem e_Years_play_135 : decode M_Years_play.2.1 135 = .ok (.iinc 5 1, 3) := by decide +kernel
theorem e_Years_play_138 : decode M_Years_play.2.1 138 = .ok (.goto (-125), 3) := by decide +kernel
theorem e_Years_play_141 : decode M_Years_play.2.1 141 = .ok (.return_, 1) := by decide +kernel
theorem e_Years_draw_0 : decode M_Years_draw.2.1 0 = .ok (.aload_n 0, 1) := by decide +kernel
theorem e_Years_draw_1 : decode M_Years_draw.2.1 1 = .ok (.aload_n 0, 1) := by decide +kernel
theorem e_Years_draw_2 : decode M_Years_draw.2.1 2 = .ok (.getfield 15, 3) := by decide +kernel
theorem e_Years_draw_5 : decode M_Years_draw.2.1 5 = .ok (.ldc 67, 2) := by decide +kernel
theorem e_Years_draw_7 : decode M_Years_draw.2.1 7 = .ok (.imul, 1) := by decide +kernel
theorem e_Years_draw_8 : decode M_Years_draw.2.1 8 = .ok (.sipush 12345, 3) := by decide +kernel
theorem e_Years_draw_11 : decode M_Years_draw.2.1 11 = .ok (.iadd, 1) := by decide +kernel
theorem e_Years_draw_12 : decode M_Years_draw.2.1 12 = .ok (.putfield 15, 3) := by decide +kernel
theorem e_Years_draw_15 : decode M_Years_draw.2.1 15 = .ok (.iload_n 1, 1) := by decide +kernel
theorem e_Years_draw_16 : decode M_Years_draw.2.1 16 = .ok (.ifCond .le 19, 3) := by decide +kernel
theorem e_Years_draw_19 : decode M_Years_draw.2.1 19 = .ok (.aload_n 0, 1) := by decide +kernel
theorem e_Years_draw_20 : decode M_Years_draw.2.1 20 = .ok (.getfield 15, 3) := by decide +kernel
theorem e_Years_draw_23 : decode M_Years_draw.2.1 23 = .ok (.bipush 16, 2) := by decide +kernel
theorem e_Years_draw_25 : decode M_Years_draw.2.1 25 = .ok (.ishr, 1) := by decide +kernel
theorem e_Years_draw_26 : decode M_Years_draw.2.1 26 = .ok (.sipush 32767, 3) := by decide +kernel
theorem e_Years_draw_29 : decode M_Years_draw.2.1 29 = .ok (.iand, 1) := by decide +kernel
theorem e_Years_draw_30 : decode M_Years_draw.2.1 30 = .ok (.iload_n 1, 1) := by decide +kernel
theorem e_Years_draw_31 : decode M_Years_draw.2.1 31 = .ok (.irem, 1) := by decide +kernel
theorem e_Years_draw_32 : decode M_Years_draw.2.1 32 = .ok (.goto 4, 3) := by decide +kernel
theorem e_Years_draw_35 : decode M_Years_draw.2.1 35 = .ok (.iconst 0, 1) := by decide +kernel
theorem e_Years_draw_36 : decode M_Years_draw.2.1 36 = .ok (.ireturn, 1) := by decide +kernel
theorem e_Years_passSome_0 : decode M_Years_passSome.2.1 0 = .ok (.iconst 0, 1) := by decide +kernel
theorem e_Years_passSome_1 : decode M_Years_passSome.2.1 1 = .ok (.istore 4, 2) := by decide +kernel
theorem e_Years_passSome_3 : decode M_Years_passSome.2.1 3 = .ok (.iload 4, 2) := by decide +kernel
theorem e_Years_passSome_5 : decode M_Years_passSome.2.1 5 = .ok (.iload_n 3, 1) := by decide +kernel
theorem e_Years_passSome_6 : decode M_Years_passSome.2.1 6 = .ok (.if_icmp .ge 63, 3) := by decide +kernel
theorem e_Years_passSome_9 : decode M_Years_passSome.2.1 9 = .ok (.aload_n 2, 1) := by decide +kernel
theorem e_Years_passSome_10 : decode M_Years_passSome.2.1 10 = .ok (.getfield 59, 3) := by decide +kernel
theorem e_Years_passSome_13 : decode M_Years_passSome.2.1 13 = .ok (.sipush 221, 3) := by decide +kernel
theorem e_Years_passSome_16 : decode M_Years_passSome.2.1 16 = .ok (.iaload, 1) := by decide +kernel
theorem e_Years_passSome_17 : decode M_Years_passSome.2.1 17 = .ok (.iconst (-1), 1) := by decide +kernel
theorem e_Years_passSome_18 : decode M_Years_passSome.2.1 18 = .ok (.if_icmp .ne 7, 3) := by decide +kernel
theorem e_Years_passSome_21 : decode M_Years_passSome.2.1 21 = .ok (.iconst 1, 1) := by decide +kernel
theorem e_Years_passSome_22 : decode M_Years_passSome.2.1 22 = .ok (.goto 4, 3) := by decide +kernel
theorem e_Years_passSome_25 : decode M_Years_passSome.2.1 25 = .ok (.iconst 0, 1) := by decide +kernel
theorem e_Years_passSome_26 : decode M_Years_passSome.2.1 26 = .ok (.istore 5, 2) := by decide +kernel
theorem e_Years_passSome_28 : decode M_Years_passSome.2.1 28 = .ok (.aload_n 1, 1) := by decide +kernel
theorem e_Years_passSome_29 : decode M_Years_passSome.2.1 29 = .ok (.aload_n 2, 1) := by decide +kernel
theorem e_Years_passSome_30 : decode M_Years_passSome.2.1 30 = .ok (.getfield 59, 3) := by decide +kernel
theorem e_Years_passSome_33 : decode M_Years_passSome.2.1 33 = .ok (.invokestatic 68, 3) := by decide +kernel
theorem e_Years_passSome_36 : decode M_Years_passSome.2.1 36 = .ok (.iload 5, 2) := by decide +kernel
theorem e_Years_passSome_38 : decode M_Years_passSome.2.1 38 = .ok (.ifCond .eq 25, 3) := by decide +kernel
theorem e_Years_passSome_41 : decode M_Years_passSome.2.1 41 = .ok (.aload_n 2, 1) := by decide +kernel
theorem e_Years_passSome_42 : decode M_Years_passSome.2.1 42 = .ok (.getfield 59, 3) := by decide +kernel
theorem e_Years_passSome_45 : decode M_Years_passSome.2.1 45 = .ok (.sipush 221, 3) := by decide +kernel
theorem e_Years_passSome_48 : decode M_Years_passSome.2.1 48 = .ok (.iaload, 1) := by decide +kernel
theorem e_Years_passSome_49 : decode M_Years_passSome.2.1 49 = .ok (.iconst (-1), 1) := by decide +kernel
theorem e_Years_passSome_50 : decode M_Years_passSome.2.1 50 = .ok (.if_icmp .eq 13, 3) := by decide +kernel
theorem e_Years_passSome_53 : decode M_Years_passSome.2.1 53 = .ok (.aload_n 0, 1) := by decide +kernel
theorem e_Years_passSome_54 : decode M_Years_passSome.2.1 54 = .ok (.dup, 1) := by decide +kernel
theorem e_Years_passSome_55 : decode M_Years_passSome.2.1 55 = .ok (.getfield 9, 3) := by decide +kernel
theorem e_Years_passSome_58 : decode M_Years_passSome.2.1 58 = .ok (.iconst 1, 1) := by decide +kernel
theorem e_Years_passSome_59 : decode M_Years_passSome.2.1 59 = .ok (.iadd, 1) := by decide +kernel
theorem e_Years_passSome_60 : decode M_Years_passSome.2.1 60 = .ok (.putfield 9, 3) := by decide +kernel
theorem e_Years_passSome_63 : decode M_Years_passSome.2.1 63 = .ok (.iinc 4 1, 3) := by decide +kernel
theorem e_Years_passSome_66 : decode M_Years_passSome.2.1 66 = .ok (.goto (-63), 3) := by decide +kernel
theorem e_Years_passSome_69 : decode M_Years_passSome.2.1 69 = .ok (.return_, 1) := by decide +kernel
theorem e_Years_tellBlock_0 : decode M_Years_tellBlock.2.1 0 = .ok (.aload_n 0, 1) := by decide +kernel
theorem e_Years_tellBlock_1 : decode M_Years_tellBlock.2.1 1 = .ok (.aload_n 1, 1) := by decide +kernel
theorem e_Years_tellBlock_2 : decode M_Years_tellBlock.2.1 2 = .ok (.getfield 48, 3) := by decide +kernel
theorem e_Years_tellBlock_5 : decode M_Years_tellBlock.2.1 5 = .ok (.invokevirtual 18, 3) := by decide +kernel
theorem e_Years_tellBlock_8 : decode M_Years_tellBlock.2.1 8 = .ok (.istore 4, 2) := by decide +kernel
theorem e_Years_tellBlock_10 : decode M_Years_tellBlock.2.1 10 = .ok (.iload_n 3, 1) := by decide +kernel
theorem e_Years_tellBlock_11 : decode M_Years_tellBlock.2.1 11 = .ok (.ifCond .eq 37, 3) := by decide +kernel
theorem e_Years_tellBlock_14 : decode M_Years_tellBlock.2.1 14 = .ok (.aload_n 0, 1) := by decide +kernel
theorem e_Years_tellBlock_15 : decode M_Years_tellBlock.2.1 15 = .ok (.iconst 4, 1) := by decide +kernel
theorem e_Years_tellBlock_16 : decode M_Years_tellBlock.2.1 16 = .ok (.invokevirtual 18, 3) := by decide +kernel
theorem e_Years_tellBlock_19 : decode M_Years_tellBlock.2.1 19 = .ok (.istore 5, 2) := by decide +kernel
theorem e_Years_tellBlock_21 : decode M_Years_tellBlock.2.1 21 = .ok (.aload_n 2, 1) := by decide +kernel
theorem e_Years_tellBlock_22 : decode M_Years_tellBlock.2.1 22 = .ok (.aload_n 1, 1) := by decide +kernel
theorem e_Years_tellBlock_23 : decode M_Years_tellBlock.2.1 23 = .ok (.iload 4, 2) := by decide +kernel
theorem e_Years_tellBlock_25 : decode M_Years_tellBlock.2.1 25 = .ok (.iload 5, 2) := by decide +kernel
theorem e_Years_tellBlock_27 : decode M_Years_tellBlock.2.1 27 = .ok (.invokevirtual 55, 3) := by decide +kernel
theorem e_Years_tellBlock_30 : decode M_Years_tellBlock.2.1 30 = .ok (.ifCond .eq 17, 3) := by decide +kernel
theorem e_Years_tellBlock_33 : decode M_Years_tellBlock.2.1 33 = .ok (.aload_n 2, 1) := by decide +kernel
theorem e_Years_tellBlock_34 : decode M_Years_tellBlock.2.1 34 = .ok (.getfield 59, 3) := by decide +kernel
theorem e_Years_tellBlock_37 : decode M_Years_tellBlock.2.1 37 = .ok (.iload 4, 2) := by decide +kernel
theorem e_Years_tellBlock_39 : decode M_Years_tellBlock.2.1 39 = .ok (.bipush 9, 2) := by decide +kernel
theorem e_Years_tellBlock_41 : decode M_Years_tellBlock.2.1 41 = .ok (.imul, 1) := by decide +kernel
theorem e_Years_tellBlock_42 : decode M_Years_tellBlock.2.1 42 = .ok (.iconst 0, 1) := by decide +kernel
theorem e_Years_tellBlock_43 : decode M_Years_tellBlock.2.1 43 = .ok (.iadd, 1) := by decide +kernel
theorem e_Years_tellBlock_44 : decode M_Years_tellBlock.2.1 44 = .ok (.iload 5, 2) := by decide +kernel
theorem e_Years_tellBlock_46 : decode M_Years_tellBlock.2.1 46 = .ok (.iastore, 1) := by decide +kernel
theorem e_Years_tellBlock_47 : decode M_Years_tellBlock.2.1 47 = .ok (.return_, 1) := by decide +kernel
theorem e_Years_tellBlock_48 : decode M_Years_tellBlock.2.1 48 = .ok (.aload_n 0, 1) := by decide +kernel
theorem e_Years_tellBlock_49 : decode M_Years_tellBlock.2.1 49 = .ok (.sipush 1001, 3) := by decide +kernel
theorem e_Years_tellBlock_52 : decode M_Years_tellBlock.2.1 52 = .ok (.invokevirtual 18, 3) := by decide +kernel
theorem e_Years_tellBlock_55 : decode M_Years_tellBlock.2.1 55 = .ok (.istore 5, 2) := by decide +kernel
theorem e_Years_tellBlock_57 : decode M_Years_tellBlock.2.1 57 = .ok (.aload_n 2, 1) := by decide +kernel
theorem e_Years_tellBlock_58 : decode M_Years_tellBlock.2.1 58 = .ok (.aload_n 1, 1) := by decide +kernel
theorem e_Years_tellBlock_59 : decode M_Years_tellBlock.2.1 59 = .ok (.iload 4, 2) := by decide +kernel
theorem e_Years_tellBlock_61 : decode M_Years_tellBlock.2.1 61 = .ok (.invokevirtual 63, 3) := by decide +kernel
theorem e_Years_tellBlock_64 : decode M_Years_tellBlock.2.1 64 = .ok (.istore 6, 2) := by decide +kernel
theorem e_Years_tellBlock_66 : decode M_Years_tellBlock.2.1 66 = .ok (.iload 6, 2) := by decide +kernel
theorem e_Years_tellBlock_68 : decode M_Years_tellBlock.2.1 68 = .ok (.iconst (-1), 1) := by decide +kernel
theorem e_Years_tellBlock_69 : decode M_Years_tellBlock.2.1 69 = .ok (.if_icmp .eq 12, 3) := by decide +kernel
theorem e_Years_tellBlock_72 : decode M_Years_tellBlock.2.1 72 = .ok (.aload_n 2, 1) := by decide +kernel
theorem e_Years_tellBlock_73 : decode M_Years_tellBlock.2.1 73 = .ok (.getfield 59, 3) := by decide +kernel
theorem e_Years_tellBlock_76 : decode M_Years_tellBlock.2.1 76 = .ok (.iload 6, 2) := by decide +kernel
theorem e_Years_tellBlock_78 : decode M_Years_tellBlock.2.1 78 = .ok (.iload 5, 2) := by decide +kernel
theorem e_Years_tellBlock_80 : decode M_Years_tellBlock.2.1 80 = .ok (.iastore, 1) := by decide +kernel
theorem e_Years_tellBlock_81 : decode M_Years_tellBlock.2.1 81 = .ok (.return_, 1) := by decide +kernel
theorem e_State_sumOfOuts_0 : decode M_State_sumOfOuts.2.1 0 = .ok (.iconst 0, 1) := by decide +kernel
theorem e_State_sumOfOuts_1 : decode M_State_sumOfOuts.2.1 1 = .ok (.istore_n 2, 1) := by decide +kernel
theorem e_State_sumOfOuts_2 : decode M_State_sumOfOuts.2.1 2 = .ok (.iconst 0, 1) := by decide +kernel
theorem e_State_sumOfOuts_3 : decode M_State_sumOfOuts.2.1 3 = .ok (.istore_n 3, 1) := by decide +kernel
theorem e_State_sumOfOuts_4 : decode M_State_sumOfOuts.2.1 4 = .ok (.iload_n 3, 1) := by decide +kernel
theorem e_State_sumOfOuts_5 : decode M_State_sumOfOuts.2.1 5 = .ok (.iload_n 1, 1) := by decide +kernel
theorem e_State_sumOfOuts_6 : decode M_State_sumOfOuts.2.1 6 = .ok (.if_icmp .ge 23, 3) := by decide +kernel
theorem e_State_sumOfOuts_9 : decode M_State_sumOfOuts.2.1 9 = .ok (.iload_n 2, 1) := by decide +kernel
theorem e_State_sumOfOuts_10 : decode M_State_sumOfOuts.2.1 10 = .ok (.aload_n 0, 1) := by decide +kernel
theorem e_State_sumOfOuts_11 : decode M_State_sumOfOuts.2.1 11 = .ok (.getfield 9, 3) := by decide +kernel
theorem e_State_sumOfOuts_14 : decode M_State_sumOfOuts.2.1 14 = .ok (.iload_n 3, 1) := by decide +kernel
theorem e_State_sumOfOuts_15 : decode M_State_sumOfOuts.2.1 15 = .ok (.bipush 9, 2) := by decide +kernel
theorem e_State_sumOfOuts_17 : decode M_State_sumOfOuts.2.1 17 = .ok (.imul, 1) := by decide +kernel
theorem e_State_sumOfOuts_18 : decode M_State_sumOfOuts.2.1 18 = .ok (.iconst 3, 1) := by decide +kernel
theorem e_State_sumOfOuts_19 : decode M_State_sumOfOuts.2.1 19 = .ok (.iadd, 1) := by decide +kernel
theorem e_State_sumOfOuts_20 : decode M_State_sumOfOuts.2.1 20 = .ok (.iaload, 1) := by decide +kernel
theorem e_State_sumOfOuts_21 : decode M_State_sumOfOuts.2.1 21 = .ok (.iadd, 1) := by decide +kernel
theorem e_State_sumOfOuts_22 : decode M_State_sumOfOuts.2.1 22 = .ok (.istore_n 2, 1) := by decide +kernel
theorem e_State_sumOfOuts_23 : decode M_State_sumOfOuts.2.1 23 = .ok (.iinc 3 1, 3) := by decide +kernel
theorem e_State_sumOfOuts_26 : decode M_State_sumOfOuts.2.1 26 = .ok (.goto (-22), 3) := by decide +kernel
theorem e_State_sumOfOuts_29 : decode M_State_sumOfOuts.2.1 29 = .ok (.iload_n 2, 1) := by decide +kernel
theorem e_State_sumOfOuts_30 : decode M_State_sumOfOuts.2.1 30 = .ok (.ireturn, 1) := by decide +kernel
