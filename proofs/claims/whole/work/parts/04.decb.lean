theorem dX6_init_0 : decode cX6_init 0 = .ok (.aload_n 0, 1) := by decide +kernel
theorem dX6_init_1 : decode cX6_init 1 = .ok (.invokespecial 1, 3) := by decide +kernel
theorem dX6_init_4 : decode cX6_init 4 = .ok (.aload_n 0, 1) := by decide +kernel
theorem dX6_init_5 : decode cX6_init 5 = .ok (.bipush 16, 2) := by decide +kernel
theorem dX6_init_7 : decode cX6_init 7 = .ok (.newarray .int, 2) := by decide +kernel
theorem dX6_init_9 : decode cX6_init 9 = .ok (.putfield 7, 3) := by decide +kernel
theorem dX6_init_12 : decode cX6_init 12 = .ok (.aload_n 0, 1) := by decide +kernel
theorem dX6_init_13 : decode cX6_init 13 = .ok (.bipush 16, 2) := by decide +kernel
theorem dX6_init_15 : decode cX6_init 15 = .ok (.newarray .int, 2) := by decide +kernel
theorem dX6_init_17 : decode cX6_init 17 = .ok (.putfield 13, 3) := by decide +kernel
theorem dX6_init_20 : decode cX6_init 20 = .ok (.aload_n 0, 1) := by decide +kernel
theorem dX6_init_21 : decode cX6_init 21 = .ok (.bipush 16, 2) := by decide +kernel
theorem dX6_init_23 : decode cX6_init 23 = .ok (.newarray .boolean, 2) := by decide +kernel
theorem dX6_init_25 : decode cX6_init 25 = .ok (.putfield 16, 3) := by decide +kernel
theorem dX6_init_28 : decode cX6_init 28 = .ok (.aload_n 0, 1) := by decide +kernel
theorem dX6_init_29 : decode cX6_init 29 = .ok (.sipush 620, 3) := by decide +kernel
theorem dX6_init_32 : decode cX6_init 32 = .ok (.newarray .int, 2) := by decide +kernel
theorem dX6_init_34 : decode cX6_init 34 = .ok (.putfield 20, 3) := by decide +kernel
theorem dX6_init_37 : decode cX6_init 37 = .ok (.aload_n 0, 1) := by decide +kernel
theorem dX6_init_38 : decode cX6_init 38 = .ok (.sipush 620, 3) := by decide +kernel
theorem dX6_init_41 : decode cX6_init 41 = .ok (.newarray .int, 2) := by decide +kernel
theorem dX6_init_43 : decode cX6_init 43 = .ok (.putfield 23, 3) := by decide +kernel
theorem dX6_init_46 : decode cX6_init 46 = .ok (.aload_n 0, 1) := by decide +kernel
theorem dX6_init_47 : decode cX6_init 47 = .ok (.sipush 620, 3) := by decide +kernel
theorem dX6_init_50 : decode cX6_init 50 = .ok (.newarray .int, 2) := by decide +kernel
theorem dX6_init_52 : decode cX6_init 52 = .ok (.putfield 26, 3) := by decide +kernel
theorem dX6_init_55 : decode cX6_init 55 = .ok (.aload_n 0, 1) := by decide +kernel
theorem dX6_init_56 : decode cX6_init 56 = .ok (.sipush 620, 3) := by decide +kernel
theorem dX6_init_59 : decode cX6_init 59 = .ok (.newarray .int, 2) := by decide +kernel
theorem dX6_init_61 : decode cX6_init 61 = .ok (.putfield 29, 3) := by decide +kernel
theorem dX6_init_64 : decode cX6_init 64 = .ok (.aload_n 0, 1) := by decide +kernel
theorem dX6_init_65 : decode cX6_init 65 = .ok (.sipush 13020, 3) := by decide +kernel
theorem dX6_init_68 : decode cX6_init 68 = .ok (.newarray .int, 2) := by decide +kernel
theorem dX6_init_70 : decode cX6_init 70 = .ok (.putfield 32, 3) := by decide +kernel
theorem dX6_init_73 : decode cX6_init 73 = .ok (.aload_n 0, 1) := by decide +kernel
theorem dX6_init_74 : decode cX6_init 74 = .ok (.sipush 620, 3) := by decide +kernel
theorem dX6_init_77 : decode cX6_init 77 = .ok (.newarray .boolean, 2) := by decide +kernel
theorem dX6_init_79 : decode cX6_init 79 = .ok (.putfield 35, 3) := by decide +kernel
theorem dX6_init_82 : decode cX6_init 82 = .ok (.aload_n 0, 1) := by decide +kernel
theorem dX6_init_83 : decode cX6_init 83 = .ok (.sipush 620, 3) := by decide +kernel
theorem dX6_init_86 : decode cX6_init 86 = .ok (.newarray .boolean, 2) := by decide +kernel
theorem dX6_init_88 : decode cX6_init 88 = .ok (.putfield 38, 3) := by decide +kernel
theorem dX6_init_91 : decode cX6_init 91 = .ok (.aload_n 0, 1) := by decide +kernel
theorem dX6_init_92 : decode cX6_init 92 = .ok (.bipush 10, 2) := by decide +kernel
theorem dX6_init_94 : decode cX6_init 94 = .ok (.newarray .int, 2) := by decide +kernel
theorem dX6_init_96 : decode cX6_init 96 = .ok (.dup, 1) := by decide +kernel
theorem dX6_init_97 : decode cX6_init 97 = .ok (.iconst 0, 1) := by decide +kernel
theorem dX6_init_98 : decode cX6_init 98 = .ok (.iconst (-1), 1) := by decide +kernel
theorem dX6_init_99 : decode cX6_init 99 = .ok (.iastore, 1) := by decide +kernel
theorem dX6_init_100 : decode cX6_init 100 = .ok (.dup, 1) := by decide +kernel
theorem dX6_init_101 : decode cX6_init 101 = .ok (.iconst 1, 1) := by decide +kernel
theorem dX6_init_102 : decode cX6_init 102 = .ok (.iconst (-1), 1) := by decide +kernel
theorem dX6_init_103 : decode cX6_init 103 = .ok (.iastore, 1) := by decide +kernel
theorem dX6_init_104 : decode cX6_init 104 = .ok (.dup, 1) := by decide +kernel
theorem dX6_init_105 : decode cX6_init 105 = .ok (.iconst 2, 1) := by decide +kernel
theorem dX6_init_106 : decode cX6_init 106 = .ok (.iconst (-1), 1) := by decide +kernel
theorem dX6_init_107 : decode cX6_init 107 = .ok (.iastore, 1) := by decide +kernel
theorem dX6_init_108 : decode cX6_init 108 = .ok (.dup, 1) := by decide +kernel
theorem dX6_init_109 : decode cX6_init 109 = .ok (.iconst 3, 1) := by decide +kernel
theorem dX6_init_110 : decode cX6_init 110 = .ok (.iconst (-1), 1) := by decide +kernel
theorem dX6_init_111 : decode cX6_init 111 = .ok (.iastore, 1) := by decide +kernel
theorem dX6_init_112 : decode cX6_init 112 = .ok (.dup, 1) := by decide +kernel
theorem dX6_init_113 : decode cX6_init 113 = .ok (.iconst 4, 1) := by decide +kernel
theorem dX6_init_114 : decode cX6_init 114 = .ok (.iconst (-1), 1) := by decide +kernel
theorem dX6_init_115 : decode cX6_init 115 = .ok (.iastore, 1) := by decide +kernel
theorem dX6_init_116 : decode cX6_init 116 = .ok (.dup, 1) := by decide +kernel
theorem dX6_init_117 : decode cX6_init 117 = .ok (.iconst 5, 1) := by decide +kernel
theorem dX6_init_118 : decode cX6_init 118 = .ok (.iconst (-1), 1) := by decide +kernel
theorem dX6_init_119 : decode cX6_init 119 = .ok (.iastore, 1) := by decide +kernel
theorem dX6_init_120 : decode cX6_init 120 = .ok (.dup, 1) := by decide +kernel
theorem dX6_init_121 : decode cX6_init 121 = .ok (.bipush 6, 2) := by decide +kernel
theorem dX6_init_123 : decode cX6_init 123 = .ok (.iconst (-1), 1) := by decide +kernel
theorem dX6_init_124 : decode cX6_init 124 = .ok (.iastore, 1) := by decide +kernel
theorem dX6_init_125 : decode cX6_init 125 = .ok (.dup, 1) := by decide +kernel
theorem dX6_init_126 : decode cX6_init 126 = .ok (.bipush 7, 2) := by decide +kernel
theorem dX6_init_128 : decode cX6_init 128 = .ok (.iconst (-1), 1) := by decide +kernel
theorem dX6_init_129 : decode cX6_init 129 = .ok (.iastore, 1) := by decide +kernel
theorem dX6_init_130 : decode cX6_init 130 = .ok (.dup, 1) := by decide +kernel
theorem dX6_init_131 : decode cX6_init 131 = .ok (.bipush 8, 2) := by decide +kernel
theorem dX6_init_133 : decode cX6_init 133 = .ok (.iconst (-1), 1) := by decide +kernel
theorem dX6_init_134 : decode cX6_init 134 = .ok (.iastore, 1) := by decide +kernel
theorem dX6_init_135 : decode cX6_init 135 = .ok (.dup, 1) := by decide +kernel
theorem dX6_init_136 : decode cX6_init 136 = .ok (.bipush 9, 2) := by decide +kernel
theorem dX6_init_138 : decode cX6_init 138 = .ok (.iconst (-1), 1) := by decide +kernel
theorem dX6_init_139 : decode cX6_init 139 = .ok (.iastore, 1) := by decide +kernel
theorem dX6_init_140 : decode cX6_init 140 = .ok (.putfield 41, 3) := by decide +kernel
theorem dX6_init_143 : decode cX6_init 143 = .ok (.aload_n 0, 1) := by decide +kernel
theorem dX6_init_144 : decode cX6_init 144 = .ok (.sipush 620, 3) := by decide +kernel
theorem dX6_init_147 : decode cX6_init 147 = .ok (.newarray .int, 2) := by decide +kernel
theorem dX6_init_149 : decode cX6_init 149 = .ok (.putfield 44, 3) := by decide +kernel
theorem dX6_init_152 : decode cX6_init 152 = .ok (.aload_n 0, 1) := by decide +kernel
theorem dX6_init_153 : decode cX6_init 153 = .ok (.iload_n 1, 1) := by decide +kernel
theorem dX6_init_154 : decode cX6_init 154 = .ok (.iconst 3, 1) := by decide +kernel
theorem dX6_init_155 : decode cX6_init 155 = .ok (.if_icmp .ge 7, 3) := by decide +kernel
theorem dX6_init_158 : decode cX6_init 158 = .ok (.iconst 3, 1) := by decide +kernel
theorem dX6_init_159 : decode cX6_init 159 = .ok (.goto 15, 3) := by decide +kernel
theorem dX6_init_162 : decode cX6_init 162 = .ok (.iload_n 1, 1) := by decide +kernel
theorem dX6_init_163 : decode cX6_init 163 = .ok (.bipush 16, 2) := by decide +kernel
theorem dX6_init_165 : decode cX6_init 165 = .ok (.if_icmp .le 8, 3) := by decide +kernel
theorem dX6_init_168 : decode cX6_init 168 = .ok (.bipush 16, 2) := by decide +kernel
theorem dX6_init_170 : decode cX6_init 170 = .ok (.goto 4, 3) := by decide +kernel
theorem dX6_init_173 : decode cX6_init 173 = .ok (.iload_n 1, 1) := by decide +kernel
theorem dX6_init_174 : decode cX6_init 174 = .ok (.putfield 47, 3) := by decide +kernel
theorem dX6_init_177 : decode cX6_init 177 = .ok (.aload_n 0, 1) := by decide +kernel
theorem dX6_init_178 : decode cX6_init 178 = .ok (.iload_n 2, 1) := by decide +kernel
theorem dX6_init_179 : decode cX6_init 179 = .ok (.ifCond .ge 7, 3) := by decide +kernel
theorem dX6_init_182 : decode cX6_init 182 = .ok (.iconst 0, 1) := by decide +kernel
theorem dX6_init_183 : decode cX6_init 183 = .ok (.goto 17, 3) := by decide +kernel
theorem dX6_init_186 : decode cX6_init 186 = .ok (.iload_n 2, 1) := by decide +kernel
theorem dX6_init_187 : decode cX6_init 187 = .ok (.sipush 128, 3) := by decide +kernel
theorem dX6_init_190 : decode cX6_init 190 = .ok (.if_icmp .le 9, 3) := by decide +kernel
theorem dX6_init_193 : decode cX6_init 193 = .ok (.sipush 128, 3) := by decide +kernel
theorem dX6_init_196 : decode cX6_init 196 = .ok (.goto 4, 3) := by decide +kernel
theorem dX6_init_199 : decode cX6_init 199 = .ok (.iload_n 2, 1) := by decide +kernel
theorem dX6_init_200 : decode cX6_init 200 = .ok (.putfield 51, 3) := by decide +kernel
theorem dX6_init_203 : decode cX6_init 203 = .ok (.return_, 1) := by decide +kernel
theorem dX6_thrown_0 : decode cX6_thrown 0 = .ok (.aload_n 0, 1) := by decide +kernel
theorem dX6_thrown_1 : decode cX6_thrown 1 = .ok (.getfield 54, 3) := by decide +kernel
theorem dX6_thrown_4 : decode cX6_thrown 4 = .ok (.ireturn, 1) := by decide +kernel
theorem dX6_good_0 : decode cX6_good 0 = .ok (.aload_n 0, 1) := by decide +kernel
theorem dX6_good_1 : decode cX6_good 1 = .ok (.iload_n 1, 1) := by decide +kernel
theorem dX6_good_2 : decode cX6_good 2 = .ok (.ifCond .ne 7, 3) := by decide +kernel
theorem dX6_good_5 : decode cX6_good 5 = .ok (.iconst 1, 1) := by decide +kernel
theorem dX6_good_6 : decode cX6_good 6 = .ok (.goto 12, 3) := by decide +kernel
theorem dX6_good_9 : decode cX6_good 9 = .ok (.iload_n 2, 1) := by decide +kernel
theorem dX6_good_10 : decode cX6_good 10 = .ok (.ifCond .ne 7, 3) := by decide +kernel
theorem dX6_good_13 : decode cX6_good 13 = .ok (.iconst 2, 1) := by decide +kernel
theorem dX6_good_14 : decode cX6_good 14 = .ok (.goto 4, 3) := by decide +kernel
theorem dX6_good_17 : decode cX6_good 17 = .ok (.iconst 0, 1) := by decide +kernel
theorem dX6_good_18 : decode cX6_good 18 = .ok (.putfield 54, 3) := by decide +kernel
theorem dX6_good_21 : decode cX6_good 21 = .ok (.aload_n 0, 1) := by decide +kernel
theorem dX6_good_22 : decode cX6_good 22 = .ok (.getfield 54, 3) := by decide +kernel
theorem dX6_good_25 : decode cX6_good 25 = .ok (.ifCond .ne 7, 3) := by decide +kernel
theorem dX6_good_28 : decode cX6_good 28 = .ok (.iconst 1, 1) := by decide +kernel
theorem dX6_good_29 : decode cX6_good 29 = .ok (.goto 4, 3) := by decide +kernel
theorem dX6_good_32 : decode cX6_good 32 = .ok (.iconst 0, 1) := by decide +kernel
theorem dX6_good_33 : decode cX6_good 33 = .ok (.ireturn, 1) := by decide +kernel
theorem dX6_isRegister_0 : decode cX6_isRegister 0 = .ok (.iload_n 0, 1) := by decide +kernel
theorem dX6_isRegister_1 : decode cX6_isRegister 1 = .ok (.ifCond .lt 13, 3) := by decide +kernel
theorem dX6_isRegister_4 : decode cX6_isRegister 4 = .ok (.iload_n 0, 1) := by decide +kernel
theorem dX6_isRegister_5 : decode cX6_isRegister 5 = .ok (.bipush 10, 2) := by decide +kernel
theorem dX6_isRegister_7 : decode cX6_isRegister 7 = .ok (.if_icmp .ge 7, 3) := by decide +kernel
theorem dX6_isRegister_10 : decode cX6_isRegister 10 = .ok (.iconst 1, 1) := by decide +kernel
theorem dX6_isRegister_11 : decode cX6_isRegister 11 = .ok (.goto 4, 3) := by decide +kernel
theorem dX6_isRegister_14 : decode cX6_isRegister 14 = .ok (.iconst 0, 1) := by decide +kernel
theorem dX6_isRegister_15 : decode cX6_isRegister 15 = .ok (.ireturn, 1) := by decide +kernel
theorem dX6_place_0 : decode cX6_place 0 = .ok (.iload_n 1, 1) := by decide +kernel
theorem dX6_place_1 : decode cX6_place 1 = .ok (.iconst (-1), 1) := by decide +kernel
theorem dX6_place_2 : decode cX6_place 2 = .ok (.if_icmp .ne 7, 3) := by decide +kernel
theorem dX6_place_5 : decode cX6_place 5 = .ok (.iconst (-1), 1) := by decide +kernel
theorem dX6_place_6 : decode cX6_place 6 = .ok (.goto 20, 3) := by decide +kernel
theorem dX6_place_9 : decode cX6_place 9 = .ok (.sipush 128, 3) := by decide +kernel
theorem dX6_place_12 : decode cX6_place 12 = .ok (.aload_n 0, 1) := by decide +kernel
theorem dX6_place_13 : decode cX6_place 13 = .ok (.getfield 20, 3) := by decide +kernel
theorem dX6_place_16 : decode cX6_place 16 = .ok (.iload_n 1, 1) := by decide +kernel
theorem dX6_place_17 : decode cX6_place 17 = .ok (.iaload, 1) := by decide +kernel
theorem dX6_place_18 : decode cX6_place 18 = .ok (.imul, 1) := by decide +kernel
theorem dX6_place_19 : decode cX6_place 19 = .ok (.aload_n 0, 1) := by decide +kernel
theorem dX6_place_20 : decode cX6_place 20 = .ok (.getfield 23, 3) := by decide +kernel
theorem dX6_place_23 : decode cX6_place 23 = .ok (.iload_n 1, 1) := by decide +kernel
theorem dX6_place_24 : decode cX6_place 24 = .ok (.iaload, 1) := by decide +kernel
theorem dX6_place_25 : decode cX6_place 25 = .ok (.iadd, 1) := by decide +kernel
theorem dX6_place_26 : decode cX6_place 26 = .ok (.ireturn, 1) := by decide +kernel
theorem dX6_withState_0 : decode cX6_withState 0 = .ok (.iconst 0, 1) := by decide +kernel
theorem dX6_withState_1 : decode cX6_withState 1 = .ok (.istore_n 2, 1) := by decide +kernel
theorem dX6_withState_2 : decode cX6_withState 2 = .ok (.iload_n 2, 1) := by decide +kernel
theorem dX6_withState_3 : decode cX6_withState 3 = .ok (.aload_n 0, 1) := by decide +kernel
theorem dX6_withState_4 : decode cX6_withState 4 = .ok (.getfield 47, 3) := by decide +kernel
theorem dX6_withState_7 : decode cX6_withState 7 = .ok (.if_icmp .ge 19, 3) := by decide +kernel
theorem dX6_withState_10 : decode cX6_withState 10 = .ok (.aload_n 0, 1) := by decide +kernel
theorem dX6_withState_11 : decode cX6_withState 11 = .ok (.getfield 7, 3) := by decide +kernel
theorem dX6_withState_14 : decode cX6_withState 14 = .ok (.iload_n 2, 1) := by decide +kernel
theorem dX6_withState_15 : decode cX6_withState 15 = .ok (.iaload, 1) := by decide +kernel
theorem dX6_withState_16 : decode cX6_withState 16 = .ok (.iload_n 1, 1) := by decide +kernel
theorem dX6_withState_17 : decode cX6_withState 17 = .ok (.if_icmp .eq 9, 3) := by decide +kernel
theorem dX6_withState_20 : decode cX6_withState 20 = .ok (.iinc 2 1, 3) := by decide +kernel
theorem dX6_withState_23 : decode cX6_withState 23 = .ok (.goto (-21), 3) := by decide +kernel
theorem dX6_withState_26 : decode cX6_withState 26 = .ok (.iload_n 2, 1) := by decide +kernel
theorem dX6_withState_27 : decode cX6_withState 27 = .ok (.aload_n 0, 1) := by decide +kernel
theorem dX6_withState_28 : decode cX6_withState 28 = .ok (.getfield 47, 3) := by decide +kernel
theorem dX6_withState_31 : decode cX6_withState 31 = .ok (.if_icmp .ge 7, 3) := by decide +kernel
theorem dX6_withState_34 : decode cX6_withState 34 = .ok (.iload_n 2, 1) := by decide +kernel
theorem dX6_withState_35 : decode cX6_withState 35 = .ok (.goto 4, 3) := by decide +kernel
theorem dX6_withState_38 : decode cX6_withState 38 = .ok (.iconst (-1), 1) := by decide +kernel
theorem dX6_withState_39 : decode cX6_withState 39 = .ok (.ireturn, 1) := by decide +kernel
theorem dX6_seenIn_0 : decode cX6_seenIn 0 = .ok (.iconst 0, 1) := by decide +kernel
theorem dX6_seenIn_1 : decode cX6_seenIn 1 = .ok (.istore_n 2, 1) := by decide +kernel
theorem dX6_seenIn_2 : decode cX6_seenIn 2 = .ok (.iconst 0, 1) := by decide +kernel
theorem dX6_seenIn_3 : decode cX6_seenIn 3 = .ok (.istore_n 3, 1) := by decide +kernel
theorem dX6_seenIn_4 : decode cX6_seenIn 4 = .ok (.iload_n 3, 1) := by decide +kernel
theorem dX6_seenIn_5 : decode cX6_seenIn 5 = .ok (.aload_n 0, 1) := by decide +kernel
theorem dX6_seenIn_6 : decode cX6_seenIn 6 = .ok (.getfield 57, 3) := by decide +kernel
theorem dX6_seenIn_9 : decode cX6_seenIn 9 = .ok (.if_icmp .ge 50, 3) := by decide +kernel
theorem dX6_seenIn_12 : decode cX6_seenIn 12 = .ok (.aload_n 0, 1) := by decide +kernel
theorem dX6_seenIn_13 : decode cX6_seenIn 13 = .ok (.getfield 7, 3) := by decide +kernel
theorem dX6_seenIn_16 : decode cX6_seenIn 16 = .ok (.iload_n 1, 1) := by decide +kernel
theorem dX6_seenIn_17 : decode cX6_seenIn 17 = .ok (.iaload, 1) := by decide +kernel
theorem dX6_seenIn_18 : decode cX6_seenIn 18 = .ok (.ifCond .eq 41, 3) := by decide +kernel
theorem dX6_seenIn_21 : decode cX6_seenIn 21 = .ok (.aload_n 0, 1) := by decide +kernel
theorem dX6_seenIn_22 : decode cX6_seenIn 22 = .ok (.getfield 20, 3) := by decide +kernel
theorem dX6_seenIn_25 : decode cX6_seenIn 25 = .ok (.iload_n 3, 1) := by decide +kernel
theorem dX6_seenIn_26 : decode cX6_seenIn 26 = .ok (.iaload, 1) := by decide +kernel
theorem dX6_seenIn_27 : decode cX6_seenIn 27 = .ok (.iload_n 1, 1) := by decide +kernel
theorem dX6_seenIn_28 : decode cX6_seenIn 28 = .ok (.if_icmp .ne 23, 3) := by decide +kernel
theorem dX6_seenIn_31 : decode cX6_seenIn 31 = .ok (.aload_n 0, 1) := by decide +kernel
theorem dX6_seenIn_32 : decode cX6_seenIn 32 = .ok (.getfield 35, 3) := by decide +kernel
theorem dX6_seenIn_35 : decode cX6_seenIn 35 = .ok (.iload_n 3, 1) := by decide +kernel
theorem dX6_seenIn_36 : decode cX6_seenIn 36 = .ok (.baload, 1) := by decide +kernel
theorem dX6_seenIn_37 : decode cX6_seenIn 37 = .ok (.ifCond .eq 14, 3) := by decide +kernel
theorem dX6_seenIn_40 : decode cX6_seenIn 40 = .ok (.iload_n 2, 1) := by decide +kernel
theorem dX6_seenIn_41 : decode cX6_seenIn 41 = .ok (.aload_n 0, 1) := by decide +kernel
theorem dX6_seenIn_42 : decode cX6_seenIn 42 = .ok (.getfield 26, 3) := by decide +kernel
theorem dX6_seenIn_45 : decode cX6_seenIn 45 = .ok (.iload_n 3, 1) := by decide +kernel
theorem dX6_seenIn_46 : decode cX6_seenIn 46 = .ok (.iaload, 1) := by decide +kernel
theorem dX6_seenIn_47 : decode cX6_seenIn 47 = .ok (.iadd, 1) := by decide +kernel
theorem dX6_seenIn_48 : decode cX6_seenIn 48 = .ok (.goto 4, 3) := by decide +kernel
theorem dX6_seenIn_51 : decode cX6_seenIn 51 = .ok (.iload_n 2, 1) := by decide +kernel
theorem dX6_seenIn_52 : decode cX6_seenIn 52 = .ok (.istore_n 2, 1) := by decide +kernel
theorem dX6_seenIn_53 : decode cX6_seenIn 53 = .ok (.iinc 3 1, 3) := by decide +kernel
theorem dX6_seenIn_56 : decode cX6_seenIn 56 = .ok (.goto (-52), 3) := by decide +kernel
theorem dX6_seenIn_59 : decode cX6_seenIn 59 = .ok (.iload_n 2, 1) := by decide +kernel
theorem dX6_seenIn_60 : decode cX6_seenIn 60 = .ok (.ireturn, 1) := by decide +kernel
theorem dX6_see_0 : decode cX6_see 0 = .ok (.iload_n 1, 1) := by decide +kernel
theorem dX6_see_1 : decode cX6_see 1 = .ok (.iconst (-1), 1) := by decide +kernel
theorem dX6_see_2 : decode cX6_see 2 = .ok (.if_icmp .eq 39, 3) := by decide +kernel
theorem dX6_see_5 : decode cX6_see 5 = .ok (.aload_n 0, 1) := by decide +kernel
theorem dX6_see_6 : decode cX6_see 6 = .ok (.getfield 35, 3) := by decide +kernel
theorem dX6_see_9 : decode cX6_see 9 = .ok (.iload_n 1, 1) := by decide +kernel
theorem dX6_see_10 : decode cX6_see 10 = .ok (.baload, 1) := by decide +kernel
theorem dX6_see_11 : decode cX6_see 11 = .ok (.ifCond .ne 30, 3) := by decide +kernel
theorem dX6_see_14 : decode cX6_see 14 = .ok (.aload_n 0, 1) := by decide +kernel
theorem dX6_see_15 : decode cX6_see 15 = .ok (.getfield 35, 3) := by decide +kernel
theorem dX6_see_18 : decode cX6_see 18 = .ok (.iload_n 1, 1) := by decide +kernel
theorem dX6_see_19 : decode cX6_see 19 = .ok (.iconst 1, 1) := by decide +kernel
theorem dX6_see_20 : decode cX6_see 20 = .ok (.bastore, 1) := by decide +kernel
theorem dX6_see_21 : decode cX6_see 21 = .ok (.aload_n 0, 1) := by decide +kernel
theorem dX6_see_22 : decode cX6_see 22 = .ok (.getfield 44, 3) := by decide +kernel
theorem dX6_see_25 : decode cX6_see 25 = .ok (.aload_n 0, 1) := by decide +kernel
theorem dX6_see_26 : decode cX6_see 26 = .ok (.getfield 60, 3) := by decide +kernel
theorem dX6_see_29 : decode cX6_see 29 = .ok (.iload_n 1, 1) := by decide +kernel
theorem dX6_see_30 : decode cX6_see 30 = .ok (.iastore, 1) := by decide +kernel
theorem dX6_see_31 : decode cX6_see 31 = .ok (.aload_n 0, 1) := by decide +kernel
theorem dX6_see_32 : decode cX6_see 32 = .ok (.dup, 1) := by decide +kernel
theorem dX6_see_33 : decode cX6_see 33 = .ok (.getfield 60, 3) := by decide +kernel
theorem dX6_see_36 : decode cX6_see 36 = .ok (.iconst 1, 1) := by decide +kernel
theorem dX6_see_37 : decode cX6_see 37 = .ok (.iadd, 1) := by decide +kernel
theorem dX6_see_38 : decode cX6_see 38 = .ok (.putfield 60, 3) := by decide +kernel
theorem dX6_see_41 : decode cX6_see 41 = .ok (.return_, 1) := by decide +kernel
theorem dX6_start_0 : decode cX6_start 0 = .ok (.iconst 0, 1) := by decide +kernel
theorem dX6_start_1 : decode cX6_start 1 = .ok (.istore_n 1, 1) := by decide +kernel
theorem dX6_start_2 : decode cX6_start 2 = .ok (.iload_n 1, 1) := by decide +kernel
theorem dX6_start_3 : decode cX6_start 3 = .ok (.aload_n 0, 1) := by decide +kernel
theorem dX6_start_4 : decode cX6_start 4 = .ok (.getfield 57, 3) := by decide +kernel
theorem dX6_start_7 : decode cX6_start 7 = .ok (.if_icmp .ge 23, 3) := by decide +kernel
theorem dX6_start_10 : decode cX6_start 10 = .ok (.aload_n 0, 1) := by decide +kernel
theorem dX6_start_11 : decode cX6_start 11 = .ok (.getfield 35, 3) := by decide +kernel
theorem dX6_start_14 : decode cX6_start 14 = .ok (.iload_n 1, 1) := by decide +kernel
theorem dX6_start_15 : decode cX6_start 15 = .ok (.iconst 0, 1) := by decide +kernel
theorem dX6_start_16 : decode cX6_start 16 = .ok (.bastore, 1) := by decide +kernel
theorem dX6_start_17 : decode cX6_start 17 = .ok (.aload_n 0, 1) := by decide +kernel
theorem dX6_start_18 : decode cX6_start 18 = .ok (.getfield 38, 3) := by decide +kernel
theorem dX6_start_21 : decode cX6_start 21 = .ok (.iload_n 1, 1) := by decide +kernel
theorem dX6_start_22 : decode cX6_start 22 = .ok (.iconst 0, 1) := by decide +kernel
theorem dX6_start_23 : decode cX6_start 23 = .ok (.bastore, 1) := by decide +kernel
theorem dX6_start_24 : decode cX6_start 24 = .ok (.iinc 1 1, 3) := by decide +kernel
theorem dX6_start_27 : decode cX6_start 27 = .ok (.goto (-25), 3) := by decide +kernel
theorem dX6_start_30 : decode cX6_start 30 = .ok (.aload_n 0, 1) := by decide +kernel
theorem dX6_start_31 : decode cX6_start 31 = .ok (.iconst 0, 1) := by decide +kernel
theorem dX6_start_32 : decode cX6_start 32 = .ok (.putfield 63, 3) := by decide +kernel
theorem dX6_start_35 : decode cX6_start 35 = .ok (.aload_n 0, 1) := by decide +kernel
theorem dX6_start_36 : decode cX6_start 36 = .ok (.iconst 0, 1) := by decide +kernel
theorem dX6_start_37 : decode cX6_start 37 = .ok (.putfield 60, 3) := by decide +kernel
theorem dX6_start_40 : decode cX6_start 40 = .ok (.iconst 0, 1) := by decide +kernel
theorem dX6_start_41 : decode cX6_start 41 = .ok (.istore_n 1, 1) := by decide +kernel
theorem dX6_start_42 : decode cX6_start 42 = .ok (.iload_n 1, 1) := by decide +kernel
theorem dX6_start_43 : decode cX6_start 43 = .ok (.bipush 10, 2) := by decide +kernel
theorem dX6_start_45 : decode cX6_start 45 = .ok (.if_icmp .ge 19, 3) := by decide +kernel
theorem dX6_start_48 : decode cX6_start 48 = .ok (.aload_n 0, 1) := by decide +kernel
theorem dX6_start_49 : decode cX6_start 49 = .ok (.aload_n 0, 1) := by decide +kernel
theorem dX6_start_50 : decode cX6_start 50 = .ok (.getfield 41, 3) := by decide +kernel
theorem dX6_start_53 : decode cX6_start 53 = .ok (.iload_n 1, 1) := by decide +kernel
theorem dX6_start_54 : decode cX6_start 54 = .ok (.iaload, 1) := by decide +kernel
theorem dX6_start_55 : decode cX6_start 55 = .ok (.invokevirtual 66, 3) := by decide +kernel
theorem dX6_start_58 : decode cX6_start 58 = .ok (.iinc 1 1, 3) := by decide +kernel
theorem dX6_start_61 : decode cX6_start 61 = .ok (.goto (-19), 3) := by decide +kernel
theorem dX6_start_64 : decode cX6_start 64 = .ok (.aload_n 0, 1) := by decide +kernel
theorem dX6_start_65 : decode cX6_start 65 = .ok (.iconst 1, 1) := by decide +kernel
theorem dX6_start_66 : decode cX6_start 66 = .ok (.putfield 70, 3) := by decide +kernel
theorem dX6_start_69 : decode cX6_start 69 = .ok (.return_, 1) := by decide +kernel
theorem dX6_mark_0 : decode cX6_mark 0 = .ok (.aload_n 0, 1) := by decide +kernel
theorem dX6_mark_1 : decode cX6_mark 1 = .ok (.getfield 63, 3) := by decide +kernel
theorem dX6_mark_4 : decode cX6_mark 4 = .ok (.aload_n 0, 1) := by decide +kernel
theorem dX6_mark_5 : decode cX6_mark 5 = .ok (.getfield 60, 3) := by decide +kernel
theorem dX6_mark_8 : decode cX6_mark 8 = .ok (.if_icmp .ge 59, 3) := by decide +kernel
theorem dX6_mark_11 : decode cX6_mark 11 = .ok (.aload_n 0, 1) := by decide +kernel
theorem dX6_mark_12 : decode cX6_mark 12 = .ok (.getfield 44, 3) := by decide +kernel
theorem dX6_mark_15 : decode cX6_mark 15 = .ok (.aload_n 0, 1) := by decide +kernel
theorem dX6_mark_16 : decode cX6_mark 16 = .ok (.getfield 63, 3) := by decide +kernel
theorem dX6_mark_19 : decode cX6_mark 19 = .ok (.iaload, 1) := by decide +kernel
theorem dX6_mark_20 : decode cX6_mark 20 = .ok (.istore_n 1, 1) := by decide +kernel
theorem dX6_mark_21 : decode cX6_mark 21 = .ok (.aload_n 0, 1) := by decide +kernel
theorem dX6_mark_22 : decode cX6_mark 22 = .ok (.dup, 1) := by decide +kernel
theorem dX6_mark_23 : decode cX6_mark 23 = .ok (.getfield 63, 3) := by decide +kernel
theorem dX6_mark_26 : decode cX6_mark 26 = .ok (.iconst 1, 1) := by decide +kernel
theorem dX6_mark_27 : decode cX6_mark 27 = .ok (.iadd, 1) := by decide +kernel
theorem dX6_mark_28 : decode cX6_mark 28 = .ok (.putfield 63, 3) := by decide +kernel
theorem dX6_mark_31 : decode cX6_mark 31 = .ok (.iconst 0, 1) := by decide +kernel
theorem dX6_mark_32 : decode cX6_mark 32 = .ok (.istore_n 2, 1) := by decide +kernel
theorem dX6_mark_33 : decode cX6_mark 33 = .ok (.iload_n 2, 1) := by decide +kernel
theorem dX6_mark_34 : decode cX6_mark 34 = .ok (.aload_n 0, 1) := by decide +kernel
theorem dX6_mark_35 : decode cX6_mark 35 = .ok (.getfield 26, 3) := by decide +kernel
theorem dX6_mark_38 : decode cX6_mark 38 = .ok (.iload_n 1, 1) := by decide +kernel
theorem dX6_mark_39 : decode cX6_mark 39 = .ok (.iaload, 1) := by decide +kernel
theorem dX6_mark_40 : decode cX6_mark 40 = .ok (.iconst 2, 1) := by decide +kernel
theorem dX6_mark_41 : decode cX6_mark 41 = .ok (.isub, 1) := by decide +kernel
theorem dX6_mark_42 : decode cX6_mark 42 = .ok (.if_icmp .ge 24, 3) := by decide +kernel
theorem dX6_mark_45 : decode cX6_mark 45 = .ok (.aload_n 0, 1) := by decide +kernel
theorem dX6_mark_46 : decode cX6_mark 46 = .ok (.aload_n 0, 1) := by decide +kernel
theorem dX6_mark_47 : decode cX6_mark 47 = .ok (.getfield 32, 3) := by decide +kernel
theorem dX6_mark_50 : decode cX6_mark 50 = .ok (.bipush 21, 2) := by decide +kernel
theorem dX6_mark_52 : decode cX6_mark 52 = .ok (.iload_n 1, 1) := by decide +kernel
theorem dX6_mark_53 : decode cX6_mark 53 = .ok (.imul, 1) := by decide +kernel
theorem dX6_mark_54 : decode cX6_mark 54 = .ok (.iload_n 2, 1) := by decide +kernel
theorem dX6_mark_55 : decode cX6_mark 55 = .ok (.iadd, 1) := by decide +kernel
theorem dX6_mark_56 : decode cX6_mark 56 = .ok (.iaload, 1) := by decide +kernel
theorem dX6_mark_57 : decode cX6_mark 57 = .ok (.invokevirtual 66, 3) := by decide +kernel
theorem dX6_mark_60 : decode cX6_mark 60 = .ok (.iinc 2 1, 3) := by decide +kernel
theorem dX6_mark_63 : decode cX6_mark 63 = .ok (.goto (-30), 3) := by decide +kernel
theorem dX6_mark_66 : decode cX6_mark 66 = .ok (.return_, 1) := by decide +kernel
theorem dX6_mark_67 : decode cX6_mark 67 = .ok (.iconst 0, 1) := by decide +kernel
theorem dX6_mark_68 : decode cX6_mark 68 = .ok (.istore_n 1, 1) := by decide +kernel
theorem dX6_mark_69 : decode cX6_mark 69 = .ok (.iload_n 1, 1) := by decide +kernel
theorem dX6_mark_70 : decode cX6_mark 70 = .ok (.aload_n 0, 1) := by decide +kernel
theorem dX6_mark_71 : decode cX6_mark 71 = .ok (.getfield 47, 3) := by decide +kernel
theorem dX6_mark_74 : decode cX6_mark 74 = .ok (.if_icmp .ge 61, 3) := by decide +kernel
theorem dX6_mark_77 : decode cX6_mark 77 = .ok (.aload_n 0, 1) := by decide +kernel
theorem dX6_mark_78 : decode cX6_mark 78 = .ok (.getfield 16, 3) := by decide +kernel
theorem dX6_mark_81 : decode cX6_mark 81 = .ok (.iload_n 1, 1) := by decide +kernel
theorem dX6_mark_82 : decode cX6_mark 82 = .ok (.iconst 0, 1) := by decide +kernel
theorem dX6_mark_83 : decode cX6_mark 83 = .ok (.bastore, 1) := by decide +kernel
theorem dX6_mark_84 : decode cX6_mark 84 = .ok (.aload_n 0, 1) := by decide +kernel
theorem dX6_mark_85 : decode cX6_mark 85 = .ok (.getfield 7, 3) := by decide +kernel
theorem dX6_mark_88 : decode cX6_mark 88 = .ok (.iload_n 1, 1) := by decide +kernel
theorem dX6_mark_89 : decode cX6_mark 89 = .ok (.aload_n 0, 1) := by decide +kernel
theorem dX6_mark_90 : decode cX6_mark 90 = .ok (.getfield 7, 3) := by decide +kernel
theorem dX6_mark_93 : decode cX6_mark 93 = .ok (.iload_n 1, 1) := by decide +kernel
theorem dX6_mark_94 : decode cX6_mark 94 = .ok (.iaload, 1) := by decide +kernel
theorem dX6_mark_95 : decode cX6_mark 95 = .ok (.iconst 3, 1) := by decide +kernel
theorem dX6_mark_96 : decode cX6_mark 96 = .ok (.if_icmp .ne 26, 3) := by decide +kernel
theorem dX6_mark_99 : decode cX6_mark 99 = .ok (.aload_n 0, 1) := by decide +kernel
theorem dX6_mark_100 : decode cX6_mark 100 = .ok (.getfield 13, 3) := by decide +kernel
theorem dX6_mark_103 : decode cX6_mark 103 = .ok (.iload_n 1, 1) := by decide +kernel
theorem dX6_mark_104 : decode cX6_mark 104 = .ok (.iaload, 1) := by decide +kernel
theorem dX6_mark_105 : decode cX6_mark 105 = .ok (.aload_n 0, 1) := by decide +kernel
theorem dX6_mark_106 : decode cX6_mark 106 = .ok (.iload_n 1, 1) := by decide +kernel
theorem dX6_mark_107 : decode cX6_mark 107 = .ok (.invokevirtual 73, 3) := by decide +kernel
theorem dX6_mark_110 : decode cX6_mark 110 = .ok (.isub, 1) := by decide +kernel
theorem dX6_mark_111 : decode cX6_mark 111 = .ok (.aload_n 0, 1) := by decide +kernel
theorem dX6_mark_112 : decode cX6_mark 112 = .ok (.getfield 51, 3) := by decide +kernel
theorem dX6_mark_115 : decode cX6_mark 115 = .ok (.if_icmp .le 7, 3) := by decide +kernel
theorem dX6_mark_118 : decode cX6_mark 118 = .ok (.iconst 4, 1) := by decide +kernel
theorem dX6_mark_119 : decode cX6_mark 119 = .ok (.goto 9, 3) := by decide +kernel
theorem dX6_mark_122 : decode cX6_mark 122 = .ok (.aload_n 0, 1) := by decide +kernel
theorem dX6_mark_123 : decode cX6_mark 123 = .ok (.getfield 7, 3) := by decide +kernel
theorem dX6_mark_126 : decode cX6_mark 126 = .ok (.iload_n 1, 1) := by decide +kernel
theorem dX6_mark_127 : decode cX6_mark 127 = .ok (.iaload, 1) := by decide +kernel
theorem dX6_mark_128 : decode cX6_mark 128 = .ok (.iastore, 1) := by decide +kernel
theorem dX6_mark_129 : decode cX6_mark 129 = .ok (.iinc 1 1, 3) := by decide +kernel
theorem dX6_mark_132 : decode cX6_mark 132 = .ok (.goto (-63), 3) := by decide +kernel
theorem dX6_mark_135 : decode cX6_mark 135 = .ok (.aload_n 0, 1) := by decide +kernel
theorem dX6_mark_136 : decode cX6_mark 136 = .ok (.iconst 2, 1) := by decide +kernel
theorem dX6_mark_137 : decode cX6_mark 137 = .ok (.putfield 70, 3) := by decide +kernel
theorem dX6_mark_140 : decode cX6_mark 140 = .ok (.return_, 1) := by decide +kernel
theorem dX6_isToMove_0 : decode cX6_isToMove 0 = .ok (.aload_n 0, 1) := by decide +kernel
theorem dX6_isToMove_1 : decode cX6_isToMove 1 = .ok (.getfield 35, 3) := by decide +kernel
theorem dX6_isToMove_4 : decode cX6_isToMove 4 = .ok (.iload_n 1, 1) := by decide +kernel
theorem dX6_isToMove_5 : decode cX6_isToMove 5 = .ok (.baload, 1) := by decide +kernel
theorem dX6_isToMove_6 : decode cX6_isToMove 6 = .ok (.ifCond .eq 31, 3) := by decide +kernel
theorem dX6_isToMove_9 : decode cX6_isToMove 9 = .ok (.aload_n 0, 1) := by decide +kernel
theorem dX6_isToMove_10 : decode cX6_isToMove 10 = .ok (.getfield 38, 3) := by decide +kernel
theorem dX6_isToMove_13 : decode cX6_isToMove 13 = .ok (.iload_n 1, 1) := by decide +kernel
theorem dX6_isToMove_14 : decode cX6_isToMove 14 = .ok (.baload, 1) := by decide +kernel
theorem dX6_isToMove_15 : decode cX6_isToMove 15 = .ok (.ifCond .ne 22, 3) := by decide +kernel
theorem dX6_isToMove_18 : decode cX6_isToMove 18 = .ok (.aload_n 0, 1) := by decide +kernel
theorem dX6_isToMove_19 : decode cX6_isToMove 19 = .ok (.getfield 7, 3) := by decide +kernel
theorem dX6_isToMove_22 : decode cX6_isToMove 22 = .ok (.aload_n 0, 1) := by decide +kernel
theorem dX6_isToMove_23 : decode cX6_isToMove 23 = .ok (.getfield 20, 3) := by decide +kernel
theorem dX6_isToMove_26 : decode cX6_isToMove 26 = .ok (.iload_n 1, 1) := by decide +kernel
theorem dX6_isToMove_27 : decode cX6_isToMove 27 = .ok (.iaload, 1) := by decide +kernel
theorem dX6_isToMove_28 : decode cX6_isToMove 28 = .ok (.iaload, 1) := by decide +kernel
theorem dX6_isToMove_29 : decode cX6_isToMove 29 = .ok (.iconst 4, 1) := by decide +kernel
theorem dX6_isToMove_30 : decode cX6_isToMove 30 = .ok (.if_icmp .ne 7, 3) := by decide +kernel
theorem dX6_isToMove_33 : decode cX6_isToMove 33 = .ok (.iconst 1, 1) := by decide +kernel
theorem dX6_isToMove_34 : decode cX6_isToMove 34 = .ok (.goto 4, 3) := by decide +kernel
theorem dX6_isToMove_37 : decode cX6_isToMove 37 = .ok (.iconst 0, 1) := by decide +kernel
theorem dX6_isToMove_38 : decode cX6_isToMove 38 = .ok (.ireturn, 1) := by decide +kernel
theorem dX6_carry_0 : decode cX6_carry 0 = .ok (.aload_n 0, 1) := by decide +kernel
theorem dX6_carry_1 : decode cX6_carry 1 = .ok (.iconst 2, 1) := by decide +kernel
theorem dX6_carry_2 : decode cX6_carry 2 = .ok (.invokevirtual 77, 3) := by decide +kernel
theorem dX6_carry_5 : decode cX6_carry 5 = .ok (.istore_n 2, 1) := by decide +kernel
theorem dX6_carry_6 : decode cX6_carry 6 = .ok (.iload_n 2, 1) := by decide +kernel
theorem dX6_carry_7 : decode cX6_carry 7 = .ok (.iconst (-1), 1) := by decide +kernel
theorem dX6_carry_8 : decode cX6_carry 8 = .ok (.if_icmp .eq 22, 3) := by decide +kernel
theorem dX6_carry_11 : decode cX6_carry 11 = .ok (.aload_n 0, 1) := by decide +kernel
theorem dX6_carry_12 : decode cX6_carry 12 = .ok (.getfield 13, 3) := by decide +kernel
theorem dX6_carry_15 : decode cX6_carry 15 = .ok (.iload_n 2, 1) := by decide +kernel
theorem dX6_carry_16 : decode cX6_carry 16 = .ok (.iaload, 1) := by decide +kernel
theorem dX6_carry_17 : decode cX6_carry 17 = .ok (.aload_n 0, 1) := by decide +kernel
theorem dX6_carry_18 : decode cX6_carry 18 = .ok (.getfield 26, 3) := by decide +kernel
theorem dX6_carry_21 : decode cX6_carry 21 = .ok (.iload_n 1, 1) := by decide +kernel
theorem dX6_carry_22 : decode cX6_carry 22 = .ok (.iaload, 1) := by decide +kernel
theorem dX6_carry_23 : decode cX6_carry 23 = .ok (.iadd, 1) := by decide +kernel
theorem dX6_carry_24 : decode cX6_carry 24 = .ok (.sipush 128, 3) := by decide +kernel
theorem dX6_carry_27 : decode cX6_carry 27 = .ok (.if_icmp .le 72, 3) := by decide +kernel
theorem dX6_carry_30 : decode cX6_carry 30 = .ok (.aload_n 0, 1) := by decide +kernel
theorem dX6_carry_31 : decode cX6_carry 31 = .ok (.iconst 0, 1) := by decide +kernel
theorem dX6_carry_32 : decode cX6_carry 32 = .ok (.invokevirtual 77, 3) := by decide +kernel
theorem dX6_carry_35 : decode cX6_carry 35 = .ok (.istore_n 3, 1) := by decide +kernel
theorem dX6_carry_36 : decode cX6_carry 36 = .ok (.iload_n 3, 1) := by decide +kernel
theorem dX6_carry_37 : decode cX6_carry 37 = .ok (.iconst (-1), 1) := by decide +kernel
theorem dX6_carry_38 : decode cX6_carry 38 = .ok (.if_icmp .ne 33, 3) := by decide +kernel
theorem dX6_carry_41 : decode cX6_carry 41 = .ok (.aload_n 0, 1) := by decide +kernel
theorem dX6_carry_42 : decode cX6_carry 42 = .ok (.getfield 38, 3) := by decide +kernel
theorem dX6_carry_45 : decode cX6_carry 45 = .ok (.iload_n 1, 1) := by decide +kernel
theorem dX6_carry_46 : decode cX6_carry 46 = .ok (.iconst 1, 1) := by decide +kernel
theorem dX6_carry_47 : decode cX6_carry 47 = .ok (.bastore, 1) := by decide +kernel
theorem dX6_carry_48 : decode cX6_carry 48 = .ok (.aload_n 0, 1) := by decide +kernel
theorem dX6_carry_49 : decode cX6_carry 49 = .ok (.getfield 16, 3) := by decide +kernel
theorem dX6_carry_52 : decode cX6_carry 52 = .ok (.aload_n 0, 1) := by decide +kernel
theorem dX6_carry_53 : decode cX6_carry 53 = .ok (.getfield 20, 3) := by decide +kernel
theorem dX6_carry_56 : decode cX6_carry 56 = .ok (.iload_n 1, 1) := by decide +kernel
theorem dX6_carry_57 : decode cX6_carry 57 = .ok (.iaload, 1) := by decide +kernel
theorem dX6_carry_58 : decode cX6_carry 58 = .ok (.iconst 1, 1) := by decide +kernel
theorem dX6_carry_59 : decode cX6_carry 59 = .ok (.bastore, 1) := by decide +kernel
theorem dX6_carry_60 : decode cX6_carry 60 = .ok (.aload_n 0, 1) := by decide +kernel
theorem dX6_carry_61 : decode cX6_carry 61 = .ok (.dup, 1) := by decide +kernel
theorem dX6_carry_62 : decode cX6_carry 62 = .ok (.getfield 80, 3) := by decide +kernel
theorem dX6_carry_65 : decode cX6_carry 65 = .ok (.iconst 1, 1) := by decide +kernel
theorem dX6_carry_66 : decode cX6_carry 66 = .ok (.iadd, 1) := by decide +kernel
theorem dX6_carry_67 : decode cX6_carry 67 = .ok (.putfield 80, 3) := by decide +kernel
theorem dX6_carry_70 : decode cX6_carry 70 = .ok (.return_, 1) := by decide +kernel
theorem dX6_carry_71 : decode cX6_carry 71 = .ok (.iload_n 2, 1) := by decide +kernel
theorem dX6_carry_72 : decode cX6_carry 72 = .ok (.iconst (-1), 1) := by decide +kernel
theorem dX6_carry_73 : decode cX6_carry 73 = .ok (.if_icmp .eq 10, 3) := by decide +kernel
theorem dX6_carry_76 : decode cX6_carry 76 = .ok (.aload_n 0, 1) := by decide +kernel
theorem dX6_carry_77 : decode cX6_carry 77 = .ok (.getfield 7, 3) := by decide +kernel
theorem dX6_carry_80 : decode cX6_carry 80 = .ok (.iload_n 2, 1) := by decide +kernel
theorem dX6_carry_81 : decode cX6_carry 81 = .ok (.iconst 3, 1) := by decide +kernel
theorem dX6_carry_82 : decode cX6_carry 82 = .ok (.iastore, 1) := by decide +kernel
theorem dX6_carry_83 : decode cX6_carry 83 = .ok (.aload_n 0, 1) := by decide +kernel
theorem dX6_carry_84 : decode cX6_carry 84 = .ok (.getfield 7, 3) := by decide +kernel
theorem dX6_carry_87 : decode cX6_carry 87 = .ok (.iload_n 3, 1) := by decide +kernel
theorem dX6_carry_88 : decode cX6_carry 88 = .ok (.iconst 2, 1) := by decide +kernel
theorem dX6_carry_89 : decode cX6_carry 89 = .ok (.iastore, 1) := by decide +kernel
theorem dX6_carry_90 : decode cX6_carry 90 = .ok (.aload_n 0, 1) := by decide +kernel
theorem dX6_carry_91 : decode cX6_carry 91 = .ok (.getfield 13, 3) := by decide +kernel
theorem dX6_carry_94 : decode cX6_carry 94 = .ok (.iload_n 3, 1) := by decide +kernel
theorem dX6_carry_95 : decode cX6_carry 95 = .ok (.iconst 0, 1) := by decide +kernel
theorem dX6_carry_96 : decode cX6_carry 96 = .ok (.iastore, 1) := by decide +kernel
theorem dX6_carry_97 : decode cX6_carry 97 = .ok (.iload_n 3, 1) := by decide +kernel
theorem dX6_carry_98 : decode cX6_carry 98 = .ok (.istore_n 2, 1) := by decide +kernel
theorem dX6_carry_99 : decode cX6_carry 99 = .ok (.aload_n 0, 1) := by decide +kernel
theorem dX6_carry_100 : decode cX6_carry 100 = .ok (.getfield 20, 3) := by decide +kernel
theorem dX6_carry_103 : decode cX6_carry 103 = .ok (.iload_n 1, 1) := by decide +kernel
theorem dX6_carry_104 : decode cX6_carry 104 = .ok (.iload_n 2, 1) := by decide +kernel
theorem dX6_carry_105 : decode cX6_carry 105 = .ok (.iastore, 1) := by decide +kernel
theorem dX6_carry_106 : decode cX6_carry 106 = .ok (.aload_n 0, 1) := by decide +kernel
theorem dX6_carry_107 : decode cX6_carry 107 = .ok (.getfield 23, 3) := by decide +kernel
theorem dX6_carry_110 : decode cX6_carry 110 = .ok (.iload_n 1, 1) := by decide +kernel
theorem dX6_carry_111 : decode cX6_carry 111 = .ok (.aload_n 0, 1) := by decide +kernel
theorem dX6_carry_112 : decode cX6_carry 112 = .ok (.getfield 13, 3) := by decide +kernel
theorem dX6_carry_115 : decode cX6_carry 115 = .ok (.iload_n 2, 1) := by decide +kernel
theorem dX6_carry_116 : decode cX6_carry 116 = .ok (.iaload, 1) := by decide +kernel
theorem dX6_carry_117 : decode cX6_carry 117 = .ok (.iastore, 1) := by decide +kernel
theorem dX6_carry_118 : decode cX6_carry 118 = .ok (.aload_n 0, 1) := by decide +kernel
theorem dX6_carry_119 : decode cX6_carry 119 = .ok (.getfield 13, 3) := by decide +kernel
theorem dX6_carry_122 : decode cX6_carry 122 = .ok (.iload_n 2, 1) := by decide +kernel
theorem dX6_carry_123 : decode cX6_carry 123 = .ok (.aload_n 0, 1) := by decide +kernel
theorem dX6_carry_124 : decode cX6_carry 124 = .ok (.getfield 13, 3) := by decide +kernel
theorem dX6_carry_127 : decode cX6_carry 127 = .ok (.iload_n 2, 1) := by decide +kernel
theorem dX6_carry_128 : decode cX6_carry 128 = .ok (.iaload, 1) := by decide +kernel
theorem dX6_carry_129 : decode cX6_carry 129 = .ok (.aload_n 0, 1) := by decide +kernel
theorem dX6_carry_130 : decode cX6_carry 130 = .ok (.getfield 26, 3) := by decide +kernel
theorem dX6_carry_133 : decode cX6_carry 133 = .ok (.iload_n 1, 1) := by decide +kernel
theorem dX6_carry_134 : decode cX6_carry 134 = .ok (.iaload, 1) := by decide +kernel
theorem dX6_carry_135 : decode cX6_carry 135 = .ok (.iadd, 1) := by decide +kernel
theorem dX6_carry_136 : decode cX6_carry 136 = .ok (.iastore, 1) := by decide +kernel
theorem dX6_carry_137 : decode cX6_carry 137 = .ok (.aload_n 0, 1) := by decide +kernel
theorem dX6_carry_138 : decode cX6_carry 138 = .ok (.dup, 1) := by decide +kernel
theorem dX6_carry_139 : decode cX6_carry 139 = .ok (.getfield 83, 3) := by decide +kernel
theorem dX6_carry_142 : decode cX6_carry 142 = .ok (.iconst 1, 1) := by decide +kernel
theorem dX6_carry_143 : decode cX6_carry 143 = .ok (.iadd, 1) := by decide +kernel
theorem dX6_carry_144 : decode cX6_carry 144 = .ok (.putfield 83, 3) := by decide +kernel
theorem dX6_carry_147 : decode cX6_carry 147 = .ok (.return_, 1) := by decide +kernel
theorem dX6_moveOne_0 : decode cX6_moveOne 0 = .ok (.iconst (-1), 1) := by decide +kernel
theorem dX6_moveOne_1 : decode cX6_moveOne 1 = .ok (.istore_n 1, 1) := by decide +kernel
theorem dX6_moveOne_2 : decode cX6_moveOne 2 = .ok (.iconst 0, 1) := by decide +kernel
theorem dX6_moveOne_3 : decode cX6_moveOne 3 = .ok (.istore_n 2, 1) := by decide +kernel
theorem dX6_moveOne_4 : decode cX6_moveOne 4 = .ok (.iload_n 2, 1) := by decide +kernel
theorem dX6_moveOne_5 : decode cX6_moveOne 5 = .ok (.aload_n 0, 1) := by decide +kernel
theorem dX6_moveOne_6 : decode cX6_moveOne 6 = .ok (.getfield 57, 3) := by decide +kernel
theorem dX6_moveOne_9 : decode cX6_moveOne 9 = .ok (.if_icmp .ge 41, 3) := by decide +kernel
theorem dX6_moveOne_12 : decode cX6_moveOne 12 = .ok (.aload_n 0, 1) := by decide +kernel
theorem dX6_moveOne_13 : decode cX6_moveOne 13 = .ok (.iload_n 2, 1) := by decide +kernel
theorem dX6_moveOne_14 : decode cX6_moveOne 14 = .ok (.invokevirtual 86, 3) := by decide +kernel
theorem dX6_moveOne_17 : decode cX6_moveOne 17 = .ok (.ifCond .eq 25, 3) := by decide +kernel
theorem dX6_moveOne_20 : decode cX6_moveOne 20 = .ok (.iload_n 1, 1) := by decide +kernel
theorem dX6_moveOne_21 : decode cX6_moveOne 21 = .ok (.iconst (-1), 1) := by decide +kernel
theorem dX6_moveOne_22 : decode cX6_moveOne 22 = .ok (.if_icmp .eq 16, 3) := by decide +kernel
theorem dX6_moveOne_25 : decode cX6_moveOne 25 = .ok (.aload_n 0, 1) := by decide +kernel
theorem dX6_moveOne_26 : decode cX6_moveOne 26 = .ok (.iload_n 2, 1) := by decide +kernel
theorem dX6_moveOne_27 : decode cX6_moveOne 27 = .ok (.invokevirtual 90, 3) := by decide +kernel
theorem dX6_moveOne_30 : decode cX6_moveOne 30 = .ok (.aload_n 0, 1) := by decide +kernel
theorem dX6_moveOne_31 : decode cX6_moveOne 31 = .ok (.iload_n 1, 1) := by decide +kernel
theorem dX6_moveOne_32 : decode cX6_moveOne 32 = .ok (.invokevirtual 90, 3) := by decide +kernel
theorem dX6_moveOne_35 : decode cX6_moveOne 35 = .ok (.if_icmp .ge 7, 3) := by decide +kernel
theorem dX6_moveOne_38 : decode cX6_moveOne 38 = .ok (.iload_n 2, 1) := by decide +kernel
theorem dX6_moveOne_39 : decode cX6_moveOne 39 = .ok (.goto 4, 3) := by decide +kernel
theorem dX6_moveOne_42 : decode cX6_moveOne 42 = .ok (.iload_n 1, 1) := by decide +kernel
theorem dX6_moveOne_43 : decode cX6_moveOne 43 = .ok (.istore_n 1, 1) := by decide +kernel
theorem dX6_moveOne_44 : decode cX6_moveOne 44 = .ok (.iinc 2 1, 3) := by decide +kernel
theorem dX6_moveOne_47 : decode cX6_moveOne 47 = .ok (.goto (-43), 3) := by decide +kernel
theorem dX6_moveOne_50 : decode cX6_moveOne 50 = .ok (.iload_n 1, 1) := by decide +kernel
theorem dX6_moveOne_51 : decode cX6_moveOne 51 = .ok (.iconst (-1), 1) := by decide +kernel
theorem dX6_moveOne_52 : decode cX6_moveOne 52 = .ok (.if_icmp .eq 11, 3) := by decide +kernel
theorem dX6_moveOne_55 : decode cX6_moveOne 55 = .ok (.aload_n 0, 1) := by decide +kernel
theorem dX6_moveOne_56 : decode cX6_moveOne 56 = .ok (.iload_n 1, 1) := by decide +kernel
theorem dX6_moveOne_57 : decode cX6_moveOne 57 = .ok (.invokevirtual 93, 3) := by decide +kernel
theorem dX6_moveOne_60 : decode cX6_moveOne 60 = .ok (.goto 13, 3) := by decide +kernel
theorem dX6_moveOne_63 : decode cX6_moveOne 63 = .ok (.aload_n 0, 1) := by decide +kernel
theorem dX6_moveOne_64 : decode cX6_moveOne 64 = .ok (.iconst 3, 1) := by decide +kernel
theorem dX6_moveOne_65 : decode cX6_moveOne 65 = .ok (.putfield 70, 3) := by decide +kernel
theorem dX6_moveOne_68 : decode cX6_moveOne 68 = .ok (.aload_n 0, 1) := by decide +kernel
theorem dX6_moveOne_69 : decode cX6_moveOne 69 = .ok (.iconst 0, 1) := by decide +kernel
theorem dX6_moveOne_70 : decode cX6_moveOne 70 = .ok (.putfield 96, 3) := by decide +kernel
theorem dX6_moveOne_73 : decode cX6_moveOne 73 = .ok (.return_, 1) := by decide +kernel
theorem dX6_update_0 : decode cX6_update 0 = .ok (.aload_n 0, 1) := by decide +kernel
theorem dX6_update_1 : decode cX6_update 1 = .ok (.dup, 1) := by decide +kernel
theorem dX6_update_2 : decode cX6_update 2 = .ok (.getfield 96, 3) := by decide +kernel
theorem dX6_update_5 : decode cX6_update 5 = .ok (.iconst 1, 1) := by decide +kernel
theorem dX6_update_6 : decode cX6_update 6 = .ok (.iadd, 1) := by decide +kernel
theorem dX6_update_7 : decode cX6_update 7 = .ok (.putfield 96, 3) := by decide +kernel
theorem dX6_update_10 : decode cX6_update 10 = .ok (.aload_n 0, 1) := by decide +kernel
theorem dX6_update_11 : decode cX6_update 11 = .ok (.getfield 96, 3) := by decide +kernel
theorem dX6_update_14 : decode cX6_update 14 = .ok (.aload_n 0, 1) := by decide +kernel
theorem dX6_update_15 : decode cX6_update 15 = .ok (.getfield 47, 3) := by decide +kernel
theorem dX6_update_18 : decode cX6_update 18 = .ok (.if_icmp .ge 4, 3) := by decide +kernel
theorem dX6_update_21 : decode cX6_update 21 = .ok (.return_, 1) := by decide +kernel
theorem dX6_update_22 : decode cX6_update 22 = .ok (.iconst 0, 1) := by decide +kernel
theorem dX6_update_23 : decode cX6_update 23 = .ok (.istore_n 1, 1) := by decide +kernel
theorem dX6_update_24 : decode cX6_update 24 = .ok (.iload_n 1, 1) := by decide +kernel
theorem dX6_update_25 : decode cX6_update 25 = .ok (.aload_n 0, 1) := by decide +kernel
theorem dX6_update_26 : decode cX6_update 26 = .ok (.getfield 47, 3) := by decide +kernel
theorem dX6_update_29 : decode cX6_update 29 = .ok (.if_icmp .ge 78, 3) := by decide +kernel
theorem dX6_update_32 : decode cX6_update 32 = .ok (.aload_n 0, 1) := by decide +kernel
theorem dX6_update_33 : decode cX6_update 33 = .ok (.getfield 7, 3) := by decide +kernel
theorem dX6_update_36 : decode cX6_update 36 = .ok (.iload_n 1, 1) := by decide +kernel
theorem dX6_update_37 : decode cX6_update 37 = .ok (.iaload, 1) := by decide +kernel
theorem dX6_update_38 : decode cX6_update 38 = .ok (.iconst 4, 1) := by decide +kernel
theorem dX6_update_39 : decode cX6_update 39 = .ok (.if_icmp .ne 26, 3) := by decide +kernel
theorem dX6_update_42 : decode cX6_update 42 = .ok (.aload_n 0, 1) := by decide +kernel
theorem dX6_update_43 : decode cX6_update 43 = .ok (.getfield 16, 3) := by decide +kernel
theorem dX6_update_46 : decode cX6_update 46 = .ok (.iload_n 1, 1) := by decide +kernel
theorem dX6_update_47 : decode cX6_update 47 = .ok (.baload, 1) := by decide +kernel
theorem dX6_update_48 : decode cX6_update 48 = .ok (.ifCond .ne 17, 3) := by decide +kernel
theorem dX6_update_51 : decode cX6_update 51 = .ok (.aload_n 0, 1) := by decide +kernel
theorem dX6_update_52 : decode cX6_update 52 = .ok (.getfield 7, 3) := by decide +kernel
theorem dX6_update_55 : decode cX6_update 55 = .ok (.iload_n 1, 1) := by decide +kernel
theorem dX6_update_56 : decode cX6_update 56 = .ok (.iconst 0, 1) := by decide +kernel
theorem dX6_update_57 : decode cX6_update 57 = .ok (.iastore, 1) := by decide +kernel
theorem dX6_update_58 : decode cX6_update 58 = .ok (.aload_n 0, 1) := by decide +kernel
theorem dX6_update_59 : decode cX6_update 59 = .ok (.getfield 13, 3) := by decide +kernel
theorem dX6_update_62 : decode cX6_update 62 = .ok (.iload_n 1, 1) := by decide +kernel
theorem dX6_update_63 : decode cX6_update 63 = .ok (.iconst 0, 1) := by decide +kernel
theorem dX6_update_64 : decode cX6_update 64 = .ok (.iastore, 1) := by decide +kernel
theorem dX6_update_65 : decode cX6_update 65 = .ok (.aload_n 0, 1) := by decide +kernel
theorem dX6_update_66 : decode cX6_update 66 = .ok (.getfield 7, 3) := by decide +kernel
theorem dX6_update_69 : decode cX6_update 69 = .ok (.iload_n 1, 1) := by decide +kernel
theorem dX6_update_70 : decode cX6_update 70 = .ok (.aload_n 0, 1) := by decide +kernel
theorem dX6_update_71 : decode cX6_update 71 = .ok (.getfield 7, 3) := by decide +kernel
theorem dX6_update_74 : decode cX6_update 74 = .ok (.iload_n 1, 1) := by decide +kernel
theorem dX6_update_75 : decode cX6_update 75 = .ok (.iaload, 1) := by decide +kernel
theorem dX6_update_76 : decode cX6_update 76 = .ok (.iconst 4, 1) := by decide +kernel
theorem dX6_update_77 : decode cX6_update 77 = .ok (.if_icmp .eq 13, 3) := by decide +kernel
theorem dX6_update_80 : decode cX6_update 80 = .ok (.aload_n 0, 1) := by decide +kernel
theorem dX6_update_81 : decode cX6_update 81 = .ok (.getfield 7, 3) := by decide +kernel
theorem dX6_update_84 : decode cX6_update 84 = .ok (.iload_n 1, 1) := by decide +kernel
theorem dX6_update_85 : decode cX6_update 85 = .ok (.iaload, 1) := by decide +kernel
theorem dX6_update_86 : decode cX6_update 86 = .ok (.iconst 2, 1) := by decide +kernel
theorem dX6_update_87 : decode cX6_update 87 = .ok (.if_icmp .ne 7, 3) := by decide +kernel
theorem dX6_update_90 : decode cX6_update 90 = .ok (.iconst 3, 1) := by decide +kernel
theorem dX6_update_91 : decode cX6_update 91 = .ok (.goto 9, 3) := by decide +kernel
theorem dX6_update_94 : decode cX6_update 94 = .ok (.aload_n 0, 1) := by decide +kernel
theorem dX6_update_95 : decode cX6_update 95 = .ok (.getfield 7, 3) := by decide +kernel
theorem dX6_update_98 : decode cX6_update 98 = .ok (.iload_n 1, 1) := by decide +kernel
theorem dX6_update_99 : decode cX6_update 99 = .ok (.iaload, 1) := by decide +kernel
theorem dX6_update_100 : decode cX6_update 100 = .ok (.iastore, 1) := by decide +kernel
theorem dX6_update_101 : decode cX6_update 101 = .ok (.iinc 1 1, 3) := by decide +kernel
theorem dX6_update_104 : decode cX6_update 104 = .ok (.goto (-80), 3) := by decide +kernel
theorem dX6_update_107 : decode cX6_update 107 = .ok (.aload_n 0, 1) := by decide +kernel
theorem dX6_update_108 : decode cX6_update 108 = .ok (.iconst 0, 1) := by decide +kernel
theorem dX6_update_109 : decode cX6_update 109 = .ok (.putfield 70, 3) := by decide +kernel
theorem dX6_update_112 : decode cX6_update 112 = .ok (.return_, 1) := by decide +kernel
theorem dX6_unit_0 : decode cX6_unit 0 = .ok (.aload_n 0, 1) := by decide +kernel
theorem dX6_unit_1 : decode cX6_unit 1 = .ok (.getfield 70, 3) := by decide +kernel
theorem dX6_unit_4 : decode cX6_unit 4 = .ok (.iconst 1, 1) := by decide +kernel
theorem dX6_unit_5 : decode cX6_unit 5 = .ok (.if_icmp .ne 10, 3) := by decide +kernel
theorem dX6_unit_8 : decode cX6_unit 8 = .ok (.aload_n 0, 1) := by decide +kernel
theorem dX6_unit_9 : decode cX6_unit 9 = .ok (.invokevirtual 99, 3) := by decide +kernel
theorem dX6_unit_12 : decode cX6_unit 12 = .ok (.goto 30, 3) := by decide +kernel
theorem dX6_unit_15 : decode cX6_unit 15 = .ok (.aload_n 0, 1) := by decide +kernel
theorem dX6_unit_16 : decode cX6_unit 16 = .ok (.getfield 70, 3) := by decide +kernel
theorem dX6_unit_19 : decode cX6_unit 19 = .ok (.iconst 2, 1) := by decide +kernel
theorem dX6_unit_20 : decode cX6_unit 20 = .ok (.if_icmp .ne 10, 3) := by decide +kernel
theorem dX6_unit_23 : decode cX6_unit 23 = .ok (.aload_n 0, 1) := by decide +kernel
theorem dX6_unit_24 : decode cX6_unit 24 = .ok (.invokevirtual 102, 3) := by decide +kernel
theorem dX6_unit_27 : decode cX6_unit 27 = .ok (.goto 15, 3) := by decide +kernel
theorem dX6_unit_30 : decode cX6_unit 30 = .ok (.aload_n 0, 1) := by decide +kernel
theorem dX6_unit_31 : decode cX6_unit 31 = .ok (.getfield 70, 3) := by decide +kernel
theorem dX6_unit_34 : decode cX6_unit 34 = .ok (.iconst 3, 1) := by decide +kernel
theorem dX6_unit_35 : decode cX6_unit 35 = .ok (.if_icmp .ne 7, 3) := by decide +kernel
theorem dX6_unit_38 : decode cX6_unit 38 = .ok (.aload_n 0, 1) := by decide +kernel
theorem dX6_unit_39 : decode cX6_unit 39 = .ok (.invokevirtual 105, 3) := by decide +kernel
theorem dX6_unit_42 : decode cX6_unit 42 = .ok (.return_, 1) := by decide +kernel
theorem dX6_finish_0 : decode cX6_finish 0 = .ok (.aload_n 0, 1) := by decide +kernel
theorem dX6_finish_1 : decode cX6_finish 1 = .ok (.getfield 70, 3) := by decide +kernel
theorem dX6_finish_4 : decode cX6_finish 4 = .ok (.ifCond .le 10, 3) := by decide +kernel
theorem dX6_finish_7 : decode cX6_finish 7 = .ok (.aload_n 0, 1) := by decide +kernel
theorem dX6_finish_8 : decode cX6_finish 8 = .ok (.invokevirtual 108, 3) := by decide +kernel
theorem dX6_finish_11 : decode cX6_finish 11 = .ok (.goto (-11), 3) := by decide +kernel
theorem dX6_finish_14 : decode cX6_finish 14 = .ok (.return_, 1) := by decide +kernel
theorem dX6_whole_0 : decode cX6_whole 0 = .ok (.aload_n 0, 1) := by decide +kernel
theorem dX6_whole_1 : decode cX6_whole 1 = .ok (.invokevirtual 111, 3) := by decide +kernel
theorem dX6_whole_4 : decode cX6_whole 4 = .ok (.aload_n 0, 1) := by decide +kernel
theorem dX6_whole_5 : decode cX6_whole 5 = .ok (.invokevirtual 114, 3) := by decide +kernel
theorem dX6_whole_8 : decode cX6_whole 8 = .ok (.aload_n 0, 1) := by decide +kernel
theorem dX6_whole_9 : decode cX6_whole 9 = .ok (.invokevirtual 111, 3) := by decide +kernel
theorem dX6_whole_12 : decode cX6_whole 12 = .ok (.return_, 1) := by decide +kernel
theorem dX6_hasActive_0 : decode cX6_hasActive 0 = .ok (.aload_n 0, 1) := by decide +kernel
theorem dX6_hasActive_1 : decode cX6_hasActive 1 = .ok (.iconst 1, 1) := by decide +kernel
theorem dX6_hasActive_2 : decode cX6_hasActive 2 = .ok (.invokevirtual 77, 3) := by decide +kernel
theorem dX6_hasActive_5 : decode cX6_hasActive 5 = .ok (.istore_n 2, 1) := by decide +kernel
theorem dX6_hasActive_6 : decode cX6_hasActive 6 = .ok (.iload_n 2, 1) := by decide +kernel
theorem dX6_hasActive_7 : decode cX6_hasActive 7 = .ok (.iconst (-1), 1) := by decide +kernel
theorem dX6_hasActive_8 : decode cX6_hasActive 8 = .ok (.if_icmp .eq 26, 3) := by decide +kernel
theorem dX6_hasActive_11 : decode cX6_hasActive 11 = .ok (.aload_n 0, 1) := by decide +kernel
theorem dX6_hasActive_12 : decode cX6_hasActive 12 = .ok (.getfield 13, 3) := by decide +kernel
theorem dX6_hasActive_15 : decode cX6_hasActive 15 = .ok (.iload_n 2, 1) := by decide +kernel
theorem dX6_hasActive_16 : decode cX6_hasActive 16 = .ok (.iaload, 1) := by decide +kernel
theorem dX6_hasActive_17 : decode cX6_hasActive 17 = .ok (.iload_n 1, 1) := by decide +kernel
theorem dX6_hasActive_18 : decode cX6_hasActive 18 = .ok (.iadd, 1) := by decide +kernel
theorem dX6_hasActive_19 : decode cX6_hasActive 19 = .ok (.sipush 128, 3) := by decide +kernel
theorem dX6_hasActive_22 : decode cX6_hasActive 22 = .ok (.if_icmp .le 12, 3) := by decide +kernel
theorem dX6_hasActive_25 : decode cX6_hasActive 25 = .ok (.aload_n 0, 1) := by decide +kernel
theorem dX6_hasActive_26 : decode cX6_hasActive 26 = .ok (.getfield 7, 3) := by decide +kernel
theorem dX6_hasActive_29 : decode cX6_hasActive 29 = .ok (.iload_n 2, 1) := by decide +kernel
theorem dX6_hasActive_30 : decode cX6_hasActive 30 = .ok (.iconst 3, 1) := by decide +kernel
theorem dX6_hasActive_31 : decode cX6_hasActive 31 = .ok (.iastore, 1) := by decide +kernel
theorem dX6_hasActive_32 : decode cX6_hasActive 32 = .ok (.iconst (-1), 1) := by decide +kernel
theorem dX6_hasActive_33 : decode cX6_hasActive 33 = .ok (.istore_n 2, 1) := by decide +kernel
theorem dX6_hasActive_34 : decode cX6_hasActive 34 = .ok (.iload_n 2, 1) := by decide +kernel
theorem dX6_hasActive_35 : decode cX6_hasActive 35 = .ok (.iconst (-1), 1) := by decide +kernel
theorem dX6_hasActive_36 : decode cX6_hasActive 36 = .ok (.if_icmp .ne 21, 3) := by decide +kernel
theorem dX6_hasActive_39 : decode cX6_hasActive 39 = .ok (.aload_n 0, 1) := by decide +kernel
theorem dX6_hasActive_40 : decode cX6_hasActive 40 = .ok (.iconst 0, 1) := by decide +kernel
theorem dX6_hasActive_41 : decode cX6_hasActive 41 = .ok (.invokevirtual 77, 3) := by decide +kernel
theorem dX6_hasActive_44 : decode cX6_hasActive 44 = .ok (.istore_n 2, 1) := by decide +kernel
theorem dX6_hasActive_45 : decode cX6_hasActive 45 = .ok (.iload_n 2, 1) := by decide +kernel
theorem dX6_hasActive_46 : decode cX6_hasActive 46 = .ok (.iconst (-1), 1) := by decide +kernel
theorem dX6_hasActive_47 : decode cX6_hasActive 47 = .ok (.if_icmp .eq 10, 3) := by decide +kernel
theorem dX6_hasActive_50 : decode cX6_hasActive 50 = .ok (.aload_n 0, 1) := by decide +kernel
theorem dX6_hasActive_51 : decode cX6_hasActive 51 = .ok (.getfield 7, 3) := by decide +kernel
theorem dX6_hasActive_54 : decode cX6_hasActive 54 = .ok (.iload_n 2, 1) := by decide +kernel
theorem dX6_hasActive_55 : decode cX6_hasActive 55 = .ok (.iconst 1, 1) := by decide +kernel
theorem dX6_hasActive_56 : decode cX6_hasActive 56 = .ok (.iastore, 1) := by decide +kernel
theorem dX6_hasActive_57 : decode cX6_hasActive 57 = .ok (.iload_n 2, 1) := by decide +kernel
theorem dX6_hasActive_58 : decode cX6_hasActive 58 = .ok (.iconst (-1), 1) := by decide +kernel
theorem dX6_hasActive_59 : decode cX6_hasActive 59 = .ok (.if_icmp .eq 7, 3) := by decide +kernel
theorem dX6_hasActive_62 : decode cX6_hasActive 62 = .ok (.iconst 1, 1) := by decide +kernel
theorem dX6_hasActive_63 : decode cX6_hasActive 63 = .ok (.goto 4, 3) := by decide +kernel
theorem dX6_hasActive_66 : decode cX6_hasActive 66 = .ok (.iconst 0, 1) := by decide +kernel
theorem dX6_hasActive_67 : decode cX6_hasActive 67 = .ok (.ireturn, 1) := by decide +kernel
theorem dX6_alloc_0 : decode cX6_alloc 0 = .ok (.aload_n 0, 1) := by decide +kernel
theorem dX6_alloc_1 : decode cX6_alloc 1 = .ok (.iload_n 1, 1) := by decide +kernel
theorem dX6_alloc_2 : decode cX6_alloc 2 = .ok (.invokestatic 117, 3) := by decide +kernel
theorem dX6_alloc_5 : decode cX6_alloc 5 = .ok (.iload_n 2, 1) := by decide +kernel
theorem dX6_alloc_6 : decode cX6_alloc 6 = .ok (.ifCond .lt 13, 3) := by decide +kernel
theorem dX6_alloc_9 : decode cX6_alloc 9 = .ok (.iload_n 2, 1) := by decide +kernel
theorem dX6_alloc_10 : decode cX6_alloc 10 = .ok (.bipush 20, 2) := by decide +kernel
theorem dX6_alloc_12 : decode cX6_alloc 12 = .ok (.if_icmp .gt 7, 3) := by decide +kernel
theorem dX6_alloc_15 : decode cX6_alloc 15 = .ok (.iconst 1, 1) := by decide +kernel
theorem dX6_alloc_16 : decode cX6_alloc 16 = .ok (.goto 4, 3) := by decide +kernel
theorem dX6_alloc_19 : decode cX6_alloc 19 = .ok (.iconst 0, 1) := by decide +kernel
theorem dX6_alloc_20 : decode cX6_alloc 20 = .ok (.invokevirtual 120, 3) := by decide +kernel
theorem dX6_alloc_23 : decode cX6_alloc 23 = .ok (.ifCond .ne 5, 3) := by decide +kernel
theorem dX6_alloc_26 : decode cX6_alloc 26 = .ok (.iconst 0, 1) := by decide +kernel
theorem dX6_alloc_27 : decode cX6_alloc 27 = .ok (.ireturn, 1) := by decide +kernel
theorem dX6_alloc_28 : decode cX6_alloc 28 = .ok (.aload_n 0, 1) := by decide +kernel
theorem dX6_alloc_29 : decode cX6_alloc 29 = .ok (.iload_n 2, 1) := by decide +kernel
theorem dX6_alloc_30 : decode cX6_alloc 30 = .ok (.iconst 2, 1) := by decide +kernel
theorem dX6_alloc_31 : decode cX6_alloc 31 = .ok (.iadd, 1) := by decide +kernel
theorem dX6_alloc_32 : decode cX6_alloc 32 = .ok (.invokevirtual 124, 3) := by decide +kernel
theorem dX6_alloc_35 : decode cX6_alloc 35 = .ok (.ifCond .ne 19, 3) := by decide +kernel
theorem dX6_alloc_38 : decode cX6_alloc 38 = .ok (.aload_n 0, 1) := by decide +kernel
theorem dX6_alloc_39 : decode cX6_alloc 39 = .ok (.invokevirtual 127, 3) := by decide +kernel
theorem dX6_alloc_42 : decode cX6_alloc 42 = .ok (.aload_n 0, 1) := by decide +kernel
theorem dX6_alloc_43 : decode cX6_alloc 43 = .ok (.iload_n 2, 1) := by decide +kernel
theorem dX6_alloc_44 : decode cX6_alloc 44 = .ok (.iconst 2, 1) := by decide +kernel
theorem dX6_alloc_45 : decode cX6_alloc 45 = .ok (.iadd, 1) := by decide +kernel
theorem dX6_alloc_46 : decode cX6_alloc 46 = .ok (.invokevirtual 124, 3) := by decide +kernel
theorem dX6_alloc_49 : decode cX6_alloc 49 = .ok (.ifCond .ne 5, 3) := by decide +kernel
theorem dX6_alloc_52 : decode cX6_alloc 52 = .ok (.iconst (-1), 1) := by decide +kernel
theorem dX6_alloc_53 : decode cX6_alloc 53 = .ok (.ireturn, 1) := by decide +kernel
theorem dX6_alloc_54 : decode cX6_alloc 54 = .ok (.aload_n 0, 1) := by decide +kernel
theorem dX6_alloc_55 : decode cX6_alloc 55 = .ok (.iconst 1, 1) := by decide +kernel
theorem dX6_alloc_56 : decode cX6_alloc 56 = .ok (.invokevirtual 77, 3) := by decide +kernel
theorem dX6_alloc_59 : decode cX6_alloc 59 = .ok (.istore 4, 2) := by decide +kernel
theorem dX6_alloc_61 : decode cX6_alloc 61 = .ok (.aload_n 0, 1) := by decide +kernel
theorem dX6_alloc_62 : decode cX6_alloc 62 = .ok (.getfield 57, 3) := by decide +kernel
theorem dX6_alloc_65 : decode cX6_alloc 65 = .ok (.istore 5, 2) := by decide +kernel
theorem dX6_alloc_67 : decode cX6_alloc 67 = .ok (.aload_n 0, 1) := by decide +kernel
theorem dX6_alloc_68 : decode cX6_alloc 68 = .ok (.dup, 1) := by decide +kernel
theorem dX6_alloc_69 : decode cX6_alloc 69 = .ok (.getfield 57, 3) := by decide +kernel
theorem dX6_alloc_72 : decode cX6_alloc 72 = .ok (.iconst 1, 1) := by decide +kernel
theorem dX6_alloc_73 : decode cX6_alloc 73 = .ok (.iadd, 1) := by decide +kernel
theorem dX6_alloc_74 : decode cX6_alloc 74 = .ok (.putfield 57, 3) := by decide +kernel
theorem dX6_alloc_77 : decode cX6_alloc 77 = .ok (.aload_n 0, 1) := by decide +kernel
theorem dX6_alloc_78 : decode cX6_alloc 78 = .ok (.getfield 20, 3) := by decide +kernel
theorem dX6_alloc_81 : decode cX6_alloc 81 = .ok (.iload 5, 2) := by decide +kernel
theorem dX6_alloc_83 : decode cX6_alloc 83 = .ok (.iload 4, 2) := by decide +kernel
theorem dX6_alloc_85 : decode cX6_alloc 85 = .ok (.iastore, 1) := by decide +kernel
theorem dX6_alloc_86 : decode cX6_alloc 86 = .ok (.aload_n 0, 1) := by decide +kernel
theorem dX6_alloc_87 : decode cX6_alloc 87 = .ok (.getfield 23, 3) := by decide +kernel
theorem dX6_alloc_90 : decode cX6_alloc 90 = .ok (.iload 5, 2) := by decide +kernel
theorem dX6_alloc_92 : decode cX6_alloc 92 = .ok (.aload_n 0, 1) := by decide +kernel
theorem dX6_alloc_93 : decode cX6_alloc 93 = .ok (.getfield 13, 3) := by decide +kernel
theorem dX6_alloc_96 : decode cX6_alloc 96 = .ok (.iload 4, 2) := by decide +kernel
theorem dX6_alloc_98 : decode cX6_alloc 98 = .ok (.iaload, 1) := by decide +kernel
theorem dX6_alloc_99 : decode cX6_alloc 99 = .ok (.iastore, 1) := by decide +kernel
theorem dX6_alloc_100 : decode cX6_alloc 100 = .ok (.aload_n 0, 1) := by decide +kernel
theorem dX6_alloc_101 : decode cX6_alloc 101 = .ok (.getfield 26, 3) := by decide +kernel
theorem dX6_alloc_104 : decode cX6_alloc 104 = .ok (.iload 5, 2) := by decide +kernel
theorem dX6_alloc_106 : decode cX6_alloc 106 = .ok (.iload_n 2, 1) := by decide +kernel
theorem dX6_alloc_107 : decode cX6_alloc 107 = .ok (.iconst 2, 1) := by decide +kernel
theorem dX6_alloc_108 : decode cX6_alloc 108 = .ok (.iadd, 1) := by decide +kernel
theorem dX6_alloc_109 : decode cX6_alloc 109 = .ok (.iastore, 1) := by decide +kernel
theorem dX6_alloc_110 : decode cX6_alloc 110 = .ok (.aload_n 0, 1) := by decide +kernel
theorem dX6_alloc_111 : decode cX6_alloc 111 = .ok (.getfield 13, 3) := by decide +kernel
theorem dX6_alloc_114 : decode cX6_alloc 114 = .ok (.iload 4, 2) := by decide +kernel
theorem dX6_alloc_116 : decode cX6_alloc 116 = .ok (.aload_n 0, 1) := by decide +kernel
theorem dX6_alloc_117 : decode cX6_alloc 117 = .ok (.getfield 13, 3) := by decide +kernel
theorem dX6_alloc_120 : decode cX6_alloc 120 = .ok (.iload 4, 2) := by decide +kernel
theorem dX6_alloc_122 : decode cX6_alloc 122 = .ok (.iaload, 1) := by decide +kernel
theorem dX6_alloc_123 : decode cX6_alloc 123 = .ok (.aload_n 0, 1) := by decide +kernel
theorem dX6_alloc_124 : decode cX6_alloc 124 = .ok (.getfield 26, 3) := by decide +kernel
theorem dX6_alloc_127 : decode cX6_alloc 127 = .ok (.iload 5, 2) := by decide +kernel
theorem dX6_alloc_129 : decode cX6_alloc 129 = .ok (.iaload, 1) := by decide +kernel
theorem dX6_alloc_130 : decode cX6_alloc 130 = .ok (.iadd, 1) := by decide +kernel
theorem dX6_alloc_131 : decode cX6_alloc 131 = .ok (.iastore, 1) := by decide +kernel
theorem dX6_alloc_132 : decode cX6_alloc 132 = .ok (.aload_n 0, 1) := by decide +kernel
theorem dX6_alloc_133 : decode cX6_alloc 133 = .ok (.getfield 29, 3) := by decide +kernel
theorem dX6_alloc_136 : decode cX6_alloc 136 = .ok (.iload 5, 2) := by decide +kernel
theorem dX6_alloc_138 : decode cX6_alloc 138 = .ok (.iload_n 3, 1) := by decide +kernel
theorem dX6_alloc_139 : decode cX6_alloc 139 = .ok (.iastore, 1) := by decide +kernel
theorem dX6_alloc_140 : decode cX6_alloc 140 = .ok (.iconst 0, 1) := by decide +kernel
theorem dX6_alloc_141 : decode cX6_alloc 141 = .ok (.istore 6, 2) := by decide +kernel
theorem dX6_alloc_143 : decode cX6_alloc 143 = .ok (.iload 6, 2) := by decide +kernel
theorem dX6_alloc_145 : decode cX6_alloc 145 = .ok (.iload_n 2, 1) := by decide +kernel
theorem dX6_alloc_146 : decode cX6_alloc 146 = .ok (.if_icmp .ge 23, 3) := by decide +kernel
theorem dX6_alloc_149 : decode cX6_alloc 149 = .ok (.aload_n 0, 1) := by decide +kernel
theorem dX6_alloc_150 : decode cX6_alloc 150 = .ok (.getfield 32, 3) := by decide +kernel
theorem dX6_alloc_153 : decode cX6_alloc 153 = .ok (.bipush 21, 2) := by decide +kernel
theorem dX6_alloc_155 : decode cX6_alloc 155 = .ok (.iload 5, 2) := by decide +kernel
theorem dX6_alloc_157 : decode cX6_alloc 157 = .ok (.imul, 1) := by decide +kernel
theorem dX6_alloc_158 : decode cX6_alloc 158 = .ok (.iload 6, 2) := by decide +kernel
theorem dX6_alloc_160 : decode cX6_alloc 160 = .ok (.iadd, 1) := by decide +kernel
theorem dX6_alloc_161 : decode cX6_alloc 161 = .ok (.iconst (-1), 1) := by decide +kernel
theorem dX6_alloc_162 : decode cX6_alloc 162 = .ok (.iastore, 1) := by decide +kernel
theorem dX6_alloc_163 : decode cX6_alloc 163 = .ok (.iinc 6 1, 3) := by decide +kernel
theorem dX6_alloc_166 : decode cX6_alloc 166 = .ok (.goto (-23), 3) := by decide +kernel
theorem dX6_alloc_169 : decode cX6_alloc 169 = .ok (.aload_n 0, 1) := by decide +kernel
theorem dX6_alloc_170 : decode cX6_alloc 170 = .ok (.getfield 35, 3) := by decide +kernel
theorem dX6_alloc_173 : decode cX6_alloc 173 = .ok (.iload 5, 2) := by decide +kernel
theorem dX6_alloc_175 : decode cX6_alloc 175 = .ok (.aload_n 0, 1) := by decide +kernel
theorem dX6_alloc_176 : decode cX6_alloc 176 = .ok (.getfield 70, 3) := by decide +kernel
theorem dX6_alloc_179 : decode cX6_alloc 179 = .ok (.ifCond .le 7, 3) := by decide +kernel
theorem dX6_alloc_182 : decode cX6_alloc 182 = .ok (.iconst 1, 1) := by decide +kernel
theorem dX6_alloc_183 : decode cX6_alloc 183 = .ok (.goto 4, 3) := by decide +kernel
theorem dX6_alloc_186 : decode cX6_alloc 186 = .ok (.iconst 0, 1) := by decide +kernel
theorem dX6_alloc_187 : decode cX6_alloc 187 = .ok (.bastore, 1) := by decide +kernel
theorem dX6_alloc_188 : decode cX6_alloc 188 = .ok (.aload_n 0, 1) := by decide +kernel
theorem dX6_alloc_189 : decode cX6_alloc 189 = .ok (.getfield 38, 3) := by decide +kernel
theorem dX6_alloc_192 : decode cX6_alloc 192 = .ok (.iload 5, 2) := by decide +kernel
theorem dX6_alloc_194 : decode cX6_alloc 194 = .ok (.iconst 0, 1) := by decide +kernel
theorem dX6_alloc_195 : decode cX6_alloc 195 = .ok (.bastore, 1) := by decide +kernel
theorem dX6_alloc_196 : decode cX6_alloc 196 = .ok (.aload_n 0, 1) := by decide +kernel
theorem dX6_alloc_197 : decode cX6_alloc 197 = .ok (.getfield 41, 3) := by decide +kernel
theorem dX6_alloc_200 : decode cX6_alloc 200 = .ok (.iload_n 1, 1) := by decide +kernel
theorem dX6_alloc_201 : decode cX6_alloc 201 = .ok (.iload 5, 2) := by decide +kernel
theorem dX6_alloc_203 : decode cX6_alloc 203 = .ok (.iastore, 1) := by decide +kernel
theorem dX6_alloc_204 : decode cX6_alloc 204 = .ok (.aload_n 0, 1) := by decide +kernel
theorem dX6_alloc_205 : decode cX6_alloc 205 = .ok (.iload 5, 2) := by decide +kernel
theorem dX6_alloc_207 : decode cX6_alloc 207 = .ok (.invokevirtual 90, 3) := by decide +kernel
theorem dX6_alloc_210 : decode cX6_alloc 210 = .ok (.ireturn, 1) := by decide +kernel
theorem dX6_move_0 : decode cX6_move 0 = .ok (.aload_n 0, 1) := by decide +kernel
theorem dX6_move_1 : decode cX6_move 1 = .ok (.iload_n 1, 1) := by decide +kernel
theorem dX6_move_2 : decode cX6_move 2 = .ok (.invokestatic 117, 3) := by decide +kernel
theorem dX6_move_5 : decode cX6_move 5 = .ok (.ifCond .eq 14, 3) := by decide +kernel
theorem dX6_move_8 : decode cX6_move 8 = .ok (.iload_n 2, 1) := by decide +kernel
theorem dX6_move_9 : decode cX6_move 9 = .ok (.invokestatic 117, 3) := by decide +kernel
theorem dX6_move_12 : decode cX6_move 12 = .ok (.ifCond .eq 7, 3) := by decide +kernel
theorem dX6_move_15 : decode cX6_move 15 = .ok (.iconst 1, 1) := by decide +kernel
theorem dX6_move_16 : decode cX6_move 16 = .ok (.goto 4, 3) := by decide +kernel
theorem dX6_move_19 : decode cX6_move 19 = .ok (.iconst 0, 1) := by decide +kernel
theorem dX6_move_20 : decode cX6_move 20 = .ok (.iconst 1, 1) := by decide +kernel
theorem dX6_move_21 : decode cX6_move 21 = .ok (.invokevirtual 120, 3) := by decide +kernel
theorem dX6_move_24 : decode cX6_move 24 = .ok (.ifCond .eq 15, 3) := by decide +kernel
theorem dX6_move_27 : decode cX6_move 27 = .ok (.aload_n 0, 1) := by decide +kernel
theorem dX6_move_28 : decode cX6_move 28 = .ok (.getfield 41, 3) := by decide +kernel
theorem dX6_move_31 : decode cX6_move 31 = .ok (.iload_n 1, 1) := by decide +kernel
theorem dX6_move_32 : decode cX6_move 32 = .ok (.aload_n 0, 1) := by decide +kernel
theorem dX6_move_33 : decode cX6_move 33 = .ok (.getfield 41, 3) := by decide +kernel
theorem dX6_move_36 : decode cX6_move 36 = .ok (.iload_n 2, 1) := by decide +kernel
theorem dX6_move_37 : decode cX6_move 37 = .ok (.iaload, 1) := by decide +kernel
theorem dX6_move_38 : decode cX6_move 38 = .ok (.iastore, 1) := by decide +kernel
theorem dX6_move_39 : decode cX6_move 39 = .ok (.return_, 1) := by decide +kernel
theorem dX6_drop_0 : decode cX6_drop 0 = .ok (.aload_n 0, 1) := by decide +kernel
theorem dX6_drop_1 : decode cX6_drop 1 = .ok (.iload_n 1, 1) := by decide +kernel
theorem dX6_drop_2 : decode cX6_drop 2 = .ok (.invokestatic 117, 3) := by decide +kernel
theorem dX6_drop_5 : decode cX6_drop 5 = .ok (.iconst 1, 1) := by decide +kernel
theorem dX6_drop_6 : decode cX6_drop 6 = .ok (.invokevirtual 120, 3) := by decide +kernel
theorem dX6_drop_9 : decode cX6_drop 9 = .ok (.ifCond .ne 5, 3) := by decide +kernel
theorem dX6_drop_12 : decode cX6_drop 12 = .ok (.iconst 0, 1) := by decide +kernel
theorem dX6_drop_13 : decode cX6_drop 13 = .ok (.ireturn, 1) := by decide +kernel
theorem dX6_drop_14 : decode cX6_drop 14 = .ok (.aload_n 0, 1) := by decide +kernel
theorem dX6_drop_15 : decode cX6_drop 15 = .ok (.getfield 41, 3) := by decide +kernel
theorem dX6_drop_18 : decode cX6_drop 18 = .ok (.iload_n 1, 1) := by decide +kernel
theorem dX6_drop_19 : decode cX6_drop 19 = .ok (.iaload, 1) := by decide +kernel
theorem dX6_drop_20 : decode cX6_drop 20 = .ok (.iconst (-1), 1) := by decide +kernel
theorem dX6_drop_21 : decode cX6_drop 21 = .ok (.if_icmp .eq 7, 3) := by decide +kernel
theorem dX6_drop_24 : decode cX6_drop 24 = .ok (.iconst 1, 1) := by decide +kernel
theorem dX6_drop_25 : decode cX6_drop 25 = .ok (.goto 4, 3) := by decide +kernel
theorem dX6_drop_28 : decode cX6_drop 28 = .ok (.iconst 0, 1) := by decide +kernel
theorem dX6_drop_29 : decode cX6_drop 29 = .ok (.istore_n 2, 1) := by decide +kernel
theorem dX6_drop_30 : decode cX6_drop 30 = .ok (.aload_n 0, 1) := by decide +kernel
theorem dX6_drop_31 : decode cX6_drop 31 = .ok (.getfield 41, 3) := by decide +kernel
theorem dX6_drop_34 : decode cX6_drop 34 = .ok (.iload_n 1, 1) := by decide +kernel
theorem dX6_drop_35 : decode cX6_drop 35 = .ok (.iconst (-1), 1) := by decide +kernel
theorem dX6_drop_36 : decode cX6_drop 36 = .ok (.iastore, 1) := by decide +kernel
theorem dX6_drop_37 : decode cX6_drop 37 = .ok (.iload_n 2, 1) := by decide +kernel
theorem dX6_drop_38 : decode cX6_drop 38 = .ok (.ireturn, 1) := by decide +kernel
theorem dX6_tagOf_0 : decode cX6_tagOf 0 = .ok (.iload_n 1, 1) := by decide +kernel
theorem dX6_tagOf_1 : decode cX6_tagOf 1 = .ok (.iconst (-1), 1) := by decide +kernel
theorem dX6_tagOf_2 : decode cX6_tagOf 2 = .ok (.if_icmp .ne 7, 3) := by decide +kernel
theorem dX6_tagOf_5 : decode cX6_tagOf 5 = .ok (.iconst 0, 1) := by decide +kernel
theorem dX6_tagOf_6 : decode cX6_tagOf 6 = .ok (.goto 9, 3) := by decide +kernel
theorem dX6_tagOf_9 : decode cX6_tagOf 9 = .ok (.aload_n 0, 1) := by decide +kernel
theorem dX6_tagOf_10 : decode cX6_tagOf 10 = .ok (.getfield 29, 3) := by decide +kernel
theorem dX6_tagOf_13 : decode cX6_tagOf 13 = .ok (.iload_n 1, 1) := by decide +kernel
theorem dX6_tagOf_14 : decode cX6_tagOf 14 = .ok (.iaload, 1) := by decide +kernel
theorem dX6_tagOf_15 : decode cX6_tagOf 15 = .ok (.ireturn, 1) := by decide +kernel
theorem dX6_hasField_0 : decode cX6_hasField 0 = .ok (.aload_n 0, 1) := by decide +kernel
theorem dX6_hasField_1 : decode cX6_hasField 1 = .ok (.iload_n 1, 1) := by decide +kernel
theorem dX6_hasField_2 : decode cX6_hasField 2 = .ok (.invokestatic 117, 3) := by decide +kernel
theorem dX6_hasField_5 : decode cX6_hasField 5 = .ok (.ifCond .eq 14, 3) := by decide +kernel
theorem dX6_hasField_8 : decode cX6_hasField 8 = .ok (.iload_n 2, 1) := by decide +kernel
theorem dX6_hasField_9 : decode cX6_hasField 9 = .ok (.invokestatic 117, 3) := by decide +kernel
theorem dX6_hasField_12 : decode cX6_hasField 12 = .ok (.ifCond .eq 7, 3) := by decide +kernel
theorem dX6_hasField_15 : decode cX6_hasField 15 = .ok (.iconst 1, 1) := by decide +kernel
theorem dX6_hasField_16 : decode cX6_hasField 16 = .ok (.goto 4, 3) := by decide +kernel
theorem dX6_hasField_19 : decode cX6_hasField 19 = .ok (.iconst 0, 1) := by decide +kernel
theorem dX6_hasField_20 : decode cX6_hasField 20 = .ok (.iconst 1, 1) := by decide +kernel
theorem dX6_hasField_21 : decode cX6_hasField 21 = .ok (.invokevirtual 120, 3) := by decide +kernel
theorem dX6_hasField_24 : decode cX6_hasField 24 = .ok (.ifCond .eq 26, 3) := by decide +kernel
theorem dX6_hasField_27 : decode cX6_hasField 27 = .ok (.aload_n 0, 1) := by decide +kernel
theorem dX6_hasField_28 : decode cX6_hasField 28 = .ok (.iconst 1, 1) := by decide +kernel
theorem dX6_hasField_29 : decode cX6_hasField 29 = .ok (.aload_n 0, 1) := by decide +kernel
theorem dX6_hasField_30 : decode cX6_hasField 30 = .ok (.getfield 41, 3) := by decide +kernel
theorem dX6_hasField_33 : decode cX6_hasField 33 = .ok (.iload_n 3, 1) := by decide +kernel
theorem dX6_hasField_34 : decode cX6_hasField 34 = .ok (.iaload, 1) := by decide +kernel
theorem dX6_hasField_35 : decode cX6_hasField 35 = .ok (.iconst (-1), 1) := by decide +kernel
theorem dX6_hasField_36 : decode cX6_hasField 36 = .ok (.if_icmp .eq 7, 3) := by decide +kernel
theorem dX6_hasField_39 : decode cX6_hasField 39 = .ok (.iconst 1, 1) := by decide +kernel
theorem dX6_hasField_40 : decode cX6_hasField 40 = .ok (.goto 4, 3) := by decide +kernel
theorem dX6_hasField_43 : decode cX6_hasField 43 = .ok (.iconst 0, 1) := by decide +kernel
theorem dX6_hasField_44 : decode cX6_hasField 44 = .ok (.invokevirtual 120, 3) := by decide +kernel
theorem dX6_hasField_47 : decode cX6_hasField 47 = .ok (.ifCond .ne 5, 3) := by decide +kernel
theorem dX6_hasField_50 : decode cX6_hasField 50 = .ok (.iconst 0, 1) := by decide +kernel
theorem dX6_hasField_51 : decode cX6_hasField 51 = .ok (.ireturn, 1) := by decide +kernel
theorem dX6_hasField_52 : decode cX6_hasField 52 = .ok (.aload_n 0, 1) := by decide +kernel
theorem dX6_hasField_53 : decode cX6_hasField 53 = .ok (.iload 4, 2) := by decide +kernel
theorem dX6_hasField_55 : decode cX6_hasField 55 = .ok (.ifCond .lt 25, 3) := by decide +kernel
theorem dX6_hasField_58 : decode cX6_hasField 58 = .ok (.iload 4, 2) := by decide +kernel
theorem dX6_hasField_60 : decode cX6_hasField 60 = .ok (.aload_n 0, 1) := by decide +kernel
theorem dX6_hasField_61 : decode cX6_hasField 61 = .ok (.getfield 26, 3) := by decide +kernel
theorem dX6_hasField_64 : decode cX6_hasField 64 = .ok (.aload_n 0, 1) := by decide +kernel
theorem dX6_hasField_65 : decode cX6_hasField 65 = .ok (.getfield 41, 3) := by decide +kernel
theorem dX6_hasField_68 : decode cX6_hasField 68 = .ok (.iload_n 3, 1) := by decide +kernel
theorem dX6_hasField_69 : decode cX6_hasField 69 = .ok (.iaload, 1) := by decide +kernel
theorem dX6_hasField_70 : decode cX6_hasField 70 = .ok (.iaload, 1) := by decide +kernel
theorem dX6_hasField_71 : decode cX6_hasField 71 = .ok (.iconst 2, 1) := by decide +kernel
theorem dX6_hasField_72 : decode cX6_hasField 72 = .ok (.isub, 1) := by decide +kernel
theorem dX6_hasField_73 : decode cX6_hasField 73 = .ok (.if_icmp .ge 7, 3) := by decide +kernel
theorem dX6_hasField_76 : decode cX6_hasField 76 = .ok (.iconst 1, 1) := by decide +kernel
theorem dX6_hasField_77 : decode cX6_hasField 77 = .ok (.goto 4, 3) := by decide +kernel
theorem dX6_hasField_80 : decode cX6_hasField 80 = .ok (.iconst 0, 1) := by decide +kernel
theorem dX6_hasField_81 : decode cX6_hasField 81 = .ok (.iconst 1, 1) := by decide +kernel
theorem dX6_hasField_82 : decode cX6_hasField 82 = .ok (.invokevirtual 120, 3) := by decide +kernel
theorem dX6_hasField_85 : decode cX6_hasField 85 = .ok (.ireturn, 1) := by decide +kernel
theorem dX6_read_0 : decode cX6_read 0 = .ok (.aload_n 0, 1) := by decide +kernel
theorem dX6_read_1 : decode cX6_read 1 = .ok (.iload_n 1, 1) := by decide +kernel
theorem dX6_read_2 : decode cX6_read 2 = .ok (.iload_n 2, 1) := by decide +kernel
theorem dX6_read_3 : decode cX6_read 3 = .ok (.iload_n 2, 1) := by decide +kernel
theorem dX6_read_4 : decode cX6_read 4 = .ok (.iload_n 3, 1) := by decide +kernel
theorem dX6_read_5 : decode cX6_read 5 = .ok (.invokevirtual 130, 3) := by decide +kernel
theorem dX6_read_8 : decode cX6_read 8 = .ok (.ifCond .ne 5, 3) := by decide +kernel
theorem dX6_read_11 : decode cX6_read 11 = .ok (.iconst 0, 1) := by decide +kernel
theorem dX6_read_12 : decode cX6_read 12 = .ok (.ireturn, 1) := by decide +kernel
theorem dX6_read_13 : decode cX6_read 13 = .ok (.aload_n 0, 1) := by decide +kernel
theorem dX6_read_14 : decode cX6_read 14 = .ok (.getfield 41, 3) := by decide +kernel
theorem dX6_read_17 : decode cX6_read 17 = .ok (.iload_n 1, 1) := by decide +kernel
theorem dX6_read_18 : decode cX6_read 18 = .ok (.aload_n 0, 1) := by decide +kernel
theorem dX6_read_19 : decode cX6_read 19 = .ok (.getfield 32, 3) := by decide +kernel
theorem dX6_read_22 : decode cX6_read 22 = .ok (.bipush 21, 2) := by decide +kernel
theorem dX6_read_24 : decode cX6_read 24 = .ok (.aload_n 0, 1) := by decide +kernel
theorem dX6_read_25 : decode cX6_read 25 = .ok (.getfield 41, 3) := by decide +kernel
theorem dX6_read_28 : decode cX6_read 28 = .ok (.iload_n 2, 1) := by decide +kernel
theorem dX6_read_29 : decode cX6_read 29 = .ok (.iaload, 1) := by decide +kernel
theorem dX6_read_30 : decode cX6_read 30 = .ok (.imul, 1) := by decide +kernel
theorem dX6_read_31 : decode cX6_read 31 = .ok (.iload_n 3, 1) := by decide +kernel
theorem dX6_read_32 : decode cX6_read 32 = .ok (.iadd, 1) := by decide +kernel
theorem dX6_read_33 : decode cX6_read 33 = .ok (.iaload, 1) := by decide +kernel
theorem dX6_read_34 : decode cX6_read 34 = .ok (.iastore, 1) := by decide +kernel
theorem dX6_read_35 : decode cX6_read 35 = .ok (.aload_n 0, 1) := by decide +kernel
theorem dX6_read_36 : decode cX6_read 36 = .ok (.aload_n 0, 1) := by decide +kernel
theorem dX6_read_37 : decode cX6_read 37 = .ok (.getfield 41, 3) := by decide +kernel
theorem dX6_read_40 : decode cX6_read 40 = .ok (.iload_n 1, 1) := by decide +kernel
theorem dX6_read_41 : decode cX6_read 41 = .ok (.iaload, 1) := by decide +kernel
theorem dX6_read_42 : decode cX6_read 42 = .ok (.invokevirtual 134, 3) := by decide +kernel
theorem dX6_read_45 : decode cX6_read 45 = .ok (.ireturn, 1) := by decide +kernel
theorem dX6_write_0 : decode cX6_write 0 = .ok (.aload_n 0, 1) := by decide +kernel
theorem dX6_write_1 : decode cX6_write 1 = .ok (.iload_n 1, 1) := by decide +kernel
theorem dX6_write_2 : decode cX6_write 2 = .ok (.iload_n 3, 1) := by decide +kernel
theorem dX6_write_3 : decode cX6_write 3 = .ok (.iload_n 1, 1) := by decide +kernel
theorem dX6_write_4 : decode cX6_write 4 = .ok (.iload_n 2, 1) := by decide +kernel
theorem dX6_write_5 : decode cX6_write 5 = .ok (.invokevirtual 130, 3) := by decide +kernel
theorem dX6_write_8 : decode cX6_write 8 = .ok (.ifCond .ne 5, 3) := by decide +kernel
theorem dX6_write_11 : decode cX6_write 11 = .ok (.iconst 0, 1) := by decide +kernel
theorem dX6_write_12 : decode cX6_write 12 = .ok (.ireturn, 1) := by decide +kernel
theorem dX6_write_13 : decode cX6_write 13 = .ok (.aload_n 0, 1) := by decide +kernel
theorem dX6_write_14 : decode cX6_write 14 = .ok (.getfield 41, 3) := by decide +kernel
theorem dX6_write_17 : decode cX6_write 17 = .ok (.iload_n 1, 1) := by decide +kernel
theorem dX6_write_18 : decode cX6_write 18 = .ok (.iaload, 1) := by decide +kernel
theorem dX6_write_19 : decode cX6_write 19 = .ok (.istore 4, 2) := by decide +kernel
theorem dX6_write_21 : decode cX6_write 21 = .ok (.aload_n 0, 1) := by decide +kernel
theorem dX6_write_22 : decode cX6_write 22 = .ok (.getfield 32, 3) := by decide +kernel
theorem dX6_write_25 : decode cX6_write 25 = .ok (.bipush 21, 2) := by decide +kernel
theorem dX6_write_27 : decode cX6_write 27 = .ok (.iload 4, 2) := by decide +kernel
theorem dX6_write_29 : decode cX6_write 29 = .ok (.imul, 1) := by decide +kernel
theorem dX6_write_30 : decode cX6_write 30 = .ok (.iload_n 2, 1) := by decide +kernel
theorem dX6_write_31 : decode cX6_write 31 = .ok (.iadd, 1) := by decide +kernel
theorem dX6_write_32 : decode cX6_write 32 = .ok (.iaload, 1) := by decide +kernel
theorem dX6_write_33 : decode cX6_write 33 = .ok (.istore 5, 2) := by decide +kernel
theorem dX6_write_35 : decode cX6_write 35 = .ok (.aload_n 0, 1) := by decide +kernel
theorem dX6_write_36 : decode cX6_write 36 = .ok (.getfield 70, 3) := by decide +kernel
theorem dX6_write_39 : decode cX6_write 39 = .ok (.iconst 1, 1) := by decide +kernel
theorem dX6_write_40 : decode cX6_write 40 = .ok (.if_icmp .ne 9, 3) := by decide +kernel
theorem dX6_write_43 : decode cX6_write 43 = .ok (.aload_n 0, 1) := by decide +kernel
theorem dX6_write_44 : decode cX6_write 44 = .ok (.iload 5, 2) := by decide +kernel
theorem dX6_write_46 : decode cX6_write 46 = .ok (.invokevirtual 66, 3) := by decide +kernel
theorem dX6_write_49 : decode cX6_write 49 = .ok (.aload_n 0, 1) := by decide +kernel
theorem dX6_write_50 : decode cX6_write 50 = .ok (.getfield 70, 3) := by decide +kernel
theorem dX6_write_53 : decode cX6_write 53 = .ok (.iconst 2, 1) := by decide +kernel
theorem dX6_write_54 : decode cX6_write 54 = .ok (.if_icmp .ne 18, 3) := by decide +kernel
theorem dX6_write_57 : decode cX6_write 57 = .ok (.aload_n 0, 1) := by decide +kernel
theorem dX6_write_58 : decode cX6_write 58 = .ok (.iload 4, 2) := by decide +kernel
theorem dX6_write_60 : decode cX6_write 60 = .ok (.invokevirtual 86, 3) := by decide +kernel
theorem dX6_write_63 : decode cX6_write 63 = .ok (.ifCond .eq 9, 3) := by decide +kernel
theorem dX6_write_66 : decode cX6_write 66 = .ok (.aload_n 0, 1) := by decide +kernel
theorem dX6_write_67 : decode cX6_write 67 = .ok (.iload 4, 2) := by decide +kernel
theorem dX6_write_69 : decode cX6_write 69 = .ok (.invokevirtual 93, 3) := by decide +kernel
theorem dX6_write_72 : decode cX6_write 72 = .ok (.aload_n 0, 1) := by decide +kernel
theorem dX6_write_73 : decode cX6_write 73 = .ok (.getfield 32, 3) := by decide +kernel
theorem dX6_write_76 : decode cX6_write 76 = .ok (.bipush 21, 2) := by decide +kernel
theorem dX6_write_78 : decode cX6_write 78 = .ok (.iload 4, 2) := by decide +kernel
theorem dX6_write_80 : decode cX6_write 80 = .ok (.imul, 1) := by decide +kernel
theorem dX6_write_81 : decode cX6_write 81 = .ok (.iload_n 2, 1) := by decide +kernel
theorem dX6_write_82 : decode cX6_write 82 = .ok (.iadd, 1) := by decide +kernel
theorem dX6_write_83 : decode cX6_write 83 = .ok (.aload_n 0, 1) := by decide +kernel
theorem dX6_write_84 : decode cX6_write 84 = .ok (.getfield 41, 3) := by decide +kernel
theorem dX6_write_87 : decode cX6_write 87 = .ok (.iload_n 3, 1) := by decide +kernel
theorem dX6_write_88 : decode cX6_write 88 = .ok (.iaload, 1) := by decide +kernel
theorem dX6_write_89 : decode cX6_write 89 = .ok (.iastore, 1) := by decide +kernel
theorem dX6_write_90 : decode cX6_write 90 = .ok (.aload_n 0, 1) := by decide +kernel
theorem dX6_write_91 : decode cX6_write 91 = .ok (.iload 5, 2) := by decide +kernel
theorem dX6_write_93 : decode cX6_write 93 = .ok (.invokevirtual 134, 3) := by decide +kernel
theorem dX6_write_96 : decode cX6_write 96 = .ok (.ireturn, 1) := by decide +kernel
theorem dX6_tag_0 : decode cX6_tag 0 = .ok (.aload_n 0, 1) := by decide +kernel
theorem dX6_tag_1 : decode cX6_tag 1 = .ok (.iload_n 1, 1) := by decide +kernel
theorem dX6_tag_2 : decode cX6_tag 2 = .ok (.invokestatic 117, 3) := by decide +kernel
theorem dX6_tag_5 : decode cX6_tag 5 = .ok (.iload_n 1, 1) := by decide +kernel
theorem dX6_tag_6 : decode cX6_tag 6 = .ok (.invokestatic 117, 3) := by decide +kernel
theorem dX6_tag_9 : decode cX6_tag 9 = .ok (.ifCond .eq 13, 3) := by decide +kernel
theorem dX6_tag_12 : decode cX6_tag 12 = .ok (.aload_n 0, 1) := by decide +kernel
theorem dX6_tag_13 : decode cX6_tag 13 = .ok (.getfield 41, 3) := by decide +kernel
theorem dX6_tag_16 : decode cX6_tag 16 = .ok (.iload_n 1, 1) := by decide +kernel
theorem dX6_tag_17 : decode cX6_tag 17 = .ok (.iaload, 1) := by decide +kernel
theorem dX6_tag_18 : decode cX6_tag 18 = .ok (.iconst (-1), 1) := by decide +kernel
theorem dX6_tag_19 : decode cX6_tag 19 = .ok (.if_icmp .eq 7, 3) := by decide +kernel
theorem dX6_tag_22 : decode cX6_tag 22 = .ok (.iconst 1, 1) := by decide +kernel
theorem dX6_tag_23 : decode cX6_tag 23 = .ok (.goto 4, 3) := by decide +kernel
theorem dX6_tag_26 : decode cX6_tag 26 = .ok (.iconst 0, 1) := by decide +kernel
theorem dX6_tag_27 : decode cX6_tag 27 = .ok (.invokevirtual 120, 3) := by decide +kernel
theorem dX6_tag_30 : decode cX6_tag 30 = .ok (.ifCond .eq 17, 3) := by decide +kernel
theorem dX6_tag_33 : decode cX6_tag 33 = .ok (.aload_n 0, 1) := by decide +kernel
theorem dX6_tag_34 : decode cX6_tag 34 = .ok (.getfield 29, 3) := by decide +kernel
theorem dX6_tag_37 : decode cX6_tag 37 = .ok (.aload_n 0, 1) := by decide +kernel
theorem dX6_tag_38 : decode cX6_tag 38 = .ok (.getfield 41, 3) := by decide +kernel
theorem dX6_tag_41 : decode cX6_tag 41 = .ok (.iload_n 1, 1) := by decide +kernel
theorem dX6_tag_42 : decode cX6_tag 42 = .ok (.iaload, 1) := by decide +kernel
theorem dX6_tag_43 : decode cX6_tag 43 = .ok (.iaload, 1) := by decide +kernel
theorem dX6_tag_44 : decode cX6_tag 44 = .ok (.goto 4, 3) := by decide +kernel
theorem dX6_tag_47 : decode cX6_tag 47 = .ok (.iconst 0, 1) := by decide +kernel
theorem dX6_tag_48 : decode cX6_tag 48 = .ok (.ireturn, 1) := by decide +kernel
theorem dX6_same_0 : decode cX6_same 0 = .ok (.aload_n 0, 1) := by decide +kernel
theorem dX6_same_1 : decode cX6_same 1 = .ok (.iload_n 1, 1) := by decide +kernel
theorem dX6_same_2 : decode cX6_same 2 = .ok (.invokestatic 117, 3) := by decide +kernel
theorem dX6_same_5 : decode cX6_same 5 = .ok (.ifCond .eq 14, 3) := by decide +kernel
theorem dX6_same_8 : decode cX6_same 8 = .ok (.iload_n 2, 1) := by decide +kernel
theorem dX6_same_9 : decode cX6_same 9 = .ok (.invokestatic 117, 3) := by decide +kernel
theorem dX6_same_12 : decode cX6_same 12 = .ok (.ifCond .eq 7, 3) := by decide +kernel
theorem dX6_same_15 : decode cX6_same 15 = .ok (.iconst 1, 1) := by decide +kernel
theorem dX6_same_16 : decode cX6_same 16 = .ok (.goto 4, 3) := by decide +kernel
theorem dX6_same_19 : decode cX6_same 19 = .ok (.iconst 0, 1) := by decide +kernel
theorem dX6_same_20 : decode cX6_same 20 = .ok (.iconst 1, 1) := by decide +kernel
theorem dX6_same_21 : decode cX6_same 21 = .ok (.invokevirtual 120, 3) := by decide +kernel
theorem dX6_same_24 : decode cX6_same 24 = .ok (.ifCond .eq 22, 3) := by decide +kernel
theorem dX6_same_27 : decode cX6_same 27 = .ok (.aload_n 0, 1) := by decide +kernel
theorem dX6_same_28 : decode cX6_same 28 = .ok (.getfield 41, 3) := by decide +kernel
theorem dX6_same_31 : decode cX6_same 31 = .ok (.iload_n 1, 1) := by decide +kernel
theorem dX6_same_32 : decode cX6_same 32 = .ok (.iaload, 1) := by decide +kernel
theorem dX6_same_33 : decode cX6_same 33 = .ok (.aload_n 0, 1) := by decide +kernel
theorem dX6_same_34 : decode cX6_same 34 = .ok (.getfield 41, 3) := by decide +kernel
theorem dX6_same_37 : decode cX6_same 37 = .ok (.iload_n 2, 1) := by decide +kernel
theorem dX6_same_38 : decode cX6_same 38 = .ok (.iaload, 1) := by decide +kernel
theorem dX6_same_39 : decode cX6_same 39 = .ok (.if_icmp .ne 7, 3) := by decide +kernel
theorem dX6_same_42 : decode cX6_same 42 = .ok (.iconst 1, 1) := by decide +kernel
theorem dX6_same_43 : decode cX6_same 43 = .ok (.goto 4, 3) := by decide +kernel
theorem dX6_same_46 : decode cX6_same 46 = .ok (.iconst 0, 1) := by decide +kernel
theorem dX6_same_47 : decode cX6_same 47 = .ok (.ireturn, 1) := by decide +kernel
theorem dX6_where_0 : decode cX6_where 0 = .ok (.aload_n 0, 1) := by decide +kernel
theorem dX6_where_1 : decode cX6_where 1 = .ok (.iload_n 1, 1) := by decide +kernel
theorem dX6_where_2 : decode cX6_where 2 = .ok (.invokestatic 117, 3) := by decide +kernel
theorem dX6_where_5 : decode cX6_where 5 = .ok (.iconst 1, 1) := by decide +kernel
theorem dX6_where_6 : decode cX6_where 6 = .ok (.invokevirtual 120, 3) := by decide +kernel
theorem dX6_where_9 : decode cX6_where 9 = .ok (.ifCond .eq 16, 3) := by decide +kernel
theorem dX6_where_12 : decode cX6_where 12 = .ok (.aload_n 0, 1) := by decide +kernel
theorem dX6_where_13 : decode cX6_where 13 = .ok (.aload_n 0, 1) := by decide +kernel
theorem dX6_where_14 : decode cX6_where 14 = .ok (.getfield 41, 3) := by decide +kernel
theorem dX6_where_17 : decode cX6_where 17 = .ok (.iload_n 1, 1) := by decide +kernel
theorem dX6_where_18 : decode cX6_where 18 = .ok (.iaload, 1) := by decide +kernel
theorem dX6_where_19 : decode cX6_where 19 = .ok (.invokevirtual 90, 3) := by decide +kernel
theorem dX6_where_22 : decode cX6_where 22 = .ok (.goto 4, 3) := by decide +kernel
theorem dX6_where_25 : decode cX6_where 25 = .ok (.iconst 0, 1) := by decide +kernel
theorem dX6_where_26 : decode cX6_where 26 = .ok (.ireturn, 1) := by decide +kernel
theorem dX6_begin_0 : decode cX6_begin 0 = .ok (.aload_n 0, 1) := by decide +kernel
theorem dX6_begin_1 : decode cX6_begin 1 = .ok (.iconst 0, 1) := by decide +kernel
theorem dX6_begin_2 : decode cX6_begin 2 = .ok (.putfield 54, 3) := by decide +kernel
theorem dX6_begin_5 : decode cX6_begin 5 = .ok (.aload_n 0, 1) := by decide +kernel
theorem dX6_begin_6 : decode cX6_begin 6 = .ok (.getfield 70, 3) := by decide +kernel
theorem dX6_begin_9 : decode cX6_begin 9 = .ok (.ifCond .le 5, 3) := by decide +kernel
theorem dX6_begin_12 : decode cX6_begin 12 = .ok (.iconst 0, 1) := by decide +kernel
theorem dX6_begin_13 : decode cX6_begin 13 = .ok (.ireturn, 1) := by decide +kernel
theorem dX6_begin_14 : decode cX6_begin 14 = .ok (.aload_n 0, 1) := by decide +kernel
theorem dX6_begin_15 : decode cX6_begin 15 = .ok (.invokevirtual 114, 3) := by decide +kernel
theorem dX6_begin_18 : decode cX6_begin 18 = .ok (.iconst 1, 1) := by decide +kernel
theorem dX6_begin_19 : decode cX6_begin 19 = .ok (.ireturn, 1) := by decide +kernel
theorem dX6_work_0 : decode cX6_work 0 = .ok (.aload_n 0, 1) := by decide +kernel
theorem dX6_work_1 : decode cX6_work 1 = .ok (.iload_n 1, 1) := by decide +kernel
theorem dX6_work_2 : decode cX6_work 2 = .ok (.ifCond .lt 14, 3) := by decide +kernel
theorem dX6_work_5 : decode cX6_work 5 = .ok (.iload_n 1, 1) := by decide +kernel
theorem dX6_work_6 : decode cX6_work 6 = .ok (.sipush 10000, 3) := by decide +kernel
theorem dX6_work_9 : decode cX6_work 9 = .ok (.if_icmp .gt 7, 3) := by decide +kernel
theorem dX6_work_12 : decode cX6_work 12 = .ok (.iconst 1, 1) := by decide +kernel
theorem dX6_work_13 : decode cX6_work 13 = .ok (.goto 4, 3) := by decide +kernel
theorem dX6_work_16 : decode cX6_work 16 = .ok (.iconst 0, 1) := by decide +kernel
theorem dX6_work_17 : decode cX6_work 17 = .ok (.iconst 1, 1) := by decide +kernel
theorem dX6_work_18 : decode cX6_work 18 = .ok (.invokevirtual 120, 3) := by decide +kernel
theorem dX6_work_21 : decode cX6_work 21 = .ok (.ifCond .ne 5, 3) := by decide +kernel
theorem dX6_work_24 : decode cX6_work 24 = .ok (.iconst 0, 1) := by decide +kernel
theorem dX6_work_25 : decode cX6_work 25 = .ok (.ireturn, 1) := by decide +kernel
theorem dX6_work_26 : decode cX6_work 26 = .ok (.iconst 0, 1) := by decide +kernel
theorem dX6_work_27 : decode cX6_work 27 = .ok (.istore_n 2, 1) := by decide +kernel
theorem dX6_work_28 : decode cX6_work 28 = .ok (.iload_n 2, 1) := by decide +kernel
theorem dX6_work_29 : decode cX6_work 29 = .ok (.iload_n 1, 1) := by decide +kernel
theorem dX6_work_30 : decode cX6_work 30 = .ok (.if_icmp .ge 20, 3) := by decide +kernel
theorem dX6_work_33 : decode cX6_work 33 = .ok (.aload_n 0, 1) := by decide +kernel
theorem dX6_work_34 : decode cX6_work 34 = .ok (.getfield 70, 3) := by decide +kernel
theorem dX6_work_37 : decode cX6_work 37 = .ok (.ifCond .le 13, 3) := by decide +kernel
theorem dX6_work_40 : decode cX6_work 40 = .ok (.aload_n 0, 1) := by decide +kernel
theorem dX6_work_41 : decode cX6_work 41 = .ok (.invokevirtual 108, 3) := by decide +kernel
theorem dX6_work_44 : decode cX6_work 44 = .ok (.iinc 2 1, 3) := by decide +kernel
theorem dX6_work_47 : decode cX6_work 47 = .ok (.goto (-19), 3) := by decide +kernel
theorem dX6_work_50 : decode cX6_work 50 = .ok (.aload_n 0, 1) := by decide +kernel
theorem dX6_work_51 : decode cX6_work 51 = .ok (.getfield 70, 3) := by decide +kernel
theorem dX6_work_54 : decode cX6_work 54 = .ok (.ireturn, 1) := by decide +kernel
theorem dX6_collect_0 : decode cX6_collect 0 = .ok (.aload_n 0, 1) := by decide +kernel
theorem dX6_collect_1 : decode cX6_collect 1 = .ok (.iconst 0, 1) := by decide +kernel
theorem dX6_collect_2 : decode cX6_collect 2 = .ok (.putfield 54, 3) := by decide +kernel
theorem dX6_collect_5 : decode cX6_collect 5 = .ok (.aload_n 0, 1) := by decide +kernel
theorem dX6_collect_6 : decode cX6_collect 6 = .ok (.invokevirtual 127, 3) := by decide +kernel
theorem dX6_collect_9 : decode cX6_collect 9 = .ok (.iconst 0, 1) := by decide +kernel
theorem dX6_collect_10 : decode cX6_collect 10 = .ok (.istore_n 1, 1) := by decide +kernel
theorem dX6_collect_11 : decode cX6_collect 11 = .ok (.iconst 0, 1) := by decide +kernel
theorem dX6_collect_12 : decode cX6_collect 12 = .ok (.istore_n 2, 1) := by decide +kernel
theorem dX6_collect_13 : decode cX6_collect 13 = .ok (.iload_n 2, 1) := by decide +kernel
theorem dX6_collect_14 : decode cX6_collect 14 = .ok (.aload_n 0, 1) := by decide +kernel
theorem dX6_collect_15 : decode cX6_collect 15 = .ok (.getfield 47, 3) := by decide +kernel
theorem dX6_collect_18 : decode cX6_collect 18 = .ok (.if_icmp .ge 26, 3) := by decide +kernel
theorem dX6_collect_21 : decode cX6_collect 21 = .ok (.aload_n 0, 1) := by decide +kernel
theorem dX6_collect_22 : decode cX6_collect 22 = .ok (.getfield 7, 3) := by decide +kernel
theorem dX6_collect_25 : decode cX6_collect 25 = .ok (.iload_n 2, 1) := by decide +kernel
theorem dX6_collect_26 : decode cX6_collect 26 = .ok (.iaload, 1) := by decide +kernel
theorem dX6_collect_27 : decode cX6_collect 27 = .ok (.ifCond .ne 9, 3) := by decide +kernel
theorem dX6_collect_30 : decode cX6_collect 30 = .ok (.iload_n 1, 1) := by decide +kernel
theorem dX6_collect_31 : decode cX6_collect 31 = .ok (.iconst 1, 1) := by decide +kernel
theorem dX6_collect_32 : decode cX6_collect 32 = .ok (.iadd, 1) := by decide +kernel
theorem dX6_collect_33 : decode cX6_collect 33 = .ok (.goto 4, 3) := by decide +kernel
theorem dX6_collect_36 : decode cX6_collect 36 = .ok (.iload_n 1, 1) := by decide +kernel
theorem dX6_collect_37 : decode cX6_collect 37 = .ok (.istore_n 1, 1) := by decide +kernel
theorem dX6_collect_38 : decode cX6_collect 38 = .ok (.iinc 2 1, 3) := by decide +kernel
theorem dX6_collect_41 : decode cX6_collect 41 = .ok (.goto (-28), 3) := by decide +kernel
theorem dX6_collect_44 : decode cX6_collect 44 = .ok (.iload_n 1, 1) := by decide +kernel
theorem dX6_collect_45 : decode cX6_collect 45 = .ok (.ireturn, 1) := by decide +kernel
theorem dX6_region_0 : decode cX6_region 0 = .ok (.aload_n 0, 1) := by decide +kernel
theorem dX6_region_1 : decode cX6_region 1 = .ok (.iload_n 1, 1) := by decide +kernel
theorem dX6_region_2 : decode cX6_region 2 = .ok (.ifCond .lt 15, 3) := by decide +kernel
theorem dX6_region_5 : decode cX6_region 5 = .ok (.iload_n 1, 1) := by decide +kernel
theorem dX6_region_6 : decode cX6_region 6 = .ok (.aload_n 0, 1) := by decide +kernel
theorem dX6_region_7 : decode cX6_region 7 = .ok (.getfield 47, 3) := by decide +kernel
theorem dX6_region_10 : decode cX6_region 10 = .ok (.if_icmp .ge 7, 3) := by decide +kernel
theorem dX6_region_13 : decode cX6_region 13 = .ok (.iconst 1, 1) := by decide +kernel
theorem dX6_region_14 : decode cX6_region 14 = .ok (.goto 4, 3) := by decide +kernel
theorem dX6_region_17 : decode cX6_region 17 = .ok (.iconst 0, 1) := by decide +kernel
theorem dX6_region_18 : decode cX6_region 18 = .ok (.iconst 1, 1) := by decide +kernel
theorem dX6_region_19 : decode cX6_region 19 = .ok (.invokevirtual 120, 3) := by decide +kernel
theorem dX6_region_22 : decode cX6_region 22 = .ok (.ifCond .ne 5, 3) := by decide +kernel
theorem dX6_region_25 : decode cX6_region 25 = .ok (.iconst 0, 1) := by decide +kernel
theorem dX6_region_26 : decode cX6_region 26 = .ok (.ireturn, 1) := by decide +kernel
theorem dX6_region_27 : decode cX6_region 27 = .ok (.iload_n 2, 1) := by decide +kernel
theorem dX6_region_28 : decode cX6_region 28 = .ok (.ifCond .ne 12, 3) := by decide +kernel
theorem dX6_region_31 : decode cX6_region 31 = .ok (.aload_n 0, 1) := by decide +kernel
theorem dX6_region_32 : decode cX6_region 32 = .ok (.getfield 7, 3) := by decide +kernel
theorem dX6_region_35 : decode cX6_region 35 = .ok (.iload_n 1, 1) := by decide +kernel
theorem dX6_region_36 : decode cX6_region 36 = .ok (.iaload, 1) := by decide +kernel
theorem dX6_region_37 : decode cX6_region 37 = .ok (.goto 31, 3) := by decide +kernel
theorem dX6_region_40 : decode cX6_region 40 = .ok (.iload_n 2, 1) := by decide +kernel
theorem dX6_region_41 : decode cX6_region 41 = .ok (.iconst 1, 1) := by decide +kernel
theorem dX6_region_42 : decode cX6_region 42 = .ok (.if_icmp .ne 12, 3) := by decide +kernel
theorem dX6_region_45 : decode cX6_region 45 = .ok (.aload_n 0, 1) := by decide +kernel
theorem dX6_region_46 : decode cX6_region 46 = .ok (.getfield 13, 3) := by decide +kernel
theorem dX6_region_49 : decode cX6_region 49 = .ok (.iload_n 1, 1) := by decide +kernel
theorem dX6_region_50 : decode cX6_region 50 = .ok (.iaload, 1) := by decide +kernel
theorem dX6_region_51 : decode cX6_region 51 = .ok (.goto 17, 3) := by decide +kernel
theorem dX6_region_54 : decode cX6_region 54 = .ok (.iload_n 2, 1) := by decide +kernel
theorem dX6_region_55 : decode cX6_region 55 = .ok (.iconst 2, 1) := by decide +kernel
theorem dX6_region_56 : decode cX6_region 56 = .ok (.if_icmp .ne 11, 3) := by decide +kernel
theorem dX6_region_59 : decode cX6_region 59 = .ok (.aload_n 0, 1) := by decide +kernel
theorem dX6_region_60 : decode cX6_region 60 = .ok (.iload_n 1, 1) := by decide +kernel
theorem dX6_region_61 : decode cX6_region 61 = .ok (.invokevirtual 73, 3) := by decide +kernel
theorem dX6_region_64 : decode cX6_region 64 = .ok (.goto 4, 3) := by decide +kernel
theorem dX6_region_67 : decode cX6_region 67 = .ok (.iconst (-1), 1) := by decide +kernel
theorem dX6_region_68 : decode cX6_region 68 = .ok (.ireturn, 1) := by decide +kernel
theorem dX6_count_0 : decode cX6_count 0 = .ok (.aload_n 0, 1) := by decide +kernel
theorem dX6_count_1 : decode cX6_count 1 = .ok (.iconst 0, 1) := by decide +kernel
theorem dX6_count_2 : decode cX6_count 2 = .ok (.putfield 54, 3) := by decide +kernel
theorem dX6_count_5 : decode cX6_count 5 = .ok (.iload_n 1, 1) := by decide +kernel
theorem dX6_count_6 : decode cX6_count 6 = .ok (.ifCond .ne 10, 3) := by decide +kernel
theorem dX6_count_9 : decode cX6_count 9 = .ok (.aload_n 0, 1) := by decide +kernel
theorem dX6_count_10 : decode cX6_count 10 = .ok (.getfield 83, 3) := by decide +kernel
theorem dX6_count_13 : decode cX6_count 13 = .ok (.goto 45, 3) := by decide +kernel
theorem dX6_count_16 : decode cX6_count 16 = .ok (.iload_n 1, 1) := by decide +kernel
theorem dX6_count_17 : decode cX6_count 17 = .ok (.iconst 1, 1) := by decide +kernel
theorem dX6_count_18 : decode cX6_count 18 = .ok (.if_icmp .ne 10, 3) := by decide +kernel
theorem dX6_count_21 : decode cX6_count 21 = .ok (.aload_n 0, 1) := by decide +kernel
theorem dX6_count_22 : decode cX6_count 22 = .ok (.getfield 80, 3) := by decide +kernel
theorem dX6_count_25 : decode cX6_count 25 = .ok (.goto 33, 3) := by decide +kernel
theorem dX6_count_28 : decode cX6_count 28 = .ok (.iload_n 1, 1) := by decide +kernel
theorem dX6_count_29 : decode cX6_count 29 = .ok (.iconst 2, 1) := by decide +kernel
theorem dX6_count_30 : decode cX6_count 30 = .ok (.if_icmp .ne 27, 3) := by decide +kernel
theorem dX6_count_33 : decode cX6_count 33 = .ok (.aload_n 0, 1) := by decide +kernel
theorem dX6_count_34 : decode cX6_count 34 = .ok (.getfield 70, 3) := by decide +kernel
theorem dX6_count_37 : decode cX6_count 37 = .ok (.iconst 1, 1) := by decide +kernel
theorem dX6_count_38 : decode cX6_count 38 = .ok (.if_icmp .ne 15, 3) := by decide +kernel
theorem dX6_count_41 : decode cX6_count 41 = .ok (.aload_n 0, 1) := by decide +kernel
theorem dX6_count_42 : decode cX6_count 42 = .ok (.getfield 60, 3) := by decide +kernel
theorem dX6_count_45 : decode cX6_count 45 = .ok (.aload_n 0, 1) := by decide +kernel
theorem dX6_count_46 : decode cX6_count 46 = .ok (.getfield 63, 3) := by decide +kernel
theorem dX6_count_49 : decode cX6_count 49 = .ok (.isub, 1) := by decide +kernel
theorem dX6_count_50 : decode cX6_count 50 = .ok (.goto 8, 3) := by decide +kernel
theorem dX6_count_53 : decode cX6_count 53 = .ok (.iconst 0, 1) := by decide +kernel
theorem dX6_count_54 : decode cX6_count 54 = .ok (.goto 4, 3) := by decide +kernel
theorem dX6_count_57 : decode cX6_count 57 = .ok (.iconst (-1), 1) := by decide +kernel
theorem dX6_count_58 : decode cX6_count 58 = .ok (.ireturn, 1) := by decide +kernel
