theorem dX11_init_0 : decode cX11_init 0 = .ok (.aload_n 0, 1) := by decide +kernel
theorem dX11_init_1 : decode cX11_init 1 = .ok (.invokespecial 1, 3) := by decide +kernel
theorem dX11_init_4 : decode cX11_init 4 = .ok (.aload_n 0, 1) := by decide +kernel
theorem dX11_init_5 : decode cX11_init 5 = .ok (.bipush 10, 2) := by decide +kernel
theorem dX11_init_7 : decode cX11_init 7 = .ok (.newarray .int, 2) := by decide +kernel
theorem dX11_init_9 : decode cX11_init 9 = .ok (.putfield 7, 3) := by decide +kernel
theorem dX11_init_12 : decode cX11_init 12 = .ok (.aload_n 0, 1) := by decide +kernel
theorem dX11_init_13 : decode cX11_init 13 = .ok (.bipush 10, 2) := by decide +kernel
theorem dX11_init_15 : decode cX11_init 15 = .ok (.newarray .int, 2) := by decide +kernel
theorem dX11_init_17 : decode cX11_init 17 = .ok (.putfield 13, 3) := by decide +kernel
theorem dX11_init_20 : decode cX11_init 20 = .ok (.aload_n 0, 1) := by decide +kernel
theorem dX11_init_21 : decode cX11_init 21 = .ok (.bipush 10, 2) := by decide +kernel
theorem dX11_init_23 : decode cX11_init 23 = .ok (.newarray .int, 2) := by decide +kernel
theorem dX11_init_25 : decode cX11_init 25 = .ok (.putfield 16, 3) := by decide +kernel
theorem dX11_init_28 : decode cX11_init 28 = .ok (.aload_n 0, 1) := by decide +kernel
theorem dX11_init_29 : decode cX11_init 29 = .ok (.bipush 10, 2) := by decide +kernel
theorem dX11_init_31 : decode cX11_init 31 = .ok (.newarray .int, 2) := by decide +kernel
theorem dX11_init_33 : decode cX11_init 33 = .ok (.putfield 19, 3) := by decide +kernel
theorem dX11_init_36 : decode cX11_init 36 = .ok (.aload_n 0, 1) := by decide +kernel
theorem dX11_init_37 : decode cX11_init 37 = .ok (.bipush 10, 2) := by decide +kernel
theorem dX11_init_39 : decode cX11_init 39 = .ok (.newarray .int, 2) := by decide +kernel
theorem dX11_init_41 : decode cX11_init 41 = .ok (.putfield 22, 3) := by decide +kernel
theorem dX11_init_44 : decode cX11_init 44 = .ok (.aload_n 0, 1) := by decide +kernel
theorem dX11_init_45 : decode cX11_init 45 = .ok (.bipush 10, 2) := by decide +kernel
theorem dX11_init_47 : decode cX11_init 47 = .ok (.newarray .int, 2) := by decide +kernel
theorem dX11_init_49 : decode cX11_init 49 = .ok (.putfield 25, 3) := by decide +kernel
theorem dX11_init_52 : decode cX11_init 52 = .ok (.aload_n 0, 1) := by decide +kernel
theorem dX11_init_53 : decode cX11_init 53 = .ok (.bipush 10, 2) := by decide +kernel
theorem dX11_init_55 : decode cX11_init 55 = .ok (.newarray .int, 2) := by decide +kernel
theorem dX11_init_57 : decode cX11_init 57 = .ok (.putfield 28, 3) := by decide +kernel
theorem dX11_init_60 : decode cX11_init 60 = .ok (.aload_n 0, 1) := by decide +kernel
theorem dX11_init_61 : decode cX11_init 61 = .ok (.bipush 10, 2) := by decide +kernel
theorem dX11_init_63 : decode cX11_init 63 = .ok (.newarray .int, 2) := by decide +kernel
theorem dX11_init_65 : decode cX11_init 65 = .ok (.putfield 31, 3) := by decide +kernel
theorem dX11_init_68 : decode cX11_init 68 = .ok (.aload_n 0, 1) := by decide +kernel
theorem dX11_init_69 : decode cX11_init 69 = .ok (.iconst 5, 1) := by decide +kernel
theorem dX11_init_70 : decode cX11_init 70 = .ok (.newarray .int, 2) := by decide +kernel
theorem dX11_init_72 : decode cX11_init 72 = .ok (.putfield 34, 3) := by decide +kernel
theorem dX11_init_75 : decode cX11_init 75 = .ok (.aload_n 0, 1) := by decide +kernel
theorem dX11_init_76 : decode cX11_init 76 = .ok (.bipush 100, 2) := by decide +kernel
theorem dX11_init_78 : decode cX11_init 78 = .ok (.putfield 37, 3) := by decide +kernel
theorem dX11_init_81 : decode cX11_init 81 = .ok (.aload_n 0, 1) := by decide +kernel
theorem dX11_init_82 : decode cX11_init 82 = .ok (.bipush 6, 2) := by decide +kernel
theorem dX11_init_84 : decode cX11_init 84 = .ok (.newarray .boolean, 2) := by decide +kernel
theorem dX11_init_86 : decode cX11_init 86 = .ok (.putfield 41, 3) := by decide +kernel
theorem dX11_init_89 : decode cX11_init 89 = .ok (.aload_n 0, 1) := by decide +kernel
theorem dX11_init_90 : decode cX11_init 90 = .ok (.bipush 6, 2) := by decide +kernel
theorem dX11_init_92 : decode cX11_init 92 = .ok (.newarray .int, 2) := by decide +kernel
theorem dX11_init_94 : decode cX11_init 94 = .ok (.putfield 45, 3) := by decide +kernel
theorem dX11_init_97 : decode cX11_init 97 = .ok (.aload_n 0, 1) := by decide +kernel
theorem dX11_init_98 : decode cX11_init 98 = .ok (.bipush 6, 2) := by decide +kernel
theorem dX11_init_100 : decode cX11_init 100 = .ok (.newarray .boolean, 2) := by decide +kernel
theorem dX11_init_102 : decode cX11_init 102 = .ok (.putfield 48, 3) := by decide +kernel
theorem dX11_init_105 : decode cX11_init 105 = .ok (.aload_n 0, 1) := by decide +kernel
theorem dX11_init_106 : decode cX11_init 106 = .ok (.bipush 6, 2) := by decide +kernel
theorem dX11_init_108 : decode cX11_init 108 = .ok (.newarray .int, 2) := by decide +kernel
theorem dX11_init_110 : decode cX11_init 110 = .ok (.putfield 51, 3) := by decide +kernel
theorem dX11_init_113 : decode cX11_init 113 = .ok (.aload_n 0, 1) := by decide +kernel
theorem dX11_init_114 : decode cX11_init 114 = .ok (.bipush 16, 2) := by decide +kernel
theorem dX11_init_116 : decode cX11_init 116 = .ok (.newarray .byte, 2) := by decide +kernel
theorem dX11_init_118 : decode cX11_init 118 = .ok (.putfield 54, 3) := by decide +kernel
theorem dX11_init_121 : decode cX11_init 121 = .ok (.aload_n 0, 1) := by decide +kernel
theorem dX11_init_122 : decode cX11_init 122 = .ok (.bipush 10, 2) := by decide +kernel
theorem dX11_init_124 : decode cX11_init 124 = .ok (.newarray .int, 2) := by decide +kernel
theorem dX11_init_126 : decode cX11_init 126 = .ok (.putfield 58, 3) := by decide +kernel
theorem dX11_init_129 : decode cX11_init 129 = .ok (.aload_n 0, 1) := by decide +kernel
theorem dX11_init_130 : decode cX11_init 130 = .ok (.bipush 10, 2) := by decide +kernel
theorem dX11_init_132 : decode cX11_init 132 = .ok (.newarray .int, 2) := by decide +kernel
theorem dX11_init_134 : decode cX11_init 134 = .ok (.putfield 61, 3) := by decide +kernel
theorem dX11_init_137 : decode cX11_init 137 = .ok (.aload_n 0, 1) := by decide +kernel
theorem dX11_init_138 : decode cX11_init 138 = .ok (.iconst 5, 1) := by decide +kernel
theorem dX11_init_139 : decode cX11_init 139 = .ok (.newarray .int, 2) := by decide +kernel
theorem dX11_init_141 : decode cX11_init 141 = .ok (.putfield 64, 3) := by decide +kernel
theorem dX11_init_144 : decode cX11_init 144 = .ok (.aload_n 0, 1) := by decide +kernel
theorem dX11_init_145 : decode cX11_init 145 = .ok (.bipush 10, 2) := by decide +kernel
theorem dX11_init_147 : decode cX11_init 147 = .ok (.newarray .int, 2) := by decide +kernel
theorem dX11_init_149 : decode cX11_init 149 = .ok (.putfield 67, 3) := by decide +kernel
theorem dX11_init_152 : decode cX11_init 152 = .ok (.aload_n 0, 1) := by decide +kernel
theorem dX11_init_153 : decode cX11_init 153 = .ok (.iconst 5, 1) := by decide +kernel
theorem dX11_init_154 : decode cX11_init 154 = .ok (.newarray .int, 2) := by decide +kernel
theorem dX11_init_156 : decode cX11_init 156 = .ok (.putfield 70, 3) := by decide +kernel
theorem dX11_init_159 : decode cX11_init 159 = .ok (.aload_n 0, 1) := by decide +kernel
theorem dX11_init_160 : decode cX11_init 160 = .ok (.bipush 10, 2) := by decide +kernel
theorem dX11_init_162 : decode cX11_init 162 = .ok (.newarray .int, 2) := by decide +kernel
theorem dX11_init_164 : decode cX11_init 164 = .ok (.putfield 73, 3) := by decide +kernel
theorem dX11_init_167 : decode cX11_init 167 = .ok (.aload_n 0, 1) := by decide +kernel
theorem dX11_init_168 : decode cX11_init 168 = .ok (.bipush 10, 2) := by decide +kernel
theorem dX11_init_170 : decode cX11_init 170 = .ok (.newarray .int, 2) := by decide +kernel
theorem dX11_init_172 : decode cX11_init 172 = .ok (.putfield 76, 3) := by decide +kernel
theorem dX11_init_175 : decode cX11_init 175 = .ok (.aload_n 0, 1) := by decide +kernel
theorem dX11_init_176 : decode cX11_init 176 = .ok (.bipush 10, 2) := by decide +kernel
theorem dX11_init_178 : decode cX11_init 178 = .ok (.newarray .int, 2) := by decide +kernel
theorem dX11_init_180 : decode cX11_init 180 = .ok (.putfield 79, 3) := by decide +kernel
theorem dX11_init_183 : decode cX11_init 183 = .ok (.aload_n 0, 1) := by decide +kernel
theorem dX11_init_184 : decode cX11_init 184 = .ok (.sipush 3000, 3) := by decide +kernel
theorem dX11_init_187 : decode cX11_init 187 = .ok (.newarray .int, 2) := by decide +kernel
theorem dX11_init_189 : decode cX11_init 189 = .ok (.putfield 82, 3) := by decide +kernel
theorem dX11_init_192 : decode cX11_init 192 = .ok (.return_, 1) := by decide +kernel
theorem dX11_within_0 : decode cX11_within 0 = .ok (.iload_n 0, 1) := by decide +kernel
theorem dX11_within_1 : decode cX11_within 1 = .ok (.iload_n 1, 1) := by decide +kernel
theorem dX11_within_2 : decode cX11_within 2 = .ok (.if_icmp .lt 12, 3) := by decide +kernel
theorem dX11_within_5 : decode cX11_within 5 = .ok (.iload_n 0, 1) := by decide +kernel
theorem dX11_within_6 : decode cX11_within 6 = .ok (.iload_n 2, 1) := by decide +kernel
theorem dX11_within_7 : decode cX11_within 7 = .ok (.if_icmp .gt 7, 3) := by decide +kernel
theorem dX11_within_10 : decode cX11_within 10 = .ok (.iconst 1, 1) := by decide +kernel
theorem dX11_within_11 : decode cX11_within 11 = .ok (.goto 4, 3) := by decide +kernel
theorem dX11_within_14 : decode cX11_within 14 = .ok (.iconst 0, 1) := by decide +kernel
theorem dX11_within_15 : decode cX11_within 15 = .ok (.ireturn, 1) := by decide +kernel
theorem dX11_has_0 : decode cX11_has 0 = .ok (.iload_n 0, 1) := by decide +kernel
theorem dX11_has_1 : decode cX11_has 1 = .ok (.iload_n 1, 1) := by decide +kernel
theorem dX11_has_2 : decode cX11_has 2 = .ok (.ishr, 1) := by decide +kernel
theorem dX11_has_3 : decode cX11_has 3 = .ok (.iconst 1, 1) := by decide +kernel
theorem dX11_has_4 : decode cX11_has 4 = .ok (.iand, 1) := by decide +kernel
theorem dX11_has_5 : decode cX11_has 5 = .ok (.iconst 1, 1) := by decide +kernel
theorem dX11_has_6 : decode cX11_has 6 = .ok (.if_icmp .ne 7, 3) := by decide +kernel
theorem dX11_has_9 : decode cX11_has 9 = .ok (.iconst 1, 1) := by decide +kernel
theorem dX11_has_10 : decode cX11_has 10 = .ok (.goto 4, 3) := by decide +kernel
theorem dX11_has_13 : decode cX11_has 13 = .ok (.iconst 0, 1) := by decide +kernel
theorem dX11_has_14 : decode cX11_has 14 = .ok (.ireturn, 1) := by decide +kernel
theorem dX11_letters_0 : decode cX11_letters 0 = .ok (.iconst 0, 1) := by decide +kernel
theorem dX11_letters_1 : decode cX11_letters 1 = .ok (.istore_n 3, 1) := by decide +kernel
theorem dX11_letters_2 : decode cX11_letters 2 = .ok (.iconst 0, 1) := by decide +kernel
theorem dX11_letters_3 : decode cX11_letters 3 = .ok (.istore 4, 2) := by decide +kernel
theorem dX11_letters_5 : decode cX11_letters 5 = .ok (.iconst 0, 1) := by decide +kernel
theorem dX11_letters_6 : decode cX11_letters 6 = .ok (.istore 5, 2) := by decide +kernel
theorem dX11_letters_8 : decode cX11_letters 8 = .ok (.iload 5, 2) := by decide +kernel
theorem dX11_letters_10 : decode cX11_letters 10 = .ok (.bipush 8, 2) := by decide +kernel
theorem dX11_letters_12 : decode cX11_letters 12 = .ok (.if_icmp .ge 73, 3) := by decide +kernel
theorem dX11_letters_15 : decode cX11_letters 15 = .ok (.lload_n 1, 1) := by decide +kernel
theorem dX11_letters_16 : decode cX11_letters 16 = .ok (.bipush 8, 2) := by decide +kernel
theorem dX11_letters_18 : decode cX11_letters 18 = .ok (.iload 5, 2) := by decide +kernel
theorem dX11_letters_20 : decode cX11_letters 20 = .ok (.imul, 1) := by decide +kernel
theorem dX11_letters_21 : decode cX11_letters 21 = .ok (.lshr, 1) := by decide +kernel
theorem dX11_letters_22 : decode cX11_letters 22 = .ok (.ldc2_w 85, 3) := by decide +kernel
theorem dX11_letters_25 : decode cX11_letters 25 = .ok (.land, 1) := by decide +kernel
theorem dX11_letters_26 : decode cX11_letters 26 = .ok (.l2i, 1) := by decide +kernel
theorem dX11_letters_27 : decode cX11_letters 27 = .ok (.istore 6, 2) := by decide +kernel
theorem dX11_letters_29 : decode cX11_letters 29 = .ok (.iload 6, 2) := by decide +kernel
theorem dX11_letters_31 : decode cX11_letters 31 = .ok (.bipush 126, 2) := by decide +kernel
theorem dX11_letters_33 : decode cX11_letters 33 = .ok (.if_icmp .gt 13, 3) := by decide +kernel
theorem dX11_letters_36 : decode cX11_letters 36 = .ok (.iload 4, 2) := by decide +kernel
theorem dX11_letters_38 : decode cX11_letters 38 = .ok (.ifCond .eq 11, 3) := by decide +kernel
theorem dX11_letters_41 : decode cX11_letters 41 = .ok (.iload 6, 2) := by decide +kernel
theorem dX11_letters_43 : decode cX11_letters 43 = .ok (.ifCond .eq 6, 3) := by decide +kernel
theorem dX11_letters_46 : decode cX11_letters 46 = .ok (.bipush (-102), 2) := by decide +kernel
theorem dX11_letters_48 : decode cX11_letters 48 = .ok (.ireturn, 1) := by decide +kernel
theorem dX11_letters_49 : decode cX11_letters 49 = .ok (.iload 4, 2) := by decide +kernel
theorem dX11_letters_51 : decode cX11_letters 51 = .ok (.ifCond .ne 8, 3) := by decide +kernel
theorem dX11_letters_54 : decode cX11_letters 54 = .ok (.iload 6, 2) := by decide +kernel
theorem dX11_letters_56 : decode cX11_letters 56 = .ok (.ifCond .ne 7, 3) := by decide +kernel
theorem dX11_letters_59 : decode cX11_letters 59 = .ok (.iconst 1, 1) := by decide +kernel
theorem dX11_letters_60 : decode cX11_letters 60 = .ok (.goto 4, 3) := by decide +kernel
theorem dX11_letters_63 : decode cX11_letters 63 = .ok (.iconst 0, 1) := by decide +kernel
theorem dX11_letters_64 : decode cX11_letters 64 = .ok (.istore 4, 2) := by decide +kernel
theorem dX11_letters_66 : decode cX11_letters 66 = .ok (.iload_n 3, 1) := by decide +kernel
theorem dX11_letters_67 : decode cX11_letters 67 = .ok (.iload 6, 2) := by decide +kernel
theorem dX11_letters_69 : decode cX11_letters 69 = .ok (.ifCond .ne 7, 3) := by decide +kernel
theorem dX11_letters_72 : decode cX11_letters 72 = .ok (.iconst 0, 1) := by decide +kernel
theorem dX11_letters_73 : decode cX11_letters 73 = .ok (.goto 4, 3) := by decide +kernel
theorem dX11_letters_76 : decode cX11_letters 76 = .ok (.iconst 1, 1) := by decide +kernel
theorem dX11_letters_77 : decode cX11_letters 77 = .ok (.iadd, 1) := by decide +kernel
theorem dX11_letters_78 : decode cX11_letters 78 = .ok (.istore_n 3, 1) := by decide +kernel
theorem dX11_letters_79 : decode cX11_letters 79 = .ok (.iinc 5 1, 3) := by decide +kernel
theorem dX11_letters_82 : decode cX11_letters 82 = .ok (.goto (-74), 3) := by decide +kernel
theorem dX11_letters_85 : decode cX11_letters 85 = .ok (.aload_n 0, 1) := by decide +kernel
theorem dX11_letters_86 : decode cX11_letters 86 = .ok (.getfield 87, 3) := by decide +kernel
theorem dX11_letters_89 : decode cX11_letters 89 = .ok (.iload_n 3, 1) := by decide +kernel
theorem dX11_letters_90 : decode cX11_letters 90 = .ok (.iadd, 1) := by decide +kernel
theorem dX11_letters_91 : decode cX11_letters 91 = .ok (.bipush 16, 2) := by decide +kernel
theorem dX11_letters_93 : decode cX11_letters 93 = .ok (.if_icmp .le 6, 3) := by decide +kernel
theorem dX11_letters_96 : decode cX11_letters 96 = .ok (.bipush (-104), 2) := by decide +kernel
theorem dX11_letters_98 : decode cX11_letters 98 = .ok (.ireturn, 1) := by decide +kernel
theorem dX11_letters_99 : decode cX11_letters 99 = .ok (.iconst 0, 1) := by decide +kernel
theorem dX11_letters_100 : decode cX11_letters 100 = .ok (.istore 5, 2) := by decide +kernel
theorem dX11_letters_102 : decode cX11_letters 102 = .ok (.iload 5, 2) := by decide +kernel
theorem dX11_letters_104 : decode cX11_letters 104 = .ok (.iload_n 3, 1) := by decide +kernel
theorem dX11_letters_105 : decode cX11_letters 105 = .ok (.if_icmp .ge 30, 3) := by decide +kernel
theorem dX11_letters_108 : decode cX11_letters 108 = .ok (.aload_n 0, 1) := by decide +kernel
theorem dX11_letters_109 : decode cX11_letters 109 = .ok (.getfield 54, 3) := by decide +kernel
theorem dX11_letters_112 : decode cX11_letters 112 = .ok (.aload_n 0, 1) := by decide +kernel
theorem dX11_letters_113 : decode cX11_letters 113 = .ok (.getfield 87, 3) := by decide +kernel
theorem dX11_letters_116 : decode cX11_letters 116 = .ok (.iload 5, 2) := by decide +kernel
theorem dX11_letters_118 : decode cX11_letters 118 = .ok (.iadd, 1) := by decide +kernel
theorem dX11_letters_119 : decode cX11_letters 119 = .ok (.lload_n 1, 1) := by decide +kernel
theorem dX11_letters_120 : decode cX11_letters 120 = .ok (.bipush 8, 2) := by decide +kernel
theorem dX11_letters_122 : decode cX11_letters 122 = .ok (.iload 5, 2) := by decide +kernel
theorem dX11_letters_124 : decode cX11_letters 124 = .ok (.imul, 1) := by decide +kernel
theorem dX11_letters_125 : decode cX11_letters 125 = .ok (.lshr, 1) := by decide +kernel
theorem dX11_letters_126 : decode cX11_letters 126 = .ok (.l2i, 1) := by decide +kernel
theorem dX11_letters_127 : decode cX11_letters 127 = .ok (.i2b, 1) := by decide +kernel
theorem dX11_letters_128 : decode cX11_letters 128 = .ok (.bastore, 1) := by decide +kernel
theorem dX11_letters_129 : decode cX11_letters 129 = .ok (.iinc 5 1, 3) := by decide +kernel
theorem dX11_letters_132 : decode cX11_letters 132 = .ok (.goto (-30), 3) := by decide +kernel
theorem dX11_letters_135 : decode cX11_letters 135 = .ok (.aload_n 0, 1) := by decide +kernel
theorem dX11_letters_136 : decode cX11_letters 136 = .ok (.dup, 1) := by decide +kernel
theorem dX11_letters_137 : decode cX11_letters 137 = .ok (.getfield 87, 3) := by decide +kernel
theorem dX11_letters_140 : decode cX11_letters 140 = .ok (.iload_n 3, 1) := by decide +kernel
theorem dX11_letters_141 : decode cX11_letters 141 = .ok (.iadd, 1) := by decide +kernel
theorem dX11_letters_142 : decode cX11_letters 142 = .ok (.putfield 87, 3) := by decide +kernel
theorem dX11_letters_145 : decode cX11_letters 145 = .ok (.aload_n 0, 1) := by decide +kernel
theorem dX11_letters_146 : decode cX11_letters 146 = .ok (.getfield 87, 3) := by decide +kernel
theorem dX11_letters_149 : decode cX11_letters 149 = .ok (.ireturn, 1) := by decide +kernel
theorem dX11_blank_0 : decode cX11_blank 0 = .ok (.aload_n 0, 1) := by decide +kernel
theorem dX11_blank_1 : decode cX11_blank 1 = .ok (.getfield 87, 3) := by decide +kernel
theorem dX11_blank_4 : decode cX11_blank 4 = .ok (.istore_n 1, 1) := by decide +kernel
theorem dX11_blank_5 : decode cX11_blank 5 = .ok (.aload_n 0, 1) := by decide +kernel
theorem dX11_blank_6 : decode cX11_blank 6 = .ok (.iconst 0, 1) := by decide +kernel
theorem dX11_blank_7 : decode cX11_blank 7 = .ok (.putfield 87, 3) := by decide +kernel
theorem dX11_blank_10 : decode cX11_blank 10 = .ok (.iload_n 1, 1) := by decide +kernel
theorem dX11_blank_11 : decode cX11_blank 11 = .ok (.ireturn, 1) := by decide +kernel
theorem dX11_nextState_0 : decode cX11_nextState 0 = .ok (.iload_n 2, 1) := by decide +kernel
theorem dX11_nextState_1 : decode cX11_nextState 1 = .ok (.bipush 49, 2) := by decide +kernel
theorem dX11_nextState_3 : decode cX11_nextState 3 = .ok (.bipush 57, 2) := by decide +kernel
theorem dX11_nextState_5 : decode cX11_nextState 5 = .ok (.invokestatic 90, 3) := by decide +kernel
theorem dX11_nextState_8 : decode cX11_nextState 8 = .ok (.istore_n 3, 1) := by decide +kernel
theorem dX11_nextState_9 : decode cX11_nextState 9 = .ok (.iload_n 1, 1) := by decide +kernel
theorem dX11_nextState_10 : decode cX11_nextState 10 = .ok (.tableswitch 164 0 5 #[38, 71, 87, 116, 122, 134], 38) := by decide +kernel
theorem dX11_nextState_48 : decode cX11_nextState 48 = .ok (.aload_n 0, 1) := by decide +kernel
theorem dX11_nextState_49 : decode cX11_nextState 49 = .ok (.iload_n 2, 1) := by decide +kernel
theorem dX11_nextState_50 : decode cX11_nextState 50 = .ok (.bipush 108, 2) := by decide +kernel
theorem dX11_nextState_52 : decode cX11_nextState 52 = .ok (.if_icmp .ne 7, 3) := by decide +kernel
theorem dX11_nextState_55 : decode cX11_nextState 55 = .ok (.iconst 1, 1) := by decide +kernel
theorem dX11_nextState_56 : decode cX11_nextState 56 = .ok (.goto 4, 3) := by decide +kernel
theorem dX11_nextState_59 : decode cX11_nextState 59 = .ok (.iconst 0, 1) := by decide +kernel
theorem dX11_nextState_60 : decode cX11_nextState 60 = .ok (.putfield 94, 3) := by decide +kernel
theorem dX11_nextState_63 : decode cX11_nextState 63 = .ok (.iload_n 2, 1) := by decide +kernel
theorem dX11_nextState_64 : decode cX11_nextState 64 = .ok (.bipush 108, 2) := by decide +kernel
theorem dX11_nextState_66 : decode cX11_nextState 66 = .ok (.if_icmp .eq 9, 3) := by decide +kernel
theorem dX11_nextState_69 : decode cX11_nextState 69 = .ok (.iload_n 2, 1) := by decide +kernel
theorem dX11_nextState_70 : decode cX11_nextState 70 = .ok (.bipush 114, 2) := by decide +kernel
theorem dX11_nextState_72 : decode cX11_nextState 72 = .ok (.if_icmp .ne 7, 3) := by decide +kernel
theorem dX11_nextState_75 : decode cX11_nextState 75 = .ok (.iconst 1, 1) := by decide +kernel
theorem dX11_nextState_76 : decode cX11_nextState 76 = .ok (.goto 4, 3) := by decide +kernel
theorem dX11_nextState_79 : decode cX11_nextState 79 = .ok (.iconst (-1), 1) := by decide +kernel
theorem dX11_nextState_80 : decode cX11_nextState 80 = .ok (.ireturn, 1) := by decide +kernel
theorem dX11_nextState_81 : decode cX11_nextState 81 = .ok (.iload_n 2, 1) := by decide +kernel
theorem dX11_nextState_82 : decode cX11_nextState 82 = .ok (.bipush 116, 2) := by decide +kernel
theorem dX11_nextState_84 : decode cX11_nextState 84 = .ok (.if_icmp .ne 7, 3) := by decide +kernel
theorem dX11_nextState_87 : decode cX11_nextState 87 = .ok (.iconst 2, 1) := by decide +kernel
theorem dX11_nextState_88 : decode cX11_nextState 88 = .ok (.goto 8, 3) := by decide +kernel
theorem dX11_nextState_91 : decode cX11_nextState 91 = .ok (.aload_n 0, 1) := by decide +kernel
theorem dX11_nextState_92 : decode cX11_nextState 92 = .ok (.iload_n 2, 1) := by decide +kernel
theorem dX11_nextState_93 : decode cX11_nextState 93 = .ok (.invokevirtual 98, 3) := by decide +kernel
theorem dX11_nextState_96 : decode cX11_nextState 96 = .ok (.ireturn, 1) := by decide +kernel
theorem dX11_nextState_97 : decode cX11_nextState 97 = .ok (.aload_n 0, 1) := by decide +kernel
theorem dX11_nextState_98 : decode cX11_nextState 98 = .ok (.iload_n 3, 1) := by decide +kernel
theorem dX11_nextState_99 : decode cX11_nextState 99 = .ok (.ifCond .eq 10, 3) := by decide +kernel
theorem dX11_nextState_102 : decode cX11_nextState 102 = .ok (.iload_n 2, 1) := by decide +kernel
theorem dX11_nextState_103 : decode cX11_nextState 103 = .ok (.bipush 48, 2) := by decide +kernel
theorem dX11_nextState_105 : decode cX11_nextState 105 = .ok (.isub, 1) := by decide +kernel
theorem dX11_nextState_106 : decode cX11_nextState 106 = .ok (.goto 7, 3) := by decide +kernel
theorem dX11_nextState_109 : decode cX11_nextState 109 = .ok (.aload_n 0, 1) := by decide +kernel
theorem dX11_nextState_110 : decode cX11_nextState 110 = .ok (.getfield 102, 3) := by decide +kernel
theorem dX11_nextState_113 : decode cX11_nextState 113 = .ok (.putfield 102, 3) := by decide +kernel
theorem dX11_nextState_116 : decode cX11_nextState 116 = .ok (.iload_n 3, 1) := by decide +kernel
theorem dX11_nextState_117 : decode cX11_nextState 117 = .ok (.ifCond .eq 7, 3) := by decide +kernel
theorem dX11_nextState_120 : decode cX11_nextState 120 = .ok (.iconst 3, 1) := by decide +kernel
theorem dX11_nextState_121 : decode cX11_nextState 121 = .ok (.goto 4, 3) := by decide +kernel
theorem dX11_nextState_124 : decode cX11_nextState 124 = .ok (.iconst (-1), 1) := by decide +kernel
theorem dX11_nextState_125 : decode cX11_nextState 125 = .ok (.ireturn, 1) := by decide +kernel
theorem dX11_nextState_126 : decode cX11_nextState 126 = .ok (.aload_n 0, 1) := by decide +kernel
theorem dX11_nextState_127 : decode cX11_nextState 127 = .ok (.iload_n 2, 1) := by decide +kernel
theorem dX11_nextState_128 : decode cX11_nextState 128 = .ok (.invokevirtual 98, 3) := by decide +kernel
theorem dX11_nextState_131 : decode cX11_nextState 131 = .ok (.ireturn, 1) := by decide +kernel
theorem dX11_nextState_132 : decode cX11_nextState 132 = .ok (.iload_n 2, 1) := by decide +kernel
theorem dX11_nextState_133 : decode cX11_nextState 133 = .ok (.bipush 120, 2) := by decide +kernel
theorem dX11_nextState_135 : decode cX11_nextState 135 = .ok (.if_icmp .ne 7, 3) := by decide +kernel
theorem dX11_nextState_138 : decode cX11_nextState 138 = .ok (.iconst 5, 1) := by decide +kernel
theorem dX11_nextState_139 : decode cX11_nextState 139 = .ok (.goto 4, 3) := by decide +kernel
theorem dX11_nextState_142 : decode cX11_nextState 142 = .ok (.iconst (-1), 1) := by decide +kernel
theorem dX11_nextState_143 : decode cX11_nextState 143 = .ok (.ireturn, 1) := by decide +kernel
theorem dX11_nextState_144 : decode cX11_nextState 144 = .ok (.aload_n 0, 1) := by decide +kernel
theorem dX11_nextState_145 : decode cX11_nextState 145 = .ok (.iload_n 3, 1) := by decide +kernel
theorem dX11_nextState_146 : decode cX11_nextState 146 = .ok (.ifCond .eq 10, 3) := by decide +kernel
theorem dX11_nextState_149 : decode cX11_nextState 149 = .ok (.iload_n 2, 1) := by decide +kernel
theorem dX11_nextState_150 : decode cX11_nextState 150 = .ok (.bipush 48, 2) := by decide +kernel
theorem dX11_nextState_152 : decode cX11_nextState 152 = .ok (.isub, 1) := by decide +kernel
theorem dX11_nextState_153 : decode cX11_nextState 153 = .ok (.goto 7, 3) := by decide +kernel
theorem dX11_nextState_156 : decode cX11_nextState 156 = .ok (.aload_n 0, 1) := by decide +kernel
theorem dX11_nextState_157 : decode cX11_nextState 157 = .ok (.getfield 105, 3) := by decide +kernel
theorem dX11_nextState_160 : decode cX11_nextState 160 = .ok (.putfield 105, 3) := by decide +kernel
theorem dX11_nextState_163 : decode cX11_nextState 163 = .ok (.iload_n 3, 1) := by decide +kernel
theorem dX11_nextState_164 : decode cX11_nextState 164 = .ok (.ifCond .eq 8, 3) := by decide +kernel
theorem dX11_nextState_167 : decode cX11_nextState 167 = .ok (.bipush 6, 2) := by decide +kernel
theorem dX11_nextState_169 : decode cX11_nextState 169 = .ok (.goto 4, 3) := by decide +kernel
theorem dX11_nextState_172 : decode cX11_nextState 172 = .ok (.iconst (-1), 1) := by decide +kernel
theorem dX11_nextState_173 : decode cX11_nextState 173 = .ok (.ireturn, 1) := by decide +kernel
theorem dX11_nextState_174 : decode cX11_nextState 174 = .ok (.iconst (-1), 1) := by decide +kernel
theorem dX11_nextState_175 : decode cX11_nextState 175 = .ok (.ireturn, 1) := by decide +kernel
theorem dX11_afterTurns_0 : decode cX11_afterTurns 0 = .ok (.aload_n 0, 1) := by decide +kernel
theorem dX11_afterTurns_1 : decode cX11_afterTurns 1 = .ok (.iload_n 1, 1) := by decide +kernel
theorem dX11_afterTurns_2 : decode cX11_afterTurns 2 = .ok (.bipush 100, 2) := by decide +kernel
theorem dX11_afterTurns_4 : decode cX11_afterTurns 4 = .ok (.if_icmp .ne 7, 3) := by decide +kernel
theorem dX11_afterTurns_7 : decode cX11_afterTurns 7 = .ok (.iconst 1, 1) := by decide +kernel
theorem dX11_afterTurns_8 : decode cX11_afterTurns 8 = .ok (.goto 4, 3) := by decide +kernel
theorem dX11_afterTurns_11 : decode cX11_afterTurns 11 = .ok (.iconst 0, 1) := by decide +kernel
theorem dX11_afterTurns_12 : decode cX11_afterTurns 12 = .ok (.putfield 108, 3) := by decide +kernel
theorem dX11_afterTurns_15 : decode cX11_afterTurns 15 = .ok (.iload_n 1, 1) := by decide +kernel
theorem dX11_afterTurns_16 : decode cX11_afterTurns 16 = .ok (.bipush 100, 2) := by decide +kernel
theorem dX11_afterTurns_18 : decode cX11_afterTurns 18 = .ok (.if_icmp .ne 7, 3) := by decide +kernel
theorem dX11_afterTurns_21 : decode cX11_afterTurns 21 = .ok (.iconst 4, 1) := by decide +kernel
theorem dX11_afterTurns_22 : decode cX11_afterTurns 22 = .ok (.goto 14, 3) := by decide +kernel
theorem dX11_afterTurns_25 : decode cX11_afterTurns 25 = .ok (.iload_n 1, 1) := by decide +kernel
theorem dX11_afterTurns_26 : decode cX11_afterTurns 26 = .ok (.bipush 120, 2) := by decide +kernel
theorem dX11_afterTurns_28 : decode cX11_afterTurns 28 = .ok (.if_icmp .ne 7, 3) := by decide +kernel
theorem dX11_afterTurns_31 : decode cX11_afterTurns 31 = .ok (.iconst 5, 1) := by decide +kernel
theorem dX11_afterTurns_32 : decode cX11_afterTurns 32 = .ok (.goto 4, 3) := by decide +kernel
theorem dX11_afterTurns_35 : decode cX11_afterTurns 35 = .ok (.iconst (-1), 1) := by decide +kernel
theorem dX11_afterTurns_36 : decode cX11_afterTurns 36 = .ok (.ireturn, 1) := by decide +kernel
theorem dX11_readVow_0 : decode cX11_readVow 0 = .ok (.aload_n 0, 1) := by decide +kernel
theorem dX11_readVow_1 : decode cX11_readVow 1 = .ok (.iconst 0, 1) := by decide +kernel
theorem dX11_readVow_2 : decode cX11_readVow 2 = .ok (.putfield 102, 3) := by decide +kernel
theorem dX11_readVow_5 : decode cX11_readVow 5 = .ok (.aload_n 0, 1) := by decide +kernel
theorem dX11_readVow_6 : decode cX11_readVow 6 = .ok (.iconst 0, 1) := by decide +kernel
theorem dX11_readVow_7 : decode cX11_readVow 7 = .ok (.putfield 108, 3) := by decide +kernel
theorem dX11_readVow_10 : decode cX11_readVow 10 = .ok (.aload_n 0, 1) := by decide +kernel
theorem dX11_readVow_11 : decode cX11_readVow 11 = .ok (.iconst 0, 1) := by decide +kernel
theorem dX11_readVow_12 : decode cX11_readVow 12 = .ok (.putfield 105, 3) := by decide +kernel
theorem dX11_readVow_15 : decode cX11_readVow 15 = .ok (.iconst 0, 1) := by decide +kernel
theorem dX11_readVow_16 : decode cX11_readVow 16 = .ok (.istore_n 1, 1) := by decide +kernel
theorem dX11_readVow_17 : decode cX11_readVow 17 = .ok (.iconst 0, 1) := by decide +kernel
theorem dX11_readVow_18 : decode cX11_readVow 18 = .ok (.istore_n 2, 1) := by decide +kernel
theorem dX11_readVow_19 : decode cX11_readVow 19 = .ok (.iconst 1, 1) := by decide +kernel
theorem dX11_readVow_20 : decode cX11_readVow 20 = .ok (.istore_n 3, 1) := by decide +kernel
theorem dX11_readVow_21 : decode cX11_readVow 21 = .ok (.iload_n 2, 1) := by decide +kernel
theorem dX11_readVow_22 : decode cX11_readVow 22 = .ok (.aload_n 0, 1) := by decide +kernel
theorem dX11_readVow_23 : decode cX11_readVow 23 = .ok (.getfield 87, 3) := by decide +kernel
theorem dX11_readVow_26 : decode cX11_readVow 26 = .ok (.if_icmp .ge 94, 3) := by decide +kernel
theorem dX11_readVow_29 : decode cX11_readVow 29 = .ok (.iload_n 3, 1) := by decide +kernel
theorem dX11_readVow_30 : decode cX11_readVow 30 = .ok (.ifCond .eq 90, 3) := by decide +kernel
theorem dX11_readVow_33 : decode cX11_readVow 33 = .ok (.aload_n 0, 1) := by decide +kernel
theorem dX11_readVow_34 : decode cX11_readVow 34 = .ok (.getfield 108, 3) := by decide +kernel
theorem dX11_readVow_37 : decode cX11_readVow 37 = .ok (.istore 4, 2) := by decide +kernel
theorem dX11_readVow_39 : decode cX11_readVow 39 = .ok (.aload_n 0, 1) := by decide +kernel
theorem dX11_readVow_40 : decode cX11_readVow 40 = .ok (.iload_n 1, 1) := by decide +kernel
theorem dX11_readVow_41 : decode cX11_readVow 41 = .ok (.aload_n 0, 1) := by decide +kernel
theorem dX11_readVow_42 : decode cX11_readVow 42 = .ok (.getfield 54, 3) := by decide +kernel
theorem dX11_readVow_45 : decode cX11_readVow 45 = .ok (.iload_n 2, 1) := by decide +kernel
theorem dX11_readVow_46 : decode cX11_readVow 46 = .ok (.baload, 1) := by decide +kernel
theorem dX11_readVow_47 : decode cX11_readVow 47 = .ok (.invokevirtual 111, 3) := by decide +kernel
theorem dX11_readVow_50 : decode cX11_readVow 50 = .ok (.istore 5, 2) := by decide +kernel
theorem dX11_readVow_52 : decode cX11_readVow 52 = .ok (.iload 5, 2) := by decide +kernel
theorem dX11_readVow_54 : decode cX11_readVow 54 = .ok (.iconst (-1), 1) := by decide +kernel
theorem dX11_readVow_55 : decode cX11_readVow 55 = .ok (.if_icmp .eq 7, 3) := by decide +kernel
theorem dX11_readVow_58 : decode cX11_readVow 58 = .ok (.iconst 1, 1) := by decide +kernel
theorem dX11_readVow_59 : decode cX11_readVow 59 = .ok (.goto 4, 3) := by decide +kernel
theorem dX11_readVow_62 : decode cX11_readVow 62 = .ok (.iconst 0, 1) := by decide +kernel
theorem dX11_readVow_63 : decode cX11_readVow 63 = .ok (.istore_n 3, 1) := by decide +kernel
theorem dX11_readVow_64 : decode cX11_readVow 64 = .ok (.aload_n 0, 1) := by decide +kernel
theorem dX11_readVow_65 : decode cX11_readVow 65 = .ok (.iload_n 3, 1) := by decide +kernel
theorem dX11_readVow_66 : decode cX11_readVow 66 = .ok (.ifCond .eq 23, 3) := by decide +kernel
theorem dX11_readVow_69 : decode cX11_readVow 69 = .ok (.aload_n 0, 1) := by decide +kernel
theorem dX11_readVow_70 : decode cX11_readVow 70 = .ok (.getfield 108, 3) := by decide +kernel
theorem dX11_readVow_73 : decode cX11_readVow 73 = .ok (.ifCond .ne 8, 3) := by decide +kernel
theorem dX11_readVow_76 : decode cX11_readVow 76 = .ok (.iload 4, 2) := by decide +kernel
theorem dX11_readVow_78 : decode cX11_readVow 78 = .ok (.ifCond .eq 7, 3) := by decide +kernel
theorem dX11_readVow_81 : decode cX11_readVow 81 = .ok (.iconst 1, 1) := by decide +kernel
theorem dX11_readVow_82 : decode cX11_readVow 82 = .ok (.goto 9, 3) := by decide +kernel
theorem dX11_readVow_85 : decode cX11_readVow 85 = .ok (.iconst 0, 1) := by decide +kernel
theorem dX11_readVow_86 : decode cX11_readVow 86 = .ok (.goto 5, 3) := by decide +kernel
theorem dX11_readVow_89 : decode cX11_readVow 89 = .ok (.iload 4, 2) := by decide +kernel
theorem dX11_readVow_91 : decode cX11_readVow 91 = .ok (.putfield 108, 3) := by decide +kernel
theorem dX11_readVow_94 : decode cX11_readVow 94 = .ok (.iload_n 3, 1) := by decide +kernel
theorem dX11_readVow_95 : decode cX11_readVow 95 = .ok (.ifCond .eq 8, 3) := by decide +kernel
theorem dX11_readVow_98 : decode cX11_readVow 98 = .ok (.iload 5, 2) := by decide +kernel
theorem dX11_readVow_100 : decode cX11_readVow 100 = .ok (.goto 4, 3) := by decide +kernel
theorem dX11_readVow_103 : decode cX11_readVow 103 = .ok (.iload_n 1, 1) := by decide +kernel
theorem dX11_readVow_104 : decode cX11_readVow 104 = .ok (.istore_n 1, 1) := by decide +kernel
theorem dX11_readVow_105 : decode cX11_readVow 105 = .ok (.iload_n 2, 1) := by decide +kernel
theorem dX11_readVow_106 : decode cX11_readVow 106 = .ok (.iload_n 3, 1) := by decide +kernel
theorem dX11_readVow_107 : decode cX11_readVow 107 = .ok (.ifCond .eq 7, 3) := by decide +kernel
theorem dX11_readVow_110 : decode cX11_readVow 110 = .ok (.iconst 1, 1) := by decide +kernel
theorem dX11_readVow_111 : decode cX11_readVow 111 = .ok (.goto 4, 3) := by decide +kernel
theorem dX11_readVow_114 : decode cX11_readVow 114 = .ok (.iconst 0, 1) := by decide +kernel
theorem dX11_readVow_115 : decode cX11_readVow 115 = .ok (.iadd, 1) := by decide +kernel
theorem dX11_readVow_116 : decode cX11_readVow 116 = .ok (.istore_n 2, 1) := by decide +kernel
theorem dX11_readVow_117 : decode cX11_readVow 117 = .ok (.goto (-96), 3) := by decide +kernel
theorem dX11_readVow_120 : decode cX11_readVow 120 = .ok (.aload_n 0, 1) := by decide +kernel
theorem dX11_readVow_121 : decode cX11_readVow 121 = .ok (.iload_n 2, 1) := by decide +kernel
theorem dX11_readVow_122 : decode cX11_readVow 122 = .ok (.putfield 115, 3) := by decide +kernel
theorem dX11_readVow_125 : decode cX11_readVow 125 = .ok (.aload_n 0, 1) := by decide +kernel
theorem dX11_readVow_126 : decode cX11_readVow 126 = .ok (.iload_n 2, 1) := by decide +kernel
theorem dX11_readVow_127 : decode cX11_readVow 127 = .ok (.aload_n 0, 1) := by decide +kernel
theorem dX11_readVow_128 : decode cX11_readVow 128 = .ok (.getfield 87, 3) := by decide +kernel
theorem dX11_readVow_131 : decode cX11_readVow 131 = .ok (.if_icmp .ne 28, 3) := by decide +kernel
theorem dX11_readVow_134 : decode cX11_readVow 134 = .ok (.iload_n 1, 1) := by decide +kernel
theorem dX11_readVow_135 : decode cX11_readVow 135 = .ok (.iconst 1, 1) := by decide +kernel
theorem dX11_readVow_136 : decode cX11_readVow 136 = .ok (.if_icmp .eq 19, 3) := by decide +kernel
theorem dX11_readVow_139 : decode cX11_readVow 139 = .ok (.iload_n 1, 1) := by decide +kernel
theorem dX11_readVow_140 : decode cX11_readVow 140 = .ok (.iconst 3, 1) := by decide +kernel
theorem dX11_readVow_141 : decode cX11_readVow 141 = .ok (.if_icmp .eq 14, 3) := by decide +kernel
theorem dX11_readVow_144 : decode cX11_readVow 144 = .ok (.iload_n 1, 1) := by decide +kernel
theorem dX11_readVow_145 : decode cX11_readVow 145 = .ok (.iconst 4, 1) := by decide +kernel
theorem dX11_readVow_146 : decode cX11_readVow 146 = .ok (.if_icmp .eq 9, 3) := by decide +kernel
theorem dX11_readVow_149 : decode cX11_readVow 149 = .ok (.iload_n 1, 1) := by decide +kernel
theorem dX11_readVow_150 : decode cX11_readVow 150 = .ok (.bipush 6, 2) := by decide +kernel
theorem dX11_readVow_152 : decode cX11_readVow 152 = .ok (.if_icmp .ne 7, 3) := by decide +kernel
theorem dX11_readVow_155 : decode cX11_readVow 155 = .ok (.iconst 1, 1) := by decide +kernel
theorem dX11_readVow_156 : decode cX11_readVow 156 = .ok (.goto 4, 3) := by decide +kernel
theorem dX11_readVow_159 : decode cX11_readVow 159 = .ok (.iconst 0, 1) := by decide +kernel
theorem dX11_readVow_160 : decode cX11_readVow 160 = .ok (.putfield 118, 3) := by decide +kernel
theorem dX11_readVow_163 : decode cX11_readVow 163 = .ok (.return_, 1) := by decide +kernel
theorem dX11_fault_0 : decode cX11_fault 0 = .ok (.aload_n 0, 1) := by decide +kernel
theorem dX11_fault_1 : decode cX11_fault 1 = .ok (.invokevirtual 121, 3) := by decide +kernel
theorem dX11_fault_4 : decode cX11_fault 4 = .ok (.aload_n 0, 1) := by decide +kernel
theorem dX11_fault_5 : decode cX11_fault 5 = .ok (.getfield 115, 3) := by decide +kernel
theorem dX11_fault_8 : decode cX11_fault 8 = .ok (.ireturn, 1) := by decide +kernel
theorem dX11_vow_0 : decode cX11_vow 0 = .ok (.aload_n 0, 1) := by decide +kernel
theorem dX11_vow_1 : decode cX11_vow 1 = .ok (.invokevirtual 121, 3) := by decide +kernel
theorem dX11_vow_4 : decode cX11_vow 4 = .ok (.aload_n 0, 1) := by decide +kernel
theorem dX11_vow_5 : decode cX11_vow 5 = .ok (.getfield 118, 3) := by decide +kernel
theorem dX11_vow_8 : decode cX11_vow 8 = .ok (.ifCond .ne 6, 3) := by decide +kernel
theorem dX11_vow_11 : decode cX11_vow 11 = .ok (.bipush (-103), 2) := by decide +kernel
theorem dX11_vow_13 : decode cX11_vow 13 = .ok (.ireturn, 1) := by decide +kernel
theorem dX11_vow_14 : decode cX11_vow 14 = .ok (.aload_n 0, 1) := by decide +kernel
theorem dX11_vow_15 : decode cX11_vow 15 = .ok (.getfield 124, 3) := by decide +kernel
theorem dX11_vow_18 : decode cX11_vow 18 = .ok (.bipush 6, 2) := by decide +kernel
theorem dX11_vow_20 : decode cX11_vow 20 = .ok (.if_icmp .ne 6, 3) := by decide +kernel
theorem dX11_vow_23 : decode cX11_vow 23 = .ok (.bipush (-104), 2) := by decide +kernel
theorem dX11_vow_25 : decode cX11_vow 25 = .ok (.ireturn, 1) := by decide +kernel
theorem dX11_vow_26 : decode cX11_vow 26 = .ok (.aload_n 0, 1) := by decide +kernel
theorem dX11_vow_27 : decode cX11_vow 27 = .ok (.getfield 41, 3) := by decide +kernel
theorem dX11_vow_30 : decode cX11_vow 30 = .ok (.aload_n 0, 1) := by decide +kernel
theorem dX11_vow_31 : decode cX11_vow 31 = .ok (.getfield 124, 3) := by decide +kernel
theorem dX11_vow_34 : decode cX11_vow 34 = .ok (.aload_n 0, 1) := by decide +kernel
theorem dX11_vow_35 : decode cX11_vow 35 = .ok (.getfield 94, 3) := by decide +kernel
theorem dX11_vow_38 : decode cX11_vow 38 = .ok (.bastore, 1) := by decide +kernel
theorem dX11_vow_39 : decode cX11_vow 39 = .ok (.aload_n 0, 1) := by decide +kernel
theorem dX11_vow_40 : decode cX11_vow 40 = .ok (.getfield 45, 3) := by decide +kernel
theorem dX11_vow_43 : decode cX11_vow 43 = .ok (.aload_n 0, 1) := by decide +kernel
theorem dX11_vow_44 : decode cX11_vow 44 = .ok (.getfield 124, 3) := by decide +kernel
theorem dX11_vow_47 : decode cX11_vow 47 = .ok (.aload_n 0, 1) := by decide +kernel
theorem dX11_vow_48 : decode cX11_vow 48 = .ok (.getfield 102, 3) := by decide +kernel
theorem dX11_vow_51 : decode cX11_vow 51 = .ok (.iastore, 1) := by decide +kernel
theorem dX11_vow_52 : decode cX11_vow 52 = .ok (.aload_n 0, 1) := by decide +kernel
theorem dX11_vow_53 : decode cX11_vow 53 = .ok (.getfield 48, 3) := by decide +kernel
theorem dX11_vow_56 : decode cX11_vow 56 = .ok (.aload_n 0, 1) := by decide +kernel
theorem dX11_vow_57 : decode cX11_vow 57 = .ok (.getfield 124, 3) := by decide +kernel
theorem dX11_vow_60 : decode cX11_vow 60 = .ok (.aload_n 0, 1) := by decide +kernel
theorem dX11_vow_61 : decode cX11_vow 61 = .ok (.getfield 108, 3) := by decide +kernel
theorem dX11_vow_64 : decode cX11_vow 64 = .ok (.bastore, 1) := by decide +kernel
theorem dX11_vow_65 : decode cX11_vow 65 = .ok (.aload_n 0, 1) := by decide +kernel
theorem dX11_vow_66 : decode cX11_vow 66 = .ok (.getfield 51, 3) := by decide +kernel
theorem dX11_vow_69 : decode cX11_vow 69 = .ok (.aload_n 0, 1) := by decide +kernel
theorem dX11_vow_70 : decode cX11_vow 70 = .ok (.getfield 124, 3) := by decide +kernel
theorem dX11_vow_73 : decode cX11_vow 73 = .ok (.aload_n 0, 1) := by decide +kernel
theorem dX11_vow_74 : decode cX11_vow 74 = .ok (.getfield 105, 3) := by decide +kernel
theorem dX11_vow_77 : decode cX11_vow 77 = .ok (.iastore, 1) := by decide +kernel
theorem dX11_vow_78 : decode cX11_vow 78 = .ok (.aload_n 0, 1) := by decide +kernel
theorem dX11_vow_79 : decode cX11_vow 79 = .ok (.dup, 1) := by decide +kernel
theorem dX11_vow_80 : decode cX11_vow 80 = .ok (.getfield 124, 3) := by decide +kernel
theorem dX11_vow_83 : decode cX11_vow 83 = .ok (.iconst 1, 1) := by decide +kernel
theorem dX11_vow_84 : decode cX11_vow 84 = .ok (.iadd, 1) := by decide +kernel
theorem dX11_vow_85 : decode cX11_vow 85 = .ok (.putfield 124, 3) := by decide +kernel
theorem dX11_vow_88 : decode cX11_vow 88 = .ok (.aload_n 0, 1) := by decide +kernel
theorem dX11_vow_89 : decode cX11_vow 89 = .ok (.iconst 0, 1) := by decide +kernel
theorem dX11_vow_90 : decode cX11_vow 90 = .ok (.putfield 87, 3) := by decide +kernel
theorem dX11_vow_93 : decode cX11_vow 93 = .ok (.aload_n 0, 1) := by decide +kernel
theorem dX11_vow_94 : decode cX11_vow 94 = .ok (.getfield 124, 3) := by decide +kernel
theorem dX11_vow_97 : decode cX11_vow 97 = .ok (.iconst 1, 1) := by decide +kernel
theorem dX11_vow_98 : decode cX11_vow 98 = .ok (.isub, 1) := by decide +kernel
theorem dX11_vow_99 : decode cX11_vow 99 = .ok (.ireturn, 1) := by decide +kernel
theorem dX11_isVow_0 : decode cX11_isVow 0 = .ok (.iload_n 1, 1) := by decide +kernel
theorem dX11_isVow_1 : decode cX11_isVow 1 = .ok (.iconst 0, 1) := by decide +kernel
theorem dX11_isVow_2 : decode cX11_isVow 2 = .ok (.aload_n 0, 1) := by decide +kernel
theorem dX11_isVow_3 : decode cX11_isVow 3 = .ok (.getfield 124, 3) := by decide +kernel
theorem dX11_isVow_6 : decode cX11_isVow 6 = .ok (.iconst 1, 1) := by decide +kernel
theorem dX11_isVow_7 : decode cX11_isVow 7 = .ok (.isub, 1) := by decide +kernel
theorem dX11_isVow_8 : decode cX11_isVow 8 = .ok (.invokestatic 90, 3) := by decide +kernel
theorem dX11_isVow_11 : decode cX11_isVow 11 = .ok (.ireturn, 1) := by decide +kernel
theorem dX11_vowNow_0 : decode cX11_vowNow 0 = .ok (.iload_n 2, 1) := by decide +kernel
theorem dX11_vowNow_1 : decode cX11_vowNow 1 = .ok (.tableswitch 64 0 2 #[27, 42, 49], 27) := by decide +kernel
theorem dX11_vowNow_28 : decode cX11_vowNow 28 = .ok (.aload_n 0, 1) := by decide +kernel
theorem dX11_vowNow_29 : decode cX11_vowNow 29 = .ok (.getfield 41, 3) := by decide +kernel
theorem dX11_vowNow_32 : decode cX11_vowNow 32 = .ok (.iload_n 1, 1) := by decide +kernel
theorem dX11_vowNow_33 : decode cX11_vowNow 33 = .ok (.baload, 1) := by decide +kernel
theorem dX11_vowNow_34 : decode cX11_vowNow 34 = .ok (.ifCond .eq 7, 3) := by decide +kernel
theorem dX11_vowNow_37 : decode cX11_vowNow 37 = .ok (.iconst 1, 1) := by decide +kernel
theorem dX11_vowNow_38 : decode cX11_vowNow 38 = .ok (.goto 4, 3) := by decide +kernel
theorem dX11_vowNow_41 : decode cX11_vowNow 41 = .ok (.iconst 0, 1) := by decide +kernel
theorem dX11_vowNow_42 : decode cX11_vowNow 42 = .ok (.ireturn, 1) := by decide +kernel
theorem dX11_vowNow_43 : decode cX11_vowNow 43 = .ok (.aload_n 0, 1) := by decide +kernel
theorem dX11_vowNow_44 : decode cX11_vowNow 44 = .ok (.getfield 45, 3) := by decide +kernel
theorem dX11_vowNow_47 : decode cX11_vowNow 47 = .ok (.iload_n 1, 1) := by decide +kernel
theorem dX11_vowNow_48 : decode cX11_vowNow 48 = .ok (.iaload, 1) := by decide +kernel
theorem dX11_vowNow_49 : decode cX11_vowNow 49 = .ok (.ireturn, 1) := by decide +kernel
theorem dX11_vowNow_50 : decode cX11_vowNow 50 = .ok (.aload_n 0, 1) := by decide +kernel
theorem dX11_vowNow_51 : decode cX11_vowNow 51 = .ok (.getfield 48, 3) := by decide +kernel
theorem dX11_vowNow_54 : decode cX11_vowNow 54 = .ok (.iload_n 1, 1) := by decide +kernel
theorem dX11_vowNow_55 : decode cX11_vowNow 55 = .ok (.baload, 1) := by decide +kernel
theorem dX11_vowNow_56 : decode cX11_vowNow 56 = .ok (.ifCond .eq 7, 3) := by decide +kernel
theorem dX11_vowNow_59 : decode cX11_vowNow 59 = .ok (.iconst 1, 1) := by decide +kernel
theorem dX11_vowNow_60 : decode cX11_vowNow 60 = .ok (.goto 4, 3) := by decide +kernel
theorem dX11_vowNow_63 : decode cX11_vowNow 63 = .ok (.iconst 0, 1) := by decide +kernel
theorem dX11_vowNow_64 : decode cX11_vowNow 64 = .ok (.ireturn, 1) := by decide +kernel
theorem dX11_vowNow_65 : decode cX11_vowNow 65 = .ok (.aload_n 0, 1) := by decide +kernel
theorem dX11_vowNow_66 : decode cX11_vowNow 66 = .ok (.getfield 51, 3) := by decide +kernel
theorem dX11_vowNow_69 : decode cX11_vowNow 69 = .ok (.iload_n 1, 1) := by decide +kernel
theorem dX11_vowNow_70 : decode cX11_vowNow 70 = .ok (.iaload, 1) := by decide +kernel
theorem dX11_vowNow_71 : decode cX11_vowNow 71 = .ok (.ireturn, 1) := by decide +kernel
theorem dX11_vowTold_0 : decode cX11_vowTold 0 = .ok (.aload_n 0, 1) := by decide +kernel
theorem dX11_vowTold_1 : decode cX11_vowTold 1 = .ok (.iload_n 1, 1) := by decide +kernel
theorem dX11_vowTold_2 : decode cX11_vowTold 2 = .ok (.invokevirtual 127, 3) := by decide +kernel
theorem dX11_vowTold_5 : decode cX11_vowTold 5 = .ok (.ifCond .ne 8, 3) := by decide +kernel
theorem dX11_vowTold_8 : decode cX11_vowTold 8 = .ok (.bipush (-101), 2) := by decide +kernel
theorem dX11_vowTold_10 : decode cX11_vowTold 10 = .ok (.goto 23, 3) := by decide +kernel
theorem dX11_vowTold_13 : decode cX11_vowTold 13 = .ok (.iload_n 2, 1) := by decide +kernel
theorem dX11_vowTold_14 : decode cX11_vowTold 14 = .ok (.iconst 0, 1) := by decide +kernel
theorem dX11_vowTold_15 : decode cX11_vowTold 15 = .ok (.iconst 3, 1) := by decide +kernel
theorem dX11_vowTold_16 : decode cX11_vowTold 16 = .ok (.invokestatic 90, 3) := by decide +kernel
theorem dX11_vowTold_19 : decode cX11_vowTold 19 = .ok (.ifCond .eq 12, 3) := by decide +kernel
theorem dX11_vowTold_22 : decode cX11_vowTold 22 = .ok (.aload_n 0, 1) := by decide +kernel
theorem dX11_vowTold_23 : decode cX11_vowTold 23 = .ok (.iload_n 1, 1) := by decide +kernel
theorem dX11_vowTold_24 : decode cX11_vowTold 24 = .ok (.iload_n 2, 1) := by decide +kernel
theorem dX11_vowTold_25 : decode cX11_vowTold 25 = .ok (.invokevirtual 131, 3) := by decide +kernel
theorem dX11_vowTold_28 : decode cX11_vowTold 28 = .ok (.goto 5, 3) := by decide +kernel
theorem dX11_vowTold_31 : decode cX11_vowTold 31 = .ok (.bipush (-102), 2) := by decide +kernel
theorem dX11_vowTold_33 : decode cX11_vowTold 33 = .ok (.ireturn, 1) := by decide +kernel
theorem dX11_isHermit_0 : decode cX11_isHermit 0 = .ok (.iload_n 1, 1) := by decide +kernel
theorem dX11_isHermit_1 : decode cX11_isHermit 1 = .ok (.iconst 0, 1) := by decide +kernel
theorem dX11_isHermit_2 : decode cX11_isHermit 2 = .ok (.aload_n 0, 1) := by decide +kernel
theorem dX11_isHermit_3 : decode cX11_isHermit 3 = .ok (.getfield 134, 3) := by decide +kernel
theorem dX11_isHermit_6 : decode cX11_isHermit 6 = .ok (.iconst 1, 1) := by decide +kernel
theorem dX11_isHermit_7 : decode cX11_isHermit 7 = .ok (.isub, 1) := by decide +kernel
theorem dX11_isHermit_8 : decode cX11_isHermit 8 = .ok (.invokestatic 90, 3) := by decide +kernel
theorem dX11_isHermit_11 : decode cX11_isHermit 11 = .ok (.ireturn, 1) := by decide +kernel
theorem dX11_isNumber_0 : decode cX11_isNumber 0 = .ok (.iload_n 0, 1) := by decide +kernel
theorem dX11_isNumber_1 : decode cX11_isNumber 1 = .ok (.iconst 1, 1) := by decide +kernel
theorem dX11_isNumber_2 : decode cX11_isNumber 2 = .ok (.if_icmp .eq 8, 3) := by decide +kernel
theorem dX11_isNumber_5 : decode cX11_isNumber 5 = .ok (.iload_n 0, 1) := by decide +kernel
theorem dX11_isNumber_6 : decode cX11_isNumber 6 = .ok (.iconst 4, 1) := by decide +kernel
theorem dX11_isNumber_7 : decode cX11_isNumber 7 = .ok (.if_icmp .ne 7, 3) := by decide +kernel
theorem dX11_isNumber_10 : decode cX11_isNumber 10 = .ok (.iconst 1, 1) := by decide +kernel
theorem dX11_isNumber_11 : decode cX11_isNumber 11 = .ok (.goto 4, 3) := by decide +kernel
theorem dX11_isNumber_14 : decode cX11_isNumber 14 = .ok (.iconst 0, 1) := by decide +kernel
theorem dX11_isNumber_15 : decode cX11_isNumber 15 = .ok (.istore_n 2, 1) := by decide +kernel
theorem dX11_isNumber_16 : decode cX11_isNumber 16 = .ok (.iload_n 2, 1) := by decide +kernel
theorem dX11_isNumber_17 : decode cX11_isNumber 17 = .ok (.ifCond .eq 12, 3) := by decide +kernel
theorem dX11_isNumber_20 : decode cX11_isNumber 20 = .ok (.iload_n 1, 1) := by decide +kernel
theorem dX11_isNumber_21 : decode cX11_isNumber 21 = .ok (.iconst 2, 1) := by decide +kernel
theorem dX11_isNumber_22 : decode cX11_isNumber 22 = .ok (.iconst 4, 1) := by decide +kernel
theorem dX11_isNumber_23 : decode cX11_isNumber 23 = .ok (.invokestatic 90, 3) := by decide +kernel
theorem dX11_isNumber_26 : decode cX11_isNumber 26 = .ok (.goto 26, 3) := by decide +kernel
theorem dX11_isNumber_29 : decode cX11_isNumber 29 = .ok (.iload_n 0, 1) := by decide +kernel
theorem dX11_isNumber_30 : decode cX11_isNumber 30 = .ok (.iconst 3, 1) := by decide +kernel
theorem dX11_isNumber_31 : decode cX11_isNumber 31 = .ok (.if_icmp .ne 12, 3) := by decide +kernel
theorem dX11_isNumber_34 : decode cX11_isNumber 34 = .ok (.iload_n 1, 1) := by decide +kernel
theorem dX11_isNumber_35 : decode cX11_isNumber 35 = .ok (.iconst 1, 1) := by decide +kernel
theorem dX11_isNumber_36 : decode cX11_isNumber 36 = .ok (.iconst 4, 1) := by decide +kernel
theorem dX11_isNumber_37 : decode cX11_isNumber 37 = .ok (.invokestatic 90, 3) := by decide +kernel
theorem dX11_isNumber_40 : decode cX11_isNumber 40 = .ok (.goto 12, 3) := by decide +kernel
theorem dX11_isNumber_43 : decode cX11_isNumber 43 = .ok (.iload_n 1, 1) := by decide +kernel
theorem dX11_isNumber_44 : decode cX11_isNumber 44 = .ok (.ifCond .ne 7, 3) := by decide +kernel
theorem dX11_isNumber_47 : decode cX11_isNumber 47 = .ok (.iconst 1, 1) := by decide +kernel
theorem dX11_isNumber_48 : decode cX11_isNumber 48 = .ok (.goto 4, 3) := by decide +kernel
theorem dX11_isNumber_51 : decode cX11_isNumber 51 = .ok (.iconst 0, 1) := by decide +kernel
theorem dX11_isNumber_52 : decode cX11_isNumber 52 = .ok (.ireturn, 1) := by decide +kernel
theorem dX11_hermit_0 : decode cX11_hermit 0 = .ok (.iload_n 1, 1) := by decide +kernel
theorem dX11_hermit_1 : decode cX11_hermit 1 = .ok (.iconst 0, 1) := by decide +kernel
theorem dX11_hermit_2 : decode cX11_hermit 2 = .ok (.iconst 4, 1) := by decide +kernel
theorem dX11_hermit_3 : decode cX11_hermit 3 = .ok (.invokestatic 90, 3) := by decide +kernel
theorem dX11_hermit_6 : decode cX11_hermit 6 = .ok (.ifCond .eq 31, 3) := by decide +kernel
theorem dX11_hermit_9 : decode cX11_hermit 9 = .ok (.iload_n 1, 1) := by decide +kernel
theorem dX11_hermit_10 : decode cX11_hermit 10 = .ok (.iload_n 2, 1) := by decide +kernel
theorem dX11_hermit_11 : decode cX11_hermit 11 = .ok (.invokestatic 137, 3) := by decide +kernel
theorem dX11_hermit_14 : decode cX11_hermit 14 = .ok (.ifCond .eq 23, 3) := by decide +kernel
theorem dX11_hermit_17 : decode cX11_hermit 17 = .ok (.iload_n 3, 1) := by decide +kernel
theorem dX11_hermit_18 : decode cX11_hermit 18 = .ok (.iconst 1, 1) := by decide +kernel
theorem dX11_hermit_19 : decode cX11_hermit 19 = .ok (.bipush 99, 2) := by decide +kernel
theorem dX11_hermit_21 : decode cX11_hermit 21 = .ok (.invokestatic 90, 3) := by decide +kernel
theorem dX11_hermit_24 : decode cX11_hermit 24 = .ok (.ifCond .eq 13, 3) := by decide +kernel
theorem dX11_hermit_27 : decode cX11_hermit 27 = .ok (.iload 4, 2) := by decide +kernel
theorem dX11_hermit_29 : decode cX11_hermit 29 = .ok (.iconst 0, 1) := by decide +kernel
theorem dX11_hermit_30 : decode cX11_hermit 30 = .ok (.iconst 3, 1) := by decide +kernel
theorem dX11_hermit_31 : decode cX11_hermit 31 = .ok (.invokestatic 90, 3) := by decide +kernel
theorem dX11_hermit_34 : decode cX11_hermit 34 = .ok (.ifCond .ne 6, 3) := by decide +kernel
theorem dX11_hermit_37 : decode cX11_hermit 37 = .ok (.bipush (-102), 2) := by decide +kernel
theorem dX11_hermit_39 : decode cX11_hermit 39 = .ok (.ireturn, 1) := by decide +kernel
theorem dX11_hermit_40 : decode cX11_hermit 40 = .ok (.iload 5, 2) := by decide +kernel
theorem dX11_hermit_42 : decode cX11_hermit 42 = .ok (.iconst 1, 1) := by decide +kernel
theorem dX11_hermit_43 : decode cX11_hermit 43 = .ok (.bipush 9, 2) := by decide +kernel
theorem dX11_hermit_45 : decode cX11_hermit 45 = .ok (.invokestatic 90, 3) := by decide +kernel
theorem dX11_hermit_48 : decode cX11_hermit 48 = .ok (.ifCond .eq 14, 3) := by decide +kernel
theorem dX11_hermit_51 : decode cX11_hermit 51 = .ok (.iload 6, 2) := by decide +kernel
theorem dX11_hermit_53 : decode cX11_hermit 53 = .ok (.iconst 0, 1) := by decide +kernel
theorem dX11_hermit_54 : decode cX11_hermit 54 = .ok (.bipush 99, 2) := by decide +kernel
theorem dX11_hermit_56 : decode cX11_hermit 56 = .ok (.invokestatic 90, 3) := by decide +kernel
theorem dX11_hermit_59 : decode cX11_hermit 59 = .ok (.ifCond .ne 6, 3) := by decide +kernel
theorem dX11_hermit_62 : decode cX11_hermit 62 = .ok (.bipush (-102), 2) := by decide +kernel
theorem dX11_hermit_64 : decode cX11_hermit 64 = .ok (.ireturn, 1) := by decide +kernel
theorem dX11_hermit_65 : decode cX11_hermit 65 = .ok (.aload_n 0, 1) := by decide +kernel
theorem dX11_hermit_66 : decode cX11_hermit 66 = .ok (.getfield 134, 3) := by decide +kernel
theorem dX11_hermit_69 : decode cX11_hermit 69 = .ok (.bipush 10, 2) := by decide +kernel
theorem dX11_hermit_71 : decode cX11_hermit 71 = .ok (.if_icmp .ne 6, 3) := by decide +kernel
theorem dX11_hermit_74 : decode cX11_hermit 74 = .ok (.bipush (-104), 2) := by decide +kernel
theorem dX11_hermit_76 : decode cX11_hermit 76 = .ok (.ireturn, 1) := by decide +kernel
theorem dX11_hermit_77 : decode cX11_hermit 77 = .ok (.aload_n 0, 1) := by decide +kernel
theorem dX11_hermit_78 : decode cX11_hermit 78 = .ok (.getfield 7, 3) := by decide +kernel
theorem dX11_hermit_81 : decode cX11_hermit 81 = .ok (.aload_n 0, 1) := by decide +kernel
theorem dX11_hermit_82 : decode cX11_hermit 82 = .ok (.getfield 134, 3) := by decide +kernel
theorem dX11_hermit_85 : decode cX11_hermit 85 = .ok (.iload_n 1, 1) := by decide +kernel
theorem dX11_hermit_86 : decode cX11_hermit 86 = .ok (.iastore, 1) := by decide +kernel
theorem dX11_hermit_87 : decode cX11_hermit 87 = .ok (.aload_n 0, 1) := by decide +kernel
theorem dX11_hermit_88 : decode cX11_hermit 88 = .ok (.getfield 13, 3) := by decide +kernel
theorem dX11_hermit_91 : decode cX11_hermit 91 = .ok (.aload_n 0, 1) := by decide +kernel
theorem dX11_hermit_92 : decode cX11_hermit 92 = .ok (.getfield 134, 3) := by decide +kernel
theorem dX11_hermit_95 : decode cX11_hermit 95 = .ok (.iload_n 2, 1) := by decide +kernel
theorem dX11_hermit_96 : decode cX11_hermit 96 = .ok (.iastore, 1) := by decide +kernel
theorem dX11_hermit_97 : decode cX11_hermit 97 = .ok (.aload_n 0, 1) := by decide +kernel
theorem dX11_hermit_98 : decode cX11_hermit 98 = .ok (.getfield 16, 3) := by decide +kernel
theorem dX11_hermit_101 : decode cX11_hermit 101 = .ok (.aload_n 0, 1) := by decide +kernel
theorem dX11_hermit_102 : decode cX11_hermit 102 = .ok (.getfield 134, 3) := by decide +kernel
theorem dX11_hermit_105 : decode cX11_hermit 105 = .ok (.iload_n 3, 1) := by decide +kernel
theorem dX11_hermit_106 : decode cX11_hermit 106 = .ok (.iastore, 1) := by decide +kernel
theorem dX11_hermit_107 : decode cX11_hermit 107 = .ok (.aload_n 0, 1) := by decide +kernel
theorem dX11_hermit_108 : decode cX11_hermit 108 = .ok (.getfield 19, 3) := by decide +kernel
theorem dX11_hermit_111 : decode cX11_hermit 111 = .ok (.aload_n 0, 1) := by decide +kernel
theorem dX11_hermit_112 : decode cX11_hermit 112 = .ok (.getfield 134, 3) := by decide +kernel
theorem dX11_hermit_115 : decode cX11_hermit 115 = .ok (.iload 4, 2) := by decide +kernel
theorem dX11_hermit_117 : decode cX11_hermit 117 = .ok (.iastore, 1) := by decide +kernel
theorem dX11_hermit_118 : decode cX11_hermit 118 = .ok (.aload_n 0, 1) := by decide +kernel
theorem dX11_hermit_119 : decode cX11_hermit 119 = .ok (.getfield 22, 3) := by decide +kernel
theorem dX11_hermit_122 : decode cX11_hermit 122 = .ok (.aload_n 0, 1) := by decide +kernel
theorem dX11_hermit_123 : decode cX11_hermit 123 = .ok (.getfield 134, 3) := by decide +kernel
theorem dX11_hermit_126 : decode cX11_hermit 126 = .ok (.iload 5, 2) := by decide +kernel
theorem dX11_hermit_128 : decode cX11_hermit 128 = .ok (.iastore, 1) := by decide +kernel
theorem dX11_hermit_129 : decode cX11_hermit 129 = .ok (.aload_n 0, 1) := by decide +kernel
theorem dX11_hermit_130 : decode cX11_hermit 130 = .ok (.getfield 25, 3) := by decide +kernel
theorem dX11_hermit_133 : decode cX11_hermit 133 = .ok (.aload_n 0, 1) := by decide +kernel
theorem dX11_hermit_134 : decode cX11_hermit 134 = .ok (.getfield 134, 3) := by decide +kernel
theorem dX11_hermit_137 : decode cX11_hermit 137 = .ok (.iload 6, 2) := by decide +kernel
theorem dX11_hermit_139 : decode cX11_hermit 139 = .ok (.iastore, 1) := by decide +kernel
theorem dX11_hermit_140 : decode cX11_hermit 140 = .ok (.aload_n 0, 1) := by decide +kernel
theorem dX11_hermit_141 : decode cX11_hermit 141 = .ok (.getfield 28, 3) := by decide +kernel
theorem dX11_hermit_144 : decode cX11_hermit 144 = .ok (.aload_n 0, 1) := by decide +kernel
theorem dX11_hermit_145 : decode cX11_hermit 145 = .ok (.getfield 134, 3) := by decide +kernel
theorem dX11_hermit_148 : decode cX11_hermit 148 = .ok (.aload_n 0, 1) := by decide +kernel
theorem dX11_hermit_149 : decode cX11_hermit 149 = .ok (.getfield 134, 3) := by decide +kernel
theorem dX11_hermit_152 : decode cX11_hermit 152 = .ok (.iastore, 1) := by decide +kernel
theorem dX11_hermit_153 : decode cX11_hermit 153 = .ok (.aload_n 0, 1) := by decide +kernel
theorem dX11_hermit_154 : decode cX11_hermit 154 = .ok (.getfield 31, 3) := by decide +kernel
theorem dX11_hermit_157 : decode cX11_hermit 157 = .ok (.aload_n 0, 1) := by decide +kernel
theorem dX11_hermit_158 : decode cX11_hermit 158 = .ok (.getfield 134, 3) := by decide +kernel
theorem dX11_hermit_161 : decode cX11_hermit 161 = .ok (.aload_n 0, 1) := by decide +kernel
theorem dX11_hermit_162 : decode cX11_hermit 162 = .ok (.getfield 134, 3) := by decide +kernel
theorem dX11_hermit_165 : decode cX11_hermit 165 = .ok (.iastore, 1) := by decide +kernel
theorem dX11_hermit_166 : decode cX11_hermit 166 = .ok (.aload_n 0, 1) := by decide +kernel
theorem dX11_hermit_167 : decode cX11_hermit 167 = .ok (.dup, 1) := by decide +kernel
theorem dX11_hermit_168 : decode cX11_hermit 168 = .ok (.getfield 134, 3) := by decide +kernel
theorem dX11_hermit_171 : decode cX11_hermit 171 = .ok (.iconst 1, 1) := by decide +kernel
theorem dX11_hermit_172 : decode cX11_hermit 172 = .ok (.iadd, 1) := by decide +kernel
theorem dX11_hermit_173 : decode cX11_hermit 173 = .ok (.putfield 134, 3) := by decide +kernel
theorem dX11_hermit_176 : decode cX11_hermit 176 = .ok (.aload_n 0, 1) := by decide +kernel
theorem dX11_hermit_177 : decode cX11_hermit 177 = .ok (.getfield 134, 3) := by decide +kernel
theorem dX11_hermit_180 : decode cX11_hermit 180 = .ok (.iconst 1, 1) := by decide +kernel
theorem dX11_hermit_181 : decode cX11_hermit 181 = .ok (.isub, 1) := by decide +kernel
theorem dX11_hermit_182 : decode cX11_hermit 182 = .ok (.ireturn, 1) := by decide +kernel
theorem dX11_as_0 : decode cX11_as 0 = .ok (.aload_n 0, 1) := by decide +kernel
theorem dX11_as_1 : decode cX11_as 1 = .ok (.iload_n 1, 1) := by decide +kernel
theorem dX11_as_2 : decode cX11_as 2 = .ok (.invokevirtual 141, 3) := by decide +kernel
theorem dX11_as_5 : decode cX11_as 5 = .ok (.ifCond .ne 6, 3) := by decide +kernel
theorem dX11_as_8 : decode cX11_as 8 = .ok (.bipush (-101), 2) := by decide +kernel
theorem dX11_as_10 : decode cX11_as 10 = .ok (.ireturn, 1) := by decide +kernel
theorem dX11_as_11 : decode cX11_as 11 = .ok (.iload_n 2, 1) := by decide +kernel
theorem dX11_as_12 : decode cX11_as 12 = .ok (.iconst 0, 1) := by decide +kernel
theorem dX11_as_13 : decode cX11_as 13 = .ok (.iconst 4, 1) := by decide +kernel
theorem dX11_as_14 : decode cX11_as 14 = .ok (.invokestatic 90, 3) := by decide +kernel
theorem dX11_as_17 : decode cX11_as 17 = .ok (.ifCond .ne 6, 3) := by decide +kernel
theorem dX11_as_20 : decode cX11_as 20 = .ok (.bipush (-102), 2) := by decide +kernel
theorem dX11_as_22 : decode cX11_as 22 = .ok (.ireturn, 1) := by decide +kernel
theorem dX11_as_23 : decode cX11_as 23 = .ok (.aload_n 0, 1) := by decide +kernel
theorem dX11_as_24 : decode cX11_as 24 = .ok (.getfield 7, 3) := by decide +kernel
theorem dX11_as_27 : decode cX11_as 27 = .ok (.iload_n 1, 1) := by decide +kernel
theorem dX11_as_28 : decode cX11_as 28 = .ok (.iaload, 1) := by decide +kernel
theorem dX11_as_29 : decode cX11_as 29 = .ok (.istore_n 3, 1) := by decide +kernel
theorem dX11_as_30 : decode cX11_as 30 = .ok (.iload_n 2, 1) := by decide +kernel
theorem dX11_as_31 : decode cX11_as 31 = .ok (.ifCond .eq 18, 3) := by decide +kernel
theorem dX11_as_34 : decode cX11_as 34 = .ok (.iload_n 3, 1) := by decide +kernel
theorem dX11_as_35 : decode cX11_as 35 = .ok (.iload_n 2, 1) := by decide +kernel
theorem dX11_as_36 : decode cX11_as 36 = .ok (.if_icmp .eq 13, 3) := by decide +kernel
theorem dX11_as_39 : decode cX11_as 39 = .ok (.iload_n 2, 1) := by decide +kernel
theorem dX11_as_40 : decode cX11_as 40 = .ok (.iconst 1, 1) := by decide +kernel
theorem dX11_as_41 : decode cX11_as 41 = .ok (.if_icmp .ne 12, 3) := by decide +kernel
theorem dX11_as_44 : decode cX11_as 44 = .ok (.iload_n 3, 1) := by decide +kernel
theorem dX11_as_45 : decode cX11_as 45 = .ok (.iconst 4, 1) := by decide +kernel
theorem dX11_as_46 : decode cX11_as 46 = .ok (.if_icmp .ne 7, 3) := by decide +kernel
theorem dX11_as_49 : decode cX11_as 49 = .ok (.iload_n 1, 1) := by decide +kernel
theorem dX11_as_50 : decode cX11_as 50 = .ok (.goto 4, 3) := by decide +kernel
theorem dX11_as_53 : decode cX11_as 53 = .ok (.iconst (-1), 1) := by decide +kernel
theorem dX11_as_54 : decode cX11_as 54 = .ok (.ireturn, 1) := by decide +kernel
theorem dX11_hermitNow_0 : decode cX11_hermitNow 0 = .ok (.iload_n 2, 1) := by decide +kernel
theorem dX11_hermitNow_1 : decode cX11_hermitNow 1 = .ok (.tableswitch 81 0 5 #[39, 46, 53, 60, 67, 74], 39) := by decide +kernel
theorem dX11_hermitNow_40 : decode cX11_hermitNow 40 = .ok (.aload_n 0, 1) := by decide +kernel
theorem dX11_hermitNow_41 : decode cX11_hermitNow 41 = .ok (.getfield 7, 3) := by decide +kernel
theorem dX11_hermitNow_44 : decode cX11_hermitNow 44 = .ok (.iload_n 1, 1) := by decide +kernel
theorem dX11_hermitNow_45 : decode cX11_hermitNow 45 = .ok (.iaload, 1) := by decide +kernel
theorem dX11_hermitNow_46 : decode cX11_hermitNow 46 = .ok (.ireturn, 1) := by decide +kernel
theorem dX11_hermitNow_47 : decode cX11_hermitNow 47 = .ok (.aload_n 0, 1) := by decide +kernel
theorem dX11_hermitNow_48 : decode cX11_hermitNow 48 = .ok (.getfield 13, 3) := by decide +kernel
theorem dX11_hermitNow_51 : decode cX11_hermitNow 51 = .ok (.iload_n 1, 1) := by decide +kernel
theorem dX11_hermitNow_52 : decode cX11_hermitNow 52 = .ok (.iaload, 1) := by decide +kernel
theorem dX11_hermitNow_53 : decode cX11_hermitNow 53 = .ok (.ireturn, 1) := by decide +kernel
theorem dX11_hermitNow_54 : decode cX11_hermitNow 54 = .ok (.aload_n 0, 1) := by decide +kernel
theorem dX11_hermitNow_55 : decode cX11_hermitNow 55 = .ok (.getfield 16, 3) := by decide +kernel
theorem dX11_hermitNow_58 : decode cX11_hermitNow 58 = .ok (.iload_n 1, 1) := by decide +kernel
theorem dX11_hermitNow_59 : decode cX11_hermitNow 59 = .ok (.iaload, 1) := by decide +kernel
theorem dX11_hermitNow_60 : decode cX11_hermitNow 60 = .ok (.ireturn, 1) := by decide +kernel
theorem dX11_hermitNow_61 : decode cX11_hermitNow 61 = .ok (.aload_n 0, 1) := by decide +kernel
theorem dX11_hermitNow_62 : decode cX11_hermitNow 62 = .ok (.getfield 19, 3) := by decide +kernel
theorem dX11_hermitNow_65 : decode cX11_hermitNow 65 = .ok (.iload_n 1, 1) := by decide +kernel
theorem dX11_hermitNow_66 : decode cX11_hermitNow 66 = .ok (.iaload, 1) := by decide +kernel
theorem dX11_hermitNow_67 : decode cX11_hermitNow 67 = .ok (.ireturn, 1) := by decide +kernel
theorem dX11_hermitNow_68 : decode cX11_hermitNow 68 = .ok (.aload_n 0, 1) := by decide +kernel
theorem dX11_hermitNow_69 : decode cX11_hermitNow 69 = .ok (.getfield 22, 3) := by decide +kernel
theorem dX11_hermitNow_72 : decode cX11_hermitNow 72 = .ok (.iload_n 1, 1) := by decide +kernel
theorem dX11_hermitNow_73 : decode cX11_hermitNow 73 = .ok (.iaload, 1) := by decide +kernel
theorem dX11_hermitNow_74 : decode cX11_hermitNow 74 = .ok (.ireturn, 1) := by decide +kernel
theorem dX11_hermitNow_75 : decode cX11_hermitNow 75 = .ok (.aload_n 0, 1) := by decide +kernel
theorem dX11_hermitNow_76 : decode cX11_hermitNow 76 = .ok (.getfield 25, 3) := by decide +kernel
theorem dX11_hermitNow_79 : decode cX11_hermitNow 79 = .ok (.iload_n 1, 1) := by decide +kernel
theorem dX11_hermitNow_80 : decode cX11_hermitNow 80 = .ok (.iaload, 1) := by decide +kernel
theorem dX11_hermitNow_81 : decode cX11_hermitNow 81 = .ok (.ireturn, 1) := by decide +kernel
theorem dX11_hermitNow_82 : decode cX11_hermitNow 82 = .ok (.aload_n 0, 1) := by decide +kernel
theorem dX11_hermitNow_83 : decode cX11_hermitNow 83 = .ok (.getfield 28, 3) := by decide +kernel
theorem dX11_hermitNow_86 : decode cX11_hermitNow 86 = .ok (.iload_n 1, 1) := by decide +kernel
theorem dX11_hermitNow_87 : decode cX11_hermitNow 87 = .ok (.iaload, 1) := by decide +kernel
theorem dX11_hermitNow_88 : decode cX11_hermitNow 88 = .ok (.ireturn, 1) := by decide +kernel
theorem dX11_about_0 : decode cX11_about 0 = .ok (.aload_n 0, 1) := by decide +kernel
theorem dX11_about_1 : decode cX11_about 1 = .ok (.iload_n 1, 1) := by decide +kernel
theorem dX11_about_2 : decode cX11_about 2 = .ok (.invokevirtual 141, 3) := by decide +kernel
theorem dX11_about_5 : decode cX11_about 5 = .ok (.ifCond .ne 9, 3) := by decide +kernel
theorem dX11_about_8 : decode cX11_about 8 = .ok (.sipush (-1001), 3) := by decide +kernel
theorem dX11_about_11 : decode cX11_about 11 = .ok (.goto 25, 3) := by decide +kernel
theorem dX11_about_14 : decode cX11_about 14 = .ok (.iload_n 2, 1) := by decide +kernel
theorem dX11_about_15 : decode cX11_about 15 = .ok (.iconst 0, 1) := by decide +kernel
theorem dX11_about_16 : decode cX11_about 16 = .ok (.bipush 6, 2) := by decide +kernel
theorem dX11_about_18 : decode cX11_about 18 = .ok (.invokestatic 90, 3) := by decide +kernel
theorem dX11_about_21 : decode cX11_about 21 = .ok (.ifCond .eq 12, 3) := by decide +kernel
theorem dX11_about_24 : decode cX11_about 24 = .ok (.aload_n 0, 1) := by decide +kernel
theorem dX11_about_25 : decode cX11_about 25 = .ok (.iload_n 1, 1) := by decide +kernel
theorem dX11_about_26 : decode cX11_about 26 = .ok (.iload_n 2, 1) := by decide +kernel
theorem dX11_about_27 : decode cX11_about 27 = .ok (.invokevirtual 144, 3) := by decide +kernel
theorem dX11_about_30 : decode cX11_about 30 = .ok (.goto 6, 3) := by decide +kernel
theorem dX11_about_33 : decode cX11_about 33 = .ok (.sipush (-1002), 3) := by decide +kernel
theorem dX11_about_36 : decode cX11_about 36 = .ok (.ireturn, 1) := by decide +kernel
theorem dX11_store_0 : decode cX11_store 0 = .ok (.aload_n 0, 1) := by decide +kernel
theorem dX11_store_1 : decode cX11_store 1 = .ok (.iload_n 1, 1) := by decide +kernel
theorem dX11_store_2 : decode cX11_store 2 = .ok (.invokevirtual 141, 3) := by decide +kernel
theorem dX11_store_5 : decode cX11_store 5 = .ok (.ifCond .ne 7, 3) := by decide +kernel
theorem dX11_store_8 : decode cX11_store 8 = .ok (.sipush (-1001), 3) := by decide +kernel
theorem dX11_store_11 : decode cX11_store 11 = .ok (.ireturn, 1) := by decide +kernel
theorem dX11_store_12 : decode cX11_store 12 = .ok (.iload_n 2, 1) := by decide +kernel
theorem dX11_store_13 : decode cX11_store 13 = .ok (.iconst 0, 1) := by decide +kernel
theorem dX11_store_14 : decode cX11_store 14 = .ok (.bipush 99, 2) := by decide +kernel
theorem dX11_store_16 : decode cX11_store 16 = .ok (.invokestatic 90, 3) := by decide +kernel
theorem dX11_store_19 : decode cX11_store 19 = .ok (.ifCond .ne 7, 3) := by decide +kernel
theorem dX11_store_22 : decode cX11_store 22 = .ok (.sipush (-1002), 3) := by decide +kernel
theorem dX11_store_25 : decode cX11_store 25 = .ok (.ireturn, 1) := by decide +kernel
theorem dX11_store_26 : decode cX11_store 26 = .ok (.aload_n 0, 1) := by decide +kernel
theorem dX11_store_27 : decode cX11_store 27 = .ok (.getfield 25, 3) := by decide +kernel
theorem dX11_store_30 : decode cX11_store 30 = .ok (.iload_n 1, 1) := by decide +kernel
theorem dX11_store_31 : decode cX11_store 31 = .ok (.iaload, 1) := by decide +kernel
theorem dX11_store_32 : decode cX11_store 32 = .ok (.istore_n 3, 1) := by decide +kernel
theorem dX11_store_33 : decode cX11_store 33 = .ok (.aload_n 0, 1) := by decide +kernel
theorem dX11_store_34 : decode cX11_store 34 = .ok (.getfield 25, 3) := by decide +kernel
theorem dX11_store_37 : decode cX11_store 37 = .ok (.iload_n 1, 1) := by decide +kernel
theorem dX11_store_38 : decode cX11_store 38 = .ok (.iload_n 2, 1) := by decide +kernel
theorem dX11_store_39 : decode cX11_store 39 = .ok (.iastore, 1) := by decide +kernel
theorem dX11_store_40 : decode cX11_store 40 = .ok (.iload_n 3, 1) := by decide +kernel
theorem dX11_store_41 : decode cX11_store 41 = .ok (.ireturn, 1) := by decide +kernel
theorem dX11_isSeat_0 : decode cX11_isSeat 0 = .ok (.iload_n 1, 1) := by decide +kernel
theorem dX11_isSeat_1 : decode cX11_isSeat 1 = .ok (.iconst 0, 1) := by decide +kernel
theorem dX11_isSeat_2 : decode cX11_isSeat 2 = .ok (.aload_n 0, 1) := by decide +kernel
theorem dX11_isSeat_3 : decode cX11_isSeat 3 = .ok (.getfield 134, 3) := by decide +kernel
theorem dX11_isSeat_6 : decode cX11_isSeat 6 = .ok (.iconst 1, 1) := by decide +kernel
theorem dX11_isSeat_7 : decode cX11_isSeat 7 = .ok (.isub, 1) := by decide +kernel
theorem dX11_isSeat_8 : decode cX11_isSeat 8 = .ok (.invokestatic 90, 3) := by decide +kernel
theorem dX11_isSeat_11 : decode cX11_isSeat 11 = .ok (.ireturn, 1) := by decide +kernel
theorem dX11_exchange_0 : decode cX11_exchange 0 = .ok (.aload_n 0, 1) := by decide +kernel
theorem dX11_exchange_1 : decode cX11_exchange 1 = .ok (.getfield 31, 3) := by decide +kernel
theorem dX11_exchange_4 : decode cX11_exchange 4 = .ok (.iload_n 1, 1) := by decide +kernel
theorem dX11_exchange_5 : decode cX11_exchange 5 = .ok (.iaload, 1) := by decide +kernel
theorem dX11_exchange_6 : decode cX11_exchange 6 = .ok (.istore_n 3, 1) := by decide +kernel
theorem dX11_exchange_7 : decode cX11_exchange 7 = .ok (.aload_n 0, 1) := by decide +kernel
theorem dX11_exchange_8 : decode cX11_exchange 8 = .ok (.getfield 31, 3) := by decide +kernel
theorem dX11_exchange_11 : decode cX11_exchange 11 = .ok (.iload_n 1, 1) := by decide +kernel
theorem dX11_exchange_12 : decode cX11_exchange 12 = .ok (.aload_n 0, 1) := by decide +kernel
theorem dX11_exchange_13 : decode cX11_exchange 13 = .ok (.getfield 31, 3) := by decide +kernel
theorem dX11_exchange_16 : decode cX11_exchange 16 = .ok (.iload_n 2, 1) := by decide +kernel
theorem dX11_exchange_17 : decode cX11_exchange 17 = .ok (.iaload, 1) := by decide +kernel
theorem dX11_exchange_18 : decode cX11_exchange 18 = .ok (.iastore, 1) := by decide +kernel
theorem dX11_exchange_19 : decode cX11_exchange 19 = .ok (.aload_n 0, 1) := by decide +kernel
theorem dX11_exchange_20 : decode cX11_exchange 20 = .ok (.getfield 31, 3) := by decide +kernel
theorem dX11_exchange_23 : decode cX11_exchange 23 = .ok (.iload_n 2, 1) := by decide +kernel
theorem dX11_exchange_24 : decode cX11_exchange 24 = .ok (.iload_n 3, 1) := by decide +kernel
theorem dX11_exchange_25 : decode cX11_exchange 25 = .ok (.iastore, 1) := by decide +kernel
theorem dX11_exchange_26 : decode cX11_exchange 26 = .ok (.aload_n 0, 1) := by decide +kernel
theorem dX11_exchange_27 : decode cX11_exchange 27 = .ok (.getfield 28, 3) := by decide +kernel
theorem dX11_exchange_30 : decode cX11_exchange 30 = .ok (.aload_n 0, 1) := by decide +kernel
theorem dX11_exchange_31 : decode cX11_exchange 31 = .ok (.getfield 31, 3) := by decide +kernel
theorem dX11_exchange_34 : decode cX11_exchange 34 = .ok (.iload_n 1, 1) := by decide +kernel
theorem dX11_exchange_35 : decode cX11_exchange 35 = .ok (.iaload, 1) := by decide +kernel
theorem dX11_exchange_36 : decode cX11_exchange 36 = .ok (.iload_n 1, 1) := by decide +kernel
theorem dX11_exchange_37 : decode cX11_exchange 37 = .ok (.iastore, 1) := by decide +kernel
theorem dX11_exchange_38 : decode cX11_exchange 38 = .ok (.aload_n 0, 1) := by decide +kernel
theorem dX11_exchange_39 : decode cX11_exchange 39 = .ok (.getfield 28, 3) := by decide +kernel
theorem dX11_exchange_42 : decode cX11_exchange 42 = .ok (.aload_n 0, 1) := by decide +kernel
theorem dX11_exchange_43 : decode cX11_exchange 43 = .ok (.getfield 31, 3) := by decide +kernel
theorem dX11_exchange_46 : decode cX11_exchange 46 = .ok (.iload_n 2, 1) := by decide +kernel
theorem dX11_exchange_47 : decode cX11_exchange 47 = .ok (.iaload, 1) := by decide +kernel
theorem dX11_exchange_48 : decode cX11_exchange 48 = .ok (.iload_n 2, 1) := by decide +kernel
theorem dX11_exchange_49 : decode cX11_exchange 49 = .ok (.iastore, 1) := by decide +kernel
theorem dX11_exchange_50 : decode cX11_exchange 50 = .ok (.return_, 1) := by decide +kernel
theorem dX11_change_0 : decode cX11_change 0 = .ok (.aload_n 0, 1) := by decide +kernel
theorem dX11_change_1 : decode cX11_change 1 = .ok (.iload_n 1, 1) := by decide +kernel
theorem dX11_change_2 : decode cX11_change 2 = .ok (.invokevirtual 147, 3) := by decide +kernel
theorem dX11_change_5 : decode cX11_change 5 = .ok (.ifCond .eq 16, 3) := by decide +kernel
theorem dX11_change_8 : decode cX11_change 8 = .ok (.aload_n 0, 1) := by decide +kernel
theorem dX11_change_9 : decode cX11_change 9 = .ok (.iload_n 2, 1) := by decide +kernel
theorem dX11_change_10 : decode cX11_change 10 = .ok (.invokevirtual 147, 3) := by decide +kernel
theorem dX11_change_13 : decode cX11_change 13 = .ok (.ifCond .eq 8, 3) := by decide +kernel
theorem dX11_change_16 : decode cX11_change 16 = .ok (.iload_n 1, 1) := by decide +kernel
theorem dX11_change_17 : decode cX11_change 17 = .ok (.iload_n 2, 1) := by decide +kernel
theorem dX11_change_18 : decode cX11_change 18 = .ok (.if_icmp .ne 6, 3) := by decide +kernel
theorem dX11_change_21 : decode cX11_change 21 = .ok (.bipush (-101), 2) := by decide +kernel
theorem dX11_change_23 : decode cX11_change 23 = .ok (.ireturn, 1) := by decide +kernel
theorem dX11_change_24 : decode cX11_change 24 = .ok (.aload_n 0, 1) := by decide +kernel
theorem dX11_change_25 : decode cX11_change 25 = .ok (.iload_n 1, 1) := by decide +kernel
theorem dX11_change_26 : decode cX11_change 26 = .ok (.iload_n 2, 1) := by decide +kernel
theorem dX11_change_27 : decode cX11_change 27 = .ok (.invokevirtual 150, 3) := by decide +kernel
theorem dX11_change_30 : decode cX11_change 30 = .ok (.aload_n 0, 1) := by decide +kernel
theorem dX11_change_31 : decode cX11_change 31 = .ok (.getfield 31, 3) := by decide +kernel
theorem dX11_change_34 : decode cX11_change 34 = .ok (.iload_n 1, 1) := by decide +kernel
theorem dX11_change_35 : decode cX11_change 35 = .ok (.iaload, 1) := by decide +kernel
theorem dX11_change_36 : decode cX11_change 36 = .ok (.ireturn, 1) := by decide +kernel
theorem dX11_soup_0 : decode cX11_soup 0 = .ok (.iload_n 1, 1) := by decide +kernel
theorem dX11_soup_1 : decode cX11_soup 1 = .ok (.iconst 0, 1) := by decide +kernel
theorem dX11_soup_2 : decode cX11_soup 2 = .ok (.iconst 4, 1) := by decide +kernel
theorem dX11_soup_3 : decode cX11_soup 3 = .ok (.invokestatic 90, 3) := by decide +kernel
theorem dX11_soup_6 : decode cX11_soup 6 = .ok (.ifCond .ne 6, 3) := by decide +kernel
theorem dX11_soup_9 : decode cX11_soup 9 = .ok (.bipush (-101), 2) := by decide +kernel
theorem dX11_soup_11 : decode cX11_soup 11 = .ok (.ireturn, 1) := by decide +kernel
theorem dX11_soup_12 : decode cX11_soup 12 = .ok (.iload_n 2, 1) := by decide +kernel
theorem dX11_soup_13 : decode cX11_soup 13 = .ok (.iconst 0, 1) := by decide +kernel
theorem dX11_soup_14 : decode cX11_soup 14 = .ok (.bipush 99, 2) := by decide +kernel
theorem dX11_soup_16 : decode cX11_soup 16 = .ok (.invokestatic 90, 3) := by decide +kernel
theorem dX11_soup_19 : decode cX11_soup 19 = .ok (.ifCond .ne 6, 3) := by decide +kernel
theorem dX11_soup_22 : decode cX11_soup 22 = .ok (.bipush (-102), 2) := by decide +kernel
theorem dX11_soup_24 : decode cX11_soup 24 = .ok (.ireturn, 1) := by decide +kernel
theorem dX11_soup_25 : decode cX11_soup 25 = .ok (.aload_n 0, 1) := by decide +kernel
theorem dX11_soup_26 : decode cX11_soup 26 = .ok (.getfield 34, 3) := by decide +kernel
theorem dX11_soup_29 : decode cX11_soup 29 = .ok (.iload_n 1, 1) := by decide +kernel
theorem dX11_soup_30 : decode cX11_soup 30 = .ok (.iaload, 1) := by decide +kernel
theorem dX11_soup_31 : decode cX11_soup 31 = .ok (.istore_n 3, 1) := by decide +kernel
theorem dX11_soup_32 : decode cX11_soup 32 = .ok (.aload_n 0, 1) := by decide +kernel
theorem dX11_soup_33 : decode cX11_soup 33 = .ok (.getfield 34, 3) := by decide +kernel
theorem dX11_soup_36 : decode cX11_soup 36 = .ok (.iload_n 1, 1) := by decide +kernel
theorem dX11_soup_37 : decode cX11_soup 37 = .ok (.iload_n 2, 1) := by decide +kernel
theorem dX11_soup_38 : decode cX11_soup 38 = .ok (.iastore, 1) := by decide +kernel
theorem dX11_soup_39 : decode cX11_soup 39 = .ok (.iload_n 3, 1) := by decide +kernel
theorem dX11_soup_40 : decode cX11_soup 40 = .ok (.ireturn, 1) := by decide +kernel
theorem dX11_heat_0 : decode cX11_heat 0 = .ok (.iload_n 1, 1) := by decide +kernel
theorem dX11_heat_1 : decode cX11_heat 1 = .ok (.iconst 0, 1) := by decide +kernel
theorem dX11_heat_2 : decode cX11_heat 2 = .ok (.sipush 300, 3) := by decide +kernel
theorem dX11_heat_5 : decode cX11_heat 5 = .ok (.invokestatic 90, 3) := by decide +kernel
theorem dX11_heat_8 : decode cX11_heat 8 = .ok (.ifCond .ne 6, 3) := by decide +kernel
theorem dX11_heat_11 : decode cX11_heat 11 = .ok (.bipush (-102), 2) := by decide +kernel
theorem dX11_heat_13 : decode cX11_heat 13 = .ok (.ireturn, 1) := by decide +kernel
theorem dX11_heat_14 : decode cX11_heat 14 = .ok (.aload_n 0, 1) := by decide +kernel
theorem dX11_heat_15 : decode cX11_heat 15 = .ok (.getfield 37, 3) := by decide +kernel
theorem dX11_heat_18 : decode cX11_heat 18 = .ok (.istore_n 2, 1) := by decide +kernel
theorem dX11_heat_19 : decode cX11_heat 19 = .ok (.aload_n 0, 1) := by decide +kernel
theorem dX11_heat_20 : decode cX11_heat 20 = .ok (.iload_n 1, 1) := by decide +kernel
theorem dX11_heat_21 : decode cX11_heat 21 = .ok (.putfield 37, 3) := by decide +kernel
theorem dX11_heat_24 : decode cX11_heat 24 = .ok (.iload_n 2, 1) := by decide +kernel
theorem dX11_heat_25 : decode cX11_heat 25 = .ok (.ireturn, 1) := by decide +kernel
theorem dX11_feast_0 : decode cX11_feast 0 = .ok (.aload_n 0, 1) := by decide +kernel
theorem dX11_feast_1 : decode cX11_feast 1 = .ok (.getfield 154, 3) := by decide +kernel
theorem dX11_feast_4 : decode cX11_feast 4 = .ok (.ifCond .eq 7, 3) := by decide +kernel
theorem dX11_feast_7 : decode cX11_feast 7 = .ok (.iconst 1, 1) := by decide +kernel
theorem dX11_feast_8 : decode cX11_feast 8 = .ok (.goto 4, 3) := by decide +kernel
theorem dX11_feast_11 : decode cX11_feast 11 = .ok (.iconst 0, 1) := by decide +kernel
theorem dX11_feast_12 : decode cX11_feast 12 = .ok (.istore_n 2, 1) := by decide +kernel
theorem dX11_feast_13 : decode cX11_feast 13 = .ok (.aload_n 0, 1) := by decide +kernel
theorem dX11_feast_14 : decode cX11_feast 14 = .ok (.iload_n 1, 1) := by decide +kernel
theorem dX11_feast_15 : decode cX11_feast 15 = .ok (.putfield 154, 3) := by decide +kernel
theorem dX11_feast_18 : decode cX11_feast 18 = .ok (.iload_n 2, 1) := by decide +kernel
theorem dX11_feast_19 : decode cX11_feast 19 = .ok (.ireturn, 1) := by decide +kernel
theorem dX11_useVow_0 : decode cX11_useVow 0 = .ok (.aload_n 0, 1) := by decide +kernel
theorem dX11_useVow_1 : decode cX11_useVow 1 = .ok (.aload_n 0, 1) := by decide +kernel
theorem dX11_useVow_2 : decode cX11_useVow 2 = .ok (.getfield 41, 3) := by decide +kernel
theorem dX11_useVow_5 : decode cX11_useVow 5 = .ok (.iload_n 1, 1) := by decide +kernel
theorem dX11_useVow_6 : decode cX11_useVow 6 = .ok (.baload, 1) := by decide +kernel
theorem dX11_useVow_7 : decode cX11_useVow 7 = .ok (.putfield 157, 3) := by decide +kernel
theorem dX11_useVow_10 : decode cX11_useVow 10 = .ok (.aload_n 0, 1) := by decide +kernel
theorem dX11_useVow_11 : decode cX11_useVow 11 = .ok (.aload_n 0, 1) := by decide +kernel
theorem dX11_useVow_12 : decode cX11_useVow 12 = .ok (.getfield 45, 3) := by decide +kernel
theorem dX11_useVow_15 : decode cX11_useVow 15 = .ok (.iload_n 1, 1) := by decide +kernel
theorem dX11_useVow_16 : decode cX11_useVow 16 = .ok (.iaload, 1) := by decide +kernel
theorem dX11_useVow_17 : decode cX11_useVow 17 = .ok (.putfield 160, 3) := by decide +kernel
theorem dX11_useVow_20 : decode cX11_useVow 20 = .ok (.aload_n 0, 1) := by decide +kernel
theorem dX11_useVow_21 : decode cX11_useVow 21 = .ok (.aload_n 0, 1) := by decide +kernel
theorem dX11_useVow_22 : decode cX11_useVow 22 = .ok (.getfield 48, 3) := by decide +kernel
theorem dX11_useVow_25 : decode cX11_useVow 25 = .ok (.iload_n 1, 1) := by decide +kernel
theorem dX11_useVow_26 : decode cX11_useVow 26 = .ok (.baload, 1) := by decide +kernel
theorem dX11_useVow_27 : decode cX11_useVow 27 = .ok (.putfield 163, 3) := by decide +kernel
theorem dX11_useVow_30 : decode cX11_useVow 30 = .ok (.aload_n 0, 1) := by decide +kernel
theorem dX11_useVow_31 : decode cX11_useVow 31 = .ok (.aload_n 0, 1) := by decide +kernel
theorem dX11_useVow_32 : decode cX11_useVow 32 = .ok (.getfield 51, 3) := by decide +kernel
theorem dX11_useVow_35 : decode cX11_useVow 35 = .ok (.iload_n 1, 1) := by decide +kernel
theorem dX11_useVow_36 : decode cX11_useVow 36 = .ok (.iaload, 1) := by decide +kernel
theorem dX11_useVow_37 : decode cX11_useVow 37 = .ok (.putfield 166, 3) := by decide +kernel
theorem dX11_useVow_40 : decode cX11_useVow 40 = .ok (.aload_n 0, 1) := by decide +kernel
theorem dX11_useVow_41 : decode cX11_useVow 41 = .ok (.iconst 0, 1) := by decide +kernel
theorem dX11_useVow_42 : decode cX11_useVow 42 = .ok (.putfield 169, 3) := by decide +kernel
theorem dX11_useVow_45 : decode cX11_useVow 45 = .ok (.aload_n 0, 1) := by decide +kernel
theorem dX11_useVow_46 : decode cX11_useVow 46 = .ok (.iconst (-1), 1) := by decide +kernel
theorem dX11_useVow_47 : decode cX11_useVow 47 = .ok (.putfield 172, 3) := by decide +kernel
theorem dX11_useVow_50 : decode cX11_useVow 50 = .ok (.return_, 1) := by decide +kernel
theorem dX11_useStores_0 : decode cX11_useStores 0 = .ok (.iconst 0, 1) := by decide +kernel
theorem dX11_useStores_1 : decode cX11_useStores 1 = .ok (.istore_n 1, 1) := by decide +kernel
theorem dX11_useStores_2 : decode cX11_useStores 2 = .ok (.iload_n 1, 1) := by decide +kernel
theorem dX11_useStores_3 : decode cX11_useStores 3 = .ok (.bipush 10, 2) := by decide +kernel
theorem dX11_useStores_5 : decode cX11_useStores 5 = .ok (.if_icmp .ge 21, 3) := by decide +kernel
theorem dX11_useStores_8 : decode cX11_useStores 8 = .ok (.aload_n 0, 1) := by decide +kernel
theorem dX11_useStores_9 : decode cX11_useStores 9 = .ok (.getfield 67, 3) := by decide +kernel
theorem dX11_useStores_12 : decode cX11_useStores 12 = .ok (.iload_n 1, 1) := by decide +kernel
theorem dX11_useStores_13 : decode cX11_useStores 13 = .ok (.aload_n 0, 1) := by decide +kernel
theorem dX11_useStores_14 : decode cX11_useStores 14 = .ok (.getfield 25, 3) := by decide +kernel
theorem dX11_useStores_17 : decode cX11_useStores 17 = .ok (.iload_n 1, 1) := by decide +kernel
theorem dX11_useStores_18 : decode cX11_useStores 18 = .ok (.iaload, 1) := by decide +kernel
theorem dX11_useStores_19 : decode cX11_useStores 19 = .ok (.iastore, 1) := by decide +kernel
theorem dX11_useStores_20 : decode cX11_useStores 20 = .ok (.iinc 1 1, 3) := by decide +kernel
theorem dX11_useStores_23 : decode cX11_useStores 23 = .ok (.goto (-21), 3) := by decide +kernel
theorem dX11_useStores_26 : decode cX11_useStores 26 = .ok (.return_, 1) := by decide +kernel
theorem dX11_beginDay_0 : decode cX11_beginDay 0 = .ok (.iconst 0, 1) := by decide +kernel
theorem dX11_beginDay_1 : decode cX11_beginDay 1 = .ok (.istore_n 1, 1) := by decide +kernel
theorem dX11_beginDay_2 : decode cX11_beginDay 2 = .ok (.iload_n 1, 1) := by decide +kernel
theorem dX11_beginDay_3 : decode cX11_beginDay 3 = .ok (.bipush 10, 2) := by decide +kernel
theorem dX11_beginDay_5 : decode cX11_beginDay 5 = .ok (.if_icmp .ge 30, 3) := by decide +kernel
theorem dX11_beginDay_8 : decode cX11_beginDay 8 = .ok (.aload_n 0, 1) := by decide +kernel
theorem dX11_beginDay_9 : decode cX11_beginDay 9 = .ok (.getfield 73, 3) := by decide +kernel
theorem dX11_beginDay_12 : decode cX11_beginDay 12 = .ok (.iload_n 1, 1) := by decide +kernel
theorem dX11_beginDay_13 : decode cX11_beginDay 13 = .ok (.iconst 0, 1) := by decide +kernel
theorem dX11_beginDay_14 : decode cX11_beginDay 14 = .ok (.iastore, 1) := by decide +kernel
theorem dX11_beginDay_15 : decode cX11_beginDay 15 = .ok (.aload_n 0, 1) := by decide +kernel
theorem dX11_beginDay_16 : decode cX11_beginDay 16 = .ok (.getfield 76, 3) := by decide +kernel
theorem dX11_beginDay_19 : decode cX11_beginDay 19 = .ok (.iload_n 1, 1) := by decide +kernel
theorem dX11_beginDay_20 : decode cX11_beginDay 20 = .ok (.iconst 0, 1) := by decide +kernel
theorem dX11_beginDay_21 : decode cX11_beginDay 21 = .ok (.iastore, 1) := by decide +kernel
theorem dX11_beginDay_22 : decode cX11_beginDay 22 = .ok (.aload_n 0, 1) := by decide +kernel
theorem dX11_beginDay_23 : decode cX11_beginDay 23 = .ok (.getfield 79, 3) := by decide +kernel
theorem dX11_beginDay_26 : decode cX11_beginDay 26 = .ok (.iload_n 1, 1) := by decide +kernel
theorem dX11_beginDay_27 : decode cX11_beginDay 27 = .ok (.iconst 0, 1) := by decide +kernel
theorem dX11_beginDay_28 : decode cX11_beginDay 28 = .ok (.iastore, 1) := by decide +kernel
theorem dX11_beginDay_29 : decode cX11_beginDay 29 = .ok (.iinc 1 1, 3) := by decide +kernel
theorem dX11_beginDay_32 : decode cX11_beginDay 32 = .ok (.goto (-30), 3) := by decide +kernel
theorem dX11_beginDay_35 : decode cX11_beginDay 35 = .ok (.iconst 0, 1) := by decide +kernel
theorem dX11_beginDay_36 : decode cX11_beginDay 36 = .ok (.istore_n 1, 1) := by decide +kernel
theorem dX11_beginDay_37 : decode cX11_beginDay 37 = .ok (.iload_n 1, 1) := by decide +kernel
theorem dX11_beginDay_38 : decode cX11_beginDay 38 = .ok (.iconst 5, 1) := by decide +kernel
theorem dX11_beginDay_39 : decode cX11_beginDay 39 = .ok (.if_icmp .ge 21, 3) := by decide +kernel
theorem dX11_beginDay_42 : decode cX11_beginDay 42 = .ok (.aload_n 0, 1) := by decide +kernel
theorem dX11_beginDay_43 : decode cX11_beginDay 43 = .ok (.getfield 70, 3) := by decide +kernel
theorem dX11_beginDay_46 : decode cX11_beginDay 46 = .ok (.iload_n 1, 1) := by decide +kernel
theorem dX11_beginDay_47 : decode cX11_beginDay 47 = .ok (.aload_n 0, 1) := by decide +kernel
theorem dX11_beginDay_48 : decode cX11_beginDay 48 = .ok (.getfield 34, 3) := by decide +kernel
theorem dX11_beginDay_51 : decode cX11_beginDay 51 = .ok (.iload_n 1, 1) := by decide +kernel
theorem dX11_beginDay_52 : decode cX11_beginDay 52 = .ok (.iaload, 1) := by decide +kernel
theorem dX11_beginDay_53 : decode cX11_beginDay 53 = .ok (.iastore, 1) := by decide +kernel
theorem dX11_beginDay_54 : decode cX11_beginDay 54 = .ok (.iinc 1 1, 3) := by decide +kernel
theorem dX11_beginDay_57 : decode cX11_beginDay 57 = .ok (.goto (-20), 3) := by decide +kernel
theorem dX11_beginDay_60 : decode cX11_beginDay 60 = .ok (.aload_n 0, 1) := by decide +kernel
theorem dX11_beginDay_61 : decode cX11_beginDay 61 = .ok (.aload_n 0, 1) := by decide +kernel
theorem dX11_beginDay_62 : decode cX11_beginDay 62 = .ok (.getfield 37, 3) := by decide +kernel
theorem dX11_beginDay_65 : decode cX11_beginDay 65 = .ok (.putfield 175, 3) := by decide +kernel
theorem dX11_beginDay_68 : decode cX11_beginDay 68 = .ok (.aload_n 0, 1) := by decide +kernel
theorem dX11_beginDay_69 : decode cX11_beginDay 69 = .ok (.iconst 0, 1) := by decide +kernel
theorem dX11_beginDay_70 : decode cX11_beginDay 70 = .ok (.putfield 178, 3) := by decide +kernel
theorem dX11_beginDay_73 : decode cX11_beginDay 73 = .ok (.aload_n 0, 1) := by decide +kernel
theorem dX11_beginDay_74 : decode cX11_beginDay 74 = .ok (.iconst 0, 1) := by decide +kernel
theorem dX11_beginDay_75 : decode cX11_beginDay 75 = .ok (.putfield 181, 3) := by decide +kernel
theorem dX11_beginDay_78 : decode cX11_beginDay 78 = .ok (.aload_n 0, 1) := by decide +kernel
theorem dX11_beginDay_79 : decode cX11_beginDay 79 = .ok (.iconst 0, 1) := by decide +kernel
theorem dX11_beginDay_80 : decode cX11_beginDay 80 = .ok (.putfield 184, 3) := by decide +kernel
theorem dX11_beginDay_83 : decode cX11_beginDay 83 = .ok (.aload_n 0, 1) := by decide +kernel
theorem dX11_beginDay_84 : decode cX11_beginDay 84 = .ok (.iconst 0, 1) := by decide +kernel
theorem dX11_beginDay_85 : decode cX11_beginDay 85 = .ok (.putfield 187, 3) := by decide +kernel
theorem dX11_beginDay_88 : decode cX11_beginDay 88 = .ok (.return_, 1) := by decide +kernel
theorem dX11_isSkipped_0 : decode cX11_isSkipped 0 = .ok (.aload_n 0, 1) := by decide +kernel
theorem dX11_isSkipped_1 : decode cX11_isSkipped 1 = .ok (.getfield 67, 3) := by decide +kernel
theorem dX11_isSkipped_4 : decode cX11_isSkipped 4 = .ok (.iload_n 1, 1) := by decide +kernel
theorem dX11_isSkipped_5 : decode cX11_isSkipped 5 = .ok (.iaload, 1) := by decide +kernel
theorem dX11_isSkipped_6 : decode cX11_isSkipped 6 = .ok (.ifCond .lt 31, 3) := by decide +kernel
theorem dX11_isSkipped_9 : decode cX11_isSkipped 9 = .ok (.aload_n 0, 1) := by decide +kernel
theorem dX11_isSkipped_10 : decode cX11_isSkipped 10 = .ok (.getfield 169, 3) := by decide +kernel
theorem dX11_isSkipped_13 : decode cX11_isSkipped 13 = .ok (.iload_n 1, 1) := by decide +kernel
theorem dX11_isSkipped_14 : decode cX11_isSkipped 14 = .ok (.invokestatic 190, 3) := by decide +kernel
theorem dX11_isSkipped_17 : decode cX11_isSkipped 17 = .ok (.ifCond .ne 20, 3) := by decide +kernel
theorem dX11_isSkipped_20 : decode cX11_isSkipped 20 = .ok (.aload_n 0, 1) := by decide +kernel
theorem dX11_isSkipped_21 : decode cX11_isSkipped 21 = .ok (.getfield 163, 3) := by decide +kernel
theorem dX11_isSkipped_24 : decode cX11_isSkipped 24 = .ok (.ifCond .eq 17, 3) := by decide +kernel
theorem dX11_isSkipped_27 : decode cX11_isSkipped 27 = .ok (.aload_n 0, 1) := by decide +kernel
theorem dX11_isSkipped_28 : decode cX11_isSkipped 28 = .ok (.getfield 7, 3) := by decide +kernel
theorem dX11_isSkipped_31 : decode cX11_isSkipped 31 = .ok (.iload_n 1, 1) := by decide +kernel
theorem dX11_isSkipped_32 : decode cX11_isSkipped 32 = .ok (.iaload, 1) := by decide +kernel
theorem dX11_isSkipped_33 : decode cX11_isSkipped 33 = .ok (.iconst 2, 1) := by decide +kernel
theorem dX11_isSkipped_34 : decode cX11_isSkipped 34 = .ok (.if_icmp .ne 7, 3) := by decide +kernel
theorem dX11_isSkipped_37 : decode cX11_isSkipped 37 = .ok (.iconst 1, 1) := by decide +kernel
theorem dX11_isSkipped_38 : decode cX11_isSkipped 38 = .ok (.goto 4, 3) := by decide +kernel
theorem dX11_isSkipped_41 : decode cX11_isSkipped 41 = .ok (.iconst 0, 1) := by decide +kernel
theorem dX11_isSkipped_42 : decode cX11_isSkipped 42 = .ok (.istore_n 2, 1) := by decide +kernel
theorem dX11_isSkipped_43 : decode cX11_isSkipped 43 = .ok (.iload_n 2, 1) := by decide +kernel
theorem dX11_isSkipped_44 : decode cX11_isSkipped 44 = .ok (.ifCond .ne 23, 3) := by decide +kernel
theorem dX11_isSkipped_47 : decode cX11_isSkipped 47 = .ok (.aload_n 0, 1) := by decide +kernel
theorem dX11_isSkipped_48 : decode cX11_isSkipped 48 = .ok (.getfield 166, 3) := by decide +kernel
theorem dX11_isSkipped_51 : decode cX11_isSkipped 51 = .ok (.ifCond .le 20, 3) := by decide +kernel
theorem dX11_isSkipped_54 : decode cX11_isSkipped 54 = .ok (.aload_n 0, 1) := by decide +kernel
theorem dX11_isSkipped_55 : decode cX11_isSkipped 55 = .ok (.getfield 76, 3) := by decide +kernel
theorem dX11_isSkipped_58 : decode cX11_isSkipped 58 = .ok (.iload_n 1, 1) := by decide +kernel
theorem dX11_isSkipped_59 : decode cX11_isSkipped 59 = .ok (.iaload, 1) := by decide +kernel
theorem dX11_isSkipped_60 : decode cX11_isSkipped 60 = .ok (.aload_n 0, 1) := by decide +kernel
theorem dX11_isSkipped_61 : decode cX11_isSkipped 61 = .ok (.getfield 166, 3) := by decide +kernel
theorem dX11_isSkipped_64 : decode cX11_isSkipped 64 = .ok (.if_icmp .lt 7, 3) := by decide +kernel
theorem dX11_isSkipped_67 : decode cX11_isSkipped 67 = .ok (.iconst 1, 1) := by decide +kernel
theorem dX11_isSkipped_68 : decode cX11_isSkipped 68 = .ok (.goto 4, 3) := by decide +kernel
theorem dX11_isSkipped_71 : decode cX11_isSkipped 71 = .ok (.iconst 0, 1) := by decide +kernel
theorem dX11_isSkipped_72 : decode cX11_isSkipped 72 = .ok (.ireturn, 1) := by decide +kernel
theorem dX11_soupLeft_0 : decode cX11_soupLeft 0 = .ok (.iconst 0, 1) := by decide +kernel
theorem dX11_soupLeft_1 : decode cX11_soupLeft 1 = .ok (.istore_n 1, 1) := by decide +kernel
theorem dX11_soupLeft_2 : decode cX11_soupLeft 2 = .ok (.iconst 0, 1) := by decide +kernel
theorem dX11_soupLeft_3 : decode cX11_soupLeft 3 = .ok (.istore_n 2, 1) := by decide +kernel
theorem dX11_soupLeft_4 : decode cX11_soupLeft 4 = .ok (.iload_n 2, 1) := by decide +kernel
theorem dX11_soupLeft_5 : decode cX11_soupLeft 5 = .ok (.iconst 5, 1) := by decide +kernel
theorem dX11_soupLeft_6 : decode cX11_soupLeft 6 = .ok (.if_icmp .ge 18, 3) := by decide +kernel
theorem dX11_soupLeft_9 : decode cX11_soupLeft 9 = .ok (.iload_n 1, 1) := by decide +kernel
theorem dX11_soupLeft_10 : decode cX11_soupLeft 10 = .ok (.aload_n 0, 1) := by decide +kernel
theorem dX11_soupLeft_11 : decode cX11_soupLeft 11 = .ok (.getfield 70, 3) := by decide +kernel
theorem dX11_soupLeft_14 : decode cX11_soupLeft 14 = .ok (.iload_n 2, 1) := by decide +kernel
theorem dX11_soupLeft_15 : decode cX11_soupLeft 15 = .ok (.iaload, 1) := by decide +kernel
theorem dX11_soupLeft_16 : decode cX11_soupLeft 16 = .ok (.iadd, 1) := by decide +kernel
theorem dX11_soupLeft_17 : decode cX11_soupLeft 17 = .ok (.istore_n 1, 1) := by decide +kernel
theorem dX11_soupLeft_18 : decode cX11_soupLeft 18 = .ok (.iinc 2 1, 3) := by decide +kernel
theorem dX11_soupLeft_21 : decode cX11_soupLeft 21 = .ok (.goto (-17), 3) := by decide +kernel
theorem dX11_soupLeft_24 : decode cX11_soupLeft 24 = .ok (.iload_n 1, 1) := by decide +kernel
theorem dX11_soupLeft_25 : decode cX11_soupLeft 25 = .ok (.ireturn, 1) := by decide +kernel
theorem dX11_areAllSkipped_0 : decode cX11_areAllSkipped 0 = .ok (.iconst 1, 1) := by decide +kernel
theorem dX11_areAllSkipped_1 : decode cX11_areAllSkipped 1 = .ok (.istore_n 1, 1) := by decide +kernel
theorem dX11_areAllSkipped_2 : decode cX11_areAllSkipped 2 = .ok (.iconst 0, 1) := by decide +kernel
theorem dX11_areAllSkipped_3 : decode cX11_areAllSkipped 3 = .ok (.istore_n 2, 1) := by decide +kernel
theorem dX11_areAllSkipped_4 : decode cX11_areAllSkipped 4 = .ok (.iload_n 2, 1) := by decide +kernel
theorem dX11_areAllSkipped_5 : decode cX11_areAllSkipped 5 = .ok (.aload_n 0, 1) := by decide +kernel
theorem dX11_areAllSkipped_6 : decode cX11_areAllSkipped 6 = .ok (.getfield 134, 3) := by decide +kernel
theorem dX11_areAllSkipped_9 : decode cX11_areAllSkipped 9 = .ok (.if_icmp .ge 27, 3) := by decide +kernel
theorem dX11_areAllSkipped_12 : decode cX11_areAllSkipped 12 = .ok (.iload_n 1, 1) := by decide +kernel
theorem dX11_areAllSkipped_13 : decode cX11_areAllSkipped 13 = .ok (.ifCond .eq 15, 3) := by decide +kernel
theorem dX11_areAllSkipped_16 : decode cX11_areAllSkipped 16 = .ok (.aload_n 0, 1) := by decide +kernel
theorem dX11_areAllSkipped_17 : decode cX11_areAllSkipped 17 = .ok (.iload_n 2, 1) := by decide +kernel
theorem dX11_areAllSkipped_18 : decode cX11_areAllSkipped 18 = .ok (.invokevirtual 193, 3) := by decide +kernel
theorem dX11_areAllSkipped_21 : decode cX11_areAllSkipped 21 = .ok (.ifCond .eq 7, 3) := by decide +kernel
theorem dX11_areAllSkipped_24 : decode cX11_areAllSkipped 24 = .ok (.iconst 1, 1) := by decide +kernel
theorem dX11_areAllSkipped_25 : decode cX11_areAllSkipped 25 = .ok (.goto 4, 3) := by decide +kernel
theorem dX11_areAllSkipped_28 : decode cX11_areAllSkipped 28 = .ok (.iconst 0, 1) := by decide +kernel
theorem dX11_areAllSkipped_29 : decode cX11_areAllSkipped 29 = .ok (.istore_n 1, 1) := by decide +kernel
theorem dX11_areAllSkipped_30 : decode cX11_areAllSkipped 30 = .ok (.iinc 2 1, 3) := by decide +kernel
theorem dX11_areAllSkipped_33 : decode cX11_areAllSkipped 33 = .ok (.goto (-29), 3) := by decide +kernel
theorem dX11_areAllSkipped_36 : decode cX11_areAllSkipped 36 = .ok (.iload_n 1, 1) := by decide +kernel
theorem dX11_areAllSkipped_37 : decode cX11_areAllSkipped 37 = .ok (.ireturn, 1) := by decide +kernel
theorem dX11_isOver_0 : decode cX11_isOver 0 = .ok (.aload_n 0, 1) := by decide +kernel
theorem dX11_isOver_1 : decode cX11_isOver 1 = .ok (.invokevirtual 196, 3) := by decide +kernel
theorem dX11_isOver_4 : decode cX11_isOver 4 = .ok (.ifCond .eq 20, 3) := by decide +kernel
theorem dX11_isOver_7 : decode cX11_isOver 7 = .ok (.aload_n 0, 1) := by decide +kernel
theorem dX11_isOver_8 : decode cX11_isOver 8 = .ok (.getfield 181, 3) := by decide +kernel
theorem dX11_isOver_11 : decode cX11_isOver 11 = .ok (.sipush 300, 3) := by decide +kernel
theorem dX11_isOver_14 : decode cX11_isOver 14 = .ok (.if_icmp .ge 10, 3) := by decide +kernel
theorem dX11_isOver_17 : decode cX11_isOver 17 = .ok (.aload_n 0, 1) := by decide +kernel
theorem dX11_isOver_18 : decode cX11_isOver 18 = .ok (.invokevirtual 200, 3) := by decide +kernel
theorem dX11_isOver_21 : decode cX11_isOver 21 = .ok (.ifCond .eq 7, 3) := by decide +kernel
theorem dX11_isOver_24 : decode cX11_isOver 24 = .ok (.iconst 1, 1) := by decide +kernel
theorem dX11_isOver_25 : decode cX11_isOver 25 = .ok (.goto 4, 3) := by decide +kernel
theorem dX11_isOver_28 : decode cX11_isOver 28 = .ok (.iconst 0, 1) := by decide +kernel
theorem dX11_isOver_29 : decode cX11_isOver 29 = .ok (.ireturn, 1) := by decide +kernel
theorem dX11_onward_0 : decode cX11_onward 0 = .ok (.iload_n 1, 1) := by decide +kernel
theorem dX11_onward_1 : decode cX11_onward 1 = .ok (.iload_n 2, 1) := by decide +kernel
theorem dX11_onward_2 : decode cX11_onward 2 = .ok (.ifCond .eq 7, 3) := by decide +kernel
theorem dX11_onward_5 : decode cX11_onward 5 = .ok (.iconst 1, 1) := by decide +kernel
theorem dX11_onward_6 : decode cX11_onward 6 = .ok (.goto 9, 3) := by decide +kernel
theorem dX11_onward_9 : decode cX11_onward 9 = .ok (.aload_n 0, 1) := by decide +kernel
theorem dX11_onward_10 : decode cX11_onward 10 = .ok (.getfield 134, 3) := by decide +kernel
theorem dX11_onward_13 : decode cX11_onward 13 = .ok (.iconst 1, 1) := by decide +kernel
theorem dX11_onward_14 : decode cX11_onward 14 = .ok (.isub, 1) := by decide +kernel
theorem dX11_onward_15 : decode cX11_onward 15 = .ok (.iadd, 1) := by decide +kernel
theorem dX11_onward_16 : decode cX11_onward 16 = .ok (.aload_n 0, 1) := by decide +kernel
theorem dX11_onward_17 : decode cX11_onward 17 = .ok (.getfield 134, 3) := by decide +kernel
theorem dX11_onward_20 : decode cX11_onward 20 = .ok (.irem, 1) := by decide +kernel
theorem dX11_onward_21 : decode cX11_onward 21 = .ok (.ireturn, 1) := by decide +kernel
theorem dX11_stir_0 : decode cX11_stir 0 = .ok (.aload_n 0, 1) := by decide +kernel
theorem dX11_stir_1 : decode cX11_stir 1 = .ok (.invokevirtual 196, 3) := by decide +kernel
theorem dX11_stir_4 : decode cX11_stir 4 = .ok (.istore_n 1, 1) := by decide +kernel
theorem dX11_stir_5 : decode cX11_stir 5 = .ok (.iconst 0, 1) := by decide +kernel
theorem dX11_stir_6 : decode cX11_stir 6 = .ok (.istore_n 2, 1) := by decide +kernel
theorem dX11_stir_7 : decode cX11_stir 7 = .ok (.iload_n 2, 1) := by decide +kernel
theorem dX11_stir_8 : decode cX11_stir 8 = .ok (.iconst 5, 1) := by decide +kernel
theorem dX11_stir_9 : decode cX11_stir 9 = .ok (.if_icmp .ge 33, 3) := by decide +kernel
theorem dX11_stir_12 : decode cX11_stir 12 = .ok (.aload_n 0, 1) := by decide +kernel
theorem dX11_stir_13 : decode cX11_stir 13 = .ok (.getfield 70, 3) := by decide +kernel
theorem dX11_stir_16 : decode cX11_stir 16 = .ok (.iload_n 2, 1) := by decide +kernel
theorem dX11_stir_17 : decode cX11_stir 17 = .ok (.iload_n 1, 1) := by decide +kernel
theorem dX11_stir_18 : decode cX11_stir 18 = .ok (.iconst 5, 1) := by decide +kernel
theorem dX11_stir_19 : decode cX11_stir 19 = .ok (.idiv, 1) := by decide +kernel
theorem dX11_stir_20 : decode cX11_stir 20 = .ok (.iconst 4, 1) := by decide +kernel
theorem dX11_stir_21 : decode cX11_stir 21 = .ok (.iload_n 2, 1) := by decide +kernel
theorem dX11_stir_22 : decode cX11_stir 22 = .ok (.isub, 1) := by decide +kernel
theorem dX11_stir_23 : decode cX11_stir 23 = .ok (.iload_n 1, 1) := by decide +kernel
theorem dX11_stir_24 : decode cX11_stir 24 = .ok (.iconst 5, 1) := by decide +kernel
theorem dX11_stir_25 : decode cX11_stir 25 = .ok (.irem, 1) := by decide +kernel
theorem dX11_stir_26 : decode cX11_stir 26 = .ok (.if_icmp .ge 7, 3) := by decide +kernel
theorem dX11_stir_29 : decode cX11_stir 29 = .ok (.iconst 1, 1) := by decide +kernel
theorem dX11_stir_30 : decode cX11_stir 30 = .ok (.goto 4, 3) := by decide +kernel
theorem dX11_stir_33 : decode cX11_stir 33 = .ok (.iconst 0, 1) := by decide +kernel
theorem dX11_stir_34 : decode cX11_stir 34 = .ok (.iadd, 1) := by decide +kernel
theorem dX11_stir_35 : decode cX11_stir 35 = .ok (.iastore, 1) := by decide +kernel
theorem dX11_stir_36 : decode cX11_stir 36 = .ok (.iinc 2 1, 3) := by decide +kernel
theorem dX11_stir_39 : decode cX11_stir 39 = .ok (.goto (-32), 3) := by decide +kernel
theorem dX11_stir_42 : decode cX11_stir 42 = .ok (.return_, 1) := by decide +kernel
theorem dX11_biteOnce_0 : decode cX11_biteOnce 0 = .ok (.aload_n 0, 1) := by decide +kernel
theorem dX11_biteOnce_1 : decode cX11_biteOnce 1 = .ok (.invokevirtual 196, 3) := by decide +kernel
theorem dX11_biteOnce_4 : decode cX11_biteOnce 4 = .ok (.ifCond .ne 4, 3) := by decide +kernel
theorem dX11_biteOnce_7 : decode cX11_biteOnce 7 = .ok (.return_, 1) := by decide +kernel
theorem dX11_biteOnce_8 : decode cX11_biteOnce 8 = .ok (.iconst 0, 1) := by decide +kernel
theorem dX11_biteOnce_9 : decode cX11_biteOnce 9 = .ok (.istore_n 2, 1) := by decide +kernel
theorem dX11_biteOnce_10 : decode cX11_biteOnce 10 = .ok (.aload_n 0, 1) := by decide +kernel
theorem dX11_biteOnce_11 : decode cX11_biteOnce 11 = .ok (.getfield 70, 3) := by decide +kernel
theorem dX11_biteOnce_14 : decode cX11_biteOnce 14 = .ok (.iload_n 2, 1) := by decide +kernel
theorem dX11_biteOnce_15 : decode cX11_biteOnce 15 = .ok (.iaload, 1) := by decide +kernel
theorem dX11_biteOnce_16 : decode cX11_biteOnce 16 = .ok (.ifCond .ne 9, 3) := by decide +kernel
theorem dX11_biteOnce_19 : decode cX11_biteOnce 19 = .ok (.iinc 2 1, 3) := by decide +kernel
theorem dX11_biteOnce_22 : decode cX11_biteOnce 22 = .ok (.goto (-12), 3) := by decide +kernel
theorem dX11_biteOnce_25 : decode cX11_biteOnce 25 = .ok (.aload_n 0, 1) := by decide +kernel
theorem dX11_biteOnce_26 : decode cX11_biteOnce 26 = .ok (.getfield 22, 3) := by decide +kernel
theorem dX11_biteOnce_29 : decode cX11_biteOnce 29 = .ok (.iload_n 1, 1) := by decide +kernel
theorem dX11_biteOnce_30 : decode cX11_biteOnce 30 = .ok (.iaload, 1) := by decide +kernel
theorem dX11_biteOnce_31 : decode cX11_biteOnce 31 = .ok (.aload_n 0, 1) := by decide +kernel
theorem dX11_biteOnce_32 : decode cX11_biteOnce 32 = .ok (.getfield 70, 3) := by decide +kernel
theorem dX11_biteOnce_35 : decode cX11_biteOnce 35 = .ok (.iload_n 2, 1) := by decide +kernel
theorem dX11_biteOnce_36 : decode cX11_biteOnce 36 = .ok (.iaload, 1) := by decide +kernel
theorem dX11_biteOnce_37 : decode cX11_biteOnce 37 = .ok (.if_icmp .ge 12, 3) := by decide +kernel
theorem dX11_biteOnce_40 : decode cX11_biteOnce 40 = .ok (.aload_n 0, 1) := by decide +kernel
theorem dX11_biteOnce_41 : decode cX11_biteOnce 41 = .ok (.getfield 22, 3) := by decide +kernel
theorem dX11_biteOnce_44 : decode cX11_biteOnce 44 = .ok (.iload_n 1, 1) := by decide +kernel
theorem dX11_biteOnce_45 : decode cX11_biteOnce 45 = .ok (.iaload, 1) := by decide +kernel
theorem dX11_biteOnce_46 : decode cX11_biteOnce 46 = .ok (.goto 9, 3) := by decide +kernel
theorem dX11_biteOnce_49 : decode cX11_biteOnce 49 = .ok (.aload_n 0, 1) := by decide +kernel
theorem dX11_biteOnce_50 : decode cX11_biteOnce 50 = .ok (.getfield 70, 3) := by decide +kernel
theorem dX11_biteOnce_53 : decode cX11_biteOnce 53 = .ok (.iload_n 2, 1) := by decide +kernel
theorem dX11_biteOnce_54 : decode cX11_biteOnce 54 = .ok (.iaload, 1) := by decide +kernel
theorem dX11_biteOnce_55 : decode cX11_biteOnce 55 = .ok (.istore_n 3, 1) := by decide +kernel
theorem dX11_biteOnce_56 : decode cX11_biteOnce 56 = .ok (.aload_n 0, 1) := by decide +kernel
theorem dX11_biteOnce_57 : decode cX11_biteOnce 57 = .ok (.getfield 70, 3) := by decide +kernel
theorem dX11_biteOnce_60 : decode cX11_biteOnce 60 = .ok (.iload_n 2, 1) := by decide +kernel
theorem dX11_biteOnce_61 : decode cX11_biteOnce 61 = .ok (.dup2, 1) := by decide +kernel
theorem dX11_biteOnce_62 : decode cX11_biteOnce 62 = .ok (.iaload, 1) := by decide +kernel
theorem dX11_biteOnce_63 : decode cX11_biteOnce 63 = .ok (.iload_n 3, 1) := by decide +kernel
theorem dX11_biteOnce_64 : decode cX11_biteOnce 64 = .ok (.isub, 1) := by decide +kernel
theorem dX11_biteOnce_65 : decode cX11_biteOnce 65 = .ok (.iastore, 1) := by decide +kernel
theorem dX11_biteOnce_66 : decode cX11_biteOnce 66 = .ok (.aload_n 0, 1) := by decide +kernel
theorem dX11_biteOnce_67 : decode cX11_biteOnce 67 = .ok (.getfield 76, 3) := by decide +kernel
theorem dX11_biteOnce_70 : decode cX11_biteOnce 70 = .ok (.iload_n 1, 1) := by decide +kernel
theorem dX11_biteOnce_71 : decode cX11_biteOnce 71 = .ok (.dup2, 1) := by decide +kernel
theorem dX11_biteOnce_72 : decode cX11_biteOnce 72 = .ok (.iaload, 1) := by decide +kernel
theorem dX11_biteOnce_73 : decode cX11_biteOnce 73 = .ok (.iconst 1, 1) := by decide +kernel
theorem dX11_biteOnce_74 : decode cX11_biteOnce 74 = .ok (.iadd, 1) := by decide +kernel
theorem dX11_biteOnce_75 : decode cX11_biteOnce 75 = .ok (.iastore, 1) := by decide +kernel
theorem dX11_biteOnce_76 : decode cX11_biteOnce 76 = .ok (.aload_n 0, 1) := by decide +kernel
theorem dX11_biteOnce_77 : decode cX11_biteOnce 77 = .ok (.getfield 7, 3) := by decide +kernel
theorem dX11_biteOnce_80 : decode cX11_biteOnce 80 = .ok (.iload_n 1, 1) := by decide +kernel
theorem dX11_biteOnce_81 : decode cX11_biteOnce 81 = .ok (.iaload, 1) := by decide +kernel
theorem dX11_biteOnce_82 : decode cX11_biteOnce 82 = .ok (.iconst 4, 1) := by decide +kernel
theorem dX11_biteOnce_83 : decode cX11_biteOnce 83 = .ok (.if_icmp .ne 23, 3) := by decide +kernel
theorem dX11_biteOnce_86 : decode cX11_biteOnce 86 = .ok (.aload_n 0, 1) := by decide +kernel
theorem dX11_biteOnce_87 : decode cX11_biteOnce 87 = .ok (.getfield 76, 3) := by decide +kernel
theorem dX11_biteOnce_90 : decode cX11_biteOnce 90 = .ok (.iload_n 1, 1) := by decide +kernel
theorem dX11_biteOnce_91 : decode cX11_biteOnce 91 = .ok (.iaload, 1) := by decide +kernel
theorem dX11_biteOnce_92 : decode cX11_biteOnce 92 = .ok (.aload_n 0, 1) := by decide +kernel
theorem dX11_biteOnce_93 : decode cX11_biteOnce 93 = .ok (.getfield 13, 3) := by decide +kernel
theorem dX11_biteOnce_96 : decode cX11_biteOnce 96 = .ok (.iload_n 1, 1) := by decide +kernel
theorem dX11_biteOnce_97 : decode cX11_biteOnce 97 = .ok (.iaload, 1) := by decide +kernel
theorem dX11_biteOnce_98 : decode cX11_biteOnce 98 = .ok (.irem, 1) := by decide +kernel
theorem dX11_biteOnce_99 : decode cX11_biteOnce 99 = .ok (.ifCond .ne 7, 3) := by decide +kernel
theorem dX11_biteOnce_102 : decode cX11_biteOnce 102 = .ok (.iconst 1, 1) := by decide +kernel
theorem dX11_biteOnce_103 : decode cX11_biteOnce 103 = .ok (.goto 4, 3) := by decide +kernel
theorem dX11_biteOnce_106 : decode cX11_biteOnce 106 = .ok (.iconst 0, 1) := by decide +kernel
theorem dX11_biteOnce_107 : decode cX11_biteOnce 107 = .ok (.istore 4, 2) := by decide +kernel
theorem dX11_biteOnce_109 : decode cX11_biteOnce 109 = .ok (.iload 4, 2) := by decide +kernel
theorem dX11_biteOnce_111 : decode cX11_biteOnce 111 = .ok (.ifCond .eq 24, 3) := by decide +kernel
theorem dX11_biteOnce_114 : decode cX11_biteOnce 114 = .ok (.aload_n 0, 1) := by decide +kernel
theorem dX11_biteOnce_115 : decode cX11_biteOnce 115 = .ok (.getfield 31, 3) := by decide +kernel
theorem dX11_biteOnce_118 : decode cX11_biteOnce 118 = .ok (.aload_n 0, 1) := by decide +kernel
theorem dX11_biteOnce_119 : decode cX11_biteOnce 119 = .ok (.getfield 28, 3) := by decide +kernel
theorem dX11_biteOnce_122 : decode cX11_biteOnce 122 = .ok (.iload_n 1, 1) := by decide +kernel
theorem dX11_biteOnce_123 : decode cX11_biteOnce 123 = .ok (.iaload, 1) := by decide +kernel
theorem dX11_biteOnce_124 : decode cX11_biteOnce 124 = .ok (.iconst 1, 1) := by decide +kernel
theorem dX11_biteOnce_125 : decode cX11_biteOnce 125 = .ok (.iadd, 1) := by decide +kernel
theorem dX11_biteOnce_126 : decode cX11_biteOnce 126 = .ok (.aload_n 0, 1) := by decide +kernel
theorem dX11_biteOnce_127 : decode cX11_biteOnce 127 = .ok (.getfield 134, 3) := by decide +kernel
theorem dX11_biteOnce_130 : decode cX11_biteOnce 130 = .ok (.irem, 1) := by decide +kernel
theorem dX11_biteOnce_131 : decode cX11_biteOnce 131 = .ok (.iaload, 1) := by decide +kernel
theorem dX11_biteOnce_132 : decode cX11_biteOnce 132 = .ok (.goto 4, 3) := by decide +kernel
theorem dX11_biteOnce_135 : decode cX11_biteOnce 135 = .ok (.iload_n 1, 1) := by decide +kernel
theorem dX11_biteOnce_136 : decode cX11_biteOnce 136 = .ok (.istore 5, 2) := by decide +kernel
theorem dX11_biteOnce_138 : decode cX11_biteOnce 138 = .ok (.iload_n 3, 1) := by decide +kernel
theorem dX11_biteOnce_139 : decode cX11_biteOnce 139 = .ok (.iconst 1, 1) := by decide +kernel
theorem dX11_biteOnce_140 : decode cX11_biteOnce 140 = .ok (.iload_n 2, 1) := by decide +kernel
theorem dX11_biteOnce_141 : decode cX11_biteOnce 141 = .ok (.iadd, 1) := by decide +kernel
theorem dX11_biteOnce_142 : decode cX11_biteOnce 142 = .ok (.imul, 1) := by decide +kernel
theorem dX11_biteOnce_143 : decode cX11_biteOnce 143 = .ok (.istore 6, 2) := by decide +kernel
theorem dX11_biteOnce_145 : decode cX11_biteOnce 145 = .ok (.aload_n 0, 1) := by decide +kernel
theorem dX11_biteOnce_146 : decode cX11_biteOnce 146 = .ok (.getfield 175, 3) := by decide +kernel
theorem dX11_biteOnce_149 : decode cX11_biteOnce 149 = .ok (.bipush 20, 2) := by decide +kernel
theorem dX11_biteOnce_151 : decode cX11_biteOnce 151 = .ok (.if_icmp .ge 10, 3) := by decide +kernel
theorem dX11_biteOnce_154 : decode cX11_biteOnce 154 = .ok (.iload 6, 2) := by decide +kernel
theorem dX11_biteOnce_156 : decode cX11_biteOnce 156 = .ok (.iconst 2, 1) := by decide +kernel
theorem dX11_biteOnce_157 : decode cX11_biteOnce 157 = .ok (.idiv, 1) := by decide +kernel
theorem dX11_biteOnce_158 : decode cX11_biteOnce 158 = .ok (.goto 5, 3) := by decide +kernel
theorem dX11_biteOnce_161 : decode cX11_biteOnce 161 = .ok (.iload 6, 2) := by decide +kernel
theorem dX11_biteOnce_163 : decode cX11_biteOnce 163 = .ok (.istore 6, 2) := by decide +kernel
theorem dX11_biteOnce_165 : decode cX11_biteOnce 165 = .ok (.aload_n 0, 1) := by decide +kernel
theorem dX11_biteOnce_166 : decode cX11_biteOnce 166 = .ok (.getfield 154, 3) := by decide +kernel
theorem dX11_biteOnce_169 : decode cX11_biteOnce 169 = .ok (.ifCond .eq 22, 3) := by decide +kernel
theorem dX11_biteOnce_172 : decode cX11_biteOnce 172 = .ok (.iload_n 2, 1) := by decide +kernel
theorem dX11_biteOnce_173 : decode cX11_biteOnce 173 = .ok (.iconst 4, 1) := by decide +kernel
theorem dX11_biteOnce_174 : decode cX11_biteOnce 174 = .ok (.if_icmp .ne 17, 3) := by decide +kernel
theorem dX11_biteOnce_177 : decode cX11_biteOnce 177 = .ok (.aload_n 0, 1) := by decide +kernel
theorem dX11_biteOnce_178 : decode cX11_biteOnce 178 = .ok (.getfield 19, 3) := by decide +kernel
theorem dX11_biteOnce_181 : decode cX11_biteOnce 181 = .ok (.iload 5, 2) := by decide +kernel
theorem dX11_biteOnce_183 : decode cX11_biteOnce 183 = .ok (.iaload, 1) := by decide +kernel
theorem dX11_biteOnce_184 : decode cX11_biteOnce 184 = .ok (.ifCond .ne 7, 3) := by decide +kernel
theorem dX11_biteOnce_187 : decode cX11_biteOnce 187 = .ok (.iconst 0, 1) := by decide +kernel
theorem dX11_biteOnce_188 : decode cX11_biteOnce 188 = .ok (.goto 5, 3) := by decide +kernel
theorem dX11_biteOnce_191 : decode cX11_biteOnce 191 = .ok (.iload 6, 2) := by decide +kernel
theorem dX11_biteOnce_193 : decode cX11_biteOnce 193 = .ok (.istore 6, 2) := by decide +kernel
theorem dX11_biteOnce_195 : decode cX11_biteOnce 195 = .ok (.aload_n 0, 1) := by decide +kernel
theorem dX11_biteOnce_196 : decode cX11_biteOnce 196 = .ok (.getfield 73, 3) := by decide +kernel
theorem dX11_biteOnce_199 : decode cX11_biteOnce 199 = .ok (.iload 5, 2) := by decide +kernel
theorem dX11_biteOnce_201 : decode cX11_biteOnce 201 = .ok (.dup2, 1) := by decide +kernel
theorem dX11_biteOnce_202 : decode cX11_biteOnce 202 = .ok (.iaload, 1) := by decide +kernel
theorem dX11_biteOnce_203 : decode cX11_biteOnce 203 = .ok (.iload 6, 2) := by decide +kernel
theorem dX11_biteOnce_205 : decode cX11_biteOnce 205 = .ok (.iadd, 1) := by decide +kernel
theorem dX11_biteOnce_206 : decode cX11_biteOnce 206 = .ok (.iastore, 1) := by decide +kernel
theorem dX11_biteOnce_207 : decode cX11_biteOnce 207 = .ok (.aload_n 0, 1) := by decide +kernel
theorem dX11_biteOnce_208 : decode cX11_biteOnce 208 = .ok (.getfield 184, 3) := by decide +kernel
theorem dX11_biteOnce_211 : decode cX11_biteOnce 211 = .ok (.sipush 600, 3) := by decide +kernel
theorem dX11_biteOnce_214 : decode cX11_biteOnce 214 = .ok (.if_icmp .ge 73, 3) := by decide +kernel
theorem dX11_biteOnce_217 : decode cX11_biteOnce 217 = .ok (.aload_n 0, 1) := by decide +kernel
theorem dX11_biteOnce_218 : decode cX11_biteOnce 218 = .ok (.getfield 82, 3) := by decide +kernel
theorem dX11_biteOnce_221 : decode cX11_biteOnce 221 = .ok (.iconst 5, 1) := by decide +kernel
theorem dX11_biteOnce_222 : decode cX11_biteOnce 222 = .ok (.aload_n 0, 1) := by decide +kernel
theorem dX11_biteOnce_223 : decode cX11_biteOnce 223 = .ok (.getfield 184, 3) := by decide +kernel
theorem dX11_biteOnce_226 : decode cX11_biteOnce 226 = .ok (.imul, 1) := by decide +kernel
theorem dX11_biteOnce_227 : decode cX11_biteOnce 227 = .ok (.iload_n 1, 1) := by decide +kernel
theorem dX11_biteOnce_228 : decode cX11_biteOnce 228 = .ok (.iastore, 1) := by decide +kernel
theorem dX11_biteOnce_229 : decode cX11_biteOnce 229 = .ok (.aload_n 0, 1) := by decide +kernel
theorem dX11_biteOnce_230 : decode cX11_biteOnce 230 = .ok (.getfield 82, 3) := by decide +kernel
theorem dX11_biteOnce_233 : decode cX11_biteOnce 233 = .ok (.iconst 5, 1) := by decide +kernel
theorem dX11_biteOnce_234 : decode cX11_biteOnce 234 = .ok (.aload_n 0, 1) := by decide +kernel
theorem dX11_biteOnce_235 : decode cX11_biteOnce 235 = .ok (.getfield 184, 3) := by decide +kernel
theorem dX11_biteOnce_238 : decode cX11_biteOnce 238 = .ok (.imul, 1) := by decide +kernel
theorem dX11_biteOnce_239 : decode cX11_biteOnce 239 = .ok (.iconst 1, 1) := by decide +kernel
theorem dX11_biteOnce_240 : decode cX11_biteOnce 240 = .ok (.iadd, 1) := by decide +kernel
theorem dX11_biteOnce_241 : decode cX11_biteOnce 241 = .ok (.iload 5, 2) := by decide +kernel
theorem dX11_biteOnce_243 : decode cX11_biteOnce 243 = .ok (.iastore, 1) := by decide +kernel
theorem dX11_biteOnce_244 : decode cX11_biteOnce 244 = .ok (.aload_n 0, 1) := by decide +kernel
theorem dX11_biteOnce_245 : decode cX11_biteOnce 245 = .ok (.getfield 82, 3) := by decide +kernel
theorem dX11_biteOnce_248 : decode cX11_biteOnce 248 = .ok (.iconst 5, 1) := by decide +kernel
theorem dX11_biteOnce_249 : decode cX11_biteOnce 249 = .ok (.aload_n 0, 1) := by decide +kernel
theorem dX11_biteOnce_250 : decode cX11_biteOnce 250 = .ok (.getfield 184, 3) := by decide +kernel
theorem dX11_biteOnce_253 : decode cX11_biteOnce 253 = .ok (.imul, 1) := by decide +kernel
theorem dX11_biteOnce_254 : decode cX11_biteOnce 254 = .ok (.iconst 2, 1) := by decide +kernel
theorem dX11_biteOnce_255 : decode cX11_biteOnce 255 = .ok (.iadd, 1) := by decide +kernel
theorem dX11_biteOnce_256 : decode cX11_biteOnce 256 = .ok (.iload_n 2, 1) := by decide +kernel
theorem dX11_biteOnce_257 : decode cX11_biteOnce 257 = .ok (.iastore, 1) := by decide +kernel
theorem dX11_biteOnce_258 : decode cX11_biteOnce 258 = .ok (.aload_n 0, 1) := by decide +kernel
theorem dX11_biteOnce_259 : decode cX11_biteOnce 259 = .ok (.getfield 82, 3) := by decide +kernel
theorem dX11_biteOnce_262 : decode cX11_biteOnce 262 = .ok (.iconst 5, 1) := by decide +kernel
theorem dX11_biteOnce_263 : decode cX11_biteOnce 263 = .ok (.aload_n 0, 1) := by decide +kernel
theorem dX11_biteOnce_264 : decode cX11_biteOnce 264 = .ok (.getfield 184, 3) := by decide +kernel
theorem dX11_biteOnce_267 : decode cX11_biteOnce 267 = .ok (.imul, 1) := by decide +kernel
theorem dX11_biteOnce_268 : decode cX11_biteOnce 268 = .ok (.iconst 3, 1) := by decide +kernel
theorem dX11_biteOnce_269 : decode cX11_biteOnce 269 = .ok (.iadd, 1) := by decide +kernel
theorem dX11_biteOnce_270 : decode cX11_biteOnce 270 = .ok (.iload_n 3, 1) := by decide +kernel
theorem dX11_biteOnce_271 : decode cX11_biteOnce 271 = .ok (.iastore, 1) := by decide +kernel
theorem dX11_biteOnce_272 : decode cX11_biteOnce 272 = .ok (.aload_n 0, 1) := by decide +kernel
theorem dX11_biteOnce_273 : decode cX11_biteOnce 273 = .ok (.getfield 82, 3) := by decide +kernel
theorem dX11_biteOnce_276 : decode cX11_biteOnce 276 = .ok (.iconst 5, 1) := by decide +kernel
theorem dX11_biteOnce_277 : decode cX11_biteOnce 277 = .ok (.aload_n 0, 1) := by decide +kernel
theorem dX11_biteOnce_278 : decode cX11_biteOnce 278 = .ok (.getfield 184, 3) := by decide +kernel
theorem dX11_biteOnce_281 : decode cX11_biteOnce 281 = .ok (.imul, 1) := by decide +kernel
theorem dX11_biteOnce_282 : decode cX11_biteOnce 282 = .ok (.iconst 4, 1) := by decide +kernel
theorem dX11_biteOnce_283 : decode cX11_biteOnce 283 = .ok (.iadd, 1) := by decide +kernel
theorem dX11_biteOnce_284 : decode cX11_biteOnce 284 = .ok (.iload 6, 2) := by decide +kernel
theorem dX11_biteOnce_286 : decode cX11_biteOnce 286 = .ok (.iastore, 1) := by decide +kernel
theorem dX11_biteOnce_287 : decode cX11_biteOnce 287 = .ok (.aload_n 0, 1) := by decide +kernel
theorem dX11_biteOnce_288 : decode cX11_biteOnce 288 = .ok (.dup, 1) := by decide +kernel
theorem dX11_biteOnce_289 : decode cX11_biteOnce 289 = .ok (.getfield 184, 3) := by decide +kernel
theorem dX11_biteOnce_292 : decode cX11_biteOnce 292 = .ok (.iconst 1, 1) := by decide +kernel
theorem dX11_biteOnce_293 : decode cX11_biteOnce 293 = .ok (.iadd, 1) := by decide +kernel
theorem dX11_biteOnce_294 : decode cX11_biteOnce 294 = .ok (.putfield 184, 3) := by decide +kernel
theorem dX11_biteOnce_297 : decode cX11_biteOnce 297 = .ok (.aload_n 0, 1) := by decide +kernel
theorem dX11_biteOnce_298 : decode cX11_biteOnce 298 = .ok (.dup, 1) := by decide +kernel
theorem dX11_biteOnce_299 : decode cX11_biteOnce 299 = .ok (.getfield 187, 3) := by decide +kernel
theorem dX11_biteOnce_302 : decode cX11_biteOnce 302 = .ok (.iload 6, 2) := by decide +kernel
theorem dX11_biteOnce_304 : decode cX11_biteOnce 304 = .ok (.iadd, 1) := by decide +kernel
theorem dX11_biteOnce_305 : decode cX11_biteOnce 305 = .ok (.putfield 187, 3) := by decide +kernel
theorem dX11_biteOnce_308 : decode cX11_biteOnce 308 = .ok (.return_, 1) := by decide +kernel
theorem dX11_biteTurn_0 : decode cX11_biteTurn 0 = .ok (.aload_n 0, 1) := by decide +kernel
theorem dX11_biteTurn_1 : decode cX11_biteTurn 1 = .ok (.getfield 79, 3) := by decide +kernel
theorem dX11_biteTurn_4 : decode cX11_biteTurn 4 = .ok (.iload_n 1, 1) := by decide +kernel
theorem dX11_biteTurn_5 : decode cX11_biteTurn 5 = .ok (.dup2, 1) := by decide +kernel
theorem dX11_biteTurn_6 : decode cX11_biteTurn 6 = .ok (.iaload, 1) := by decide +kernel
theorem dX11_biteTurn_7 : decode cX11_biteTurn 7 = .ok (.iconst 1, 1) := by decide +kernel
theorem dX11_biteTurn_8 : decode cX11_biteTurn 8 = .ok (.iadd, 1) := by decide +kernel
theorem dX11_biteTurn_9 : decode cX11_biteTurn 9 = .ok (.iastore, 1) := by decide +kernel
theorem dX11_biteTurn_10 : decode cX11_biteTurn 10 = .ok (.aload_n 0, 1) := by decide +kernel
theorem dX11_biteTurn_11 : decode cX11_biteTurn 11 = .ok (.getfield 7, 3) := by decide +kernel
theorem dX11_biteTurn_14 : decode cX11_biteTurn 14 = .ok (.iload_n 1, 1) := by decide +kernel
theorem dX11_biteTurn_15 : decode cX11_biteTurn 15 = .ok (.iaload, 1) := by decide +kernel
theorem dX11_biteTurn_16 : decode cX11_biteTurn 16 = .ok (.iconst 3, 1) := by decide +kernel
theorem dX11_biteTurn_17 : decode cX11_biteTurn 17 = .ok (.if_icmp .ne 23, 3) := by decide +kernel
theorem dX11_biteTurn_20 : decode cX11_biteTurn 20 = .ok (.aload_n 0, 1) := by decide +kernel
theorem dX11_biteTurn_21 : decode cX11_biteTurn 21 = .ok (.getfield 79, 3) := by decide +kernel
theorem dX11_biteTurn_24 : decode cX11_biteTurn 24 = .ok (.iload_n 1, 1) := by decide +kernel
theorem dX11_biteTurn_25 : decode cX11_biteTurn 25 = .ok (.iaload, 1) := by decide +kernel
theorem dX11_biteTurn_26 : decode cX11_biteTurn 26 = .ok (.aload_n 0, 1) := by decide +kernel
theorem dX11_biteTurn_27 : decode cX11_biteTurn 27 = .ok (.getfield 13, 3) := by decide +kernel
theorem dX11_biteTurn_30 : decode cX11_biteTurn 30 = .ok (.iload_n 1, 1) := by decide +kernel
theorem dX11_biteTurn_31 : decode cX11_biteTurn 31 = .ok (.iaload, 1) := by decide +kernel
theorem dX11_biteTurn_32 : decode cX11_biteTurn 32 = .ok (.irem, 1) := by decide +kernel
theorem dX11_biteTurn_33 : decode cX11_biteTurn 33 = .ok (.ifCond .ne 7, 3) := by decide +kernel
theorem dX11_biteTurn_36 : decode cX11_biteTurn 36 = .ok (.iconst 1, 1) := by decide +kernel
theorem dX11_biteTurn_37 : decode cX11_biteTurn 37 = .ok (.goto 4, 3) := by decide +kernel
theorem dX11_biteTurn_40 : decode cX11_biteTurn 40 = .ok (.iconst 0, 1) := by decide +kernel
theorem dX11_biteTurn_41 : decode cX11_biteTurn 41 = .ok (.istore_n 2, 1) := by decide +kernel
theorem dX11_biteTurn_42 : decode cX11_biteTurn 42 = .ok (.iconst 1, 1) := by decide +kernel
theorem dX11_biteTurn_43 : decode cX11_biteTurn 43 = .ok (.iload_n 2, 1) := by decide +kernel
theorem dX11_biteTurn_44 : decode cX11_biteTurn 44 = .ok (.ifCond .eq 7, 3) := by decide +kernel
theorem dX11_biteTurn_47 : decode cX11_biteTurn 47 = .ok (.iconst 1, 1) := by decide +kernel
theorem dX11_biteTurn_48 : decode cX11_biteTurn 48 = .ok (.goto 4, 3) := by decide +kernel
theorem dX11_biteTurn_51 : decode cX11_biteTurn 51 = .ok (.iconst 0, 1) := by decide +kernel
theorem dX11_biteTurn_52 : decode cX11_biteTurn 52 = .ok (.iadd, 1) := by decide +kernel
theorem dX11_biteTurn_53 : decode cX11_biteTurn 53 = .ok (.iload_n 1, 1) := by decide +kernel
theorem dX11_biteTurn_54 : decode cX11_biteTurn 54 = .ok (.aload_n 0, 1) := by decide +kernel
theorem dX11_biteTurn_55 : decode cX11_biteTurn 55 = .ok (.getfield 172, 3) := by decide +kernel
theorem dX11_biteTurn_58 : decode cX11_biteTurn 58 = .ok (.if_icmp .ne 7, 3) := by decide +kernel
theorem dX11_biteTurn_61 : decode cX11_biteTurn 61 = .ok (.iconst 1, 1) := by decide +kernel
theorem dX11_biteTurn_62 : decode cX11_biteTurn 62 = .ok (.goto 4, 3) := by decide +kernel
theorem dX11_biteTurn_65 : decode cX11_biteTurn 65 = .ok (.iconst 0, 1) := by decide +kernel
theorem dX11_biteTurn_66 : decode cX11_biteTurn 66 = .ok (.iadd, 1) := by decide +kernel
theorem dX11_biteTurn_67 : decode cX11_biteTurn 67 = .ok (.istore_n 3, 1) := by decide +kernel
theorem dX11_biteTurn_68 : decode cX11_biteTurn 68 = .ok (.iconst 0, 1) := by decide +kernel
theorem dX11_biteTurn_69 : decode cX11_biteTurn 69 = .ok (.istore 4, 2) := by decide +kernel
theorem dX11_biteTurn_71 : decode cX11_biteTurn 71 = .ok (.iload 4, 2) := by decide +kernel
theorem dX11_biteTurn_73 : decode cX11_biteTurn 73 = .ok (.iload_n 3, 1) := by decide +kernel
theorem dX11_biteTurn_74 : decode cX11_biteTurn 74 = .ok (.if_icmp .ge 14, 3) := by decide +kernel
theorem dX11_biteTurn_77 : decode cX11_biteTurn 77 = .ok (.aload_n 0, 1) := by decide +kernel
theorem dX11_biteTurn_78 : decode cX11_biteTurn 78 = .ok (.iload_n 1, 1) := by decide +kernel
theorem dX11_biteTurn_79 : decode cX11_biteTurn 79 = .ok (.invokevirtual 204, 3) := by decide +kernel
theorem dX11_biteTurn_82 : decode cX11_biteTurn 82 = .ok (.iinc 4 1, 3) := by decide +kernel
theorem dX11_biteTurn_85 : decode cX11_biteTurn 85 = .ok (.goto (-14), 3) := by decide +kernel
theorem dX11_biteTurn_88 : decode cX11_biteTurn 88 = .ok (.return_, 1) := by decide +kernel
theorem dX11_takeBeats_0 : decode cX11_takeBeats 0 = .ok (.aload_n 0, 1) := by decide +kernel
theorem dX11_takeBeats_1 : decode cX11_takeBeats 1 = .ok (.dup, 1) := by decide +kernel
theorem dX11_takeBeats_2 : decode cX11_takeBeats 2 = .ok (.getfield 178, 3) := by decide +kernel
theorem dX11_takeBeats_5 : decode cX11_takeBeats 5 = .ok (.iconst 1, 1) := by decide +kernel
theorem dX11_takeBeats_6 : decode cX11_takeBeats 6 = .ok (.iadd, 1) := by decide +kernel
theorem dX11_takeBeats_7 : decode cX11_takeBeats 7 = .ok (.putfield 178, 3) := by decide +kernel
theorem dX11_takeBeats_10 : decode cX11_takeBeats 10 = .ok (.aload_n 0, 1) := by decide +kernel
theorem dX11_takeBeats_11 : decode cX11_takeBeats 11 = .ok (.dup, 1) := by decide +kernel
theorem dX11_takeBeats_12 : decode cX11_takeBeats 12 = .ok (.getfield 181, 3) := by decide +kernel
theorem dX11_takeBeats_15 : decode cX11_takeBeats 15 = .ok (.iload_n 1, 1) := by decide +kernel
theorem dX11_takeBeats_16 : decode cX11_takeBeats 16 = .ok (.iadd, 1) := by decide +kernel
theorem dX11_takeBeats_17 : decode cX11_takeBeats 17 = .ok (.putfield 181, 3) := by decide +kernel
theorem dX11_takeBeats_20 : decode cX11_takeBeats 20 = .ok (.aload_n 0, 1) := by decide +kernel
theorem dX11_takeBeats_21 : decode cX11_takeBeats 21 = .ok (.aload_n 0, 1) := by decide +kernel
theorem dX11_takeBeats_22 : decode cX11_takeBeats 22 = .ok (.getfield 175, 3) := by decide +kernel
theorem dX11_takeBeats_25 : decode cX11_takeBeats 25 = .ok (.iload_n 1, 1) := by decide +kernel
theorem dX11_takeBeats_26 : decode cX11_takeBeats 26 = .ok (.if_icmp .ge 7, 3) := by decide +kernel
theorem dX11_takeBeats_29 : decode cX11_takeBeats 29 = .ok (.iconst 0, 1) := by decide +kernel
theorem dX11_takeBeats_30 : decode cX11_takeBeats 30 = .ok (.goto 9, 3) := by decide +kernel
theorem dX11_takeBeats_33 : decode cX11_takeBeats 33 = .ok (.aload_n 0, 1) := by decide +kernel
theorem dX11_takeBeats_34 : decode cX11_takeBeats 34 = .ok (.getfield 175, 3) := by decide +kernel
theorem dX11_takeBeats_37 : decode cX11_takeBeats 37 = .ok (.iload_n 1, 1) := by decide +kernel
theorem dX11_takeBeats_38 : decode cX11_takeBeats 38 = .ok (.isub, 1) := by decide +kernel
theorem dX11_takeBeats_39 : decode cX11_takeBeats 39 = .ok (.putfield 175, 3) := by decide +kernel
theorem dX11_takeBeats_42 : decode cX11_takeBeats 42 = .ok (.return_, 1) := by decide +kernel
theorem dX11_beatsOf_0 : decode cX11_beatsOf 0 = .ok (.aload_n 0, 1) := by decide +kernel
theorem dX11_beatsOf_1 : decode cX11_beatsOf 1 = .ok (.getfield 7, 3) := by decide +kernel
theorem dX11_beatsOf_4 : decode cX11_beatsOf 4 = .ok (.iload_n 1, 1) := by decide +kernel
theorem dX11_beatsOf_5 : decode cX11_beatsOf 5 = .ok (.iaload, 1) := by decide +kernel
theorem dX11_beatsOf_6 : decode cX11_beatsOf 6 = .ok (.iconst 1, 1) := by decide +kernel
theorem dX11_beatsOf_7 : decode cX11_beatsOf 7 = .ok (.if_icmp .eq 13, 3) := by decide +kernel
theorem dX11_beatsOf_10 : decode cX11_beatsOf 10 = .ok (.aload_n 0, 1) := by decide +kernel
theorem dX11_beatsOf_11 : decode cX11_beatsOf 11 = .ok (.getfield 7, 3) := by decide +kernel
theorem dX11_beatsOf_14 : decode cX11_beatsOf 14 = .ok (.iload_n 1, 1) := by decide +kernel
theorem dX11_beatsOf_15 : decode cX11_beatsOf 15 = .ok (.iaload, 1) := by decide +kernel
theorem dX11_beatsOf_16 : decode cX11_beatsOf 16 = .ok (.iconst 4, 1) := by decide +kernel
theorem dX11_beatsOf_17 : decode cX11_beatsOf 17 = .ok (.if_icmp .ne 12, 3) := by decide +kernel
theorem dX11_beatsOf_20 : decode cX11_beatsOf 20 = .ok (.aload_n 0, 1) := by decide +kernel
theorem dX11_beatsOf_21 : decode cX11_beatsOf 21 = .ok (.getfield 13, 3) := by decide +kernel
theorem dX11_beatsOf_24 : decode cX11_beatsOf 24 = .ok (.iload_n 1, 1) := by decide +kernel
theorem dX11_beatsOf_25 : decode cX11_beatsOf 25 = .ok (.iaload, 1) := by decide +kernel
theorem dX11_beatsOf_26 : decode cX11_beatsOf 26 = .ok (.goto 4, 3) := by decide +kernel
theorem dX11_beatsOf_29 : decode cX11_beatsOf 29 = .ok (.iconst 1, 1) := by decide +kernel
theorem dX11_beatsOf_30 : decode cX11_beatsOf 30 = .ok (.ireturn, 1) := by decide +kernel
theorem dX11_goDay_0 : decode cX11_goDay 0 = .ok (.aload_n 0, 1) := by decide +kernel
theorem dX11_goDay_1 : decode cX11_goDay 1 = .ok (.invokevirtual 208, 3) := by decide +kernel
theorem dX11_goDay_4 : decode cX11_goDay 4 = .ok (.iload_n 1, 1) := by decide +kernel
theorem dX11_goDay_5 : decode cX11_goDay 5 = .ok (.istore_n 3, 1) := by decide +kernel
theorem dX11_goDay_6 : decode cX11_goDay 6 = .ok (.aload_n 0, 1) := by decide +kernel
theorem dX11_goDay_7 : decode cX11_goDay 7 = .ok (.getfield 178, 3) := by decide +kernel
theorem dX11_goDay_10 : decode cX11_goDay 10 = .ok (.iload_n 2, 1) := by decide +kernel
theorem dX11_goDay_11 : decode cX11_goDay 11 = .ok (.if_icmp .ge 84, 3) := by decide +kernel
theorem dX11_goDay_14 : decode cX11_goDay 14 = .ok (.aload_n 0, 1) := by decide +kernel
theorem dX11_goDay_15 : decode cX11_goDay 15 = .ok (.invokevirtual 211, 3) := by decide +kernel
theorem dX11_goDay_18 : decode cX11_goDay 18 = .ok (.ifCond .ne 77, 3) := by decide +kernel
theorem dX11_goDay_21 : decode cX11_goDay 21 = .ok (.aload_n 0, 1) := by decide +kernel
theorem dX11_goDay_22 : decode cX11_goDay 22 = .ok (.getfield 31, 3) := by decide +kernel
theorem dX11_goDay_25 : decode cX11_goDay 25 = .ok (.iload_n 3, 1) := by decide +kernel
theorem dX11_goDay_26 : decode cX11_goDay 26 = .ok (.iaload, 1) := by decide +kernel
theorem dX11_goDay_27 : decode cX11_goDay 27 = .ok (.istore 4, 2) := by decide +kernel
theorem dX11_goDay_29 : decode cX11_goDay 29 = .ok (.aload_n 0, 1) := by decide +kernel
theorem dX11_goDay_30 : decode cX11_goDay 30 = .ok (.iload 4, 2) := by decide +kernel
theorem dX11_goDay_32 : decode cX11_goDay 32 = .ok (.invokevirtual 193, 3) := by decide +kernel
theorem dX11_goDay_35 : decode cX11_goDay 35 = .ok (.ifCond .ne 47, 3) := by decide +kernel
theorem dX11_goDay_38 : decode cX11_goDay 38 = .ok (.aload_n 0, 1) := by decide +kernel
theorem dX11_goDay_39 : decode cX11_goDay 39 = .ok (.getfield 160, 3) := by decide +kernel
theorem dX11_goDay_42 : decode cX11_goDay 42 = .ok (.ifCond .le 24, 3) := by decide +kernel
theorem dX11_goDay_45 : decode cX11_goDay 45 = .ok (.aload_n 0, 1) := by decide +kernel
theorem dX11_goDay_46 : decode cX11_goDay 46 = .ok (.getfield 178, 3) := by decide +kernel
theorem dX11_goDay_49 : decode cX11_goDay 49 = .ok (.iconst 1, 1) := by decide +kernel
theorem dX11_goDay_50 : decode cX11_goDay 50 = .ok (.iadd, 1) := by decide +kernel
theorem dX11_goDay_51 : decode cX11_goDay 51 = .ok (.aload_n 0, 1) := by decide +kernel
theorem dX11_goDay_52 : decode cX11_goDay 52 = .ok (.getfield 160, 3) := by decide +kernel
theorem dX11_goDay_55 : decode cX11_goDay 55 = .ok (.irem, 1) := by decide +kernel
theorem dX11_goDay_56 : decode cX11_goDay 56 = .ok (.ifCond .ne 10, 3) := by decide +kernel
theorem dX11_goDay_59 : decode cX11_goDay 59 = .ok (.aload_n 0, 1) := by decide +kernel
theorem dX11_goDay_60 : decode cX11_goDay 60 = .ok (.invokevirtual 214, 3) := by decide +kernel
theorem dX11_goDay_63 : decode cX11_goDay 63 = .ok (.goto 9, 3) := by decide +kernel
theorem dX11_goDay_66 : decode cX11_goDay 66 = .ok (.aload_n 0, 1) := by decide +kernel
theorem dX11_goDay_67 : decode cX11_goDay 67 = .ok (.iload 4, 2) := by decide +kernel
theorem dX11_goDay_69 : decode cX11_goDay 69 = .ok (.invokevirtual 217, 3) := by decide +kernel
theorem dX11_goDay_72 : decode cX11_goDay 72 = .ok (.aload_n 0, 1) := by decide +kernel
theorem dX11_goDay_73 : decode cX11_goDay 73 = .ok (.aload_n 0, 1) := by decide +kernel
theorem dX11_goDay_74 : decode cX11_goDay 74 = .ok (.iload 4, 2) := by decide +kernel
theorem dX11_goDay_76 : decode cX11_goDay 76 = .ok (.invokevirtual 220, 3) := by decide +kernel
theorem dX11_goDay_79 : decode cX11_goDay 79 = .ok (.invokevirtual 223, 3) := by decide +kernel
theorem dX11_goDay_82 : decode cX11_goDay 82 = .ok (.aload_n 0, 1) := by decide +kernel
theorem dX11_goDay_83 : decode cX11_goDay 83 = .ok (.iload_n 3, 1) := by decide +kernel
theorem dX11_goDay_84 : decode cX11_goDay 84 = .ok (.aload_n 0, 1) := by decide +kernel
theorem dX11_goDay_85 : decode cX11_goDay 85 = .ok (.getfield 157, 3) := by decide +kernel
theorem dX11_goDay_88 : decode cX11_goDay 88 = .ok (.invokevirtual 226, 3) := by decide +kernel
theorem dX11_goDay_91 : decode cX11_goDay 91 = .ok (.istore_n 3, 1) := by decide +kernel
theorem dX11_goDay_92 : decode cX11_goDay 92 = .ok (.goto (-86), 3) := by decide +kernel
theorem dX11_goDay_95 : decode cX11_goDay 95 = .ok (.return_, 1) := by decide +kernel
theorem dX11_isDay_0 : decode cX11_isDay 0 = .ok (.aload_n 0, 1) := by decide +kernel
theorem dX11_isDay_1 : decode cX11_isDay 1 = .ok (.iload_n 1, 1) := by decide +kernel
theorem dX11_isDay_2 : decode cX11_isDay 2 = .ok (.invokevirtual 127, 3) := by decide +kernel
theorem dX11_isDay_5 : decode cX11_isDay 5 = .ok (.ifCond .eq 15, 3) := by decide +kernel
theorem dX11_isDay_8 : decode cX11_isDay 8 = .ok (.aload_n 0, 1) := by decide +kernel
theorem dX11_isDay_9 : decode cX11_isDay 9 = .ok (.iload_n 2, 1) := by decide +kernel
theorem dX11_isDay_10 : decode cX11_isDay 10 = .ok (.invokevirtual 147, 3) := by decide +kernel
theorem dX11_isDay_13 : decode cX11_isDay 13 = .ok (.ifCond .eq 7, 3) := by decide +kernel
theorem dX11_isDay_16 : decode cX11_isDay 16 = .ok (.iconst 1, 1) := by decide +kernel
theorem dX11_isDay_17 : decode cX11_isDay 17 = .ok (.goto 4, 3) := by decide +kernel
theorem dX11_isDay_20 : decode cX11_isDay 20 = .ok (.iconst 0, 1) := by decide +kernel
theorem dX11_isDay_21 : decode cX11_isDay 21 = .ok (.ireturn, 1) := by decide +kernel
theorem dX11_areFasts_0 : decode cX11_areFasts 0 = .ok (.iload_n 1, 1) := by decide +kernel
theorem dX11_areFasts_1 : decode cX11_areFasts 1 = .ok (.iconst 0, 1) := by decide +kernel
theorem dX11_areFasts_2 : decode cX11_areFasts 2 = .ok (.iconst 1, 1) := by decide +kernel
theorem dX11_areFasts_3 : decode cX11_areFasts 3 = .ok (.aload_n 0, 1) := by decide +kernel
theorem dX11_areFasts_4 : decode cX11_areFasts 4 = .ok (.getfield 134, 3) := by decide +kernel
theorem dX11_areFasts_7 : decode cX11_areFasts 7 = .ok (.ishl, 1) := by decide +kernel
theorem dX11_areFasts_8 : decode cX11_areFasts 8 = .ok (.iconst 1, 1) := by decide +kernel
theorem dX11_areFasts_9 : decode cX11_areFasts 9 = .ok (.isub, 1) := by decide +kernel
theorem dX11_areFasts_10 : decode cX11_areFasts 10 = .ok (.invokestatic 90, 3) := by decide +kernel
theorem dX11_areFasts_13 : decode cX11_areFasts 13 = .ok (.ireturn, 1) := by decide +kernel
theorem dX11_layDay_0 : decode cX11_layDay 0 = .ok (.aload_n 0, 1) := by decide +kernel
theorem dX11_layDay_1 : decode cX11_layDay 1 = .ok (.iload_n 1, 1) := by decide +kernel
theorem dX11_layDay_2 : decode cX11_layDay 2 = .ok (.invokevirtual 230, 3) := by decide +kernel
theorem dX11_layDay_5 : decode cX11_layDay 5 = .ok (.aload_n 0, 1) := by decide +kernel
theorem dX11_layDay_6 : decode cX11_layDay 6 = .ok (.invokevirtual 233, 3) := by decide +kernel
theorem dX11_layDay_9 : decode cX11_layDay 9 = .ok (.aload_n 0, 1) := by decide +kernel
theorem dX11_layDay_10 : decode cX11_layDay 10 = .ok (.iload_n 3, 1) := by decide +kernel
theorem dX11_layDay_11 : decode cX11_layDay 11 = .ok (.putfield 169, 3) := by decide +kernel
theorem dX11_layDay_14 : decode cX11_layDay 14 = .ok (.aload_n 0, 1) := by decide +kernel
theorem dX11_layDay_15 : decode cX11_layDay 15 = .ok (.iload_n 2, 1) := by decide +kernel
theorem dX11_layDay_16 : decode cX11_layDay 16 = .ok (.ldc 236, 2) := by decide +kernel
theorem dX11_layDay_18 : decode cX11_layDay 18 = .ok (.invokevirtual 237, 3) := by decide +kernel
theorem dX11_layDay_21 : decode cX11_layDay 21 = .ok (.return_, 1) := by decide +kernel
theorem dX11_dayNow_0 : decode cX11_dayNow 0 = .ok (.iload_n 1, 1) := by decide +kernel
theorem dX11_dayNow_1 : decode cX11_dayNow 1 = .ok (.tableswitch 60 0 4 #[35, 40, 45, 50, 55], 35) := by decide +kernel
theorem dX11_dayNow_36 : decode cX11_dayNow 36 = .ok (.aload_n 0, 1) := by decide +kernel
theorem dX11_dayNow_37 : decode cX11_dayNow 37 = .ok (.getfield 178, 3) := by decide +kernel
theorem dX11_dayNow_40 : decode cX11_dayNow 40 = .ok (.ireturn, 1) := by decide +kernel
theorem dX11_dayNow_41 : decode cX11_dayNow 41 = .ok (.aload_n 0, 1) := by decide +kernel
theorem dX11_dayNow_42 : decode cX11_dayNow 42 = .ok (.getfield 181, 3) := by decide +kernel
theorem dX11_dayNow_45 : decode cX11_dayNow 45 = .ok (.ireturn, 1) := by decide +kernel
theorem dX11_dayNow_46 : decode cX11_dayNow 46 = .ok (.aload_n 0, 1) := by decide +kernel
theorem dX11_dayNow_47 : decode cX11_dayNow 47 = .ok (.invokevirtual 196, 3) := by decide +kernel
theorem dX11_dayNow_50 : decode cX11_dayNow 50 = .ok (.ireturn, 1) := by decide +kernel
theorem dX11_dayNow_51 : decode cX11_dayNow 51 = .ok (.aload_n 0, 1) := by decide +kernel
theorem dX11_dayNow_52 : decode cX11_dayNow 52 = .ok (.getfield 184, 3) := by decide +kernel
theorem dX11_dayNow_55 : decode cX11_dayNow 55 = .ok (.ireturn, 1) := by decide +kernel
theorem dX11_dayNow_56 : decode cX11_dayNow 56 = .ok (.aload_n 0, 1) := by decide +kernel
theorem dX11_dayNow_57 : decode cX11_dayNow 57 = .ok (.getfield 187, 3) := by decide +kernel
theorem dX11_dayNow_60 : decode cX11_dayNow 60 = .ok (.ireturn, 1) := by decide +kernel
theorem dX11_dayNow_61 : decode cX11_dayNow 61 = .ok (.aload_n 0, 1) := by decide +kernel
theorem dX11_dayNow_62 : decode cX11_dayNow 62 = .ok (.getfield 175, 3) := by decide +kernel
theorem dX11_dayNow_65 : decode cX11_dayNow 65 = .ok (.ireturn, 1) := by decide +kernel
theorem dX11_day_0 : decode cX11_day 0 = .ok (.aload_n 0, 1) := by decide +kernel
theorem dX11_day_1 : decode cX11_day 1 = .ok (.iload_n 1, 1) := by decide +kernel
theorem dX11_day_2 : decode cX11_day 2 = .ok (.iload_n 2, 1) := by decide +kernel
theorem dX11_day_3 : decode cX11_day 3 = .ok (.invokevirtual 240, 3) := by decide +kernel
theorem dX11_day_6 : decode cX11_day 6 = .ok (.ifCond .ne 6, 3) := by decide +kernel
theorem dX11_day_9 : decode cX11_day 9 = .ok (.bipush (-101), 2) := by decide +kernel
theorem dX11_day_11 : decode cX11_day 11 = .ok (.ireturn, 1) := by decide +kernel
theorem dX11_day_12 : decode cX11_day 12 = .ok (.aload_n 0, 1) := by decide +kernel
theorem dX11_day_13 : decode cX11_day 13 = .ok (.iload_n 3, 1) := by decide +kernel
theorem dX11_day_14 : decode cX11_day 14 = .ok (.invokevirtual 243, 3) := by decide +kernel
theorem dX11_day_17 : decode cX11_day 17 = .ok (.ifCond .eq 13, 3) := by decide +kernel
theorem dX11_day_20 : decode cX11_day 20 = .ok (.iload 4, 2) := by decide +kernel
theorem dX11_day_22 : decode cX11_day 22 = .ok (.iconst 0, 1) := by decide +kernel
theorem dX11_day_23 : decode cX11_day 23 = .ok (.iconst 5, 1) := by decide +kernel
theorem dX11_day_24 : decode cX11_day 24 = .ok (.invokestatic 90, 3) := by decide +kernel
theorem dX11_day_27 : decode cX11_day 27 = .ok (.ifCond .ne 6, 3) := by decide +kernel
theorem dX11_day_30 : decode cX11_day 30 = .ok (.bipush (-102), 2) := by decide +kernel
theorem dX11_day_32 : decode cX11_day 32 = .ok (.ireturn, 1) := by decide +kernel
theorem dX11_day_33 : decode cX11_day 33 = .ok (.aload_n 0, 1) := by decide +kernel
theorem dX11_day_34 : decode cX11_day 34 = .ok (.iload_n 1, 1) := by decide +kernel
theorem dX11_day_35 : decode cX11_day 35 = .ok (.iload_n 2, 1) := by decide +kernel
theorem dX11_day_36 : decode cX11_day 36 = .ok (.iload_n 3, 1) := by decide +kernel
theorem dX11_day_37 : decode cX11_day 37 = .ok (.invokevirtual 246, 3) := by decide +kernel
theorem dX11_day_40 : decode cX11_day 40 = .ok (.aload_n 0, 1) := by decide +kernel
theorem dX11_day_41 : decode cX11_day 41 = .ok (.iload 4, 2) := by decide +kernel
theorem dX11_day_43 : decode cX11_day 43 = .ok (.invokevirtual 250, 3) := by decide +kernel
theorem dX11_day_46 : decode cX11_day 46 = .ok (.ireturn, 1) := by decide +kernel
theorem dX11_meal_0 : decode cX11_meal 0 = .ok (.aload_n 0, 1) := by decide +kernel
theorem dX11_meal_1 : decode cX11_meal 1 = .ok (.iload_n 1, 1) := by decide +kernel
theorem dX11_meal_2 : decode cX11_meal 2 = .ok (.iload_n 2, 1) := by decide +kernel
theorem dX11_meal_3 : decode cX11_meal 3 = .ok (.invokevirtual 240, 3) := by decide +kernel
theorem dX11_meal_6 : decode cX11_meal 6 = .ok (.ifCond .eq 12, 3) := by decide +kernel
theorem dX11_meal_9 : decode cX11_meal 9 = .ok (.aload_n 0, 1) := by decide +kernel
theorem dX11_meal_10 : decode cX11_meal 10 = .ok (.iload 4, 2) := by decide +kernel
theorem dX11_meal_12 : decode cX11_meal 12 = .ok (.invokevirtual 141, 3) := by decide +kernel
theorem dX11_meal_15 : decode cX11_meal 15 = .ok (.ifCond .ne 6, 3) := by decide +kernel
theorem dX11_meal_18 : decode cX11_meal 18 = .ok (.bipush (-101), 2) := by decide +kernel
theorem dX11_meal_20 : decode cX11_meal 20 = .ok (.ireturn, 1) := by decide +kernel
theorem dX11_meal_21 : decode cX11_meal 21 = .ok (.aload_n 0, 1) := by decide +kernel
theorem dX11_meal_22 : decode cX11_meal 22 = .ok (.iload_n 3, 1) := by decide +kernel
theorem dX11_meal_23 : decode cX11_meal 23 = .ok (.invokevirtual 243, 3) := by decide +kernel
theorem dX11_meal_26 : decode cX11_meal 26 = .ok (.ifCond .ne 6, 3) := by decide +kernel
theorem dX11_meal_29 : decode cX11_meal 29 = .ok (.bipush (-102), 2) := by decide +kernel
theorem dX11_meal_31 : decode cX11_meal 31 = .ok (.ireturn, 1) := by decide +kernel
theorem dX11_meal_32 : decode cX11_meal 32 = .ok (.aload_n 0, 1) := by decide +kernel
theorem dX11_meal_33 : decode cX11_meal 33 = .ok (.iload_n 1, 1) := by decide +kernel
theorem dX11_meal_34 : decode cX11_meal 34 = .ok (.iload_n 2, 1) := by decide +kernel
theorem dX11_meal_35 : decode cX11_meal 35 = .ok (.iload_n 3, 1) := by decide +kernel
theorem dX11_meal_36 : decode cX11_meal 36 = .ok (.invokevirtual 246, 3) := by decide +kernel
theorem dX11_meal_39 : decode cX11_meal 39 = .ok (.aload_n 0, 1) := by decide +kernel
theorem dX11_meal_40 : decode cX11_meal 40 = .ok (.getfield 73, 3) := by decide +kernel
theorem dX11_meal_43 : decode cX11_meal 43 = .ok (.iload 4, 2) := by decide +kernel
theorem dX11_meal_45 : decode cX11_meal 45 = .ok (.iaload, 1) := by decide +kernel
theorem dX11_meal_46 : decode cX11_meal 46 = .ok (.ireturn, 1) := by decide +kernel
theorem dX11_bite_0 : decode cX11_bite 0 = .ok (.aload_n 0, 1) := by decide +kernel
theorem dX11_bite_1 : decode cX11_bite 1 = .ok (.iload_n 1, 1) := by decide +kernel
theorem dX11_bite_2 : decode cX11_bite 2 = .ok (.iload_n 2, 1) := by decide +kernel
theorem dX11_bite_3 : decode cX11_bite 3 = .ok (.invokevirtual 240, 3) := by decide +kernel
theorem dX11_bite_6 : decode cX11_bite 6 = .ok (.ifCond .ne 6, 3) := by decide +kernel
theorem dX11_bite_9 : decode cX11_bite 9 = .ok (.bipush (-101), 2) := by decide +kernel
theorem dX11_bite_11 : decode cX11_bite 11 = .ok (.ireturn, 1) := by decide +kernel
theorem dX11_bite_12 : decode cX11_bite 12 = .ok (.aload_n 0, 1) := by decide +kernel
theorem dX11_bite_13 : decode cX11_bite 13 = .ok (.iload_n 3, 1) := by decide +kernel
theorem dX11_bite_14 : decode cX11_bite 14 = .ok (.invokevirtual 243, 3) := by decide +kernel
theorem dX11_bite_17 : decode cX11_bite 17 = .ok (.ifCond .eq 25, 3) := by decide +kernel
theorem dX11_bite_20 : decode cX11_bite 20 = .ok (.iload 4, 2) := by decide +kernel
theorem dX11_bite_22 : decode cX11_bite 22 = .ok (.iconst 0, 1) := by decide +kernel
theorem dX11_bite_23 : decode cX11_bite 23 = .ok (.sipush 599, 3) := by decide +kernel
theorem dX11_bite_26 : decode cX11_bite 26 = .ok (.invokestatic 90, 3) := by decide +kernel
theorem dX11_bite_29 : decode cX11_bite 29 = .ok (.ifCond .eq 13, 3) := by decide +kernel
theorem dX11_bite_32 : decode cX11_bite 32 = .ok (.iload 5, 2) := by decide +kernel
theorem dX11_bite_34 : decode cX11_bite 34 = .ok (.iconst 0, 1) := by decide +kernel
theorem dX11_bite_35 : decode cX11_bite 35 = .ok (.iconst 4, 1) := by decide +kernel
theorem dX11_bite_36 : decode cX11_bite 36 = .ok (.invokestatic 90, 3) := by decide +kernel
theorem dX11_bite_39 : decode cX11_bite 39 = .ok (.ifCond .ne 6, 3) := by decide +kernel
theorem dX11_bite_42 : decode cX11_bite 42 = .ok (.bipush (-102), 2) := by decide +kernel
theorem dX11_bite_44 : decode cX11_bite 44 = .ok (.ireturn, 1) := by decide +kernel
theorem dX11_bite_45 : decode cX11_bite 45 = .ok (.aload_n 0, 1) := by decide +kernel
theorem dX11_bite_46 : decode cX11_bite 46 = .ok (.iload_n 1, 1) := by decide +kernel
theorem dX11_bite_47 : decode cX11_bite 47 = .ok (.iload_n 2, 1) := by decide +kernel
theorem dX11_bite_48 : decode cX11_bite 48 = .ok (.iload_n 3, 1) := by decide +kernel
theorem dX11_bite_49 : decode cX11_bite 49 = .ok (.invokevirtual 246, 3) := by decide +kernel
theorem dX11_bite_52 : decode cX11_bite 52 = .ok (.iload 4, 2) := by decide +kernel
theorem dX11_bite_54 : decode cX11_bite 54 = .ok (.aload_n 0, 1) := by decide +kernel
theorem dX11_bite_55 : decode cX11_bite 55 = .ok (.getfield 184, 3) := by decide +kernel
theorem dX11_bite_58 : decode cX11_bite 58 = .ok (.if_icmp .ge 18, 3) := by decide +kernel
theorem dX11_bite_61 : decode cX11_bite 61 = .ok (.aload_n 0, 1) := by decide +kernel
theorem dX11_bite_62 : decode cX11_bite 62 = .ok (.getfield 82, 3) := by decide +kernel
theorem dX11_bite_65 : decode cX11_bite 65 = .ok (.iconst 5, 1) := by decide +kernel
theorem dX11_bite_66 : decode cX11_bite 66 = .ok (.iload 4, 2) := by decide +kernel
theorem dX11_bite_68 : decode cX11_bite 68 = .ok (.imul, 1) := by decide +kernel
theorem dX11_bite_69 : decode cX11_bite 69 = .ok (.iload 5, 2) := by decide +kernel
theorem dX11_bite_71 : decode cX11_bite 71 = .ok (.iadd, 1) := by decide +kernel
theorem dX11_bite_72 : decode cX11_bite 72 = .ok (.iaload, 1) := by decide +kernel
theorem dX11_bite_73 : decode cX11_bite 73 = .ok (.goto 4, 3) := by decide +kernel
theorem dX11_bite_76 : decode cX11_bite 76 = .ok (.iconst (-1), 1) := by decide +kernel
theorem dX11_bite_77 : decode cX11_bite 77 = .ok (.ireturn, 1) := by decide +kernel
theorem dX11_leastNow_0 : decode cX11_leastNow 0 = .ok (.ldc 236, 2) := by decide +kernel
theorem dX11_leastNow_2 : decode cX11_leastNow 2 = .ok (.istore_n 1, 1) := by decide +kernel
theorem dX11_leastNow_3 : decode cX11_leastNow 3 = .ok (.iconst 0, 1) := by decide +kernel
theorem dX11_leastNow_4 : decode cX11_leastNow 4 = .ok (.istore_n 2, 1) := by decide +kernel
theorem dX11_leastNow_5 : decode cX11_leastNow 5 = .ok (.iload_n 2, 1) := by decide +kernel
theorem dX11_leastNow_6 : decode cX11_leastNow 6 = .ok (.aload_n 0, 1) := by decide +kernel
theorem dX11_leastNow_7 : decode cX11_leastNow 7 = .ok (.getfield 134, 3) := by decide +kernel
theorem dX11_leastNow_10 : decode cX11_leastNow 10 = .ok (.if_icmp .ge 43, 3) := by decide +kernel
theorem dX11_leastNow_13 : decode cX11_leastNow 13 = .ok (.aload_n 0, 1) := by decide +kernel
theorem dX11_leastNow_14 : decode cX11_leastNow 14 = .ok (.getfield 73, 3) := by decide +kernel
theorem dX11_leastNow_17 : decode cX11_leastNow 17 = .ok (.iload_n 2, 1) := by decide +kernel
theorem dX11_leastNow_18 : decode cX11_leastNow 18 = .ok (.iaload, 1) := by decide +kernel
theorem dX11_leastNow_19 : decode cX11_leastNow 19 = .ok (.aload_n 0, 1) := by decide +kernel
theorem dX11_leastNow_20 : decode cX11_leastNow 20 = .ok (.getfield 16, 3) := by decide +kernel
theorem dX11_leastNow_23 : decode cX11_leastNow 23 = .ok (.iload_n 2, 1) := by decide +kernel
theorem dX11_leastNow_24 : decode cX11_leastNow 24 = .ok (.iaload, 1) := by decide +kernel
theorem dX11_leastNow_25 : decode cX11_leastNow 25 = .ok (.isub, 1) := by decide +kernel
theorem dX11_leastNow_26 : decode cX11_leastNow 26 = .ok (.istore_n 3, 1) := by decide +kernel
theorem dX11_leastNow_27 : decode cX11_leastNow 27 = .ok (.aload_n 0, 1) := by decide +kernel
theorem dX11_leastNow_28 : decode cX11_leastNow 28 = .ok (.getfield 67, 3) := by decide +kernel
theorem dX11_leastNow_31 : decode cX11_leastNow 31 = .ok (.iload_n 2, 1) := by decide +kernel
theorem dX11_leastNow_32 : decode cX11_leastNow 32 = .ok (.iaload, 1) := by decide +kernel
theorem dX11_leastNow_33 : decode cX11_leastNow 33 = .ok (.ifCond .lt 12, 3) := by decide +kernel
theorem dX11_leastNow_36 : decode cX11_leastNow 36 = .ok (.iload_n 3, 1) := by decide +kernel
theorem dX11_leastNow_37 : decode cX11_leastNow 37 = .ok (.iload_n 1, 1) := by decide +kernel
theorem dX11_leastNow_38 : decode cX11_leastNow 38 = .ok (.if_icmp .ge 7, 3) := by decide +kernel
theorem dX11_leastNow_41 : decode cX11_leastNow 41 = .ok (.iload_n 3, 1) := by decide +kernel
theorem dX11_leastNow_42 : decode cX11_leastNow 42 = .ok (.goto 4, 3) := by decide +kernel
theorem dX11_leastNow_45 : decode cX11_leastNow 45 = .ok (.iload_n 1, 1) := by decide +kernel
theorem dX11_leastNow_46 : decode cX11_leastNow 46 = .ok (.istore_n 1, 1) := by decide +kernel
theorem dX11_leastNow_47 : decode cX11_leastNow 47 = .ok (.iinc 2 1, 3) := by decide +kernel
theorem dX11_leastNow_50 : decode cX11_leastNow 50 = .ok (.goto (-45), 3) := by decide +kernel
theorem dX11_leastNow_53 : decode cX11_leastNow 53 = .ok (.iload_n 1, 1) := by decide +kernel
theorem dX11_leastNow_54 : decode cX11_leastNow 54 = .ok (.ldc 236, 2) := by decide +kernel
theorem dX11_leastNow_56 : decode cX11_leastNow 56 = .ok (.if_icmp .ne 7, 3) := by decide +kernel
theorem dX11_leastNow_59 : decode cX11_leastNow 59 = .ok (.iconst 0, 1) := by decide +kernel
theorem dX11_leastNow_60 : decode cX11_leastNow 60 = .ok (.goto 4, 3) := by decide +kernel
theorem dX11_leastNow_63 : decode cX11_leastNow 63 = .ok (.iload_n 1, 1) := by decide +kernel
theorem dX11_leastNow_64 : decode cX11_leastNow 64 = .ok (.ireturn, 1) := by decide +kernel
theorem dX11_leastOf_0 : decode cX11_leastOf 0 = .ok (.aload_n 0, 1) := by decide +kernel
theorem dX11_leastOf_1 : decode cX11_leastOf 1 = .ok (.iload_n 1, 1) := by decide +kernel
theorem dX11_leastOf_2 : decode cX11_leastOf 2 = .ok (.iload_n 2, 1) := by decide +kernel
theorem dX11_leastOf_3 : decode cX11_leastOf 3 = .ok (.iconst 0, 1) := by decide +kernel
theorem dX11_leastOf_4 : decode cX11_leastOf 4 = .ok (.invokevirtual 246, 3) := by decide +kernel
theorem dX11_leastOf_7 : decode cX11_leastOf 7 = .ok (.aload_n 0, 1) := by decide +kernel
theorem dX11_leastOf_8 : decode cX11_leastOf 8 = .ok (.invokevirtual 253, 3) := by decide +kernel
theorem dX11_leastOf_11 : decode cX11_leastOf 11 = .ok (.ireturn, 1) := by decide +kernel
theorem dX11_least_0 : decode cX11_least 0 = .ok (.aload_n 0, 1) := by decide +kernel
theorem dX11_least_1 : decode cX11_least 1 = .ok (.iload_n 1, 1) := by decide +kernel
theorem dX11_least_2 : decode cX11_least 2 = .ok (.iload_n 2, 1) := by decide +kernel
theorem dX11_least_3 : decode cX11_least 3 = .ok (.invokevirtual 240, 3) := by decide +kernel
theorem dX11_least_6 : decode cX11_least 6 = .ok (.ifCond .eq 12, 3) := by decide +kernel
theorem dX11_least_9 : decode cX11_least 9 = .ok (.aload_n 0, 1) := by decide +kernel
theorem dX11_least_10 : decode cX11_least 10 = .ok (.iload_n 1, 1) := by decide +kernel
theorem dX11_least_11 : decode cX11_least 11 = .ok (.iload_n 2, 1) := by decide +kernel
theorem dX11_least_12 : decode cX11_least 12 = .ok (.invokevirtual 256, 3) := by decide +kernel
theorem dX11_least_15 : decode cX11_least 15 = .ok (.goto 6, 3) := by decide +kernel
theorem dX11_least_18 : decode cX11_least 18 = .ok (.sipush (-1001), 3) := by decide +kernel
theorem dX11_least_21 : decode cX11_least 21 = .ok (.ireturn, 1) := by decide +kernel
theorem dX11_bestStart_0 : decode cX11_bestStart 0 = .ok (.aload_n 0, 1) := by decide +kernel
theorem dX11_bestStart_1 : decode cX11_bestStart 1 = .ok (.iload_n 1, 1) := by decide +kernel
theorem dX11_bestStart_2 : decode cX11_bestStart 2 = .ok (.invokevirtual 127, 3) := by decide +kernel
theorem dX11_bestStart_5 : decode cX11_bestStart 5 = .ok (.ifCond .ne 6, 3) := by decide +kernel
theorem dX11_bestStart_8 : decode cX11_bestStart 8 = .ok (.bipush (-101), 2) := by decide +kernel
theorem dX11_bestStart_10 : decode cX11_bestStart 10 = .ok (.ireturn, 1) := by decide +kernel
theorem dX11_bestStart_11 : decode cX11_bestStart 11 = .ok (.aload_n 0, 1) := by decide +kernel
theorem dX11_bestStart_12 : decode cX11_bestStart 12 = .ok (.getfield 134, 3) := by decide +kernel
theorem dX11_bestStart_15 : decode cX11_bestStart 15 = .ok (.ifCond .ne 6, 3) := by decide +kernel
theorem dX11_bestStart_18 : decode cX11_bestStart 18 = .ok (.bipush (-103), 2) := by decide +kernel
theorem dX11_bestStart_20 : decode cX11_bestStart 20 = .ok (.ireturn, 1) := by decide +kernel
theorem dX11_bestStart_21 : decode cX11_bestStart 21 = .ok (.iconst 0, 1) := by decide +kernel
theorem dX11_bestStart_22 : decode cX11_bestStart 22 = .ok (.istore_n 2, 1) := by decide +kernel
theorem dX11_bestStart_23 : decode cX11_bestStart 23 = .ok (.ldc_w 259, 3) := by decide +kernel
theorem dX11_bestStart_26 : decode cX11_bestStart 26 = .ok (.istore_n 3, 1) := by decide +kernel
theorem dX11_bestStart_27 : decode cX11_bestStart 27 = .ok (.iconst 0, 1) := by decide +kernel
theorem dX11_bestStart_28 : decode cX11_bestStart 28 = .ok (.istore 4, 2) := by decide +kernel
theorem dX11_bestStart_30 : decode cX11_bestStart 30 = .ok (.iload 4, 2) := by decide +kernel
theorem dX11_bestStart_32 : decode cX11_bestStart 32 = .ok (.aload_n 0, 1) := by decide +kernel
theorem dX11_bestStart_33 : decode cX11_bestStart 33 = .ok (.getfield 134, 3) := by decide +kernel
theorem dX11_bestStart_36 : decode cX11_bestStart 36 = .ok (.if_icmp .ge 44, 3) := by decide +kernel
theorem dX11_bestStart_39 : decode cX11_bestStart 39 = .ok (.aload_n 0, 1) := by decide +kernel
theorem dX11_bestStart_40 : decode cX11_bestStart 40 = .ok (.iload_n 1, 1) := by decide +kernel
theorem dX11_bestStart_41 : decode cX11_bestStart 41 = .ok (.iload 4, 2) := by decide +kernel
theorem dX11_bestStart_43 : decode cX11_bestStart 43 = .ok (.invokevirtual 256, 3) := by decide +kernel
theorem dX11_bestStart_46 : decode cX11_bestStart 46 = .ok (.istore 5, 2) := by decide +kernel
theorem dX11_bestStart_48 : decode cX11_bestStart 48 = .ok (.iload 5, 2) := by decide +kernel
theorem dX11_bestStart_50 : decode cX11_bestStart 50 = .ok (.iload_n 3, 1) := by decide +kernel
theorem dX11_bestStart_51 : decode cX11_bestStart 51 = .ok (.if_icmp .le 8, 3) := by decide +kernel
theorem dX11_bestStart_54 : decode cX11_bestStart 54 = .ok (.iload 4, 2) := by decide +kernel
theorem dX11_bestStart_56 : decode cX11_bestStart 56 = .ok (.goto 4, 3) := by decide +kernel
theorem dX11_bestStart_59 : decode cX11_bestStart 59 = .ok (.iload_n 2, 1) := by decide +kernel
theorem dX11_bestStart_60 : decode cX11_bestStart 60 = .ok (.istore_n 2, 1) := by decide +kernel
theorem dX11_bestStart_61 : decode cX11_bestStart 61 = .ok (.iload 5, 2) := by decide +kernel
theorem dX11_bestStart_63 : decode cX11_bestStart 63 = .ok (.iload_n 3, 1) := by decide +kernel
theorem dX11_bestStart_64 : decode cX11_bestStart 64 = .ok (.if_icmp .le 8, 3) := by decide +kernel
theorem dX11_bestStart_67 : decode cX11_bestStart 67 = .ok (.iload 5, 2) := by decide +kernel
theorem dX11_bestStart_69 : decode cX11_bestStart 69 = .ok (.goto 4, 3) := by decide +kernel
theorem dX11_bestStart_72 : decode cX11_bestStart 72 = .ok (.iload_n 3, 1) := by decide +kernel
theorem dX11_bestStart_73 : decode cX11_bestStart 73 = .ok (.istore_n 3, 1) := by decide +kernel
theorem dX11_bestStart_74 : decode cX11_bestStart 74 = .ok (.iinc 4 1, 3) := by decide +kernel
theorem dX11_bestStart_77 : decode cX11_bestStart 77 = .ok (.goto (-47), 3) := by decide +kernel
theorem dX11_bestStart_80 : decode cX11_bestStart 80 = .ok (.iload_n 2, 1) := by decide +kernel
theorem dX11_bestStart_81 : decode cX11_bestStart 81 = .ok (.ireturn, 1) := by decide +kernel
theorem dX11_bestSwap_0 : decode cX11_bestSwap 0 = .ok (.aload_n 0, 1) := by decide +kernel
theorem dX11_bestSwap_1 : decode cX11_bestSwap 1 = .ok (.iload_n 1, 1) := by decide +kernel
theorem dX11_bestSwap_2 : decode cX11_bestSwap 2 = .ok (.iload_n 2, 1) := by decide +kernel
theorem dX11_bestSwap_3 : decode cX11_bestSwap 3 = .ok (.invokevirtual 240, 3) := by decide +kernel
theorem dX11_bestSwap_6 : decode cX11_bestSwap 6 = .ok (.ifCond .ne 6, 3) := by decide +kernel
theorem dX11_bestSwap_9 : decode cX11_bestSwap 9 = .ok (.bipush (-101), 2) := by decide +kernel
theorem dX11_bestSwap_11 : decode cX11_bestSwap 11 = .ok (.ireturn, 1) := by decide +kernel
theorem dX11_bestSwap_12 : decode cX11_bestSwap 12 = .ok (.iconst (-1), 1) := by decide +kernel
theorem dX11_bestSwap_13 : decode cX11_bestSwap 13 = .ok (.istore_n 3, 1) := by decide +kernel
theorem dX11_bestSwap_14 : decode cX11_bestSwap 14 = .ok (.aload_n 0, 1) := by decide +kernel
theorem dX11_bestSwap_15 : decode cX11_bestSwap 15 = .ok (.iload_n 1, 1) := by decide +kernel
theorem dX11_bestSwap_16 : decode cX11_bestSwap 16 = .ok (.iload_n 2, 1) := by decide +kernel
theorem dX11_bestSwap_17 : decode cX11_bestSwap 17 = .ok (.invokevirtual 256, 3) := by decide +kernel
theorem dX11_bestSwap_20 : decode cX11_bestSwap 20 = .ok (.istore 4, 2) := by decide +kernel
theorem dX11_bestSwap_22 : decode cX11_bestSwap 22 = .ok (.iconst 0, 1) := by decide +kernel
theorem dX11_bestSwap_23 : decode cX11_bestSwap 23 = .ok (.istore 5, 2) := by decide +kernel
theorem dX11_bestSwap_25 : decode cX11_bestSwap 25 = .ok (.iload 5, 2) := by decide +kernel
theorem dX11_bestSwap_27 : decode cX11_bestSwap 27 = .ok (.aload_n 0, 1) := by decide +kernel
theorem dX11_bestSwap_28 : decode cX11_bestSwap 28 = .ok (.getfield 134, 3) := by decide +kernel
theorem dX11_bestSwap_31 : decode cX11_bestSwap 31 = .ok (.if_icmp .ge 90, 3) := by decide +kernel
theorem dX11_bestSwap_34 : decode cX11_bestSwap 34 = .ok (.iload 5, 2) := by decide +kernel
theorem dX11_bestSwap_36 : decode cX11_bestSwap 36 = .ok (.iconst 1, 1) := by decide +kernel
theorem dX11_bestSwap_37 : decode cX11_bestSwap 37 = .ok (.iadd, 1) := by decide +kernel
theorem dX11_bestSwap_38 : decode cX11_bestSwap 38 = .ok (.istore 6, 2) := by decide +kernel
theorem dX11_bestSwap_40 : decode cX11_bestSwap 40 = .ok (.iload 6, 2) := by decide +kernel
theorem dX11_bestSwap_42 : decode cX11_bestSwap 42 = .ok (.aload_n 0, 1) := by decide +kernel
theorem dX11_bestSwap_43 : decode cX11_bestSwap 43 = .ok (.getfield 134, 3) := by decide +kernel
theorem dX11_bestSwap_46 : decode cX11_bestSwap 46 = .ok (.if_icmp .ge 69, 3) := by decide +kernel
theorem dX11_bestSwap_49 : decode cX11_bestSwap 49 = .ok (.aload_n 0, 1) := by decide +kernel
theorem dX11_bestSwap_50 : decode cX11_bestSwap 50 = .ok (.iload 5, 2) := by decide +kernel
theorem dX11_bestSwap_52 : decode cX11_bestSwap 52 = .ok (.iload 6, 2) := by decide +kernel
theorem dX11_bestSwap_54 : decode cX11_bestSwap 54 = .ok (.invokevirtual 150, 3) := by decide +kernel
theorem dX11_bestSwap_57 : decode cX11_bestSwap 57 = .ok (.aload_n 0, 1) := by decide +kernel
theorem dX11_bestSwap_58 : decode cX11_bestSwap 58 = .ok (.iload_n 1, 1) := by decide +kernel
theorem dX11_bestSwap_59 : decode cX11_bestSwap 59 = .ok (.iload_n 2, 1) := by decide +kernel
theorem dX11_bestSwap_60 : decode cX11_bestSwap 60 = .ok (.invokevirtual 256, 3) := by decide +kernel
theorem dX11_bestSwap_63 : decode cX11_bestSwap 63 = .ok (.istore 7, 2) := by decide +kernel
theorem dX11_bestSwap_65 : decode cX11_bestSwap 65 = .ok (.aload_n 0, 1) := by decide +kernel
theorem dX11_bestSwap_66 : decode cX11_bestSwap 66 = .ok (.iload 5, 2) := by decide +kernel
theorem dX11_bestSwap_68 : decode cX11_bestSwap 68 = .ok (.iload 6, 2) := by decide +kernel
theorem dX11_bestSwap_70 : decode cX11_bestSwap 70 = .ok (.invokevirtual 150, 3) := by decide +kernel
theorem dX11_bestSwap_73 : decode cX11_bestSwap 73 = .ok (.iload 7, 2) := by decide +kernel
theorem dX11_bestSwap_75 : decode cX11_bestSwap 75 = .ok (.iload 4, 2) := by decide +kernel
theorem dX11_bestSwap_77 : decode cX11_bestSwap 77 = .ok (.if_icmp .le 14, 3) := by decide +kernel
theorem dX11_bestSwap_80 : decode cX11_bestSwap 80 = .ok (.bipush 16, 2) := by decide +kernel
theorem dX11_bestSwap_82 : decode cX11_bestSwap 82 = .ok (.iload 5, 2) := by decide +kernel
theorem dX11_bestSwap_84 : decode cX11_bestSwap 84 = .ok (.imul, 1) := by decide +kernel
theorem dX11_bestSwap_85 : decode cX11_bestSwap 85 = .ok (.iload 6, 2) := by decide +kernel
theorem dX11_bestSwap_87 : decode cX11_bestSwap 87 = .ok (.iadd, 1) := by decide +kernel
theorem dX11_bestSwap_88 : decode cX11_bestSwap 88 = .ok (.goto 4, 3) := by decide +kernel
theorem dX11_bestSwap_91 : decode cX11_bestSwap 91 = .ok (.iload_n 3, 1) := by decide +kernel
theorem dX11_bestSwap_92 : decode cX11_bestSwap 92 = .ok (.istore_n 3, 1) := by decide +kernel
theorem dX11_bestSwap_93 : decode cX11_bestSwap 93 = .ok (.iload 7, 2) := by decide +kernel
theorem dX11_bestSwap_95 : decode cX11_bestSwap 95 = .ok (.iload 4, 2) := by decide +kernel
theorem dX11_bestSwap_97 : decode cX11_bestSwap 97 = .ok (.if_icmp .le 8, 3) := by decide +kernel
theorem dX11_bestSwap_100 : decode cX11_bestSwap 100 = .ok (.iload 7, 2) := by decide +kernel
theorem dX11_bestSwap_102 : decode cX11_bestSwap 102 = .ok (.goto 5, 3) := by decide +kernel
theorem dX11_bestSwap_105 : decode cX11_bestSwap 105 = .ok (.iload 4, 2) := by decide +kernel
theorem dX11_bestSwap_107 : decode cX11_bestSwap 107 = .ok (.istore 4, 2) := by decide +kernel
theorem dX11_bestSwap_109 : decode cX11_bestSwap 109 = .ok (.iinc 6 1, 3) := by decide +kernel
theorem dX11_bestSwap_112 : decode cX11_bestSwap 112 = .ok (.goto (-72), 3) := by decide +kernel
theorem dX11_bestSwap_115 : decode cX11_bestSwap 115 = .ok (.iinc 5 1, 3) := by decide +kernel
theorem dX11_bestSwap_118 : decode cX11_bestSwap 118 = .ok (.goto (-93), 3) := by decide +kernel
theorem dX11_bestSwap_121 : decode cX11_bestSwap 121 = .ok (.iload_n 3, 1) := by decide +kernel
theorem dX11_bestSwap_122 : decode cX11_bestSwap 122 = .ok (.ireturn, 1) := by decide +kernel
theorem dX11_bestStir_0 : decode cX11_bestStir 0 = .ok (.aload_n 0, 1) := by decide +kernel
theorem dX11_bestStir_1 : decode cX11_bestStir 1 = .ok (.iload_n 1, 1) := by decide +kernel
theorem dX11_bestStir_2 : decode cX11_bestStir 2 = .ok (.iload_n 2, 1) := by decide +kernel
theorem dX11_bestStir_3 : decode cX11_bestStir 3 = .ok (.invokevirtual 240, 3) := by decide +kernel
theorem dX11_bestStir_6 : decode cX11_bestStir 6 = .ok (.ifCond .ne 6, 3) := by decide +kernel
theorem dX11_bestStir_9 : decode cX11_bestStir 9 = .ok (.bipush (-101), 2) := by decide +kernel
theorem dX11_bestStir_11 : decode cX11_bestStir 11 = .ok (.ireturn, 1) := by decide +kernel
theorem dX11_bestStir_12 : decode cX11_bestStir 12 = .ok (.iconst 0, 1) := by decide +kernel
theorem dX11_bestStir_13 : decode cX11_bestStir 13 = .ok (.istore_n 3, 1) := by decide +kernel
theorem dX11_bestStir_14 : decode cX11_bestStir 14 = .ok (.ldc_w 259, 3) := by decide +kernel
theorem dX11_bestStir_17 : decode cX11_bestStir 17 = .ok (.istore 4, 2) := by decide +kernel
theorem dX11_bestStir_19 : decode cX11_bestStir 19 = .ok (.iconst 0, 1) := by decide +kernel
theorem dX11_bestStir_20 : decode cX11_bestStir 20 = .ok (.istore 5, 2) := by decide +kernel
theorem dX11_bestStir_22 : decode cX11_bestStir 22 = .ok (.iload 5, 2) := by decide +kernel
theorem dX11_bestStir_24 : decode cX11_bestStir 24 = .ok (.bipush 10, 2) := by decide +kernel
theorem dX11_bestStir_26 : decode cX11_bestStir 26 = .ok (.if_icmp .ge 67, 3) := by decide +kernel
theorem dX11_bestStir_29 : decode cX11_bestStir 29 = .ok (.aload_n 0, 1) := by decide +kernel
theorem dX11_bestStir_30 : decode cX11_bestStir 30 = .ok (.iload_n 1, 1) := by decide +kernel
theorem dX11_bestStir_31 : decode cX11_bestStir 31 = .ok (.invokevirtual 230, 3) := by decide +kernel
theorem dX11_bestStir_34 : decode cX11_bestStir 34 = .ok (.aload_n 0, 1) := by decide +kernel
theorem dX11_bestStir_35 : decode cX11_bestStir 35 = .ok (.invokevirtual 233, 3) := by decide +kernel
theorem dX11_bestStir_38 : decode cX11_bestStir 38 = .ok (.aload_n 0, 1) := by decide +kernel
theorem dX11_bestStir_39 : decode cX11_bestStir 39 = .ok (.iload 5, 2) := by decide +kernel
theorem dX11_bestStir_41 : decode cX11_bestStir 41 = .ok (.putfield 160, 3) := by decide +kernel
theorem dX11_bestStir_44 : decode cX11_bestStir 44 = .ok (.aload_n 0, 1) := by decide +kernel
theorem dX11_bestStir_45 : decode cX11_bestStir 45 = .ok (.iload_n 2, 1) := by decide +kernel
theorem dX11_bestStir_46 : decode cX11_bestStir 46 = .ok (.ldc 236, 2) := by decide +kernel
theorem dX11_bestStir_48 : decode cX11_bestStir 48 = .ok (.invokevirtual 237, 3) := by decide +kernel
theorem dX11_bestStir_51 : decode cX11_bestStir 51 = .ok (.aload_n 0, 1) := by decide +kernel
theorem dX11_bestStir_52 : decode cX11_bestStir 52 = .ok (.invokevirtual 253, 3) := by decide +kernel
theorem dX11_bestStir_55 : decode cX11_bestStir 55 = .ok (.iload 4, 2) := by decide +kernel
theorem dX11_bestStir_57 : decode cX11_bestStir 57 = .ok (.if_icmp .le 8, 3) := by decide +kernel
theorem dX11_bestStir_60 : decode cX11_bestStir 60 = .ok (.iload 5, 2) := by decide +kernel
theorem dX11_bestStir_62 : decode cX11_bestStir 62 = .ok (.goto 4, 3) := by decide +kernel
theorem dX11_bestStir_65 : decode cX11_bestStir 65 = .ok (.iload_n 3, 1) := by decide +kernel
theorem dX11_bestStir_66 : decode cX11_bestStir 66 = .ok (.istore_n 3, 1) := by decide +kernel
theorem dX11_bestStir_67 : decode cX11_bestStir 67 = .ok (.aload_n 0, 1) := by decide +kernel
theorem dX11_bestStir_68 : decode cX11_bestStir 68 = .ok (.invokevirtual 253, 3) := by decide +kernel
theorem dX11_bestStir_71 : decode cX11_bestStir 71 = .ok (.iload 4, 2) := by decide +kernel
theorem dX11_bestStir_73 : decode cX11_bestStir 73 = .ok (.if_icmp .le 10, 3) := by decide +kernel
theorem dX11_bestStir_76 : decode cX11_bestStir 76 = .ok (.aload_n 0, 1) := by decide +kernel
theorem dX11_bestStir_77 : decode cX11_bestStir 77 = .ok (.invokevirtual 253, 3) := by decide +kernel
theorem dX11_bestStir_80 : decode cX11_bestStir 80 = .ok (.goto 5, 3) := by decide +kernel
theorem dX11_bestStir_83 : decode cX11_bestStir 83 = .ok (.iload 4, 2) := by decide +kernel
theorem dX11_bestStir_85 : decode cX11_bestStir 85 = .ok (.istore 4, 2) := by decide +kernel
theorem dX11_bestStir_87 : decode cX11_bestStir 87 = .ok (.iinc 5 1, 3) := by decide +kernel
theorem dX11_bestStir_90 : decode cX11_bestStir 90 = .ok (.goto (-68), 3) := by decide +kernel
theorem dX11_bestStir_93 : decode cX11_bestStir 93 = .ok (.iload_n 3, 1) := by decide +kernel
theorem dX11_bestStir_94 : decode cX11_bestStir 94 = .ok (.ireturn, 1) := by decide +kernel
theorem dX11_digestDay_0 : decode cX11_digestDay 0 = .ok (.iconst 0, 1) := by decide +kernel
theorem dX11_digestDay_1 : decode cX11_digestDay 1 = .ok (.istore_n 1, 1) := by decide +kernel
theorem dX11_digestDay_2 : decode cX11_digestDay 2 = .ok (.iconst 0, 1) := by decide +kernel
theorem dX11_digestDay_3 : decode cX11_digestDay 3 = .ok (.istore_n 2, 1) := by decide +kernel
theorem dX11_digestDay_4 : decode cX11_digestDay 4 = .ok (.iload_n 2, 1) := by decide +kernel
theorem dX11_digestDay_5 : decode cX11_digestDay 5 = .ok (.aload_n 0, 1) := by decide +kernel
theorem dX11_digestDay_6 : decode cX11_digestDay 6 = .ok (.getfield 134, 3) := by decide +kernel
theorem dX11_digestDay_9 : decode cX11_digestDay 9 = .ok (.if_icmp .ge 102, 3) := by decide +kernel
theorem dX11_digestDay_12 : decode cX11_digestDay 12 = .ok (.aload_n 0, 1) := by decide +kernel
theorem dX11_digestDay_13 : decode cX11_digestDay 13 = .ok (.getfield 67, 3) := by decide +kernel
theorem dX11_digestDay_16 : decode cX11_digestDay 16 = .ok (.iload_n 2, 1) := by decide +kernel
theorem dX11_digestDay_17 : decode cX11_digestDay 17 = .ok (.iaload, 1) := by decide +kernel
theorem dX11_digestDay_18 : decode cX11_digestDay 18 = .ok (.ifCond .lt 87, 3) := by decide +kernel
theorem dX11_digestDay_21 : decode cX11_digestDay 21 = .ok (.aload_n 0, 1) := by decide +kernel
theorem dX11_digestDay_22 : decode cX11_digestDay 22 = .ok (.getfield 67, 3) := by decide +kernel
theorem dX11_digestDay_25 : decode cX11_digestDay 25 = .ok (.iload_n 2, 1) := by decide +kernel
theorem dX11_digestDay_26 : decode cX11_digestDay 26 = .ok (.iaload, 1) := by decide +kernel
theorem dX11_digestDay_27 : decode cX11_digestDay 27 = .ok (.aload_n 0, 1) := by decide +kernel
theorem dX11_digestDay_28 : decode cX11_digestDay 28 = .ok (.getfield 73, 3) := by decide +kernel
theorem dX11_digestDay_31 : decode cX11_digestDay 31 = .ok (.iload_n 2, 1) := by decide +kernel
theorem dX11_digestDay_32 : decode cX11_digestDay 32 = .ok (.iaload, 1) := by decide +kernel
theorem dX11_digestDay_33 : decode cX11_digestDay 33 = .ok (.iadd, 1) := by decide +kernel
theorem dX11_digestDay_34 : decode cX11_digestDay 34 = .ok (.bipush 99, 2) := by decide +kernel
theorem dX11_digestDay_36 : decode cX11_digestDay 36 = .ok (.if_icmp .le 8, 3) := by decide +kernel
theorem dX11_digestDay_39 : decode cX11_digestDay 39 = .ok (.bipush 99, 2) := by decide +kernel
theorem dX11_digestDay_41 : decode cX11_digestDay 41 = .ok (.goto 16, 3) := by decide +kernel
theorem dX11_digestDay_44 : decode cX11_digestDay 44 = .ok (.aload_n 0, 1) := by decide +kernel
theorem dX11_digestDay_45 : decode cX11_digestDay 45 = .ok (.getfield 67, 3) := by decide +kernel
theorem dX11_digestDay_48 : decode cX11_digestDay 48 = .ok (.iload_n 2, 1) := by decide +kernel
theorem dX11_digestDay_49 : decode cX11_digestDay 49 = .ok (.iaload, 1) := by decide +kernel
theorem dX11_digestDay_50 : decode cX11_digestDay 50 = .ok (.aload_n 0, 1) := by decide +kernel
theorem dX11_digestDay_51 : decode cX11_digestDay 51 = .ok (.getfield 73, 3) := by decide +kernel
theorem dX11_digestDay_54 : decode cX11_digestDay 54 = .ok (.iload_n 2, 1) := by decide +kernel
theorem dX11_digestDay_55 : decode cX11_digestDay 55 = .ok (.iaload, 1) := by decide +kernel
theorem dX11_digestDay_56 : decode cX11_digestDay 56 = .ok (.iadd, 1) := by decide +kernel
theorem dX11_digestDay_57 : decode cX11_digestDay 57 = .ok (.istore_n 3, 1) := by decide +kernel
theorem dX11_digestDay_58 : decode cX11_digestDay 58 = .ok (.aload_n 0, 1) := by decide +kernel
theorem dX11_digestDay_59 : decode cX11_digestDay 59 = .ok (.getfield 67, 3) := by decide +kernel
theorem dX11_digestDay_62 : decode cX11_digestDay 62 = .ok (.iload_n 2, 1) := by decide +kernel
theorem dX11_digestDay_63 : decode cX11_digestDay 63 = .ok (.iload_n 3, 1) := by decide +kernel
theorem dX11_digestDay_64 : decode cX11_digestDay 64 = .ok (.aload_n 0, 1) := by decide +kernel
theorem dX11_digestDay_65 : decode cX11_digestDay 65 = .ok (.getfield 16, 3) := by decide +kernel
theorem dX11_digestDay_68 : decode cX11_digestDay 68 = .ok (.iload_n 2, 1) := by decide +kernel
theorem dX11_digestDay_69 : decode cX11_digestDay 69 = .ok (.iaload, 1) := by decide +kernel
theorem dX11_digestDay_70 : decode cX11_digestDay 70 = .ok (.if_icmp .ge 7, 3) := by decide +kernel
theorem dX11_digestDay_73 : decode cX11_digestDay 73 = .ok (.iconst (-1), 1) := by decide +kernel
theorem dX11_digestDay_74 : decode cX11_digestDay 74 = .ok (.goto 11, 3) := by decide +kernel
theorem dX11_digestDay_77 : decode cX11_digestDay 77 = .ok (.iload_n 3, 1) := by decide +kernel
theorem dX11_digestDay_78 : decode cX11_digestDay 78 = .ok (.aload_n 0, 1) := by decide +kernel
theorem dX11_digestDay_79 : decode cX11_digestDay 79 = .ok (.getfield 16, 3) := by decide +kernel
theorem dX11_digestDay_82 : decode cX11_digestDay 82 = .ok (.iload_n 2, 1) := by decide +kernel
theorem dX11_digestDay_83 : decode cX11_digestDay 83 = .ok (.iaload, 1) := by decide +kernel
theorem dX11_digestDay_84 : decode cX11_digestDay 84 = .ok (.isub, 1) := by decide +kernel
theorem dX11_digestDay_85 : decode cX11_digestDay 85 = .ok (.iastore, 1) := by decide +kernel
theorem dX11_digestDay_86 : decode cX11_digestDay 86 = .ok (.iload_n 1, 1) := by decide +kernel
theorem dX11_digestDay_87 : decode cX11_digestDay 87 = .ok (.aload_n 0, 1) := by decide +kernel
theorem dX11_digestDay_88 : decode cX11_digestDay 88 = .ok (.getfield 67, 3) := by decide +kernel
theorem dX11_digestDay_91 : decode cX11_digestDay 91 = .ok (.iload_n 2, 1) := by decide +kernel
theorem dX11_digestDay_92 : decode cX11_digestDay 92 = .ok (.iaload, 1) := by decide +kernel
theorem dX11_digestDay_93 : decode cX11_digestDay 93 = .ok (.ifCond .ge 9, 3) := by decide +kernel
theorem dX11_digestDay_96 : decode cX11_digestDay 96 = .ok (.iconst 1, 1) := by decide +kernel
theorem dX11_digestDay_97 : decode cX11_digestDay 97 = .ok (.iload_n 2, 1) := by decide +kernel
theorem dX11_digestDay_98 : decode cX11_digestDay 98 = .ok (.ishl, 1) := by decide +kernel
theorem dX11_digestDay_99 : decode cX11_digestDay 99 = .ok (.goto 4, 3) := by decide +kernel
theorem dX11_digestDay_102 : decode cX11_digestDay 102 = .ok (.iconst 0, 1) := by decide +kernel
theorem dX11_digestDay_103 : decode cX11_digestDay 103 = .ok (.ior, 1) := by decide +kernel
theorem dX11_digestDay_104 : decode cX11_digestDay 104 = .ok (.istore_n 1, 1) := by decide +kernel
theorem dX11_digestDay_105 : decode cX11_digestDay 105 = .ok (.iinc 2 1, 3) := by decide +kernel
theorem dX11_digestDay_108 : decode cX11_digestDay 108 = .ok (.goto (-104), 3) := by decide +kernel
theorem dX11_digestDay_111 : decode cX11_digestDay 111 = .ok (.iload_n 1, 1) := by decide +kernel
theorem dX11_digestDay_112 : decode cX11_digestDay 112 = .ok (.ireturn, 1) := by decide +kernel
theorem dX11_live_0 : decode cX11_live 0 = .ok (.aload_n 0, 1) := by decide +kernel
theorem dX11_live_1 : decode cX11_live 1 = .ok (.iload_n 1, 1) := by decide +kernel
theorem dX11_live_2 : decode cX11_live 2 = .ok (.iload_n 2, 1) := by decide +kernel
theorem dX11_live_3 : decode cX11_live 3 = .ok (.invokevirtual 240, 3) := by decide +kernel
theorem dX11_live_6 : decode cX11_live 6 = .ok (.ifCond .ne 6, 3) := by decide +kernel
theorem dX11_live_9 : decode cX11_live 9 = .ok (.bipush (-101), 2) := by decide +kernel
theorem dX11_live_11 : decode cX11_live 11 = .ok (.ireturn, 1) := by decide +kernel
theorem dX11_live_12 : decode cX11_live 12 = .ok (.aload_n 0, 1) := by decide +kernel
theorem dX11_live_13 : decode cX11_live 13 = .ok (.iload_n 3, 1) := by decide +kernel
theorem dX11_live_14 : decode cX11_live 14 = .ok (.invokevirtual 243, 3) := by decide +kernel
theorem dX11_live_17 : decode cX11_live 17 = .ok (.ifCond .ne 6, 3) := by decide +kernel
theorem dX11_live_20 : decode cX11_live 20 = .ok (.bipush (-102), 2) := by decide +kernel
theorem dX11_live_22 : decode cX11_live 22 = .ok (.ireturn, 1) := by decide +kernel
theorem dX11_live_23 : decode cX11_live 23 = .ok (.aload_n 0, 1) := by decide +kernel
theorem dX11_live_24 : decode cX11_live 24 = .ok (.iload_n 1, 1) := by decide +kernel
theorem dX11_live_25 : decode cX11_live 25 = .ok (.iload_n 2, 1) := by decide +kernel
theorem dX11_live_26 : decode cX11_live 26 = .ok (.iload_n 3, 1) := by decide +kernel
theorem dX11_live_27 : decode cX11_live 27 = .ok (.invokevirtual 246, 3) := by decide +kernel
theorem dX11_live_30 : decode cX11_live 30 = .ok (.aload_n 0, 1) := by decide +kernel
theorem dX11_live_31 : decode cX11_live 31 = .ok (.invokevirtual 260, 3) := by decide +kernel
theorem dX11_live_34 : decode cX11_live 34 = .ok (.istore 4, 2) := by decide +kernel
theorem dX11_live_36 : decode cX11_live 36 = .ok (.iconst 0, 1) := by decide +kernel
theorem dX11_live_37 : decode cX11_live 37 = .ok (.istore 5, 2) := by decide +kernel
theorem dX11_live_39 : decode cX11_live 39 = .ok (.iload 5, 2) := by decide +kernel
theorem dX11_live_41 : decode cX11_live 41 = .ok (.bipush 10, 2) := by decide +kernel
theorem dX11_live_43 : decode cX11_live 43 = .ok (.if_icmp .ge 23, 3) := by decide +kernel
theorem dX11_live_46 : decode cX11_live 46 = .ok (.aload_n 0, 1) := by decide +kernel
theorem dX11_live_47 : decode cX11_live 47 = .ok (.getfield 25, 3) := by decide +kernel
theorem dX11_live_50 : decode cX11_live 50 = .ok (.iload 5, 2) := by decide +kernel
theorem dX11_live_52 : decode cX11_live 52 = .ok (.aload_n 0, 1) := by decide +kernel
theorem dX11_live_53 : decode cX11_live 53 = .ok (.getfield 67, 3) := by decide +kernel
theorem dX11_live_56 : decode cX11_live 56 = .ok (.iload 5, 2) := by decide +kernel
theorem dX11_live_58 : decode cX11_live 58 = .ok (.iaload, 1) := by decide +kernel
theorem dX11_live_59 : decode cX11_live 59 = .ok (.iastore, 1) := by decide +kernel
theorem dX11_live_60 : decode cX11_live 60 = .ok (.iinc 5 1, 3) := by decide +kernel
theorem dX11_live_63 : decode cX11_live 63 = .ok (.goto (-24), 3) := by decide +kernel
theorem dX11_live_66 : decode cX11_live 66 = .ok (.iload 4, 2) := by decide +kernel
theorem dX11_live_68 : decode cX11_live 68 = .ok (.ireturn, 1) := by decide +kernel
theorem dX11_starves_0 : decode cX11_starves 0 = .ok (.aload_n 0, 1) := by decide +kernel
theorem dX11_starves_1 : decode cX11_starves 1 = .ok (.iload_n 1, 1) := by decide +kernel
theorem dX11_starves_2 : decode cX11_starves 2 = .ok (.iload_n 2, 1) := by decide +kernel
theorem dX11_starves_3 : decode cX11_starves 3 = .ok (.invokevirtual 240, 3) := by decide +kernel
theorem dX11_starves_6 : decode cX11_starves 6 = .ok (.ifCond .eq 11, 3) := by decide +kernel
theorem dX11_starves_9 : decode cX11_starves 9 = .ok (.aload_n 0, 1) := by decide +kernel
theorem dX11_starves_10 : decode cX11_starves 10 = .ok (.iload_n 3, 1) := by decide +kernel
theorem dX11_starves_11 : decode cX11_starves 11 = .ok (.invokevirtual 141, 3) := by decide +kernel
theorem dX11_starves_14 : decode cX11_starves 14 = .ok (.ifCond .ne 6, 3) := by decide +kernel
theorem dX11_starves_17 : decode cX11_starves 17 = .ok (.bipush (-101), 2) := by decide +kernel
theorem dX11_starves_19 : decode cX11_starves 19 = .ok (.ireturn, 1) := by decide +kernel
theorem dX11_starves_20 : decode cX11_starves 20 = .ok (.aload_n 0, 1) := by decide +kernel
theorem dX11_starves_21 : decode cX11_starves 21 = .ok (.getfield 25, 3) := by decide +kernel
theorem dX11_starves_24 : decode cX11_starves 24 = .ok (.iload_n 3, 1) := by decide +kernel
theorem dX11_starves_25 : decode cX11_starves 25 = .ok (.iaload, 1) := by decide +kernel
theorem dX11_starves_26 : decode cX11_starves 26 = .ok (.ifCond .ge 5, 3) := by decide +kernel
theorem dX11_starves_29 : decode cX11_starves 29 = .ok (.iconst 0, 1) := by decide +kernel
theorem dX11_starves_30 : decode cX11_starves 30 = .ok (.ireturn, 1) := by decide +kernel
theorem dX11_starves_31 : decode cX11_starves 31 = .ok (.aload_n 0, 1) := by decide +kernel
theorem dX11_starves_32 : decode cX11_starves 32 = .ok (.iload_n 1, 1) := by decide +kernel
theorem dX11_starves_33 : decode cX11_starves 33 = .ok (.invokevirtual 230, 3) := by decide +kernel
theorem dX11_starves_36 : decode cX11_starves 36 = .ok (.aload_n 0, 1) := by decide +kernel
theorem dX11_starves_37 : decode cX11_starves 37 = .ok (.invokevirtual 233, 3) := by decide +kernel
theorem dX11_starves_40 : decode cX11_starves 40 = .ok (.iload_n 2, 1) := by decide +kernel
theorem dX11_starves_41 : decode cX11_starves 41 = .ok (.istore 4, 2) := by decide +kernel
theorem dX11_starves_43 : decode cX11_starves 43 = .ok (.iconst 1, 1) := by decide +kernel
theorem dX11_starves_44 : decode cX11_starves 44 = .ok (.istore 5, 2) := by decide +kernel
theorem dX11_starves_46 : decode cX11_starves 46 = .ok (.iload 5, 2) := by decide +kernel
theorem dX11_starves_48 : decode cX11_starves 48 = .ok (.bipush 60, 2) := by decide +kernel
theorem dX11_starves_50 : decode cX11_starves 50 = .ok (.if_icmp .gt 43, 3) := by decide +kernel
theorem dX11_starves_53 : decode cX11_starves 53 = .ok (.aload_n 0, 1) := by decide +kernel
theorem dX11_starves_54 : decode cX11_starves 54 = .ok (.iload 4, 2) := by decide +kernel
theorem dX11_starves_56 : decode cX11_starves 56 = .ok (.ldc 236, 2) := by decide +kernel
theorem dX11_starves_58 : decode cX11_starves 58 = .ok (.invokevirtual 237, 3) := by decide +kernel
theorem dX11_starves_61 : decode cX11_starves 61 = .ok (.aload_n 0, 1) := by decide +kernel
theorem dX11_starves_62 : decode cX11_starves 62 = .ok (.invokevirtual 260, 3) := by decide +kernel
theorem dX11_starves_65 : decode cX11_starves 65 = .ok (.iload_n 3, 1) := by decide +kernel
theorem dX11_starves_66 : decode cX11_starves 66 = .ok (.invokestatic 190, 3) := by decide +kernel
theorem dX11_starves_69 : decode cX11_starves 69 = .ok (.ifCond .eq 6, 3) := by decide +kernel
theorem dX11_starves_72 : decode cX11_starves 72 = .ok (.iload 5, 2) := by decide +kernel
theorem dX11_starves_74 : decode cX11_starves 74 = .ok (.ireturn, 1) := by decide +kernel
theorem dX11_starves_75 : decode cX11_starves 75 = .ok (.aload_n 0, 1) := by decide +kernel
theorem dX11_starves_76 : decode cX11_starves 76 = .ok (.iload 4, 2) := by decide +kernel
theorem dX11_starves_78 : decode cX11_starves 78 = .ok (.aload_n 0, 1) := by decide +kernel
theorem dX11_starves_79 : decode cX11_starves 79 = .ok (.getfield 157, 3) := by decide +kernel
theorem dX11_starves_82 : decode cX11_starves 82 = .ok (.invokevirtual 226, 3) := by decide +kernel
theorem dX11_starves_85 : decode cX11_starves 85 = .ok (.istore 4, 2) := by decide +kernel
theorem dX11_starves_87 : decode cX11_starves 87 = .ok (.iinc 5 1, 3) := by decide +kernel
theorem dX11_starves_90 : decode cX11_starves 90 = .ok (.goto (-44), 3) := by decide +kernel
theorem dX11_starves_93 : decode cX11_starves 93 = .ok (.iconst (-1), 1) := by decide +kernel
theorem dX11_starves_94 : decode cX11_starves 94 = .ok (.ireturn, 1) := by decide +kernel
theorem dX11_sittersFrom_0 : decode cX11_sittersFrom 0 = .ok (.iconst 0, 1) := by decide +kernel
theorem dX11_sittersFrom_1 : decode cX11_sittersFrom 1 = .ok (.istore_n 3, 1) := by decide +kernel
theorem dX11_sittersFrom_2 : decode cX11_sittersFrom 2 = .ok (.iconst 0, 1) := by decide +kernel
theorem dX11_sittersFrom_3 : decode cX11_sittersFrom 3 = .ok (.istore 4, 2) := by decide +kernel
theorem dX11_sittersFrom_5 : decode cX11_sittersFrom 5 = .ok (.iload 4, 2) := by decide +kernel
theorem dX11_sittersFrom_7 : decode cX11_sittersFrom 7 = .ok (.iload_n 2, 1) := by decide +kernel
theorem dX11_sittersFrom_8 : decode cX11_sittersFrom 8 = .ok (.if_icmp .ge 28, 3) := by decide +kernel
theorem dX11_sittersFrom_11 : decode cX11_sittersFrom 11 = .ok (.iload_n 3, 1) := by decide +kernel
theorem dX11_sittersFrom_12 : decode cX11_sittersFrom 12 = .ok (.iconst 1, 1) := by decide +kernel
theorem dX11_sittersFrom_13 : decode cX11_sittersFrom 13 = .ok (.aload_n 0, 1) := by decide +kernel
theorem dX11_sittersFrom_14 : decode cX11_sittersFrom 14 = .ok (.getfield 31, 3) := by decide +kernel
theorem dX11_sittersFrom_17 : decode cX11_sittersFrom 17 = .ok (.iload_n 1, 1) := by decide +kernel
theorem dX11_sittersFrom_18 : decode cX11_sittersFrom 18 = .ok (.iload 4, 2) := by decide +kernel
theorem dX11_sittersFrom_20 : decode cX11_sittersFrom 20 = .ok (.iadd, 1) := by decide +kernel
theorem dX11_sittersFrom_21 : decode cX11_sittersFrom 21 = .ok (.aload_n 0, 1) := by decide +kernel
theorem dX11_sittersFrom_22 : decode cX11_sittersFrom 22 = .ok (.getfield 134, 3) := by decide +kernel
theorem dX11_sittersFrom_25 : decode cX11_sittersFrom 25 = .ok (.irem, 1) := by decide +kernel
theorem dX11_sittersFrom_26 : decode cX11_sittersFrom 26 = .ok (.iaload, 1) := by decide +kernel
theorem dX11_sittersFrom_27 : decode cX11_sittersFrom 27 = .ok (.ishl, 1) := by decide +kernel
theorem dX11_sittersFrom_28 : decode cX11_sittersFrom 28 = .ok (.ior, 1) := by decide +kernel
theorem dX11_sittersFrom_29 : decode cX11_sittersFrom 29 = .ok (.istore_n 3, 1) := by decide +kernel
theorem dX11_sittersFrom_30 : decode cX11_sittersFrom 30 = .ok (.iinc 4 1, 3) := by decide +kernel
theorem dX11_sittersFrom_33 : decode cX11_sittersFrom 33 = .ok (.goto (-28), 3) := by decide +kernel
theorem dX11_sittersFrom_36 : decode cX11_sittersFrom 36 = .ok (.iload_n 3, 1) := by decide +kernel
theorem dX11_sittersFrom_37 : decode cX11_sittersFrom 37 = .ok (.ireturn, 1) := by decide +kernel
theorem dX11_areFed_0 : decode cX11_areFed 0 = .ok (.aload_n 0, 1) := by decide +kernel
theorem dX11_areFed_1 : decode cX11_areFed 1 = .ok (.iload_n 1, 1) := by decide +kernel
theorem dX11_areFed_2 : decode cX11_areFed 2 = .ok (.invokevirtual 230, 3) := by decide +kernel
theorem dX11_areFed_5 : decode cX11_areFed 5 = .ok (.aload_n 0, 1) := by decide +kernel
theorem dX11_areFed_6 : decode cX11_areFed 6 = .ok (.invokevirtual 233, 3) := by decide +kernel
theorem dX11_areFed_9 : decode cX11_areFed 9 = .ok (.iload_n 2, 1) := by decide +kernel
theorem dX11_areFed_10 : decode cX11_areFed 10 = .ok (.istore 5, 2) := by decide +kernel
theorem dX11_areFed_12 : decode cX11_areFed 12 = .ok (.iconst 1, 1) := by decide +kernel
theorem dX11_areFed_13 : decode cX11_areFed 13 = .ok (.istore 6, 2) := by decide +kernel
theorem dX11_areFed_15 : decode cX11_areFed 15 = .ok (.iconst 0, 1) := by decide +kernel
theorem dX11_areFed_16 : decode cX11_areFed 16 = .ok (.istore 7, 2) := by decide +kernel
theorem dX11_areFed_18 : decode cX11_areFed 18 = .ok (.iload 7, 2) := by decide +kernel
theorem dX11_areFed_20 : decode cX11_areFed 20 = .ok (.iload_n 3, 1) := by decide +kernel
theorem dX11_areFed_21 : decode cX11_areFed 21 = .ok (.if_icmp .ge 63, 3) := by decide +kernel
theorem dX11_areFed_24 : decode cX11_areFed 24 = .ok (.iload 6, 2) := by decide +kernel
theorem dX11_areFed_26 : decode cX11_areFed 26 = .ok (.ifCond .eq 58, 3) := by decide +kernel
theorem dX11_areFed_29 : decode cX11_areFed 29 = .ok (.aload_n 0, 1) := by decide +kernel
theorem dX11_areFed_30 : decode cX11_areFed 30 = .ok (.aload_n 0, 1) := by decide +kernel
theorem dX11_areFed_31 : decode cX11_areFed 31 = .ok (.iload 7, 2) := by decide +kernel
theorem dX11_areFed_33 : decode cX11_areFed 33 = .ok (.iload 4, 2) := by decide +kernel
theorem dX11_areFed_35 : decode cX11_areFed 35 = .ok (.imul, 1) := by decide +kernel
theorem dX11_areFed_36 : decode cX11_areFed 36 = .ok (.iload 4, 2) := by decide +kernel
theorem dX11_areFed_38 : decode cX11_areFed 38 = .ok (.invokevirtual 263, 3) := by decide +kernel
theorem dX11_areFed_41 : decode cX11_areFed 41 = .ok (.putfield 169, 3) := by decide +kernel
theorem dX11_areFed_44 : decode cX11_areFed 44 = .ok (.aload_n 0, 1) := by decide +kernel
theorem dX11_areFed_45 : decode cX11_areFed 45 = .ok (.iload 5, 2) := by decide +kernel
theorem dX11_areFed_47 : decode cX11_areFed 47 = .ok (.ldc 236, 2) := by decide +kernel
theorem dX11_areFed_49 : decode cX11_areFed 49 = .ok (.invokevirtual 237, 3) := by decide +kernel
theorem dX11_areFed_52 : decode cX11_areFed 52 = .ok (.aload_n 0, 1) := by decide +kernel
theorem dX11_areFed_53 : decode cX11_areFed 53 = .ok (.invokevirtual 260, 3) := by decide +kernel
theorem dX11_areFed_56 : decode cX11_areFed 56 = .ok (.ifCond .ne 7, 3) := by decide +kernel
theorem dX11_areFed_59 : decode cX11_areFed 59 = .ok (.iconst 1, 1) := by decide +kernel
theorem dX11_areFed_60 : decode cX11_areFed 60 = .ok (.goto 4, 3) := by decide +kernel
theorem dX11_areFed_63 : decode cX11_areFed 63 = .ok (.iconst 0, 1) := by decide +kernel
theorem dX11_areFed_64 : decode cX11_areFed 64 = .ok (.istore 6, 2) := by decide +kernel
theorem dX11_areFed_66 : decode cX11_areFed 66 = .ok (.aload_n 0, 1) := by decide +kernel
theorem dX11_areFed_67 : decode cX11_areFed 67 = .ok (.iload 5, 2) := by decide +kernel
theorem dX11_areFed_69 : decode cX11_areFed 69 = .ok (.aload_n 0, 1) := by decide +kernel
theorem dX11_areFed_70 : decode cX11_areFed 70 = .ok (.getfield 157, 3) := by decide +kernel
theorem dX11_areFed_73 : decode cX11_areFed 73 = .ok (.invokevirtual 226, 3) := by decide +kernel
theorem dX11_areFed_76 : decode cX11_areFed 76 = .ok (.istore 5, 2) := by decide +kernel
theorem dX11_areFed_78 : decode cX11_areFed 78 = .ok (.iinc 7 1, 3) := by decide +kernel
theorem dX11_areFed_81 : decode cX11_areFed 81 = .ok (.goto (-63), 3) := by decide +kernel
theorem dX11_areFed_84 : decode cX11_areFed 84 = .ok (.iload 6, 2) := by decide +kernel
theorem dX11_areFed_86 : decode cX11_areFed 86 = .ok (.ireturn, 1) := by decide +kernel
theorem dX11_fasting_0 : decode cX11_fasting 0 = .ok (.aload_n 0, 1) := by decide +kernel
theorem dX11_fasting_1 : decode cX11_fasting 1 = .ok (.iload_n 1, 1) := by decide +kernel
theorem dX11_fasting_2 : decode cX11_fasting 2 = .ok (.iload_n 2, 1) := by decide +kernel
theorem dX11_fasting_3 : decode cX11_fasting 3 = .ok (.invokevirtual 240, 3) := by decide +kernel
theorem dX11_fasting_6 : decode cX11_fasting 6 = .ok (.ifCond .ne 6, 3) := by decide +kernel
theorem dX11_fasting_9 : decode cX11_fasting 9 = .ok (.bipush (-101), 2) := by decide +kernel
theorem dX11_fasting_11 : decode cX11_fasting 11 = .ok (.ireturn, 1) := by decide +kernel
theorem dX11_fasting_12 : decode cX11_fasting 12 = .ok (.iload_n 3, 1) := by decide +kernel
theorem dX11_fasting_13 : decode cX11_fasting 13 = .ok (.iconst 1, 1) := by decide +kernel
theorem dX11_fasting_14 : decode cX11_fasting 14 = .ok (.bipush 30, 2) := by decide +kernel
theorem dX11_fasting_16 : decode cX11_fasting 16 = .ok (.invokestatic 90, 3) := by decide +kernel
theorem dX11_fasting_19 : decode cX11_fasting 19 = .ok (.ifCond .ne 6, 3) := by decide +kernel
theorem dX11_fasting_22 : decode cX11_fasting 22 = .ok (.bipush (-102), 2) := by decide +kernel
theorem dX11_fasting_24 : decode cX11_fasting 24 = .ok (.ireturn, 1) := by decide +kernel
theorem dX11_fasting_25 : decode cX11_fasting 25 = .ok (.iconst 0, 1) := by decide +kernel
theorem dX11_fasting_26 : decode cX11_fasting 26 = .ok (.istore 4, 2) := by decide +kernel
theorem dX11_fasting_28 : decode cX11_fasting 28 = .ok (.iload 4, 2) := by decide +kernel
theorem dX11_fasting_30 : decode cX11_fasting 30 = .ok (.aload_n 0, 1) := by decide +kernel
theorem dX11_fasting_31 : decode cX11_fasting 31 = .ok (.getfield 134, 3) := by decide +kernel
theorem dX11_fasting_34 : decode cX11_fasting 34 = .ok (.if_icmp .ge 24, 3) := by decide +kernel
theorem dX11_fasting_37 : decode cX11_fasting 37 = .ok (.aload_n 0, 1) := by decide +kernel
theorem dX11_fasting_38 : decode cX11_fasting 38 = .ok (.iload_n 1, 1) := by decide +kernel
theorem dX11_fasting_39 : decode cX11_fasting 39 = .ok (.iload_n 2, 1) := by decide +kernel
theorem dX11_fasting_40 : decode cX11_fasting 40 = .ok (.iload_n 3, 1) := by decide +kernel
theorem dX11_fasting_41 : decode cX11_fasting 41 = .ok (.iload 4, 2) := by decide +kernel
theorem dX11_fasting_43 : decode cX11_fasting 43 = .ok (.invokevirtual 266, 3) := by decide +kernel
theorem dX11_fasting_46 : decode cX11_fasting 46 = .ok (.ifCond .eq 6, 3) := by decide +kernel
theorem dX11_fasting_49 : decode cX11_fasting 49 = .ok (.iload 4, 2) := by decide +kernel
theorem dX11_fasting_51 : decode cX11_fasting 51 = .ok (.ireturn, 1) := by decide +kernel
theorem dX11_fasting_52 : decode cX11_fasting 52 = .ok (.iinc 4 1, 3) := by decide +kernel
theorem dX11_fasting_55 : decode cX11_fasting 55 = .ok (.goto (-27), 3) := by decide +kernel
theorem dX11_fasting_58 : decode cX11_fasting 58 = .ok (.iconst (-1), 1) := by decide +kernel
theorem dX11_fasting_59 : decode cX11_fasting 59 = .ok (.ireturn, 1) := by decide +kernel
theorem dX11_passSkipped_0 : decode cX11_passSkipped 0 = .ok (.iload_n 1, 1) := by decide +kernel
theorem dX11_passSkipped_1 : decode cX11_passSkipped 1 = .ok (.istore_n 3, 1) := by decide +kernel
theorem dX11_passSkipped_2 : decode cX11_passSkipped 2 = .ok (.aload_n 0, 1) := by decide +kernel
theorem dX11_passSkipped_3 : decode cX11_passSkipped 3 = .ok (.aload_n 0, 1) := by decide +kernel
theorem dX11_passSkipped_4 : decode cX11_passSkipped 4 = .ok (.getfield 31, 3) := by decide +kernel
theorem dX11_passSkipped_7 : decode cX11_passSkipped 7 = .ok (.iload_n 3, 1) := by decide +kernel
theorem dX11_passSkipped_8 : decode cX11_passSkipped 8 = .ok (.iaload, 1) := by decide +kernel
theorem dX11_passSkipped_9 : decode cX11_passSkipped 9 = .ok (.invokevirtual 193, 3) := by decide +kernel
theorem dX11_passSkipped_12 : decode cX11_passSkipped 12 = .ok (.ifCond .eq 13, 3) := by decide +kernel
theorem dX11_passSkipped_15 : decode cX11_passSkipped 15 = .ok (.aload_n 0, 1) := by decide +kernel
theorem dX11_passSkipped_16 : decode cX11_passSkipped 16 = .ok (.iload_n 3, 1) := by decide +kernel
theorem dX11_passSkipped_17 : decode cX11_passSkipped 17 = .ok (.iload_n 2, 1) := by decide +kernel
theorem dX11_passSkipped_18 : decode cX11_passSkipped 18 = .ok (.invokevirtual 226, 3) := by decide +kernel
theorem dX11_passSkipped_21 : decode cX11_passSkipped 21 = .ok (.istore_n 3, 1) := by decide +kernel
theorem dX11_passSkipped_22 : decode cX11_passSkipped 22 = .ok (.goto (-20), 3) := by decide +kernel
theorem dX11_passSkipped_25 : decode cX11_passSkipped 25 = .ok (.iload_n 3, 1) := by decide +kernel
theorem dX11_passSkipped_26 : decode cX11_passSkipped 26 = .ok (.ireturn, 1) := by decide +kernel
theorem dX11_goSchism_0 : decode cX11_goSchism 0 = .ok (.aload_n 0, 1) := by decide +kernel
theorem dX11_goSchism_1 : decode cX11_goSchism 1 = .ok (.iconst 0, 1) := by decide +kernel
theorem dX11_goSchism_2 : decode cX11_goSchism 2 = .ok (.putfield 160, 3) := by decide +kernel
theorem dX11_goSchism_5 : decode cX11_goSchism 5 = .ok (.aload_n 0, 1) := by decide +kernel
theorem dX11_goSchism_6 : decode cX11_goSchism 6 = .ok (.iconst 0, 1) := by decide +kernel
theorem dX11_goSchism_7 : decode cX11_goSchism 7 = .ok (.putfield 163, 3) := by decide +kernel
theorem dX11_goSchism_10 : decode cX11_goSchism 10 = .ok (.aload_n 0, 1) := by decide +kernel
theorem dX11_goSchism_11 : decode cX11_goSchism 11 = .ok (.iconst 0, 1) := by decide +kernel
theorem dX11_goSchism_12 : decode cX11_goSchism 12 = .ok (.putfield 166, 3) := by decide +kernel
theorem dX11_goSchism_15 : decode cX11_goSchism 15 = .ok (.aload_n 0, 1) := by decide +kernel
theorem dX11_goSchism_16 : decode cX11_goSchism 16 = .ok (.iconst 0, 1) := by decide +kernel
theorem dX11_goSchism_17 : decode cX11_goSchism 17 = .ok (.putfield 169, 3) := by decide +kernel
theorem dX11_goSchism_20 : decode cX11_goSchism 20 = .ok (.aload_n 0, 1) := by decide +kernel
theorem dX11_goSchism_21 : decode cX11_goSchism 21 = .ok (.iconst (-1), 1) := by decide +kernel
theorem dX11_goSchism_22 : decode cX11_goSchism 22 = .ok (.putfield 172, 3) := by decide +kernel
theorem dX11_goSchism_25 : decode cX11_goSchism 25 = .ok (.aload_n 0, 1) := by decide +kernel
theorem dX11_goSchism_26 : decode cX11_goSchism 26 = .ok (.invokevirtual 233, 3) := by decide +kernel
theorem dX11_goSchism_29 : decode cX11_goSchism 29 = .ok (.aload_n 0, 1) := by decide +kernel
theorem dX11_goSchism_30 : decode cX11_goSchism 30 = .ok (.invokevirtual 208, 3) := by decide +kernel
theorem dX11_goSchism_33 : decode cX11_goSchism 33 = .ok (.iload_n 1, 1) := by decide +kernel
theorem dX11_goSchism_34 : decode cX11_goSchism 34 = .ok (.istore_n 2, 1) := by decide +kernel
theorem dX11_goSchism_35 : decode cX11_goSchism 35 = .ok (.iload_n 1, 1) := by decide +kernel
theorem dX11_goSchism_36 : decode cX11_goSchism 36 = .ok (.aload_n 0, 1) := by decide +kernel
theorem dX11_goSchism_37 : decode cX11_goSchism 37 = .ok (.getfield 134, 3) := by decide +kernel
theorem dX11_goSchism_40 : decode cX11_goSchism 40 = .ok (.iconst 2, 1) := by decide +kernel
theorem dX11_goSchism_41 : decode cX11_goSchism 41 = .ok (.idiv, 1) := by decide +kernel
theorem dX11_goSchism_42 : decode cX11_goSchism 42 = .ok (.iadd, 1) := by decide +kernel
theorem dX11_goSchism_43 : decode cX11_goSchism 43 = .ok (.aload_n 0, 1) := by decide +kernel
theorem dX11_goSchism_44 : decode cX11_goSchism 44 = .ok (.getfield 134, 3) := by decide +kernel
theorem dX11_goSchism_47 : decode cX11_goSchism 47 = .ok (.irem, 1) := by decide +kernel
theorem dX11_goSchism_48 : decode cX11_goSchism 48 = .ok (.istore_n 3, 1) := by decide +kernel
theorem dX11_goSchism_49 : decode cX11_goSchism 49 = .ok (.aload_n 0, 1) := by decide +kernel
theorem dX11_goSchism_50 : decode cX11_goSchism 50 = .ok (.invokevirtual 211, 3) := by decide +kernel
theorem dX11_goSchism_53 : decode cX11_goSchism 53 = .ok (.ifCond .ne 122, 3) := by decide +kernel
theorem dX11_goSchism_56 : decode cX11_goSchism 56 = .ok (.aload_n 0, 1) := by decide +kernel
theorem dX11_goSchism_57 : decode cX11_goSchism 57 = .ok (.getfield 178, 3) := by decide +kernel
theorem dX11_goSchism_60 : decode cX11_goSchism 60 = .ok (.iconst 2, 1) := by decide +kernel
theorem dX11_goSchism_61 : decode cX11_goSchism 61 = .ok (.irem, 1) := by decide +kernel
theorem dX11_goSchism_62 : decode cX11_goSchism 62 = .ok (.ifCond .ne 7, 3) := by decide +kernel
theorem dX11_goSchism_65 : decode cX11_goSchism 65 = .ok (.iconst 1, 1) := by decide +kernel
theorem dX11_goSchism_66 : decode cX11_goSchism 66 = .ok (.goto 4, 3) := by decide +kernel
theorem dX11_goSchism_69 : decode cX11_goSchism 69 = .ok (.iconst 0, 1) := by decide +kernel
theorem dX11_goSchism_70 : decode cX11_goSchism 70 = .ok (.istore 4, 2) := by decide +kernel
theorem dX11_goSchism_72 : decode cX11_goSchism 72 = .ok (.aload_n 0, 1) := by decide +kernel
theorem dX11_goSchism_73 : decode cX11_goSchism 73 = .ok (.iload 4, 2) := by decide +kernel
theorem dX11_goSchism_75 : decode cX11_goSchism 75 = .ok (.ifCond .eq 7, 3) := by decide +kernel
theorem dX11_goSchism_78 : decode cX11_goSchism 78 = .ok (.iload_n 2, 1) := by decide +kernel
theorem dX11_goSchism_79 : decode cX11_goSchism 79 = .ok (.goto 4, 3) := by decide +kernel
theorem dX11_goSchism_82 : decode cX11_goSchism 82 = .ok (.iload_n 3, 1) := by decide +kernel
theorem dX11_goSchism_83 : decode cX11_goSchism 83 = .ok (.iload 4, 2) := by decide +kernel
theorem dX11_goSchism_85 : decode cX11_goSchism 85 = .ok (.invokevirtual 270, 3) := by decide +kernel
theorem dX11_goSchism_88 : decode cX11_goSchism 88 = .ok (.istore 5, 2) := by decide +kernel
theorem dX11_goSchism_90 : decode cX11_goSchism 90 = .ok (.iload 5, 2) := by decide +kernel
theorem dX11_goSchism_92 : decode cX11_goSchism 92 = .ok (.iload 4, 2) := by decide +kernel
theorem dX11_goSchism_94 : decode cX11_goSchism 94 = .ok (.ifCond .eq 7, 3) := by decide +kernel
theorem dX11_goSchism_97 : decode cX11_goSchism 97 = .ok (.iload_n 3, 1) := by decide +kernel
theorem dX11_goSchism_98 : decode cX11_goSchism 98 = .ok (.goto 4, 3) := by decide +kernel
theorem dX11_goSchism_101 : decode cX11_goSchism 101 = .ok (.iload_n 2, 1) := by decide +kernel
theorem dX11_goSchism_102 : decode cX11_goSchism 102 = .ok (.if_icmp .ne 11, 3) := by decide +kernel
theorem dX11_goSchism_105 : decode cX11_goSchism 105 = .ok (.aload_n 0, 1) := by decide +kernel
theorem dX11_goSchism_106 : decode cX11_goSchism 106 = .ok (.iconst 1, 1) := by decide +kernel
theorem dX11_goSchism_107 : decode cX11_goSchism 107 = .ok (.invokevirtual 223, 3) := by decide +kernel
theorem dX11_goSchism_110 : decode cX11_goSchism 110 = .ok (.goto 28, 3) := by decide +kernel
theorem dX11_goSchism_113 : decode cX11_goSchism 113 = .ok (.aload_n 0, 1) := by decide +kernel
theorem dX11_goSchism_114 : decode cX11_goSchism 114 = .ok (.getfield 31, 3) := by decide +kernel
theorem dX11_goSchism_117 : decode cX11_goSchism 117 = .ok (.iload 5, 2) := by decide +kernel
theorem dX11_goSchism_119 : decode cX11_goSchism 119 = .ok (.iaload, 1) := by decide +kernel
theorem dX11_goSchism_120 : decode cX11_goSchism 120 = .ok (.istore 6, 2) := by decide +kernel
theorem dX11_goSchism_122 : decode cX11_goSchism 122 = .ok (.aload_n 0, 1) := by decide +kernel
theorem dX11_goSchism_123 : decode cX11_goSchism 123 = .ok (.iload 6, 2) := by decide +kernel
theorem dX11_goSchism_125 : decode cX11_goSchism 125 = .ok (.invokevirtual 217, 3) := by decide +kernel
theorem dX11_goSchism_128 : decode cX11_goSchism 128 = .ok (.aload_n 0, 1) := by decide +kernel
theorem dX11_goSchism_129 : decode cX11_goSchism 129 = .ok (.aload_n 0, 1) := by decide +kernel
theorem dX11_goSchism_130 : decode cX11_goSchism 130 = .ok (.iload 6, 2) := by decide +kernel
theorem dX11_goSchism_132 : decode cX11_goSchism 132 = .ok (.invokevirtual 220, 3) := by decide +kernel
theorem dX11_goSchism_135 : decode cX11_goSchism 135 = .ok (.invokevirtual 223, 3) := by decide +kernel
theorem dX11_goSchism_138 : decode cX11_goSchism 138 = .ok (.aload_n 0, 1) := by decide +kernel
theorem dX11_goSchism_139 : decode cX11_goSchism 139 = .ok (.iload 5, 2) := by decide +kernel
theorem dX11_goSchism_141 : decode cX11_goSchism 141 = .ok (.iload 4, 2) := by decide +kernel
theorem dX11_goSchism_143 : decode cX11_goSchism 143 = .ok (.invokevirtual 226, 3) := by decide +kernel
theorem dX11_goSchism_146 : decode cX11_goSchism 146 = .ok (.istore 5, 2) := by decide +kernel
theorem dX11_goSchism_148 : decode cX11_goSchism 148 = .ok (.iload 4, 2) := by decide +kernel
theorem dX11_goSchism_150 : decode cX11_goSchism 150 = .ok (.ifCond .eq 8, 3) := by decide +kernel
theorem dX11_goSchism_153 : decode cX11_goSchism 153 = .ok (.iload 5, 2) := by decide +kernel
theorem dX11_goSchism_155 : decode cX11_goSchism 155 = .ok (.goto 4, 3) := by decide +kernel
theorem dX11_goSchism_158 : decode cX11_goSchism 158 = .ok (.iload_n 2, 1) := by decide +kernel
theorem dX11_goSchism_159 : decode cX11_goSchism 159 = .ok (.istore_n 2, 1) := by decide +kernel
theorem dX11_goSchism_160 : decode cX11_goSchism 160 = .ok (.iload 4, 2) := by decide +kernel
theorem dX11_goSchism_162 : decode cX11_goSchism 162 = .ok (.ifCond .eq 7, 3) := by decide +kernel
theorem dX11_goSchism_165 : decode cX11_goSchism 165 = .ok (.iload_n 3, 1) := by decide +kernel
theorem dX11_goSchism_166 : decode cX11_goSchism 166 = .ok (.goto 5, 3) := by decide +kernel
theorem dX11_goSchism_169 : decode cX11_goSchism 169 = .ok (.iload 5, 2) := by decide +kernel
theorem dX11_goSchism_171 : decode cX11_goSchism 171 = .ok (.istore_n 3, 1) := by decide +kernel
theorem dX11_goSchism_172 : decode cX11_goSchism 172 = .ok (.goto (-123), 3) := by decide +kernel
theorem dX11_goSchism_175 : decode cX11_goSchism 175 = .ok (.return_, 1) := by decide +kernel
theorem dX11_schism_0 : decode cX11_schism 0 = .ok (.aload_n 0, 1) := by decide +kernel
theorem dX11_schism_1 : decode cX11_schism 1 = .ok (.iload_n 1, 1) := by decide +kernel
theorem dX11_schism_2 : decode cX11_schism 2 = .ok (.invokevirtual 147, 3) := by decide +kernel
theorem dX11_schism_5 : decode cX11_schism 5 = .ok (.ifCond .ne 6, 3) := by decide +kernel
theorem dX11_schism_8 : decode cX11_schism 8 = .ok (.bipush (-101), 2) := by decide +kernel
theorem dX11_schism_10 : decode cX11_schism 10 = .ok (.ireturn, 1) := by decide +kernel
theorem dX11_schism_11 : decode cX11_schism 11 = .ok (.iload_n 2, 1) := by decide +kernel
theorem dX11_schism_12 : decode cX11_schism 12 = .ok (.iconst 0, 1) := by decide +kernel
theorem dX11_schism_13 : decode cX11_schism 13 = .ok (.bipush 11, 2) := by decide +kernel
theorem dX11_schism_15 : decode cX11_schism 15 = .ok (.invokestatic 90, 3) := by decide +kernel
theorem dX11_schism_18 : decode cX11_schism 18 = .ok (.ifCond .ne 6, 3) := by decide +kernel
theorem dX11_schism_21 : decode cX11_schism 21 = .ok (.bipush (-102), 2) := by decide +kernel
theorem dX11_schism_23 : decode cX11_schism 23 = .ok (.ireturn, 1) := by decide +kernel
theorem dX11_schism_24 : decode cX11_schism 24 = .ok (.aload_n 0, 1) := by decide +kernel
theorem dX11_schism_25 : decode cX11_schism 25 = .ok (.iload_n 1, 1) := by decide +kernel
theorem dX11_schism_26 : decode cX11_schism 26 = .ok (.invokevirtual 273, 3) := by decide +kernel
theorem dX11_schism_29 : decode cX11_schism 29 = .ok (.iload_n 2, 1) := by decide +kernel
theorem dX11_schism_30 : decode cX11_schism 30 = .ok (.bipush 11, 2) := by decide +kernel
theorem dX11_schism_32 : decode cX11_schism 32 = .ok (.if_icmp .ne 10, 3) := by decide +kernel
theorem dX11_schism_35 : decode cX11_schism 35 = .ok (.aload_n 0, 1) := by decide +kernel
theorem dX11_schism_36 : decode cX11_schism 36 = .ok (.invokevirtual 196, 3) := by decide +kernel
theorem dX11_schism_39 : decode cX11_schism 39 = .ok (.goto 34, 3) := by decide +kernel
theorem dX11_schism_42 : decode cX11_schism 42 = .ok (.iload_n 2, 1) := by decide +kernel
theorem dX11_schism_43 : decode cX11_schism 43 = .ok (.bipush 10, 2) := by decide +kernel
theorem dX11_schism_45 : decode cX11_schism 45 = .ok (.if_icmp .ne 10, 3) := by decide +kernel
theorem dX11_schism_48 : decode cX11_schism 48 = .ok (.aload_n 0, 1) := by decide +kernel
theorem dX11_schism_49 : decode cX11_schism 49 = .ok (.getfield 178, 3) := by decide +kernel
theorem dX11_schism_52 : decode cX11_schism 52 = .ok (.goto 21, 3) := by decide +kernel
theorem dX11_schism_55 : decode cX11_schism 55 = .ok (.iload_n 2, 1) := by decide +kernel
theorem dX11_schism_56 : decode cX11_schism 56 = .ok (.aload_n 0, 1) := by decide +kernel
theorem dX11_schism_57 : decode cX11_schism 57 = .ok (.getfield 134, 3) := by decide +kernel
theorem dX11_schism_60 : decode cX11_schism 60 = .ok (.if_icmp .ge 12, 3) := by decide +kernel
theorem dX11_schism_63 : decode cX11_schism 63 = .ok (.aload_n 0, 1) := by decide +kernel
theorem dX11_schism_64 : decode cX11_schism 64 = .ok (.getfield 73, 3) := by decide +kernel
theorem dX11_schism_67 : decode cX11_schism 67 = .ok (.iload_n 2, 1) := by decide +kernel
theorem dX11_schism_68 : decode cX11_schism 68 = .ok (.iaload, 1) := by decide +kernel
theorem dX11_schism_69 : decode cX11_schism 69 = .ok (.goto 4, 3) := by decide +kernel
theorem dX11_schism_72 : decode cX11_schism 72 = .ok (.iconst (-1), 1) := by decide +kernel
theorem dX11_schism_73 : decode cX11_schism 73 = .ok (.ireturn, 1) := by decide +kernel
theorem dX11_explains_0 : decode cX11_explains 0 = .ok (.aload_n 0, 1) := by decide +kernel
theorem dX11_explains_1 : decode cX11_explains 1 = .ok (.iload_n 1, 1) := by decide +kernel
theorem dX11_explains_2 : decode cX11_explains 2 = .ok (.invokevirtual 230, 3) := by decide +kernel
theorem dX11_explains_5 : decode cX11_explains 5 = .ok (.aload_n 0, 1) := by decide +kernel
theorem dX11_explains_6 : decode cX11_explains 6 = .ok (.invokevirtual 233, 3) := by decide +kernel
theorem dX11_explains_9 : decode cX11_explains 9 = .ok (.aload_n 0, 1) := by decide +kernel
theorem dX11_explains_10 : decode cX11_explains 10 = .ok (.iload 5, 2) := by decide +kernel
theorem dX11_explains_12 : decode cX11_explains 12 = .ok (.putfield 172, 3) := by decide +kernel
theorem dX11_explains_15 : decode cX11_explains 15 = .ok (.aload_n 0, 1) := by decide +kernel
theorem dX11_explains_16 : decode cX11_explains 16 = .ok (.iload_n 2, 1) := by decide +kernel
theorem dX11_explains_17 : decode cX11_explains 17 = .ok (.iload_n 3, 1) := by decide +kernel
theorem dX11_explains_18 : decode cX11_explains 18 = .ok (.invokevirtual 237, 3) := by decide +kernel
theorem dX11_explains_21 : decode cX11_explains 21 = .ok (.aload_n 0, 1) := by decide +kernel
theorem dX11_explains_22 : decode cX11_explains 22 = .ok (.invokevirtual 196, 3) := by decide +kernel
theorem dX11_explains_25 : decode cX11_explains 25 = .ok (.iload 4, 2) := by decide +kernel
theorem dX11_explains_27 : decode cX11_explains 27 = .ok (.if_icmp .ne 7, 3) := by decide +kernel
theorem dX11_explains_30 : decode cX11_explains 30 = .ok (.iconst 1, 1) := by decide +kernel
theorem dX11_explains_31 : decode cX11_explains 31 = .ok (.goto 4, 3) := by decide +kernel
theorem dX11_explains_34 : decode cX11_explains 34 = .ok (.iconst 0, 1) := by decide +kernel
theorem dX11_explains_35 : decode cX11_explains 35 = .ok (.ireturn, 1) := by decide +kernel
theorem dX11_twice_0 : decode cX11_twice 0 = .ok (.aload_n 0, 1) := by decide +kernel
theorem dX11_twice_1 : decode cX11_twice 1 = .ok (.iload_n 1, 1) := by decide +kernel
theorem dX11_twice_2 : decode cX11_twice 2 = .ok (.iload_n 2, 1) := by decide +kernel
theorem dX11_twice_3 : decode cX11_twice 3 = .ok (.invokevirtual 240, 3) := by decide +kernel
theorem dX11_twice_6 : decode cX11_twice 6 = .ok (.ifCond .ne 6, 3) := by decide +kernel
theorem dX11_twice_9 : decode cX11_twice 9 = .ok (.bipush (-101), 2) := by decide +kernel
theorem dX11_twice_11 : decode cX11_twice 11 = .ok (.ireturn, 1) := by decide +kernel
theorem dX11_twice_12 : decode cX11_twice 12 = .ok (.iload_n 3, 1) := by decide +kernel
theorem dX11_twice_13 : decode cX11_twice 13 = .ok (.iconst 1, 1) := by decide +kernel
theorem dX11_twice_14 : decode cX11_twice 14 = .ok (.bipush 60, 2) := by decide +kernel
theorem dX11_twice_16 : decode cX11_twice 16 = .ok (.invokestatic 90, 3) := by decide +kernel
theorem dX11_twice_19 : decode cX11_twice 19 = .ok (.ifCond .eq 15, 3) := by decide +kernel
theorem dX11_twice_22 : decode cX11_twice 22 = .ok (.iload 4, 2) := by decide +kernel
theorem dX11_twice_24 : decode cX11_twice 24 = .ok (.iconst 0, 1) := by decide +kernel
theorem dX11_twice_25 : decode cX11_twice 25 = .ok (.sipush 495, 3) := by decide +kernel
theorem dX11_twice_28 : decode cX11_twice 28 = .ok (.invokestatic 90, 3) := by decide +kernel
theorem dX11_twice_31 : decode cX11_twice 31 = .ok (.ifCond .ne 6, 3) := by decide +kernel
theorem dX11_twice_34 : decode cX11_twice 34 = .ok (.bipush (-102), 2) := by decide +kernel
theorem dX11_twice_36 : decode cX11_twice 36 = .ok (.ireturn, 1) := by decide +kernel
theorem dX11_twice_37 : decode cX11_twice 37 = .ok (.aload_n 0, 1) := by decide +kernel
theorem dX11_twice_38 : decode cX11_twice 38 = .ok (.iload_n 1, 1) := by decide +kernel
theorem dX11_twice_39 : decode cX11_twice 39 = .ok (.iload_n 2, 1) := by decide +kernel
theorem dX11_twice_40 : decode cX11_twice 40 = .ok (.iload_n 3, 1) := by decide +kernel
theorem dX11_twice_41 : decode cX11_twice 41 = .ok (.iload 4, 2) := by decide +kernel
theorem dX11_twice_43 : decode cX11_twice 43 = .ok (.iconst (-1), 1) := by decide +kernel
theorem dX11_twice_44 : decode cX11_twice 44 = .ok (.invokevirtual 276, 3) := by decide +kernel
theorem dX11_twice_47 : decode cX11_twice 47 = .ok (.ifCond .eq 9, 3) := by decide +kernel
theorem dX11_twice_50 : decode cX11_twice 50 = .ok (.sipush 1024, 3) := by decide +kernel
theorem dX11_twice_53 : decode cX11_twice 53 = .ok (.goto 4, 3) := by decide +kernel
theorem dX11_twice_56 : decode cX11_twice 56 = .ok (.iconst 0, 1) := by decide +kernel
theorem dX11_twice_57 : decode cX11_twice 57 = .ok (.istore 5, 2) := by decide +kernel
theorem dX11_twice_59 : decode cX11_twice 59 = .ok (.iconst 0, 1) := by decide +kernel
theorem dX11_twice_60 : decode cX11_twice 60 = .ok (.istore 6, 2) := by decide +kernel
theorem dX11_twice_62 : decode cX11_twice 62 = .ok (.iload 6, 2) := by decide +kernel
theorem dX11_twice_64 : decode cX11_twice 64 = .ok (.aload_n 0, 1) := by decide +kernel
theorem dX11_twice_65 : decode cX11_twice 65 = .ok (.getfield 134, 3) := by decide +kernel
theorem dX11_twice_68 : decode cX11_twice 68 = .ok (.if_icmp .ge 36, 3) := by decide +kernel
theorem dX11_twice_71 : decode cX11_twice 71 = .ok (.iload 5, 2) := by decide +kernel
theorem dX11_twice_73 : decode cX11_twice 73 = .ok (.aload_n 0, 1) := by decide +kernel
theorem dX11_twice_74 : decode cX11_twice 74 = .ok (.iload_n 1, 1) := by decide +kernel
theorem dX11_twice_75 : decode cX11_twice 75 = .ok (.iload_n 2, 1) := by decide +kernel
theorem dX11_twice_76 : decode cX11_twice 76 = .ok (.iload_n 3, 1) := by decide +kernel
theorem dX11_twice_77 : decode cX11_twice 77 = .ok (.iload 4, 2) := by decide +kernel
theorem dX11_twice_79 : decode cX11_twice 79 = .ok (.iload 6, 2) := by decide +kernel
theorem dX11_twice_81 : decode cX11_twice 81 = .ok (.invokevirtual 276, 3) := by decide +kernel
theorem dX11_twice_84 : decode cX11_twice 84 = .ok (.ifCond .eq 10, 3) := by decide +kernel
theorem dX11_twice_87 : decode cX11_twice 87 = .ok (.iconst 1, 1) := by decide +kernel
theorem dX11_twice_88 : decode cX11_twice 88 = .ok (.iload 6, 2) := by decide +kernel
theorem dX11_twice_90 : decode cX11_twice 90 = .ok (.ishl, 1) := by decide +kernel
theorem dX11_twice_91 : decode cX11_twice 91 = .ok (.goto 4, 3) := by decide +kernel
theorem dX11_twice_94 : decode cX11_twice 94 = .ok (.iconst 0, 1) := by decide +kernel
theorem dX11_twice_95 : decode cX11_twice 95 = .ok (.ior, 1) := by decide +kernel
theorem dX11_twice_96 : decode cX11_twice 96 = .ok (.istore 5, 2) := by decide +kernel
theorem dX11_twice_98 : decode cX11_twice 98 = .ok (.iinc 6 1, 3) := by decide +kernel
theorem dX11_twice_101 : decode cX11_twice 101 = .ok (.goto (-39), 3) := by decide +kernel
theorem dX11_twice_104 : decode cX11_twice 104 = .ok (.iload 5, 2) := by decide +kernel
theorem dX11_twice_106 : decode cX11_twice 106 = .ok (.ireturn, 1) := by decide +kernel
theorem dX11_image_0 : decode cX11_image 0 = .ok (.aload_n 0, 1) := by decide +kernel
theorem dX11_image_1 : decode cX11_image 1 = .ok (.iconst 1, 1) := by decide +kernel
theorem dX11_image_2 : decode cX11_image 2 = .ok (.putfield 280, 3) := by decide +kernel
theorem dX11_image_5 : decode cX11_image 5 = .ok (.aload_n 0, 1) := by decide +kernel
theorem dX11_image_6 : decode cX11_image 6 = .ok (.aload_n 0, 1) := by decide +kernel
theorem dX11_image_7 : decode cX11_image 7 = .ok (.getfield 134, 3) := by decide +kernel
theorem dX11_image_10 : decode cX11_image 10 = .ok (.putfield 283, 3) := by decide +kernel
theorem dX11_image_13 : decode cX11_image 13 = .ok (.aload_n 0, 1) := by decide +kernel
theorem dX11_image_14 : decode cX11_image 14 = .ok (.aload_n 0, 1) := by decide +kernel
theorem dX11_image_15 : decode cX11_image 15 = .ok (.getfield 37, 3) := by decide +kernel
theorem dX11_image_18 : decode cX11_image 18 = .ok (.putfield 286, 3) := by decide +kernel
theorem dX11_image_21 : decode cX11_image 21 = .ok (.aload_n 0, 1) := by decide +kernel
theorem dX11_image_22 : decode cX11_image 22 = .ok (.aload_n 0, 1) := by decide +kernel
theorem dX11_image_23 : decode cX11_image 23 = .ok (.getfield 154, 3) := by decide +kernel
theorem dX11_image_26 : decode cX11_image 26 = .ok (.putfield 289, 3) := by decide +kernel
theorem dX11_image_29 : decode cX11_image 29 = .ok (.iconst 0, 1) := by decide +kernel
theorem dX11_image_30 : decode cX11_image 30 = .ok (.istore_n 1, 1) := by decide +kernel
theorem dX11_image_31 : decode cX11_image 31 = .ok (.iload_n 1, 1) := by decide +kernel
theorem dX11_image_32 : decode cX11_image 32 = .ok (.bipush 10, 2) := by decide +kernel
theorem dX11_image_34 : decode cX11_image 34 = .ok (.if_icmp .ge 33, 3) := by decide +kernel
theorem dX11_image_37 : decode cX11_image 37 = .ok (.aload_n 0, 1) := by decide +kernel
theorem dX11_image_38 : decode cX11_image 38 = .ok (.getfield 58, 3) := by decide +kernel
theorem dX11_image_41 : decode cX11_image 41 = .ok (.iload_n 1, 1) := by decide +kernel
theorem dX11_image_42 : decode cX11_image 42 = .ok (.aload_n 0, 1) := by decide +kernel
theorem dX11_image_43 : decode cX11_image 43 = .ok (.getfield 25, 3) := by decide +kernel
theorem dX11_image_46 : decode cX11_image 46 = .ok (.iload_n 1, 1) := by decide +kernel
theorem dX11_image_47 : decode cX11_image 47 = .ok (.iaload, 1) := by decide +kernel
theorem dX11_image_48 : decode cX11_image 48 = .ok (.iastore, 1) := by decide +kernel
theorem dX11_image_49 : decode cX11_image 49 = .ok (.aload_n 0, 1) := by decide +kernel
theorem dX11_image_50 : decode cX11_image 50 = .ok (.getfield 61, 3) := by decide +kernel
theorem dX11_image_53 : decode cX11_image 53 = .ok (.iload_n 1, 1) := by decide +kernel
theorem dX11_image_54 : decode cX11_image 54 = .ok (.aload_n 0, 1) := by decide +kernel
theorem dX11_image_55 : decode cX11_image 55 = .ok (.getfield 28, 3) := by decide +kernel
theorem dX11_image_58 : decode cX11_image 58 = .ok (.iload_n 1, 1) := by decide +kernel
theorem dX11_image_59 : decode cX11_image 59 = .ok (.iaload, 1) := by decide +kernel
theorem dX11_image_60 : decode cX11_image 60 = .ok (.iastore, 1) := by decide +kernel
theorem dX11_image_61 : decode cX11_image 61 = .ok (.iinc 1 1, 3) := by decide +kernel
theorem dX11_image_64 : decode cX11_image 64 = .ok (.goto (-33), 3) := by decide +kernel
theorem dX11_image_67 : decode cX11_image 67 = .ok (.iconst 0, 1) := by decide +kernel
theorem dX11_image_68 : decode cX11_image 68 = .ok (.istore_n 1, 1) := by decide +kernel
theorem dX11_image_69 : decode cX11_image 69 = .ok (.iload_n 1, 1) := by decide +kernel
theorem dX11_image_70 : decode cX11_image 70 = .ok (.iconst 5, 1) := by decide +kernel
theorem dX11_image_71 : decode cX11_image 71 = .ok (.if_icmp .ge 21, 3) := by decide +kernel
theorem dX11_image_74 : decode cX11_image 74 = .ok (.aload_n 0, 1) := by decide +kernel
theorem dX11_image_75 : decode cX11_image 75 = .ok (.getfield 64, 3) := by decide +kernel
theorem dX11_image_78 : decode cX11_image 78 = .ok (.iload_n 1, 1) := by decide +kernel
theorem dX11_image_79 : decode cX11_image 79 = .ok (.aload_n 0, 1) := by decide +kernel
theorem dX11_image_80 : decode cX11_image 80 = .ok (.getfield 34, 3) := by decide +kernel
theorem dX11_image_83 : decode cX11_image 83 = .ok (.iload_n 1, 1) := by decide +kernel
theorem dX11_image_84 : decode cX11_image 84 = .ok (.iaload, 1) := by decide +kernel
theorem dX11_image_85 : decode cX11_image 85 = .ok (.iastore, 1) := by decide +kernel
theorem dX11_image_86 : decode cX11_image 86 = .ok (.iinc 1 1, 3) := by decide +kernel
theorem dX11_image_89 : decode cX11_image 89 = .ok (.goto (-20), 3) := by decide +kernel
theorem dX11_image_92 : decode cX11_image 92 = .ok (.aload_n 0, 1) := by decide +kernel
theorem dX11_image_93 : decode cX11_image 93 = .ok (.getfield 134, 3) := by decide +kernel
theorem dX11_image_96 : decode cX11_image 96 = .ok (.ireturn, 1) := by decide +kernel
theorem dX11_restore_0 : decode cX11_restore 0 = .ok (.aload_n 0, 1) := by decide +kernel
theorem dX11_restore_1 : decode cX11_restore 1 = .ok (.getfield 280, 3) := by decide +kernel
theorem dX11_restore_4 : decode cX11_restore 4 = .ok (.ifCond .ne 6, 3) := by decide +kernel
theorem dX11_restore_7 : decode cX11_restore 7 = .ok (.bipush (-103), 2) := by decide +kernel
theorem dX11_restore_9 : decode cX11_restore 9 = .ok (.ireturn, 1) := by decide +kernel
theorem dX11_restore_10 : decode cX11_restore 10 = .ok (.aload_n 0, 1) := by decide +kernel
theorem dX11_restore_11 : decode cX11_restore 11 = .ok (.aload_n 0, 1) := by decide +kernel
theorem dX11_restore_12 : decode cX11_restore 12 = .ok (.getfield 286, 3) := by decide +kernel
theorem dX11_restore_15 : decode cX11_restore 15 = .ok (.putfield 37, 3) := by decide +kernel
theorem dX11_restore_18 : decode cX11_restore 18 = .ok (.aload_n 0, 1) := by decide +kernel
theorem dX11_restore_19 : decode cX11_restore 19 = .ok (.aload_n 0, 1) := by decide +kernel
theorem dX11_restore_20 : decode cX11_restore 20 = .ok (.getfield 289, 3) := by decide +kernel
theorem dX11_restore_23 : decode cX11_restore 23 = .ok (.putfield 154, 3) := by decide +kernel
theorem dX11_restore_26 : decode cX11_restore 26 = .ok (.iconst 0, 1) := by decide +kernel
theorem dX11_restore_27 : decode cX11_restore 27 = .ok (.istore_n 1, 1) := by decide +kernel
theorem dX11_restore_28 : decode cX11_restore 28 = .ok (.iload_n 1, 1) := by decide +kernel
theorem dX11_restore_29 : decode cX11_restore 29 = .ok (.aload_n 0, 1) := by decide +kernel
theorem dX11_restore_30 : decode cX11_restore 30 = .ok (.getfield 134, 3) := by decide +kernel
theorem dX11_restore_33 : decode cX11_restore 33 = .ok (.if_icmp .ge 62, 3) := by decide +kernel
theorem dX11_restore_36 : decode cX11_restore 36 = .ok (.aload_n 0, 1) := by decide +kernel
theorem dX11_restore_37 : decode cX11_restore 37 = .ok (.getfield 25, 3) := by decide +kernel
theorem dX11_restore_40 : decode cX11_restore 40 = .ok (.iload_n 1, 1) := by decide +kernel
theorem dX11_restore_41 : decode cX11_restore 41 = .ok (.iload_n 1, 1) := by decide +kernel
theorem dX11_restore_42 : decode cX11_restore 42 = .ok (.aload_n 0, 1) := by decide +kernel
theorem dX11_restore_43 : decode cX11_restore 43 = .ok (.getfield 283, 3) := by decide +kernel
theorem dX11_restore_46 : decode cX11_restore 46 = .ok (.if_icmp .ge 12, 3) := by decide +kernel
theorem dX11_restore_49 : decode cX11_restore 49 = .ok (.aload_n 0, 1) := by decide +kernel
theorem dX11_restore_50 : decode cX11_restore 50 = .ok (.getfield 58, 3) := by decide +kernel
theorem dX11_restore_53 : decode cX11_restore 53 = .ok (.iload_n 1, 1) := by decide +kernel
theorem dX11_restore_54 : decode cX11_restore 54 = .ok (.iaload, 1) := by decide +kernel
theorem dX11_restore_55 : decode cX11_restore 55 = .ok (.goto 9, 3) := by decide +kernel
theorem dX11_restore_58 : decode cX11_restore 58 = .ok (.aload_n 0, 1) := by decide +kernel
theorem dX11_restore_59 : decode cX11_restore 59 = .ok (.getfield 25, 3) := by decide +kernel
theorem dX11_restore_62 : decode cX11_restore 62 = .ok (.iload_n 1, 1) := by decide +kernel
theorem dX11_restore_63 : decode cX11_restore 63 = .ok (.iaload, 1) := by decide +kernel
theorem dX11_restore_64 : decode cX11_restore 64 = .ok (.iastore, 1) := by decide +kernel
theorem dX11_restore_65 : decode cX11_restore 65 = .ok (.aload_n 0, 1) := by decide +kernel
theorem dX11_restore_66 : decode cX11_restore 66 = .ok (.getfield 28, 3) := by decide +kernel
theorem dX11_restore_69 : decode cX11_restore 69 = .ok (.iload_n 1, 1) := by decide +kernel
theorem dX11_restore_70 : decode cX11_restore 70 = .ok (.iload_n 1, 1) := by decide +kernel
theorem dX11_restore_71 : decode cX11_restore 71 = .ok (.aload_n 0, 1) := by decide +kernel
theorem dX11_restore_72 : decode cX11_restore 72 = .ok (.getfield 283, 3) := by decide +kernel
theorem dX11_restore_75 : decode cX11_restore 75 = .ok (.if_icmp .ge 12, 3) := by decide +kernel
theorem dX11_restore_78 : decode cX11_restore 78 = .ok (.aload_n 0, 1) := by decide +kernel
theorem dX11_restore_79 : decode cX11_restore 79 = .ok (.getfield 61, 3) := by decide +kernel
theorem dX11_restore_82 : decode cX11_restore 82 = .ok (.iload_n 1, 1) := by decide +kernel
theorem dX11_restore_83 : decode cX11_restore 83 = .ok (.iaload, 1) := by decide +kernel
theorem dX11_restore_84 : decode cX11_restore 84 = .ok (.goto 4, 3) := by decide +kernel
theorem dX11_restore_87 : decode cX11_restore 87 = .ok (.iload_n 1, 1) := by decide +kernel
theorem dX11_restore_88 : decode cX11_restore 88 = .ok (.iastore, 1) := by decide +kernel
theorem dX11_restore_89 : decode cX11_restore 89 = .ok (.iinc 1 1, 3) := by decide +kernel
theorem dX11_restore_92 : decode cX11_restore 92 = .ok (.goto (-64), 3) := by decide +kernel
theorem dX11_restore_95 : decode cX11_restore 95 = .ok (.iconst 0, 1) := by decide +kernel
theorem dX11_restore_96 : decode cX11_restore 96 = .ok (.istore_n 1, 1) := by decide +kernel
theorem dX11_restore_97 : decode cX11_restore 97 = .ok (.iload_n 1, 1) := by decide +kernel
theorem dX11_restore_98 : decode cX11_restore 98 = .ok (.aload_n 0, 1) := by decide +kernel
theorem dX11_restore_99 : decode cX11_restore 99 = .ok (.getfield 134, 3) := by decide +kernel
theorem dX11_restore_102 : decode cX11_restore 102 = .ok (.if_icmp .ge 21, 3) := by decide +kernel
theorem dX11_restore_105 : decode cX11_restore 105 = .ok (.aload_n 0, 1) := by decide +kernel
theorem dX11_restore_106 : decode cX11_restore 106 = .ok (.getfield 31, 3) := by decide +kernel
theorem dX11_restore_109 : decode cX11_restore 109 = .ok (.aload_n 0, 1) := by decide +kernel
theorem dX11_restore_110 : decode cX11_restore 110 = .ok (.getfield 28, 3) := by decide +kernel
theorem dX11_restore_113 : decode cX11_restore 113 = .ok (.iload_n 1, 1) := by decide +kernel
theorem dX11_restore_114 : decode cX11_restore 114 = .ok (.iaload, 1) := by decide +kernel
theorem dX11_restore_115 : decode cX11_restore 115 = .ok (.iload_n 1, 1) := by decide +kernel
theorem dX11_restore_116 : decode cX11_restore 116 = .ok (.iastore, 1) := by decide +kernel
theorem dX11_restore_117 : decode cX11_restore 117 = .ok (.iinc 1 1, 3) := by decide +kernel
theorem dX11_restore_120 : decode cX11_restore 120 = .ok (.goto (-23), 3) := by decide +kernel
theorem dX11_restore_123 : decode cX11_restore 123 = .ok (.iconst 0, 1) := by decide +kernel
theorem dX11_restore_124 : decode cX11_restore 124 = .ok (.istore_n 1, 1) := by decide +kernel
theorem dX11_restore_125 : decode cX11_restore 125 = .ok (.iload_n 1, 1) := by decide +kernel
theorem dX11_restore_126 : decode cX11_restore 126 = .ok (.iconst 5, 1) := by decide +kernel
theorem dX11_restore_127 : decode cX11_restore 127 = .ok (.if_icmp .ge 21, 3) := by decide +kernel
theorem dX11_restore_130 : decode cX11_restore 130 = .ok (.aload_n 0, 1) := by decide +kernel
theorem dX11_restore_131 : decode cX11_restore 131 = .ok (.getfield 34, 3) := by decide +kernel
theorem dX11_restore_134 : decode cX11_restore 134 = .ok (.iload_n 1, 1) := by decide +kernel
theorem dX11_restore_135 : decode cX11_restore 135 = .ok (.aload_n 0, 1) := by decide +kernel
theorem dX11_restore_136 : decode cX11_restore 136 = .ok (.getfield 64, 3) := by decide +kernel
theorem dX11_restore_139 : decode cX11_restore 139 = .ok (.iload_n 1, 1) := by decide +kernel
theorem dX11_restore_140 : decode cX11_restore 140 = .ok (.iaload, 1) := by decide +kernel
theorem dX11_restore_141 : decode cX11_restore 141 = .ok (.iastore, 1) := by decide +kernel
theorem dX11_restore_142 : decode cX11_restore 142 = .ok (.iinc 1 1, 3) := by decide +kernel
theorem dX11_restore_145 : decode cX11_restore 145 = .ok (.goto (-20), 3) := by decide +kernel
theorem dX11_restore_148 : decode cX11_restore 148 = .ok (.aload_n 0, 1) := by decide +kernel
theorem dX11_restore_149 : decode cX11_restore 149 = .ok (.getfield 134, 3) := by decide +kernel
theorem dX11_restore_152 : decode cX11_restore 152 = .ok (.ireturn, 1) := by decide +kernel
theorem dX11_soupAll_0 : decode cX11_soupAll 0 = .ok (.iconst 0, 1) := by decide +kernel
theorem dX11_soupAll_1 : decode cX11_soupAll 1 = .ok (.istore_n 1, 1) := by decide +kernel
theorem dX11_soupAll_2 : decode cX11_soupAll 2 = .ok (.iconst 0, 1) := by decide +kernel
theorem dX11_soupAll_3 : decode cX11_soupAll 3 = .ok (.istore_n 2, 1) := by decide +kernel
theorem dX11_soupAll_4 : decode cX11_soupAll 4 = .ok (.iload_n 2, 1) := by decide +kernel
theorem dX11_soupAll_5 : decode cX11_soupAll 5 = .ok (.iconst 5, 1) := by decide +kernel
theorem dX11_soupAll_6 : decode cX11_soupAll 6 = .ok (.if_icmp .ge 18, 3) := by decide +kernel
theorem dX11_soupAll_9 : decode cX11_soupAll 9 = .ok (.iload_n 1, 1) := by decide +kernel
theorem dX11_soupAll_10 : decode cX11_soupAll 10 = .ok (.aload_n 0, 1) := by decide +kernel
theorem dX11_soupAll_11 : decode cX11_soupAll 11 = .ok (.getfield 34, 3) := by decide +kernel
theorem dX11_soupAll_14 : decode cX11_soupAll 14 = .ok (.iload_n 2, 1) := by decide +kernel
theorem dX11_soupAll_15 : decode cX11_soupAll 15 = .ok (.iaload, 1) := by decide +kernel
theorem dX11_soupAll_16 : decode cX11_soupAll 16 = .ok (.iadd, 1) := by decide +kernel
theorem dX11_soupAll_17 : decode cX11_soupAll 17 = .ok (.istore_n 1, 1) := by decide +kernel
theorem dX11_soupAll_18 : decode cX11_soupAll 18 = .ok (.iinc 2 1, 3) := by decide +kernel
theorem dX11_soupAll_21 : decode cX11_soupAll 21 = .ok (.goto (-17), 3) := by decide +kernel
theorem dX11_soupAll_24 : decode cX11_soupAll 24 = .ok (.iload_n 1, 1) := by decide +kernel
theorem dX11_soupAll_25 : decode cX11_soupAll 25 = .ok (.ireturn, 1) := by decide +kernel
theorem dX11_starvedMany_0 : decode cX11_starvedMany 0 = .ok (.iconst 0, 1) := by decide +kernel
theorem dX11_starvedMany_1 : decode cX11_starvedMany 1 = .ok (.istore_n 1, 1) := by decide +kernel
theorem dX11_starvedMany_2 : decode cX11_starvedMany 2 = .ok (.iconst 0, 1) := by decide +kernel
theorem dX11_starvedMany_3 : decode cX11_starvedMany 3 = .ok (.istore_n 2, 1) := by decide +kernel
theorem dX11_starvedMany_4 : decode cX11_starvedMany 4 = .ok (.iload_n 2, 1) := by decide +kernel
theorem dX11_starvedMany_5 : decode cX11_starvedMany 5 = .ok (.aload_n 0, 1) := by decide +kernel
theorem dX11_starvedMany_6 : decode cX11_starvedMany 6 = .ok (.getfield 134, 3) := by decide +kernel
theorem dX11_starvedMany_9 : decode cX11_starvedMany 9 = .ok (.if_icmp .ge 26, 3) := by decide +kernel
theorem dX11_starvedMany_12 : decode cX11_starvedMany 12 = .ok (.iload_n 1, 1) := by decide +kernel
theorem dX11_starvedMany_13 : decode cX11_starvedMany 13 = .ok (.aload_n 0, 1) := by decide +kernel
theorem dX11_starvedMany_14 : decode cX11_starvedMany 14 = .ok (.getfield 25, 3) := by decide +kernel
theorem dX11_starvedMany_17 : decode cX11_starvedMany 17 = .ok (.iload_n 2, 1) := by decide +kernel
theorem dX11_starvedMany_18 : decode cX11_starvedMany 18 = .ok (.iaload, 1) := by decide +kernel
theorem dX11_starvedMany_19 : decode cX11_starvedMany 19 = .ok (.ifCond .ge 7, 3) := by decide +kernel
theorem dX11_starvedMany_22 : decode cX11_starvedMany 22 = .ok (.iconst 1, 1) := by decide +kernel
theorem dX11_starvedMany_23 : decode cX11_starvedMany 23 = .ok (.goto 4, 3) := by decide +kernel
theorem dX11_starvedMany_26 : decode cX11_starvedMany 26 = .ok (.iconst 0, 1) := by decide +kernel
theorem dX11_starvedMany_27 : decode cX11_starvedMany 27 = .ok (.iadd, 1) := by decide +kernel
theorem dX11_starvedMany_28 : decode cX11_starvedMany 28 = .ok (.istore_n 1, 1) := by decide +kernel
theorem dX11_starvedMany_29 : decode cX11_starvedMany 29 = .ok (.iinc 2 1, 3) := by decide +kernel
theorem dX11_starvedMany_32 : decode cX11_starvedMany 32 = .ok (.goto (-28), 3) := by decide +kernel
theorem dX11_starvedMany_35 : decode cX11_starvedMany 35 = .ok (.iload_n 1, 1) := by decide +kernel
theorem dX11_starvedMany_36 : decode cX11_starvedMany 36 = .ok (.ireturn, 1) := by decide +kernel
theorem dX11_howMany_0 : decode cX11_howMany 0 = .ok (.iload_n 1, 1) := by decide +kernel
theorem dX11_howMany_1 : decode cX11_howMany 1 = .ok (.tableswitch 86 0 6 #[43, 48, 53, 58, 63, 76, 81], 43) := by decide +kernel
theorem dX11_howMany_44 : decode cX11_howMany 44 = .ok (.aload_n 0, 1) := by decide +kernel
theorem dX11_howMany_45 : decode cX11_howMany 45 = .ok (.getfield 134, 3) := by decide +kernel
theorem dX11_howMany_48 : decode cX11_howMany 48 = .ok (.ireturn, 1) := by decide +kernel
theorem dX11_howMany_49 : decode cX11_howMany 49 = .ok (.aload_n 0, 1) := by decide +kernel
theorem dX11_howMany_50 : decode cX11_howMany 50 = .ok (.getfield 124, 3) := by decide +kernel
theorem dX11_howMany_53 : decode cX11_howMany 53 = .ok (.ireturn, 1) := by decide +kernel
theorem dX11_howMany_54 : decode cX11_howMany 54 = .ok (.aload_n 0, 1) := by decide +kernel
theorem dX11_howMany_55 : decode cX11_howMany 55 = .ok (.invokevirtual 292, 3) := by decide +kernel
theorem dX11_howMany_58 : decode cX11_howMany 58 = .ok (.ireturn, 1) := by decide +kernel
theorem dX11_howMany_59 : decode cX11_howMany 59 = .ok (.aload_n 0, 1) := by decide +kernel
theorem dX11_howMany_60 : decode cX11_howMany 60 = .ok (.getfield 37, 3) := by decide +kernel
theorem dX11_howMany_63 : decode cX11_howMany 63 = .ok (.ireturn, 1) := by decide +kernel
theorem dX11_howMany_64 : decode cX11_howMany 64 = .ok (.aload_n 0, 1) := by decide +kernel
theorem dX11_howMany_65 : decode cX11_howMany 65 = .ok (.getfield 154, 3) := by decide +kernel
theorem dX11_howMany_68 : decode cX11_howMany 68 = .ok (.ifCond .eq 7, 3) := by decide +kernel
theorem dX11_howMany_71 : decode cX11_howMany 71 = .ok (.iconst 1, 1) := by decide +kernel
theorem dX11_howMany_72 : decode cX11_howMany 72 = .ok (.goto 4, 3) := by decide +kernel
theorem dX11_howMany_75 : decode cX11_howMany 75 = .ok (.iconst 0, 1) := by decide +kernel
theorem dX11_howMany_76 : decode cX11_howMany 76 = .ok (.ireturn, 1) := by decide +kernel
theorem dX11_howMany_77 : decode cX11_howMany 77 = .ok (.aload_n 0, 1) := by decide +kernel
theorem dX11_howMany_78 : decode cX11_howMany 78 = .ok (.invokevirtual 295, 3) := by decide +kernel
theorem dX11_howMany_81 : decode cX11_howMany 81 = .ok (.ireturn, 1) := by decide +kernel
theorem dX11_howMany_82 : decode cX11_howMany 82 = .ok (.aload_n 0, 1) := by decide +kernel
theorem dX11_howMany_83 : decode cX11_howMany 83 = .ok (.getfield 87, 3) := by decide +kernel
theorem dX11_howMany_86 : decode cX11_howMany 86 = .ok (.ireturn, 1) := by decide +kernel
theorem dX11_howMany_87 : decode cX11_howMany 87 = .ok (.bipush (-102), 2) := by decide +kernel
theorem dX11_howMany_89 : decode cX11_howMany 89 = .ok (.ireturn, 1) := by decide +kernel
theorem dX11_count_0 : decode cX11_count 0 = .ok (.aload_n 0, 1) := by decide +kernel
theorem dX11_count_1 : decode cX11_count 1 = .ok (.iload_n 1, 1) := by decide +kernel
theorem dX11_count_2 : decode cX11_count 2 = .ok (.invokevirtual 298, 3) := by decide +kernel
theorem dX11_count_5 : decode cX11_count 5 = .ok (.ireturn, 1) := by decide +kernel
theorem dX11_mix_0 : decode cX11_mix 0 = .ok (.aload_n 0, 1) := by decide +kernel
theorem dX11_mix_1 : decode cX11_mix 1 = .ok (.ldc2_w 301, 3) := by decide +kernel
theorem dX11_mix_4 : decode cX11_mix 4 = .ok (.aload_n 0, 1) := by decide +kernel
theorem dX11_mix_5 : decode cX11_mix 5 = .ok (.getfield 303, 3) := by decide +kernel
theorem dX11_mix_8 : decode cX11_mix 8 = .ok (.lmul, 1) := by decide +kernel
theorem dX11_mix_9 : decode cX11_mix 9 = .ok (.lload_n 1, 1) := by decide +kernel
theorem dX11_mix_10 : decode cX11_mix 10 = .ok (.ladd, 1) := by decide +kernel
theorem dX11_mix_11 : decode cX11_mix 11 = .ok (.putfield 303, 3) := by decide +kernel
theorem dX11_mix_14 : decode cX11_mix 14 = .ok (.return_, 1) := by decide +kernel
theorem dX11_mixVow_0 : decode cX11_mixVow 0 = .ok (.iconst 0, 1) := by decide +kernel
theorem dX11_mixVow_1 : decode cX11_mixVow 1 = .ok (.istore_n 2, 1) := by decide +kernel
theorem dX11_mixVow_2 : decode cX11_mixVow 2 = .ok (.iload_n 2, 1) := by decide +kernel
theorem dX11_mixVow_3 : decode cX11_mixVow 3 = .ok (.iconst 4, 1) := by decide +kernel
theorem dX11_mixVow_4 : decode cX11_mixVow 4 = .ok (.if_icmp .ge 20, 3) := by decide +kernel
theorem dX11_mixVow_7 : decode cX11_mixVow 7 = .ok (.aload_n 0, 1) := by decide +kernel
theorem dX11_mixVow_8 : decode cX11_mixVow 8 = .ok (.aload_n 0, 1) := by decide +kernel
theorem dX11_mixVow_9 : decode cX11_mixVow 9 = .ok (.iload_n 1, 1) := by decide +kernel
theorem dX11_mixVow_10 : decode cX11_mixVow 10 = .ok (.iload_n 2, 1) := by decide +kernel
theorem dX11_mixVow_11 : decode cX11_mixVow 11 = .ok (.invokevirtual 131, 3) := by decide +kernel
theorem dX11_mixVow_14 : decode cX11_mixVow 14 = .ok (.i2l, 1) := by decide +kernel
theorem dX11_mixVow_15 : decode cX11_mixVow 15 = .ok (.invokevirtual 307, 3) := by decide +kernel
theorem dX11_mixVow_18 : decode cX11_mixVow 18 = .ok (.iinc 2 1, 3) := by decide +kernel
theorem dX11_mixVow_21 : decode cX11_mixVow 21 = .ok (.goto (-19), 3) := by decide +kernel
theorem dX11_mixVow_24 : decode cX11_mixVow 24 = .ok (.aload_n 0, 1) := by decide +kernel
theorem dX11_mixVow_25 : decode cX11_mixVow 25 = .ok (.getfield 134, 3) := by decide +kernel
theorem dX11_mixVow_28 : decode cX11_mixVow 28 = .ok (.ifCond .le 43, 3) := by decide +kernel
theorem dX11_mixVow_31 : decode cX11_mixVow 31 = .ok (.aload_n 0, 1) := by decide +kernel
theorem dX11_mixVow_32 : decode cX11_mixVow 32 = .ok (.iload_n 1, 1) := by decide +kernel
theorem dX11_mixVow_33 : decode cX11_mixVow 33 = .ok (.iconst 0, 1) := by decide +kernel
theorem dX11_mixVow_34 : decode cX11_mixVow 34 = .ok (.iconst 0, 1) := by decide +kernel
theorem dX11_mixVow_35 : decode cX11_mixVow 35 = .ok (.invokevirtual 246, 3) := by decide +kernel
theorem dX11_mixVow_38 : decode cX11_mixVow 38 = .ok (.iconst 0, 1) := by decide +kernel
theorem dX11_mixVow_39 : decode cX11_mixVow 39 = .ok (.istore_n 2, 1) := by decide +kernel
theorem dX11_mixVow_40 : decode cX11_mixVow 40 = .ok (.iload_n 2, 1) := by decide +kernel
theorem dX11_mixVow_41 : decode cX11_mixVow 41 = .ok (.bipush 6, 2) := by decide +kernel
theorem dX11_mixVow_43 : decode cX11_mixVow 43 = .ok (.if_icmp .ge 19, 3) := by decide +kernel
theorem dX11_mixVow_46 : decode cX11_mixVow 46 = .ok (.aload_n 0, 1) := by decide +kernel
theorem dX11_mixVow_47 : decode cX11_mixVow 47 = .ok (.aload_n 0, 1) := by decide +kernel
theorem dX11_mixVow_48 : decode cX11_mixVow 48 = .ok (.iload_n 2, 1) := by decide +kernel
theorem dX11_mixVow_49 : decode cX11_mixVow 49 = .ok (.invokevirtual 250, 3) := by decide +kernel
theorem dX11_mixVow_52 : decode cX11_mixVow 52 = .ok (.i2l, 1) := by decide +kernel
theorem dX11_mixVow_53 : decode cX11_mixVow 53 = .ok (.invokevirtual 307, 3) := by decide +kernel
theorem dX11_mixVow_56 : decode cX11_mixVow 56 = .ok (.iinc 2 1, 3) := by decide +kernel
theorem dX11_mixVow_59 : decode cX11_mixVow 59 = .ok (.goto (-19), 3) := by decide +kernel
theorem dX11_mixVow_62 : decode cX11_mixVow 62 = .ok (.aload_n 0, 1) := by decide +kernel
theorem dX11_mixVow_63 : decode cX11_mixVow 63 = .ok (.aload_n 0, 1) := by decide +kernel
theorem dX11_mixVow_64 : decode cX11_mixVow 64 = .ok (.invokevirtual 253, 3) := by decide +kernel
theorem dX11_mixVow_67 : decode cX11_mixVow 67 = .ok (.i2l, 1) := by decide +kernel
theorem dX11_mixVow_68 : decode cX11_mixVow 68 = .ok (.invokevirtual 307, 3) := by decide +kernel
theorem dX11_mixVow_71 : decode cX11_mixVow 71 = .ok (.return_, 1) := by decide +kernel
theorem dX11_digest_0 : decode cX11_digest 0 = .ok (.aload_n 0, 1) := by decide +kernel
theorem dX11_digest_1 : decode cX11_digest 1 = .ok (.ldc2_w 311, 3) := by decide +kernel
theorem dX11_digest_4 : decode cX11_digest 4 = .ok (.putfield 303, 3) := by decide +kernel
theorem dX11_digest_7 : decode cX11_digest 7 = .ok (.iconst 0, 1) := by decide +kernel
theorem dX11_digest_8 : decode cX11_digest 8 = .ok (.istore_n 1, 1) := by decide +kernel
theorem dX11_digest_9 : decode cX11_digest 9 = .ok (.iload_n 1, 1) := by decide +kernel
theorem dX11_digest_10 : decode cX11_digest 10 = .ok (.aload_n 0, 1) := by decide +kernel
theorem dX11_digest_11 : decode cX11_digest 11 = .ok (.getfield 134, 3) := by decide +kernel
theorem dX11_digest_14 : decode cX11_digest 14 = .ok (.if_icmp .ge 34, 3) := by decide +kernel
theorem dX11_digest_17 : decode cX11_digest 17 = .ok (.iconst 0, 1) := by decide +kernel
theorem dX11_digest_18 : decode cX11_digest 18 = .ok (.istore_n 2, 1) := by decide +kernel
theorem dX11_digest_19 : decode cX11_digest 19 = .ok (.iload_n 2, 1) := by decide +kernel
theorem dX11_digest_20 : decode cX11_digest 20 = .ok (.bipush 7, 2) := by decide +kernel
theorem dX11_digest_22 : decode cX11_digest 22 = .ok (.if_icmp .ge 20, 3) := by decide +kernel
theorem dX11_digest_25 : decode cX11_digest 25 = .ok (.aload_n 0, 1) := by decide +kernel
theorem dX11_digest_26 : decode cX11_digest 26 = .ok (.aload_n 0, 1) := by decide +kernel
theorem dX11_digest_27 : decode cX11_digest 27 = .ok (.iload_n 1, 1) := by decide +kernel
theorem dX11_digest_28 : decode cX11_digest 28 = .ok (.iload_n 2, 1) := by decide +kernel
theorem dX11_digest_29 : decode cX11_digest 29 = .ok (.invokevirtual 144, 3) := by decide +kernel
theorem dX11_digest_32 : decode cX11_digest 32 = .ok (.i2l, 1) := by decide +kernel
theorem dX11_digest_33 : decode cX11_digest 33 = .ok (.invokevirtual 307, 3) := by decide +kernel
theorem dX11_digest_36 : decode cX11_digest 36 = .ok (.iinc 2 1, 3) := by decide +kernel
theorem dX11_digest_39 : decode cX11_digest 39 = .ok (.goto (-20), 3) := by decide +kernel
theorem dX11_digest_42 : decode cX11_digest 42 = .ok (.iinc 1 1, 3) := by decide +kernel
theorem dX11_digest_45 : decode cX11_digest 45 = .ok (.goto (-36), 3) := by decide +kernel
theorem dX11_digest_48 : decode cX11_digest 48 = .ok (.iconst 0, 1) := by decide +kernel
theorem dX11_digest_49 : decode cX11_digest 49 = .ok (.istore_n 1, 1) := by decide +kernel
theorem dX11_digest_50 : decode cX11_digest 50 = .ok (.iload_n 1, 1) := by decide +kernel
theorem dX11_digest_51 : decode cX11_digest 51 = .ok (.iconst 5, 1) := by decide +kernel
theorem dX11_digest_52 : decode cX11_digest 52 = .ok (.if_icmp .ge 20, 3) := by decide +kernel
theorem dX11_digest_55 : decode cX11_digest 55 = .ok (.aload_n 0, 1) := by decide +kernel
theorem dX11_digest_56 : decode cX11_digest 56 = .ok (.aload_n 0, 1) := by decide +kernel
theorem dX11_digest_57 : decode cX11_digest 57 = .ok (.getfield 34, 3) := by decide +kernel
theorem dX11_digest_60 : decode cX11_digest 60 = .ok (.iload_n 1, 1) := by decide +kernel
theorem dX11_digest_61 : decode cX11_digest 61 = .ok (.iaload, 1) := by decide +kernel
theorem dX11_digest_62 : decode cX11_digest 62 = .ok (.i2l, 1) := by decide +kernel
theorem dX11_digest_63 : decode cX11_digest 63 = .ok (.invokevirtual 307, 3) := by decide +kernel
theorem dX11_digest_66 : decode cX11_digest 66 = .ok (.iinc 1 1, 3) := by decide +kernel
theorem dX11_digest_69 : decode cX11_digest 69 = .ok (.goto (-19), 3) := by decide +kernel
theorem dX11_digest_72 : decode cX11_digest 72 = .ok (.iconst 0, 1) := by decide +kernel
theorem dX11_digest_73 : decode cX11_digest 73 = .ok (.istore_n 1, 1) := by decide +kernel
theorem dX11_digest_74 : decode cX11_digest 74 = .ok (.iload_n 1, 1) := by decide +kernel
theorem dX11_digest_75 : decode cX11_digest 75 = .ok (.aload_n 0, 1) := by decide +kernel
theorem dX11_digest_76 : decode cX11_digest 76 = .ok (.getfield 124, 3) := by decide +kernel
theorem dX11_digest_79 : decode cX11_digest 79 = .ok (.if_icmp .ge 14, 3) := by decide +kernel
theorem dX11_digest_82 : decode cX11_digest 82 = .ok (.aload_n 0, 1) := by decide +kernel
theorem dX11_digest_83 : decode cX11_digest 83 = .ok (.iload_n 1, 1) := by decide +kernel
theorem dX11_digest_84 : decode cX11_digest 84 = .ok (.invokevirtual 313, 3) := by decide +kernel
theorem dX11_digest_87 : decode cX11_digest 87 = .ok (.iinc 1 1, 3) := by decide +kernel
theorem dX11_digest_90 : decode cX11_digest 90 = .ok (.goto (-16), 3) := by decide +kernel
theorem dX11_digest_93 : decode cX11_digest 93 = .ok (.iconst 0, 1) := by decide +kernel
theorem dX11_digest_94 : decode cX11_digest 94 = .ok (.istore_n 1, 1) := by decide +kernel
theorem dX11_digest_95 : decode cX11_digest 95 = .ok (.iload_n 1, 1) := by decide +kernel
theorem dX11_digest_96 : decode cX11_digest 96 = .ok (.aload_n 0, 1) := by decide +kernel
theorem dX11_digest_97 : decode cX11_digest 97 = .ok (.getfield 87, 3) := by decide +kernel
theorem dX11_digest_100 : decode cX11_digest 100 = .ok (.if_icmp .ge 20, 3) := by decide +kernel
theorem dX11_digest_103 : decode cX11_digest 103 = .ok (.aload_n 0, 1) := by decide +kernel
theorem dX11_digest_104 : decode cX11_digest 104 = .ok (.aload_n 0, 1) := by decide +kernel
theorem dX11_digest_105 : decode cX11_digest 105 = .ok (.getfield 54, 3) := by decide +kernel
theorem dX11_digest_108 : decode cX11_digest 108 = .ok (.iload_n 1, 1) := by decide +kernel
theorem dX11_digest_109 : decode cX11_digest 109 = .ok (.baload, 1) := by decide +kernel
theorem dX11_digest_110 : decode cX11_digest 110 = .ok (.i2l, 1) := by decide +kernel
theorem dX11_digest_111 : decode cX11_digest 111 = .ok (.invokevirtual 307, 3) := by decide +kernel
theorem dX11_digest_114 : decode cX11_digest 114 = .ok (.iinc 1 1, 3) := by decide +kernel
theorem dX11_digest_117 : decode cX11_digest 117 = .ok (.goto (-22), 3) := by decide +kernel
theorem dX11_digest_120 : decode cX11_digest 120 = .ok (.iconst 0, 1) := by decide +kernel
theorem dX11_digest_121 : decode cX11_digest 121 = .ok (.istore_n 1, 1) := by decide +kernel
theorem dX11_digest_122 : decode cX11_digest 122 = .ok (.iload_n 1, 1) := by decide +kernel
theorem dX11_digest_123 : decode cX11_digest 123 = .ok (.bipush 7, 2) := by decide +kernel
theorem dX11_digest_125 : decode cX11_digest 125 = .ok (.if_icmp .ge 19, 3) := by decide +kernel
theorem dX11_digest_128 : decode cX11_digest 128 = .ok (.aload_n 0, 1) := by decide +kernel
theorem dX11_digest_129 : decode cX11_digest 129 = .ok (.aload_n 0, 1) := by decide +kernel
theorem dX11_digest_130 : decode cX11_digest 130 = .ok (.iload_n 1, 1) := by decide +kernel
theorem dX11_digest_131 : decode cX11_digest 131 = .ok (.invokevirtual 298, 3) := by decide +kernel
theorem dX11_digest_134 : decode cX11_digest 134 = .ok (.i2l, 1) := by decide +kernel
theorem dX11_digest_135 : decode cX11_digest 135 = .ok (.invokevirtual 307, 3) := by decide +kernel
theorem dX11_digest_138 : decode cX11_digest 138 = .ok (.iinc 1 1, 3) := by decide +kernel
theorem dX11_digest_141 : decode cX11_digest 141 = .ok (.goto (-19), 3) := by decide +kernel
theorem dX11_digest_144 : decode cX11_digest 144 = .ok (.aload_n 0, 1) := by decide +kernel
theorem dX11_digest_145 : decode cX11_digest 145 = .ok (.getfield 303, 3) := by decide +kernel
theorem dX11_digest_148 : decode cX11_digest 148 = .ok (.lreturn, 1) := by decide +kernel
