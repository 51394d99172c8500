theorem d_M_init_0 : decode b_M_init 0 = .ok (.aload_n 0, 1) := by decide +kernel
theorem d_M_init_1 : decode b_M_init 1 = .ok (.invokespecial 1, 3) := by decide +kernel
theorem d_M_init_4 : decode b_M_init 4 = .ok (.aload_n 0, 1) := by decide +kernel
theorem d_M_init_5 : decode b_M_init 5 = .ok (.bipush 60, 2) := by decide +kernel
theorem d_M_init_7 : decode b_M_init 7 = .ok (.newarray .int, 2) := by decide +kernel
theorem d_M_init_9 : decode b_M_init 9 = .ok (.putfield 7, 3) := by decide +kernel
theorem d_M_init_12 : decode b_M_init 12 = .ok (.aload_n 0, 1) := by decide +kernel
theorem d_M_init_13 : decode b_M_init 13 = .ok (.bipush 60, 2) := by decide +kernel
theorem d_M_init_15 : decode b_M_init 15 = .ok (.newarray .int, 2) := by decide +kernel
theorem d_M_init_17 : decode b_M_init 17 = .ok (.putfield 13, 3) := by decide +kernel
theorem d_M_init_20 : decode b_M_init 20 = .ok (.aload_n 0, 1) := by decide +kernel
theorem d_M_init_21 : decode b_M_init 21 = .ok (.bipush 60, 2) := by decide +kernel
theorem d_M_init_23 : decode b_M_init 23 = .ok (.newarray .int, 2) := by decide +kernel
theorem d_M_init_25 : decode b_M_init 25 = .ok (.putfield 16, 3) := by decide +kernel
theorem d_M_init_28 : decode b_M_init 28 = .ok (.aload_n 0, 1) := by decide +kernel
theorem d_M_init_29 : decode b_M_init 29 = .ok (.bipush 60, 2) := by decide +kernel
theorem d_M_init_31 : decode b_M_init 31 = .ok (.newarray .int, 2) := by decide +kernel
theorem d_M_init_33 : decode b_M_init 33 = .ok (.putfield 19, 3) := by decide +kernel
theorem d_M_init_36 : decode b_M_init 36 = .ok (.aload_n 0, 1) := by decide +kernel
theorem d_M_init_37 : decode b_M_init 37 = .ok (.bipush 60, 2) := by decide +kernel
theorem d_M_init_39 : decode b_M_init 39 = .ok (.newarray .int, 2) := by decide +kernel
theorem d_M_init_41 : decode b_M_init 41 = .ok (.putfield 22, 3) := by decide +kernel
theorem d_M_init_44 : decode b_M_init 44 = .ok (.aload_n 0, 1) := by decide +kernel
theorem d_M_init_45 : decode b_M_init 45 = .ok (.bipush 60, 2) := by decide +kernel
theorem d_M_init_47 : decode b_M_init 47 = .ok (.newarray .int, 2) := by decide +kernel
theorem d_M_init_49 : decode b_M_init 49 = .ok (.putfield 25, 3) := by decide +kernel
theorem d_M_init_52 : decode b_M_init 52 = .ok (.aload_n 0, 1) := by decide +kernel
theorem d_M_init_53 : decode b_M_init 53 = .ok (.sipush 360, 3) := by decide +kernel
theorem d_M_init_56 : decode b_M_init 56 = .ok (.newarray .int, 2) := by decide +kernel
theorem d_M_init_58 : decode b_M_init 58 = .ok (.putfield 28, 3) := by decide +kernel
theorem d_M_init_61 : decode b_M_init 61 = .ok (.aload_n 0, 1) := by decide +kernel
theorem d_M_init_62 : decode b_M_init 62 = .ok (.sipush 360, 3) := by decide +kernel
theorem d_M_init_65 : decode b_M_init 65 = .ok (.newarray .int, 2) := by decide +kernel
theorem d_M_init_67 : decode b_M_init 67 = .ok (.putfield 31, 3) := by decide +kernel
theorem d_M_init_70 : decode b_M_init 70 = .ok (.aload_n 0, 1) := by decide +kernel
theorem d_M_init_71 : decode b_M_init 71 = .ok (.sipush 360, 3) := by decide +kernel
theorem d_M_init_74 : decode b_M_init 74 = .ok (.newarray .long, 2) := by decide +kernel
theorem d_M_init_76 : decode b_M_init 76 = .ok (.putfield 34, 3) := by decide +kernel
theorem d_M_init_79 : decode b_M_init 79 = .ok (.aload_n 0, 1) := by decide +kernel
theorem d_M_init_80 : decode b_M_init 80 = .ok (.iconst 3, 1) := by decide +kernel
theorem d_M_init_81 : decode b_M_init 81 = .ok (.newarray .int, 2) := by decide +kernel
theorem d_M_init_83 : decode b_M_init 83 = .ok (.putfield 38, 3) := by decide +kernel
theorem d_M_init_86 : decode b_M_init 86 = .ok (.aload_n 0, 1) := by decide +kernel
theorem d_M_init_87 : decode b_M_init 87 = .ok (.bipush 90, 2) := by decide +kernel
theorem d_M_init_89 : decode b_M_init 89 = .ok (.newarray .int, 2) := by decide +kernel
theorem d_M_init_91 : decode b_M_init 91 = .ok (.putfield 41, 3) := by decide +kernel
theorem d_M_init_94 : decode b_M_init 94 = .ok (.aload_n 0, 1) := by decide +kernel
theorem d_M_init_95 : decode b_M_init 95 = .ok (.bipush 12, 2) := by decide +kernel
theorem d_M_init_97 : decode b_M_init 97 = .ok (.newarray .boolean, 2) := by decide +kernel
theorem d_M_init_99 : decode b_M_init 99 = .ok (.putfield 44, 3) := by decide +kernel
theorem d_M_init_102 : decode b_M_init 102 = .ok (.aload_n 0, 1) := by decide +kernel
theorem d_M_init_103 : decode b_M_init 103 = .ok (.bipush 12, 2) := by decide +kernel
theorem d_M_init_105 : decode b_M_init 105 = .ok (.newarray .int, 2) := by decide +kernel
theorem d_M_init_107 : decode b_M_init 107 = .ok (.putfield 48, 3) := by decide +kernel
theorem d_M_init_110 : decode b_M_init 110 = .ok (.aload_n 0, 1) := by decide +kernel
theorem d_M_init_111 : decode b_M_init 111 = .ok (.bipush 12, 2) := by decide +kernel
theorem d_M_init_113 : decode b_M_init 113 = .ok (.newarray .int, 2) := by decide +kernel
theorem d_M_init_115 : decode b_M_init 115 = .ok (.putfield 51, 3) := by decide +kernel
theorem d_M_init_118 : decode b_M_init 118 = .ok (.aload_n 0, 1) := by decide +kernel
theorem d_M_init_119 : decode b_M_init 119 = .ok (.bipush 12, 2) := by decide +kernel
theorem d_M_init_121 : decode b_M_init 121 = .ok (.newarray .int, 2) := by decide +kernel
theorem d_M_init_123 : decode b_M_init 123 = .ok (.putfield 54, 3) := by decide +kernel
theorem d_M_init_126 : decode b_M_init 126 = .ok (.aload_n 0, 1) := by decide +kernel
theorem d_M_init_127 : decode b_M_init 127 = .ok (.bipush 12, 2) := by decide +kernel
theorem d_M_init_129 : decode b_M_init 129 = .ok (.newarray .int, 2) := by decide +kernel
theorem d_M_init_131 : decode b_M_init 131 = .ok (.putfield 57, 3) := by decide +kernel
theorem d_M_init_134 : decode b_M_init 134 = .ok (.aload_n 0, 1) := by decide +kernel
theorem d_M_init_135 : decode b_M_init 135 = .ok (.bipush 12, 2) := by decide +kernel
theorem d_M_init_137 : decode b_M_init 137 = .ok (.newarray .int, 2) := by decide +kernel
theorem d_M_init_139 : decode b_M_init 139 = .ok (.putfield 60, 3) := by decide +kernel
theorem d_M_init_142 : decode b_M_init 142 = .ok (.aload_n 0, 1) := by decide +kernel
theorem d_M_init_143 : decode b_M_init 143 = .ok (.bipush 12, 2) := by decide +kernel
theorem d_M_init_145 : decode b_M_init 145 = .ok (.newarray .int, 2) := by decide +kernel
theorem d_M_init_147 : decode b_M_init 147 = .ok (.putfield 63, 3) := by decide +kernel
theorem d_M_init_150 : decode b_M_init 150 = .ok (.aload_n 0, 1) := by decide +kernel
theorem d_M_init_151 : decode b_M_init 151 = .ok (.bipush 12, 2) := by decide +kernel
theorem d_M_init_153 : decode b_M_init 153 = .ok (.newarray .long, 2) := by decide +kernel
theorem d_M_init_155 : decode b_M_init 155 = .ok (.putfield 66, 3) := by decide +kernel
theorem d_M_init_158 : decode b_M_init 158 = .ok (.aload_n 0, 1) := by decide +kernel
theorem d_M_init_159 : decode b_M_init 159 = .ok (.bipush 12, 2) := by decide +kernel
theorem d_M_init_161 : decode b_M_init 161 = .ok (.newarray .long, 2) := by decide +kernel
theorem d_M_init_163 : decode b_M_init 163 = .ok (.putfield 69, 3) := by decide +kernel
theorem d_M_init_166 : decode b_M_init 166 = .ok (.aload_n 0, 1) := by decide +kernel
theorem d_M_init_167 : decode b_M_init 167 = .ok (.bipush 60, 2) := by decide +kernel
theorem d_M_init_169 : decode b_M_init 169 = .ok (.newarray .long, 2) := by decide +kernel
theorem d_M_init_171 : decode b_M_init 171 = .ok (.putfield 72, 3) := by decide +kernel
theorem d_M_init_174 : decode b_M_init 174 = .ok (.aload_n 0, 1) := by decide +kernel
theorem d_M_init_175 : decode b_M_init 175 = .ok (.bipush 40, 2) := by decide +kernel
theorem d_M_init_177 : decode b_M_init 177 = .ok (.newarray .int, 2) := by decide +kernel
theorem d_M_init_179 : decode b_M_init 179 = .ok (.putfield 75, 3) := by decide +kernel
theorem d_M_init_182 : decode b_M_init 182 = .ok (.aload_n 0, 1) := by decide +kernel
theorem d_M_init_183 : decode b_M_init 183 = .ok (.bipush 40, 2) := by decide +kernel
theorem d_M_init_185 : decode b_M_init 185 = .ok (.newarray .int, 2) := by decide +kernel
theorem d_M_init_187 : decode b_M_init 187 = .ok (.putfield 78, 3) := by decide +kernel
theorem d_M_init_190 : decode b_M_init 190 = .ok (.aload_n 0, 1) := by decide +kernel
theorem d_M_init_191 : decode b_M_init 191 = .ok (.bipush 40, 2) := by decide +kernel
theorem d_M_init_193 : decode b_M_init 193 = .ok (.newarray .int, 2) := by decide +kernel
theorem d_M_init_195 : decode b_M_init 195 = .ok (.putfield 81, 3) := by decide +kernel
theorem d_M_init_198 : decode b_M_init 198 = .ok (.aload_n 0, 1) := by decide +kernel
theorem d_M_init_199 : decode b_M_init 199 = .ok (.iconst 5, 1) := by decide +kernel
theorem d_M_init_200 : decode b_M_init 200 = .ok (.newarray .int, 2) := by decide +kernel
theorem d_M_init_202 : decode b_M_init 202 = .ok (.putfield 84, 3) := by decide +kernel
theorem d_M_init_205 : decode b_M_init 205 = .ok (.aload_n 0, 1) := by decide +kernel
theorem d_M_init_206 : decode b_M_init 206 = .ok (.bipush 40, 2) := by decide +kernel
theorem d_M_init_208 : decode b_M_init 208 = .ok (.newarray .long, 2) := by decide +kernel
theorem d_M_init_210 : decode b_M_init 210 = .ok (.putfield 87, 3) := by decide +kernel
theorem d_M_init_213 : decode b_M_init 213 = .ok (.return_, 1) := by decide +kernel
theorem d_M_isThing_0 : decode b_M_isThing 0 = .ok (.iload_n 1, 1) := by decide +kernel
theorem d_M_isThing_1 : decode b_M_isThing 1 = .ok (.ifCond .lt 25, 3) := by decide +kernel
theorem d_M_isThing_4 : decode b_M_isThing 4 = .ok (.iload_n 1, 1) := by decide +kernel
theorem d_M_isThing_5 : decode b_M_isThing 5 = .ok (.aload_n 0, 1) := by decide +kernel
theorem d_M_isThing_6 : decode b_M_isThing 6 = .ok (.getfield 94, 3) := by decide +kernel
theorem d_M_isThing_9 : decode b_M_isThing 9 = .ok (.if_icmp .ge 17, 3) := by decide +kernel
theorem d_M_isThing_12 : decode b_M_isThing 12 = .ok (.aload_n 0, 1) := by decide +kernel
theorem d_M_isThing_13 : decode b_M_isThing 13 = .ok (.getfield 7, 3) := by decide +kernel
theorem d_M_isThing_16 : decode b_M_isThing 16 = .ok (.iload_n 1, 1) := by decide +kernel
theorem d_M_isThing_17 : decode b_M_isThing 17 = .ok (.iaload, 1) := by decide +kernel
theorem d_M_isThing_18 : decode b_M_isThing 18 = .ok (.iconst (-1), 1) := by decide +kernel
theorem d_M_isThing_19 : decode b_M_isThing 19 = .ok (.if_icmp .eq 7, 3) := by decide +kernel
theorem d_M_isThing_22 : decode b_M_isThing 22 = .ok (.iconst 1, 1) := by decide +kernel
theorem d_M_isThing_23 : decode b_M_isThing 23 = .ok (.goto 4, 3) := by decide +kernel
theorem d_M_isThing_26 : decode b_M_isThing 26 = .ok (.iconst 0, 1) := by decide +kernel
theorem d_M_isThing_27 : decode b_M_isThing 27 = .ok (.ireturn, 1) := by decide +kernel
theorem d_M_isHouse_0 : decode b_M_isHouse 0 = .ok (.aload_n 0, 1) := by decide +kernel
theorem d_M_isHouse_1 : decode b_M_isHouse 1 = .ok (.iload_n 1, 1) := by decide +kernel
theorem d_M_isHouse_2 : decode b_M_isHouse 2 = .ok (.invokevirtual 97, 3) := by decide +kernel
theorem d_M_isHouse_5 : decode b_M_isHouse 5 = .ok (.ifCond .eq 16, 3) := by decide +kernel
theorem d_M_isHouse_8 : decode b_M_isHouse 8 = .ok (.aload_n 0, 1) := by decide +kernel
theorem d_M_isHouse_9 : decode b_M_isHouse 9 = .ok (.getfield 7, 3) := by decide +kernel
theorem d_M_isHouse_12 : decode b_M_isHouse 12 = .ok (.iload_n 1, 1) := by decide +kernel
theorem d_M_isHouse_13 : decode b_M_isHouse 13 = .ok (.iaload, 1) := by decide +kernel
theorem d_M_isHouse_14 : decode b_M_isHouse 14 = .ok (.ifCond .ne 7, 3) := by decide +kernel
theorem d_M_isHouse_17 : decode b_M_isHouse 17 = .ok (.iconst 1, 1) := by decide +kernel
theorem d_M_isHouse_18 : decode b_M_isHouse 18 = .ok (.goto 4, 3) := by decide +kernel
theorem d_M_isHouse_21 : decode b_M_isHouse 21 = .ok (.iconst 0, 1) := by decide +kernel
theorem d_M_isHouse_22 : decode b_M_isHouse 22 = .ok (.ireturn, 1) := by decide +kernel
theorem d_M_isDefined_0 : decode b_M_isDefined 0 = .ok (.iload_n 1, 1) := by decide +kernel
theorem d_M_isDefined_1 : decode b_M_isDefined 1 = .ok (.ifCond .lt 22, 3) := by decide +kernel
theorem d_M_isDefined_4 : decode b_M_isDefined 4 = .ok (.iload_n 1, 1) := by decide +kernel
theorem d_M_isDefined_5 : decode b_M_isDefined 5 = .ok (.bipush 12, 2) := by decide +kernel
theorem d_M_isDefined_7 : decode b_M_isDefined 7 = .ok (.if_icmp .ge 16, 3) := by decide +kernel
theorem d_M_isDefined_10 : decode b_M_isDefined 10 = .ok (.aload_n 0, 1) := by decide +kernel
theorem d_M_isDefined_11 : decode b_M_isDefined 11 = .ok (.getfield 44, 3) := by decide +kernel
theorem d_M_isDefined_14 : decode b_M_isDefined 14 = .ok (.iload_n 1, 1) := by decide +kernel
theorem d_M_isDefined_15 : decode b_M_isDefined 15 = .ok (.baload, 1) := by decide +kernel
theorem d_M_isDefined_16 : decode b_M_isDefined 16 = .ok (.ifCond .eq 7, 3) := by decide +kernel
theorem d_M_isDefined_19 : decode b_M_isDefined 19 = .ok (.iconst 1, 1) := by decide +kernel
theorem d_M_isDefined_20 : decode b_M_isDefined 20 = .ok (.goto 4, 3) := by decide +kernel
theorem d_M_isDefined_23 : decode b_M_isDefined 23 = .ok (.iconst 0, 1) := by decide +kernel
theorem d_M_isDefined_24 : decode b_M_isDefined 24 = .ok (.ireturn, 1) := by decide +kernel
theorem d_M_liesIn_0 : decode b_M_liesIn 0 = .ok (.iload_n 0, 1) := by decide +kernel
theorem d_M_liesIn_1 : decode b_M_liesIn 1 = .ok (.tableswitch 62 0 8 #[51, 53, 53, 55, 57, 57, 53, 59, 53], 51) := by decide +kernel
theorem d_M_liesIn_52 : decode b_M_liesIn 52 = .ok (.iconst (-1), 1) := by decide +kernel
theorem d_M_liesIn_53 : decode b_M_liesIn 53 = .ok (.ireturn, 1) := by decide +kernel
theorem d_M_liesIn_54 : decode b_M_liesIn 54 = .ok (.iconst 0, 1) := by decide +kernel
theorem d_M_liesIn_55 : decode b_M_liesIn 55 = .ok (.ireturn, 1) := by decide +kernel
theorem d_M_liesIn_56 : decode b_M_liesIn 56 = .ok (.iconst 1, 1) := by decide +kernel
theorem d_M_liesIn_57 : decode b_M_liesIn 57 = .ok (.ireturn, 1) := by decide +kernel
theorem d_M_liesIn_58 : decode b_M_liesIn 58 = .ok (.iconst 3, 1) := by decide +kernel
theorem d_M_liesIn_59 : decode b_M_liesIn 59 = .ok (.ireturn, 1) := by decide +kernel
theorem d_M_liesIn_60 : decode b_M_liesIn 60 = .ok (.bipush 6, 2) := by decide +kernel
theorem d_M_liesIn_62 : decode b_M_liesIn 62 = .ok (.ireturn, 1) := by decide +kernel
theorem d_M_liesIn_63 : decode b_M_liesIn 63 = .ok (.bipush (-2), 2) := by decide +kernel
theorem d_M_liesIn_65 : decode b_M_liesIn 65 = .ok (.ireturn, 1) := by decide +kernel
theorem d_M_make_0 : decode b_M_make 0 = .ok (.aload_n 0, 1) := by decide +kernel
theorem d_M_make_1 : decode b_M_make 1 = .ok (.iconst 0, 1) := by decide +kernel
theorem d_M_make_2 : decode b_M_make 2 = .ok (.putfield 90, 3) := by decide +kernel
theorem d_M_make_5 : decode b_M_make 5 = .ok (.iload_n 1, 1) := by decide +kernel
theorem d_M_make_6 : decode b_M_make 6 = .ok (.invokestatic 101, 3) := by decide +kernel
theorem d_M_make_9 : decode b_M_make 9 = .ok (.istore_n 3, 1) := by decide +kernel
theorem d_M_make_10 : decode b_M_make 10 = .ok (.iload_n 3, 1) := by decide +kernel
theorem d_M_make_11 : decode b_M_make 11 = .ok (.bipush (-2), 2) := by decide +kernel
theorem d_M_make_13 : decode b_M_make 13 = .ok (.if_icmp .eq 12, 3) := by decide +kernel
theorem d_M_make_16 : decode b_M_make 16 = .ok (.aload_n 0, 1) := by decide +kernel
theorem d_M_make_17 : decode b_M_make 17 = .ok (.getfield 94, 3) := by decide +kernel
theorem d_M_make_20 : decode b_M_make 20 = .ok (.bipush 60, 2) := by decide +kernel
theorem d_M_make_22 : decode b_M_make 22 = .ok (.if_icmp .ne 5, 3) := by decide +kernel
theorem d_M_make_25 : decode b_M_make 25 = .ok (.iconst (-1), 1) := by decide +kernel
theorem d_M_make_26 : decode b_M_make 26 = .ok (.ireturn, 1) := by decide +kernel
theorem d_M_make_27 : decode b_M_make 27 = .ok (.iload_n 1, 1) := by decide +kernel
theorem d_M_make_28 : decode b_M_make 28 = .ok (.ifCond .eq 37, 3) := by decide +kernel
theorem d_M_make_31 : decode b_M_make 31 = .ok (.aload_n 0, 1) := by decide +kernel
theorem d_M_make_32 : decode b_M_make 32 = .ok (.iload_n 2, 1) := by decide +kernel
theorem d_M_make_33 : decode b_M_make 33 = .ok (.invokevirtual 97, 3) := by decide +kernel
theorem d_M_make_36 : decode b_M_make 36 = .ok (.ifCond .eq 27, 3) := by decide +kernel
theorem d_M_make_39 : decode b_M_make 39 = .ok (.aload_n 0, 1) := by decide +kernel
theorem d_M_make_40 : decode b_M_make 40 = .ok (.getfield 7, 3) := by decide +kernel
theorem d_M_make_43 : decode b_M_make 43 = .ok (.iload_n 2, 1) := by decide +kernel
theorem d_M_make_44 : decode b_M_make 44 = .ok (.iaload, 1) := by decide +kernel
theorem d_M_make_45 : decode b_M_make 45 = .ok (.iload_n 3, 1) := by decide +kernel
theorem d_M_make_46 : decode b_M_make 46 = .ok (.if_icmp .ne 17, 3) := by decide +kernel
theorem d_M_make_49 : decode b_M_make 49 = .ok (.aload_n 0, 1) := by decide +kernel
theorem d_M_make_50 : decode b_M_make 50 = .ok (.getfield 19, 3) := by decide +kernel
theorem d_M_make_53 : decode b_M_make 53 = .ok (.aload_n 0, 1) := by decide +kernel
theorem d_M_make_54 : decode b_M_make 54 = .ok (.getfield 16, 3) := by decide +kernel
theorem d_M_make_57 : decode b_M_make 57 = .ok (.iload_n 2, 1) := by decide +kernel
theorem d_M_make_58 : decode b_M_make 58 = .ok (.iaload, 1) := by decide +kernel
theorem d_M_make_59 : decode b_M_make 59 = .ok (.iaload, 1) := by decide +kernel
theorem d_M_make_60 : decode b_M_make 60 = .ok (.ifCond .le 5, 3) := by decide +kernel
theorem d_M_make_63 : decode b_M_make 63 = .ok (.iconst (-1), 1) := by decide +kernel
theorem d_M_make_64 : decode b_M_make 64 = .ok (.ireturn, 1) := by decide +kernel
theorem d_M_make_65 : decode b_M_make 65 = .ok (.aload_n 0, 1) := by decide +kernel
theorem d_M_make_66 : decode b_M_make 66 = .ok (.getfield 7, 3) := by decide +kernel
theorem d_M_make_69 : decode b_M_make 69 = .ok (.aload_n 0, 1) := by decide +kernel
theorem d_M_make_70 : decode b_M_make 70 = .ok (.getfield 94, 3) := by decide +kernel
theorem d_M_make_73 : decode b_M_make 73 = .ok (.iload_n 1, 1) := by decide +kernel
theorem d_M_make_74 : decode b_M_make 74 = .ok (.iastore, 1) := by decide +kernel
theorem d_M_make_75 : decode b_M_make 75 = .ok (.aload_n 0, 1) := by decide +kernel
theorem d_M_make_76 : decode b_M_make 76 = .ok (.getfield 13, 3) := by decide +kernel
theorem d_M_make_79 : decode b_M_make 79 = .ok (.aload_n 0, 1) := by decide +kernel
theorem d_M_make_80 : decode b_M_make 80 = .ok (.getfield 94, 3) := by decide +kernel
theorem d_M_make_83 : decode b_M_make 83 = .ok (.iload_n 1, 1) := by decide +kernel
theorem d_M_make_84 : decode b_M_make 84 = .ok (.ifCond .ne 7, 3) := by decide +kernel
theorem d_M_make_87 : decode b_M_make 87 = .ok (.iconst (-1), 1) := by decide +kernel
theorem d_M_make_88 : decode b_M_make 88 = .ok (.goto 4, 3) := by decide +kernel
theorem d_M_make_91 : decode b_M_make 91 = .ok (.iload_n 2, 1) := by decide +kernel
theorem d_M_make_92 : decode b_M_make 92 = .ok (.iastore, 1) := by decide +kernel
theorem d_M_make_93 : decode b_M_make 93 = .ok (.aload_n 0, 1) := by decide +kernel
theorem d_M_make_94 : decode b_M_make 94 = .ok (.getfield 16, 3) := by decide +kernel
theorem d_M_make_97 : decode b_M_make 97 = .ok (.aload_n 0, 1) := by decide +kernel
theorem d_M_make_98 : decode b_M_make 98 = .ok (.getfield 94, 3) := by decide +kernel
theorem d_M_make_101 : decode b_M_make 101 = .ok (.iload_n 1, 1) := by decide +kernel
theorem d_M_make_102 : decode b_M_make 102 = .ok (.ifCond .ne 10, 3) := by decide +kernel
theorem d_M_make_105 : decode b_M_make 105 = .ok (.aload_n 0, 1) := by decide +kernel
theorem d_M_make_106 : decode b_M_make 106 = .ok (.getfield 94, 3) := by decide +kernel
theorem d_M_make_109 : decode b_M_make 109 = .ok (.goto 9, 3) := by decide +kernel
theorem d_M_make_112 : decode b_M_make 112 = .ok (.aload_n 0, 1) := by decide +kernel
theorem d_M_make_113 : decode b_M_make 113 = .ok (.getfield 16, 3) := by decide +kernel
theorem d_M_make_116 : decode b_M_make 116 = .ok (.iload_n 2, 1) := by decide +kernel
theorem d_M_make_117 : decode b_M_make 117 = .ok (.iaload, 1) := by decide +kernel
theorem d_M_make_118 : decode b_M_make 118 = .ok (.iastore, 1) := by decide +kernel
theorem d_M_make_119 : decode b_M_make 119 = .ok (.aload_n 0, 1) := by decide +kernel
theorem d_M_make_120 : decode b_M_make 120 = .ok (.dup, 1) := by decide +kernel
theorem d_M_make_121 : decode b_M_make 121 = .ok (.getfield 94, 3) := by decide +kernel
theorem d_M_make_124 : decode b_M_make 124 = .ok (.iconst 1, 1) := by decide +kernel
theorem d_M_make_125 : decode b_M_make 125 = .ok (.iadd, 1) := by decide +kernel
theorem d_M_make_126 : decode b_M_make 126 = .ok (.putfield 94, 3) := by decide +kernel
theorem d_M_make_129 : decode b_M_make 129 = .ok (.aload_n 0, 1) := by decide +kernel
theorem d_M_make_130 : decode b_M_make 130 = .ok (.getfield 94, 3) := by decide +kernel
theorem d_M_make_133 : decode b_M_make 133 = .ok (.iconst 1, 1) := by decide +kernel
theorem d_M_make_134 : decode b_M_make 134 = .ok (.isub, 1) := by decide +kernel
theorem d_M_make_135 : decode b_M_make 135 = .ok (.ireturn, 1) := by decide +kernel
theorem d_M_drop_0 : decode b_M_drop 0 = .ok (.aload_n 0, 1) := by decide +kernel
theorem d_M_drop_1 : decode b_M_drop 1 = .ok (.iconst 0, 1) := by decide +kernel
theorem d_M_drop_2 : decode b_M_drop 2 = .ok (.putfield 90, 3) := by decide +kernel
theorem d_M_drop_5 : decode b_M_drop 5 = .ok (.aload_n 0, 1) := by decide +kernel
theorem d_M_drop_6 : decode b_M_drop 6 = .ok (.iload_n 1, 1) := by decide +kernel
theorem d_M_drop_7 : decode b_M_drop 7 = .ok (.invokevirtual 97, 3) := by decide +kernel
theorem d_M_drop_10 : decode b_M_drop 10 = .ok (.ifCond .eq 17, 3) := by decide +kernel
theorem d_M_drop_13 : decode b_M_drop 13 = .ok (.aload_n 0, 1) := by decide +kernel
theorem d_M_drop_14 : decode b_M_drop 14 = .ok (.getfield 19, 3) := by decide +kernel
theorem d_M_drop_17 : decode b_M_drop 17 = .ok (.aload_n 0, 1) := by decide +kernel
theorem d_M_drop_18 : decode b_M_drop 18 = .ok (.getfield 16, 3) := by decide +kernel
theorem d_M_drop_21 : decode b_M_drop 21 = .ok (.iload_n 1, 1) := by decide +kernel
theorem d_M_drop_22 : decode b_M_drop 22 = .ok (.iaload, 1) := by decide +kernel
theorem d_M_drop_23 : decode b_M_drop 23 = .ok (.iaload, 1) := by decide +kernel
theorem d_M_drop_24 : decode b_M_drop 24 = .ok (.ifCond .le 5, 3) := by decide +kernel
theorem d_M_drop_27 : decode b_M_drop 27 = .ok (.iconst (-1), 1) := by decide +kernel
theorem d_M_drop_28 : decode b_M_drop 28 = .ok (.ireturn, 1) := by decide +kernel
theorem d_M_drop_29 : decode b_M_drop 29 = .ok (.aload_n 0, 1) := by decide +kernel
theorem d_M_drop_30 : decode b_M_drop 30 = .ok (.getfield 7, 3) := by decide +kernel
theorem d_M_drop_33 : decode b_M_drop 33 = .ok (.iload_n 1, 1) := by decide +kernel
theorem d_M_drop_34 : decode b_M_drop 34 = .ok (.iconst (-1), 1) := by decide +kernel
theorem d_M_drop_35 : decode b_M_drop 35 = .ok (.iastore, 1) := by decide +kernel
theorem d_M_drop_36 : decode b_M_drop 36 = .ok (.iconst 1, 1) := by decide +kernel
theorem d_M_drop_37 : decode b_M_drop 37 = .ok (.istore_n 2, 1) := by decide +kernel
theorem d_M_drop_38 : decode b_M_drop 38 = .ok (.iload_n 1, 1) := by decide +kernel
theorem d_M_drop_39 : decode b_M_drop 39 = .ok (.iconst 1, 1) := by decide +kernel
theorem d_M_drop_40 : decode b_M_drop 40 = .ok (.iadd, 1) := by decide +kernel
theorem d_M_drop_41 : decode b_M_drop 41 = .ok (.istore_n 3, 1) := by decide +kernel
theorem d_M_drop_42 : decode b_M_drop 42 = .ok (.iload_n 3, 1) := by decide +kernel
theorem d_M_drop_43 : decode b_M_drop 43 = .ok (.aload_n 0, 1) := by decide +kernel
theorem d_M_drop_44 : decode b_M_drop 44 = .ok (.getfield 94, 3) := by decide +kernel
theorem d_M_drop_47 : decode b_M_drop 47 = .ok (.if_icmp .ge 57, 3) := by decide +kernel
theorem d_M_drop_50 : decode b_M_drop 50 = .ok (.aload_n 0, 1) := by decide +kernel
theorem d_M_drop_51 : decode b_M_drop 51 = .ok (.getfield 7, 3) := by decide +kernel
theorem d_M_drop_54 : decode b_M_drop 54 = .ok (.iload_n 3, 1) := by decide +kernel
theorem d_M_drop_55 : decode b_M_drop 55 = .ok (.iaload, 1) := by decide +kernel
theorem d_M_drop_56 : decode b_M_drop 56 = .ok (.iconst (-1), 1) := by decide +kernel
theorem d_M_drop_57 : decode b_M_drop 57 = .ok (.if_icmp .eq 41, 3) := by decide +kernel
theorem d_M_drop_60 : decode b_M_drop 60 = .ok (.aload_n 0, 1) := by decide +kernel
theorem d_M_drop_61 : decode b_M_drop 61 = .ok (.getfield 13, 3) := by decide +kernel
theorem d_M_drop_64 : decode b_M_drop 64 = .ok (.iload_n 3, 1) := by decide +kernel
theorem d_M_drop_65 : decode b_M_drop 65 = .ok (.iaload, 1) := by decide +kernel
theorem d_M_drop_66 : decode b_M_drop 66 = .ok (.iconst (-1), 1) := by decide +kernel
theorem d_M_drop_67 : decode b_M_drop 67 = .ok (.if_icmp .eq 31, 3) := by decide +kernel
theorem d_M_drop_70 : decode b_M_drop 70 = .ok (.aload_n 0, 1) := by decide +kernel
theorem d_M_drop_71 : decode b_M_drop 71 = .ok (.getfield 7, 3) := by decide +kernel
theorem d_M_drop_74 : decode b_M_drop 74 = .ok (.aload_n 0, 1) := by decide +kernel
theorem d_M_drop_75 : decode b_M_drop 75 = .ok (.getfield 13, 3) := by decide +kernel
theorem d_M_drop_78 : decode b_M_drop 78 = .ok (.iload_n 3, 1) := by decide +kernel
theorem d_M_drop_79 : decode b_M_drop 79 = .ok (.iaload, 1) := by decide +kernel
theorem d_M_drop_80 : decode b_M_drop 80 = .ok (.iaload, 1) := by decide +kernel
theorem d_M_drop_81 : decode b_M_drop 81 = .ok (.iconst (-1), 1) := by decide +kernel
theorem d_M_drop_82 : decode b_M_drop 82 = .ok (.if_icmp .eq 6, 3) := by decide +kernel
theorem d_M_drop_85 : decode b_M_drop 85 = .ok (.goto 13, 3) := by decide +kernel
theorem d_M_drop_88 : decode b_M_drop 88 = .ok (.aload_n 0, 1) := by decide +kernel
theorem d_M_drop_89 : decode b_M_drop 89 = .ok (.getfield 7, 3) := by decide +kernel
theorem d_M_drop_92 : decode b_M_drop 92 = .ok (.iload_n 3, 1) := by decide +kernel
theorem d_M_drop_93 : decode b_M_drop 93 = .ok (.iconst (-1), 1) := by decide +kernel
theorem d_M_drop_94 : decode b_M_drop 94 = .ok (.iastore, 1) := by decide +kernel
theorem d_M_drop_95 : decode b_M_drop 95 = .ok (.iinc 2 1, 3) := by decide +kernel
theorem d_M_drop_98 : decode b_M_drop 98 = .ok (.iinc 3 1, 3) := by decide +kernel
theorem d_M_drop_101 : decode b_M_drop 101 = .ok (.goto (-59), 3) := by decide +kernel
theorem d_M_drop_104 : decode b_M_drop 104 = .ok (.iload_n 2, 1) := by decide +kernel
theorem d_M_drop_105 : decode b_M_drop 105 = .ok (.ireturn, 1) := by decide +kernel
theorem d_M_numbers_0 : decode b_M_numbers 0 = .ok (.aload_n 0, 1) := by decide +kernel
theorem d_M_numbers_1 : decode b_M_numbers 1 = .ok (.iconst 0, 1) := by decide +kernel
theorem d_M_numbers_2 : decode b_M_numbers 2 = .ok (.putfield 90, 3) := by decide +kernel
theorem d_M_numbers_5 : decode b_M_numbers 5 = .ok (.iload_n 1, 1) := by decide +kernel
theorem d_M_numbers_6 : decode b_M_numbers 6 = .ok (.ifCond .lt 9, 3) := by decide +kernel
theorem d_M_numbers_9 : decode b_M_numbers 9 = .ok (.iload_n 1, 1) := by decide +kernel
theorem d_M_numbers_10 : decode b_M_numbers 10 = .ok (.bipush 8, 2) := by decide +kernel
theorem d_M_numbers_12 : decode b_M_numbers 12 = .ok (.if_icmp .le 5, 3) := by decide +kernel
theorem d_M_numbers_15 : decode b_M_numbers 15 = .ok (.iconst (-1), 1) := by decide +kernel
theorem d_M_numbers_16 : decode b_M_numbers 16 = .ok (.ireturn, 1) := by decide +kernel
theorem d_M_numbers_17 : decode b_M_numbers 17 = .ok (.iconst 0, 1) := by decide +kernel
theorem d_M_numbers_18 : decode b_M_numbers 18 = .ok (.istore_n 2, 1) := by decide +kernel
theorem d_M_numbers_19 : decode b_M_numbers 19 = .ok (.iconst 0, 1) := by decide +kernel
theorem d_M_numbers_20 : decode b_M_numbers 20 = .ok (.istore_n 3, 1) := by decide +kernel
theorem d_M_numbers_21 : decode b_M_numbers 21 = .ok (.iload_n 3, 1) := by decide +kernel
theorem d_M_numbers_22 : decode b_M_numbers 22 = .ok (.aload_n 0, 1) := by decide +kernel
theorem d_M_numbers_23 : decode b_M_numbers 23 = .ok (.getfield 94, 3) := by decide +kernel
theorem d_M_numbers_26 : decode b_M_numbers 26 = .ok (.if_icmp .ge 27, 3) := by decide +kernel
theorem d_M_numbers_29 : decode b_M_numbers 29 = .ok (.iload_n 2, 1) := by decide +kernel
theorem d_M_numbers_30 : decode b_M_numbers 30 = .ok (.aload_n 0, 1) := by decide +kernel
theorem d_M_numbers_31 : decode b_M_numbers 31 = .ok (.getfield 7, 3) := by decide +kernel
theorem d_M_numbers_34 : decode b_M_numbers 34 = .ok (.iload_n 3, 1) := by decide +kernel
theorem d_M_numbers_35 : decode b_M_numbers 35 = .ok (.iaload, 1) := by decide +kernel
theorem d_M_numbers_36 : decode b_M_numbers 36 = .ok (.iload_n 1, 1) := by decide +kernel
theorem d_M_numbers_37 : decode b_M_numbers 37 = .ok (.if_icmp .ne 7, 3) := by decide +kernel
theorem d_M_numbers_40 : decode b_M_numbers 40 = .ok (.iconst 1, 1) := by decide +kernel
theorem d_M_numbers_41 : decode b_M_numbers 41 = .ok (.goto 4, 3) := by decide +kernel
theorem d_M_numbers_44 : decode b_M_numbers 44 = .ok (.iconst 0, 1) := by decide +kernel
theorem d_M_numbers_45 : decode b_M_numbers 45 = .ok (.iadd, 1) := by decide +kernel
theorem d_M_numbers_46 : decode b_M_numbers 46 = .ok (.istore_n 2, 1) := by decide +kernel
theorem d_M_numbers_47 : decode b_M_numbers 47 = .ok (.iinc 3 1, 3) := by decide +kernel
theorem d_M_numbers_50 : decode b_M_numbers 50 = .ok (.goto (-29), 3) := by decide +kernel
theorem d_M_numbers_53 : decode b_M_numbers 53 = .ok (.iload_n 2, 1) := by decide +kernel
theorem d_M_numbers_54 : decode b_M_numbers 54 = .ok (.ireturn, 1) := by decide +kernel
theorem d_M_about_0 : decode b_M_about 0 = .ok (.aload_n 0, 1) := by decide +kernel
theorem d_M_about_1 : decode b_M_about 1 = .ok (.iconst 0, 1) := by decide +kernel
theorem d_M_about_2 : decode b_M_about 2 = .ok (.putfield 90, 3) := by decide +kernel
theorem d_M_about_5 : decode b_M_about 5 = .ok (.aload_n 0, 1) := by decide +kernel
theorem d_M_about_6 : decode b_M_about 6 = .ok (.iload_n 1, 1) := by decide +kernel
theorem d_M_about_7 : decode b_M_about 7 = .ok (.invokevirtual 97, 3) := by decide +kernel
theorem d_M_about_10 : decode b_M_about 10 = .ok (.ifCond .ne 5, 3) := by decide +kernel
theorem d_M_about_13 : decode b_M_about 13 = .ok (.iconst (-1), 1) := by decide +kernel
theorem d_M_about_14 : decode b_M_about 14 = .ok (.ireturn, 1) := by decide +kernel
theorem d_M_about_15 : decode b_M_about 15 = .ok (.iconst 0, 1) := by decide +kernel
theorem d_M_about_16 : decode b_M_about 16 = .ok (.istore_n 3, 1) := by decide +kernel
theorem d_M_about_17 : decode b_M_about 17 = .ok (.iconst 0, 1) := by decide +kernel
theorem d_M_about_18 : decode b_M_about 18 = .ok (.istore 4, 2) := by decide +kernel
theorem d_M_about_20 : decode b_M_about 20 = .ok (.iload 4, 2) := by decide +kernel
theorem d_M_about_22 : decode b_M_about 22 = .ok (.aload_n 0, 1) := by decide +kernel
theorem d_M_about_23 : decode b_M_about 23 = .ok (.getfield 94, 3) := by decide +kernel
theorem d_M_about_26 : decode b_M_about 26 = .ok (.if_icmp .ge 39, 3) := by decide +kernel
theorem d_M_about_29 : decode b_M_about 29 = .ok (.iload_n 3, 1) := by decide +kernel
theorem d_M_about_30 : decode b_M_about 30 = .ok (.aload_n 0, 1) := by decide +kernel
theorem d_M_about_31 : decode b_M_about 31 = .ok (.getfield 7, 3) := by decide +kernel
theorem d_M_about_34 : decode b_M_about 34 = .ok (.iload 4, 2) := by decide +kernel
theorem d_M_about_36 : decode b_M_about 36 = .ok (.iaload, 1) := by decide +kernel
theorem d_M_about_37 : decode b_M_about 37 = .ok (.iconst (-1), 1) := by decide +kernel
theorem d_M_about_38 : decode b_M_about 38 = .ok (.if_icmp .eq 18, 3) := by decide +kernel
theorem d_M_about_41 : decode b_M_about 41 = .ok (.aload_n 0, 1) := by decide +kernel
theorem d_M_about_42 : decode b_M_about 42 = .ok (.getfield 13, 3) := by decide +kernel
theorem d_M_about_45 : decode b_M_about 45 = .ok (.iload 4, 2) := by decide +kernel
theorem d_M_about_47 : decode b_M_about 47 = .ok (.iaload, 1) := by decide +kernel
theorem d_M_about_48 : decode b_M_about 48 = .ok (.iload_n 1, 1) := by decide +kernel
theorem d_M_about_49 : decode b_M_about 49 = .ok (.if_icmp .ne 7, 3) := by decide +kernel
theorem d_M_about_52 : decode b_M_about 52 = .ok (.iconst 1, 1) := by decide +kernel
theorem d_M_about_53 : decode b_M_about 53 = .ok (.goto 4, 3) := by decide +kernel
theorem d_M_about_56 : decode b_M_about 56 = .ok (.iconst 0, 1) := by decide +kernel
theorem d_M_about_57 : decode b_M_about 57 = .ok (.iadd, 1) := by decide +kernel
theorem d_M_about_58 : decode b_M_about 58 = .ok (.istore_n 3, 1) := by decide +kernel
theorem d_M_about_59 : decode b_M_about 59 = .ok (.iinc 4 1, 3) := by decide +kernel
theorem d_M_about_62 : decode b_M_about 62 = .ok (.goto (-42), 3) := by decide +kernel
theorem d_M_about_65 : decode b_M_about 65 = .ok (.iload_n 2, 1) := by decide +kernel
theorem d_M_about_66 : decode b_M_about 66 = .ok (.tableswitch 53 0 3 #[30, 37, 44, 51], 30) := by decide +kernel
theorem d_M_about_96 : decode b_M_about 96 = .ok (.aload_n 0, 1) := by decide +kernel
theorem d_M_about_97 : decode b_M_about 97 = .ok (.getfield 7, 3) := by decide +kernel
theorem d_M_about_100 : decode b_M_about 100 = .ok (.iload_n 1, 1) := by decide +kernel
theorem d_M_about_101 : decode b_M_about 101 = .ok (.iaload, 1) := by decide +kernel
theorem d_M_about_102 : decode b_M_about 102 = .ok (.ireturn, 1) := by decide +kernel
theorem d_M_about_103 : decode b_M_about 103 = .ok (.aload_n 0, 1) := by decide +kernel
theorem d_M_about_104 : decode b_M_about 104 = .ok (.getfield 13, 3) := by decide +kernel
theorem d_M_about_107 : decode b_M_about 107 = .ok (.iload_n 1, 1) := by decide +kernel
theorem d_M_about_108 : decode b_M_about 108 = .ok (.iaload, 1) := by decide +kernel
theorem d_M_about_109 : decode b_M_about 109 = .ok (.ireturn, 1) := by decide +kernel
theorem d_M_about_110 : decode b_M_about 110 = .ok (.aload_n 0, 1) := by decide +kernel
theorem d_M_about_111 : decode b_M_about 111 = .ok (.getfield 16, 3) := by decide +kernel
theorem d_M_about_114 : decode b_M_about 114 = .ok (.iload_n 1, 1) := by decide +kernel
theorem d_M_about_115 : decode b_M_about 115 = .ok (.iaload, 1) := by decide +kernel
theorem d_M_about_116 : decode b_M_about 116 = .ok (.ireturn, 1) := by decide +kernel
theorem d_M_about_117 : decode b_M_about 117 = .ok (.iload_n 3, 1) := by decide +kernel
theorem d_M_about_118 : decode b_M_about 118 = .ok (.ireturn, 1) := by decide +kernel
theorem d_M_about_119 : decode b_M_about 119 = .ok (.iconst (-1), 1) := by decide +kernel
theorem d_M_about_120 : decode b_M_about 120 = .ok (.ireturn, 1) := by decide +kernel
theorem d_M_isSort_0 : decode b_M_isSort 0 = .ok (.iload_n 0, 1) := by decide +kernel
theorem d_M_isSort_1 : decode b_M_isSort 1 = .ok (.ifCond .lt 12, 3) := by decide +kernel
theorem d_M_isSort_4 : decode b_M_isSort 4 = .ok (.iload_n 0, 1) := by decide +kernel
theorem d_M_isSort_5 : decode b_M_isSort 5 = .ok (.iconst 3, 1) := by decide +kernel
theorem d_M_isSort_6 : decode b_M_isSort 6 = .ok (.if_icmp .ge 7, 3) := by decide +kernel
theorem d_M_isSort_9 : decode b_M_isSort 9 = .ok (.iconst 1, 1) := by decide +kernel
theorem d_M_isSort_10 : decode b_M_isSort 10 = .ok (.goto 4, 3) := by decide +kernel
theorem d_M_isSort_13 : decode b_M_isSort 13 = .ok (.iconst 0, 1) := by decide +kernel
theorem d_M_isSort_14 : decode b_M_isSort 14 = .ok (.ireturn, 1) := by decide +kernel
theorem d_M_collect_0 : decode b_M_collect 0 = .ok (.aload_n 0, 1) := by decide +kernel
theorem d_M_collect_1 : decode b_M_collect 1 = .ok (.iconst 0, 1) := by decide +kernel
theorem d_M_collect_2 : decode b_M_collect 2 = .ok (.putfield 90, 3) := by decide +kernel
theorem d_M_collect_5 : decode b_M_collect 5 = .ok (.iload_n 1, 1) := by decide +kernel
theorem d_M_collect_6 : decode b_M_collect 6 = .ok (.invokestatic 105, 3) := by decide +kernel
theorem d_M_collect_9 : decode b_M_collect 9 = .ok (.ifCond .eq 23, 3) := by decide +kernel
theorem d_M_collect_12 : decode b_M_collect 12 = .ok (.aload_n 0, 1) := by decide +kernel
theorem d_M_collect_13 : decode b_M_collect 13 = .ok (.getfield 38, 3) := by decide +kernel
theorem d_M_collect_16 : decode b_M_collect 16 = .ok (.iload_n 1, 1) := by decide +kernel
theorem d_M_collect_17 : decode b_M_collect 17 = .ok (.iaload, 1) := by decide +kernel
theorem d_M_collect_18 : decode b_M_collect 18 = .ok (.iload_n 1, 1) := by decide +kernel
theorem d_M_collect_19 : decode b_M_collect 19 = .ok (.ifCond .ne 8, 3) := by decide +kernel
theorem d_M_collect_22 : decode b_M_collect 22 = .ok (.bipush 30, 2) := by decide +kernel
theorem d_M_collect_24 : decode b_M_collect 24 = .ok (.goto 5, 3) := by decide +kernel
theorem d_M_collect_27 : decode b_M_collect 27 = .ok (.bipush 20, 2) := by decide +kernel
theorem d_M_collect_29 : decode b_M_collect 29 = .ok (.if_icmp .ne 5, 3) := by decide +kernel
theorem d_M_collect_32 : decode b_M_collect 32 = .ok (.iconst (-1), 1) := by decide +kernel
theorem d_M_collect_33 : decode b_M_collect 33 = .ok (.ireturn, 1) := by decide +kernel
theorem d_M_collect_34 : decode b_M_collect 34 = .ok (.iload_n 1, 1) := by decide +kernel
theorem d_M_collect_35 : decode b_M_collect 35 = .ok (.ifCond .ne 23, 3) := by decide +kernel
theorem d_M_collect_38 : decode b_M_collect 38 = .ok (.iload_n 2, 1) := by decide +kernel
theorem d_M_collect_39 : decode b_M_collect 39 = .ok (.bipush 31, 2) := by decide +kernel
theorem d_M_collect_41 : decode b_M_collect 41 = .ok (.if_icmp .le 13, 3) := by decide +kernel
theorem d_M_collect_44 : decode b_M_collect 44 = .ok (.iload_n 2, 1) := by decide +kernel
theorem d_M_collect_45 : decode b_M_collect 45 = .ok (.bipush 127, 2) := by decide +kernel
theorem d_M_collect_47 : decode b_M_collect 47 = .ok (.if_icmp .ge 7, 3) := by decide +kernel
theorem d_M_collect_50 : decode b_M_collect 50 = .ok (.iconst 1, 1) := by decide +kernel
theorem d_M_collect_51 : decode b_M_collect 51 = .ok (.goto 60, 3) := by decide +kernel
theorem d_M_collect_54 : decode b_M_collect 54 = .ok (.iconst 0, 1) := by decide +kernel
theorem d_M_collect_55 : decode b_M_collect 55 = .ok (.goto 56, 3) := by decide +kernel
theorem d_M_collect_58 : decode b_M_collect 58 = .ok (.iload_n 1, 1) := by decide +kernel
theorem d_M_collect_59 : decode b_M_collect 59 = .ok (.iconst 1, 1) := by decide +kernel
theorem d_M_collect_60 : decode b_M_collect 60 = .ok (.if_icmp .ne 35, 3) := by decide +kernel
theorem d_M_collect_63 : decode b_M_collect 63 = .ok (.iload_n 2, 1) := by decide +kernel
theorem d_M_collect_64 : decode b_M_collect 64 = .ok (.bipush 96, 2) := by decide +kernel
theorem d_M_collect_66 : decode b_M_collect 66 = .ok (.if_icmp .le 9, 3) := by decide +kernel
theorem d_M_collect_69 : decode b_M_collect 69 = .ok (.iload_n 2, 1) := by decide +kernel
theorem d_M_collect_70 : decode b_M_collect 70 = .ok (.bipush 123, 2) := by decide +kernel
theorem d_M_collect_72 : decode b_M_collect 72 = .ok (.if_icmp .lt 15, 3) := by decide +kernel
theorem d_M_collect_75 : decode b_M_collect 75 = .ok (.iload_n 2, 1) := by decide +kernel
theorem d_M_collect_76 : decode b_M_collect 76 = .ok (.bipush 46, 2) := by decide +kernel
theorem d_M_collect_78 : decode b_M_collect 78 = .ok (.if_icmp .eq 9, 3) := by decide +kernel
theorem d_M_collect_81 : decode b_M_collect 81 = .ok (.iload_n 2, 1) := by decide +kernel
theorem d_M_collect_82 : decode b_M_collect 82 = .ok (.bipush 47, 2) := by decide +kernel
theorem d_M_collect_84 : decode b_M_collect 84 = .ok (.if_icmp .ne 7, 3) := by decide +kernel
theorem d_M_collect_87 : decode b_M_collect 87 = .ok (.iconst 1, 1) := by decide +kernel
theorem d_M_collect_88 : decode b_M_collect 88 = .ok (.goto 23, 3) := by decide +kernel
theorem d_M_collect_91 : decode b_M_collect 91 = .ok (.iconst 0, 1) := by decide +kernel
theorem d_M_collect_92 : decode b_M_collect 92 = .ok (.goto 19, 3) := by decide +kernel
theorem d_M_collect_95 : decode b_M_collect 95 = .ok (.iload_n 2, 1) := by decide +kernel
theorem d_M_collect_96 : decode b_M_collect 96 = .ok (.ifCond .lt 14, 3) := by decide +kernel
theorem d_M_collect_99 : decode b_M_collect 99 = .ok (.iload_n 2, 1) := by decide +kernel
theorem d_M_collect_100 : decode b_M_collect 100 = .ok (.sipush 256, 3) := by decide +kernel
theorem d_M_collect_103 : decode b_M_collect 103 = .ok (.if_icmp .ge 7, 3) := by decide +kernel
theorem d_M_collect_106 : decode b_M_collect 106 = .ok (.iconst 1, 1) := by decide +kernel
theorem d_M_collect_107 : decode b_M_collect 107 = .ok (.goto 4, 3) := by decide +kernel
theorem d_M_collect_110 : decode b_M_collect 110 = .ok (.iconst 0, 1) := by decide +kernel
theorem d_M_collect_111 : decode b_M_collect 111 = .ok (.istore_n 3, 1) := by decide +kernel
theorem d_M_collect_112 : decode b_M_collect 112 = .ok (.iload_n 3, 1) := by decide +kernel
theorem d_M_collect_113 : decode b_M_collect 113 = .ok (.ifCond .ne 5, 3) := by decide +kernel
theorem d_M_collect_116 : decode b_M_collect 116 = .ok (.iconst (-1), 1) := by decide +kernel
theorem d_M_collect_117 : decode b_M_collect 117 = .ok (.ireturn, 1) := by decide +kernel
theorem d_M_collect_118 : decode b_M_collect 118 = .ok (.aload_n 0, 1) := by decide +kernel
theorem d_M_collect_119 : decode b_M_collect 119 = .ok (.getfield 41, 3) := by decide +kernel
theorem d_M_collect_122 : decode b_M_collect 122 = .ok (.bipush 30, 2) := by decide +kernel
theorem d_M_collect_124 : decode b_M_collect 124 = .ok (.iload_n 1, 1) := by decide +kernel
theorem d_M_collect_125 : decode b_M_collect 125 = .ok (.imul, 1) := by decide +kernel
theorem d_M_collect_126 : decode b_M_collect 126 = .ok (.aload_n 0, 1) := by decide +kernel
theorem d_M_collect_127 : decode b_M_collect 127 = .ok (.getfield 38, 3) := by decide +kernel
theorem d_M_collect_130 : decode b_M_collect 130 = .ok (.iload_n 1, 1) := by decide +kernel
theorem d_M_collect_131 : decode b_M_collect 131 = .ok (.iaload, 1) := by decide +kernel
theorem d_M_collect_132 : decode b_M_collect 132 = .ok (.iadd, 1) := by decide +kernel
theorem d_M_collect_133 : decode b_M_collect 133 = .ok (.iload_n 2, 1) := by decide +kernel
theorem d_M_collect_134 : decode b_M_collect 134 = .ok (.iastore, 1) := by decide +kernel
theorem d_M_collect_135 : decode b_M_collect 135 = .ok (.aload_n 0, 1) := by decide +kernel
theorem d_M_collect_136 : decode b_M_collect 136 = .ok (.getfield 38, 3) := by decide +kernel
theorem d_M_collect_139 : decode b_M_collect 139 = .ok (.iload_n 1, 1) := by decide +kernel
theorem d_M_collect_140 : decode b_M_collect 140 = .ok (.dup2, 1) := by decide +kernel
theorem d_M_collect_141 : decode b_M_collect 141 = .ok (.iaload, 1) := by decide +kernel
theorem d_M_collect_142 : decode b_M_collect 142 = .ok (.iconst 1, 1) := by decide +kernel
theorem d_M_collect_143 : decode b_M_collect 143 = .ok (.iadd, 1) := by decide +kernel
theorem d_M_collect_144 : decode b_M_collect 144 = .ok (.iastore, 1) := by decide +kernel
theorem d_M_collect_145 : decode b_M_collect 145 = .ok (.aload_n 0, 1) := by decide +kernel
theorem d_M_collect_146 : decode b_M_collect 146 = .ok (.getfield 38, 3) := by decide +kernel
theorem d_M_collect_149 : decode b_M_collect 149 = .ok (.iload_n 1, 1) := by decide +kernel
theorem d_M_collect_150 : decode b_M_collect 150 = .ok (.iaload, 1) := by decide +kernel
theorem d_M_collect_151 : decode b_M_collect 151 = .ok (.ireturn, 1) := by decide +kernel
theorem d_M_collected_0 : decode b_M_collected 0 = .ok (.aload_n 0, 1) := by decide +kernel
theorem d_M_collected_1 : decode b_M_collected 1 = .ok (.iconst 0, 1) := by decide +kernel
theorem d_M_collected_2 : decode b_M_collected 2 = .ok (.putfield 90, 3) := by decide +kernel
theorem d_M_collected_5 : decode b_M_collected 5 = .ok (.iload_n 1, 1) := by decide +kernel
theorem d_M_collected_6 : decode b_M_collected 6 = .ok (.invokestatic 105, 3) := by decide +kernel
theorem d_M_collected_9 : decode b_M_collected 9 = .ok (.ifCond .eq 12, 3) := by decide +kernel
theorem d_M_collected_12 : decode b_M_collected 12 = .ok (.aload_n 0, 1) := by decide +kernel
theorem d_M_collected_13 : decode b_M_collected 13 = .ok (.getfield 38, 3) := by decide +kernel
theorem d_M_collected_16 : decode b_M_collected 16 = .ok (.iload_n 1, 1) := by decide +kernel
theorem d_M_collected_17 : decode b_M_collected 17 = .ok (.iaload, 1) := by decide +kernel
theorem d_M_collected_18 : decode b_M_collected 18 = .ok (.goto 4, 3) := by decide +kernel
theorem d_M_collected_21 : decode b_M_collected 21 = .ok (.iconst (-1), 1) := by decide +kernel
theorem d_M_collected_22 : decode b_M_collected 22 = .ok (.ireturn, 1) := by decide +kernel
theorem d_M_sumOf_0 : decode b_M_sumOf 0 = .ok (.lconst 0, 1) := by decide +kernel
theorem d_M_sumOf_1 : decode b_M_sumOf 1 = .ok (.lstore_n 2, 1) := by decide +kernel
theorem d_M_sumOf_2 : decode b_M_sumOf 2 = .ok (.bipush 30, 2) := by decide +kernel
theorem d_M_sumOf_4 : decode b_M_sumOf 4 = .ok (.iload_n 1, 1) := by decide +kernel
theorem d_M_sumOf_5 : decode b_M_sumOf 5 = .ok (.imul, 1) := by decide +kernel
theorem d_M_sumOf_6 : decode b_M_sumOf 6 = .ok (.istore 4, 2) := by decide +kernel
theorem d_M_sumOf_8 : decode b_M_sumOf 8 = .ok (.iload 4, 2) := by decide +kernel
theorem d_M_sumOf_10 : decode b_M_sumOf 10 = .ok (.bipush 30, 2) := by decide +kernel
theorem d_M_sumOf_12 : decode b_M_sumOf 12 = .ok (.iload_n 1, 1) := by decide +kernel
theorem d_M_sumOf_13 : decode b_M_sumOf 13 = .ok (.imul, 1) := by decide +kernel
theorem d_M_sumOf_14 : decode b_M_sumOf 14 = .ok (.aload_n 0, 1) := by decide +kernel
theorem d_M_sumOf_15 : decode b_M_sumOf 15 = .ok (.getfield 38, 3) := by decide +kernel
theorem d_M_sumOf_18 : decode b_M_sumOf 18 = .ok (.iload_n 1, 1) := by decide +kernel
theorem d_M_sumOf_19 : decode b_M_sumOf 19 = .ok (.iaload, 1) := by decide +kernel
theorem d_M_sumOf_20 : decode b_M_sumOf 20 = .ok (.iadd, 1) := by decide +kernel
theorem d_M_sumOf_21 : decode b_M_sumOf 21 = .ok (.if_icmp .ge 26, 3) := by decide +kernel
theorem d_M_sumOf_24 : decode b_M_sumOf 24 = .ok (.ldc2_w 108, 3) := by decide +kernel
theorem d_M_sumOf_27 : decode b_M_sumOf 27 = .ok (.lload_n 2, 1) := by decide +kernel
theorem d_M_sumOf_28 : decode b_M_sumOf 28 = .ok (.lmul, 1) := by decide +kernel
theorem d_M_sumOf_29 : decode b_M_sumOf 29 = .ok (.aload_n 0, 1) := by decide +kernel
theorem d_M_sumOf_30 : decode b_M_sumOf 30 = .ok (.getfield 41, 3) := by decide +kernel
theorem d_M_sumOf_33 : decode b_M_sumOf 33 = .ok (.iload 4, 2) := by decide +kernel
theorem d_M_sumOf_35 : decode b_M_sumOf 35 = .ok (.iaload, 1) := by decide +kernel
theorem d_M_sumOf_36 : decode b_M_sumOf 36 = .ok (.i2l, 1) := by decide +kernel
theorem d_M_sumOf_37 : decode b_M_sumOf 37 = .ok (.ladd, 1) := by decide +kernel
theorem d_M_sumOf_38 : decode b_M_sumOf 38 = .ok (.lconst 1, 1) := by decide +kernel
theorem d_M_sumOf_39 : decode b_M_sumOf 39 = .ok (.ladd, 1) := by decide +kernel
theorem d_M_sumOf_40 : decode b_M_sumOf 40 = .ok (.lstore_n 2, 1) := by decide +kernel
theorem d_M_sumOf_41 : decode b_M_sumOf 41 = .ok (.iinc 4 1, 3) := by decide +kernel
theorem d_M_sumOf_44 : decode b_M_sumOf 44 = .ok (.goto (-36), 3) := by decide +kernel
theorem d_M_sumOf_47 : decode b_M_sumOf 47 = .ok (.lload_n 2, 1) := by decide +kernel
theorem d_M_sumOf_48 : decode b_M_sumOf 48 = .ok (.lreturn, 1) := by decide +kernel
theorem d_M_define_0 : decode b_M_define 0 = .ok (.aload_n 0, 1) := by decide +kernel
theorem d_M_define_1 : decode b_M_define 1 = .ok (.iconst 0, 1) := by decide +kernel
theorem d_M_define_2 : decode b_M_define 2 = .ok (.putfield 90, 3) := by decide +kernel
theorem d_M_define_5 : decode b_M_define 5 = .ok (.iload_n 1, 1) := by decide +kernel
theorem d_M_define_6 : decode b_M_define 6 = .ok (.ifCond .lt 39, 3) := by decide +kernel
theorem d_M_define_9 : decode b_M_define 9 = .ok (.iload_n 1, 1) := by decide +kernel
theorem d_M_define_10 : decode b_M_define 10 = .ok (.bipush 12, 2) := by decide +kernel
theorem d_M_define_12 : decode b_M_define 12 = .ok (.if_icmp .ge 33, 3) := by decide +kernel
theorem d_M_define_15 : decode b_M_define 15 = .ok (.iload_n 2, 1) := by decide +kernel
theorem d_M_define_16 : decode b_M_define 16 = .ok (.ifCond .lt 29, 3) := by decide +kernel
theorem d_M_define_19 : decode b_M_define 19 = .ok (.iload_n 2, 1) := by decide +kernel
theorem d_M_define_20 : decode b_M_define 20 = .ok (.bipush 8, 2) := by decide +kernel
theorem d_M_define_22 : decode b_M_define 22 = .ok (.if_icmp .gt 23, 3) := by decide +kernel
theorem d_M_define_25 : decode b_M_define 25 = .ok (.iload_n 3, 1) := by decide +kernel
theorem d_M_define_26 : decode b_M_define 26 = .ok (.iconst (-1), 1) := by decide +kernel
theorem d_M_define_27 : decode b_M_define 27 = .ok (.if_icmp .eq 10, 3) := by decide +kernel
theorem d_M_define_30 : decode b_M_define 30 = .ok (.iload_n 3, 1) := by decide +kernel
theorem d_M_define_31 : decode b_M_define 31 = .ok (.invokestatic 105, 3) := by decide +kernel
theorem d_M_define_34 : decode b_M_define 34 = .ok (.ifCond .eq 11, 3) := by decide +kernel
theorem d_M_define_37 : decode b_M_define 37 = .ok (.lload 4, 2) := by decide +kernel
theorem d_M_define_39 : decode b_M_define 39 = .ok (.lload 6, 2) := by decide +kernel
theorem d_M_define_41 : decode b_M_define 41 = .ok (.lcmp, 1) := by decide +kernel
theorem d_M_define_42 : decode b_M_define 42 = .ok (.ifCond .le 5, 3) := by decide +kernel
theorem d_M_define_45 : decode b_M_define 45 = .ok (.iconst 0, 1) := by decide +kernel
theorem d_M_define_46 : decode b_M_define 46 = .ok (.ireturn, 1) := by decide +kernel
theorem d_M_define_47 : decode b_M_define 47 = .ok (.aload_n 0, 1) := by decide +kernel
theorem d_M_define_48 : decode b_M_define 48 = .ok (.getfield 44, 3) := by decide +kernel
theorem d_M_define_51 : decode b_M_define 51 = .ok (.iload_n 1, 1) := by decide +kernel
theorem d_M_define_52 : decode b_M_define 52 = .ok (.iconst 1, 1) := by decide +kernel
theorem d_M_define_53 : decode b_M_define 53 = .ok (.bastore, 1) := by decide +kernel
theorem d_M_define_54 : decode b_M_define 54 = .ok (.aload_n 0, 1) := by decide +kernel
theorem d_M_define_55 : decode b_M_define 55 = .ok (.getfield 48, 3) := by decide +kernel
theorem d_M_define_58 : decode b_M_define 58 = .ok (.iload_n 1, 1) := by decide +kernel
theorem d_M_define_59 : decode b_M_define 59 = .ok (.iload_n 2, 1) := by decide +kernel
theorem d_M_define_60 : decode b_M_define 60 = .ok (.iastore, 1) := by decide +kernel
theorem d_M_define_61 : decode b_M_define 61 = .ok (.aload_n 0, 1) := by decide +kernel
theorem d_M_define_62 : decode b_M_define 62 = .ok (.getfield 51, 3) := by decide +kernel
theorem d_M_define_65 : decode b_M_define 65 = .ok (.iload_n 1, 1) := by decide +kernel
theorem d_M_define_66 : decode b_M_define 66 = .ok (.iload_n 3, 1) := by decide +kernel
theorem d_M_define_67 : decode b_M_define 67 = .ok (.iastore, 1) := by decide +kernel
theorem d_M_define_68 : decode b_M_define 68 = .ok (.aload_n 0, 1) := by decide +kernel
theorem d_M_define_69 : decode b_M_define 69 = .ok (.getfield 66, 3) := by decide +kernel
theorem d_M_define_72 : decode b_M_define 72 = .ok (.iload_n 1, 1) := by decide +kernel
theorem d_M_define_73 : decode b_M_define 73 = .ok (.lload 4, 2) := by decide +kernel
theorem d_M_define_75 : decode b_M_define 75 = .ok (.lastore, 1) := by decide +kernel
theorem d_M_define_76 : decode b_M_define 76 = .ok (.aload_n 0, 1) := by decide +kernel
theorem d_M_define_77 : decode b_M_define 77 = .ok (.getfield 69, 3) := by decide +kernel
theorem d_M_define_80 : decode b_M_define 80 = .ok (.iload_n 1, 1) := by decide +kernel
theorem d_M_define_81 : decode b_M_define 81 = .ok (.lload 6, 2) := by decide +kernel
theorem d_M_define_83 : decode b_M_define 83 = .ok (.lastore, 1) := by decide +kernel
theorem d_M_define_84 : decode b_M_define 84 = .ok (.aload_n 0, 1) := by decide +kernel
theorem d_M_define_85 : decode b_M_define 85 = .ok (.getfield 54, 3) := by decide +kernel
theorem d_M_define_88 : decode b_M_define 88 = .ok (.iload_n 1, 1) := by decide +kernel
theorem d_M_define_89 : decode b_M_define 89 = .ok (.iconst 0, 1) := by decide +kernel
theorem d_M_define_90 : decode b_M_define 90 = .ok (.iastore, 1) := by decide +kernel
theorem d_M_define_91 : decode b_M_define 91 = .ok (.aload_n 0, 1) := by decide +kernel
theorem d_M_define_92 : decode b_M_define 92 = .ok (.getfield 57, 3) := by decide +kernel
theorem d_M_define_95 : decode b_M_define 95 = .ok (.iload_n 1, 1) := by decide +kernel
theorem d_M_define_96 : decode b_M_define 96 = .ok (.iconst 0, 1) := by decide +kernel
theorem d_M_define_97 : decode b_M_define 97 = .ok (.iastore, 1) := by decide +kernel
theorem d_M_define_98 : decode b_M_define 98 = .ok (.aload_n 0, 1) := by decide +kernel
theorem d_M_define_99 : decode b_M_define 99 = .ok (.getfield 63, 3) := by decide +kernel
theorem d_M_define_102 : decode b_M_define 102 = .ok (.iload_n 1, 1) := by decide +kernel
theorem d_M_define_103 : decode b_M_define 103 = .ok (.iconst 0, 1) := by decide +kernel
theorem d_M_define_104 : decode b_M_define 104 = .ok (.iastore, 1) := by decide +kernel
theorem d_M_define_105 : decode b_M_define 105 = .ok (.iconst 1, 1) := by decide +kernel
theorem d_M_define_106 : decode b_M_define 106 = .ok (.ireturn, 1) := by decide +kernel
theorem d_M_answer_0 : decode b_M_answer 0 = .ok (.aload_n 0, 1) := by decide +kernel
theorem d_M_answer_1 : decode b_M_answer 1 = .ok (.iconst 0, 1) := by decide +kernel
theorem d_M_answer_2 : decode b_M_answer 2 = .ok (.putfield 90, 3) := by decide +kernel
theorem d_M_answer_5 : decode b_M_answer 5 = .ok (.aload_n 0, 1) := by decide +kernel
theorem d_M_answer_6 : decode b_M_answer 6 = .ok (.iload_n 1, 1) := by decide +kernel
theorem d_M_answer_7 : decode b_M_answer 7 = .ok (.invokevirtual 110, 3) := by decide +kernel
theorem d_M_answer_10 : decode b_M_answer 10 = .ok (.ifCond .eq 13, 3) := by decide +kernel
theorem d_M_answer_13 : decode b_M_answer 13 = .ok (.aload_n 0, 1) := by decide +kernel
theorem d_M_answer_14 : decode b_M_answer 14 = .ok (.getfield 54, 3) := by decide +kernel
theorem d_M_answer_17 : decode b_M_answer 17 = .ok (.iload_n 1, 1) := by decide +kernel
theorem d_M_answer_18 : decode b_M_answer 18 = .ok (.iaload, 1) := by decide +kernel
theorem d_M_answer_19 : decode b_M_answer 19 = .ok (.iconst 5, 1) := by decide +kernel
theorem d_M_answer_20 : decode b_M_answer 20 = .ok (.if_icmp .ne 5, 3) := by decide +kernel
theorem d_M_answer_23 : decode b_M_answer 23 = .ok (.iconst (-1), 1) := by decide +kernel
theorem d_M_answer_24 : decode b_M_answer 24 = .ok (.ireturn, 1) := by decide +kernel
theorem d_M_answer_25 : decode b_M_answer 25 = .ok (.aload_n 0, 1) := by decide +kernel
theorem d_M_answer_26 : decode b_M_answer 26 = .ok (.getfield 72, 3) := by decide +kernel
theorem d_M_answer_29 : decode b_M_answer 29 = .ok (.iconst 5, 1) := by decide +kernel
theorem d_M_answer_30 : decode b_M_answer 30 = .ok (.iload_n 1, 1) := by decide +kernel
theorem d_M_answer_31 : decode b_M_answer 31 = .ok (.imul, 1) := by decide +kernel
theorem d_M_answer_32 : decode b_M_answer 32 = .ok (.aload_n 0, 1) := by decide +kernel
theorem d_M_answer_33 : decode b_M_answer 33 = .ok (.getfield 54, 3) := by decide +kernel
theorem d_M_answer_36 : decode b_M_answer 36 = .ok (.iload_n 1, 1) := by decide +kernel
theorem d_M_answer_37 : decode b_M_answer 37 = .ok (.iaload, 1) := by decide +kernel
theorem d_M_answer_38 : decode b_M_answer 38 = .ok (.iadd, 1) := by decide +kernel
theorem d_M_answer_39 : decode b_M_answer 39 = .ok (.lload_n 2, 1) := by decide +kernel
theorem d_M_answer_40 : decode b_M_answer 40 = .ok (.lastore, 1) := by decide +kernel
theorem d_M_answer_41 : decode b_M_answer 41 = .ok (.aload_n 0, 1) := by decide +kernel
theorem d_M_answer_42 : decode b_M_answer 42 = .ok (.getfield 54, 3) := by decide +kernel
theorem d_M_answer_45 : decode b_M_answer 45 = .ok (.iload_n 1, 1) := by decide +kernel
theorem d_M_answer_46 : decode b_M_answer 46 = .ok (.dup2, 1) := by decide +kernel
theorem d_M_answer_47 : decode b_M_answer 47 = .ok (.iaload, 1) := by decide +kernel
theorem d_M_answer_48 : decode b_M_answer 48 = .ok (.iconst 1, 1) := by decide +kernel
theorem d_M_answer_49 : decode b_M_answer 49 = .ok (.iadd, 1) := by decide +kernel
theorem d_M_answer_50 : decode b_M_answer 50 = .ok (.iastore, 1) := by decide +kernel
theorem d_M_answer_51 : decode b_M_answer 51 = .ok (.aload_n 0, 1) := by decide +kernel
theorem d_M_answer_52 : decode b_M_answer 52 = .ok (.getfield 54, 3) := by decide +kernel
theorem d_M_answer_55 : decode b_M_answer 55 = .ok (.iload_n 1, 1) := by decide +kernel
theorem d_M_answer_56 : decode b_M_answer 56 = .ok (.iaload, 1) := by decide +kernel
theorem d_M_answer_57 : decode b_M_answer 57 = .ok (.ireturn, 1) := by decide +kernel
theorem d_M_fails_0 : decode b_M_fails 0 = .ok (.aload_n 0, 1) := by decide +kernel
theorem d_M_fails_1 : decode b_M_fails 1 = .ok (.iconst 0, 1) := by decide +kernel
theorem d_M_fails_2 : decode b_M_fails 2 = .ok (.putfield 90, 3) := by decide +kernel
theorem d_M_fails_5 : decode b_M_fails 5 = .ok (.aload_n 0, 1) := by decide +kernel
theorem d_M_fails_6 : decode b_M_fails 6 = .ok (.iload_n 1, 1) := by decide +kernel
theorem d_M_fails_7 : decode b_M_fails 7 = .ok (.invokevirtual 110, 3) := by decide +kernel
theorem d_M_fails_10 : decode b_M_fails 10 = .ok (.ifCond .eq 23, 3) := by decide +kernel
theorem d_M_fails_13 : decode b_M_fails 13 = .ok (.iload_n 2, 1) := by decide +kernel
theorem d_M_fails_14 : decode b_M_fails 14 = .ok (.iconst 1, 1) := by decide +kernel
theorem d_M_fails_15 : decode b_M_fails 15 = .ok (.if_icmp .lt 18, 3) := by decide +kernel
theorem d_M_fails_18 : decode b_M_fails 18 = .ok (.iload_n 2, 1) := by decide +kernel
theorem d_M_fails_19 : decode b_M_fails 19 = .ok (.iconst 3, 1) := by decide +kernel
theorem d_M_fails_20 : decode b_M_fails 20 = .ok (.if_icmp .gt 13, 3) := by decide +kernel
theorem d_M_fails_23 : decode b_M_fails 23 = .ok (.iload_n 3, 1) := by decide +kernel
theorem d_M_fails_24 : decode b_M_fails 24 = .ok (.ifCond .lt 9, 3) := by decide +kernel
theorem d_M_fails_27 : decode b_M_fails 27 = .ok (.iload_n 3, 1) := by decide +kernel
theorem d_M_fails_28 : decode b_M_fails 28 = .ok (.bipush 9, 2) := by decide +kernel
theorem d_M_fails_30 : decode b_M_fails 30 = .ok (.if_icmp .le 5, 3) := by decide +kernel
theorem d_M_fails_33 : decode b_M_fails 33 = .ok (.iconst 0, 1) := by decide +kernel
theorem d_M_fails_34 : decode b_M_fails 34 = .ok (.ireturn, 1) := by decide +kernel
theorem d_M_fails_35 : decode b_M_fails 35 = .ok (.aload_n 0, 1) := by decide +kernel
theorem d_M_fails_36 : decode b_M_fails 36 = .ok (.getfield 60, 3) := by decide +kernel
theorem d_M_fails_39 : decode b_M_fails 39 = .ok (.iload_n 1, 1) := by decide +kernel
theorem d_M_fails_40 : decode b_M_fails 40 = .ok (.iload_n 2, 1) := by decide +kernel
theorem d_M_fails_41 : decode b_M_fails 41 = .ok (.iastore, 1) := by decide +kernel
theorem d_M_fails_42 : decode b_M_fails 42 = .ok (.aload_n 0, 1) := by decide +kernel
theorem d_M_fails_43 : decode b_M_fails 43 = .ok (.getfield 63, 3) := by decide +kernel
theorem d_M_fails_46 : decode b_M_fails 46 = .ok (.iload_n 1, 1) := by decide +kernel
theorem d_M_fails_47 : decode b_M_fails 47 = .ok (.iload_n 3, 1) := by decide +kernel
theorem d_M_fails_48 : decode b_M_fails 48 = .ok (.iastore, 1) := by decide +kernel
theorem d_M_fails_49 : decode b_M_fails 49 = .ok (.iconst 1, 1) := by decide +kernel
theorem d_M_fails_50 : decode b_M_fails 50 = .ok (.ireturn, 1) := by decide +kernel
theorem d_M_go_0 : decode b_M_go 0 = .ok (.aload_n 0, 1) := by decide +kernel
theorem d_M_go_1 : decode b_M_go 1 = .ok (.iconst 0, 1) := by decide +kernel
theorem d_M_go_2 : decode b_M_go 2 = .ok (.putfield 113, 3) := by decide +kernel
theorem d_M_go_5 : decode b_M_go 5 = .ok (.aload_n 0, 1) := by decide +kernel
theorem d_M_go_6 : decode b_M_go 6 = .ok (.lconst 0, 1) := by decide +kernel
theorem d_M_go_7 : decode b_M_go 7 = .ok (.putfield 116, 3) := by decide +kernel
theorem d_M_go_10 : decode b_M_go 10 = .ok (.aload_n 0, 1) := by decide +kernel
theorem d_M_go_11 : decode b_M_go 11 = .ok (.getfield 63, 3) := by decide +kernel
theorem d_M_go_14 : decode b_M_go 14 = .ok (.iload_n 1, 1) := by decide +kernel
theorem d_M_go_15 : decode b_M_go 15 = .ok (.iaload, 1) := by decide +kernel
theorem d_M_go_16 : decode b_M_go 16 = .ok (.ifCond .le 26, 3) := by decide +kernel
theorem d_M_go_19 : decode b_M_go 19 = .ok (.aload_n 0, 1) := by decide +kernel
theorem d_M_go_20 : decode b_M_go 20 = .ok (.getfield 63, 3) := by decide +kernel
theorem d_M_go_23 : decode b_M_go 23 = .ok (.iload_n 1, 1) := by decide +kernel
theorem d_M_go_24 : decode b_M_go 24 = .ok (.dup2, 1) := by decide +kernel
theorem d_M_go_25 : decode b_M_go 25 = .ok (.iaload, 1) := by decide +kernel
theorem d_M_go_26 : decode b_M_go 26 = .ok (.iconst 1, 1) := by decide +kernel
theorem d_M_go_27 : decode b_M_go 27 = .ok (.isub, 1) := by decide +kernel
theorem d_M_go_28 : decode b_M_go 28 = .ok (.iastore, 1) := by decide +kernel
theorem d_M_go_29 : decode b_M_go 29 = .ok (.aload_n 0, 1) := by decide +kernel
theorem d_M_go_30 : decode b_M_go 30 = .ok (.aload_n 0, 1) := by decide +kernel
theorem d_M_go_31 : decode b_M_go 31 = .ok (.getfield 60, 3) := by decide +kernel
theorem d_M_go_34 : decode b_M_go 34 = .ok (.iload_n 1, 1) := by decide +kernel
theorem d_M_go_35 : decode b_M_go 35 = .ok (.iaload, 1) := by decide +kernel
theorem d_M_go_36 : decode b_M_go 36 = .ok (.putfield 113, 3) := by decide +kernel
theorem d_M_go_39 : decode b_M_go 39 = .ok (.goto 76, 3) := by decide +kernel
theorem d_M_go_42 : decode b_M_go 42 = .ok (.aload_n 0, 1) := by decide +kernel
theorem d_M_go_43 : decode b_M_go 43 = .ok (.getfield 54, 3) := by decide +kernel
theorem d_M_go_46 : decode b_M_go 46 = .ok (.iload_n 1, 1) := by decide +kernel
theorem d_M_go_47 : decode b_M_go 47 = .ok (.iaload, 1) := by decide +kernel
theorem d_M_go_48 : decode b_M_go 48 = .ok (.ifCond .ne 11, 3) := by decide +kernel
theorem d_M_go_51 : decode b_M_go 51 = .ok (.aload_n 0, 1) := by decide +kernel
theorem d_M_go_52 : decode b_M_go 52 = .ok (.lload_n 2, 1) := by decide +kernel
theorem d_M_go_53 : decode b_M_go 53 = .ok (.putfield 116, 3) := by decide +kernel
theorem d_M_go_56 : decode b_M_go 56 = .ok (.goto 59, 3) := by decide +kernel
theorem d_M_go_59 : decode b_M_go 59 = .ok (.aload_n 0, 1) := by decide +kernel
theorem d_M_go_60 : decode b_M_go 60 = .ok (.lload_n 2, 1) := by decide +kernel
theorem d_M_go_61 : decode b_M_go 61 = .ok (.aload_n 0, 1) := by decide +kernel
theorem d_M_go_62 : decode b_M_go 62 = .ok (.getfield 72, 3) := by decide +kernel
theorem d_M_go_65 : decode b_M_go 65 = .ok (.iconst 5, 1) := by decide +kernel
theorem d_M_go_66 : decode b_M_go 66 = .ok (.iload_n 1, 1) := by decide +kernel
theorem d_M_go_67 : decode b_M_go 67 = .ok (.imul, 1) := by decide +kernel
theorem d_M_go_68 : decode b_M_go 68 = .ok (.aload_n 0, 1) := by decide +kernel
theorem d_M_go_69 : decode b_M_go 69 = .ok (.getfield 57, 3) := by decide +kernel
theorem d_M_go_72 : decode b_M_go 72 = .ok (.iload_n 1, 1) := by decide +kernel
theorem d_M_go_73 : decode b_M_go 73 = .ok (.iaload, 1) := by decide +kernel
theorem d_M_go_74 : decode b_M_go 74 = .ok (.iadd, 1) := by decide +kernel
theorem d_M_go_75 : decode b_M_go 75 = .ok (.laload, 1) := by decide +kernel
theorem d_M_go_76 : decode b_M_go 76 = .ok (.ladd, 1) := by decide +kernel
theorem d_M_go_77 : decode b_M_go 77 = .ok (.putfield 116, 3) := by decide +kernel
theorem d_M_go_80 : decode b_M_go 80 = .ok (.aload_n 0, 1) := by decide +kernel
theorem d_M_go_81 : decode b_M_go 81 = .ok (.getfield 57, 3) := by decide +kernel
theorem d_M_go_84 : decode b_M_go 84 = .ok (.iload_n 1, 1) := by decide +kernel
theorem d_M_go_85 : decode b_M_go 85 = .ok (.aload_n 0, 1) := by decide +kernel
theorem d_M_go_86 : decode b_M_go 86 = .ok (.getfield 57, 3) := by decide +kernel
theorem d_M_go_89 : decode b_M_go 89 = .ok (.iload_n 1, 1) := by decide +kernel
theorem d_M_go_90 : decode b_M_go 90 = .ok (.iaload, 1) := by decide +kernel
theorem d_M_go_91 : decode b_M_go 91 = .ok (.iconst 1, 1) := by decide +kernel
theorem d_M_go_92 : decode b_M_go 92 = .ok (.iadd, 1) := by decide +kernel
theorem d_M_go_93 : decode b_M_go 93 = .ok (.aload_n 0, 1) := by decide +kernel
theorem d_M_go_94 : decode b_M_go 94 = .ok (.getfield 54, 3) := by decide +kernel
theorem d_M_go_97 : decode b_M_go 97 = .ok (.iload_n 1, 1) := by decide +kernel
theorem d_M_go_98 : decode b_M_go 98 = .ok (.iaload, 1) := by decide +kernel
theorem d_M_go_99 : decode b_M_go 99 = .ok (.if_icmp .ne 7, 3) := by decide +kernel
theorem d_M_go_102 : decode b_M_go 102 = .ok (.iconst 0, 1) := by decide +kernel
theorem d_M_go_103 : decode b_M_go 103 = .ok (.goto 11, 3) := by decide +kernel
theorem d_M_go_106 : decode b_M_go 106 = .ok (.aload_n 0, 1) := by decide +kernel
theorem d_M_go_107 : decode b_M_go 107 = .ok (.getfield 57, 3) := by decide +kernel
theorem d_M_go_110 : decode b_M_go 110 = .ok (.iload_n 1, 1) := by decide +kernel
theorem d_M_go_111 : decode b_M_go 111 = .ok (.iaload, 1) := by decide +kernel
theorem d_M_go_112 : decode b_M_go 112 = .ok (.iconst 1, 1) := by decide +kernel
theorem d_M_go_113 : decode b_M_go 113 = .ok (.iadd, 1) := by decide +kernel
theorem d_M_go_114 : decode b_M_go 114 = .ok (.iastore, 1) := by decide +kernel
theorem d_M_go_115 : decode b_M_go 115 = .ok (.return_, 1) := by decide +kernel
theorem d_M_tell_0 : decode b_M_tell 0 = .ok (.aload_n 0, 1) := by decide +kernel
theorem d_M_tell_1 : decode b_M_tell 1 = .ok (.getfield 84, 3) := by decide +kernel
theorem d_M_tell_4 : decode b_M_tell 4 = .ok (.iconst 0, 1) := by decide +kernel
theorem d_M_tell_5 : decode b_M_tell 5 = .ok (.iaload, 1) := by decide +kernel
theorem d_M_tell_6 : decode b_M_tell 6 = .ok (.bipush 40, 2) := by decide +kernel
theorem d_M_tell_8 : decode b_M_tell 8 = .ok (.irem, 1) := by decide +kernel
theorem d_M_tell_9 : decode b_M_tell 9 = .ok (.istore 6, 2) := by decide +kernel
theorem d_M_tell_11 : decode b_M_tell 11 = .ok (.aload_n 0, 1) := by decide +kernel
theorem d_M_tell_12 : decode b_M_tell 12 = .ok (.getfield 75, 3) := by decide +kernel
theorem d_M_tell_15 : decode b_M_tell 15 = .ok (.iload 6, 2) := by decide +kernel
theorem d_M_tell_17 : decode b_M_tell 17 = .ok (.iload_n 1, 1) := by decide +kernel
theorem d_M_tell_18 : decode b_M_tell 18 = .ok (.iastore, 1) := by decide +kernel
theorem d_M_tell_19 : decode b_M_tell 19 = .ok (.aload_n 0, 1) := by decide +kernel
theorem d_M_tell_20 : decode b_M_tell 20 = .ok (.getfield 78, 3) := by decide +kernel
theorem d_M_tell_23 : decode b_M_tell 23 = .ok (.iload 6, 2) := by decide +kernel
theorem d_M_tell_25 : decode b_M_tell 25 = .ok (.iload_n 2, 1) := by decide +kernel
theorem d_M_tell_26 : decode b_M_tell 26 = .ok (.iastore, 1) := by decide +kernel
theorem d_M_tell_27 : decode b_M_tell 27 = .ok (.aload_n 0, 1) := by decide +kernel
theorem d_M_tell_28 : decode b_M_tell 28 = .ok (.getfield 81, 3) := by decide +kernel
theorem d_M_tell_31 : decode b_M_tell 31 = .ok (.iload 6, 2) := by decide +kernel
theorem d_M_tell_33 : decode b_M_tell 33 = .ok (.iload_n 3, 1) := by decide +kernel
theorem d_M_tell_34 : decode b_M_tell 34 = .ok (.iastore, 1) := by decide +kernel
theorem d_M_tell_35 : decode b_M_tell 35 = .ok (.aload_n 0, 1) := by decide +kernel
theorem d_M_tell_36 : decode b_M_tell 36 = .ok (.getfield 87, 3) := by decide +kernel
theorem d_M_tell_39 : decode b_M_tell 39 = .ok (.iload 6, 2) := by decide +kernel
theorem d_M_tell_41 : decode b_M_tell 41 = .ok (.lload 4, 2) := by decide +kernel
theorem d_M_tell_43 : decode b_M_tell 43 = .ok (.lastore, 1) := by decide +kernel
theorem d_M_tell_44 : decode b_M_tell 44 = .ok (.aload_n 0, 1) := by decide +kernel
theorem d_M_tell_45 : decode b_M_tell 45 = .ok (.getfield 84, 3) := by decide +kernel
theorem d_M_tell_48 : decode b_M_tell 48 = .ok (.iconst 0, 1) := by decide +kernel
theorem d_M_tell_49 : decode b_M_tell 49 = .ok (.dup2, 1) := by decide +kernel
theorem d_M_tell_50 : decode b_M_tell 50 = .ok (.iaload, 1) := by decide +kernel
theorem d_M_tell_51 : decode b_M_tell 51 = .ok (.iconst 1, 1) := by decide +kernel
theorem d_M_tell_52 : decode b_M_tell 52 = .ok (.iadd, 1) := by decide +kernel
theorem d_M_tell_53 : decode b_M_tell 53 = .ok (.iastore, 1) := by decide +kernel
theorem d_M_tell_54 : decode b_M_tell 54 = .ok (.iload_n 1, 1) := by decide +kernel
theorem d_M_tell_55 : decode b_M_tell 55 = .ok (.ifCond .ne 7, 3) := by decide +kernel
theorem d_M_tell_58 : decode b_M_tell 58 = .ok (.iconst 1, 1) := by decide +kernel
theorem d_M_tell_59 : decode b_M_tell 59 = .ok (.goto 22, 3) := by decide +kernel
theorem d_M_tell_62 : decode b_M_tell 62 = .ok (.iload_n 1, 1) := by decide +kernel
theorem d_M_tell_63 : decode b_M_tell 63 = .ok (.iconst 4, 1) := by decide +kernel
theorem d_M_tell_64 : decode b_M_tell 64 = .ok (.if_icmp .ge 7, 3) := by decide +kernel
theorem d_M_tell_67 : decode b_M_tell 67 = .ok (.iconst 2, 1) := by decide +kernel
theorem d_M_tell_68 : decode b_M_tell 68 = .ok (.goto 13, 3) := by decide +kernel
theorem d_M_tell_71 : decode b_M_tell 71 = .ok (.iload_n 1, 1) := by decide +kernel
theorem d_M_tell_72 : decode b_M_tell 72 = .ok (.iconst 4, 1) := by decide +kernel
theorem d_M_tell_73 : decode b_M_tell 73 = .ok (.if_icmp .ne 7, 3) := by decide +kernel
theorem d_M_tell_76 : decode b_M_tell 76 = .ok (.iconst 3, 1) := by decide +kernel
theorem d_M_tell_77 : decode b_M_tell 77 = .ok (.goto 4, 3) := by decide +kernel
theorem d_M_tell_80 : decode b_M_tell 80 = .ok (.iconst 4, 1) := by decide +kernel
theorem d_M_tell_81 : decode b_M_tell 81 = .ok (.istore 7, 2) := by decide +kernel
theorem d_M_tell_83 : decode b_M_tell 83 = .ok (.aload_n 0, 1) := by decide +kernel
theorem d_M_tell_84 : decode b_M_tell 84 = .ok (.getfield 84, 3) := by decide +kernel
theorem d_M_tell_87 : decode b_M_tell 87 = .ok (.iload 7, 2) := by decide +kernel
theorem d_M_tell_89 : decode b_M_tell 89 = .ok (.dup2, 1) := by decide +kernel
theorem d_M_tell_90 : decode b_M_tell 90 = .ok (.iaload, 1) := by decide +kernel
theorem d_M_tell_91 : decode b_M_tell 91 = .ok (.iconst 1, 1) := by decide +kernel
theorem d_M_tell_92 : decode b_M_tell 92 = .ok (.iadd, 1) := by decide +kernel
theorem d_M_tell_93 : decode b_M_tell 93 = .ok (.iastore, 1) := by decide +kernel
theorem d_M_tell_94 : decode b_M_tell 94 = .ok (.return_, 1) := by decide +kernel
theorem d_M_refusal_0 : decode b_M_refusal 0 = .ok (.aload_n 0, 1) := by decide +kernel
theorem d_M_refusal_1 : decode b_M_refusal 1 = .ok (.iload_n 1, 1) := by decide +kernel
theorem d_M_refusal_2 : decode b_M_refusal 2 = .ok (.invokevirtual 110, 3) := by decide +kernel
theorem d_M_refusal_5 : decode b_M_refusal 5 = .ok (.ifCond .eq 26, 3) := by decide +kernel
theorem d_M_refusal_8 : decode b_M_refusal 8 = .ok (.aload_n 0, 1) := by decide +kernel
theorem d_M_refusal_9 : decode b_M_refusal 9 = .ok (.iload_n 2, 1) := by decide +kernel
theorem d_M_refusal_10 : decode b_M_refusal 10 = .ok (.invokevirtual 97, 3) := by decide +kernel
theorem d_M_refusal_13 : decode b_M_refusal 13 = .ok (.ifCond .eq 18, 3) := by decide +kernel
theorem d_M_refusal_16 : decode b_M_refusal 16 = .ok (.aload_n 0, 1) := by decide +kernel
theorem d_M_refusal_17 : decode b_M_refusal 17 = .ok (.getfield 7, 3) := by decide +kernel
theorem d_M_refusal_20 : decode b_M_refusal 20 = .ok (.iload_n 2, 1) := by decide +kernel
theorem d_M_refusal_21 : decode b_M_refusal 21 = .ok (.iaload, 1) := by decide +kernel
theorem d_M_refusal_22 : decode b_M_refusal 22 = .ok (.aload_n 0, 1) := by decide +kernel
theorem d_M_refusal_23 : decode b_M_refusal 23 = .ok (.getfield 48, 3) := by decide +kernel
theorem d_M_refusal_26 : decode b_M_refusal 26 = .ok (.iload_n 1, 1) := by decide +kernel
theorem d_M_refusal_27 : decode b_M_refusal 27 = .ok (.iaload, 1) := by decide +kernel
theorem d_M_refusal_28 : decode b_M_refusal 28 = .ok (.if_icmp .eq 5, 3) := by decide +kernel
theorem d_M_refusal_31 : decode b_M_refusal 31 = .ok (.iconst (-1), 1) := by decide +kernel
theorem d_M_refusal_32 : decode b_M_refusal 32 = .ok (.ireturn, 1) := by decide +kernel
theorem d_M_refusal_33 : decode b_M_refusal 33 = .ok (.lload_n 3, 1) := by decide +kernel
theorem d_M_refusal_34 : decode b_M_refusal 34 = .ok (.aload_n 0, 1) := by decide +kernel
theorem d_M_refusal_35 : decode b_M_refusal 35 = .ok (.getfield 66, 3) := by decide +kernel
theorem d_M_refusal_38 : decode b_M_refusal 38 = .ok (.iload_n 1, 1) := by decide +kernel
theorem d_M_refusal_39 : decode b_M_refusal 39 = .ok (.laload, 1) := by decide +kernel
theorem d_M_refusal_40 : decode b_M_refusal 40 = .ok (.lcmp, 1) := by decide +kernel
theorem d_M_refusal_41 : decode b_M_refusal 41 = .ok (.ifCond .lt 14, 3) := by decide +kernel
theorem d_M_refusal_44 : decode b_M_refusal 44 = .ok (.lload_n 3, 1) := by decide +kernel
theorem d_M_refusal_45 : decode b_M_refusal 45 = .ok (.aload_n 0, 1) := by decide +kernel
theorem d_M_refusal_46 : decode b_M_refusal 46 = .ok (.getfield 69, 3) := by decide +kernel
theorem d_M_refusal_49 : decode b_M_refusal 49 = .ok (.iload_n 1, 1) := by decide +kernel
theorem d_M_refusal_50 : decode b_M_refusal 50 = .ok (.laload, 1) := by decide +kernel
theorem d_M_refusal_51 : decode b_M_refusal 51 = .ok (.lcmp, 1) := by decide +kernel
theorem d_M_refusal_52 : decode b_M_refusal 52 = .ok (.ifCond .le 6, 3) := by decide +kernel
theorem d_M_refusal_55 : decode b_M_refusal 55 = .ok (.bipush (-2), 2) := by decide +kernel
theorem d_M_refusal_57 : decode b_M_refusal 57 = .ok (.ireturn, 1) := by decide +kernel
theorem d_M_refusal_58 : decode b_M_refusal 58 = .ok (.aload_n 0, 1) := by decide +kernel
theorem d_M_refusal_59 : decode b_M_refusal 59 = .ok (.getfield 51, 3) := by decide +kernel
theorem d_M_refusal_62 : decode b_M_refusal 62 = .ok (.iload_n 1, 1) := by decide +kernel
theorem d_M_refusal_63 : decode b_M_refusal 63 = .ok (.iaload, 1) := by decide +kernel
theorem d_M_refusal_64 : decode b_M_refusal 64 = .ok (.iconst (-1), 1) := by decide +kernel
theorem d_M_refusal_65 : decode b_M_refusal 65 = .ok (.if_icmp .ne 5, 3) := by decide +kernel
theorem d_M_refusal_68 : decode b_M_refusal 68 = .ok (.iconst 0, 1) := by decide +kernel
theorem d_M_refusal_69 : decode b_M_refusal 69 = .ok (.ireturn, 1) := by decide +kernel
theorem d_M_refusal_70 : decode b_M_refusal 70 = .ok (.aload_n 0, 1) := by decide +kernel
theorem d_M_refusal_71 : decode b_M_refusal 71 = .ok (.getfield 38, 3) := by decide +kernel
theorem d_M_refusal_74 : decode b_M_refusal 74 = .ok (.aload_n 0, 1) := by decide +kernel
theorem d_M_refusal_75 : decode b_M_refusal 75 = .ok (.getfield 51, 3) := by decide +kernel
theorem d_M_refusal_78 : decode b_M_refusal 78 = .ok (.iload_n 1, 1) := by decide +kernel
theorem d_M_refusal_79 : decode b_M_refusal 79 = .ok (.iaload, 1) := by decide +kernel
theorem d_M_refusal_80 : decode b_M_refusal 80 = .ok (.iaload, 1) := by decide +kernel
theorem d_M_refusal_81 : decode b_M_refusal 81 = .ok (.ifCond .ne 6, 3) := by decide +kernel
theorem d_M_refusal_84 : decode b_M_refusal 84 = .ok (.bipush (-3), 2) := by decide +kernel
theorem d_M_refusal_86 : decode b_M_refusal 86 = .ok (.ireturn, 1) := by decide +kernel
theorem d_M_refusal_87 : decode b_M_refusal 87 = .ok (.aload_n 0, 1) := by decide +kernel
theorem d_M_refusal_88 : decode b_M_refusal 88 = .ok (.getfield 16, 3) := by decide +kernel
theorem d_M_refusal_91 : decode b_M_refusal 91 = .ok (.iload_n 2, 1) := by decide +kernel
theorem d_M_refusal_92 : decode b_M_refusal 92 = .ok (.iaload, 1) := by decide +kernel
theorem d_M_refusal_93 : decode b_M_refusal 93 = .ok (.istore 5, 2) := by decide +kernel
theorem d_M_refusal_95 : decode b_M_refusal 95 = .ok (.aload_n 0, 1) := by decide +kernel
theorem d_M_refusal_96 : decode b_M_refusal 96 = .ok (.getfield 19, 3) := by decide +kernel
theorem d_M_refusal_99 : decode b_M_refusal 99 = .ok (.iload 5, 2) := by decide +kernel
theorem d_M_refusal_101 : decode b_M_refusal 101 = .ok (.iaload, 1) := by decide +kernel
theorem d_M_refusal_102 : decode b_M_refusal 102 = .ok (.ifCond .le 20, 3) := by decide +kernel
theorem d_M_refusal_105 : decode b_M_refusal 105 = .ok (.aload_n 0, 1) := by decide +kernel
theorem d_M_refusal_106 : decode b_M_refusal 106 = .ok (.getfield 25, 3) := by decide +kernel
theorem d_M_refusal_109 : decode b_M_refusal 109 = .ok (.iload 5, 2) := by decide +kernel
theorem d_M_refusal_111 : decode b_M_refusal 111 = .ok (.iaload, 1) := by decide +kernel
theorem d_M_refusal_112 : decode b_M_refusal 112 = .ok (.bipush 6, 2) := by decide +kernel
theorem d_M_refusal_114 : decode b_M_refusal 114 = .ok (.if_icmp .ne 8, 3) := by decide +kernel
theorem d_M_refusal_117 : decode b_M_refusal 117 = .ok (.bipush (-4), 2) := by decide +kernel
theorem d_M_refusal_119 : decode b_M_refusal 119 = .ok (.goto 4, 3) := by decide +kernel
theorem d_M_refusal_122 : decode b_M_refusal 122 = .ok (.iconst 0, 1) := by decide +kernel
theorem d_M_refusal_123 : decode b_M_refusal 123 = .ok (.ireturn, 1) := by decide +kernel
theorem d_M_call_0 : decode b_M_call 0 = .ok (.aload_n 0, 1) := by decide +kernel
theorem d_M_call_1 : decode b_M_call 1 = .ok (.iconst 0, 1) := by decide +kernel
theorem d_M_call_2 : decode b_M_call 2 = .ok (.putfield 90, 3) := by decide +kernel
theorem d_M_call_5 : decode b_M_call 5 = .ok (.aload_n 0, 1) := by decide +kernel
theorem d_M_call_6 : decode b_M_call 6 = .ok (.iload_n 1, 1) := by decide +kernel
theorem d_M_call_7 : decode b_M_call 7 = .ok (.iload_n 2, 1) := by decide +kernel
theorem d_M_call_8 : decode b_M_call 8 = .ok (.lload_n 3, 1) := by decide +kernel
theorem d_M_call_9 : decode b_M_call 9 = .ok (.invokevirtual 120, 3) := by decide +kernel
theorem d_M_call_12 : decode b_M_call 12 = .ok (.istore 5, 2) := by decide +kernel
theorem d_M_call_14 : decode b_M_call 14 = .ok (.iload 5, 2) := by decide +kernel
theorem d_M_call_16 : decode b_M_call 16 = .ok (.ifCond .eq 17, 3) := by decide +kernel
theorem d_M_call_19 : decode b_M_call 19 = .ok (.aload_n 0, 1) := by decide +kernel
theorem d_M_call_20 : decode b_M_call 20 = .ok (.iconst 4, 1) := by decide +kernel
theorem d_M_call_21 : decode b_M_call 21 = .ok (.iload_n 2, 1) := by decide +kernel
theorem d_M_call_22 : decode b_M_call 22 = .ok (.iload_n 1, 1) := by decide +kernel
theorem d_M_call_23 : decode b_M_call 23 = .ok (.iload 5, 2) := by decide +kernel
theorem d_M_call_25 : decode b_M_call 25 = .ok (.i2l, 1) := by decide +kernel
theorem d_M_call_26 : decode b_M_call 26 = .ok (.invokevirtual 124, 3) := by decide +kernel
theorem d_M_call_29 : decode b_M_call 29 = .ok (.iload 5, 2) := by decide +kernel
theorem d_M_call_31 : decode b_M_call 31 = .ok (.i2l, 1) := by decide +kernel
theorem d_M_call_32 : decode b_M_call 32 = .ok (.lreturn, 1) := by decide +kernel
theorem d_M_call_33 : decode b_M_call 33 = .ok (.aload_n 0, 1) := by decide +kernel
theorem d_M_call_34 : decode b_M_call 34 = .ok (.getfield 51, 3) := by decide +kernel
theorem d_M_call_37 : decode b_M_call 37 = .ok (.iload_n 1, 1) := by decide +kernel
theorem d_M_call_38 : decode b_M_call 38 = .ok (.iaload, 1) := by decide +kernel
theorem d_M_call_39 : decode b_M_call 39 = .ok (.iconst (-1), 1) := by decide +kernel
theorem d_M_call_40 : decode b_M_call 40 = .ok (.if_icmp .eq 7, 3) := by decide +kernel
theorem d_M_call_43 : decode b_M_call 43 = .ok (.iconst 1, 1) := by decide +kernel
theorem d_M_call_44 : decode b_M_call 44 = .ok (.goto 4, 3) := by decide +kernel
theorem d_M_call_47 : decode b_M_call 47 = .ok (.iconst 0, 1) := by decide +kernel
theorem d_M_call_48 : decode b_M_call 48 = .ok (.istore 6, 2) := by decide +kernel
theorem d_M_call_50 : decode b_M_call 50 = .ok (.iload 6, 2) := by decide +kernel
theorem d_M_call_52 : decode b_M_call 52 = .ok (.ifCond .eq 18, 3) := by decide +kernel
theorem d_M_call_55 : decode b_M_call 55 = .ok (.lload_n 3, 1) := by decide +kernel
theorem d_M_call_56 : decode b_M_call 56 = .ok (.aload_n 0, 1) := by decide +kernel
theorem d_M_call_57 : decode b_M_call 57 = .ok (.aload_n 0, 1) := by decide +kernel
theorem d_M_call_58 : decode b_M_call 58 = .ok (.getfield 51, 3) := by decide +kernel
theorem d_M_call_61 : decode b_M_call 61 = .ok (.iload_n 1, 1) := by decide +kernel
theorem d_M_call_62 : decode b_M_call 62 = .ok (.iaload, 1) := by decide +kernel
theorem d_M_call_63 : decode b_M_call 63 = .ok (.invokevirtual 128, 3) := by decide +kernel
theorem d_M_call_66 : decode b_M_call 66 = .ok (.ladd, 1) := by decide +kernel
theorem d_M_call_67 : decode b_M_call 67 = .ok (.goto 4, 3) := by decide +kernel
theorem d_M_call_70 : decode b_M_call 70 = .ok (.lload_n 3, 1) := by decide +kernel
theorem d_M_call_71 : decode b_M_call 71 = .ok (.lstore 7, 2) := by decide +kernel
theorem d_M_call_73 : decode b_M_call 73 = .ok (.aload_n 0, 1) := by decide +kernel
theorem d_M_call_74 : decode b_M_call 74 = .ok (.getfield 16, 3) := by decide +kernel
theorem d_M_call_77 : decode b_M_call 77 = .ok (.iload_n 2, 1) := by decide +kernel
theorem d_M_call_78 : decode b_M_call 78 = .ok (.iaload, 1) := by decide +kernel
theorem d_M_call_79 : decode b_M_call 79 = .ok (.istore 9, 2) := by decide +kernel
theorem d_M_call_81 : decode b_M_call 81 = .ok (.iload 6, 2) := by decide +kernel
theorem d_M_call_83 : decode b_M_call 83 = .ok (.ifCond .eq 90, 3) := by decide +kernel
theorem d_M_call_86 : decode b_M_call 86 = .ok (.aload_n 0, 1) := by decide +kernel
theorem d_M_call_87 : decode b_M_call 87 = .ok (.getfield 19, 3) := by decide +kernel
theorem d_M_call_90 : decode b_M_call 90 = .ok (.iload 9, 2) := by decide +kernel
theorem d_M_call_92 : decode b_M_call 92 = .ok (.iaload, 1) := by decide +kernel
theorem d_M_call_93 : decode b_M_call 93 = .ok (.ifCond .le 80, 3) := by decide +kernel
theorem d_M_call_96 : decode b_M_call 96 = .ok (.aload_n 0, 1) := by decide +kernel
theorem d_M_call_97 : decode b_M_call 97 = .ok (.getfield 38, 3) := by decide +kernel
theorem d_M_call_100 : decode b_M_call 100 = .ok (.aload_n 0, 1) := by decide +kernel
theorem d_M_call_101 : decode b_M_call 101 = .ok (.getfield 51, 3) := by decide +kernel
theorem d_M_call_104 : decode b_M_call 104 = .ok (.iload_n 1, 1) := by decide +kernel
theorem d_M_call_105 : decode b_M_call 105 = .ok (.iaload, 1) := by decide +kernel
theorem d_M_call_106 : decode b_M_call 106 = .ok (.iconst 0, 1) := by decide +kernel
theorem d_M_call_107 : decode b_M_call 107 = .ok (.iastore, 1) := by decide +kernel
theorem d_M_call_108 : decode b_M_call 108 = .ok (.bipush 6, 2) := by decide +kernel
theorem d_M_call_110 : decode b_M_call 110 = .ok (.iload 9, 2) := by decide +kernel
theorem d_M_call_112 : decode b_M_call 112 = .ok (.imul, 1) := by decide +kernel
theorem d_M_call_113 : decode b_M_call 113 = .ok (.aload_n 0, 1) := by decide +kernel
theorem d_M_call_114 : decode b_M_call 114 = .ok (.getfield 25, 3) := by decide +kernel
theorem d_M_call_117 : decode b_M_call 117 = .ok (.iload 9, 2) := by decide +kernel
theorem d_M_call_119 : decode b_M_call 119 = .ok (.iaload, 1) := by decide +kernel
theorem d_M_call_120 : decode b_M_call 120 = .ok (.iadd, 1) := by decide +kernel
theorem d_M_call_121 : decode b_M_call 121 = .ok (.istore 10, 2) := by decide +kernel
theorem d_M_call_123 : decode b_M_call 123 = .ok (.aload_n 0, 1) := by decide +kernel
theorem d_M_call_124 : decode b_M_call 124 = .ok (.getfield 28, 3) := by decide +kernel
theorem d_M_call_127 : decode b_M_call 127 = .ok (.iload 10, 2) := by decide +kernel
theorem d_M_call_129 : decode b_M_call 129 = .ok (.iload_n 1, 1) := by decide +kernel
theorem d_M_call_130 : decode b_M_call 130 = .ok (.iastore, 1) := by decide +kernel
theorem d_M_call_131 : decode b_M_call 131 = .ok (.aload_n 0, 1) := by decide +kernel
theorem d_M_call_132 : decode b_M_call 132 = .ok (.getfield 31, 3) := by decide +kernel
theorem d_M_call_135 : decode b_M_call 135 = .ok (.iload 10, 2) := by decide +kernel
theorem d_M_call_137 : decode b_M_call 137 = .ok (.iload_n 2, 1) := by decide +kernel
theorem d_M_call_138 : decode b_M_call 138 = .ok (.iastore, 1) := by decide +kernel
theorem d_M_call_139 : decode b_M_call 139 = .ok (.aload_n 0, 1) := by decide +kernel
theorem d_M_call_140 : decode b_M_call 140 = .ok (.getfield 34, 3) := by decide +kernel
theorem d_M_call_143 : decode b_M_call 143 = .ok (.iload 10, 2) := by decide +kernel
theorem d_M_call_145 : decode b_M_call 145 = .ok (.lload 7, 2) := by decide +kernel
theorem d_M_call_147 : decode b_M_call 147 = .ok (.lastore, 1) := by decide +kernel
theorem d_M_call_148 : decode b_M_call 148 = .ok (.aload_n 0, 1) := by decide +kernel
theorem d_M_call_149 : decode b_M_call 149 = .ok (.getfield 25, 3) := by decide +kernel
theorem d_M_call_152 : decode b_M_call 152 = .ok (.iload 9, 2) := by decide +kernel
theorem d_M_call_154 : decode b_M_call 154 = .ok (.dup2, 1) := by decide +kernel
theorem d_M_call_155 : decode b_M_call 155 = .ok (.iaload, 1) := by decide +kernel
theorem d_M_call_156 : decode b_M_call 156 = .ok (.iconst 1, 1) := by decide +kernel
theorem d_M_call_157 : decode b_M_call 157 = .ok (.iadd, 1) := by decide +kernel
theorem d_M_call_158 : decode b_M_call 158 = .ok (.iastore, 1) := by decide +kernel
theorem d_M_call_159 : decode b_M_call 159 = .ok (.aload_n 0, 1) := by decide +kernel
theorem d_M_call_160 : decode b_M_call 160 = .ok (.iconst 5, 1) := by decide +kernel
theorem d_M_call_161 : decode b_M_call 161 = .ok (.iload_n 2, 1) := by decide +kernel
theorem d_M_call_162 : decode b_M_call 162 = .ok (.iload_n 1, 1) := by decide +kernel
theorem d_M_call_163 : decode b_M_call 163 = .ok (.ldc2_w 132, 3) := by decide +kernel
theorem d_M_call_166 : decode b_M_call 166 = .ok (.invokevirtual 124, 3) := by decide +kernel
theorem d_M_call_169 : decode b_M_call 169 = .ok (.ldc2_w 132, 3) := by decide +kernel
theorem d_M_call_172 : decode b_M_call 172 = .ok (.lreturn, 1) := by decide +kernel
theorem d_M_call_173 : decode b_M_call 173 = .ok (.aload_n 0, 1) := by decide +kernel
theorem d_M_call_174 : decode b_M_call 174 = .ok (.iload_n 1, 1) := by decide +kernel
theorem d_M_call_175 : decode b_M_call 175 = .ok (.lload 7, 2) := by decide +kernel
theorem d_M_call_177 : decode b_M_call 177 = .ok (.invokevirtual 134, 3) := by decide +kernel
theorem d_M_call_180 : decode b_M_call 180 = .ok (.aload_n 0, 1) := by decide +kernel
theorem d_M_call_181 : decode b_M_call 181 = .ok (.getfield 113, 3) := by decide +kernel
theorem d_M_call_184 : decode b_M_call 184 = .ok (.ifCond .le 15, 3) := by decide +kernel
theorem d_M_call_187 : decode b_M_call 187 = .ok (.ldc2_w 138, 3) := by decide +kernel
theorem d_M_call_190 : decode b_M_call 190 = .ok (.aload_n 0, 1) := by decide +kernel
theorem d_M_call_191 : decode b_M_call 191 = .ok (.getfield 113, 3) := by decide +kernel
theorem d_M_call_194 : decode b_M_call 194 = .ok (.i2l, 1) := by decide +kernel
theorem d_M_call_195 : decode b_M_call 195 = .ok (.lsub, 1) := by decide +kernel
theorem d_M_call_196 : decode b_M_call 196 = .ok (.goto 7, 3) := by decide +kernel
theorem d_M_call_199 : decode b_M_call 199 = .ok (.aload_n 0, 1) := by decide +kernel
theorem d_M_call_200 : decode b_M_call 200 = .ok (.getfield 116, 3) := by decide +kernel
theorem d_M_call_203 : decode b_M_call 203 = .ok (.lstore 10, 2) := by decide +kernel
theorem d_M_call_205 : decode b_M_call 205 = .ok (.iload 6, 2) := by decide +kernel
theorem d_M_call_207 : decode b_M_call 207 = .ok (.ifCond .eq 22, 3) := by decide +kernel
theorem d_M_call_210 : decode b_M_call 210 = .ok (.aload_n 0, 1) := by decide +kernel
theorem d_M_call_211 : decode b_M_call 211 = .ok (.getfield 113, 3) := by decide +kernel
theorem d_M_call_214 : decode b_M_call 214 = .ok (.ifCond .ne 15, 3) := by decide +kernel
theorem d_M_call_217 : decode b_M_call 217 = .ok (.aload_n 0, 1) := by decide +kernel
theorem d_M_call_218 : decode b_M_call 218 = .ok (.getfield 38, 3) := by decide +kernel
theorem d_M_call_221 : decode b_M_call 221 = .ok (.aload_n 0, 1) := by decide +kernel
theorem d_M_call_222 : decode b_M_call 222 = .ok (.getfield 51, 3) := by decide +kernel
theorem d_M_call_225 : decode b_M_call 225 = .ok (.iload_n 1, 1) := by decide +kernel
theorem d_M_call_226 : decode b_M_call 226 = .ok (.iaload, 1) := by decide +kernel
theorem d_M_call_227 : decode b_M_call 227 = .ok (.iconst 0, 1) := by decide +kernel
theorem d_M_call_228 : decode b_M_call 228 = .ok (.iastore, 1) := by decide +kernel
theorem d_M_call_229 : decode b_M_call 229 = .ok (.aload_n 0, 1) := by decide +kernel
theorem d_M_call_230 : decode b_M_call 230 = .ok (.aload_n 0, 1) := by decide +kernel
theorem d_M_call_231 : decode b_M_call 231 = .ok (.getfield 113, 3) := by decide +kernel
theorem d_M_call_234 : decode b_M_call 234 = .ok (.iload_n 2, 1) := by decide +kernel
theorem d_M_call_235 : decode b_M_call 235 = .ok (.iload_n 1, 1) := by decide +kernel
theorem d_M_call_236 : decode b_M_call 236 = .ok (.lload 10, 2) := by decide +kernel
theorem d_M_call_238 : decode b_M_call 238 = .ok (.invokevirtual 124, 3) := by decide +kernel
theorem d_M_call_241 : decode b_M_call 241 = .ok (.lload 10, 2) := by decide +kernel
theorem d_M_call_243 : decode b_M_call 243 = .ok (.lreturn, 1) := by decide +kernel
theorem d_M_build_0 : decode b_M_build 0 = .ok (.aload_n 0, 1) := by decide +kernel
theorem d_M_build_1 : decode b_M_build 1 = .ok (.iconst 0, 1) := by decide +kernel
theorem d_M_build_2 : decode b_M_build 2 = .ok (.putfield 90, 3) := by decide +kernel
theorem d_M_build_5 : decode b_M_build 5 = .ok (.aload_n 0, 1) := by decide +kernel
theorem d_M_build_6 : decode b_M_build 6 = .ok (.iload_n 1, 1) := by decide +kernel
theorem d_M_build_7 : decode b_M_build 7 = .ok (.invokevirtual 140, 3) := by decide +kernel
theorem d_M_build_10 : decode b_M_build 10 = .ok (.ifCond .eq 23, 3) := by decide +kernel
theorem d_M_build_13 : decode b_M_build 13 = .ok (.aload_n 0, 1) := by decide +kernel
theorem d_M_build_14 : decode b_M_build 14 = .ok (.getfield 19, 3) := by decide +kernel
theorem d_M_build_17 : decode b_M_build 17 = .ok (.iload_n 1, 1) := by decide +kernel
theorem d_M_build_18 : decode b_M_build 18 = .ok (.iaload, 1) := by decide +kernel
theorem d_M_build_19 : decode b_M_build 19 = .ok (.ifCond .gt 14, 3) := by decide +kernel
theorem d_M_build_22 : decode b_M_build 22 = .ok (.iload_n 2, 1) := by decide +kernel
theorem d_M_build_23 : decode b_M_build 23 = .ok (.iconst 1, 1) := by decide +kernel
theorem d_M_build_24 : decode b_M_build 24 = .ok (.if_icmp .lt 9, 3) := by decide +kernel
theorem d_M_build_27 : decode b_M_build 27 = .ok (.iload_n 2, 1) := by decide +kernel
theorem d_M_build_28 : decode b_M_build 28 = .ok (.bipush 9, 2) := by decide +kernel
theorem d_M_build_30 : decode b_M_build 30 = .ok (.if_icmp .le 5, 3) := by decide +kernel
theorem d_M_build_33 : decode b_M_build 33 = .ok (.iconst 0, 1) := by decide +kernel
theorem d_M_build_34 : decode b_M_build 34 = .ok (.ireturn, 1) := by decide +kernel
theorem d_M_build_35 : decode b_M_build 35 = .ok (.aload_n 0, 1) := by decide +kernel
theorem d_M_build_36 : decode b_M_build 36 = .ok (.getfield 19, 3) := by decide +kernel
theorem d_M_build_39 : decode b_M_build 39 = .ok (.iload_n 1, 1) := by decide +kernel
theorem d_M_build_40 : decode b_M_build 40 = .ok (.iload_n 2, 1) := by decide +kernel
theorem d_M_build_41 : decode b_M_build 41 = .ok (.iastore, 1) := by decide +kernel
theorem d_M_build_42 : decode b_M_build 42 = .ok (.aload_n 0, 1) := by decide +kernel
theorem d_M_build_43 : decode b_M_build 43 = .ok (.getfield 22, 3) := by decide +kernel
theorem d_M_build_46 : decode b_M_build 46 = .ok (.iload_n 1, 1) := by decide +kernel
theorem d_M_build_47 : decode b_M_build 47 = .ok (.iconst 0, 1) := by decide +kernel
theorem d_M_build_48 : decode b_M_build 48 = .ok (.iastore, 1) := by decide +kernel
theorem d_M_build_49 : decode b_M_build 49 = .ok (.iconst 1, 1) := by decide +kernel
theorem d_M_build_50 : decode b_M_build 50 = .ok (.ireturn, 1) := by decide +kernel
theorem d_M_leastFor_0 : decode b_M_leastFor 0 = .ok (.iconst 0, 1) := by decide +kernel
theorem d_M_leastFor_1 : decode b_M_leastFor 1 = .ok (.istore_n 2, 1) := by decide +kernel
theorem d_M_leastFor_2 : decode b_M_leastFor 2 = .ok (.iload_n 2, 1) := by decide +kernel
theorem d_M_leastFor_3 : decode b_M_leastFor 3 = .ok (.bipush 12, 2) := by decide +kernel
theorem d_M_leastFor_5 : decode b_M_leastFor 5 = .ok (.if_icmp .ge 28, 3) := by decide +kernel
theorem d_M_leastFor_8 : decode b_M_leastFor 8 = .ok (.aload_n 0, 1) := by decide +kernel
theorem d_M_leastFor_9 : decode b_M_leastFor 9 = .ok (.getfield 44, 3) := by decide +kernel
theorem d_M_leastFor_12 : decode b_M_leastFor 12 = .ok (.iload_n 2, 1) := by decide +kernel
theorem d_M_leastFor_13 : decode b_M_leastFor 13 = .ok (.baload, 1) := by decide +kernel
theorem d_M_leastFor_14 : decode b_M_leastFor 14 = .ok (.ifCond .eq 13, 3) := by decide +kernel
theorem d_M_leastFor_17 : decode b_M_leastFor 17 = .ok (.aload_n 0, 1) := by decide +kernel
theorem d_M_leastFor_18 : decode b_M_leastFor 18 = .ok (.getfield 48, 3) := by decide +kernel
theorem d_M_leastFor_21 : decode b_M_leastFor 21 = .ok (.iload_n 2, 1) := by decide +kernel
theorem d_M_leastFor_22 : decode b_M_leastFor 22 = .ok (.iaload, 1) := by decide +kernel
theorem d_M_leastFor_23 : decode b_M_leastFor 23 = .ok (.iload_n 1, 1) := by decide +kernel
theorem d_M_leastFor_24 : decode b_M_leastFor 24 = .ok (.if_icmp .eq 9, 3) := by decide +kernel
theorem d_M_leastFor_27 : decode b_M_leastFor 27 = .ok (.iinc 2 1, 3) := by decide +kernel
theorem d_M_leastFor_30 : decode b_M_leastFor 30 = .ok (.goto (-28), 3) := by decide +kernel
theorem d_M_leastFor_33 : decode b_M_leastFor 33 = .ok (.iload_n 2, 1) := by decide +kernel
theorem d_M_leastFor_34 : decode b_M_leastFor 34 = .ok (.bipush 12, 2) := by decide +kernel
theorem d_M_leastFor_36 : decode b_M_leastFor 36 = .ok (.if_icmp .ne 7, 3) := by decide +kernel
theorem d_M_leastFor_39 : decode b_M_leastFor 39 = .ok (.iconst (-1), 1) := by decide +kernel
theorem d_M_leastFor_40 : decode b_M_leastFor 40 = .ok (.goto 4, 3) := by decide +kernel
theorem d_M_leastFor_43 : decode b_M_leastFor 43 = .ok (.iload_n 2, 1) := by decide +kernel
theorem d_M_leastFor_44 : decode b_M_leastFor 44 = .ok (.ireturn, 1) := by decide +kernel
theorem d_M_turn_0 : decode b_M_turn 0 = .ok (.aload_n 0, 1) := by decide +kernel
theorem d_M_turn_1 : decode b_M_turn 1 = .ok (.iconst 0, 1) := by decide +kernel
theorem d_M_turn_2 : decode b_M_turn 2 = .ok (.putfield 90, 3) := by decide +kernel
theorem d_M_turn_5 : decode b_M_turn 5 = .ok (.aload_n 0, 1) := by decide +kernel
theorem d_M_turn_6 : decode b_M_turn 6 = .ok (.iload_n 1, 1) := by decide +kernel
theorem d_M_turn_7 : decode b_M_turn 7 = .ok (.invokevirtual 140, 3) := by decide +kernel
theorem d_M_turn_10 : decode b_M_turn 10 = .ok (.ifCond .eq 12, 3) := by decide +kernel
theorem d_M_turn_13 : decode b_M_turn 13 = .ok (.aload_n 0, 1) := by decide +kernel
theorem d_M_turn_14 : decode b_M_turn 14 = .ok (.getfield 19, 3) := by decide +kernel
theorem d_M_turn_17 : decode b_M_turn 17 = .ok (.iload_n 1, 1) := by decide +kernel
theorem d_M_turn_18 : decode b_M_turn 18 = .ok (.iaload, 1) := by decide +kernel
theorem d_M_turn_19 : decode b_M_turn 19 = .ok (.ifCond .ne 5, 3) := by decide +kernel
theorem d_M_turn_22 : decode b_M_turn 22 = .ok (.iconst (-1), 1) := by decide +kernel
theorem d_M_turn_23 : decode b_M_turn 23 = .ok (.ireturn, 1) := by decide +kernel
theorem d_M_turn_24 : decode b_M_turn 24 = .ok (.aload_n 0, 1) := by decide +kernel
theorem d_M_turn_25 : decode b_M_turn 25 = .ok (.getfield 22, 3) := by decide +kernel
theorem d_M_turn_28 : decode b_M_turn 28 = .ok (.iload_n 1, 1) := by decide +kernel
theorem d_M_turn_29 : decode b_M_turn 29 = .ok (.dup2, 1) := by decide +kernel
theorem d_M_turn_30 : decode b_M_turn 30 = .ok (.iaload, 1) := by decide +kernel
theorem d_M_turn_31 : decode b_M_turn 31 = .ok (.iconst 1, 1) := by decide +kernel
theorem d_M_turn_32 : decode b_M_turn 32 = .ok (.iadd, 1) := by decide +kernel
theorem d_M_turn_33 : decode b_M_turn 33 = .ok (.iastore, 1) := by decide +kernel
theorem d_M_turn_34 : decode b_M_turn 34 = .ok (.iconst 0, 1) := by decide +kernel
theorem d_M_turn_35 : decode b_M_turn 35 = .ok (.istore_n 2, 1) := by decide +kernel
theorem d_M_turn_36 : decode b_M_turn 36 = .ok (.iconst 0, 1) := by decide +kernel
theorem d_M_turn_37 : decode b_M_turn 37 = .ok (.istore_n 3, 1) := by decide +kernel
theorem d_M_turn_38 : decode b_M_turn 38 = .ok (.iload_n 3, 1) := by decide +kernel
theorem d_M_turn_39 : decode b_M_turn 39 = .ok (.aload_n 0, 1) := by decide +kernel
theorem d_M_turn_40 : decode b_M_turn 40 = .ok (.getfield 94, 3) := by decide +kernel
theorem d_M_turn_43 : decode b_M_turn 43 = .ok (.if_icmp .ge 106, 3) := by decide +kernel
theorem d_M_turn_46 : decode b_M_turn 46 = .ok (.aload_n 0, 1) := by decide +kernel
theorem d_M_turn_47 : decode b_M_turn 47 = .ok (.getfield 7, 3) := by decide +kernel
theorem d_M_turn_50 : decode b_M_turn 50 = .ok (.iload_n 3, 1) := by decide +kernel
theorem d_M_turn_51 : decode b_M_turn 51 = .ok (.iaload, 1) := by decide +kernel
theorem d_M_turn_52 : decode b_M_turn 52 = .ok (.iconst 4, 1) := by decide +kernel
theorem d_M_turn_53 : decode b_M_turn 53 = .ok (.if_icmp .eq 13, 3) := by decide +kernel
theorem d_M_turn_56 : decode b_M_turn 56 = .ok (.aload_n 0, 1) := by decide +kernel
theorem d_M_turn_57 : decode b_M_turn 57 = .ok (.getfield 7, 3) := by decide +kernel
theorem d_M_turn_60 : decode b_M_turn 60 = .ok (.iload_n 3, 1) := by decide +kernel
theorem d_M_turn_61 : decode b_M_turn 61 = .ok (.iaload, 1) := by decide +kernel
theorem d_M_turn_62 : decode b_M_turn 62 = .ok (.iconst 5, 1) := by decide +kernel
theorem d_M_turn_63 : decode b_M_turn 63 = .ok (.if_icmp .ne 80, 3) := by decide +kernel
theorem d_M_turn_66 : decode b_M_turn 66 = .ok (.aload_n 0, 1) := by decide +kernel
theorem d_M_turn_67 : decode b_M_turn 67 = .ok (.getfield 16, 3) := by decide +kernel
theorem d_M_turn_70 : decode b_M_turn 70 = .ok (.iload_n 3, 1) := by decide +kernel
theorem d_M_turn_71 : decode b_M_turn 71 = .ok (.iaload, 1) := by decide +kernel
theorem d_M_turn_72 : decode b_M_turn 72 = .ok (.iload_n 1, 1) := by decide +kernel
theorem d_M_turn_73 : decode b_M_turn 73 = .ok (.if_icmp .eq 6, 3) := by decide +kernel
theorem d_M_turn_76 : decode b_M_turn 76 = .ok (.goto 67, 3) := by decide +kernel
theorem d_M_turn_79 : decode b_M_turn 79 = .ok (.aload_n 0, 1) := by decide +kernel
theorem d_M_turn_80 : decode b_M_turn 80 = .ok (.aload_n 0, 1) := by decide +kernel
theorem d_M_turn_81 : decode b_M_turn 81 = .ok (.getfield 7, 3) := by decide +kernel
theorem d_M_turn_84 : decode b_M_turn 84 = .ok (.iload_n 3, 1) := by decide +kernel
theorem d_M_turn_85 : decode b_M_turn 85 = .ok (.iaload, 1) := by decide +kernel
theorem d_M_turn_86 : decode b_M_turn 86 = .ok (.invokevirtual 143, 3) := by decide +kernel
theorem d_M_turn_89 : decode b_M_turn 89 = .ok (.istore 4, 2) := by decide +kernel
theorem d_M_turn_91 : decode b_M_turn 91 = .ok (.iload 4, 2) := by decide +kernel
theorem d_M_turn_93 : decode b_M_turn 93 = .ok (.iconst (-1), 1) := by decide +kernel
theorem d_M_turn_94 : decode b_M_turn 94 = .ok (.if_icmp .ne 6, 3) := by decide +kernel
theorem d_M_turn_97 : decode b_M_turn 97 = .ok (.goto 46, 3) := by decide +kernel
theorem d_M_turn_100 : decode b_M_turn 100 = .ok (.aload_n 0, 1) := by decide +kernel
theorem d_M_turn_101 : decode b_M_turn 101 = .ok (.iload 4, 2) := by decide +kernel
theorem d_M_turn_103 : decode b_M_turn 103 = .ok (.aload_n 0, 1) := by decide +kernel
theorem d_M_turn_104 : decode b_M_turn 104 = .ok (.getfield 22, 3) := by decide +kernel
theorem d_M_turn_107 : decode b_M_turn 107 = .ok (.iload_n 1, 1) := by decide +kernel
theorem d_M_turn_108 : decode b_M_turn 108 = .ok (.iaload, 1) := by decide +kernel
theorem d_M_turn_109 : decode b_M_turn 109 = .ok (.i2l, 1) := by decide +kernel
theorem d_M_turn_110 : decode b_M_turn 110 = .ok (.invokevirtual 134, 3) := by decide +kernel
theorem d_M_turn_113 : decode b_M_turn 113 = .ok (.iload_n 2, 1) := by decide +kernel
theorem d_M_turn_114 : decode b_M_turn 114 = .ok (.aload_n 0, 1) := by decide +kernel
theorem d_M_turn_115 : decode b_M_turn 115 = .ok (.getfield 113, 3) := by decide +kernel
theorem d_M_turn_118 : decode b_M_turn 118 = .ok (.ifCond .ne 7, 3) := by decide +kernel
theorem d_M_turn_121 : decode b_M_turn 121 = .ok (.iconst 1, 1) := by decide +kernel
theorem d_M_turn_122 : decode b_M_turn 122 = .ok (.goto 4, 3) := by decide +kernel
theorem d_M_turn_125 : decode b_M_turn 125 = .ok (.iconst 0, 1) := by decide +kernel
theorem d_M_turn_126 : decode b_M_turn 126 = .ok (.iadd, 1) := by decide +kernel
theorem d_M_turn_127 : decode b_M_turn 127 = .ok (.istore_n 2, 1) := by decide +kernel
theorem d_M_turn_128 : decode b_M_turn 128 = .ok (.aload_n 0, 1) := by decide +kernel
theorem d_M_turn_129 : decode b_M_turn 129 = .ok (.aload_n 0, 1) := by decide +kernel
theorem d_M_turn_130 : decode b_M_turn 130 = .ok (.getfield 113, 3) := by decide +kernel
theorem d_M_turn_133 : decode b_M_turn 133 = .ok (.iload_n 3, 1) := by decide +kernel
theorem d_M_turn_134 : decode b_M_turn 134 = .ok (.iload 4, 2) := by decide +kernel
theorem d_M_turn_136 : decode b_M_turn 136 = .ok (.aload_n 0, 1) := by decide +kernel
theorem d_M_turn_137 : decode b_M_turn 137 = .ok (.getfield 116, 3) := by decide +kernel
theorem d_M_turn_140 : decode b_M_turn 140 = .ok (.invokevirtual 124, 3) := by decide +kernel
theorem d_M_turn_143 : decode b_M_turn 143 = .ok (.iinc 3 1, 3) := by decide +kernel
theorem d_M_turn_146 : decode b_M_turn 146 = .ok (.goto (-108), 3) := by decide +kernel
theorem d_M_turn_149 : decode b_M_turn 149 = .ok (.aload_n 0, 1) := by decide +kernel
theorem d_M_turn_150 : decode b_M_turn 150 = .ok (.getfield 19, 3) := by decide +kernel
theorem d_M_turn_153 : decode b_M_turn 153 = .ok (.iload_n 1, 1) := by decide +kernel
theorem d_M_turn_154 : decode b_M_turn 154 = .ok (.dup2, 1) := by decide +kernel
theorem d_M_turn_155 : decode b_M_turn 155 = .ok (.iaload, 1) := by decide +kernel
theorem d_M_turn_156 : decode b_M_turn 156 = .ok (.iconst 1, 1) := by decide +kernel
theorem d_M_turn_157 : decode b_M_turn 157 = .ok (.isub, 1) := by decide +kernel
theorem d_M_turn_158 : decode b_M_turn 158 = .ok (.iastore, 1) := by decide +kernel
theorem d_M_turn_159 : decode b_M_turn 159 = .ok (.aload_n 0, 1) := by decide +kernel
theorem d_M_turn_160 : decode b_M_turn 160 = .ok (.getfield 19, 3) := by decide +kernel
theorem d_M_turn_163 : decode b_M_turn 163 = .ok (.iload_n 1, 1) := by decide +kernel
theorem d_M_turn_164 : decode b_M_turn 164 = .ok (.iaload, 1) := by decide +kernel
theorem d_M_turn_165 : decode b_M_turn 165 = .ok (.ifCond .le 5, 3) := by decide +kernel
theorem d_M_turn_168 : decode b_M_turn 168 = .ok (.iload_n 2, 1) := by decide +kernel
theorem d_M_turn_169 : decode b_M_turn 169 = .ok (.ireturn, 1) := by decide +kernel
theorem d_M_turn_170 : decode b_M_turn 170 = .ok (.bipush 6, 2) := by decide +kernel
theorem d_M_turn_172 : decode b_M_turn 172 = .ok (.iload_n 1, 1) := by decide +kernel
theorem d_M_turn_173 : decode b_M_turn 173 = .ok (.imul, 1) := by decide +kernel
theorem d_M_turn_174 : decode b_M_turn 174 = .ok (.istore_n 3, 1) := by decide +kernel
theorem d_M_turn_175 : decode b_M_turn 175 = .ok (.iload_n 3, 1) := by decide +kernel
theorem d_M_turn_176 : decode b_M_turn 176 = .ok (.bipush 6, 2) := by decide +kernel
theorem d_M_turn_178 : decode b_M_turn 178 = .ok (.iload_n 1, 1) := by decide +kernel
theorem d_M_turn_179 : decode b_M_turn 179 = .ok (.imul, 1) := by decide +kernel
theorem d_M_turn_180 : decode b_M_turn 180 = .ok (.aload_n 0, 1) := by decide +kernel
theorem d_M_turn_181 : decode b_M_turn 181 = .ok (.getfield 25, 3) := by decide +kernel
theorem d_M_turn_184 : decode b_M_turn 184 = .ok (.iload_n 1, 1) := by decide +kernel
theorem d_M_turn_185 : decode b_M_turn 185 = .ok (.iaload, 1) := by decide +kernel
theorem d_M_turn_186 : decode b_M_turn 186 = .ok (.iadd, 1) := by decide +kernel
theorem d_M_turn_187 : decode b_M_turn 187 = .ok (.if_icmp .ge 49, 3) := by decide +kernel
theorem d_M_turn_190 : decode b_M_turn 190 = .ok (.aload_n 0, 1) := by decide +kernel
theorem d_M_turn_191 : decode b_M_turn 191 = .ok (.aload_n 0, 1) := by decide +kernel
theorem d_M_turn_192 : decode b_M_turn 192 = .ok (.getfield 28, 3) := by decide +kernel
theorem d_M_turn_195 : decode b_M_turn 195 = .ok (.iload_n 3, 1) := by decide +kernel
theorem d_M_turn_196 : decode b_M_turn 196 = .ok (.iaload, 1) := by decide +kernel
theorem d_M_turn_197 : decode b_M_turn 197 = .ok (.aload_n 0, 1) := by decide +kernel
theorem d_M_turn_198 : decode b_M_turn 198 = .ok (.getfield 34, 3) := by decide +kernel
theorem d_M_turn_201 : decode b_M_turn 201 = .ok (.iload_n 3, 1) := by decide +kernel
theorem d_M_turn_202 : decode b_M_turn 202 = .ok (.laload, 1) := by decide +kernel
theorem d_M_turn_203 : decode b_M_turn 203 = .ok (.invokevirtual 134, 3) := by decide +kernel
theorem d_M_turn_206 : decode b_M_turn 206 = .ok (.aload_n 0, 1) := by decide +kernel
theorem d_M_turn_207 : decode b_M_turn 207 = .ok (.aload_n 0, 1) := by decide +kernel
theorem d_M_turn_208 : decode b_M_turn 208 = .ok (.getfield 113, 3) := by decide +kernel
theorem d_M_turn_211 : decode b_M_turn 211 = .ok (.aload_n 0, 1) := by decide +kernel
theorem d_M_turn_212 : decode b_M_turn 212 = .ok (.getfield 31, 3) := by decide +kernel
theorem d_M_turn_215 : decode b_M_turn 215 = .ok (.iload_n 3, 1) := by decide +kernel
theorem d_M_turn_216 : decode b_M_turn 216 = .ok (.iaload, 1) := by decide +kernel
theorem d_M_turn_217 : decode b_M_turn 217 = .ok (.aload_n 0, 1) := by decide +kernel
theorem d_M_turn_218 : decode b_M_turn 218 = .ok (.getfield 28, 3) := by decide +kernel
theorem d_M_turn_221 : decode b_M_turn 221 = .ok (.iload_n 3, 1) := by decide +kernel
theorem d_M_turn_222 : decode b_M_turn 222 = .ok (.iaload, 1) := by decide +kernel
theorem d_M_turn_223 : decode b_M_turn 223 = .ok (.aload_n 0, 1) := by decide +kernel
theorem d_M_turn_224 : decode b_M_turn 224 = .ok (.getfield 116, 3) := by decide +kernel
theorem d_M_turn_227 : decode b_M_turn 227 = .ok (.invokevirtual 124, 3) := by decide +kernel
theorem d_M_turn_230 : decode b_M_turn 230 = .ok (.iinc 3 1, 3) := by decide +kernel
theorem d_M_turn_233 : decode b_M_turn 233 = .ok (.goto (-58), 3) := by decide +kernel
theorem d_M_turn_236 : decode b_M_turn 236 = .ok (.aload_n 0, 1) := by decide +kernel
theorem d_M_turn_237 : decode b_M_turn 237 = .ok (.getfield 25, 3) := by decide +kernel
theorem d_M_turn_240 : decode b_M_turn 240 = .ok (.iload_n 1, 1) := by decide +kernel
theorem d_M_turn_241 : decode b_M_turn 241 = .ok (.iconst 0, 1) := by decide +kernel
theorem d_M_turn_242 : decode b_M_turn 242 = .ok (.iastore, 1) := by decide +kernel
theorem d_M_turn_243 : decode b_M_turn 243 = .ok (.iload_n 2, 1) := by decide +kernel
theorem d_M_turn_244 : decode b_M_turn 244 = .ok (.ireturn, 1) := by decide +kernel
theorem d_M_building_0 : decode b_M_building 0 = .ok (.aload_n 0, 1) := by decide +kernel
theorem d_M_building_1 : decode b_M_building 1 = .ok (.iconst 0, 1) := by decide +kernel
theorem d_M_building_2 : decode b_M_building 2 = .ok (.putfield 90, 3) := by decide +kernel
theorem d_M_building_5 : decode b_M_building 5 = .ok (.aload_n 0, 1) := by decide +kernel
theorem d_M_building_6 : decode b_M_building 6 = .ok (.iload_n 1, 1) := by decide +kernel
theorem d_M_building_7 : decode b_M_building 7 = .ok (.invokevirtual 140, 3) := by decide +kernel
theorem d_M_building_10 : decode b_M_building 10 = .ok (.ifCond .ne 7, 3) := by decide +kernel
theorem d_M_building_13 : decode b_M_building 13 = .ok (.iconst (-1), 1) := by decide +kernel
theorem d_M_building_14 : decode b_M_building 14 = .ok (.goto 31, 3) := by decide +kernel
theorem d_M_building_17 : decode b_M_building 17 = .ok (.iload_n 2, 1) := by decide +kernel
theorem d_M_building_18 : decode b_M_building 18 = .ok (.ifCond .ne 12, 3) := by decide +kernel
theorem d_M_building_21 : decode b_M_building 21 = .ok (.aload_n 0, 1) := by decide +kernel
theorem d_M_building_22 : decode b_M_building 22 = .ok (.getfield 19, 3) := by decide +kernel
theorem d_M_building_25 : decode b_M_building 25 = .ok (.iload_n 1, 1) := by decide +kernel
theorem d_M_building_26 : decode b_M_building 26 = .ok (.iaload, 1) := by decide +kernel
theorem d_M_building_27 : decode b_M_building 27 = .ok (.goto 18, 3) := by decide +kernel
theorem d_M_building_30 : decode b_M_building 30 = .ok (.iload_n 2, 1) := by decide +kernel
theorem d_M_building_31 : decode b_M_building 31 = .ok (.iconst 1, 1) := by decide +kernel
theorem d_M_building_32 : decode b_M_building 32 = .ok (.if_icmp .ne 12, 3) := by decide +kernel
theorem d_M_building_35 : decode b_M_building 35 = .ok (.aload_n 0, 1) := by decide +kernel
theorem d_M_building_36 : decode b_M_building 36 = .ok (.getfield 25, 3) := by decide +kernel
theorem d_M_building_39 : decode b_M_building 39 = .ok (.iload_n 1, 1) := by decide +kernel
theorem d_M_building_40 : decode b_M_building 40 = .ok (.iaload, 1) := by decide +kernel
theorem d_M_building_41 : decode b_M_building 41 = .ok (.goto 4, 3) := by decide +kernel
theorem d_M_building_44 : decode b_M_building 44 = .ok (.iconst (-1), 1) := by decide +kernel
theorem d_M_building_45 : decode b_M_building 45 = .ok (.ireturn, 1) := by decide +kernel
theorem d_M_isTold_0 : decode b_M_isTold 0 = .ok (.iload_n 1, 1) := by decide +kernel
theorem d_M_isTold_1 : decode b_M_isTold 1 = .ok (.ifCond .lt 23, 3) := by decide +kernel
theorem d_M_isTold_4 : decode b_M_isTold 4 = .ok (.iload_n 1, 1) := by decide +kernel
theorem d_M_isTold_5 : decode b_M_isTold 5 = .ok (.bipush 40, 2) := by decide +kernel
theorem d_M_isTold_7 : decode b_M_isTold 7 = .ok (.if_icmp .ge 17, 3) := by decide +kernel
theorem d_M_isTold_10 : decode b_M_isTold 10 = .ok (.iload_n 1, 1) := by decide +kernel
theorem d_M_isTold_11 : decode b_M_isTold 11 = .ok (.aload_n 0, 1) := by decide +kernel
theorem d_M_isTold_12 : decode b_M_isTold 12 = .ok (.getfield 84, 3) := by decide +kernel
theorem d_M_isTold_15 : decode b_M_isTold 15 = .ok (.iconst 0, 1) := by decide +kernel
theorem d_M_isTold_16 : decode b_M_isTold 16 = .ok (.iaload, 1) := by decide +kernel
theorem d_M_isTold_17 : decode b_M_isTold 17 = .ok (.if_icmp .ge 7, 3) := by decide +kernel
theorem d_M_isTold_20 : decode b_M_isTold 20 = .ok (.iconst 1, 1) := by decide +kernel
theorem d_M_isTold_21 : decode b_M_isTold 21 = .ok (.goto 4, 3) := by decide +kernel
theorem d_M_isTold_24 : decode b_M_isTold 24 = .ok (.iconst 0, 1) := by decide +kernel
theorem d_M_isTold_25 : decode b_M_isTold 25 = .ok (.ireturn, 1) := by decide +kernel
theorem d_M_placeOf_0 : decode b_M_placeOf 0 = .ok (.aload_n 0, 1) := by decide +kernel
theorem d_M_placeOf_1 : decode b_M_placeOf 1 = .ok (.getfield 84, 3) := by decide +kernel
theorem d_M_placeOf_4 : decode b_M_placeOf 4 = .ok (.iconst 0, 1) := by decide +kernel
theorem d_M_placeOf_5 : decode b_M_placeOf 5 = .ok (.iaload, 1) := by decide +kernel
theorem d_M_placeOf_6 : decode b_M_placeOf 6 = .ok (.iconst 1, 1) := by decide +kernel
theorem d_M_placeOf_7 : decode b_M_placeOf 7 = .ok (.isub, 1) := by decide +kernel
theorem d_M_placeOf_8 : decode b_M_placeOf 8 = .ok (.iload_n 1, 1) := by decide +kernel
theorem d_M_placeOf_9 : decode b_M_placeOf 9 = .ok (.isub, 1) := by decide +kernel
theorem d_M_placeOf_10 : decode b_M_placeOf 10 = .ok (.bipush 40, 2) := by decide +kernel
theorem d_M_placeOf_12 : decode b_M_placeOf 12 = .ok (.irem, 1) := by decide +kernel
theorem d_M_placeOf_13 : decode b_M_placeOf 13 = .ok (.ireturn, 1) := by decide +kernel
theorem d_M_told_0 : decode b_M_told 0 = .ok (.aload_n 0, 1) := by decide +kernel
theorem d_M_told_1 : decode b_M_told 1 = .ok (.iconst 0, 1) := by decide +kernel
theorem d_M_told_2 : decode b_M_told 2 = .ok (.putfield 90, 3) := by decide +kernel
theorem d_M_told_5 : decode b_M_told 5 = .ok (.aload_n 0, 1) := by decide +kernel
theorem d_M_told_6 : decode b_M_told 6 = .ok (.iload_n 1, 1) := by decide +kernel
theorem d_M_told_7 : decode b_M_told 7 = .ok (.invokevirtual 146, 3) := by decide +kernel
theorem d_M_told_10 : decode b_M_told 10 = .ok (.ifCond .ne 5, 3) := by decide +kernel
theorem d_M_told_13 : decode b_M_told 13 = .ok (.iconst (-1), 1) := by decide +kernel
theorem d_M_told_14 : decode b_M_told 14 = .ok (.ireturn, 1) := by decide +kernel
theorem d_M_told_15 : decode b_M_told 15 = .ok (.aload_n 0, 1) := by decide +kernel
theorem d_M_told_16 : decode b_M_told 16 = .ok (.iload_n 1, 1) := by decide +kernel
theorem d_M_told_17 : decode b_M_told 17 = .ok (.invokevirtual 149, 3) := by decide +kernel
theorem d_M_told_20 : decode b_M_told 20 = .ok (.istore_n 3, 1) := by decide +kernel
theorem d_M_told_21 : decode b_M_told 21 = .ok (.iload_n 2, 1) := by decide +kernel
theorem d_M_told_22 : decode b_M_told 22 = .ok (.ifCond .ne 12, 3) := by decide +kernel
theorem d_M_told_25 : decode b_M_told 25 = .ok (.aload_n 0, 1) := by decide +kernel
theorem d_M_told_26 : decode b_M_told 26 = .ok (.getfield 75, 3) := by decide +kernel
theorem d_M_told_29 : decode b_M_told 29 = .ok (.iload_n 3, 1) := by decide +kernel
theorem d_M_told_30 : decode b_M_told 30 = .ok (.iaload, 1) := by decide +kernel
theorem d_M_told_31 : decode b_M_told 31 = .ok (.goto 32, 3) := by decide +kernel
theorem d_M_told_34 : decode b_M_told 34 = .ok (.iload_n 2, 1) := by decide +kernel
theorem d_M_told_35 : decode b_M_told 35 = .ok (.iconst 1, 1) := by decide +kernel
theorem d_M_told_36 : decode b_M_told 36 = .ok (.if_icmp .ne 12, 3) := by decide +kernel
theorem d_M_told_39 : decode b_M_told 39 = .ok (.aload_n 0, 1) := by decide +kernel
theorem d_M_told_40 : decode b_M_told 40 = .ok (.getfield 78, 3) := by decide +kernel
theorem d_M_told_43 : decode b_M_told 43 = .ok (.iload_n 3, 1) := by decide +kernel
theorem d_M_told_44 : decode b_M_told 44 = .ok (.iaload, 1) := by decide +kernel
theorem d_M_told_45 : decode b_M_told 45 = .ok (.goto 18, 3) := by decide +kernel
theorem d_M_told_48 : decode b_M_told 48 = .ok (.iload_n 2, 1) := by decide +kernel
theorem d_M_told_49 : decode b_M_told 49 = .ok (.iconst 2, 1) := by decide +kernel
theorem d_M_told_50 : decode b_M_told 50 = .ok (.if_icmp .ne 12, 3) := by decide +kernel
theorem d_M_told_53 : decode b_M_told 53 = .ok (.aload_n 0, 1) := by decide +kernel
theorem d_M_told_54 : decode b_M_told 54 = .ok (.getfield 81, 3) := by decide +kernel
theorem d_M_told_57 : decode b_M_told 57 = .ok (.iload_n 3, 1) := by decide +kernel
theorem d_M_told_58 : decode b_M_told 58 = .ok (.iaload, 1) := by decide +kernel
theorem d_M_told_59 : decode b_M_told 59 = .ok (.goto 4, 3) := by decide +kernel
theorem d_M_told_62 : decode b_M_told 62 = .ok (.iconst (-1), 1) := by decide +kernel
theorem d_M_told_63 : decode b_M_told 63 = .ok (.ireturn, 1) := by decide +kernel
theorem d_M_value_0 : decode b_M_value 0 = .ok (.aload_n 0, 1) := by decide +kernel
theorem d_M_value_1 : decode b_M_value 1 = .ok (.iconst 0, 1) := by decide +kernel
theorem d_M_value_2 : decode b_M_value 2 = .ok (.putfield 90, 3) := by decide +kernel
theorem d_M_value_5 : decode b_M_value 5 = .ok (.aload_n 0, 1) := by decide +kernel
theorem d_M_value_6 : decode b_M_value 6 = .ok (.iload_n 1, 1) := by decide +kernel
theorem d_M_value_7 : decode b_M_value 7 = .ok (.invokevirtual 146, 3) := by decide +kernel
theorem d_M_value_10 : decode b_M_value 10 = .ok (.ifCond .eq 16, 3) := by decide +kernel
theorem d_M_value_13 : decode b_M_value 13 = .ok (.aload_n 0, 1) := by decide +kernel
theorem d_M_value_14 : decode b_M_value 14 = .ok (.getfield 87, 3) := by decide +kernel
theorem d_M_value_17 : decode b_M_value 17 = .ok (.aload_n 0, 1) := by decide +kernel
theorem d_M_value_18 : decode b_M_value 18 = .ok (.iload_n 1, 1) := by decide +kernel
theorem d_M_value_19 : decode b_M_value 19 = .ok (.invokevirtual 149, 3) := by decide +kernel
theorem d_M_value_22 : decode b_M_value 22 = .ok (.laload, 1) := by decide +kernel
theorem d_M_value_23 : decode b_M_value 23 = .ok (.goto 4, 3) := by decide +kernel
theorem d_M_value_26 : decode b_M_value 26 = .ok (.lconst 0, 1) := by decide +kernel
theorem d_M_value_27 : decode b_M_value 27 = .ok (.lreturn, 1) := by decide +kernel
theorem d_M_count_0 : decode b_M_count 0 = .ok (.aload_n 0, 1) := by decide +kernel
theorem d_M_count_1 : decode b_M_count 1 = .ok (.iconst 0, 1) := by decide +kernel
theorem d_M_count_2 : decode b_M_count 2 = .ok (.putfield 90, 3) := by decide +kernel
theorem d_M_count_5 : decode b_M_count 5 = .ok (.iload_n 1, 1) := by decide +kernel
theorem d_M_count_6 : decode b_M_count 6 = .ok (.ifCond .lt 8, 3) := by decide +kernel
theorem d_M_count_9 : decode b_M_count 9 = .ok (.iload_n 1, 1) := by decide +kernel
theorem d_M_count_10 : decode b_M_count 10 = .ok (.iconst 4, 1) := by decide +kernel
theorem d_M_count_11 : decode b_M_count 11 = .ok (.if_icmp .le 7, 3) := by decide +kernel
theorem d_M_count_14 : decode b_M_count 14 = .ok (.iconst (-1), 1) := by decide +kernel
theorem d_M_count_15 : decode b_M_count 15 = .ok (.goto 9, 3) := by decide +kernel
theorem d_M_count_18 : decode b_M_count 18 = .ok (.aload_n 0, 1) := by decide +kernel
theorem d_M_count_19 : decode b_M_count 19 = .ok (.getfield 84, 3) := by decide +kernel
theorem d_M_count_22 : decode b_M_count 22 = .ok (.iload_n 1, 1) := by decide +kernel
theorem d_M_count_23 : decode b_M_count 23 = .ok (.iaload, 1) := by decide +kernel
theorem d_M_count_24 : decode b_M_count 24 = .ok (.ireturn, 1) := by decide +kernel
