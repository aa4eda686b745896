theorem dX0_init_0 : decode cX0_init 0 = .ok (.aload_n 0, 1) := by decide +kernel
theorem dX0_init_1 : decode cX0_init 1 = .ok (.invokespecial 1, 3) := by decide +kernel
theorem dX0_init_4 : decode cX0_init 4 = .ok (.aload_n 0, 1) := by decide +kernel
theorem dX0_init_5 : decode cX0_init 5 = .ok (.new 7, 3) := by decide +kernel
theorem dX0_init_8 : decode cX0_init 8 = .ok (.dup, 1) := by decide +kernel
theorem dX0_init_9 : decode cX0_init 9 = .ok (.invokespecial 9, 3) := by decide +kernel
theorem dX0_init_12 : decode cX0_init 12 = .ok (.putfield 10, 3) := by decide +kernel
theorem dX0_init_15 : decode cX0_init 15 = .ok (.aload_n 0, 1) := by decide +kernel
theorem dX0_init_16 : decode cX0_init 16 = .ok (.bipush 10, 2) := by decide +kernel
theorem dX0_init_18 : decode cX0_init 18 = .ok (.newarray .long, 2) := by decide +kernel
theorem dX0_init_20 : decode cX0_init 20 = .ok (.putfield 18, 3) := by decide +kernel
theorem dX0_init_23 : decode cX0_init 23 = .ok (.aload_n 0, 1) := by decide +kernel
theorem dX0_init_24 : decode cX0_init 24 = .ok (.bipush 10, 2) := by decide +kernel
theorem dX0_init_26 : decode cX0_init 26 = .ok (.newarray .long, 2) := by decide +kernel
theorem dX0_init_28 : decode cX0_init 28 = .ok (.putfield 22, 3) := by decide +kernel
theorem dX0_init_31 : decode cX0_init 31 = .ok (.aload_n 0, 1) := by decide +kernel
theorem dX0_init_32 : decode cX0_init 32 = .ok (.bipush 10, 2) := by decide +kernel
theorem dX0_init_34 : decode cX0_init 34 = .ok (.newarray .long, 2) := by decide +kernel
theorem dX0_init_36 : decode cX0_init 36 = .ok (.putfield 25, 3) := by decide +kernel
theorem dX0_init_39 : decode cX0_init 39 = .ok (.aload_n 0, 1) := by decide +kernel
theorem dX0_init_40 : decode cX0_init 40 = .ok (.bipush 10, 2) := by decide +kernel
theorem dX0_init_42 : decode cX0_init 42 = .ok (.newarray .long, 2) := by decide +kernel
theorem dX0_init_44 : decode cX0_init 44 = .ok (.putfield 28, 3) := by decide +kernel
theorem dX0_init_47 : decode cX0_init 47 = .ok (.aload_n 0, 1) := by decide +kernel
theorem dX0_init_48 : decode cX0_init 48 = .ok (.bipush 10, 2) := by decide +kernel
theorem dX0_init_50 : decode cX0_init 50 = .ok (.newarray .long, 2) := by decide +kernel
theorem dX0_init_52 : decode cX0_init 52 = .ok (.putfield 31, 3) := by decide +kernel
theorem dX0_init_55 : decode cX0_init 55 = .ok (.aload_n 0, 1) := by decide +kernel
theorem dX0_init_56 : decode cX0_init 56 = .ok (.bipush 10, 2) := by decide +kernel
theorem dX0_init_58 : decode cX0_init 58 = .ok (.newarray .long, 2) := by decide +kernel
theorem dX0_init_60 : decode cX0_init 60 = .ok (.putfield 34, 3) := by decide +kernel
theorem dX0_init_63 : decode cX0_init 63 = .ok (.aload_n 0, 1) := by decide +kernel
theorem dX0_init_64 : decode cX0_init 64 = .ok (.bipush 10, 2) := by decide +kernel
theorem dX0_init_66 : decode cX0_init 66 = .ok (.newarray .long, 2) := by decide +kernel
theorem dX0_init_68 : decode cX0_init 68 = .ok (.putfield 37, 3) := by decide +kernel
theorem dX0_init_71 : decode cX0_init 71 = .ok (.aload_n 0, 1) := by decide +kernel
theorem dX0_init_72 : decode cX0_init 72 = .ok (.bipush 10, 2) := by decide +kernel
theorem dX0_init_74 : decode cX0_init 74 = .ok (.newarray .long, 2) := by decide +kernel
theorem dX0_init_76 : decode cX0_init 76 = .ok (.putfield 40, 3) := by decide +kernel
theorem dX0_init_79 : decode cX0_init 79 = .ok (.aload_n 0, 1) := by decide +kernel
theorem dX0_init_80 : decode cX0_init 80 = .ok (.bipush 10, 2) := by decide +kernel
theorem dX0_init_82 : decode cX0_init 82 = .ok (.newarray .long, 2) := by decide +kernel
theorem dX0_init_84 : decode cX0_init 84 = .ok (.putfield 43, 3) := by decide +kernel
theorem dX0_init_87 : decode cX0_init 87 = .ok (.aload_n 0, 1) := by decide +kernel
theorem dX0_init_88 : decode cX0_init 88 = .ok (.bipush 10, 2) := by decide +kernel
theorem dX0_init_90 : decode cX0_init 90 = .ok (.newarray .long, 2) := by decide +kernel
theorem dX0_init_92 : decode cX0_init 92 = .ok (.putfield 46, 3) := by decide +kernel
theorem dX0_init_95 : decode cX0_init 95 = .ok (.aload_n 0, 1) := by decide +kernel
theorem dX0_init_96 : decode cX0_init 96 = .ok (.iconst 4, 1) := by decide +kernel
theorem dX0_init_97 : decode cX0_init 97 = .ok (.newarray .long, 2) := by decide +kernel
theorem dX0_init_99 : decode cX0_init 99 = .ok (.putfield 51, 3) := by decide +kernel
theorem dX0_init_102 : decode cX0_init 102 = .ok (.aload_n 0, 1) := by decide +kernel
theorem dX0_init_103 : decode cX0_init 103 = .ok (.bipush 16, 2) := by decide +kernel
theorem dX0_init_105 : decode cX0_init 105 = .ok (.anewarray 7, 3) := by decide +kernel
theorem dX0_init_108 : decode cX0_init 108 = .ok (.putfield 54, 3) := by decide +kernel
theorem dX0_init_111 : decode cX0_init 111 = .ok (.aload_n 0, 1) := by decide +kernel
theorem dX0_init_112 : decode cX0_init 112 = .ok (.aload_n 1, 1) := by decide +kernel
theorem dX0_init_113 : decode cX0_init 113 = .ok (.putfield 58, 3) := by decide +kernel
theorem dX0_init_116 : decode cX0_init 116 = .ok (.aload_n 1, 1) := by decide +kernel
theorem dX0_init_117 : decode cX0_init 117 = .ok (.aload_n 0, 1) := by decide +kernel
theorem dX0_init_118 : decode cX0_init 118 = .ok (.getfield 18, 3) := by decide +kernel
theorem dX0_init_121 : decode cX0_init 121 = .ok (.lconst 1, 1) := by decide +kernel
theorem dX0_init_122 : decode cX0_init 122 = .ok (.invokevirtual 62, 3) := by decide +kernel
theorem dX0_init_125 : decode cX0_init 125 = .ok (.aload_n 1, 1) := by decide +kernel
theorem dX0_init_126 : decode cX0_init 126 = .ok (.getstatic 66, 3) := by decide +kernel
theorem dX0_init_129 : decode cX0_init 129 = .ok (.aload_n 0, 1) := by decide +kernel
theorem dX0_init_130 : decode cX0_init 130 = .ok (.getfield 22, 3) := by decide +kernel
theorem dX0_init_133 : decode cX0_init 133 = .ok (.invokevirtual 69, 3) := by decide +kernel
theorem dX0_init_136 : decode cX0_init 136 = .ok (.aload_n 1, 1) := by decide +kernel
theorem dX0_init_137 : decode cX0_init 137 = .ok (.aload_n 0, 1) := by decide +kernel
theorem dX0_init_138 : decode cX0_init 138 = .ok (.getfield 22, 3) := by decide +kernel
theorem dX0_init_141 : decode cX0_init 141 = .ok (.aload_n 0, 1) := by decide +kernel
theorem dX0_init_142 : decode cX0_init 142 = .ok (.getfield 22, 3) := by decide +kernel
theorem dX0_init_145 : decode cX0_init 145 = .ok (.aload_n 0, 1) := by decide +kernel
theorem dX0_init_146 : decode cX0_init 146 = .ok (.getfield 25, 3) := by decide +kernel
theorem dX0_init_149 : decode cX0_init 149 = .ok (.invokevirtual 73, 3) := by decide +kernel
theorem dX0_init_152 : decode cX0_init 152 = .ok (.aload_n 1, 1) := by decide +kernel
theorem dX0_init_153 : decode cX0_init 153 = .ok (.getstatic 77, 3) := by decide +kernel
theorem dX0_init_156 : decode cX0_init 156 = .ok (.aload_n 0, 1) := by decide +kernel
theorem dX0_init_157 : decode cX0_init 157 = .ok (.getfield 10, 3) := by decide +kernel
theorem dX0_init_160 : decode cX0_init 160 = .ok (.getfield 80, 3) := by decide +kernel
theorem dX0_init_163 : decode cX0_init 163 = .ok (.invokevirtual 69, 3) := by decide +kernel
theorem dX0_init_166 : decode cX0_init 166 = .ok (.aload_n 1, 1) := by decide +kernel
theorem dX0_init_167 : decode cX0_init 167 = .ok (.getstatic 83, 3) := by decide +kernel
theorem dX0_init_170 : decode cX0_init 170 = .ok (.aload_n 0, 1) := by decide +kernel
theorem dX0_init_171 : decode cX0_init 171 = .ok (.getfield 10, 3) := by decide +kernel
theorem dX0_init_174 : decode cX0_init 174 = .ok (.getfield 86, 3) := by decide +kernel
theorem dX0_init_177 : decode cX0_init 177 = .ok (.invokevirtual 69, 3) := by decide +kernel
theorem dX0_init_180 : decode cX0_init 180 = .ok (.aload_n 0, 1) := by decide +kernel
theorem dX0_init_181 : decode cX0_init 181 = .ok (.aload_n 0, 1) := by decide +kernel
theorem dX0_init_182 : decode cX0_init 182 = .ok (.getfield 10, 3) := by decide +kernel
theorem dX0_init_185 : decode cX0_init 185 = .ok (.invokevirtual 89, 3) := by decide +kernel
theorem dX0_init_188 : decode cX0_init 188 = .ok (.iconst 0, 1) := by decide +kernel
theorem dX0_init_189 : decode cX0_init 189 = .ok (.istore_n 2, 1) := by decide +kernel
theorem dX0_init_190 : decode cX0_init 190 = .ok (.iload_n 2, 1) := by decide +kernel
theorem dX0_init_191 : decode cX0_init 191 = .ok (.aload_n 0, 1) := by decide +kernel
theorem dX0_init_192 : decode cX0_init 192 = .ok (.getfield 54, 3) := by decide +kernel
theorem dX0_init_195 : decode cX0_init 195 = .ok (.arraylength, 1) := by decide +kernel
theorem dX0_init_196 : decode cX0_init 196 = .ok (.if_icmp .ge 22, 3) := by decide +kernel
theorem dX0_init_199 : decode cX0_init 199 = .ok (.aload_n 0, 1) := by decide +kernel
theorem dX0_init_200 : decode cX0_init 200 = .ok (.getfield 54, 3) := by decide +kernel
theorem dX0_init_203 : decode cX0_init 203 = .ok (.iload_n 2, 1) := by decide +kernel
theorem dX0_init_204 : decode cX0_init 204 = .ok (.new 7, 3) := by decide +kernel
theorem dX0_init_207 : decode cX0_init 207 = .ok (.dup, 1) := by decide +kernel
theorem dX0_init_208 : decode cX0_init 208 = .ok (.invokespecial 9, 3) := by decide +kernel
theorem dX0_init_211 : decode cX0_init 211 = .ok (.aastore, 1) := by decide +kernel
theorem dX0_init_212 : decode cX0_init 212 = .ok (.iinc 2 1, 3) := by decide +kernel
theorem dX0_init_215 : decode cX0_init 215 = .ok (.goto (-25), 3) := by decide +kernel
theorem dX0_init_218 : decode cX0_init 218 = .ok (.return_, 1) := by decide +kernel
theorem dX0_complete_0 : decode cX0_complete 0 = .ok (.aload_n 0, 1) := by decide +kernel
theorem dX0_complete_1 : decode cX0_complete 1 = .ok (.getfield 58, 3) := by decide +kernel
theorem dX0_complete_4 : decode cX0_complete 4 = .ok (.aload_n 1, 1) := by decide +kernel
theorem dX0_complete_5 : decode cX0_complete 5 = .ok (.getfield 93, 3) := by decide +kernel
theorem dX0_complete_8 : decode cX0_complete 8 = .ok (.lconst 1, 1) := by decide +kernel
theorem dX0_complete_9 : decode cX0_complete 9 = .ok (.invokevirtual 62, 3) := by decide +kernel
theorem dX0_complete_12 : decode cX0_complete 12 = .ok (.aload_n 0, 1) := by decide +kernel
theorem dX0_complete_13 : decode cX0_complete 13 = .ok (.getfield 58, 3) := by decide +kernel
theorem dX0_complete_16 : decode cX0_complete 16 = .ok (.aload_n 1, 1) := by decide +kernel
theorem dX0_complete_17 : decode cX0_complete 17 = .ok (.getfield 80, 3) := by decide +kernel
theorem dX0_complete_20 : decode cX0_complete 20 = .ok (.aload_n 1, 1) := by decide +kernel
theorem dX0_complete_21 : decode cX0_complete 21 = .ok (.getfield 86, 3) := by decide +kernel
theorem dX0_complete_24 : decode cX0_complete 24 = .ok (.aload_n 1, 1) := by decide +kernel
theorem dX0_complete_25 : decode cX0_complete 25 = .ok (.getfield 96, 3) := by decide +kernel
theorem dX0_complete_28 : decode cX0_complete 28 = .ok (.invokevirtual 99, 3) := by decide +kernel
theorem dX0_complete_31 : decode cX0_complete 31 = .ok (.return_, 1) := by decide +kernel
theorem dX0_becomeNeutral_0 : decode cX0_becomeNeutral 0 = .ok (.aload_n 0, 1) := by decide +kernel
theorem dX0_becomeNeutral_1 : decode cX0_becomeNeutral 1 = .ok (.getfield 58, 3) := by decide +kernel
theorem dX0_becomeNeutral_4 : decode cX0_becomeNeutral 4 = .ok (.aload_n 1, 1) := by decide +kernel
theorem dX0_becomeNeutral_5 : decode cX0_becomeNeutral 5 = .ok (.getfield 80, 3) := by decide +kernel
theorem dX0_becomeNeutral_8 : decode cX0_becomeNeutral 8 = .ok (.lconst 0, 1) := by decide +kernel
theorem dX0_becomeNeutral_9 : decode cX0_becomeNeutral 9 = .ok (.invokevirtual 62, 3) := by decide +kernel
theorem dX0_becomeNeutral_12 : decode cX0_becomeNeutral 12 = .ok (.aload_n 0, 1) := by decide +kernel
theorem dX0_becomeNeutral_13 : decode cX0_becomeNeutral 13 = .ok (.getfield 58, 3) := by decide +kernel
theorem dX0_becomeNeutral_16 : decode cX0_becomeNeutral 16 = .ok (.aload_n 1, 1) := by decide +kernel
theorem dX0_becomeNeutral_17 : decode cX0_becomeNeutral 17 = .ok (.getfield 86, 3) := by decide +kernel
theorem dX0_becomeNeutral_20 : decode cX0_becomeNeutral 20 = .ok (.lconst 1, 1) := by decide +kernel
theorem dX0_becomeNeutral_21 : decode cX0_becomeNeutral 21 = .ok (.invokevirtual 62, 3) := by decide +kernel
theorem dX0_becomeNeutral_24 : decode cX0_becomeNeutral 24 = .ok (.aload_n 0, 1) := by decide +kernel
theorem dX0_becomeNeutral_25 : decode cX0_becomeNeutral 25 = .ok (.aload_n 1, 1) := by decide +kernel
theorem dX0_becomeNeutral_26 : decode cX0_becomeNeutral 26 = .ok (.invokevirtual 89, 3) := by decide +kernel
theorem dX0_becomeNeutral_29 : decode cX0_becomeNeutral 29 = .ok (.return_, 1) := by decide +kernel
theorem dX0_read_0 : decode cX0_read 0 = .ok (.aload_n 1, 1) := by decide +kernel
theorem dX0_read_1 : decode cX0_read 1 = .ok (.aload_n 0, 1) := by decide +kernel
theorem dX0_read_2 : decode cX0_read 2 = .ok (.getfield 51, 3) := by decide +kernel
theorem dX0_read_5 : decode cX0_read 5 = .ok (.invokestatic 102, 3) := by decide +kernel
theorem dX0_read_8 : decode cX0_read 8 = .ok (.aload_n 0, 1) := by decide +kernel
theorem dX0_read_9 : decode cX0_read 9 = .ok (.getfield 51, 3) := by decide +kernel
theorem dX0_read_12 : decode cX0_read 12 = .ok (.iconst 3, 1) := by decide +kernel
theorem dX0_read_13 : decode cX0_read 13 = .ok (.dup2, 1) := by decide +kernel
theorem dX0_read_14 : decode cX0_read 14 = .ok (.laload, 1) := by decide +kernel
theorem dX0_read_15 : decode cX0_read 15 = .ok (.ldc2_w 105, 3) := by decide +kernel
theorem dX0_read_18 : decode cX0_read 18 = .ok (.land, 1) := by decide +kernel
theorem dX0_read_19 : decode cX0_read 19 = .ok (.lastore, 1) := by decide +kernel
theorem dX0_read_20 : decode cX0_read 20 = .ok (.aload_n 0, 1) := by decide +kernel
theorem dX0_read_21 : decode cX0_read 21 = .ok (.getfield 51, 3) := by decide +kernel
theorem dX0_read_24 : decode cX0_read 24 = .ok (.getstatic 107, 3) := by decide +kernel
theorem dX0_read_27 : decode cX0_read 27 = .ok (.invokestatic 110, 3) := by decide +kernel
theorem dX0_read_30 : decode cX0_read 30 = .ok (.ifCond .lt 5, 3) := by decide +kernel
theorem dX0_read_33 : decode cX0_read 33 = .ok (.iconst 0, 1) := by decide +kernel
theorem dX0_read_34 : decode cX0_read 34 = .ok (.ireturn, 1) := by decide +kernel
theorem dX0_read_35 : decode cX0_read 35 = .ok (.aload_n 0, 1) := by decide +kernel
theorem dX0_read_36 : decode cX0_read 36 = .ok (.getfield 58, 3) := by decide +kernel
theorem dX0_read_39 : decode cX0_read 39 = .ok (.aload_n 1, 1) := by decide +kernel
theorem dX0_read_40 : decode cX0_read 40 = .ok (.aload_n 2, 1) := by decide +kernel
theorem dX0_read_41 : decode cX0_read 41 = .ok (.getfield 86, 3) := by decide +kernel
theorem dX0_read_44 : decode cX0_read 44 = .ok (.invokevirtual 69, 3) := by decide +kernel
theorem dX0_read_47 : decode cX0_read 47 = .ok (.aload_n 0, 1) := by decide +kernel
theorem dX0_read_48 : decode cX0_read 48 = .ok (.getfield 58, 3) := by decide +kernel
theorem dX0_read_51 : decode cX0_read 51 = .ok (.aload_n 2, 1) := by decide +kernel
theorem dX0_read_52 : decode cX0_read 52 = .ok (.getfield 86, 3) := by decide +kernel
theorem dX0_read_55 : decode cX0_read 55 = .ok (.aload_n 0, 1) := by decide +kernel
theorem dX0_read_56 : decode cX0_read 56 = .ok (.getfield 28, 3) := by decide +kernel
theorem dX0_read_59 : decode cX0_read 59 = .ok (.invokevirtual 114, 3) := by decide +kernel
theorem dX0_read_62 : decode cX0_read 62 = .ok (.aload_n 0, 1) := by decide +kernel
theorem dX0_read_63 : decode cX0_read 63 = .ok (.getfield 58, 3) := by decide +kernel
theorem dX0_read_66 : decode cX0_read 66 = .ok (.aload_n 0, 1) := by decide +kernel
theorem dX0_read_67 : decode cX0_read 67 = .ok (.getfield 22, 3) := by decide +kernel
theorem dX0_read_70 : decode cX0_read 70 = .ok (.aload_n 0, 1) := by decide +kernel
theorem dX0_read_71 : decode cX0_read 71 = .ok (.getfield 28, 3) := by decide +kernel
theorem dX0_read_74 : decode cX0_read 74 = .ok (.aload_n 0, 1) := by decide +kernel
theorem dX0_read_75 : decode cX0_read 75 = .ok (.getfield 31, 3) := by decide +kernel
theorem dX0_read_78 : decode cX0_read 78 = .ok (.invokevirtual 99, 3) := by decide +kernel
theorem dX0_read_81 : decode cX0_read 81 = .ok (.aload_n 0, 1) := by decide +kernel
theorem dX0_read_82 : decode cX0_read 82 = .ok (.getfield 58, 3) := by decide +kernel
theorem dX0_read_85 : decode cX0_read 85 = .ok (.aload_n 0, 1) := by decide +kernel
theorem dX0_read_86 : decode cX0_read 86 = .ok (.getfield 31, 3) := by decide +kernel
theorem dX0_read_89 : decode cX0_read 89 = .ok (.aload_n 0, 1) := by decide +kernel
theorem dX0_read_90 : decode cX0_read 90 = .ok (.getfield 18, 3) := by decide +kernel
theorem dX0_read_93 : decode cX0_read 93 = .ok (.aload_n 0, 1) := by decide +kernel
theorem dX0_read_94 : decode cX0_read 94 = .ok (.getfield 31, 3) := by decide +kernel
theorem dX0_read_97 : decode cX0_read 97 = .ok (.invokevirtual 73, 3) := by decide +kernel
theorem dX0_read_100 : decode cX0_read 100 = .ok (.aload_n 0, 1) := by decide +kernel
theorem dX0_read_101 : decode cX0_read 101 = .ok (.getfield 58, 3) := by decide +kernel
theorem dX0_read_104 : decode cX0_read 104 = .ok (.aload_n 0, 1) := by decide +kernel
theorem dX0_read_105 : decode cX0_read 105 = .ok (.getfield 31, 3) := by decide +kernel
theorem dX0_read_108 : decode cX0_read 108 = .ok (.aload_n 0, 1) := by decide +kernel
theorem dX0_read_109 : decode cX0_read 109 = .ok (.getfield 31, 3) := by decide +kernel
theorem dX0_read_112 : decode cX0_read 112 = .ok (.invokevirtual 117, 3) := by decide +kernel
theorem dX0_read_115 : decode cX0_read 115 = .ok (.aload_n 0, 1) := by decide +kernel
theorem dX0_read_116 : decode cX0_read 116 = .ok (.getfield 58, 3) := by decide +kernel
theorem dX0_read_119 : decode cX0_read 119 = .ok (.aload_n 0, 1) := by decide +kernel
theorem dX0_read_120 : decode cX0_read 120 = .ok (.getfield 28, 3) := by decide +kernel
theorem dX0_read_123 : decode cX0_read 123 = .ok (.aload_n 0, 1) := by decide +kernel
theorem dX0_read_124 : decode cX0_read 124 = .ok (.getfield 18, 3) := by decide +kernel
theorem dX0_read_127 : decode cX0_read 127 = .ok (.aload_n 0, 1) := by decide +kernel
theorem dX0_read_128 : decode cX0_read 128 = .ok (.getfield 28, 3) := by decide +kernel
theorem dX0_read_131 : decode cX0_read 131 = .ok (.invokevirtual 120, 3) := by decide +kernel
theorem dX0_read_134 : decode cX0_read 134 = .ok (.aload_n 0, 1) := by decide +kernel
theorem dX0_read_135 : decode cX0_read 135 = .ok (.getfield 58, 3) := by decide +kernel
theorem dX0_read_138 : decode cX0_read 138 = .ok (.aload_n 0, 1) := by decide +kernel
theorem dX0_read_139 : decode cX0_read 139 = .ok (.getfield 28, 3) := by decide +kernel
theorem dX0_read_142 : decode cX0_read 142 = .ok (.aload_n 0, 1) := by decide +kernel
theorem dX0_read_143 : decode cX0_read 143 = .ok (.getfield 31, 3) := by decide +kernel
theorem dX0_read_146 : decode cX0_read 146 = .ok (.aload_n 0, 1) := by decide +kernel
theorem dX0_read_147 : decode cX0_read 147 = .ok (.getfield 28, 3) := by decide +kernel
theorem dX0_read_150 : decode cX0_read 150 = .ok (.invokevirtual 99, 3) := by decide +kernel
theorem dX0_read_153 : decode cX0_read 153 = .ok (.aload_n 0, 1) := by decide +kernel
theorem dX0_read_154 : decode cX0_read 154 = .ok (.getfield 58, 3) := by decide +kernel
theorem dX0_read_157 : decode cX0_read 157 = .ok (.aload_n 0, 1) := by decide +kernel
theorem dX0_read_158 : decode cX0_read 158 = .ok (.getfield 28, 3) := by decide +kernel
theorem dX0_read_161 : decode cX0_read 161 = .ok (.aload_n 2, 1) := by decide +kernel
theorem dX0_read_162 : decode cX0_read 162 = .ok (.getfield 80, 3) := by decide +kernel
theorem dX0_read_165 : decode cX0_read 165 = .ok (.invokevirtual 123, 3) := by decide +kernel
theorem dX0_read_168 : decode cX0_read 168 = .ok (.ifCond .ne 5, 3) := by decide +kernel
theorem dX0_read_171 : decode cX0_read 171 = .ok (.iconst 0, 1) := by decide +kernel
theorem dX0_read_172 : decode cX0_read 172 = .ok (.ireturn, 1) := by decide +kernel
theorem dX0_read_173 : decode cX0_read 173 = .ok (.aload_n 1, 1) := by decide +kernel
theorem dX0_read_174 : decode cX0_read 174 = .ok (.sipush 255, 3) := by decide +kernel
theorem dX0_read_177 : decode cX0_read 177 = .ok (.invokestatic 127, 3) := by decide +kernel
theorem dX0_read_180 : decode cX0_read 180 = .ok (.iconst 1, 1) := by decide +kernel
theorem dX0_read_181 : decode cX0_read 181 = .ok (.if_icmp .ne 34, 3) := by decide +kernel
theorem dX0_read_184 : decode cX0_read 184 = .ok (.aload_n 0, 1) := by decide +kernel
theorem dX0_read_185 : decode cX0_read 185 = .ok (.getfield 58, 3) := by decide +kernel
theorem dX0_read_188 : decode cX0_read 188 = .ok (.aload_n 2, 1) := by decide +kernel
theorem dX0_read_189 : decode cX0_read 189 = .ok (.getfield 80, 3) := by decide +kernel
theorem dX0_read_192 : decode cX0_read 192 = .ok (.invokevirtual 131, 3) := by decide +kernel
theorem dX0_read_195 : decode cX0_read 195 = .ok (.ifCond .eq 5, 3) := by decide +kernel
theorem dX0_read_198 : decode cX0_read 198 = .ok (.iconst 0, 1) := by decide +kernel
theorem dX0_read_199 : decode cX0_read 199 = .ok (.ireturn, 1) := by decide +kernel
theorem dX0_read_200 : decode cX0_read 200 = .ok (.aload_n 0, 1) := by decide +kernel
theorem dX0_read_201 : decode cX0_read 201 = .ok (.getfield 58, 3) := by decide +kernel
theorem dX0_read_204 : decode cX0_read 204 = .ok (.aload_n 2, 1) := by decide +kernel
theorem dX0_read_205 : decode cX0_read 205 = .ok (.getfield 80, 3) := by decide +kernel
theorem dX0_read_208 : decode cX0_read 208 = .ok (.aload_n 2, 1) := by decide +kernel
theorem dX0_read_209 : decode cX0_read 209 = .ok (.getfield 80, 3) := by decide +kernel
theorem dX0_read_212 : decode cX0_read 212 = .ok (.invokevirtual 135, 3) := by decide +kernel
theorem dX0_read_215 : decode cX0_read 215 = .ok (.aload_n 0, 1) := by decide +kernel
theorem dX0_read_216 : decode cX0_read 216 = .ok (.aload_n 2, 1) := by decide +kernel
theorem dX0_read_217 : decode cX0_read 217 = .ok (.invokevirtual 89, 3) := by decide +kernel
theorem dX0_read_220 : decode cX0_read 220 = .ok (.iconst 1, 1) := by decide +kernel
theorem dX0_read_221 : decode cX0_read 221 = .ok (.ireturn, 1) := by decide +kernel
theorem dX0_write_0 : decode cX0_write 0 = .ok (.aload_n 0, 1) := by decide +kernel
theorem dX0_write_1 : decode cX0_write 1 = .ok (.getfield 58, 3) := by decide +kernel
theorem dX0_write_4 : decode cX0_write 4 = .ok (.aload_n 1, 1) := by decide +kernel
theorem dX0_write_5 : decode cX0_write 5 = .ok (.getfield 93, 3) := by decide +kernel
theorem dX0_write_8 : decode cX0_write 8 = .ok (.aload_n 0, 1) := by decide +kernel
theorem dX0_write_9 : decode cX0_write 9 = .ok (.getfield 28, 3) := by decide +kernel
theorem dX0_write_12 : decode cX0_write 12 = .ok (.invokevirtual 117, 3) := by decide +kernel
theorem dX0_write_15 : decode cX0_write 15 = .ok (.aload_n 0, 1) := by decide +kernel
theorem dX0_write_16 : decode cX0_write 16 = .ok (.getfield 58, 3) := by decide +kernel
theorem dX0_write_19 : decode cX0_write 19 = .ok (.aload_n 1, 1) := by decide +kernel
theorem dX0_write_20 : decode cX0_write 20 = .ok (.getfield 80, 3) := by decide +kernel
theorem dX0_write_23 : decode cX0_write 23 = .ok (.aload_n 0, 1) := by decide +kernel
theorem dX0_write_24 : decode cX0_write 24 = .ok (.getfield 28, 3) := by decide +kernel
theorem dX0_write_27 : decode cX0_write 27 = .ok (.aload_n 0, 1) := by decide +kernel
theorem dX0_write_28 : decode cX0_write 28 = .ok (.getfield 31, 3) := by decide +kernel
theorem dX0_write_31 : decode cX0_write 31 = .ok (.invokevirtual 99, 3) := by decide +kernel
theorem dX0_write_34 : decode cX0_write 34 = .ok (.aload_n 0, 1) := by decide +kernel
theorem dX0_write_35 : decode cX0_write 35 = .ok (.getfield 58, 3) := by decide +kernel
theorem dX0_write_38 : decode cX0_write 38 = .ok (.aload_n 1, 1) := by decide +kernel
theorem dX0_write_39 : decode cX0_write 39 = .ok (.getfield 86, 3) := by decide +kernel
theorem dX0_write_42 : decode cX0_write 42 = .ok (.aload_n 0, 1) := by decide +kernel
theorem dX0_write_43 : decode cX0_write 43 = .ok (.getfield 28, 3) := by decide +kernel
theorem dX0_write_46 : decode cX0_write 46 = .ok (.aload_n 0, 1) := by decide +kernel
theorem dX0_write_47 : decode cX0_write 47 = .ok (.getfield 34, 3) := by decide +kernel
theorem dX0_write_50 : decode cX0_write 50 = .ok (.invokevirtual 99, 3) := by decide +kernel
theorem dX0_write_53 : decode cX0_write 53 = .ok (.aload_n 0, 1) := by decide +kernel
theorem dX0_write_54 : decode cX0_write 54 = .ok (.getfield 58, 3) := by decide +kernel
theorem dX0_write_57 : decode cX0_write 57 = .ok (.aload_n 0, 1) := by decide +kernel
theorem dX0_write_58 : decode cX0_write 58 = .ok (.getfield 34, 3) := by decide +kernel
theorem dX0_write_61 : decode cX0_write 61 = .ok (.aload_n 2, 1) := by decide +kernel
theorem dX0_write_62 : decode cX0_write 62 = .ok (.invokevirtual 138, 3) := by decide +kernel
theorem dX0_write_65 : decode cX0_write 65 = .ok (.aload_n 0, 1) := by decide +kernel
theorem dX0_write_66 : decode cX0_write 66 = .ok (.getfield 58, 3) := by decide +kernel
theorem dX0_write_69 : decode cX0_write 69 = .ok (.aload_n 0, 1) := by decide +kernel
theorem dX0_write_70 : decode cX0_write 70 = .ok (.getfield 31, 3) := by decide +kernel
theorem dX0_write_73 : decode cX0_write 73 = .ok (.invokevirtual 141, 3) := by decide +kernel
theorem dX0_write_76 : decode cX0_write 76 = .ok (.ifCond .eq 12, 3) := by decide +kernel
theorem dX0_write_79 : decode cX0_write 79 = .ok (.aload_n 2, 1) := by decide +kernel
theorem dX0_write_80 : decode cX0_write 80 = .ok (.iconst 3, 1) := by decide +kernel
theorem dX0_write_81 : decode cX0_write 81 = .ok (.dup2, 1) := by decide +kernel
theorem dX0_write_82 : decode cX0_write 82 = .ok (.laload, 1) := by decide +kernel
theorem dX0_write_83 : decode cX0_write 83 = .ok (.ldc2_w 144, 3) := by decide +kernel
theorem dX0_write_86 : decode cX0_write 86 = .ok (.lor, 1) := by decide +kernel
theorem dX0_write_87 : decode cX0_write 87 = .ok (.lastore, 1) := by decide +kernel
theorem dX0_write_88 : decode cX0_write 88 = .ok (.return_, 1) := by decide +kernel
theorem dX0_negate_0 : decode cX0_negate 0 = .ok (.aload_n 0, 1) := by decide +kernel
theorem dX0_negate_1 : decode cX0_negate 1 = .ok (.getfield 58, 3) := by decide +kernel
theorem dX0_negate_4 : decode cX0_negate 4 = .ok (.aload_n 1, 1) := by decide +kernel
theorem dX0_negate_5 : decode cX0_negate 5 = .ok (.getfield 80, 3) := by decide +kernel
theorem dX0_negate_8 : decode cX0_negate 8 = .ok (.aload_n 1, 1) := by decide +kernel
theorem dX0_negate_9 : decode cX0_negate 9 = .ok (.getfield 80, 3) := by decide +kernel
theorem dX0_negate_12 : decode cX0_negate 12 = .ok (.invokevirtual 135, 3) := by decide +kernel
theorem dX0_negate_15 : decode cX0_negate 15 = .ok (.aload_n 0, 1) := by decide +kernel
theorem dX0_negate_16 : decode cX0_negate 16 = .ok (.getfield 58, 3) := by decide +kernel
theorem dX0_negate_19 : decode cX0_negate 19 = .ok (.aload_n 1, 1) := by decide +kernel
theorem dX0_negate_20 : decode cX0_negate 20 = .ok (.getfield 96, 3) := by decide +kernel
theorem dX0_negate_23 : decode cX0_negate 23 = .ok (.aload_n 1, 1) := by decide +kernel
theorem dX0_negate_24 : decode cX0_negate 24 = .ok (.getfield 96, 3) := by decide +kernel
theorem dX0_negate_27 : decode cX0_negate 27 = .ok (.invokevirtual 135, 3) := by decide +kernel
theorem dX0_negate_30 : decode cX0_negate 30 = .ok (.return_, 1) := by decide +kernel
theorem dX0_add_0 : decode cX0_add 0 = .ok (.aload_n 0, 1) := by decide +kernel
theorem dX0_add_1 : decode cX0_add 1 = .ok (.getfield 58, 3) := by decide +kernel
theorem dX0_add_4 : decode cX0_add 4 = .ok (.aload_n 1, 1) := by decide +kernel
theorem dX0_add_5 : decode cX0_add 5 = .ok (.getfield 86, 3) := by decide +kernel
theorem dX0_add_8 : decode cX0_add 8 = .ok (.aload_n 1, 1) := by decide +kernel
theorem dX0_add_9 : decode cX0_add 9 = .ok (.getfield 80, 3) := by decide +kernel
theorem dX0_add_12 : decode cX0_add 12 = .ok (.aload_n 0, 1) := by decide +kernel
theorem dX0_add_13 : decode cX0_add 13 = .ok (.getfield 37, 3) := by decide +kernel
theorem dX0_add_16 : decode cX0_add 16 = .ok (.invokevirtual 120, 3) := by decide +kernel
theorem dX0_add_19 : decode cX0_add 19 = .ok (.aload_n 0, 1) := by decide +kernel
theorem dX0_add_20 : decode cX0_add 20 = .ok (.getfield 58, 3) := by decide +kernel
theorem dX0_add_23 : decode cX0_add 23 = .ok (.aload_n 2, 1) := by decide +kernel
theorem dX0_add_24 : decode cX0_add 24 = .ok (.getfield 86, 3) := by decide +kernel
theorem dX0_add_27 : decode cX0_add 27 = .ok (.aload_n 2, 1) := by decide +kernel
theorem dX0_add_28 : decode cX0_add 28 = .ok (.getfield 80, 3) := by decide +kernel
theorem dX0_add_31 : decode cX0_add 31 = .ok (.aload_n 0, 1) := by decide +kernel
theorem dX0_add_32 : decode cX0_add 32 = .ok (.getfield 40, 3) := by decide +kernel
theorem dX0_add_35 : decode cX0_add 35 = .ok (.invokevirtual 120, 3) := by decide +kernel
theorem dX0_add_38 : decode cX0_add 38 = .ok (.aload_n 0, 1) := by decide +kernel
theorem dX0_add_39 : decode cX0_add 39 = .ok (.getfield 58, 3) := by decide +kernel
theorem dX0_add_42 : decode cX0_add 42 = .ok (.aload_n 0, 1) := by decide +kernel
theorem dX0_add_43 : decode cX0_add 43 = .ok (.getfield 37, 3) := by decide +kernel
theorem dX0_add_46 : decode cX0_add 46 = .ok (.aload_n 0, 1) := by decide +kernel
theorem dX0_add_47 : decode cX0_add 47 = .ok (.getfield 40, 3) := by decide +kernel
theorem dX0_add_50 : decode cX0_add 50 = .ok (.aload_n 0, 1) := by decide +kernel
theorem dX0_add_51 : decode cX0_add 51 = .ok (.getfield 28, 3) := by decide +kernel
theorem dX0_add_54 : decode cX0_add 54 = .ok (.invokevirtual 99, 3) := by decide +kernel
theorem dX0_add_57 : decode cX0_add 57 = .ok (.aload_n 0, 1) := by decide +kernel
theorem dX0_add_58 : decode cX0_add 58 = .ok (.getfield 58, 3) := by decide +kernel
theorem dX0_add_61 : decode cX0_add 61 = .ok (.aload_n 1, 1) := by decide +kernel
theorem dX0_add_62 : decode cX0_add 62 = .ok (.getfield 86, 3) := by decide +kernel
theorem dX0_add_65 : decode cX0_add 65 = .ok (.aload_n 1, 1) := by decide +kernel
theorem dX0_add_66 : decode cX0_add 66 = .ok (.getfield 80, 3) := by decide +kernel
theorem dX0_add_69 : decode cX0_add 69 = .ok (.aload_n 0, 1) := by decide +kernel
theorem dX0_add_70 : decode cX0_add 70 = .ok (.getfield 37, 3) := by decide +kernel
theorem dX0_add_73 : decode cX0_add 73 = .ok (.invokevirtual 73, 3) := by decide +kernel
theorem dX0_add_76 : decode cX0_add 76 = .ok (.aload_n 0, 1) := by decide +kernel
theorem dX0_add_77 : decode cX0_add 77 = .ok (.getfield 58, 3) := by decide +kernel
theorem dX0_add_80 : decode cX0_add 80 = .ok (.aload_n 2, 1) := by decide +kernel
theorem dX0_add_81 : decode cX0_add 81 = .ok (.getfield 86, 3) := by decide +kernel
theorem dX0_add_84 : decode cX0_add 84 = .ok (.aload_n 2, 1) := by decide +kernel
theorem dX0_add_85 : decode cX0_add 85 = .ok (.getfield 80, 3) := by decide +kernel
theorem dX0_add_88 : decode cX0_add 88 = .ok (.aload_n 0, 1) := by decide +kernel
theorem dX0_add_89 : decode cX0_add 89 = .ok (.getfield 40, 3) := by decide +kernel
theorem dX0_add_92 : decode cX0_add 92 = .ok (.invokevirtual 73, 3) := by decide +kernel
theorem dX0_add_95 : decode cX0_add 95 = .ok (.aload_n 0, 1) := by decide +kernel
theorem dX0_add_96 : decode cX0_add 96 = .ok (.getfield 58, 3) := by decide +kernel
theorem dX0_add_99 : decode cX0_add 99 = .ok (.aload_n 0, 1) := by decide +kernel
theorem dX0_add_100 : decode cX0_add 100 = .ok (.getfield 37, 3) := by decide +kernel
theorem dX0_add_103 : decode cX0_add 103 = .ok (.aload_n 0, 1) := by decide +kernel
theorem dX0_add_104 : decode cX0_add 104 = .ok (.getfield 40, 3) := by decide +kernel
theorem dX0_add_107 : decode cX0_add 107 = .ok (.aload_n 0, 1) := by decide +kernel
theorem dX0_add_108 : decode cX0_add 108 = .ok (.getfield 31, 3) := by decide +kernel
theorem dX0_add_111 : decode cX0_add 111 = .ok (.invokevirtual 99, 3) := by decide +kernel
theorem dX0_add_114 : decode cX0_add 114 = .ok (.aload_n 0, 1) := by decide +kernel
theorem dX0_add_115 : decode cX0_add 115 = .ok (.getfield 58, 3) := by decide +kernel
theorem dX0_add_118 : decode cX0_add 118 = .ok (.aload_n 1, 1) := by decide +kernel
theorem dX0_add_119 : decode cX0_add 119 = .ok (.getfield 96, 3) := by decide +kernel
theorem dX0_add_122 : decode cX0_add 122 = .ok (.aload_n 2, 1) := by decide +kernel
theorem dX0_add_123 : decode cX0_add 123 = .ok (.getfield 96, 3) := by decide +kernel
theorem dX0_add_126 : decode cX0_add 126 = .ok (.aload_n 0, 1) := by decide +kernel
theorem dX0_add_127 : decode cX0_add 127 = .ok (.getfield 34, 3) := by decide +kernel
theorem dX0_add_130 : decode cX0_add 130 = .ok (.invokevirtual 99, 3) := by decide +kernel
theorem dX0_add_133 : decode cX0_add 133 = .ok (.aload_n 0, 1) := by decide +kernel
theorem dX0_add_134 : decode cX0_add 134 = .ok (.getfield 58, 3) := by decide +kernel
theorem dX0_add_137 : decode cX0_add 137 = .ok (.aload_n 0, 1) := by decide +kernel
theorem dX0_add_138 : decode cX0_add 138 = .ok (.getfield 34, 3) := by decide +kernel
theorem dX0_add_141 : decode cX0_add 141 = .ok (.aload_n 0, 1) := by decide +kernel
theorem dX0_add_142 : decode cX0_add 142 = .ok (.getfield 25, 3) := by decide +kernel
theorem dX0_add_145 : decode cX0_add 145 = .ok (.aload_n 0, 1) := by decide +kernel
theorem dX0_add_146 : decode cX0_add 146 = .ok (.getfield 34, 3) := by decide +kernel
theorem dX0_add_149 : decode cX0_add 149 = .ok (.invokevirtual 99, 3) := by decide +kernel
theorem dX0_add_152 : decode cX0_add 152 = .ok (.aload_n 0, 1) := by decide +kernel
theorem dX0_add_153 : decode cX0_add 153 = .ok (.getfield 58, 3) := by decide +kernel
theorem dX0_add_156 : decode cX0_add 156 = .ok (.aload_n 1, 1) := by decide +kernel
theorem dX0_add_157 : decode cX0_add 157 = .ok (.getfield 93, 3) := by decide +kernel
theorem dX0_add_160 : decode cX0_add 160 = .ok (.aload_n 2, 1) := by decide +kernel
theorem dX0_add_161 : decode cX0_add 161 = .ok (.getfield 93, 3) := by decide +kernel
theorem dX0_add_164 : decode cX0_add 164 = .ok (.aload_n 0, 1) := by decide +kernel
theorem dX0_add_165 : decode cX0_add 165 = .ok (.getfield 43, 3) := by decide +kernel
theorem dX0_add_168 : decode cX0_add 168 = .ok (.invokevirtual 99, 3) := by decide +kernel
theorem dX0_add_171 : decode cX0_add 171 = .ok (.aload_n 0, 1) := by decide +kernel
theorem dX0_add_172 : decode cX0_add 172 = .ok (.getfield 58, 3) := by decide +kernel
theorem dX0_add_175 : decode cX0_add 175 = .ok (.aload_n 0, 1) := by decide +kernel
theorem dX0_add_176 : decode cX0_add 176 = .ok (.getfield 43, 3) := by decide +kernel
theorem dX0_add_179 : decode cX0_add 179 = .ok (.aload_n 0, 1) := by decide +kernel
theorem dX0_add_180 : decode cX0_add 180 = .ok (.getfield 43, 3) := by decide +kernel
theorem dX0_add_183 : decode cX0_add 183 = .ok (.aload_n 0, 1) := by decide +kernel
theorem dX0_add_184 : decode cX0_add 184 = .ok (.getfield 43, 3) := by decide +kernel
theorem dX0_add_187 : decode cX0_add 187 = .ok (.invokevirtual 73, 3) := by decide +kernel
theorem dX0_add_190 : decode cX0_add 190 = .ok (.aload_n 0, 1) := by decide +kernel
theorem dX0_add_191 : decode cX0_add 191 = .ok (.getfield 58, 3) := by decide +kernel
theorem dX0_add_194 : decode cX0_add 194 = .ok (.aload_n 0, 1) := by decide +kernel
theorem dX0_add_195 : decode cX0_add 195 = .ok (.getfield 31, 3) := by decide +kernel
theorem dX0_add_198 : decode cX0_add 198 = .ok (.aload_n 0, 1) := by decide +kernel
theorem dX0_add_199 : decode cX0_add 199 = .ok (.getfield 28, 3) := by decide +kernel
theorem dX0_add_202 : decode cX0_add 202 = .ok (.aload_n 0, 1) := by decide +kernel
theorem dX0_add_203 : decode cX0_add 203 = .ok (.getfield 37, 3) := by decide +kernel
theorem dX0_add_206 : decode cX0_add 206 = .ok (.invokevirtual 120, 3) := by decide +kernel
theorem dX0_add_209 : decode cX0_add 209 = .ok (.aload_n 0, 1) := by decide +kernel
theorem dX0_add_210 : decode cX0_add 210 = .ok (.getfield 58, 3) := by decide +kernel
theorem dX0_add_213 : decode cX0_add 213 = .ok (.aload_n 0, 1) := by decide +kernel
theorem dX0_add_214 : decode cX0_add 214 = .ok (.getfield 31, 3) := by decide +kernel
theorem dX0_add_217 : decode cX0_add 217 = .ok (.aload_n 0, 1) := by decide +kernel
theorem dX0_add_218 : decode cX0_add 218 = .ok (.getfield 28, 3) := by decide +kernel
theorem dX0_add_221 : decode cX0_add 221 = .ok (.aload_n 0, 1) := by decide +kernel
theorem dX0_add_222 : decode cX0_add 222 = .ok (.getfield 46, 3) := by decide +kernel
theorem dX0_add_225 : decode cX0_add 225 = .ok (.invokevirtual 73, 3) := by decide +kernel
theorem dX0_add_228 : decode cX0_add 228 = .ok (.aload_n 0, 1) := by decide +kernel
theorem dX0_add_229 : decode cX0_add 229 = .ok (.getfield 58, 3) := by decide +kernel
theorem dX0_add_232 : decode cX0_add 232 = .ok (.aload_n 0, 1) := by decide +kernel
theorem dX0_add_233 : decode cX0_add 233 = .ok (.getfield 43, 3) := by decide +kernel
theorem dX0_add_236 : decode cX0_add 236 = .ok (.aload_n 0, 1) := by decide +kernel
theorem dX0_add_237 : decode cX0_add 237 = .ok (.getfield 34, 3) := by decide +kernel
theorem dX0_add_240 : decode cX0_add 240 = .ok (.aload_n 0, 1) := by decide +kernel
theorem dX0_add_241 : decode cX0_add 241 = .ok (.getfield 40, 3) := by decide +kernel
theorem dX0_add_244 : decode cX0_add 244 = .ok (.invokevirtual 120, 3) := by decide +kernel
theorem dX0_add_247 : decode cX0_add 247 = .ok (.aload_n 0, 1) := by decide +kernel
theorem dX0_add_248 : decode cX0_add 248 = .ok (.getfield 58, 3) := by decide +kernel
theorem dX0_add_251 : decode cX0_add 251 = .ok (.aload_n 0, 1) := by decide +kernel
theorem dX0_add_252 : decode cX0_add 252 = .ok (.getfield 43, 3) := by decide +kernel
theorem dX0_add_255 : decode cX0_add 255 = .ok (.aload_n 0, 1) := by decide +kernel
theorem dX0_add_256 : decode cX0_add 256 = .ok (.getfield 34, 3) := by decide +kernel
theorem dX0_add_259 : decode cX0_add 259 = .ok (.aload_n 0, 1) := by decide +kernel
theorem dX0_add_260 : decode cX0_add 260 = .ok (.getfield 43, 3) := by decide +kernel
theorem dX0_add_263 : decode cX0_add 263 = .ok (.invokevirtual 73, 3) := by decide +kernel
theorem dX0_add_266 : decode cX0_add 266 = .ok (.aload_n 0, 1) := by decide +kernel
theorem dX0_add_267 : decode cX0_add 267 = .ok (.getfield 58, 3) := by decide +kernel
theorem dX0_add_270 : decode cX0_add 270 = .ok (.aload_n 0, 1) := by decide +kernel
theorem dX0_add_271 : decode cX0_add 271 = .ok (.getfield 37, 3) := by decide +kernel
theorem dX0_add_274 : decode cX0_add 274 = .ok (.aload_n 0, 1) := by decide +kernel
theorem dX0_add_275 : decode cX0_add 275 = .ok (.getfield 40, 3) := by decide +kernel
theorem dX0_add_278 : decode cX0_add 278 = .ok (.aload_n 3, 1) := by decide +kernel
theorem dX0_add_279 : decode cX0_add 279 = .ok (.getfield 80, 3) := by decide +kernel
theorem dX0_add_282 : decode cX0_add 282 = .ok (.invokevirtual 99, 3) := by decide +kernel
theorem dX0_add_285 : decode cX0_add 285 = .ok (.aload_n 0, 1) := by decide +kernel
theorem dX0_add_286 : decode cX0_add 286 = .ok (.getfield 58, 3) := by decide +kernel
theorem dX0_add_289 : decode cX0_add 289 = .ok (.aload_n 0, 1) := by decide +kernel
theorem dX0_add_290 : decode cX0_add 290 = .ok (.getfield 43, 3) := by decide +kernel
theorem dX0_add_293 : decode cX0_add 293 = .ok (.aload_n 0, 1) := by decide +kernel
theorem dX0_add_294 : decode cX0_add 294 = .ok (.getfield 46, 3) := by decide +kernel
theorem dX0_add_297 : decode cX0_add 297 = .ok (.aload_n 3, 1) := by decide +kernel
theorem dX0_add_298 : decode cX0_add 298 = .ok (.getfield 86, 3) := by decide +kernel
theorem dX0_add_301 : decode cX0_add 301 = .ok (.invokevirtual 99, 3) := by decide +kernel
theorem dX0_add_304 : decode cX0_add 304 = .ok (.aload_n 0, 1) := by decide +kernel
theorem dX0_add_305 : decode cX0_add 305 = .ok (.getfield 58, 3) := by decide +kernel
theorem dX0_add_308 : decode cX0_add 308 = .ok (.aload_n 0, 1) := by decide +kernel
theorem dX0_add_309 : decode cX0_add 309 = .ok (.getfield 40, 3) := by decide +kernel
theorem dX0_add_312 : decode cX0_add 312 = .ok (.aload_n 0, 1) := by decide +kernel
theorem dX0_add_313 : decode cX0_add 313 = .ok (.getfield 43, 3) := by decide +kernel
theorem dX0_add_316 : decode cX0_add 316 = .ok (.aload_n 3, 1) := by decide +kernel
theorem dX0_add_317 : decode cX0_add 317 = .ok (.getfield 93, 3) := by decide +kernel
theorem dX0_add_320 : decode cX0_add 320 = .ok (.invokevirtual 99, 3) := by decide +kernel
theorem dX0_add_323 : decode cX0_add 323 = .ok (.aload_n 0, 1) := by decide +kernel
theorem dX0_add_324 : decode cX0_add 324 = .ok (.getfield 58, 3) := by decide +kernel
theorem dX0_add_327 : decode cX0_add 327 = .ok (.aload_n 0, 1) := by decide +kernel
theorem dX0_add_328 : decode cX0_add 328 = .ok (.getfield 37, 3) := by decide +kernel
theorem dX0_add_331 : decode cX0_add 331 = .ok (.aload_n 0, 1) := by decide +kernel
theorem dX0_add_332 : decode cX0_add 332 = .ok (.getfield 46, 3) := by decide +kernel
theorem dX0_add_335 : decode cX0_add 335 = .ok (.aload_n 3, 1) := by decide +kernel
theorem dX0_add_336 : decode cX0_add 336 = .ok (.getfield 96, 3) := by decide +kernel
theorem dX0_add_339 : decode cX0_add 339 = .ok (.invokevirtual 99, 3) := by decide +kernel
theorem dX0_add_342 : decode cX0_add 342 = .ok (.return_, 1) := by decide +kernel
theorem dX0_twice_0 : decode cX0_twice 0 = .ok (.aload_n 0, 1) := by decide +kernel
theorem dX0_twice_1 : decode cX0_twice 1 = .ok (.getfield 58, 3) := by decide +kernel
theorem dX0_twice_4 : decode cX0_twice 4 = .ok (.aload_n 1, 1) := by decide +kernel
theorem dX0_twice_5 : decode cX0_twice 5 = .ok (.getfield 80, 3) := by decide +kernel
theorem dX0_twice_8 : decode cX0_twice 8 = .ok (.aload_n 1, 1) := by decide +kernel
theorem dX0_twice_9 : decode cX0_twice 9 = .ok (.getfield 86, 3) := by decide +kernel
theorem dX0_twice_12 : decode cX0_twice 12 = .ok (.aload_n 0, 1) := by decide +kernel
theorem dX0_twice_13 : decode cX0_twice 13 = .ok (.getfield 37, 3) := by decide +kernel
theorem dX0_twice_16 : decode cX0_twice 16 = .ok (.invokevirtual 73, 3) := by decide +kernel
theorem dX0_twice_19 : decode cX0_twice 19 = .ok (.aload_n 0, 1) := by decide +kernel
theorem dX0_twice_20 : decode cX0_twice 20 = .ok (.getfield 58, 3) := by decide +kernel
theorem dX0_twice_23 : decode cX0_twice 23 = .ok (.aload_n 0, 1) := by decide +kernel
theorem dX0_twice_24 : decode cX0_twice 24 = .ok (.getfield 37, 3) := by decide +kernel
theorem dX0_twice_27 : decode cX0_twice 27 = .ok (.aload_n 0, 1) := by decide +kernel
theorem dX0_twice_28 : decode cX0_twice 28 = .ok (.getfield 37, 3) := by decide +kernel
theorem dX0_twice_31 : decode cX0_twice 31 = .ok (.invokevirtual 114, 3) := by decide +kernel
theorem dX0_twice_34 : decode cX0_twice 34 = .ok (.aload_n 0, 1) := by decide +kernel
theorem dX0_twice_35 : decode cX0_twice 35 = .ok (.getfield 58, 3) := by decide +kernel
theorem dX0_twice_38 : decode cX0_twice 38 = .ok (.aload_n 1, 1) := by decide +kernel
theorem dX0_twice_39 : decode cX0_twice 39 = .ok (.getfield 80, 3) := by decide +kernel
theorem dX0_twice_42 : decode cX0_twice 42 = .ok (.aload_n 0, 1) := by decide +kernel
theorem dX0_twice_43 : decode cX0_twice 43 = .ok (.getfield 28, 3) := by decide +kernel
theorem dX0_twice_46 : decode cX0_twice 46 = .ok (.invokevirtual 114, 3) := by decide +kernel
theorem dX0_twice_49 : decode cX0_twice 49 = .ok (.aload_n 0, 1) := by decide +kernel
theorem dX0_twice_50 : decode cX0_twice 50 = .ok (.getfield 58, 3) := by decide +kernel
theorem dX0_twice_53 : decode cX0_twice 53 = .ok (.aload_n 1, 1) := by decide +kernel
theorem dX0_twice_54 : decode cX0_twice 54 = .ok (.getfield 86, 3) := by decide +kernel
theorem dX0_twice_57 : decode cX0_twice 57 = .ok (.aload_n 0, 1) := by decide +kernel
theorem dX0_twice_58 : decode cX0_twice 58 = .ok (.getfield 31, 3) := by decide +kernel
theorem dX0_twice_61 : decode cX0_twice 61 = .ok (.invokevirtual 114, 3) := by decide +kernel
theorem dX0_twice_64 : decode cX0_twice 64 = .ok (.aload_n 0, 1) := by decide +kernel
theorem dX0_twice_65 : decode cX0_twice 65 = .ok (.getfield 58, 3) := by decide +kernel
theorem dX0_twice_68 : decode cX0_twice 68 = .ok (.aload_n 1, 1) := by decide +kernel
theorem dX0_twice_69 : decode cX0_twice 69 = .ok (.getfield 93, 3) := by decide +kernel
theorem dX0_twice_72 : decode cX0_twice 72 = .ok (.aload_n 0, 1) := by decide +kernel
theorem dX0_twice_73 : decode cX0_twice 73 = .ok (.getfield 34, 3) := by decide +kernel
theorem dX0_twice_76 : decode cX0_twice 76 = .ok (.invokevirtual 114, 3) := by decide +kernel
theorem dX0_twice_79 : decode cX0_twice 79 = .ok (.aload_n 0, 1) := by decide +kernel
theorem dX0_twice_80 : decode cX0_twice 80 = .ok (.getfield 58, 3) := by decide +kernel
theorem dX0_twice_83 : decode cX0_twice 83 = .ok (.aload_n 0, 1) := by decide +kernel
theorem dX0_twice_84 : decode cX0_twice 84 = .ok (.getfield 34, 3) := by decide +kernel
theorem dX0_twice_87 : decode cX0_twice 87 = .ok (.aload_n 0, 1) := by decide +kernel
theorem dX0_twice_88 : decode cX0_twice 88 = .ok (.getfield 34, 3) := by decide +kernel
theorem dX0_twice_91 : decode cX0_twice 91 = .ok (.aload_n 0, 1) := by decide +kernel
theorem dX0_twice_92 : decode cX0_twice 92 = .ok (.getfield 34, 3) := by decide +kernel
theorem dX0_twice_95 : decode cX0_twice 95 = .ok (.invokevirtual 73, 3) := by decide +kernel
theorem dX0_twice_98 : decode cX0_twice 98 = .ok (.aload_n 0, 1) := by decide +kernel
theorem dX0_twice_99 : decode cX0_twice 99 = .ok (.getfield 58, 3) := by decide +kernel
theorem dX0_twice_102 : decode cX0_twice 102 = .ok (.aload_n 0, 1) := by decide +kernel
theorem dX0_twice_103 : decode cX0_twice 103 = .ok (.getfield 28, 3) := by decide +kernel
theorem dX0_twice_106 : decode cX0_twice 106 = .ok (.aload_n 0, 1) := by decide +kernel
theorem dX0_twice_107 : decode cX0_twice 107 = .ok (.getfield 31, 3) := by decide +kernel
theorem dX0_twice_110 : decode cX0_twice 110 = .ok (.aload_n 0, 1) := by decide +kernel
theorem dX0_twice_111 : decode cX0_twice 111 = .ok (.getfield 46, 3) := by decide +kernel
theorem dX0_twice_114 : decode cX0_twice 114 = .ok (.invokevirtual 73, 3) := by decide +kernel
theorem dX0_twice_117 : decode cX0_twice 117 = .ok (.aload_n 0, 1) := by decide +kernel
theorem dX0_twice_118 : decode cX0_twice 118 = .ok (.getfield 58, 3) := by decide +kernel
theorem dX0_twice_121 : decode cX0_twice 121 = .ok (.aload_n 0, 1) := by decide +kernel
theorem dX0_twice_122 : decode cX0_twice 122 = .ok (.getfield 46, 3) := by decide +kernel
theorem dX0_twice_125 : decode cX0_twice 125 = .ok (.aload_n 0, 1) := by decide +kernel
theorem dX0_twice_126 : decode cX0_twice 126 = .ok (.getfield 37, 3) := by decide +kernel
theorem dX0_twice_129 : decode cX0_twice 129 = .ok (.aload_n 0, 1) := by decide +kernel
theorem dX0_twice_130 : decode cX0_twice 130 = .ok (.getfield 37, 3) := by decide +kernel
theorem dX0_twice_133 : decode cX0_twice 133 = .ok (.invokevirtual 120, 3) := by decide +kernel
theorem dX0_twice_136 : decode cX0_twice 136 = .ok (.aload_n 0, 1) := by decide +kernel
theorem dX0_twice_137 : decode cX0_twice 137 = .ok (.getfield 58, 3) := by decide +kernel
theorem dX0_twice_140 : decode cX0_twice 140 = .ok (.aload_n 0, 1) := by decide +kernel
theorem dX0_twice_141 : decode cX0_twice 141 = .ok (.getfield 28, 3) := by decide +kernel
theorem dX0_twice_144 : decode cX0_twice 144 = .ok (.aload_n 0, 1) := by decide +kernel
theorem dX0_twice_145 : decode cX0_twice 145 = .ok (.getfield 31, 3) := by decide +kernel
theorem dX0_twice_148 : decode cX0_twice 148 = .ok (.aload_n 0, 1) := by decide +kernel
theorem dX0_twice_149 : decode cX0_twice 149 = .ok (.getfield 43, 3) := by decide +kernel
theorem dX0_twice_152 : decode cX0_twice 152 = .ok (.invokevirtual 120, 3) := by decide +kernel
theorem dX0_twice_155 : decode cX0_twice 155 = .ok (.aload_n 0, 1) := by decide +kernel
theorem dX0_twice_156 : decode cX0_twice 156 = .ok (.getfield 58, 3) := by decide +kernel
theorem dX0_twice_159 : decode cX0_twice 159 = .ok (.aload_n 0, 1) := by decide +kernel
theorem dX0_twice_160 : decode cX0_twice 160 = .ok (.getfield 34, 3) := by decide +kernel
theorem dX0_twice_163 : decode cX0_twice 163 = .ok (.aload_n 0, 1) := by decide +kernel
theorem dX0_twice_164 : decode cX0_twice 164 = .ok (.getfield 43, 3) := by decide +kernel
theorem dX0_twice_167 : decode cX0_twice 167 = .ok (.aload_n 0, 1) := by decide +kernel
theorem dX0_twice_168 : decode cX0_twice 168 = .ok (.getfield 40, 3) := by decide +kernel
theorem dX0_twice_171 : decode cX0_twice 171 = .ok (.invokevirtual 73, 3) := by decide +kernel
theorem dX0_twice_174 : decode cX0_twice 174 = .ok (.aload_n 0, 1) := by decide +kernel
theorem dX0_twice_175 : decode cX0_twice 175 = .ok (.getfield 58, 3) := by decide +kernel
theorem dX0_twice_178 : decode cX0_twice 178 = .ok (.aload_n 0, 1) := by decide +kernel
theorem dX0_twice_179 : decode cX0_twice 179 = .ok (.getfield 37, 3) := by decide +kernel
theorem dX0_twice_182 : decode cX0_twice 182 = .ok (.aload_n 0, 1) := by decide +kernel
theorem dX0_twice_183 : decode cX0_twice 183 = .ok (.getfield 40, 3) := by decide +kernel
theorem dX0_twice_186 : decode cX0_twice 186 = .ok (.aload_n 2, 1) := by decide +kernel
theorem dX0_twice_187 : decode cX0_twice 187 = .ok (.getfield 80, 3) := by decide +kernel
theorem dX0_twice_190 : decode cX0_twice 190 = .ok (.invokevirtual 99, 3) := by decide +kernel
theorem dX0_twice_193 : decode cX0_twice 193 = .ok (.aload_n 0, 1) := by decide +kernel
theorem dX0_twice_194 : decode cX0_twice 194 = .ok (.getfield 58, 3) := by decide +kernel
theorem dX0_twice_197 : decode cX0_twice 197 = .ok (.aload_n 0, 1) := by decide +kernel
theorem dX0_twice_198 : decode cX0_twice 198 = .ok (.getfield 43, 3) := by decide +kernel
theorem dX0_twice_201 : decode cX0_twice 201 = .ok (.aload_n 0, 1) := by decide +kernel
theorem dX0_twice_202 : decode cX0_twice 202 = .ok (.getfield 46, 3) := by decide +kernel
theorem dX0_twice_205 : decode cX0_twice 205 = .ok (.aload_n 2, 1) := by decide +kernel
theorem dX0_twice_206 : decode cX0_twice 206 = .ok (.getfield 86, 3) := by decide +kernel
theorem dX0_twice_209 : decode cX0_twice 209 = .ok (.invokevirtual 99, 3) := by decide +kernel
theorem dX0_twice_212 : decode cX0_twice 212 = .ok (.aload_n 0, 1) := by decide +kernel
theorem dX0_twice_213 : decode cX0_twice 213 = .ok (.getfield 58, 3) := by decide +kernel
theorem dX0_twice_216 : decode cX0_twice 216 = .ok (.aload_n 0, 1) := by decide +kernel
theorem dX0_twice_217 : decode cX0_twice 217 = .ok (.getfield 40, 3) := by decide +kernel
theorem dX0_twice_220 : decode cX0_twice 220 = .ok (.aload_n 0, 1) := by decide +kernel
theorem dX0_twice_221 : decode cX0_twice 221 = .ok (.getfield 43, 3) := by decide +kernel
theorem dX0_twice_224 : decode cX0_twice 224 = .ok (.aload_n 2, 1) := by decide +kernel
theorem dX0_twice_225 : decode cX0_twice 225 = .ok (.getfield 93, 3) := by decide +kernel
theorem dX0_twice_228 : decode cX0_twice 228 = .ok (.invokevirtual 99, 3) := by decide +kernel
theorem dX0_twice_231 : decode cX0_twice 231 = .ok (.aload_n 0, 1) := by decide +kernel
theorem dX0_twice_232 : decode cX0_twice 232 = .ok (.getfield 58, 3) := by decide +kernel
theorem dX0_twice_235 : decode cX0_twice 235 = .ok (.aload_n 0, 1) := by decide +kernel
theorem dX0_twice_236 : decode cX0_twice 236 = .ok (.getfield 37, 3) := by decide +kernel
theorem dX0_twice_239 : decode cX0_twice 239 = .ok (.aload_n 0, 1) := by decide +kernel
theorem dX0_twice_240 : decode cX0_twice 240 = .ok (.getfield 46, 3) := by decide +kernel
theorem dX0_twice_243 : decode cX0_twice 243 = .ok (.aload_n 2, 1) := by decide +kernel
theorem dX0_twice_244 : decode cX0_twice 244 = .ok (.getfield 96, 3) := by decide +kernel
theorem dX0_twice_247 : decode cX0_twice 247 = .ok (.invokevirtual 99, 3) := by decide +kernel
theorem dX0_twice_250 : decode cX0_twice 250 = .ok (.return_, 1) := by decide +kernel
theorem dX0_multiply_0 : decode cX0_multiply 0 = .ok (.aload_n 0, 1) := by decide +kernel
theorem dX0_multiply_1 : decode cX0_multiply 1 = .ok (.aload_n 0, 1) := by decide +kernel
theorem dX0_multiply_2 : decode cX0_multiply 2 = .ok (.getfield 54, 3) := by decide +kernel
theorem dX0_multiply_5 : decode cX0_multiply 5 = .ok (.iconst 0, 1) := by decide +kernel
theorem dX0_multiply_6 : decode cX0_multiply 6 = .ok (.aaload, 1) := by decide +kernel
theorem dX0_multiply_7 : decode cX0_multiply 7 = .ok (.invokevirtual 146, 3) := by decide +kernel
theorem dX0_multiply_10 : decode cX0_multiply 10 = .ok (.iconst 1, 1) := by decide +kernel
theorem dX0_multiply_11 : decode cX0_multiply 11 = .ok (.istore 4, 2) := by decide +kernel
theorem dX0_multiply_13 : decode cX0_multiply 13 = .ok (.iload 4, 2) := by decide +kernel
theorem dX0_multiply_15 : decode cX0_multiply 15 = .ok (.aload_n 0, 1) := by decide +kernel
theorem dX0_multiply_16 : decode cX0_multiply 16 = .ok (.getfield 54, 3) := by decide +kernel
theorem dX0_multiply_19 : decode cX0_multiply 19 = .ok (.arraylength, 1) := by decide +kernel
theorem dX0_multiply_20 : decode cX0_multiply 20 = .ok (.if_icmp .ge 30, 3) := by decide +kernel
theorem dX0_multiply_23 : decode cX0_multiply 23 = .ok (.aload_n 0, 1) := by decide +kernel
theorem dX0_multiply_24 : decode cX0_multiply 24 = .ok (.aload_n 0, 1) := by decide +kernel
theorem dX0_multiply_25 : decode cX0_multiply 25 = .ok (.getfield 54, 3) := by decide +kernel
theorem dX0_multiply_28 : decode cX0_multiply 28 = .ok (.iload 4, 2) := by decide +kernel
theorem dX0_multiply_30 : decode cX0_multiply 30 = .ok (.iconst 1, 1) := by decide +kernel
theorem dX0_multiply_31 : decode cX0_multiply 31 = .ok (.isub, 1) := by decide +kernel
theorem dX0_multiply_32 : decode cX0_multiply 32 = .ok (.aaload, 1) := by decide +kernel
theorem dX0_multiply_33 : decode cX0_multiply 33 = .ok (.aload_n 2, 1) := by decide +kernel
theorem dX0_multiply_34 : decode cX0_multiply 34 = .ok (.aload_n 0, 1) := by decide +kernel
theorem dX0_multiply_35 : decode cX0_multiply 35 = .ok (.getfield 54, 3) := by decide +kernel
theorem dX0_multiply_38 : decode cX0_multiply 38 = .ok (.iload 4, 2) := by decide +kernel
theorem dX0_multiply_40 : decode cX0_multiply 40 = .ok (.aaload, 1) := by decide +kernel
theorem dX0_multiply_41 : decode cX0_multiply 41 = .ok (.invokevirtual 149, 3) := by decide +kernel
theorem dX0_multiply_44 : decode cX0_multiply 44 = .ok (.iinc 4 1, 3) := by decide +kernel
theorem dX0_multiply_47 : decode cX0_multiply 47 = .ok (.goto (-34), 3) := by decide +kernel
theorem dX0_multiply_50 : decode cX0_multiply 50 = .ok (.aload_n 0, 1) := by decide +kernel
theorem dX0_multiply_51 : decode cX0_multiply 51 = .ok (.aload_n 3, 1) := by decide +kernel
theorem dX0_multiply_52 : decode cX0_multiply 52 = .ok (.invokevirtual 146, 3) := by decide +kernel
theorem dX0_multiply_55 : decode cX0_multiply 55 = .ok (.bipush 63, 2) := by decide +kernel
theorem dX0_multiply_57 : decode cX0_multiply 57 = .ok (.istore 4, 2) := by decide +kernel
theorem dX0_multiply_59 : decode cX0_multiply 59 = .ok (.iload 4, 2) := by decide +kernel
theorem dX0_multiply_61 : decode cX0_multiply 61 = .ok (.ifCond .lt 47, 3) := by decide +kernel
theorem dX0_multiply_64 : decode cX0_multiply 64 = .ok (.iconst 0, 1) := by decide +kernel
theorem dX0_multiply_65 : decode cX0_multiply 65 = .ok (.istore 5, 2) := by decide +kernel
theorem dX0_multiply_67 : decode cX0_multiply 67 = .ok (.iload 5, 2) := by decide +kernel
theorem dX0_multiply_69 : decode cX0_multiply 69 = .ok (.iconst 4, 1) := by decide +kernel
theorem dX0_multiply_70 : decode cX0_multiply 70 = .ok (.if_icmp .ge 15, 3) := by decide +kernel
theorem dX0_multiply_73 : decode cX0_multiply 73 = .ok (.aload_n 0, 1) := by decide +kernel
theorem dX0_multiply_74 : decode cX0_multiply 74 = .ok (.aload_n 3, 1) := by decide +kernel
theorem dX0_multiply_75 : decode cX0_multiply 75 = .ok (.aload_n 3, 1) := by decide +kernel
theorem dX0_multiply_76 : decode cX0_multiply 76 = .ok (.invokevirtual 152, 3) := by decide +kernel
theorem dX0_multiply_79 : decode cX0_multiply 79 = .ok (.iinc 5 1, 3) := by decide +kernel
theorem dX0_multiply_82 : decode cX0_multiply 82 = .ok (.goto (-15), 3) := by decide +kernel
theorem dX0_multiply_85 : decode cX0_multiply 85 = .ok (.aload_n 0, 1) := by decide +kernel
theorem dX0_multiply_86 : decode cX0_multiply 86 = .ok (.aload_n 3, 1) := by decide +kernel
theorem dX0_multiply_87 : decode cX0_multiply 87 = .ok (.aload_n 0, 1) := by decide +kernel
theorem dX0_multiply_88 : decode cX0_multiply 88 = .ok (.getfield 54, 3) := by decide +kernel
theorem dX0_multiply_91 : decode cX0_multiply 91 = .ok (.aload_n 1, 1) := by decide +kernel
theorem dX0_multiply_92 : decode cX0_multiply 92 = .ok (.iload 4, 2) := by decide +kernel
theorem dX0_multiply_94 : decode cX0_multiply 94 = .ok (.invokestatic 156, 3) := by decide +kernel
theorem dX0_multiply_97 : decode cX0_multiply 97 = .ok (.aaload, 1) := by decide +kernel
theorem dX0_multiply_98 : decode cX0_multiply 98 = .ok (.aload_n 3, 1) := by decide +kernel
theorem dX0_multiply_99 : decode cX0_multiply 99 = .ok (.invokevirtual 149, 3) := by decide +kernel
theorem dX0_multiply_102 : decode cX0_multiply 102 = .ok (.iinc 4 (-1), 3) := by decide +kernel
theorem dX0_multiply_105 : decode cX0_multiply 105 = .ok (.goto (-46), 3) := by decide +kernel
theorem dX0_multiply_108 : decode cX0_multiply 108 = .ok (.return_, 1) := by decide +kernel
theorem dX0_isNeutral_0 : decode cX0_isNeutral 0 = .ok (.aload_n 0, 1) := by decide +kernel
theorem dX0_isNeutral_1 : decode cX0_isNeutral 1 = .ok (.getfield 58, 3) := by decide +kernel
theorem dX0_isNeutral_4 : decode cX0_isNeutral 4 = .ok (.aload_n 1, 1) := by decide +kernel
theorem dX0_isNeutral_5 : decode cX0_isNeutral 5 = .ok (.getfield 80, 3) := by decide +kernel
theorem dX0_isNeutral_8 : decode cX0_isNeutral 8 = .ok (.invokevirtual 131, 3) := by decide +kernel
theorem dX0_isNeutral_11 : decode cX0_isNeutral 11 = .ok (.ifCond .eq 25, 3) := by decide +kernel
theorem dX0_isNeutral_14 : decode cX0_isNeutral 14 = .ok (.aload_n 0, 1) := by decide +kernel
theorem dX0_isNeutral_15 : decode cX0_isNeutral 15 = .ok (.getfield 58, 3) := by decide +kernel
theorem dX0_isNeutral_18 : decode cX0_isNeutral 18 = .ok (.aload_n 1, 1) := by decide +kernel
theorem dX0_isNeutral_19 : decode cX0_isNeutral 19 = .ok (.getfield 86, 3) := by decide +kernel
theorem dX0_isNeutral_22 : decode cX0_isNeutral 22 = .ok (.aload_n 1, 1) := by decide +kernel
theorem dX0_isNeutral_23 : decode cX0_isNeutral 23 = .ok (.getfield 93, 3) := by decide +kernel
theorem dX0_isNeutral_26 : decode cX0_isNeutral 26 = .ok (.invokevirtual 159, 3) := by decide +kernel
theorem dX0_isNeutral_29 : decode cX0_isNeutral 29 = .ok (.ifCond .eq 7, 3) := by decide +kernel
theorem dX0_isNeutral_32 : decode cX0_isNeutral 32 = .ok (.iconst 1, 1) := by decide +kernel
theorem dX0_isNeutral_33 : decode cX0_isNeutral 33 = .ok (.goto 4, 3) := by decide +kernel
theorem dX0_isNeutral_36 : decode cX0_isNeutral 36 = .ok (.iconst 0, 1) := by decide +kernel
theorem dX0_isNeutral_37 : decode cX0_isNeutral 37 = .ok (.ireturn, 1) := by decide +kernel
theorem dX0_findOtherShape_0 : decode cX0_findOtherShape 0 = .ok (.aload_n 0, 1) := by decide +kernel
theorem dX0_findOtherShape_1 : decode cX0_findOtherShape 1 = .ok (.getfield 58, 3) := by decide +kernel
theorem dX0_findOtherShape_4 : decode cX0_findOtherShape 4 = .ok (.aload_n 0, 1) := by decide +kernel
theorem dX0_findOtherShape_5 : decode cX0_findOtherShape 5 = .ok (.getfield 18, 3) := by decide +kernel
theorem dX0_findOtherShape_8 : decode cX0_findOtherShape 8 = .ok (.aload_n 1, 1) := by decide +kernel
theorem dX0_findOtherShape_9 : decode cX0_findOtherShape 9 = .ok (.getfield 86, 3) := by decide +kernel
theorem dX0_findOtherShape_12 : decode cX0_findOtherShape 12 = .ok (.aload_n 0, 1) := by decide +kernel
theorem dX0_findOtherShape_13 : decode cX0_findOtherShape 13 = .ok (.getfield 28, 3) := by decide +kernel
theorem dX0_findOtherShape_16 : decode cX0_findOtherShape 16 = .ok (.invokevirtual 120, 3) := by decide +kernel
theorem dX0_findOtherShape_19 : decode cX0_findOtherShape 19 = .ok (.aload_n 0, 1) := by decide +kernel
theorem dX0_findOtherShape_20 : decode cX0_findOtherShape 20 = .ok (.getfield 58, 3) := by decide +kernel
theorem dX0_findOtherShape_23 : decode cX0_findOtherShape 23 = .ok (.aload_n 0, 1) := by decide +kernel
theorem dX0_findOtherShape_24 : decode cX0_findOtherShape 24 = .ok (.getfield 28, 3) := by decide +kernel
theorem dX0_findOtherShape_27 : decode cX0_findOtherShape 27 = .ok (.aload_n 0, 1) := by decide +kernel
theorem dX0_findOtherShape_28 : decode cX0_findOtherShape 28 = .ok (.getfield 28, 3) := by decide +kernel
theorem dX0_findOtherShape_31 : decode cX0_findOtherShape 31 = .ok (.invokevirtual 117, 3) := by decide +kernel
theorem dX0_findOtherShape_34 : decode cX0_findOtherShape 34 = .ok (.aload_n 0, 1) := by decide +kernel
theorem dX0_findOtherShape_35 : decode cX0_findOtherShape 35 = .ok (.getfield 58, 3) := by decide +kernel
theorem dX0_findOtherShape_38 : decode cX0_findOtherShape 38 = .ok (.aload_n 0, 1) := by decide +kernel
theorem dX0_findOtherShape_39 : decode cX0_findOtherShape 39 = .ok (.getfield 18, 3) := by decide +kernel
theorem dX0_findOtherShape_42 : decode cX0_findOtherShape 42 = .ok (.aload_n 1, 1) := by decide +kernel
theorem dX0_findOtherShape_43 : decode cX0_findOtherShape 43 = .ok (.getfield 86, 3) := by decide +kernel
theorem dX0_findOtherShape_46 : decode cX0_findOtherShape 46 = .ok (.aload_n 0, 1) := by decide +kernel
theorem dX0_findOtherShape_47 : decode cX0_findOtherShape 47 = .ok (.getfield 31, 3) := by decide +kernel
theorem dX0_findOtherShape_50 : decode cX0_findOtherShape 50 = .ok (.invokevirtual 73, 3) := by decide +kernel
theorem dX0_findOtherShape_53 : decode cX0_findOtherShape 53 = .ok (.aload_n 0, 1) := by decide +kernel
theorem dX0_findOtherShape_54 : decode cX0_findOtherShape 54 = .ok (.getfield 58, 3) := by decide +kernel
theorem dX0_findOtherShape_57 : decode cX0_findOtherShape 57 = .ok (.aload_n 0, 1) := by decide +kernel
theorem dX0_findOtherShape_58 : decode cX0_findOtherShape 58 = .ok (.getfield 28, 3) := by decide +kernel
theorem dX0_findOtherShape_61 : decode cX0_findOtherShape 61 = .ok (.aload_n 0, 1) := by decide +kernel
theorem dX0_findOtherShape_62 : decode cX0_findOtherShape 62 = .ok (.getfield 31, 3) := by decide +kernel
theorem dX0_findOtherShape_65 : decode cX0_findOtherShape 65 = .ok (.aload_n 2, 1) := by decide +kernel
theorem dX0_findOtherShape_66 : decode cX0_findOtherShape 66 = .ok (.invokevirtual 99, 3) := by decide +kernel
theorem dX0_findOtherShape_69 : decode cX0_findOtherShape 69 = .ok (.return_, 1) := by decide +kernel
theorem dX9_init_0 : decode cX9_init 0 = .ok (.aload_n 0, 1) := by decide +kernel
theorem dX9_init_1 : decode cX9_init 1 = .ok (.invokespecial 1, 3) := by decide +kernel
theorem dX9_init_4 : decode cX9_init 4 = .ok (.aload_n 0, 1) := by decide +kernel
theorem dX9_init_5 : decode cX9_init 5 = .ok (.bipush 24, 2) := by decide +kernel
theorem dX9_init_7 : decode cX9_init 7 = .ok (.iconst 4, 1) := by decide +kernel
theorem dX9_init_8 : decode cX9_init 8 = .ok (.multianewarray 11 2, 4) := by decide +kernel
theorem dX9_init_12 : decode cX9_init 12 = .ok (.putfield 13, 3) := by decide +kernel
theorem dX9_init_15 : decode cX9_init 15 = .ok (.aload_n 0, 1) := by decide +kernel
theorem dX9_init_16 : decode cX9_init 16 = .ok (.new 16, 3) := by decide +kernel
theorem dX9_init_19 : decode cX9_init 19 = .ok (.dup, 1) := by decide +kernel
theorem dX9_init_20 : decode cX9_init 20 = .ok (.invokespecial 18, 3) := by decide +kernel
theorem dX9_init_23 : decode cX9_init 23 = .ok (.putfield 19, 3) := by decide +kernel
theorem dX9_init_26 : decode cX9_init 26 = .ok (.aload_n 0, 1) := by decide +kernel
theorem dX9_init_27 : decode cX9_init 27 = .ok (.sipush 400, 3) := by decide +kernel
theorem dX9_init_30 : decode cX9_init 30 = .ok (.putfield 23, 3) := by decide +kernel
theorem dX9_init_33 : decode cX9_init 33 = .ok (.aload_n 0, 1) := by decide +kernel
theorem dX9_init_34 : decode cX9_init 34 = .ok (.iconst 0, 1) := by decide +kernel
theorem dX9_init_35 : decode cX9_init 35 = .ok (.putfield 27, 3) := by decide +kernel
theorem dX9_init_38 : decode cX9_init 38 = .ok (.aload_n 0, 1) := by decide +kernel
theorem dX9_init_39 : decode cX9_init 39 = .ok (.iconst 0, 1) := by decide +kernel
theorem dX9_init_40 : decode cX9_init 40 = .ok (.putfield 30, 3) := by decide +kernel
theorem dX9_init_43 : decode cX9_init 43 = .ok (.aload_n 0, 1) := by decide +kernel
theorem dX9_init_44 : decode cX9_init 44 = .ok (.iconst 0, 1) := by decide +kernel
theorem dX9_init_45 : decode cX9_init 45 = .ok (.putfield 33, 3) := by decide +kernel
theorem dX9_init_48 : decode cX9_init 48 = .ok (.aload_n 0, 1) := by decide +kernel
theorem dX9_init_49 : decode cX9_init 49 = .ok (.new 36, 3) := by decide +kernel
theorem dX9_init_52 : decode cX9_init 52 = .ok (.dup, 1) := by decide +kernel
theorem dX9_init_53 : decode cX9_init 53 = .ok (.invokespecial 38, 3) := by decide +kernel
theorem dX9_init_56 : decode cX9_init 56 = .ok (.putfield 39, 3) := by decide +kernel
theorem dX9_init_59 : decode cX9_init 59 = .ok (.aload_n 0, 1) := by decide +kernel
theorem dX9_init_60 : decode cX9_init 60 = .ok (.new 43, 3) := by decide +kernel
theorem dX9_init_63 : decode cX9_init 63 = .ok (.dup, 1) := by decide +kernel
theorem dX9_init_64 : decode cX9_init 64 = .ok (.invokespecial 45, 3) := by decide +kernel
theorem dX9_init_67 : decode cX9_init 67 = .ok (.putfield 46, 3) := by decide +kernel
theorem dX9_init_70 : decode cX9_init 70 = .ok (.aload_n 0, 1) := by decide +kernel
theorem dX9_init_71 : decode cX9_init 71 = .ok (.new 50, 3) := by decide +kernel
theorem dX9_init_74 : decode cX9_init 74 = .ok (.dup, 1) := by decide +kernel
theorem dX9_init_75 : decode cX9_init 75 = .ok (.aload_n 0, 1) := by decide +kernel
theorem dX9_init_76 : decode cX9_init 76 = .ok (.getfield 39, 3) := by decide +kernel
theorem dX9_init_79 : decode cX9_init 79 = .ok (.invokespecial 52, 3) := by decide +kernel
theorem dX9_init_82 : decode cX9_init 82 = .ok (.putfield 55, 3) := by decide +kernel
theorem dX9_init_85 : decode cX9_init 85 = .ok (.aload_n 0, 1) := by decide +kernel
theorem dX9_init_86 : decode cX9_init 86 = .ok (.new 59, 3) := by decide +kernel
theorem dX9_init_89 : decode cX9_init 89 = .ok (.dup, 1) := by decide +kernel
theorem dX9_init_90 : decode cX9_init 90 = .ok (.aload_n 0, 1) := by decide +kernel
theorem dX9_init_91 : decode cX9_init 91 = .ok (.getfield 39, 3) := by decide +kernel
theorem dX9_init_94 : decode cX9_init 94 = .ok (.invokespecial 61, 3) := by decide +kernel
theorem dX9_init_97 : decode cX9_init 97 = .ok (.putfield 62, 3) := by decide +kernel
theorem dX9_init_100 : decode cX9_init 100 = .ok (.aload_n 0, 1) := by decide +kernel
theorem dX9_init_101 : decode cX9_init 101 = .ok (.new 66, 3) := by decide +kernel
theorem dX9_init_104 : decode cX9_init 104 = .ok (.dup, 1) := by decide +kernel
theorem dX9_init_105 : decode cX9_init 105 = .ok (.invokespecial 68, 3) := by decide +kernel
theorem dX9_init_108 : decode cX9_init 108 = .ok (.putfield 69, 3) := by decide +kernel
theorem dX9_init_111 : decode cX9_init 111 = .ok (.aload_n 0, 1) := by decide +kernel
theorem dX9_init_112 : decode cX9_init 112 = .ok (.new 73, 3) := by decide +kernel
theorem dX9_init_115 : decode cX9_init 115 = .ok (.dup, 1) := by decide +kernel
theorem dX9_init_116 : decode cX9_init 116 = .ok (.aload_n 0, 1) := by decide +kernel
theorem dX9_init_117 : decode cX9_init 117 = .ok (.getfield 55, 3) := by decide +kernel
theorem dX9_init_120 : decode cX9_init 120 = .ok (.aload_n 0, 1) := by decide +kernel
theorem dX9_init_121 : decode cX9_init 121 = .ok (.getfield 46, 3) := by decide +kernel
theorem dX9_init_124 : decode cX9_init 124 = .ok (.aload_n 0, 1) := by decide +kernel
theorem dX9_init_125 : decode cX9_init 125 = .ok (.getfield 69, 3) := by decide +kernel
theorem dX9_init_128 : decode cX9_init 128 = .ok (.invokespecial 75, 3) := by decide +kernel
theorem dX9_init_131 : decode cX9_init 131 = .ok (.putfield 78, 3) := by decide +kernel
theorem dX9_init_134 : decode cX9_init 134 = .ok (.aload_n 0, 1) := by decide +kernel
theorem dX9_init_135 : decode cX9_init 135 = .ok (.bipush 10, 2) := by decide +kernel
theorem dX9_init_137 : decode cX9_init 137 = .ok (.newarray .long, 2) := by decide +kernel
theorem dX9_init_139 : decode cX9_init 139 = .ok (.putfield 82, 3) := by decide +kernel
theorem dX9_init_142 : decode cX9_init 142 = .ok (.aload_n 0, 1) := by decide +kernel
theorem dX9_init_143 : decode cX9_init 143 = .ok (.bipush 10, 2) := by decide +kernel
theorem dX9_init_145 : decode cX9_init 145 = .ok (.newarray .long, 2) := by decide +kernel
theorem dX9_init_147 : decode cX9_init 147 = .ok (.putfield 86, 3) := by decide +kernel
theorem dX9_init_150 : decode cX9_init 150 = .ok (.aload_n 0, 1) := by decide +kernel
theorem dX9_init_151 : decode cX9_init 151 = .ok (.bipush 8, 2) := by decide +kernel
theorem dX9_init_153 : decode cX9_init 153 = .ok (.newarray .long, 2) := by decide +kernel
theorem dX9_init_155 : decode cX9_init 155 = .ok (.putfield 89, 3) := by decide +kernel
theorem dX9_init_158 : decode cX9_init 158 = .ok (.aload_n 0, 1) := by decide +kernel
theorem dX9_init_159 : decode cX9_init 159 = .ok (.new 92, 3) := by decide +kernel
theorem dX9_init_162 : decode cX9_init 162 = .ok (.dup, 1) := by decide +kernel
theorem dX9_init_163 : decode cX9_init 163 = .ok (.invokespecial 94, 3) := by decide +kernel
theorem dX9_init_166 : decode cX9_init 166 = .ok (.putfield 95, 3) := by decide +kernel
theorem dX9_init_169 : decode cX9_init 169 = .ok (.aload_n 0, 1) := by decide +kernel
theorem dX9_init_170 : decode cX9_init 170 = .ok (.new 92, 3) := by decide +kernel
theorem dX9_init_173 : decode cX9_init 173 = .ok (.dup, 1) := by decide +kernel
theorem dX9_init_174 : decode cX9_init 174 = .ok (.invokespecial 94, 3) := by decide +kernel
theorem dX9_init_177 : decode cX9_init 177 = .ok (.putfield 99, 3) := by decide +kernel
theorem dX9_init_180 : decode cX9_init 180 = .ok (.return_, 1) := by decide +kernel
theorem dX9_set_0 : decode cX9_set 0 = .ok (.iload_n 1, 1) := by decide +kernel
theorem dX9_set_1 : decode cX9_set 1 = .ok (.invokestatic 102, 3) := by decide +kernel
theorem dX9_set_4 : decode cX9_set 4 = .ok (.ifCond .ne 6, 3) := by decide +kernel
theorem dX9_set_7 : decode cX9_set 7 = .ok (.bipush (-101), 2) := by decide +kernel
theorem dX9_set_9 : decode cX9_set 9 = .ok (.ireturn, 1) := by decide +kernel
theorem dX9_set_10 : decode cX9_set 10 = .ok (.iload_n 2, 1) := by decide +kernel
theorem dX9_set_11 : decode cX9_set 11 = .ok (.iconst 4, 1) := by decide +kernel
theorem dX9_set_12 : decode cX9_set 12 = .ok (.invokestatic 106, 3) := by decide +kernel
theorem dX9_set_15 : decode cX9_set 15 = .ok (.ifCond .ne 6, 3) := by decide +kernel
theorem dX9_set_18 : decode cX9_set 18 = .ok (.bipush (-102), 2) := by decide +kernel
theorem dX9_set_20 : decode cX9_set 20 = .ok (.ireturn, 1) := by decide +kernel
theorem dX9_set_21 : decode cX9_set 21 = .ok (.aload_n 0, 1) := by decide +kernel
theorem dX9_set_22 : decode cX9_set 22 = .ok (.getfield 13, 3) := by decide +kernel
theorem dX9_set_25 : decode cX9_set 25 = .ok (.iload_n 1, 1) := by decide +kernel
theorem dX9_set_26 : decode cX9_set 26 = .ok (.aaload, 1) := by decide +kernel
theorem dX9_set_27 : decode cX9_set 27 = .ok (.iload_n 2, 1) := by decide +kernel
theorem dX9_set_28 : decode cX9_set 28 = .ok (.lload_n 3, 1) := by decide +kernel
theorem dX9_set_29 : decode cX9_set 29 = .ok (.lastore, 1) := by decide +kernel
theorem dX9_set_30 : decode cX9_set 30 = .ok (.iconst 1, 1) := by decide +kernel
theorem dX9_set_31 : decode cX9_set 31 = .ok (.ireturn, 1) := by decide +kernel
theorem dX9_word_0 : decode cX9_word 0 = .ok (.iload_n 1, 1) := by decide +kernel
theorem dX9_word_1 : decode cX9_word 1 = .ok (.invokestatic 102, 3) := by decide +kernel
theorem dX9_word_4 : decode cX9_word 4 = .ok (.ifCond .eq 11, 3) := by decide +kernel
theorem dX9_word_7 : decode cX9_word 7 = .ok (.iload_n 2, 1) := by decide +kernel
theorem dX9_word_8 : decode cX9_word 8 = .ok (.iconst 4, 1) := by decide +kernel
theorem dX9_word_9 : decode cX9_word 9 = .ok (.invokestatic 106, 3) := by decide +kernel
theorem dX9_word_12 : decode cX9_word 12 = .ok (.ifCond .ne 5, 3) := by decide +kernel
theorem dX9_word_15 : decode cX9_word 15 = .ok (.lconst 0, 1) := by decide +kernel
theorem dX9_word_16 : decode cX9_word 16 = .ok (.lreturn, 1) := by decide +kernel
theorem dX9_word_17 : decode cX9_word 17 = .ok (.aload_n 0, 1) := by decide +kernel
theorem dX9_word_18 : decode cX9_word 18 = .ok (.getfield 13, 3) := by decide +kernel
theorem dX9_word_21 : decode cX9_word 21 = .ok (.iload_n 1, 1) := by decide +kernel
theorem dX9_word_22 : decode cX9_word 22 = .ok (.aaload, 1) := by decide +kernel
theorem dX9_word_23 : decode cX9_word 23 = .ok (.iload_n 2, 1) := by decide +kernel
theorem dX9_word_24 : decode cX9_word 24 = .ok (.laload, 1) := by decide +kernel
theorem dX9_word_25 : decode cX9_word 25 = .ok (.lreturn, 1) := by decide +kernel
theorem dX9_copy_0 : decode cX9_copy 0 = .ok (.iload_n 1, 1) := by decide +kernel
theorem dX9_copy_1 : decode cX9_copy 1 = .ok (.invokestatic 102, 3) := by decide +kernel
theorem dX9_copy_4 : decode cX9_copy 4 = .ok (.ifCond .eq 10, 3) := by decide +kernel
theorem dX9_copy_7 : decode cX9_copy 7 = .ok (.iload_n 2, 1) := by decide +kernel
theorem dX9_copy_8 : decode cX9_copy 8 = .ok (.invokestatic 102, 3) := by decide +kernel
theorem dX9_copy_11 : decode cX9_copy 11 = .ok (.ifCond .ne 6, 3) := by decide +kernel
theorem dX9_copy_14 : decode cX9_copy 14 = .ok (.bipush (-101), 2) := by decide +kernel
theorem dX9_copy_16 : decode cX9_copy 16 = .ok (.ireturn, 1) := by decide +kernel
theorem dX9_copy_17 : decode cX9_copy 17 = .ok (.aload_n 0, 1) := by decide +kernel
theorem dX9_copy_18 : decode cX9_copy 18 = .ok (.getfield 13, 3) := by decide +kernel
theorem dX9_copy_21 : decode cX9_copy 21 = .ok (.iload_n 1, 1) := by decide +kernel
theorem dX9_copy_22 : decode cX9_copy 22 = .ok (.aaload, 1) := by decide +kernel
theorem dX9_copy_23 : decode cX9_copy 23 = .ok (.aload_n 0, 1) := by decide +kernel
theorem dX9_copy_24 : decode cX9_copy 24 = .ok (.getfield 13, 3) := by decide +kernel
theorem dX9_copy_27 : decode cX9_copy 27 = .ok (.iload_n 2, 1) := by decide +kernel
theorem dX9_copy_28 : decode cX9_copy 28 = .ok (.aaload, 1) := by decide +kernel
theorem dX9_copy_29 : decode cX9_copy 29 = .ok (.invokestatic 110, 3) := by decide +kernel
theorem dX9_copy_32 : decode cX9_copy 32 = .ok (.iconst 1, 1) := by decide +kernel
theorem dX9_copy_33 : decode cX9_copy 33 = .ok (.ireturn, 1) := by decide +kernel
theorem dX9_type_0 : decode cX9_type 0 = .ok (.iload_n 3, 1) := by decide +kernel
theorem dX9_type_1 : decode cX9_type 1 = .ok (.iconst 1, 1) := by decide +kernel
theorem dX9_type_2 : decode cX9_type 2 = .ok (.if_icmp .lt 9, 3) := by decide +kernel
theorem dX9_type_5 : decode cX9_type 5 = .ok (.iload_n 3, 1) := by decide +kernel
theorem dX9_type_6 : decode cX9_type 6 = .ok (.bipush 8, 2) := by decide +kernel
theorem dX9_type_8 : decode cX9_type 8 = .ok (.if_icmp .le 6, 3) := by decide +kernel
theorem dX9_type_11 : decode cX9_type 11 = .ok (.bipush (-102), 2) := by decide +kernel
theorem dX9_type_13 : decode cX9_type 13 = .ok (.ireturn, 1) := by decide +kernel
theorem dX9_type_14 : decode cX9_type 14 = .ok (.iload_n 3, 1) := by decide +kernel
theorem dX9_type_15 : decode cX9_type 15 = .ok (.sipush 400, 3) := by decide +kernel
theorem dX9_type_18 : decode cX9_type 18 = .ok (.aload_n 0, 1) := by decide +kernel
theorem dX9_type_19 : decode cX9_type 19 = .ok (.getfield 19, 3) := by decide +kernel
theorem dX9_type_22 : decode cX9_type 22 = .ok (.getfield 114, 3) := by decide +kernel
theorem dX9_type_25 : decode cX9_type 25 = .ok (.isub, 1) := by decide +kernel
theorem dX9_type_26 : decode cX9_type 26 = .ok (.if_icmp .le 6, 3) := by decide +kernel
theorem dX9_type_29 : decode cX9_type 29 = .ok (.bipush (-104), 2) := by decide +kernel
theorem dX9_type_31 : decode cX9_type 31 = .ok (.ireturn, 1) := by decide +kernel
theorem dX9_type_32 : decode cX9_type 32 = .ok (.aload_n 0, 1) := by decide +kernel
theorem dX9_type_33 : decode cX9_type 33 = .ok (.getfield 19, 3) := by decide +kernel
theorem dX9_type_36 : decode cX9_type 36 = .ok (.lload_n 1, 1) := by decide +kernel
theorem dX9_type_37 : decode cX9_type 37 = .ok (.iload_n 3, 1) := by decide +kernel
theorem dX9_type_38 : decode cX9_type 38 = .ok (.invokevirtual 117, 3) := by decide +kernel
theorem dX9_type_41 : decode cX9_type 41 = .ok (.aload_n 0, 1) := by decide +kernel
theorem dX9_type_42 : decode cX9_type 42 = .ok (.getfield 19, 3) := by decide +kernel
theorem dX9_type_45 : decode cX9_type 45 = .ok (.getfield 114, 3) := by decide +kernel
theorem dX9_type_48 : decode cX9_type 48 = .ok (.ireturn, 1) := by decide +kernel
theorem dX9_clear_0 : decode cX9_clear 0 = .ok (.aload_n 0, 1) := by decide +kernel
theorem dX9_clear_1 : decode cX9_clear 1 = .ok (.getfield 19, 3) := by decide +kernel
theorem dX9_clear_4 : decode cX9_clear 4 = .ok (.getfield 114, 3) := by decide +kernel
theorem dX9_clear_7 : decode cX9_clear 7 = .ok (.istore_n 1, 1) := by decide +kernel
theorem dX9_clear_8 : decode cX9_clear 8 = .ok (.aload_n 0, 1) := by decide +kernel
theorem dX9_clear_9 : decode cX9_clear 9 = .ok (.getfield 19, 3) := by decide +kernel
theorem dX9_clear_12 : decode cX9_clear 12 = .ok (.iconst 0, 1) := by decide +kernel
theorem dX9_clear_13 : decode cX9_clear 13 = .ok (.putfield 114, 3) := by decide +kernel
theorem dX9_clear_16 : decode cX9_clear 16 = .ok (.iload_n 1, 1) := by decide +kernel
theorem dX9_clear_17 : decode cX9_clear 17 = .ok (.ireturn, 1) := by decide +kernel
theorem dX9_at_0 : decode cX9_at 0 = .ok (.iload_n 1, 1) := by decide +kernel
theorem dX9_at_1 : decode cX9_at 1 = .ok (.aload_n 0, 1) := by decide +kernel
theorem dX9_at_2 : decode cX9_at 2 = .ok (.getfield 19, 3) := by decide +kernel
theorem dX9_at_5 : decode cX9_at 5 = .ok (.getfield 114, 3) := by decide +kernel
theorem dX9_at_8 : decode cX9_at 8 = .ok (.invokestatic 106, 3) := by decide +kernel
theorem dX9_at_11 : decode cX9_at 11 = .ok (.ifCond .eq 14, 3) := by decide +kernel
theorem dX9_at_14 : decode cX9_at 14 = .ok (.aload_n 0, 1) := by decide +kernel
theorem dX9_at_15 : decode cX9_at 15 = .ok (.getfield 19, 3) := by decide +kernel
theorem dX9_at_18 : decode cX9_at 18 = .ok (.iload_n 1, 1) := by decide +kernel
theorem dX9_at_19 : decode cX9_at 19 = .ok (.invokevirtual 121, 3) := by decide +kernel
theorem dX9_at_22 : decode cX9_at 22 = .ok (.goto 4, 3) := by decide +kernel
theorem dX9_at_25 : decode cX9_at 25 = .ok (.iconst (-1), 1) := by decide +kernel
theorem dX9_at_26 : decode cX9_at 26 = .ok (.ireturn, 1) := by decide +kernel
theorem dX9_flip_0 : decode cX9_flip 0 = .ok (.iload_n 1, 1) := by decide +kernel
theorem dX9_flip_1 : decode cX9_flip 1 = .ok (.invokestatic 102, 3) := by decide +kernel
theorem dX9_flip_4 : decode cX9_flip 4 = .ok (.ifCond .ne 6, 3) := by decide +kernel
theorem dX9_flip_7 : decode cX9_flip 7 = .ok (.bipush (-101), 2) := by decide +kernel
theorem dX9_flip_9 : decode cX9_flip 9 = .ok (.ireturn, 1) := by decide +kernel
theorem dX9_flip_10 : decode cX9_flip 10 = .ok (.iload_n 2, 1) := by decide +kernel
theorem dX9_flip_11 : decode cX9_flip 11 = .ok (.bipush 32, 2) := by decide +kernel
theorem dX9_flip_13 : decode cX9_flip 13 = .ok (.invokestatic 106, 3) := by decide +kernel
theorem dX9_flip_16 : decode cX9_flip 16 = .ok (.ifCond .eq 12, 3) := by decide +kernel
theorem dX9_flip_19 : decode cX9_flip 19 = .ok (.iload_n 3, 1) := by decide +kernel
theorem dX9_flip_20 : decode cX9_flip 20 = .ok (.bipush 8, 2) := by decide +kernel
theorem dX9_flip_22 : decode cX9_flip 22 = .ok (.invokestatic 106, 3) := by decide +kernel
theorem dX9_flip_25 : decode cX9_flip 25 = .ok (.ifCond .ne 6, 3) := by decide +kernel
theorem dX9_flip_28 : decode cX9_flip 28 = .ok (.bipush (-102), 2) := by decide +kernel
theorem dX9_flip_30 : decode cX9_flip 30 = .ok (.ireturn, 1) := by decide +kernel
theorem dX9_flip_31 : decode cX9_flip 31 = .ok (.bipush 8, 2) := by decide +kernel
theorem dX9_flip_33 : decode cX9_flip 33 = .ok (.iload_n 2, 1) := by decide +kernel
theorem dX9_flip_34 : decode cX9_flip 34 = .ok (.imul, 1) := by decide +kernel
theorem dX9_flip_35 : decode cX9_flip 35 = .ok (.iload_n 3, 1) := by decide +kernel
theorem dX9_flip_36 : decode cX9_flip 36 = .ok (.iadd, 1) := by decide +kernel
theorem dX9_flip_37 : decode cX9_flip 37 = .ok (.istore 4, 2) := by decide +kernel
theorem dX9_flip_39 : decode cX9_flip 39 = .ok (.aload_n 0, 1) := by decide +kernel
theorem dX9_flip_40 : decode cX9_flip 40 = .ok (.getfield 13, 3) := by decide +kernel
theorem dX9_flip_43 : decode cX9_flip 43 = .ok (.iload_n 1, 1) := by decide +kernel
theorem dX9_flip_44 : decode cX9_flip 44 = .ok (.aaload, 1) := by decide +kernel
theorem dX9_flip_45 : decode cX9_flip 45 = .ok (.iload 4, 2) := by decide +kernel
theorem dX9_flip_47 : decode cX9_flip 47 = .ok (.bipush 6, 2) := by decide +kernel
theorem dX9_flip_49 : decode cX9_flip 49 = .ok (.ishr, 1) := by decide +kernel
theorem dX9_flip_50 : decode cX9_flip 50 = .ok (.dup2, 1) := by decide +kernel
theorem dX9_flip_51 : decode cX9_flip 51 = .ok (.laload, 1) := by decide +kernel
theorem dX9_flip_52 : decode cX9_flip 52 = .ok (.lconst 1, 1) := by decide +kernel
theorem dX9_flip_53 : decode cX9_flip 53 = .ok (.iload 4, 2) := by decide +kernel
theorem dX9_flip_55 : decode cX9_flip 55 = .ok (.bipush 63, 2) := by decide +kernel
theorem dX9_flip_57 : decode cX9_flip 57 = .ok (.iand, 1) := by decide +kernel
theorem dX9_flip_58 : decode cX9_flip 58 = .ok (.lshl, 1) := by decide +kernel
theorem dX9_flip_59 : decode cX9_flip 59 = .ok (.lxor, 1) := by decide +kernel
theorem dX9_flip_60 : decode cX9_flip 60 = .ok (.lastore, 1) := by decide +kernel
theorem dX9_flip_61 : decode cX9_flip 61 = .ok (.aload_n 0, 1) := by decide +kernel
theorem dX9_flip_62 : decode cX9_flip 62 = .ok (.getfield 13, 3) := by decide +kernel
theorem dX9_flip_65 : decode cX9_flip 65 = .ok (.iload_n 1, 1) := by decide +kernel
theorem dX9_flip_66 : decode cX9_flip 66 = .ok (.aaload, 1) := by decide +kernel
theorem dX9_flip_67 : decode cX9_flip 67 = .ok (.iload 4, 2) := by decide +kernel
theorem dX9_flip_69 : decode cX9_flip 69 = .ok (.invokestatic 125, 3) := by decide +kernel
theorem dX9_flip_72 : decode cX9_flip 72 = .ok (.ireturn, 1) := by decide +kernel
theorem dX9_field_0 : decode cX9_field 0 = .ok (.iload_n 2, 1) := by decide +kernel
theorem dX9_field_1 : decode cX9_field 1 = .ok (.invokestatic 102, 3) := by decide +kernel
theorem dX9_field_4 : decode cX9_field 4 = .ok (.ifCond .eq 18, 3) := by decide +kernel
theorem dX9_field_7 : decode cX9_field 7 = .ok (.iload_n 3, 1) := by decide +kernel
theorem dX9_field_8 : decode cX9_field 8 = .ok (.invokestatic 102, 3) := by decide +kernel
theorem dX9_field_11 : decode cX9_field 11 = .ok (.ifCond .eq 11, 3) := by decide +kernel
theorem dX9_field_14 : decode cX9_field 14 = .ok (.iload 4, 2) := by decide +kernel
theorem dX9_field_16 : decode cX9_field 16 = .ok (.invokestatic 102, 3) := by decide +kernel
theorem dX9_field_19 : decode cX9_field 19 = .ok (.ifCond .ne 6, 3) := by decide +kernel
theorem dX9_field_22 : decode cX9_field 22 = .ok (.bipush (-101), 2) := by decide +kernel
theorem dX9_field_24 : decode cX9_field 24 = .ok (.ireturn, 1) := by decide +kernel
theorem dX9_field_25 : decode cX9_field 25 = .ok (.iload_n 1, 1) := by decide +kernel
theorem dX9_field_26 : decode cX9_field 26 = .ok (.iconst 4, 1) := by decide +kernel
theorem dX9_field_27 : decode cX9_field 27 = .ok (.invokestatic 106, 3) := by decide +kernel
theorem dX9_field_30 : decode cX9_field 30 = .ok (.ifCond .ne 6, 3) := by decide +kernel
theorem dX9_field_33 : decode cX9_field 33 = .ok (.bipush (-102), 2) := by decide +kernel
theorem dX9_field_35 : decode cX9_field 35 = .ok (.ireturn, 1) := by decide +kernel
theorem dX9_field_36 : decode cX9_field 36 = .ok (.aload_n 0, 1) := by decide +kernel
theorem dX9_field_37 : decode cX9_field 37 = .ok (.getfield 39, 3) := by decide +kernel
theorem dX9_field_40 : decode cX9_field 40 = .ok (.aload_n 0, 1) := by decide +kernel
theorem dX9_field_41 : decode cX9_field 41 = .ok (.getfield 13, 3) := by decide +kernel
theorem dX9_field_44 : decode cX9_field 44 = .ok (.iload_n 2, 1) := by decide +kernel
theorem dX9_field_45 : decode cX9_field 45 = .ok (.aaload, 1) := by decide +kernel
theorem dX9_field_46 : decode cX9_field 46 = .ok (.aload_n 0, 1) := by decide +kernel
theorem dX9_field_47 : decode cX9_field 47 = .ok (.getfield 82, 3) := by decide +kernel
theorem dX9_field_50 : decode cX9_field 50 = .ok (.invokevirtual 129, 3) := by decide +kernel
theorem dX9_field_53 : decode cX9_field 53 = .ok (.aload_n 0, 1) := by decide +kernel
theorem dX9_field_54 : decode cX9_field 54 = .ok (.getfield 39, 3) := by decide +kernel
theorem dX9_field_57 : decode cX9_field 57 = .ok (.aload_n 0, 1) := by decide +kernel
theorem dX9_field_58 : decode cX9_field 58 = .ok (.getfield 13, 3) := by decide +kernel
theorem dX9_field_61 : decode cX9_field 61 = .ok (.iload_n 3, 1) := by decide +kernel
theorem dX9_field_62 : decode cX9_field 62 = .ok (.aaload, 1) := by decide +kernel
theorem dX9_field_63 : decode cX9_field 63 = .ok (.aload_n 0, 1) := by decide +kernel
theorem dX9_field_64 : decode cX9_field 64 = .ok (.getfield 86, 3) := by decide +kernel
theorem dX9_field_67 : decode cX9_field 67 = .ok (.invokevirtual 129, 3) := by decide +kernel
theorem dX9_field_70 : decode cX9_field 70 = .ok (.iload_n 1, 1) := by decide +kernel
theorem dX9_field_71 : decode cX9_field 71 = .ok (.iconst 3, 1) := by decide +kernel
theorem dX9_field_72 : decode cX9_field 72 = .ok (.if_icmp .ne 20, 3) := by decide +kernel
theorem dX9_field_75 : decode cX9_field 75 = .ok (.aload_n 0, 1) := by decide +kernel
theorem dX9_field_76 : decode cX9_field 76 = .ok (.getfield 39, 3) := by decide +kernel
theorem dX9_field_79 : decode cX9_field 79 = .ok (.aload_n 0, 1) := by decide +kernel
theorem dX9_field_80 : decode cX9_field 80 = .ok (.getfield 86, 3) := by decide +kernel
theorem dX9_field_83 : decode cX9_field 83 = .ok (.invokevirtual 132, 3) := by decide +kernel
theorem dX9_field_86 : decode cX9_field 86 = .ok (.ifCond .eq 6, 3) := by decide +kernel
theorem dX9_field_89 : decode cX9_field 89 = .ok (.bipush (-103), 2) := by decide +kernel
theorem dX9_field_91 : decode cX9_field 91 = .ok (.ireturn, 1) := by decide +kernel
theorem dX9_field_92 : decode cX9_field 92 = .ok (.aload_n 0, 1) := by decide +kernel
theorem dX9_field_93 : decode cX9_field 93 = .ok (.iload_n 1, 1) := by decide +kernel
theorem dX9_field_94 : decode cX9_field 94 = .ok (.invokevirtual 136, 3) := by decide +kernel
theorem dX9_field_97 : decode cX9_field 97 = .ok (.aload_n 0, 1) := by decide +kernel
theorem dX9_field_98 : decode cX9_field 98 = .ok (.getfield 39, 3) := by decide +kernel
theorem dX9_field_101 : decode cX9_field 101 = .ok (.aload_n 0, 1) := by decide +kernel
theorem dX9_field_102 : decode cX9_field 102 = .ok (.getfield 82, 3) := by decide +kernel
theorem dX9_field_105 : decode cX9_field 105 = .ok (.aload_n 0, 1) := by decide +kernel
theorem dX9_field_106 : decode cX9_field 106 = .ok (.getfield 13, 3) := by decide +kernel
theorem dX9_field_109 : decode cX9_field 109 = .ok (.iload 4, 2) := by decide +kernel
theorem dX9_field_111 : decode cX9_field 111 = .ok (.aaload, 1) := by decide +kernel
theorem dX9_field_112 : decode cX9_field 112 = .ok (.invokevirtual 140, 3) := by decide +kernel
theorem dX9_field_115 : decode cX9_field 115 = .ok (.iconst 1, 1) := by decide +kernel
theorem dX9_field_116 : decode cX9_field 116 = .ok (.ireturn, 1) := by decide +kernel
theorem dX9_power_0 : decode cX9_power 0 = .ok (.iload_n 1, 1) := by decide +kernel
theorem dX9_power_1 : decode cX9_power 1 = .ok (.invokestatic 102, 3) := by decide +kernel
theorem dX9_power_4 : decode cX9_power 4 = .ok (.ifCond .eq 17, 3) := by decide +kernel
theorem dX9_power_7 : decode cX9_power 7 = .ok (.iload_n 2, 1) := by decide +kernel
theorem dX9_power_8 : decode cX9_power 8 = .ok (.invokestatic 102, 3) := by decide +kernel
theorem dX9_power_11 : decode cX9_power 11 = .ok (.ifCond .eq 10, 3) := by decide +kernel
theorem dX9_power_14 : decode cX9_power 14 = .ok (.iload_n 3, 1) := by decide +kernel
theorem dX9_power_15 : decode cX9_power 15 = .ok (.invokestatic 102, 3) := by decide +kernel
theorem dX9_power_18 : decode cX9_power 18 = .ok (.ifCond .ne 6, 3) := by decide +kernel
theorem dX9_power_21 : decode cX9_power 21 = .ok (.bipush (-101), 2) := by decide +kernel
theorem dX9_power_23 : decode cX9_power 23 = .ok (.ireturn, 1) := by decide +kernel
theorem dX9_power_24 : decode cX9_power 24 = .ok (.aload_n 0, 1) := by decide +kernel
theorem dX9_power_25 : decode cX9_power 25 = .ok (.getfield 39, 3) := by decide +kernel
theorem dX9_power_28 : decode cX9_power 28 = .ok (.aload_n 0, 1) := by decide +kernel
theorem dX9_power_29 : decode cX9_power 29 = .ok (.getfield 13, 3) := by decide +kernel
theorem dX9_power_32 : decode cX9_power 32 = .ok (.iload_n 1, 1) := by decide +kernel
theorem dX9_power_33 : decode cX9_power 33 = .ok (.aaload, 1) := by decide +kernel
theorem dX9_power_34 : decode cX9_power 34 = .ok (.aload_n 0, 1) := by decide +kernel
theorem dX9_power_35 : decode cX9_power 35 = .ok (.getfield 82, 3) := by decide +kernel
theorem dX9_power_38 : decode cX9_power 38 = .ok (.invokevirtual 129, 3) := by decide +kernel
theorem dX9_power_41 : decode cX9_power 41 = .ok (.aload_n 0, 1) := by decide +kernel
theorem dX9_power_42 : decode cX9_power 42 = .ok (.getfield 39, 3) := by decide +kernel
theorem dX9_power_45 : decode cX9_power 45 = .ok (.aload_n 0, 1) := by decide +kernel
theorem dX9_power_46 : decode cX9_power 46 = .ok (.getfield 82, 3) := by decide +kernel
theorem dX9_power_49 : decode cX9_power 49 = .ok (.aload_n 0, 1) := by decide +kernel
theorem dX9_power_50 : decode cX9_power 50 = .ok (.getfield 13, 3) := by decide +kernel
theorem dX9_power_53 : decode cX9_power 53 = .ok (.iload_n 2, 1) := by decide +kernel
theorem dX9_power_54 : decode cX9_power 54 = .ok (.aaload, 1) := by decide +kernel
theorem dX9_power_55 : decode cX9_power 55 = .ok (.aload_n 0, 1) := by decide +kernel
theorem dX9_power_56 : decode cX9_power 56 = .ok (.getfield 82, 3) := by decide +kernel
theorem dX9_power_59 : decode cX9_power 59 = .ok (.invokevirtual 143, 3) := by decide +kernel
theorem dX9_power_62 : decode cX9_power 62 = .ok (.aload_n 0, 1) := by decide +kernel
theorem dX9_power_63 : decode cX9_power 63 = .ok (.getfield 39, 3) := by decide +kernel
theorem dX9_power_66 : decode cX9_power 66 = .ok (.aload_n 0, 1) := by decide +kernel
theorem dX9_power_67 : decode cX9_power 67 = .ok (.getfield 82, 3) := by decide +kernel
theorem dX9_power_70 : decode cX9_power 70 = .ok (.aload_n 0, 1) := by decide +kernel
theorem dX9_power_71 : decode cX9_power 71 = .ok (.getfield 13, 3) := by decide +kernel
theorem dX9_power_74 : decode cX9_power 74 = .ok (.iload_n 3, 1) := by decide +kernel
theorem dX9_power_75 : decode cX9_power 75 = .ok (.aaload, 1) := by decide +kernel
theorem dX9_power_76 : decode cX9_power 76 = .ok (.invokevirtual 140, 3) := by decide +kernel
theorem dX9_power_79 : decode cX9_power 79 = .ok (.iconst 1, 1) := by decide +kernel
theorem dX9_power_80 : decode cX9_power 80 = .ok (.ireturn, 1) := by decide +kernel
theorem dX9_root_0 : decode cX9_root 0 = .ok (.iload_n 1, 1) := by decide +kernel
theorem dX9_root_1 : decode cX9_root 1 = .ok (.invokestatic 102, 3) := by decide +kernel
theorem dX9_root_4 : decode cX9_root 4 = .ok (.ifCond .eq 10, 3) := by decide +kernel
theorem dX9_root_7 : decode cX9_root 7 = .ok (.iload_n 2, 1) := by decide +kernel
theorem dX9_root_8 : decode cX9_root 8 = .ok (.invokestatic 102, 3) := by decide +kernel
theorem dX9_root_11 : decode cX9_root 11 = .ok (.ifCond .ne 6, 3) := by decide +kernel
theorem dX9_root_14 : decode cX9_root 14 = .ok (.bipush (-101), 2) := by decide +kernel
theorem dX9_root_16 : decode cX9_root 16 = .ok (.ireturn, 1) := by decide +kernel
theorem dX9_root_17 : decode cX9_root 17 = .ok (.aload_n 0, 1) := by decide +kernel
theorem dX9_root_18 : decode cX9_root 18 = .ok (.getfield 39, 3) := by decide +kernel
theorem dX9_root_21 : decode cX9_root 21 = .ok (.aload_n 0, 1) := by decide +kernel
theorem dX9_root_22 : decode cX9_root 22 = .ok (.getfield 13, 3) := by decide +kernel
theorem dX9_root_25 : decode cX9_root 25 = .ok (.iload_n 1, 1) := by decide +kernel
theorem dX9_root_26 : decode cX9_root 26 = .ok (.aaload, 1) := by decide +kernel
theorem dX9_root_27 : decode cX9_root 27 = .ok (.aload_n 0, 1) := by decide +kernel
theorem dX9_root_28 : decode cX9_root 28 = .ok (.getfield 82, 3) := by decide +kernel
theorem dX9_root_31 : decode cX9_root 31 = .ok (.invokevirtual 129, 3) := by decide +kernel
theorem dX9_root_34 : decode cX9_root 34 = .ok (.aload_n 0, 1) := by decide +kernel
theorem dX9_root_35 : decode cX9_root 35 = .ok (.getfield 39, 3) := by decide +kernel
theorem dX9_root_38 : decode cX9_root 38 = .ok (.aload_n 0, 1) := by decide +kernel
theorem dX9_root_39 : decode cX9_root 39 = .ok (.getfield 82, 3) := by decide +kernel
theorem dX9_root_42 : decode cX9_root 42 = .ok (.aload_n 0, 1) := by decide +kernel
theorem dX9_root_43 : decode cX9_root 43 = .ok (.getfield 86, 3) := by decide +kernel
theorem dX9_root_46 : decode cX9_root 46 = .ok (.invokevirtual 147, 3) := by decide +kernel
theorem dX9_root_49 : decode cX9_root 49 = .ok (.ifCond .ne 5, 3) := by decide +kernel
theorem dX9_root_52 : decode cX9_root 52 = .ok (.iconst 0, 1) := by decide +kernel
theorem dX9_root_53 : decode cX9_root 53 = .ok (.ireturn, 1) := by decide +kernel
theorem dX9_root_54 : decode cX9_root 54 = .ok (.aload_n 0, 1) := by decide +kernel
theorem dX9_root_55 : decode cX9_root 55 = .ok (.getfield 39, 3) := by decide +kernel
theorem dX9_root_58 : decode cX9_root 58 = .ok (.aload_n 0, 1) := by decide +kernel
theorem dX9_root_59 : decode cX9_root 59 = .ok (.getfield 86, 3) := by decide +kernel
theorem dX9_root_62 : decode cX9_root 62 = .ok (.aload_n 0, 1) := by decide +kernel
theorem dX9_root_63 : decode cX9_root 63 = .ok (.getfield 13, 3) := by decide +kernel
theorem dX9_root_66 : decode cX9_root 66 = .ok (.iload_n 2, 1) := by decide +kernel
theorem dX9_root_67 : decode cX9_root 67 = .ok (.aaload, 1) := by decide +kernel
theorem dX9_root_68 : decode cX9_root 68 = .ok (.invokevirtual 140, 3) := by decide +kernel
theorem dX9_root_71 : decode cX9_root 71 = .ok (.iconst 1, 1) := by decide +kernel
theorem dX9_root_72 : decode cX9_root 72 = .ok (.ireturn, 1) := by decide +kernel
theorem dX9_about_0 : decode cX9_about 0 = .ok (.iload_n 1, 1) := by decide +kernel
theorem dX9_about_1 : decode cX9_about 1 = .ok (.invokestatic 102, 3) := by decide +kernel
theorem dX9_about_4 : decode cX9_about 4 = .ok (.ifCond .ne 6, 3) := by decide +kernel
theorem dX9_about_7 : decode cX9_about 7 = .ok (.bipush (-101), 2) := by decide +kernel
theorem dX9_about_9 : decode cX9_about 9 = .ok (.ireturn, 1) := by decide +kernel
theorem dX9_about_10 : decode cX9_about 10 = .ok (.iload_n 2, 1) := by decide +kernel
theorem dX9_about_11 : decode cX9_about 11 = .ok (.iconst 5, 1) := by decide +kernel
theorem dX9_about_12 : decode cX9_about 12 = .ok (.invokestatic 106, 3) := by decide +kernel
theorem dX9_about_15 : decode cX9_about 15 = .ok (.ifCond .ne 6, 3) := by decide +kernel
theorem dX9_about_18 : decode cX9_about 18 = .ok (.bipush (-102), 2) := by decide +kernel
theorem dX9_about_20 : decode cX9_about 20 = .ok (.ireturn, 1) := by decide +kernel
theorem dX9_about_21 : decode cX9_about 21 = .ok (.aload_n 0, 1) := by decide +kernel
theorem dX9_about_22 : decode cX9_about 22 = .ok (.getfield 13, 3) := by decide +kernel
theorem dX9_about_25 : decode cX9_about 25 = .ok (.iload_n 1, 1) := by decide +kernel
theorem dX9_about_26 : decode cX9_about 26 = .ok (.aaload, 1) := by decide +kernel
theorem dX9_about_27 : decode cX9_about 27 = .ok (.astore_n 3, 1) := by decide +kernel
theorem dX9_about_28 : decode cX9_about 28 = .ok (.aload_n 0, 1) := by decide +kernel
theorem dX9_about_29 : decode cX9_about 29 = .ok (.getfield 39, 3) := by decide +kernel
theorem dX9_about_32 : decode cX9_about 32 = .ok (.aload_n 3, 1) := by decide +kernel
theorem dX9_about_33 : decode cX9_about 33 = .ok (.aload_n 0, 1) := by decide +kernel
theorem dX9_about_34 : decode cX9_about 34 = .ok (.getfield 82, 3) := by decide +kernel
theorem dX9_about_37 : decode cX9_about 37 = .ok (.invokevirtual 129, 3) := by decide +kernel
theorem dX9_about_40 : decode cX9_about 40 = .ok (.iload_n 2, 1) := by decide +kernel
theorem dX9_about_41 : decode cX9_about 41 = .ok (.tableswitch 88 0 3 #[31, 50, 58, 73], 31) := by decide +kernel
theorem dX9_about_72 : decode cX9_about 72 = .ok (.aload_n 3, 1) := by decide +kernel
theorem dX9_about_73 : decode cX9_about 73 = .ok (.getstatic 151, 3) := by decide +kernel
theorem dX9_about_76 : decode cX9_about 76 = .ok (.invokestatic 154, 3) := by decide +kernel
theorem dX9_about_79 : decode cX9_about 79 = .ok (.ifCond .ge 7, 3) := by decide +kernel
theorem dX9_about_82 : decode cX9_about 82 = .ok (.iconst 1, 1) := by decide +kernel
theorem dX9_about_83 : decode cX9_about 83 = .ok (.goto 4, 3) := by decide +kernel
theorem dX9_about_86 : decode cX9_about 86 = .ok (.iconst 0, 1) := by decide +kernel
theorem dX9_about_87 : decode cX9_about 87 = .ok (.invokestatic 158, 3) := by decide +kernel
theorem dX9_about_90 : decode cX9_about 90 = .ok (.ireturn, 1) := by decide +kernel
theorem dX9_about_91 : decode cX9_about 91 = .ok (.aload_n 3, 1) := by decide +kernel
theorem dX9_about_92 : decode cX9_about 92 = .ok (.invokestatic 162, 3) := by decide +kernel
theorem dX9_about_95 : decode cX9_about 95 = .ok (.invokestatic 158, 3) := by decide +kernel
theorem dX9_about_98 : decode cX9_about 98 = .ok (.ireturn, 1) := by decide +kernel
theorem dX9_about_99 : decode cX9_about 99 = .ok (.aload_n 0, 1) := by decide +kernel
theorem dX9_about_100 : decode cX9_about 100 = .ok (.getfield 39, 3) := by decide +kernel
theorem dX9_about_103 : decode cX9_about 103 = .ok (.aload_n 0, 1) := by decide +kernel
theorem dX9_about_104 : decode cX9_about 104 = .ok (.getfield 82, 3) := by decide +kernel
theorem dX9_about_107 : decode cX9_about 107 = .ok (.invokevirtual 132, 3) := by decide +kernel
theorem dX9_about_110 : decode cX9_about 110 = .ok (.invokestatic 158, 3) := by decide +kernel
theorem dX9_about_113 : decode cX9_about 113 = .ok (.ireturn, 1) := by decide +kernel
theorem dX9_about_114 : decode cX9_about 114 = .ok (.aload_n 0, 1) := by decide +kernel
theorem dX9_about_115 : decode cX9_about 115 = .ok (.getfield 39, 3) := by decide +kernel
theorem dX9_about_118 : decode cX9_about 118 = .ok (.aload_n 0, 1) := by decide +kernel
theorem dX9_about_119 : decode cX9_about 119 = .ok (.getfield 82, 3) := by decide +kernel
theorem dX9_about_122 : decode cX9_about 122 = .ok (.invokevirtual 165, 3) := by decide +kernel
theorem dX9_about_125 : decode cX9_about 125 = .ok (.invokestatic 158, 3) := by decide +kernel
theorem dX9_about_128 : decode cX9_about 128 = .ok (.ireturn, 1) := by decide +kernel
theorem dX9_about_129 : decode cX9_about 129 = .ok (.aload_n 3, 1) := by decide +kernel
theorem dX9_about_130 : decode cX9_about 130 = .ok (.invokestatic 168, 3) := by decide +kernel
theorem dX9_about_133 : decode cX9_about 133 = .ok (.ireturn, 1) := by decide +kernel
theorem dX9_compare_0 : decode cX9_compare 0 = .ok (.iload_n 1, 1) := by decide +kernel
theorem dX9_compare_1 : decode cX9_compare 1 = .ok (.invokestatic 102, 3) := by decide +kernel
theorem dX9_compare_4 : decode cX9_compare 4 = .ok (.ifCond .eq 10, 3) := by decide +kernel
theorem dX9_compare_7 : decode cX9_compare 7 = .ok (.iload_n 2, 1) := by decide +kernel
theorem dX9_compare_8 : decode cX9_compare 8 = .ok (.invokestatic 102, 3) := by decide +kernel
theorem dX9_compare_11 : decode cX9_compare 11 = .ok (.ifCond .ne 6, 3) := by decide +kernel
theorem dX9_compare_14 : decode cX9_compare 14 = .ok (.bipush (-101), 2) := by decide +kernel
theorem dX9_compare_16 : decode cX9_compare 16 = .ok (.ireturn, 1) := by decide +kernel
theorem dX9_compare_17 : decode cX9_compare 17 = .ok (.aload_n 0, 1) := by decide +kernel
theorem dX9_compare_18 : decode cX9_compare 18 = .ok (.getfield 13, 3) := by decide +kernel
theorem dX9_compare_21 : decode cX9_compare 21 = .ok (.iload_n 1, 1) := by decide +kernel
theorem dX9_compare_22 : decode cX9_compare 22 = .ok (.aaload, 1) := by decide +kernel
theorem dX9_compare_23 : decode cX9_compare 23 = .ok (.aload_n 0, 1) := by decide +kernel
theorem dX9_compare_24 : decode cX9_compare 24 = .ok (.getfield 13, 3) := by decide +kernel
theorem dX9_compare_27 : decode cX9_compare 27 = .ok (.iload_n 2, 1) := by decide +kernel
theorem dX9_compare_28 : decode cX9_compare 28 = .ok (.aaload, 1) := by decide +kernel
theorem dX9_compare_29 : decode cX9_compare 29 = .ok (.invokestatic 154, 3) := by decide +kernel
theorem dX9_compare_32 : decode cX9_compare 32 = .ok (.ireturn, 1) := by decide +kernel
theorem dX9_scalar_0 : decode cX9_scalar 0 = .ok (.iload_n 1, 1) := by decide +kernel
theorem dX9_scalar_1 : decode cX9_scalar 1 = .ok (.invokestatic 102, 3) := by decide +kernel
theorem dX9_scalar_4 : decode cX9_scalar 4 = .ok (.ifCond .eq 25, 3) := by decide +kernel
theorem dX9_scalar_7 : decode cX9_scalar 7 = .ok (.iload_n 2, 1) := by decide +kernel
theorem dX9_scalar_8 : decode cX9_scalar 8 = .ok (.invokestatic 102, 3) := by decide +kernel
theorem dX9_scalar_11 : decode cX9_scalar 11 = .ok (.ifCond .eq 18, 3) := by decide +kernel
theorem dX9_scalar_14 : decode cX9_scalar 14 = .ok (.iload_n 3, 1) := by decide +kernel
theorem dX9_scalar_15 : decode cX9_scalar 15 = .ok (.invokestatic 102, 3) := by decide +kernel
theorem dX9_scalar_18 : decode cX9_scalar 18 = .ok (.ifCond .eq 11, 3) := by decide +kernel
theorem dX9_scalar_21 : decode cX9_scalar 21 = .ok (.iload 4, 2) := by decide +kernel
theorem dX9_scalar_23 : decode cX9_scalar 23 = .ok (.invokestatic 102, 3) := by decide +kernel
theorem dX9_scalar_26 : decode cX9_scalar 26 = .ok (.ifCond .ne 6, 3) := by decide +kernel
theorem dX9_scalar_29 : decode cX9_scalar 29 = .ok (.bipush (-101), 2) := by decide +kernel
theorem dX9_scalar_31 : decode cX9_scalar 31 = .ok (.ireturn, 1) := by decide +kernel
theorem dX9_scalar_32 : decode cX9_scalar 32 = .ok (.aload_n 0, 1) := by decide +kernel
theorem dX9_scalar_33 : decode cX9_scalar 33 = .ok (.getfield 46, 3) := by decide +kernel
theorem dX9_scalar_36 : decode cX9_scalar 36 = .ok (.aload_n 0, 1) := by decide +kernel
theorem dX9_scalar_37 : decode cX9_scalar 37 = .ok (.getfield 13, 3) := by decide +kernel
theorem dX9_scalar_40 : decode cX9_scalar 40 = .ok (.iload_n 1, 1) := by decide +kernel
theorem dX9_scalar_41 : decode cX9_scalar 41 = .ok (.aaload, 1) := by decide +kernel
theorem dX9_scalar_42 : decode cX9_scalar 42 = .ok (.aload_n 0, 1) := by decide +kernel
theorem dX9_scalar_43 : decode cX9_scalar 43 = .ok (.getfield 13, 3) := by decide +kernel
theorem dX9_scalar_46 : decode cX9_scalar 46 = .ok (.iload_n 2, 1) := by decide +kernel
theorem dX9_scalar_47 : decode cX9_scalar 47 = .ok (.aaload, 1) := by decide +kernel
theorem dX9_scalar_48 : decode cX9_scalar 48 = .ok (.aload_n 0, 1) := by decide +kernel
theorem dX9_scalar_49 : decode cX9_scalar 49 = .ok (.getfield 13, 3) := by decide +kernel
theorem dX9_scalar_52 : decode cX9_scalar 52 = .ok (.iload_n 3, 1) := by decide +kernel
theorem dX9_scalar_53 : decode cX9_scalar 53 = .ok (.aaload, 1) := by decide +kernel
theorem dX9_scalar_54 : decode cX9_scalar 54 = .ok (.aload_n 0, 1) := by decide +kernel
theorem dX9_scalar_55 : decode cX9_scalar 55 = .ok (.getfield 13, 3) := by decide +kernel
theorem dX9_scalar_58 : decode cX9_scalar 58 = .ok (.iload 4, 2) := by decide +kernel
theorem dX9_scalar_60 : decode cX9_scalar 60 = .ok (.aaload, 1) := by decide +kernel
theorem dX9_scalar_61 : decode cX9_scalar 61 = .ok (.invokevirtual 172, 3) := by decide +kernel
theorem dX9_scalar_64 : decode cX9_scalar 64 = .ok (.iconst 1, 1) := by decide +kernel
theorem dX9_scalar_65 : decode cX9_scalar 65 = .ok (.ireturn, 1) := by decide +kernel
theorem dX9_isPoint_0 : decode cX9_isPoint 0 = .ok (.iload_n 1, 1) := by decide +kernel
theorem dX9_isPoint_1 : decode cX9_isPoint 1 = .ok (.invokestatic 102, 3) := by decide +kernel
theorem dX9_isPoint_4 : decode cX9_isPoint 4 = .ok (.ifCond .ne 6, 3) := by decide +kernel
theorem dX9_isPoint_7 : decode cX9_isPoint 7 = .ok (.bipush (-101), 2) := by decide +kernel
theorem dX9_isPoint_9 : decode cX9_isPoint 9 = .ok (.ireturn, 1) := by decide +kernel
theorem dX9_isPoint_10 : decode cX9_isPoint 10 = .ok (.aload_n 0, 1) := by decide +kernel
theorem dX9_isPoint_11 : decode cX9_isPoint 11 = .ok (.getfield 55, 3) := by decide +kernel
theorem dX9_isPoint_14 : decode cX9_isPoint 14 = .ok (.aload_n 0, 1) := by decide +kernel
theorem dX9_isPoint_15 : decode cX9_isPoint 15 = .ok (.getfield 13, 3) := by decide +kernel
theorem dX9_isPoint_18 : decode cX9_isPoint 18 = .ok (.iload_n 1, 1) := by decide +kernel
theorem dX9_isPoint_19 : decode cX9_isPoint 19 = .ok (.aaload, 1) := by decide +kernel
theorem dX9_isPoint_20 : decode cX9_isPoint 20 = .ok (.aload_n 0, 1) := by decide +kernel
theorem dX9_isPoint_21 : decode cX9_isPoint 21 = .ok (.getfield 95, 3) := by decide +kernel
theorem dX9_isPoint_24 : decode cX9_isPoint 24 = .ok (.invokevirtual 176, 3) := by decide +kernel
theorem dX9_isPoint_27 : decode cX9_isPoint 27 = .ok (.invokestatic 158, 3) := by decide +kernel
theorem dX9_isPoint_30 : decode cX9_isPoint 30 = .ok (.ireturn, 1) := by decide +kernel
theorem dX9_across_0 : decode cX9_across 0 = .ok (.iload_n 1, 1) := by decide +kernel
theorem dX9_across_1 : decode cX9_across 1 = .ok (.invokestatic 102, 3) := by decide +kernel
theorem dX9_across_4 : decode cX9_across 4 = .ok (.ifCond .eq 10, 3) := by decide +kernel
theorem dX9_across_7 : decode cX9_across 7 = .ok (.iload_n 2, 1) := by decide +kernel
theorem dX9_across_8 : decode cX9_across 8 = .ok (.invokestatic 102, 3) := by decide +kernel
theorem dX9_across_11 : decode cX9_across 11 = .ok (.ifCond .ne 6, 3) := by decide +kernel
theorem dX9_across_14 : decode cX9_across 14 = .ok (.bipush (-101), 2) := by decide +kernel
theorem dX9_across_16 : decode cX9_across 16 = .ok (.ireturn, 1) := by decide +kernel
theorem dX9_across_17 : decode cX9_across 17 = .ok (.aload_n 0, 1) := by decide +kernel
theorem dX9_across_18 : decode cX9_across 18 = .ok (.getfield 55, 3) := by decide +kernel
theorem dX9_across_21 : decode cX9_across 21 = .ok (.aload_n 0, 1) := by decide +kernel
theorem dX9_across_22 : decode cX9_across 22 = .ok (.getfield 13, 3) := by decide +kernel
theorem dX9_across_25 : decode cX9_across 25 = .ok (.iload_n 1, 1) := by decide +kernel
theorem dX9_across_26 : decode cX9_across 26 = .ok (.aaload, 1) := by decide +kernel
theorem dX9_across_27 : decode cX9_across 27 = .ok (.aload_n 0, 1) := by decide +kernel
theorem dX9_across_28 : decode cX9_across 28 = .ok (.getfield 95, 3) := by decide +kernel
theorem dX9_across_31 : decode cX9_across 31 = .ok (.invokevirtual 176, 3) := by decide +kernel
theorem dX9_across_34 : decode cX9_across 34 = .ok (.ifCond .ne 5, 3) := by decide +kernel
theorem dX9_across_37 : decode cX9_across 37 = .ok (.iconst (-1), 1) := by decide +kernel
theorem dX9_across_38 : decode cX9_across 38 = .ok (.ireturn, 1) := by decide +kernel
theorem dX9_across_39 : decode cX9_across 39 = .ok (.aload_n 0, 1) := by decide +kernel
theorem dX9_across_40 : decode cX9_across 40 = .ok (.getfield 39, 3) := by decide +kernel
theorem dX9_across_43 : decode cX9_across 43 = .ok (.aload_n 0, 1) := by decide +kernel
theorem dX9_across_44 : decode cX9_across 44 = .ok (.getfield 95, 3) := by decide +kernel
theorem dX9_across_47 : decode cX9_across 47 = .ok (.getfield 180, 3) := by decide +kernel
theorem dX9_across_50 : decode cX9_across 50 = .ok (.aload_n 0, 1) := by decide +kernel
theorem dX9_across_51 : decode cX9_across 51 = .ok (.getfield 13, 3) := by decide +kernel
theorem dX9_across_54 : decode cX9_across 54 = .ok (.iload_n 2, 1) := by decide +kernel
theorem dX9_across_55 : decode cX9_across 55 = .ok (.aaload, 1) := by decide +kernel
theorem dX9_across_56 : decode cX9_across 56 = .ok (.invokevirtual 140, 3) := by decide +kernel
theorem dX9_across_59 : decode cX9_across 59 = .ok (.iconst 1, 1) := by decide +kernel
theorem dX9_across_60 : decode cX9_across 60 = .ok (.ireturn, 1) := by decide +kernel
theorem dX9_sum_0 : decode cX9_sum 0 = .ok (.iload_n 2, 1) := by decide +kernel
theorem dX9_sum_1 : decode cX9_sum 1 = .ok (.invokestatic 102, 3) := by decide +kernel
theorem dX9_sum_4 : decode cX9_sum 4 = .ok (.ifCond .eq 18, 3) := by decide +kernel
theorem dX9_sum_7 : decode cX9_sum 7 = .ok (.iload_n 3, 1) := by decide +kernel
theorem dX9_sum_8 : decode cX9_sum 8 = .ok (.invokestatic 102, 3) := by decide +kernel
theorem dX9_sum_11 : decode cX9_sum 11 = .ok (.ifCond .eq 11, 3) := by decide +kernel
theorem dX9_sum_14 : decode cX9_sum 14 = .ok (.iload 4, 2) := by decide +kernel
theorem dX9_sum_16 : decode cX9_sum 16 = .ok (.invokestatic 102, 3) := by decide +kernel
theorem dX9_sum_19 : decode cX9_sum 19 = .ok (.ifCond .ne 6, 3) := by decide +kernel
theorem dX9_sum_22 : decode cX9_sum 22 = .ok (.bipush (-101), 2) := by decide +kernel
theorem dX9_sum_24 : decode cX9_sum 24 = .ok (.ireturn, 1) := by decide +kernel
theorem dX9_sum_25 : decode cX9_sum 25 = .ok (.iload_n 1, 1) := by decide +kernel
theorem dX9_sum_26 : decode cX9_sum 26 = .ok (.iconst 2, 1) := by decide +kernel
theorem dX9_sum_27 : decode cX9_sum 27 = .ok (.invokestatic 106, 3) := by decide +kernel
theorem dX9_sum_30 : decode cX9_sum 30 = .ok (.ifCond .ne 6, 3) := by decide +kernel
theorem dX9_sum_33 : decode cX9_sum 33 = .ok (.bipush (-102), 2) := by decide +kernel
theorem dX9_sum_35 : decode cX9_sum 35 = .ok (.ireturn, 1) := by decide +kernel
theorem dX9_sum_36 : decode cX9_sum 36 = .ok (.aload_n 0, 1) := by decide +kernel
theorem dX9_sum_37 : decode cX9_sum 37 = .ok (.getfield 55, 3) := by decide +kernel
theorem dX9_sum_40 : decode cX9_sum 40 = .ok (.aload_n 0, 1) := by decide +kernel
theorem dX9_sum_41 : decode cX9_sum 41 = .ok (.getfield 13, 3) := by decide +kernel
theorem dX9_sum_44 : decode cX9_sum 44 = .ok (.iload_n 2, 1) := by decide +kernel
theorem dX9_sum_45 : decode cX9_sum 45 = .ok (.aaload, 1) := by decide +kernel
theorem dX9_sum_46 : decode cX9_sum 46 = .ok (.aload_n 0, 1) := by decide +kernel
theorem dX9_sum_47 : decode cX9_sum 47 = .ok (.getfield 95, 3) := by decide +kernel
theorem dX9_sum_50 : decode cX9_sum 50 = .ok (.invokevirtual 176, 3) := by decide +kernel
theorem dX9_sum_53 : decode cX9_sum 53 = .ok (.ifCond .eq 23, 3) := by decide +kernel
theorem dX9_sum_56 : decode cX9_sum 56 = .ok (.aload_n 0, 1) := by decide +kernel
theorem dX9_sum_57 : decode cX9_sum 57 = .ok (.getfield 55, 3) := by decide +kernel
theorem dX9_sum_60 : decode cX9_sum 60 = .ok (.aload_n 0, 1) := by decide +kernel
theorem dX9_sum_61 : decode cX9_sum 61 = .ok (.getfield 13, 3) := by decide +kernel
theorem dX9_sum_64 : decode cX9_sum 64 = .ok (.iload_n 3, 1) := by decide +kernel
theorem dX9_sum_65 : decode cX9_sum 65 = .ok (.aaload, 1) := by decide +kernel
theorem dX9_sum_66 : decode cX9_sum 66 = .ok (.aload_n 0, 1) := by decide +kernel
theorem dX9_sum_67 : decode cX9_sum 67 = .ok (.getfield 99, 3) := by decide +kernel
theorem dX9_sum_70 : decode cX9_sum 70 = .ok (.invokevirtual 176, 3) := by decide +kernel
theorem dX9_sum_73 : decode cX9_sum 73 = .ok (.ifCond .ne 5, 3) := by decide +kernel
theorem dX9_sum_76 : decode cX9_sum 76 = .ok (.iconst (-1), 1) := by decide +kernel
theorem dX9_sum_77 : decode cX9_sum 77 = .ok (.ireturn, 1) := by decide +kernel
theorem dX9_sum_78 : decode cX9_sum 78 = .ok (.iload_n 1, 1) := by decide +kernel
theorem dX9_sum_79 : decode cX9_sum 79 = .ok (.iconst 1, 1) := by decide +kernel
theorem dX9_sum_80 : decode cX9_sum 80 = .ok (.if_icmp .ne 14, 3) := by decide +kernel
theorem dX9_sum_83 : decode cX9_sum 83 = .ok (.aload_n 0, 1) := by decide +kernel
theorem dX9_sum_84 : decode cX9_sum 84 = .ok (.getfield 55, 3) := by decide +kernel
theorem dX9_sum_87 : decode cX9_sum 87 = .ok (.aload_n 0, 1) := by decide +kernel
theorem dX9_sum_88 : decode cX9_sum 88 = .ok (.getfield 99, 3) := by decide +kernel
theorem dX9_sum_91 : decode cX9_sum 91 = .ok (.invokevirtual 183, 3) := by decide +kernel
theorem dX9_sum_94 : decode cX9_sum 94 = .ok (.aload_n 0, 1) := by decide +kernel
theorem dX9_sum_95 : decode cX9_sum 95 = .ok (.getfield 55, 3) := by decide +kernel
theorem dX9_sum_98 : decode cX9_sum 98 = .ok (.aload_n 0, 1) := by decide +kernel
theorem dX9_sum_99 : decode cX9_sum 99 = .ok (.getfield 95, 3) := by decide +kernel
theorem dX9_sum_102 : decode cX9_sum 102 = .ok (.aload_n 0, 1) := by decide +kernel
theorem dX9_sum_103 : decode cX9_sum 103 = .ok (.getfield 99, 3) := by decide +kernel
theorem dX9_sum_106 : decode cX9_sum 106 = .ok (.aload_n 0, 1) := by decide +kernel
theorem dX9_sum_107 : decode cX9_sum 107 = .ok (.getfield 95, 3) := by decide +kernel
theorem dX9_sum_110 : decode cX9_sum 110 = .ok (.invokevirtual 187, 3) := by decide +kernel
theorem dX9_sum_113 : decode cX9_sum 113 = .ok (.aload_n 0, 1) := by decide +kernel
theorem dX9_sum_114 : decode cX9_sum 114 = .ok (.getfield 55, 3) := by decide +kernel
theorem dX9_sum_117 : decode cX9_sum 117 = .ok (.aload_n 0, 1) := by decide +kernel
theorem dX9_sum_118 : decode cX9_sum 118 = .ok (.getfield 95, 3) := by decide +kernel
theorem dX9_sum_121 : decode cX9_sum 121 = .ok (.aload_n 0, 1) := by decide +kernel
theorem dX9_sum_122 : decode cX9_sum 122 = .ok (.getfield 13, 3) := by decide +kernel
theorem dX9_sum_125 : decode cX9_sum 125 = .ok (.iload 4, 2) := by decide +kernel
theorem dX9_sum_127 : decode cX9_sum 127 = .ok (.aaload, 1) := by decide +kernel
theorem dX9_sum_128 : decode cX9_sum 128 = .ok (.invokevirtual 191, 3) := by decide +kernel
theorem dX9_sum_131 : decode cX9_sum 131 = .ok (.iconst 1, 1) := by decide +kernel
theorem dX9_sum_132 : decode cX9_sum 132 = .ok (.ireturn, 1) := by decide +kernel
theorem dX9_times_0 : decode cX9_times 0 = .ok (.iload_n 1, 1) := by decide +kernel
theorem dX9_times_1 : decode cX9_times 1 = .ok (.invokestatic 102, 3) := by decide +kernel
theorem dX9_times_4 : decode cX9_times 4 = .ok (.ifCond .eq 17, 3) := by decide +kernel
theorem dX9_times_7 : decode cX9_times 7 = .ok (.iload_n 2, 1) := by decide +kernel
theorem dX9_times_8 : decode cX9_times 8 = .ok (.invokestatic 102, 3) := by decide +kernel
theorem dX9_times_11 : decode cX9_times 11 = .ok (.ifCond .eq 10, 3) := by decide +kernel
theorem dX9_times_14 : decode cX9_times 14 = .ok (.iload_n 3, 1) := by decide +kernel
theorem dX9_times_15 : decode cX9_times 15 = .ok (.invokestatic 102, 3) := by decide +kernel
theorem dX9_times_18 : decode cX9_times 18 = .ok (.ifCond .ne 6, 3) := by decide +kernel
theorem dX9_times_21 : decode cX9_times 21 = .ok (.bipush (-101), 2) := by decide +kernel
theorem dX9_times_23 : decode cX9_times 23 = .ok (.ireturn, 1) := by decide +kernel
theorem dX9_times_24 : decode cX9_times 24 = .ok (.aload_n 0, 1) := by decide +kernel
theorem dX9_times_25 : decode cX9_times 25 = .ok (.getfield 23, 3) := by decide +kernel
theorem dX9_times_28 : decode cX9_times 28 = .ok (.iconst 1, 1) := by decide +kernel
theorem dX9_times_29 : decode cX9_times 29 = .ok (.if_icmp .ge 6, 3) := by decide +kernel
theorem dX9_times_32 : decode cX9_times 32 = .ok (.bipush (-103), 2) := by decide +kernel
theorem dX9_times_34 : decode cX9_times 34 = .ok (.ireturn, 1) := by decide +kernel
theorem dX9_times_35 : decode cX9_times 35 = .ok (.aload_n 0, 1) := by decide +kernel
theorem dX9_times_36 : decode cX9_times 36 = .ok (.getfield 55, 3) := by decide +kernel
theorem dX9_times_39 : decode cX9_times 39 = .ok (.aload_n 0, 1) := by decide +kernel
theorem dX9_times_40 : decode cX9_times 40 = .ok (.getfield 13, 3) := by decide +kernel
theorem dX9_times_43 : decode cX9_times 43 = .ok (.iload_n 2, 1) := by decide +kernel
theorem dX9_times_44 : decode cX9_times 44 = .ok (.aaload, 1) := by decide +kernel
theorem dX9_times_45 : decode cX9_times 45 = .ok (.aload_n 0, 1) := by decide +kernel
theorem dX9_times_46 : decode cX9_times 46 = .ok (.getfield 95, 3) := by decide +kernel
theorem dX9_times_49 : decode cX9_times 49 = .ok (.invokevirtual 176, 3) := by decide +kernel
theorem dX9_times_52 : decode cX9_times 52 = .ok (.ifCond .ne 5, 3) := by decide +kernel
theorem dX9_times_55 : decode cX9_times 55 = .ok (.iconst (-1), 1) := by decide +kernel
theorem dX9_times_56 : decode cX9_times 56 = .ok (.ireturn, 1) := by decide +kernel
theorem dX9_times_57 : decode cX9_times 57 = .ok (.aload_n 0, 1) := by decide +kernel
theorem dX9_times_58 : decode cX9_times 58 = .ok (.dup, 1) := by decide +kernel
theorem dX9_times_59 : decode cX9_times 59 = .ok (.getfield 23, 3) := by decide +kernel
theorem dX9_times_62 : decode cX9_times 62 = .ok (.iconst 1, 1) := by decide +kernel
theorem dX9_times_63 : decode cX9_times 63 = .ok (.isub, 1) := by decide +kernel
theorem dX9_times_64 : decode cX9_times 64 = .ok (.putfield 23, 3) := by decide +kernel
theorem dX9_times_67 : decode cX9_times 67 = .ok (.aload_n 0, 1) := by decide +kernel
theorem dX9_times_68 : decode cX9_times 68 = .ok (.getfield 55, 3) := by decide +kernel
theorem dX9_times_71 : decode cX9_times 71 = .ok (.aload_n 0, 1) := by decide +kernel
theorem dX9_times_72 : decode cX9_times 72 = .ok (.getfield 13, 3) := by decide +kernel
theorem dX9_times_75 : decode cX9_times 75 = .ok (.iload_n 1, 1) := by decide +kernel
theorem dX9_times_76 : decode cX9_times 76 = .ok (.aaload, 1) := by decide +kernel
theorem dX9_times_77 : decode cX9_times 77 = .ok (.aload_n 0, 1) := by decide +kernel
theorem dX9_times_78 : decode cX9_times 78 = .ok (.getfield 95, 3) := by decide +kernel
theorem dX9_times_81 : decode cX9_times 81 = .ok (.aload_n 0, 1) := by decide +kernel
theorem dX9_times_82 : decode cX9_times 82 = .ok (.getfield 99, 3) := by decide +kernel
theorem dX9_times_85 : decode cX9_times 85 = .ok (.invokevirtual 195, 3) := by decide +kernel
theorem dX9_times_88 : decode cX9_times 88 = .ok (.aload_n 0, 1) := by decide +kernel
theorem dX9_times_89 : decode cX9_times 89 = .ok (.getfield 55, 3) := by decide +kernel
theorem dX9_times_92 : decode cX9_times 92 = .ok (.aload_n 0, 1) := by decide +kernel
theorem dX9_times_93 : decode cX9_times 93 = .ok (.getfield 99, 3) := by decide +kernel
theorem dX9_times_96 : decode cX9_times 96 = .ok (.aload_n 0, 1) := by decide +kernel
theorem dX9_times_97 : decode cX9_times 97 = .ok (.getfield 13, 3) := by decide +kernel
theorem dX9_times_100 : decode cX9_times 100 = .ok (.iload_n 3, 1) := by decide +kernel
theorem dX9_times_101 : decode cX9_times 101 = .ok (.aaload, 1) := by decide +kernel
theorem dX9_times_102 : decode cX9_times 102 = .ok (.invokevirtual 191, 3) := by decide +kernel
theorem dX9_times_105 : decode cX9_times 105 = .ok (.iconst 1, 1) := by decide +kernel
theorem dX9_times_106 : decode cX9_times 106 = .ok (.ireturn, 1) := by decide +kernel
theorem dX9_base_0 : decode cX9_base 0 = .ok (.iload_n 1, 1) := by decide +kernel
theorem dX9_base_1 : decode cX9_base 1 = .ok (.invokestatic 102, 3) := by decide +kernel
theorem dX9_base_4 : decode cX9_base 4 = .ok (.ifCond .eq 10, 3) := by decide +kernel
theorem dX9_base_7 : decode cX9_base 7 = .ok (.iload_n 2, 1) := by decide +kernel
theorem dX9_base_8 : decode cX9_base 8 = .ok (.invokestatic 102, 3) := by decide +kernel
theorem dX9_base_11 : decode cX9_base 11 = .ok (.ifCond .ne 6, 3) := by decide +kernel
theorem dX9_base_14 : decode cX9_base 14 = .ok (.bipush (-101), 2) := by decide +kernel
theorem dX9_base_16 : decode cX9_base 16 = .ok (.ireturn, 1) := by decide +kernel
theorem dX9_base_17 : decode cX9_base 17 = .ok (.aload_n 0, 1) := by decide +kernel
theorem dX9_base_18 : decode cX9_base 18 = .ok (.getfield 23, 3) := by decide +kernel
theorem dX9_base_21 : decode cX9_base 21 = .ok (.iconst 1, 1) := by decide +kernel
theorem dX9_base_22 : decode cX9_base 22 = .ok (.if_icmp .ge 6, 3) := by decide +kernel
theorem dX9_base_25 : decode cX9_base 25 = .ok (.bipush (-103), 2) := by decide +kernel
theorem dX9_base_27 : decode cX9_base 27 = .ok (.ireturn, 1) := by decide +kernel
theorem dX9_base_28 : decode cX9_base 28 = .ok (.aload_n 0, 1) := by decide +kernel
theorem dX9_base_29 : decode cX9_base 29 = .ok (.dup, 1) := by decide +kernel
theorem dX9_base_30 : decode cX9_base 30 = .ok (.getfield 23, 3) := by decide +kernel
theorem dX9_base_33 : decode cX9_base 33 = .ok (.iconst 1, 1) := by decide +kernel
theorem dX9_base_34 : decode cX9_base 34 = .ok (.isub, 1) := by decide +kernel
theorem dX9_base_35 : decode cX9_base 35 = .ok (.putfield 23, 3) := by decide +kernel
theorem dX9_base_38 : decode cX9_base 38 = .ok (.aload_n 0, 1) := by decide +kernel
theorem dX9_base_39 : decode cX9_base 39 = .ok (.getfield 55, 3) := by decide +kernel
theorem dX9_base_42 : decode cX9_base 42 = .ok (.aload_n 0, 1) := by decide +kernel
theorem dX9_base_43 : decode cX9_base 43 = .ok (.getfield 13, 3) := by decide +kernel
theorem dX9_base_46 : decode cX9_base 46 = .ok (.iload_n 1, 1) := by decide +kernel
theorem dX9_base_47 : decode cX9_base 47 = .ok (.aaload, 1) := by decide +kernel
theorem dX9_base_48 : decode cX9_base 48 = .ok (.aload_n 0, 1) := by decide +kernel
theorem dX9_base_49 : decode cX9_base 49 = .ok (.getfield 55, 3) := by decide +kernel
theorem dX9_base_52 : decode cX9_base 52 = .ok (.getfield 199, 3) := by decide +kernel
theorem dX9_base_55 : decode cX9_base 55 = .ok (.aload_n 0, 1) := by decide +kernel
theorem dX9_base_56 : decode cX9_base 56 = .ok (.getfield 99, 3) := by decide +kernel
theorem dX9_base_59 : decode cX9_base 59 = .ok (.invokevirtual 195, 3) := by decide +kernel
theorem dX9_base_62 : decode cX9_base 62 = .ok (.aload_n 0, 1) := by decide +kernel
theorem dX9_base_63 : decode cX9_base 63 = .ok (.getfield 55, 3) := by decide +kernel
theorem dX9_base_66 : decode cX9_base 66 = .ok (.aload_n 0, 1) := by decide +kernel
theorem dX9_base_67 : decode cX9_base 67 = .ok (.getfield 99, 3) := by decide +kernel
theorem dX9_base_70 : decode cX9_base 70 = .ok (.aload_n 0, 1) := by decide +kernel
theorem dX9_base_71 : decode cX9_base 71 = .ok (.getfield 13, 3) := by decide +kernel
theorem dX9_base_74 : decode cX9_base 74 = .ok (.iload_n 2, 1) := by decide +kernel
theorem dX9_base_75 : decode cX9_base 75 = .ok (.aaload, 1) := by decide +kernel
theorem dX9_base_76 : decode cX9_base 76 = .ok (.invokevirtual 191, 3) := by decide +kernel
theorem dX9_base_79 : decode cX9_base 79 = .ok (.iconst 1, 1) := by decide +kernel
theorem dX9_base_80 : decode cX9_base 80 = .ok (.ireturn, 1) := by decide +kernel
theorem dX9_small_0 : decode cX9_small 0 = .ok (.iload_n 1, 1) := by decide +kernel
theorem dX9_small_1 : decode cX9_small 1 = .ok (.invokestatic 102, 3) := by decide +kernel
theorem dX9_small_4 : decode cX9_small 4 = .ok (.ifCond .ne 6, 3) := by decide +kernel
theorem dX9_small_7 : decode cX9_small 7 = .ok (.bipush (-101), 2) := by decide +kernel
theorem dX9_small_9 : decode cX9_small 9 = .ok (.ireturn, 1) := by decide +kernel
theorem dX9_small_10 : decode cX9_small 10 = .ok (.aload_n 0, 1) := by decide +kernel
theorem dX9_small_11 : decode cX9_small 11 = .ok (.getfield 55, 3) := by decide +kernel
theorem dX9_small_14 : decode cX9_small 14 = .ok (.aload_n 0, 1) := by decide +kernel
theorem dX9_small_15 : decode cX9_small 15 = .ok (.getfield 13, 3) := by decide +kernel
theorem dX9_small_18 : decode cX9_small 18 = .ok (.iload_n 1, 1) := by decide +kernel
theorem dX9_small_19 : decode cX9_small 19 = .ok (.aaload, 1) := by decide +kernel
theorem dX9_small_20 : decode cX9_small 20 = .ok (.aload_n 0, 1) := by decide +kernel
theorem dX9_small_21 : decode cX9_small 21 = .ok (.getfield 95, 3) := by decide +kernel
theorem dX9_small_24 : decode cX9_small 24 = .ok (.invokevirtual 176, 3) := by decide +kernel
theorem dX9_small_27 : decode cX9_small 27 = .ok (.ifCond .ne 5, 3) := by decide +kernel
theorem dX9_small_30 : decode cX9_small 30 = .ok (.iconst (-1), 1) := by decide +kernel
theorem dX9_small_31 : decode cX9_small 31 = .ok (.ireturn, 1) := by decide +kernel
theorem dX9_small_32 : decode cX9_small 32 = .ok (.iconst 0, 1) := by decide +kernel
theorem dX9_small_33 : decode cX9_small 33 = .ok (.istore_n 2, 1) := by decide +kernel
theorem dX9_small_34 : decode cX9_small 34 = .ok (.iload_n 2, 1) := by decide +kernel
theorem dX9_small_35 : decode cX9_small 35 = .ok (.iconst 4, 1) := by decide +kernel
theorem dX9_small_36 : decode cX9_small 36 = .ok (.if_icmp .ge 40, 3) := by decide +kernel
theorem dX9_small_39 : decode cX9_small 39 = .ok (.aload_n 0, 1) := by decide +kernel
theorem dX9_small_40 : decode cX9_small 40 = .ok (.getfield 55, 3) := by decide +kernel
theorem dX9_small_43 : decode cX9_small 43 = .ok (.aload_n 0, 1) := by decide +kernel
theorem dX9_small_44 : decode cX9_small 44 = .ok (.getfield 95, 3) := by decide +kernel
theorem dX9_small_47 : decode cX9_small 47 = .ok (.invokevirtual 202, 3) := by decide +kernel
theorem dX9_small_50 : decode cX9_small 50 = .ok (.ifCond .eq 5, 3) := by decide +kernel
theorem dX9_small_53 : decode cX9_small 53 = .ok (.iload_n 2, 1) := by decide +kernel
theorem dX9_small_54 : decode cX9_small 54 = .ok (.ireturn, 1) := by decide +kernel
theorem dX9_small_55 : decode cX9_small 55 = .ok (.aload_n 0, 1) := by decide +kernel
theorem dX9_small_56 : decode cX9_small 56 = .ok (.getfield 55, 3) := by decide +kernel
theorem dX9_small_59 : decode cX9_small 59 = .ok (.aload_n 0, 1) := by decide +kernel
theorem dX9_small_60 : decode cX9_small 60 = .ok (.getfield 95, 3) := by decide +kernel
theorem dX9_small_63 : decode cX9_small 63 = .ok (.aload_n 0, 1) := by decide +kernel
theorem dX9_small_64 : decode cX9_small 64 = .ok (.getfield 95, 3) := by decide +kernel
theorem dX9_small_67 : decode cX9_small 67 = .ok (.invokevirtual 206, 3) := by decide +kernel
theorem dX9_small_70 : decode cX9_small 70 = .ok (.iinc 2 1, 3) := by decide +kernel
theorem dX9_small_73 : decode cX9_small 73 = .ok (.goto (-39), 3) := by decide +kernel
theorem dX9_small_76 : decode cX9_small 76 = .ok (.iconst 4, 1) := by decide +kernel
theorem dX9_small_77 : decode cX9_small 77 = .ok (.ireturn, 1) := by decide +kernel
theorem dX9_other_0 : decode cX9_other 0 = .ok (.iload_n 1, 1) := by decide +kernel
theorem dX9_other_1 : decode cX9_other 1 = .ok (.invokestatic 102, 3) := by decide +kernel
theorem dX9_other_4 : decode cX9_other 4 = .ok (.ifCond .eq 10, 3) := by decide +kernel
theorem dX9_other_7 : decode cX9_other 7 = .ok (.iload_n 2, 1) := by decide +kernel
theorem dX9_other_8 : decode cX9_other 8 = .ok (.invokestatic 102, 3) := by decide +kernel
theorem dX9_other_11 : decode cX9_other 11 = .ok (.ifCond .ne 6, 3) := by decide +kernel
theorem dX9_other_14 : decode cX9_other 14 = .ok (.bipush (-101), 2) := by decide +kernel
theorem dX9_other_16 : decode cX9_other 16 = .ok (.ireturn, 1) := by decide +kernel
theorem dX9_other_17 : decode cX9_other 17 = .ok (.aload_n 0, 1) := by decide +kernel
theorem dX9_other_18 : decode cX9_other 18 = .ok (.getfield 55, 3) := by decide +kernel
theorem dX9_other_21 : decode cX9_other 21 = .ok (.aload_n 0, 1) := by decide +kernel
theorem dX9_other_22 : decode cX9_other 22 = .ok (.getfield 13, 3) := by decide +kernel
theorem dX9_other_25 : decode cX9_other 25 = .ok (.iload_n 1, 1) := by decide +kernel
theorem dX9_other_26 : decode cX9_other 26 = .ok (.aaload, 1) := by decide +kernel
theorem dX9_other_27 : decode cX9_other 27 = .ok (.aload_n 0, 1) := by decide +kernel
theorem dX9_other_28 : decode cX9_other 28 = .ok (.getfield 95, 3) := by decide +kernel
theorem dX9_other_31 : decode cX9_other 31 = .ok (.invokevirtual 176, 3) := by decide +kernel
theorem dX9_other_34 : decode cX9_other 34 = .ok (.ifCond .ne 5, 3) := by decide +kernel
theorem dX9_other_37 : decode cX9_other 37 = .ok (.iconst (-1), 1) := by decide +kernel
theorem dX9_other_38 : decode cX9_other 38 = .ok (.ireturn, 1) := by decide +kernel
theorem dX9_other_39 : decode cX9_other 39 = .ok (.aload_n 0, 1) := by decide +kernel
theorem dX9_other_40 : decode cX9_other 40 = .ok (.getfield 55, 3) := by decide +kernel
theorem dX9_other_43 : decode cX9_other 43 = .ok (.aload_n 0, 1) := by decide +kernel
theorem dX9_other_44 : decode cX9_other 44 = .ok (.getfield 95, 3) := by decide +kernel
theorem dX9_other_47 : decode cX9_other 47 = .ok (.aload_n 0, 1) := by decide +kernel
theorem dX9_other_48 : decode cX9_other 48 = .ok (.getfield 82, 3) := by decide +kernel
theorem dX9_other_51 : decode cX9_other 51 = .ok (.invokevirtual 210, 3) := by decide +kernel
theorem dX9_other_54 : decode cX9_other 54 = .ok (.aload_n 0, 1) := by decide +kernel
theorem dX9_other_55 : decode cX9_other 55 = .ok (.getfield 39, 3) := by decide +kernel
theorem dX9_other_58 : decode cX9_other 58 = .ok (.aload_n 0, 1) := by decide +kernel
theorem dX9_other_59 : decode cX9_other 59 = .ok (.getfield 82, 3) := by decide +kernel
theorem dX9_other_62 : decode cX9_other 62 = .ok (.aload_n 0, 1) := by decide +kernel
theorem dX9_other_63 : decode cX9_other 63 = .ok (.getfield 13, 3) := by decide +kernel
theorem dX9_other_66 : decode cX9_other 66 = .ok (.iload_n 2, 1) := by decide +kernel
theorem dX9_other_67 : decode cX9_other 67 = .ok (.aaload, 1) := by decide +kernel
theorem dX9_other_68 : decode cX9_other 68 = .ok (.invokevirtual 140, 3) := by decide +kernel
theorem dX9_other_71 : decode cX9_other 71 = .ok (.iconst 1, 1) := by decide +kernel
theorem dX9_other_72 : decode cX9_other 72 = .ok (.ireturn, 1) := by decide +kernel
theorem dX9_share_0 : decode cX9_share 0 = .ok (.iload_n 1, 1) := by decide +kernel
theorem dX9_share_1 : decode cX9_share 1 = .ok (.invokestatic 102, 3) := by decide +kernel
theorem dX9_share_4 : decode cX9_share 4 = .ok (.ifCond .eq 17, 3) := by decide +kernel
theorem dX9_share_7 : decode cX9_share 7 = .ok (.iload_n 2, 1) := by decide +kernel
theorem dX9_share_8 : decode cX9_share 8 = .ok (.invokestatic 102, 3) := by decide +kernel
theorem dX9_share_11 : decode cX9_share 11 = .ok (.ifCond .eq 10, 3) := by decide +kernel
theorem dX9_share_14 : decode cX9_share 14 = .ok (.iload_n 3, 1) := by decide +kernel
theorem dX9_share_15 : decode cX9_share 15 = .ok (.invokestatic 102, 3) := by decide +kernel
theorem dX9_share_18 : decode cX9_share 18 = .ok (.ifCond .ne 6, 3) := by decide +kernel
theorem dX9_share_21 : decode cX9_share 21 = .ok (.bipush (-101), 2) := by decide +kernel
theorem dX9_share_23 : decode cX9_share 23 = .ok (.ireturn, 1) := by decide +kernel
theorem dX9_share_24 : decode cX9_share 24 = .ok (.aload_n 0, 1) := by decide +kernel
theorem dX9_share_25 : decode cX9_share 25 = .ok (.getfield 23, 3) := by decide +kernel
theorem dX9_share_28 : decode cX9_share 28 = .ok (.iconst 1, 1) := by decide +kernel
theorem dX9_share_29 : decode cX9_share 29 = .ok (.if_icmp .ge 6, 3) := by decide +kernel
theorem dX9_share_32 : decode cX9_share 32 = .ok (.bipush (-103), 2) := by decide +kernel
theorem dX9_share_34 : decode cX9_share 34 = .ok (.ireturn, 1) := by decide +kernel
theorem dX9_share_35 : decode cX9_share 35 = .ok (.aload_n 0, 1) := by decide +kernel
theorem dX9_share_36 : decode cX9_share 36 = .ok (.dup, 1) := by decide +kernel
theorem dX9_share_37 : decode cX9_share 37 = .ok (.getfield 23, 3) := by decide +kernel
theorem dX9_share_40 : decode cX9_share 40 = .ok (.iconst 1, 1) := by decide +kernel
theorem dX9_share_41 : decode cX9_share 41 = .ok (.isub, 1) := by decide +kernel
theorem dX9_share_42 : decode cX9_share 42 = .ok (.putfield 23, 3) := by decide +kernel
theorem dX9_share_45 : decode cX9_share 45 = .ok (.aload_n 0, 1) := by decide +kernel
theorem dX9_share_46 : decode cX9_share 46 = .ok (.getfield 39, 3) := by decide +kernel
theorem dX9_share_49 : decode cX9_share 49 = .ok (.aload_n 0, 1) := by decide +kernel
theorem dX9_share_50 : decode cX9_share 50 = .ok (.getfield 13, 3) := by decide +kernel
theorem dX9_share_53 : decode cX9_share 53 = .ok (.iload_n 2, 1) := by decide +kernel
theorem dX9_share_54 : decode cX9_share 54 = .ok (.aaload, 1) := by decide +kernel
theorem dX9_share_55 : decode cX9_share 55 = .ok (.aload_n 0, 1) := by decide +kernel
theorem dX9_share_56 : decode cX9_share 56 = .ok (.getfield 82, 3) := by decide +kernel
theorem dX9_share_59 : decode cX9_share 59 = .ok (.invokevirtual 129, 3) := by decide +kernel
theorem dX9_share_62 : decode cX9_share 62 = .ok (.aload_n 0, 1) := by decide +kernel
theorem dX9_share_63 : decode cX9_share 63 = .ok (.getfield 62, 3) := by decide +kernel
theorem dX9_share_66 : decode cX9_share 66 = .ok (.aload_n 0, 1) := by decide +kernel
theorem dX9_share_67 : decode cX9_share 67 = .ok (.getfield 13, 3) := by decide +kernel
theorem dX9_share_70 : decode cX9_share 70 = .ok (.iload_n 1, 1) := by decide +kernel
theorem dX9_share_71 : decode cX9_share 71 = .ok (.aaload, 1) := by decide +kernel
theorem dX9_share_72 : decode cX9_share 72 = .ok (.aload_n 0, 1) := by decide +kernel
theorem dX9_share_73 : decode cX9_share 73 = .ok (.getfield 82, 3) := by decide +kernel
theorem dX9_share_76 : decode cX9_share 76 = .ok (.aload_n 0, 1) := by decide +kernel
theorem dX9_share_77 : decode cX9_share 77 = .ok (.getfield 86, 3) := by decide +kernel
theorem dX9_share_80 : decode cX9_share 80 = .ok (.invokevirtual 213, 3) := by decide +kernel
theorem dX9_share_83 : decode cX9_share 83 = .ok (.aload_n 0, 1) := by decide +kernel
theorem dX9_share_84 : decode cX9_share 84 = .ok (.getfield 39, 3) := by decide +kernel
theorem dX9_share_87 : decode cX9_share 87 = .ok (.aload_n 0, 1) := by decide +kernel
theorem dX9_share_88 : decode cX9_share 88 = .ok (.getfield 86, 3) := by decide +kernel
theorem dX9_share_91 : decode cX9_share 91 = .ok (.aload_n 0, 1) := by decide +kernel
theorem dX9_share_92 : decode cX9_share 92 = .ok (.getfield 13, 3) := by decide +kernel
theorem dX9_share_95 : decode cX9_share 95 = .ok (.iload_n 3, 1) := by decide +kernel
theorem dX9_share_96 : decode cX9_share 96 = .ok (.aaload, 1) := by decide +kernel
theorem dX9_share_97 : decode cX9_share 97 = .ok (.invokevirtual 140, 3) := by decide +kernel
theorem dX9_share_100 : decode cX9_share 100 = .ok (.aload_n 0, 1) := by decide +kernel
theorem dX9_share_101 : decode cX9_share 101 = .ok (.getfield 39, 3) := by decide +kernel
theorem dX9_share_104 : decode cX9_share 104 = .ok (.aload_n 0, 1) := by decide +kernel
theorem dX9_share_105 : decode cX9_share 105 = .ok (.getfield 86, 3) := by decide +kernel
theorem dX9_share_108 : decode cX9_share 108 = .ok (.invokevirtual 132, 3) := by decide +kernel
theorem dX9_share_111 : decode cX9_share 111 = .ok (.ifCond .ne 7, 3) := by decide +kernel
theorem dX9_share_114 : decode cX9_share 114 = .ok (.iconst 1, 1) := by decide +kernel
theorem dX9_share_115 : decode cX9_share 115 = .ok (.goto 4, 3) := by decide +kernel
theorem dX9_share_118 : decode cX9_share 118 = .ok (.iconst 0, 1) := by decide +kernel
theorem dX9_share_119 : decode cX9_share 119 = .ok (.invokestatic 158, 3) := by decide +kernel
theorem dX9_share_122 : decode cX9_share 122 = .ok (.ireturn, 1) := by decide +kernel
theorem dX9_digest_0 : decode cX9_digest 0 = .ok (.iload_n 1, 1) := by decide +kernel
theorem dX9_digest_1 : decode cX9_digest 1 = .ok (.invokestatic 216, 3) := by decide +kernel
theorem dX9_digest_4 : decode cX9_digest 4 = .ok (.ifCond .ne 6, 3) := by decide +kernel
theorem dX9_digest_7 : decode cX9_digest 7 = .ok (.bipush (-101), 2) := by decide +kernel
theorem dX9_digest_9 : decode cX9_digest 9 = .ok (.ireturn, 1) := by decide +kernel
theorem dX9_digest_10 : decode cX9_digest 10 = .ok (.aload_n 0, 1) := by decide +kernel
theorem dX9_digest_11 : decode cX9_digest 11 = .ok (.getfield 69, 3) := by decide +kernel
theorem dX9_digest_14 : decode cX9_digest 14 = .ok (.invokevirtual 219, 3) := by decide +kernel
theorem dX9_digest_17 : decode cX9_digest 17 = .ok (.aload_n 0, 1) := by decide +kernel
theorem dX9_digest_18 : decode cX9_digest 18 = .ok (.getfield 69, 3) := by decide +kernel
theorem dX9_digest_21 : decode cX9_digest 21 = .ok (.aload_n 0, 1) := by decide +kernel
theorem dX9_digest_22 : decode cX9_digest 22 = .ok (.getfield 19, 3) := by decide +kernel
theorem dX9_digest_25 : decode cX9_digest 25 = .ok (.invokevirtual 222, 3) := by decide +kernel
theorem dX9_digest_28 : decode cX9_digest 28 = .ok (.aload_n 0, 1) := by decide +kernel
theorem dX9_digest_29 : decode cX9_digest 29 = .ok (.getfield 69, 3) := by decide +kernel
theorem dX9_digest_32 : decode cX9_digest 32 = .ok (.aload_n 0, 1) := by decide +kernel
theorem dX9_digest_33 : decode cX9_digest 33 = .ok (.getfield 89, 3) := by decide +kernel
theorem dX9_digest_36 : decode cX9_digest 36 = .ok (.invokevirtual 226, 3) := by decide +kernel
theorem dX9_digest_39 : decode cX9_digest 39 = .ok (.aload_n 0, 1) := by decide +kernel
theorem dX9_digest_40 : decode cX9_digest 40 = .ok (.getfield 89, 3) := by decide +kernel
theorem dX9_digest_43 : decode cX9_digest 43 = .ok (.iconst 0, 1) := by decide +kernel
theorem dX9_digest_44 : decode cX9_digest 44 = .ok (.aload_n 0, 1) := by decide +kernel
theorem dX9_digest_45 : decode cX9_digest 45 = .ok (.getfield 13, 3) := by decide +kernel
theorem dX9_digest_48 : decode cX9_digest 48 = .ok (.iload_n 1, 1) := by decide +kernel
theorem dX9_digest_49 : decode cX9_digest 49 = .ok (.aaload, 1) := by decide +kernel
theorem dX9_digest_50 : decode cX9_digest 50 = .ok (.iconst 0, 1) := by decide +kernel
theorem dX9_digest_51 : decode cX9_digest 51 = .ok (.iconst 4, 1) := by decide +kernel
theorem dX9_digest_52 : decode cX9_digest 52 = .ok (.invokestatic 230, 3) := by decide +kernel
theorem dX9_digest_55 : decode cX9_digest 55 = .ok (.aload_n 0, 1) := by decide +kernel
theorem dX9_digest_56 : decode cX9_digest 56 = .ok (.getfield 89, 3) := by decide +kernel
theorem dX9_digest_59 : decode cX9_digest 59 = .ok (.iconst 4, 1) := by decide +kernel
theorem dX9_digest_60 : decode cX9_digest 60 = .ok (.aload_n 0, 1) := by decide +kernel
theorem dX9_digest_61 : decode cX9_digest 61 = .ok (.getfield 13, 3) := by decide +kernel
theorem dX9_digest_64 : decode cX9_digest 64 = .ok (.iload_n 1, 1) := by decide +kernel
theorem dX9_digest_65 : decode cX9_digest 65 = .ok (.iconst 1, 1) := by decide +kernel
theorem dX9_digest_66 : decode cX9_digest 66 = .ok (.iadd, 1) := by decide +kernel
theorem dX9_digest_67 : decode cX9_digest 67 = .ok (.aaload, 1) := by decide +kernel
theorem dX9_digest_68 : decode cX9_digest 68 = .ok (.iconst 0, 1) := by decide +kernel
theorem dX9_digest_69 : decode cX9_digest 69 = .ok (.iconst 4, 1) := by decide +kernel
theorem dX9_digest_70 : decode cX9_digest 70 = .ok (.invokestatic 230, 3) := by decide +kernel
theorem dX9_digest_73 : decode cX9_digest 73 = .ok (.iconst 1, 1) := by decide +kernel
theorem dX9_digest_74 : decode cX9_digest 74 = .ok (.ireturn, 1) := by decide +kernel
theorem dX9_key_0 : decode cX9_key 0 = .ok (.iload_n 1, 1) := by decide +kernel
theorem dX9_key_1 : decode cX9_key 1 = .ok (.invokestatic 102, 3) := by decide +kernel
theorem dX9_key_4 : decode cX9_key 4 = .ok (.ifCond .eq 10, 3) := by decide +kernel
theorem dX9_key_7 : decode cX9_key 7 = .ok (.iload_n 2, 1) := by decide +kernel
theorem dX9_key_8 : decode cX9_key 8 = .ok (.invokestatic 102, 3) := by decide +kernel
theorem dX9_key_11 : decode cX9_key 11 = .ok (.ifCond .ne 6, 3) := by decide +kernel
theorem dX9_key_14 : decode cX9_key 14 = .ok (.bipush (-101), 2) := by decide +kernel
theorem dX9_key_16 : decode cX9_key 16 = .ok (.ireturn, 1) := by decide +kernel
theorem dX9_key_17 : decode cX9_key 17 = .ok (.aload_n 0, 1) := by decide +kernel
theorem dX9_key_18 : decode cX9_key 18 = .ok (.getfield 23, 3) := by decide +kernel
theorem dX9_key_21 : decode cX9_key 21 = .ok (.iconst 1, 1) := by decide +kernel
theorem dX9_key_22 : decode cX9_key 22 = .ok (.if_icmp .ge 6, 3) := by decide +kernel
theorem dX9_key_25 : decode cX9_key 25 = .ok (.bipush (-103), 2) := by decide +kernel
theorem dX9_key_27 : decode cX9_key 27 = .ok (.ireturn, 1) := by decide +kernel
theorem dX9_key_28 : decode cX9_key 28 = .ok (.aload_n 0, 1) := by decide +kernel
theorem dX9_key_29 : decode cX9_key 29 = .ok (.dup, 1) := by decide +kernel
theorem dX9_key_30 : decode cX9_key 30 = .ok (.getfield 23, 3) := by decide +kernel
theorem dX9_key_33 : decode cX9_key 33 = .ok (.iconst 1, 1) := by decide +kernel
theorem dX9_key_34 : decode cX9_key 34 = .ok (.isub, 1) := by decide +kernel
theorem dX9_key_35 : decode cX9_key 35 = .ok (.putfield 23, 3) := by decide +kernel
theorem dX9_key_38 : decode cX9_key 38 = .ok (.aload_n 0, 1) := by decide +kernel
theorem dX9_key_39 : decode cX9_key 39 = .ok (.getfield 78, 3) := by decide +kernel
theorem dX9_key_42 : decode cX9_key 42 = .ok (.aload_n 0, 1) := by decide +kernel
theorem dX9_key_43 : decode cX9_key 43 = .ok (.getfield 13, 3) := by decide +kernel
theorem dX9_key_46 : decode cX9_key 46 = .ok (.iload_n 1, 1) := by decide +kernel
theorem dX9_key_47 : decode cX9_key 47 = .ok (.aaload, 1) := by decide +kernel
theorem dX9_key_48 : decode cX9_key 48 = .ok (.aload_n 0, 1) := by decide +kernel
theorem dX9_key_49 : decode cX9_key 49 = .ok (.getfield 13, 3) := by decide +kernel
theorem dX9_key_52 : decode cX9_key 52 = .ok (.iload_n 2, 1) := by decide +kernel
theorem dX9_key_53 : decode cX9_key 53 = .ok (.aaload, 1) := by decide +kernel
theorem dX9_key_54 : decode cX9_key 54 = .ok (.invokevirtual 236, 3) := by decide +kernel
theorem dX9_key_57 : decode cX9_key 57 = .ok (.iconst 1, 1) := by decide +kernel
theorem dX9_key_58 : decode cX9_key 58 = .ok (.ireturn, 1) := by decide +kernel
theorem dX9_sign_0 : decode cX9_sign 0 = .ok (.iload_n 1, 1) := by decide +kernel
theorem dX9_sign_1 : decode cX9_sign 1 = .ok (.invokestatic 102, 3) := by decide +kernel
theorem dX9_sign_4 : decode cX9_sign 4 = .ok (.ifCond .eq 10, 3) := by decide +kernel
theorem dX9_sign_7 : decode cX9_sign 7 = .ok (.iload_n 2, 1) := by decide +kernel
theorem dX9_sign_8 : decode cX9_sign 8 = .ok (.invokestatic 216, 3) := by decide +kernel
theorem dX9_sign_11 : decode cX9_sign 11 = .ok (.ifCond .ne 6, 3) := by decide +kernel
theorem dX9_sign_14 : decode cX9_sign 14 = .ok (.bipush (-101), 2) := by decide +kernel
theorem dX9_sign_16 : decode cX9_sign 16 = .ok (.ireturn, 1) := by decide +kernel
theorem dX9_sign_17 : decode cX9_sign 17 = .ok (.aload_n 0, 1) := by decide +kernel
theorem dX9_sign_18 : decode cX9_sign 18 = .ok (.getfield 23, 3) := by decide +kernel
theorem dX9_sign_21 : decode cX9_sign 21 = .ok (.iconst 2, 1) := by decide +kernel
theorem dX9_sign_22 : decode cX9_sign 22 = .ok (.if_icmp .ge 6, 3) := by decide +kernel
theorem dX9_sign_25 : decode cX9_sign 25 = .ok (.bipush (-103), 2) := by decide +kernel
theorem dX9_sign_27 : decode cX9_sign 27 = .ok (.ireturn, 1) := by decide +kernel
theorem dX9_sign_28 : decode cX9_sign 28 = .ok (.aload_n 0, 1) := by decide +kernel
theorem dX9_sign_29 : decode cX9_sign 29 = .ok (.dup, 1) := by decide +kernel
theorem dX9_sign_30 : decode cX9_sign 30 = .ok (.getfield 23, 3) := by decide +kernel
theorem dX9_sign_33 : decode cX9_sign 33 = .ok (.iconst 2, 1) := by decide +kernel
theorem dX9_sign_34 : decode cX9_sign 34 = .ok (.isub, 1) := by decide +kernel
theorem dX9_sign_35 : decode cX9_sign 35 = .ok (.putfield 23, 3) := by decide +kernel
theorem dX9_sign_38 : decode cX9_sign 38 = .ok (.aload_n 0, 1) := by decide +kernel
theorem dX9_sign_39 : decode cX9_sign 39 = .ok (.getfield 78, 3) := by decide +kernel
theorem dX9_sign_42 : decode cX9_sign 42 = .ok (.aload_n 0, 1) := by decide +kernel
theorem dX9_sign_43 : decode cX9_sign 43 = .ok (.getfield 13, 3) := by decide +kernel
theorem dX9_sign_46 : decode cX9_sign 46 = .ok (.iload_n 1, 1) := by decide +kernel
theorem dX9_sign_47 : decode cX9_sign 47 = .ok (.aaload, 1) := by decide +kernel
theorem dX9_sign_48 : decode cX9_sign 48 = .ok (.aload_n 0, 1) := by decide +kernel
theorem dX9_sign_49 : decode cX9_sign 49 = .ok (.getfield 19, 3) := by decide +kernel
theorem dX9_sign_52 : decode cX9_sign 52 = .ok (.aload_n 0, 1) := by decide +kernel
theorem dX9_sign_53 : decode cX9_sign 53 = .ok (.getfield 13, 3) := by decide +kernel
theorem dX9_sign_56 : decode cX9_sign 56 = .ok (.iload_n 2, 1) := by decide +kernel
theorem dX9_sign_57 : decode cX9_sign 57 = .ok (.aaload, 1) := by decide +kernel
theorem dX9_sign_58 : decode cX9_sign 58 = .ok (.aload_n 0, 1) := by decide +kernel
theorem dX9_sign_59 : decode cX9_sign 59 = .ok (.getfield 13, 3) := by decide +kernel
theorem dX9_sign_62 : decode cX9_sign 62 = .ok (.iload_n 2, 1) := by decide +kernel
theorem dX9_sign_63 : decode cX9_sign 63 = .ok (.iconst 1, 1) := by decide +kernel
theorem dX9_sign_64 : decode cX9_sign 64 = .ok (.iadd, 1) := by decide +kernel
theorem dX9_sign_65 : decode cX9_sign 65 = .ok (.aaload, 1) := by decide +kernel
theorem dX9_sign_66 : decode cX9_sign 66 = .ok (.invokevirtual 239, 3) := by decide +kernel
theorem dX9_sign_69 : decode cX9_sign 69 = .ok (.aload_n 0, 1) := by decide +kernel
theorem dX9_sign_70 : decode cX9_sign 70 = .ok (.dup, 1) := by decide +kernel
theorem dX9_sign_71 : decode cX9_sign 71 = .ok (.getfield 27, 3) := by decide +kernel
theorem dX9_sign_74 : decode cX9_sign 74 = .ok (.iconst 1, 1) := by decide +kernel
theorem dX9_sign_75 : decode cX9_sign 75 = .ok (.iadd, 1) := by decide +kernel
theorem dX9_sign_76 : decode cX9_sign 76 = .ok (.putfield 27, 3) := by decide +kernel
theorem dX9_sign_79 : decode cX9_sign 79 = .ok (.iconst 1, 1) := by decide +kernel
theorem dX9_sign_80 : decode cX9_sign 80 = .ok (.ireturn, 1) := by decide +kernel
theorem dX9_judge_0 : decode cX9_judge 0 = .ok (.iload_n 1, 1) := by decide +kernel
theorem dX9_judge_1 : decode cX9_judge 1 = .ok (.invokestatic 102, 3) := by decide +kernel
theorem dX9_judge_4 : decode cX9_judge 4 = .ok (.ifCond .eq 10, 3) := by decide +kernel
theorem dX9_judge_7 : decode cX9_judge 7 = .ok (.iload_n 2, 1) := by decide +kernel
theorem dX9_judge_8 : decode cX9_judge 8 = .ok (.invokestatic 216, 3) := by decide +kernel
theorem dX9_judge_11 : decode cX9_judge 11 = .ok (.ifCond .ne 6, 3) := by decide +kernel
theorem dX9_judge_14 : decode cX9_judge 14 = .ok (.bipush (-101), 2) := by decide +kernel
theorem dX9_judge_16 : decode cX9_judge 16 = .ok (.ireturn, 1) := by decide +kernel
theorem dX9_judge_17 : decode cX9_judge 17 = .ok (.aload_n 0, 1) := by decide +kernel
theorem dX9_judge_18 : decode cX9_judge 18 = .ok (.getfield 23, 3) := by decide +kernel
theorem dX9_judge_21 : decode cX9_judge 21 = .ok (.iconst 2, 1) := by decide +kernel
theorem dX9_judge_22 : decode cX9_judge 22 = .ok (.if_icmp .ge 6, 3) := by decide +kernel
theorem dX9_judge_25 : decode cX9_judge 25 = .ok (.bipush (-103), 2) := by decide +kernel
theorem dX9_judge_27 : decode cX9_judge 27 = .ok (.ireturn, 1) := by decide +kernel
theorem dX9_judge_28 : decode cX9_judge 28 = .ok (.aload_n 0, 1) := by decide +kernel
theorem dX9_judge_29 : decode cX9_judge 29 = .ok (.dup, 1) := by decide +kernel
theorem dX9_judge_30 : decode cX9_judge 30 = .ok (.getfield 23, 3) := by decide +kernel
theorem dX9_judge_33 : decode cX9_judge 33 = .ok (.iconst 2, 1) := by decide +kernel
theorem dX9_judge_34 : decode cX9_judge 34 = .ok (.isub, 1) := by decide +kernel
theorem dX9_judge_35 : decode cX9_judge 35 = .ok (.putfield 23, 3) := by decide +kernel
theorem dX9_judge_38 : decode cX9_judge 38 = .ok (.aload_n 0, 1) := by decide +kernel
theorem dX9_judge_39 : decode cX9_judge 39 = .ok (.dup, 1) := by decide +kernel
theorem dX9_judge_40 : decode cX9_judge 40 = .ok (.getfield 30, 3) := by decide +kernel
theorem dX9_judge_43 : decode cX9_judge 43 = .ok (.iconst 1, 1) := by decide +kernel
theorem dX9_judge_44 : decode cX9_judge 44 = .ok (.iadd, 1) := by decide +kernel
theorem dX9_judge_45 : decode cX9_judge 45 = .ok (.putfield 30, 3) := by decide +kernel
theorem dX9_judge_48 : decode cX9_judge 48 = .ok (.aload_n 0, 1) := by decide +kernel
theorem dX9_judge_49 : decode cX9_judge 49 = .ok (.getfield 78, 3) := by decide +kernel
theorem dX9_judge_52 : decode cX9_judge 52 = .ok (.aload_n 0, 1) := by decide +kernel
theorem dX9_judge_53 : decode cX9_judge 53 = .ok (.getfield 13, 3) := by decide +kernel
theorem dX9_judge_56 : decode cX9_judge 56 = .ok (.iload_n 1, 1) := by decide +kernel
theorem dX9_judge_57 : decode cX9_judge 57 = .ok (.aaload, 1) := by decide +kernel
theorem dX9_judge_58 : decode cX9_judge 58 = .ok (.aload_n 0, 1) := by decide +kernel
theorem dX9_judge_59 : decode cX9_judge 59 = .ok (.getfield 13, 3) := by decide +kernel
theorem dX9_judge_62 : decode cX9_judge 62 = .ok (.iload_n 2, 1) := by decide +kernel
theorem dX9_judge_63 : decode cX9_judge 63 = .ok (.aaload, 1) := by decide +kernel
theorem dX9_judge_64 : decode cX9_judge 64 = .ok (.aload_n 0, 1) := by decide +kernel
theorem dX9_judge_65 : decode cX9_judge 65 = .ok (.getfield 13, 3) := by decide +kernel
theorem dX9_judge_68 : decode cX9_judge 68 = .ok (.iload_n 2, 1) := by decide +kernel
theorem dX9_judge_69 : decode cX9_judge 69 = .ok (.iconst 1, 1) := by decide +kernel
theorem dX9_judge_70 : decode cX9_judge 70 = .ok (.iadd, 1) := by decide +kernel
theorem dX9_judge_71 : decode cX9_judge 71 = .ok (.aaload, 1) := by decide +kernel
theorem dX9_judge_72 : decode cX9_judge 72 = .ok (.aload_n 0, 1) := by decide +kernel
theorem dX9_judge_73 : decode cX9_judge 73 = .ok (.getfield 19, 3) := by decide +kernel
theorem dX9_judge_76 : decode cX9_judge 76 = .ok (.invokevirtual 243, 3) := by decide +kernel
theorem dX9_judge_79 : decode cX9_judge 79 = .ok (.ifCond .ne 5, 3) := by decide +kernel
theorem dX9_judge_82 : decode cX9_judge 82 = .ok (.iconst 0, 1) := by decide +kernel
theorem dX9_judge_83 : decode cX9_judge 83 = .ok (.ireturn, 1) := by decide +kernel
theorem dX9_judge_84 : decode cX9_judge 84 = .ok (.aload_n 0, 1) := by decide +kernel
theorem dX9_judge_85 : decode cX9_judge 85 = .ok (.dup, 1) := by decide +kernel
theorem dX9_judge_86 : decode cX9_judge 86 = .ok (.getfield 33, 3) := by decide +kernel
theorem dX9_judge_89 : decode cX9_judge 89 = .ok (.iconst 1, 1) := by decide +kernel
theorem dX9_judge_90 : decode cX9_judge 90 = .ok (.iadd, 1) := by decide +kernel
theorem dX9_judge_91 : decode cX9_judge 91 = .ok (.putfield 33, 3) := by decide +kernel
theorem dX9_judge_94 : decode cX9_judge 94 = .ok (.iconst 1, 1) := by decide +kernel
theorem dX9_judge_95 : decode cX9_judge 95 = .ok (.ireturn, 1) := by decide +kernel
theorem dX9_count_0 : decode cX9_count 0 = .ok (.iload_n 1, 1) := by decide +kernel
theorem dX9_count_1 : decode cX9_count 1 = .ok (.tableswitch 63 0 4 #[35, 43, 48, 53, 58], 35) := by decide +kernel
theorem dX9_count_36 : decode cX9_count 36 = .ok (.aload_n 0, 1) := by decide +kernel
theorem dX9_count_37 : decode cX9_count 37 = .ok (.getfield 19, 3) := by decide +kernel
theorem dX9_count_40 : decode cX9_count 40 = .ok (.getfield 114, 3) := by decide +kernel
theorem dX9_count_43 : decode cX9_count 43 = .ok (.ireturn, 1) := by decide +kernel
theorem dX9_count_44 : decode cX9_count 44 = .ok (.aload_n 0, 1) := by decide +kernel
theorem dX9_count_45 : decode cX9_count 45 = .ok (.getfield 23, 3) := by decide +kernel
theorem dX9_count_48 : decode cX9_count 48 = .ok (.ireturn, 1) := by decide +kernel
theorem dX9_count_49 : decode cX9_count 49 = .ok (.aload_n 0, 1) := by decide +kernel
theorem dX9_count_50 : decode cX9_count 50 = .ok (.getfield 27, 3) := by decide +kernel
theorem dX9_count_53 : decode cX9_count 53 = .ok (.ireturn, 1) := by decide +kernel
theorem dX9_count_54 : decode cX9_count 54 = .ok (.aload_n 0, 1) := by decide +kernel
theorem dX9_count_55 : decode cX9_count 55 = .ok (.getfield 30, 3) := by decide +kernel
theorem dX9_count_58 : decode cX9_count 58 = .ok (.ireturn, 1) := by decide +kernel
theorem dX9_count_59 : decode cX9_count 59 = .ok (.aload_n 0, 1) := by decide +kernel
theorem dX9_count_60 : decode cX9_count 60 = .ok (.getfield 33, 3) := by decide +kernel
theorem dX9_count_63 : decode cX9_count 63 = .ok (.ireturn, 1) := by decide +kernel
theorem dX9_count_64 : decode cX9_count 64 = .ok (.bipush (-102), 2) := by decide +kernel
theorem dX9_count_66 : decode cX9_count 66 = .ok (.ireturn, 1) := by decide +kernel
theorem dX9_isSlot_0 : decode cX9_isSlot 0 = .ok (.iload_n 0, 1) := by decide +kernel
theorem dX9_isSlot_1 : decode cX9_isSlot 1 = .ok (.bipush 24, 2) := by decide +kernel
theorem dX9_isSlot_3 : decode cX9_isSlot 3 = .ok (.invokestatic 106, 3) := by decide +kernel
theorem dX9_isSlot_6 : decode cX9_isSlot 6 = .ok (.ireturn, 1) := by decide +kernel
theorem dX9_isPair_0 : decode cX9_isPair 0 = .ok (.iload_n 0, 1) := by decide +kernel
theorem dX9_isPair_1 : decode cX9_isPair 1 = .ok (.bipush 23, 2) := by decide +kernel
theorem dX9_isPair_3 : decode cX9_isPair 3 = .ok (.invokestatic 106, 3) := by decide +kernel
theorem dX9_isPair_6 : decode cX9_isPair 6 = .ok (.ireturn, 1) := by decide +kernel
theorem dX9_isWithin_0 : decode cX9_isWithin 0 = .ok (.iload_n 0, 1) := by decide +kernel
theorem dX9_isWithin_1 : decode cX9_isWithin 1 = .ok (.ifCond .lt 12, 3) := by decide +kernel
theorem dX9_isWithin_4 : decode cX9_isWithin 4 = .ok (.iload_n 0, 1) := by decide +kernel
theorem dX9_isWithin_5 : decode cX9_isWithin 5 = .ok (.iload_n 1, 1) := by decide +kernel
theorem dX9_isWithin_6 : decode cX9_isWithin 6 = .ok (.if_icmp .ge 7, 3) := by decide +kernel
theorem dX9_isWithin_9 : decode cX9_isWithin 9 = .ok (.iconst 1, 1) := by decide +kernel
theorem dX9_isWithin_10 : decode cX9_isWithin 10 = .ok (.goto 4, 3) := by decide +kernel
theorem dX9_isWithin_13 : decode cX9_isWithin 13 = .ok (.iconst 0, 1) := by decide +kernel
theorem dX9_isWithin_14 : decode cX9_isWithin 14 = .ok (.ireturn, 1) := by decide +kernel
theorem dX9_told_0 : decode cX9_told 0 = .ok (.iload_n 0, 1) := by decide +kernel
theorem dX9_told_1 : decode cX9_told 1 = .ok (.ifCond .eq 7, 3) := by decide +kernel
theorem dX9_told_4 : decode cX9_told 4 = .ok (.iconst 1, 1) := by decide +kernel
theorem dX9_told_5 : decode cX9_told 5 = .ok (.goto 4, 3) := by decide +kernel
theorem dX9_told_8 : decode cX9_told 8 = .ok (.iconst 0, 1) := by decide +kernel
theorem dX9_told_9 : decode cX9_told 9 = .ok (.ireturn, 1) := by decide +kernel
theorem dX9_combine_0 : decode cX9_combine 0 = .ok (.iload_n 1, 1) := by decide +kernel
theorem dX9_combine_1 : decode cX9_combine 1 = .ok (.tableswitch 93 0 2 #[27, 49, 71], 27) := by decide +kernel
theorem dX9_combine_28 : decode cX9_combine 28 = .ok (.aload_n 0, 1) := by decide +kernel
theorem dX9_combine_29 : decode cX9_combine 29 = .ok (.getfield 39, 3) := by decide +kernel
theorem dX9_combine_32 : decode cX9_combine 32 = .ok (.aload_n 0, 1) := by decide +kernel
theorem dX9_combine_33 : decode cX9_combine 33 = .ok (.getfield 82, 3) := by decide +kernel
theorem dX9_combine_36 : decode cX9_combine 36 = .ok (.aload_n 0, 1) := by decide +kernel
theorem dX9_combine_37 : decode cX9_combine 37 = .ok (.getfield 86, 3) := by decide +kernel
theorem dX9_combine_40 : decode cX9_combine 40 = .ok (.aload_n 0, 1) := by decide +kernel
theorem dX9_combine_41 : decode cX9_combine 41 = .ok (.getfield 82, 3) := by decide +kernel
theorem dX9_combine_44 : decode cX9_combine 44 = .ok (.invokevirtual 247, 3) := by decide +kernel
theorem dX9_combine_47 : decode cX9_combine 47 = .ok (.goto 81, 3) := by decide +kernel
theorem dX9_combine_50 : decode cX9_combine 50 = .ok (.aload_n 0, 1) := by decide +kernel
theorem dX9_combine_51 : decode cX9_combine 51 = .ok (.getfield 39, 3) := by decide +kernel
theorem dX9_combine_54 : decode cX9_combine 54 = .ok (.aload_n 0, 1) := by decide +kernel
theorem dX9_combine_55 : decode cX9_combine 55 = .ok (.getfield 82, 3) := by decide +kernel
theorem dX9_combine_58 : decode cX9_combine 58 = .ok (.aload_n 0, 1) := by decide +kernel
theorem dX9_combine_59 : decode cX9_combine 59 = .ok (.getfield 86, 3) := by decide +kernel
theorem dX9_combine_62 : decode cX9_combine 62 = .ok (.aload_n 0, 1) := by decide +kernel
theorem dX9_combine_63 : decode cX9_combine 63 = .ok (.getfield 82, 3) := by decide +kernel
theorem dX9_combine_66 : decode cX9_combine 66 = .ok (.invokevirtual 249, 3) := by decide +kernel
theorem dX9_combine_69 : decode cX9_combine 69 = .ok (.goto 59, 3) := by decide +kernel
theorem dX9_combine_72 : decode cX9_combine 72 = .ok (.aload_n 0, 1) := by decide +kernel
theorem dX9_combine_73 : decode cX9_combine 73 = .ok (.getfield 39, 3) := by decide +kernel
theorem dX9_combine_76 : decode cX9_combine 76 = .ok (.aload_n 0, 1) := by decide +kernel
theorem dX9_combine_77 : decode cX9_combine 77 = .ok (.getfield 82, 3) := by decide +kernel
theorem dX9_combine_80 : decode cX9_combine 80 = .ok (.aload_n 0, 1) := by decide +kernel
theorem dX9_combine_81 : decode cX9_combine 81 = .ok (.getfield 86, 3) := by decide +kernel
theorem dX9_combine_84 : decode cX9_combine 84 = .ok (.aload_n 0, 1) := by decide +kernel
theorem dX9_combine_85 : decode cX9_combine 85 = .ok (.getfield 82, 3) := by decide +kernel
theorem dX9_combine_88 : decode cX9_combine 88 = .ok (.invokevirtual 252, 3) := by decide +kernel
theorem dX9_combine_91 : decode cX9_combine 91 = .ok (.goto 37, 3) := by decide +kernel
theorem dX9_combine_94 : decode cX9_combine 94 = .ok (.aload_n 0, 1) := by decide +kernel
theorem dX9_combine_95 : decode cX9_combine 95 = .ok (.getfield 39, 3) := by decide +kernel
theorem dX9_combine_98 : decode cX9_combine 98 = .ok (.aload_n 0, 1) := by decide +kernel
theorem dX9_combine_99 : decode cX9_combine 99 = .ok (.getfield 86, 3) := by decide +kernel
theorem dX9_combine_102 : decode cX9_combine 102 = .ok (.aload_n 0, 1) := by decide +kernel
theorem dX9_combine_103 : decode cX9_combine 103 = .ok (.getfield 86, 3) := by decide +kernel
theorem dX9_combine_106 : decode cX9_combine 106 = .ok (.invokevirtual 254, 3) := by decide +kernel
theorem dX9_combine_109 : decode cX9_combine 109 = .ok (.aload_n 0, 1) := by decide +kernel
theorem dX9_combine_110 : decode cX9_combine 110 = .ok (.getfield 39, 3) := by decide +kernel
theorem dX9_combine_113 : decode cX9_combine 113 = .ok (.aload_n 0, 1) := by decide +kernel
theorem dX9_combine_114 : decode cX9_combine 114 = .ok (.getfield 82, 3) := by decide +kernel
theorem dX9_combine_117 : decode cX9_combine 117 = .ok (.aload_n 0, 1) := by decide +kernel
theorem dX9_combine_118 : decode cX9_combine 118 = .ok (.getfield 86, 3) := by decide +kernel
theorem dX9_combine_121 : decode cX9_combine 121 = .ok (.aload_n 0, 1) := by decide +kernel
theorem dX9_combine_122 : decode cX9_combine 122 = .ok (.getfield 82, 3) := by decide +kernel
theorem dX9_combine_125 : decode cX9_combine 125 = .ok (.invokevirtual 252, 3) := by decide +kernel
theorem dX9_combine_128 : decode cX9_combine 128 = .ok (.return_, 1) := by decide +kernel
