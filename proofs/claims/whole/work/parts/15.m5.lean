theorem dX11_handsType_0 : decode cX11_handsType 0 = .ok (.aload_n 0, 1) := by decide +kernel
theorem dX11_handsType_1 : decode cX11_handsType 1 = .ok (.getfield 219, 3) := by decide +kernel
theorem dX11_handsType_4 : decode cX11_handsType 4 = .ok (.iconst 1, 1) := by decide +kernel
theorem dX11_handsType_5 : decode cX11_handsType 5 = .ok (.isub, 1) := by decide +kernel
theorem dX11_handsType_6 : decode cX11_handsType 6 = .ok (.istore_n 1, 1) := by decide +kernel
theorem dX11_handsType_7 : decode cX11_handsType 7 = .ok (.aload_n 0, 1) := by decide +kernel
theorem dX11_handsType_8 : decode cX11_handsType 8 = .ok (.getfield 82, 3) := by decide +kernel
theorem dX11_handsType_11 : decode cX11_handsType 11 = .ok (.iload_n 1, 1) := by decide +kernel
theorem dX11_handsType_12 : decode cX11_handsType 12 = .ok (.iaload, 1) := by decide +kernel
theorem dX11_handsType_13 : decode cX11_handsType 13 = .ok (.tableswitch 127 1 5 #[35, 127, 49, 127, 82], 35) := by decide +kernel
theorem dX11_handsType_48 : decode cX11_handsType 48 = .ok (.aload_n 0, 1) := by decide +kernel
theorem dX11_handsType_49 : decode cX11_handsType 49 = .ok (.iload_n 1, 1) := by decide +kernel
theorem dX11_handsType_50 : decode cX11_handsType 50 = .ok (.invokevirtual 334, 3) := by decide +kernel
theorem dX11_handsType_53 : decode cX11_handsType 53 = .ok (.aload_n 0, 1) := by decide +kernel
theorem dX11_handsType_54 : decode cX11_handsType 54 = .ok (.iload_n 1, 1) := by decide +kernel
theorem dX11_handsType_55 : decode cX11_handsType 55 = .ok (.iconst 2, 1) := by decide +kernel
theorem dX11_handsType_56 : decode cX11_handsType 56 = .ok (.invokevirtual 337, 3) := by decide +kernel
theorem dX11_handsType_59 : decode cX11_handsType 59 = .ok (.goto 137, 3) := by decide +kernel
theorem dX11_handsType_62 : decode cX11_handsType 62 = .ok (.aload_n 0, 1) := by decide +kernel
theorem dX11_handsType_63 : decode cX11_handsType 63 = .ok (.aload_n 0, 1) := by decide +kernel
theorem dX11_handsType_64 : decode cX11_handsType 64 = .ok (.getfield 249, 3) := by decide +kernel
theorem dX11_handsType_67 : decode cX11_handsType 67 = .ok (.invokevirtual 340, 3) := by decide +kernel
theorem dX11_handsType_70 : decode cX11_handsType 70 = .ok (.ifCond .ne 11, 3) := by decide +kernel
theorem dX11_handsType_73 : decode cX11_handsType 73 = .ok (.aload_n 0, 1) := by decide +kernel
theorem dX11_handsType_74 : decode cX11_handsType 74 = .ok (.aload_n 0, 1) := by decide +kernel
theorem dX11_handsType_75 : decode cX11_handsType 75 = .ok (.getfield 246, 3) := by decide +kernel
theorem dX11_handsType_78 : decode cX11_handsType 78 = .ok (.invokevirtual 240, 3) := by decide +kernel
theorem dX11_handsType_81 : decode cX11_handsType 81 = .ok (.aload_n 0, 1) := by decide +kernel
theorem dX11_handsType_82 : decode cX11_handsType 82 = .ok (.iload_n 1, 1) := by decide +kernel
theorem dX11_handsType_83 : decode cX11_handsType 83 = .ok (.invokevirtual 334, 3) := by decide +kernel
theorem dX11_handsType_86 : decode cX11_handsType 86 = .ok (.aload_n 0, 1) := by decide +kernel
theorem dX11_handsType_87 : decode cX11_handsType 87 = .ok (.iload_n 1, 1) := by decide +kernel
theorem dX11_handsType_88 : decode cX11_handsType 88 = .ok (.iconst 4, 1) := by decide +kernel
theorem dX11_handsType_89 : decode cX11_handsType 89 = .ok (.invokevirtual 337, 3) := by decide +kernel
theorem dX11_handsType_92 : decode cX11_handsType 92 = .ok (.goto 104, 3) := by decide +kernel
theorem dX11_handsType_95 : decode cX11_handsType 95 = .ok (.aload_n 0, 1) := by decide +kernel
theorem dX11_handsType_96 : decode cX11_handsType 96 = .ok (.iload_n 1, 1) := by decide +kernel
theorem dX11_handsType_97 : decode cX11_handsType 97 = .ok (.invokevirtual 334, 3) := by decide +kernel
theorem dX11_handsType_100 : decode cX11_handsType 100 = .ok (.aload_n 0, 1) := by decide +kernel
theorem dX11_handsType_101 : decode cX11_handsType 101 = .ok (.getfield 103, 3) := by decide +kernel
theorem dX11_handsType_104 : decode cX11_handsType 104 = .ok (.iload_n 1, 1) := by decide +kernel
theorem dX11_handsType_105 : decode cX11_handsType 105 = .ok (.aload_n 0, 1) := by decide +kernel
theorem dX11_handsType_106 : decode cX11_handsType 106 = .ok (.getfield 249, 3) := by decide +kernel
theorem dX11_handsType_109 : decode cX11_handsType 109 = .ok (.iastore, 1) := by decide +kernel
theorem dX11_handsType_110 : decode cX11_handsType 110 = .ok (.aload_n 0, 1) := by decide +kernel
theorem dX11_handsType_111 : decode cX11_handsType 111 = .ok (.getfield 82, 3) := by decide +kernel
theorem dX11_handsType_114 : decode cX11_handsType 114 = .ok (.iload_n 1, 1) := by decide +kernel
theorem dX11_handsType_115 : decode cX11_handsType 115 = .ok (.bipush 6, 2) := by decide +kernel
theorem dX11_handsType_117 : decode cX11_handsType 117 = .ok (.iastore, 1) := by decide +kernel
theorem dX11_handsType_118 : decode cX11_handsType 118 = .ok (.aload_n 0, 1) := by decide +kernel
theorem dX11_handsType_119 : decode cX11_handsType 119 = .ok (.iconst 0, 1) := by decide +kernel
theorem dX11_handsType_120 : decode cX11_handsType 120 = .ok (.putfield 243, 3) := by decide +kernel
theorem dX11_handsType_123 : decode cX11_handsType 123 = .ok (.aload_n 0, 1) := by decide +kernel
theorem dX11_handsType_124 : decode cX11_handsType 124 = .ok (.iconst 3, 1) := by decide +kernel
theorem dX11_handsType_125 : decode cX11_handsType 125 = .ok (.aload_n 0, 1) := by decide +kernel
theorem dX11_handsType_126 : decode cX11_handsType 126 = .ok (.getfield 249, 3) := by decide +kernel
theorem dX11_handsType_129 : decode cX11_handsType 129 = .ok (.aload_n 0, 1) := by decide +kernel
theorem dX11_handsType_130 : decode cX11_handsType 130 = .ok (.getfield 222, 3) := by decide +kernel
theorem dX11_handsType_133 : decode cX11_handsType 133 = .ok (.iconst 0, 1) := by decide +kernel
theorem dX11_handsType_134 : decode cX11_handsType 134 = .ok (.invokevirtual 274, 3) := by decide +kernel
theorem dX11_handsType_137 : decode cX11_handsType 137 = .ok (.goto 59, 3) := by decide +kernel
theorem dX11_handsType_140 : decode cX11_handsType 140 = .ok (.aload_n 0, 1) := by decide +kernel
theorem dX11_handsType_141 : decode cX11_handsType 141 = .ok (.iload_n 1, 1) := by decide +kernel
theorem dX11_handsType_142 : decode cX11_handsType 142 = .ok (.invokevirtual 334, 3) := by decide +kernel
theorem dX11_handsType_145 : decode cX11_handsType 145 = .ok (.aload_n 0, 1) := by decide +kernel
theorem dX11_handsType_146 : decode cX11_handsType 146 = .ok (.dup, 1) := by decide +kernel
theorem dX11_handsType_147 : decode cX11_handsType 147 = .ok (.getfield 219, 3) := by decide +kernel
theorem dX11_handsType_150 : decode cX11_handsType 150 = .ok (.iconst 1, 1) := by decide +kernel
theorem dX11_handsType_151 : decode cX11_handsType 151 = .ok (.isub, 1) := by decide +kernel
theorem dX11_handsType_152 : decode cX11_handsType 152 = .ok (.putfield 219, 3) := by decide +kernel
theorem dX11_handsType_155 : decode cX11_handsType 155 = .ok (.aload_n 0, 1) := by decide +kernel
theorem dX11_handsType_156 : decode cX11_handsType 156 = .ok (.aload_n 0, 1) := by decide +kernel
theorem dX11_handsType_157 : decode cX11_handsType 157 = .ok (.getfield 85, 3) := by decide +kernel
theorem dX11_handsType_160 : decode cX11_handsType 160 = .ok (.iload_n 1, 1) := by decide +kernel
theorem dX11_handsType_161 : decode cX11_handsType 161 = .ok (.iaload, 1) := by decide +kernel
theorem dX11_handsType_162 : decode cX11_handsType 162 = .ok (.aload_n 0, 1) := by decide +kernel
theorem dX11_handsType_163 : decode cX11_handsType 163 = .ok (.aload_n 0, 1) := by decide +kernel
theorem dX11_handsType_164 : decode cX11_handsType 164 = .ok (.getfield 82, 3) := by decide +kernel
theorem dX11_handsType_167 : decode cX11_handsType 167 = .ok (.iload_n 1, 1) := by decide +kernel
theorem dX11_handsType_168 : decode cX11_handsType 168 = .ok (.iaload, 1) := by decide +kernel
theorem dX11_handsType_169 : decode cX11_handsType 169 = .ok (.iconst 2, 1) := by decide +kernel
theorem dX11_handsType_170 : decode cX11_handsType 170 = .ok (.if_icmp .ne 8, 3) := by decide +kernel
theorem dX11_handsType_173 : decode cX11_handsType 173 = .ok (.bipush 83, 2) := by decide +kernel
theorem dX11_handsType_175 : decode cX11_handsType 175 = .ok (.goto 5, 3) := by decide +kernel
theorem dX11_handsType_178 : decode cX11_handsType 178 = .ok (.bipush 80, 2) := by decide +kernel
theorem dX11_handsType_180 : decode cX11_handsType 180 = .ok (.aload_n 0, 1) := by decide +kernel
theorem dX11_handsType_181 : decode cX11_handsType 181 = .ok (.getfield 103, 3) := by decide +kernel
theorem dX11_handsType_184 : decode cX11_handsType 184 = .ok (.iload_n 1, 1) := by decide +kernel
theorem dX11_handsType_185 : decode cX11_handsType 185 = .ok (.iaload, 1) := by decide +kernel
theorem dX11_handsType_186 : decode cX11_handsType 186 = .ok (.aload_n 0, 1) := by decide +kernel
theorem dX11_handsType_187 : decode cX11_handsType 187 = .ok (.getfield 249, 3) := by decide +kernel
theorem dX11_handsType_190 : decode cX11_handsType 190 = .ok (.invokevirtual 343, 3) := by decide +kernel
theorem dX11_handsType_193 : decode cX11_handsType 193 = .ok (.invokevirtual 278, 3) := by decide +kernel
theorem dX11_handsType_196 : decode cX11_handsType 196 = .ok (.return_, 1) := by decide +kernel
theorem dX11_valueOf_0 : decode cX11_valueOf 0 = .ok (.aload_n 0, 1) := by decide +kernel
theorem dX11_valueOf_1 : decode cX11_valueOf 1 = .ok (.iload_n 1, 1) := by decide +kernel
theorem dX11_valueOf_2 : decode cX11_valueOf 2 = .ok (.aload_n 0, 1) := by decide +kernel
theorem dX11_valueOf_3 : decode cX11_valueOf 3 = .ok (.getfield 222, 3) := by decide +kernel
theorem dX11_valueOf_6 : decode cX11_valueOf 6 = .ok (.iconst 0, 1) := by decide +kernel
theorem dX11_valueOf_7 : decode cX11_valueOf 7 = .ok (.invokevirtual 180, 3) := by decide +kernel
theorem dX11_valueOf_10 : decode cX11_valueOf 10 = .ok (.ireturn, 1) := by decide +kernel
theorem dX11_handsGiven_0 : decode cX11_handsGiven 0 = .ok (.aload_n 0, 1) := by decide +kernel
theorem dX11_handsGiven_1 : decode cX11_handsGiven 1 = .ok (.getfield 103, 3) := by decide +kernel
theorem dX11_handsGiven_4 : decode cX11_handsGiven 4 = .ok (.iload_n 1, 1) := by decide +kernel
theorem dX11_handsGiven_5 : decode cX11_handsGiven 5 = .ok (.iaload, 1) := by decide +kernel
theorem dX11_handsGiven_6 : decode cX11_handsGiven 6 = .ok (.iconst 1, 1) := by decide +kernel
theorem dX11_handsGiven_7 : decode cX11_handsGiven 7 = .ok (.iadd, 1) := by decide +kernel
theorem dX11_handsGiven_8 : decode cX11_handsGiven 8 = .ok (.istore_n 2, 1) := by decide +kernel
theorem dX11_handsGiven_9 : decode cX11_handsGiven 9 = .ok (.aload_n 0, 1) := by decide +kernel
theorem dX11_handsGiven_10 : decode cX11_handsGiven 10 = .ok (.getfield 106, 3) := by decide +kernel
theorem dX11_handsGiven_13 : decode cX11_handsGiven 13 = .ok (.iload_n 1, 1) := by decide +kernel
theorem dX11_handsGiven_14 : decode cX11_handsGiven 14 = .ok (.iaload, 1) := by decide +kernel
theorem dX11_handsGiven_15 : decode cX11_handsGiven 15 = .ok (.istore_n 3, 1) := by decide +kernel
theorem dX11_handsGiven_16 : decode cX11_handsGiven 16 = .ok (.aload_n 0, 1) := by decide +kernel
theorem dX11_handsGiven_17 : decode cX11_handsGiven 17 = .ok (.getfield 140, 3) := by decide +kernel
theorem dX11_handsGiven_20 : decode cX11_handsGiven 20 = .ok (.istore 4, 2) := by decide +kernel
theorem dX11_handsGiven_22 : decode cX11_handsGiven 22 = .ok (.aload_n 0, 1) := by decide +kernel
theorem dX11_handsGiven_23 : decode cX11_handsGiven 23 = .ok (.getfield 45, 3) := by decide +kernel
theorem dX11_handsGiven_26 : decode cX11_handsGiven 26 = .ok (.istore 5, 2) := by decide +kernel
theorem dX11_handsGiven_28 : decode cX11_handsGiven 28 = .ok (.aload_n 0, 1) := by decide +kernel
theorem dX11_handsGiven_29 : decode cX11_handsGiven 29 = .ok (.aload_n 0, 1) := by decide +kernel
theorem dX11_handsGiven_30 : decode cX11_handsGiven 30 = .ok (.getfield 249, 3) := by decide +kernel
theorem dX11_handsGiven_33 : decode cX11_handsGiven 33 = .ok (.invokevirtual 346, 3) := by decide +kernel
theorem dX11_handsGiven_36 : decode cX11_handsGiven 36 = .ok (.istore 6, 2) := by decide +kernel
theorem dX11_handsGiven_38 : decode cX11_handsGiven 38 = .ok (.aload_n 0, 1) := by decide +kernel
theorem dX11_handsGiven_39 : decode cX11_handsGiven 39 = .ok (.iconst 0, 1) := by decide +kernel
theorem dX11_handsGiven_40 : decode cX11_handsGiven 40 = .ok (.aload_n 0, 1) := by decide +kernel
theorem dX11_handsGiven_41 : decode cX11_handsGiven 41 = .ok (.getfield 222, 3) := by decide +kernel
theorem dX11_handsGiven_44 : decode cX11_handsGiven 44 = .ok (.bipush 10, 2) := by decide +kernel
theorem dX11_handsGiven_46 : decode cX11_handsGiven 46 = .ok (.if_icmp .ge 10, 3) := by decide +kernel
theorem dX11_handsGiven_49 : decode cX11_handsGiven 49 = .ok (.aload_n 0, 1) := by decide +kernel
theorem dX11_handsGiven_50 : decode cX11_handsGiven 50 = .ok (.getfield 222, 3) := by decide +kernel
theorem dX11_handsGiven_53 : decode cX11_handsGiven 53 = .ok (.goto 4, 3) := by decide +kernel
theorem dX11_handsGiven_56 : decode cX11_handsGiven 56 = .ok (.iconst 0, 1) := by decide +kernel
theorem dX11_handsGiven_57 : decode cX11_handsGiven 57 = .ok (.iload 6, 2) := by decide +kernel
theorem dX11_handsGiven_59 : decode cX11_handsGiven 59 = .ok (.invokevirtual 177, 3) := by decide +kernel
theorem dX11_handsGiven_62 : decode cX11_handsGiven 62 = .ok (.istore 7, 2) := by decide +kernel
theorem dX11_handsGiven_64 : decode cX11_handsGiven 64 = .ok (.aload_n 0, 1) := by decide +kernel
theorem dX11_handsGiven_65 : decode cX11_handsGiven 65 = .ok (.aload_n 0, 1) := by decide +kernel
theorem dX11_handsGiven_66 : decode cX11_handsGiven 66 = .ok (.iload_n 3, 1) := by decide +kernel
theorem dX11_handsGiven_67 : decode cX11_handsGiven 67 = .ok (.iconst 1, 1) := by decide +kernel
theorem dX11_handsGiven_68 : decode cX11_handsGiven 68 = .ok (.iadd, 1) := by decide +kernel
theorem dX11_handsGiven_69 : decode cX11_handsGiven 69 = .ok (.invokevirtual 127, 3) := by decide +kernel
theorem dX11_handsGiven_72 : decode cX11_handsGiven 72 = .ok (.aload_n 0, 1) := by decide +kernel
theorem dX11_handsGiven_73 : decode cX11_handsGiven 73 = .ok (.getfield 222, 3) := by decide +kernel
theorem dX11_handsGiven_76 : decode cX11_handsGiven 76 = .ok (.iconst 1, 1) := by decide +kernel
theorem dX11_handsGiven_77 : decode cX11_handsGiven 77 = .ok (.iadd, 1) := by decide +kernel
theorem dX11_handsGiven_78 : decode cX11_handsGiven 78 = .ok (.iload 7, 2) := by decide +kernel
theorem dX11_handsGiven_80 : decode cX11_handsGiven 80 = .ok (.aload_n 0, 1) := by decide +kernel
theorem dX11_handsGiven_81 : decode cX11_handsGiven 81 = .ok (.getfield 222, 3) := by decide +kernel
theorem dX11_handsGiven_84 : decode cX11_handsGiven 84 = .ok (.invokevirtual 255, 3) := by decide +kernel
theorem dX11_handsGiven_87 : decode cX11_handsGiven 87 = .ok (.istore 8, 2) := by decide +kernel
theorem dX11_handsGiven_89 : decode cX11_handsGiven 89 = .ok (.aload_n 0, 1) := by decide +kernel
theorem dX11_handsGiven_90 : decode cX11_handsGiven 90 = .ok (.aload_n 0, 1) := by decide +kernel
theorem dX11_handsGiven_91 : decode cX11_handsGiven 91 = .ok (.iload_n 2, 1) := by decide +kernel
theorem dX11_handsGiven_92 : decode cX11_handsGiven 92 = .ok (.aload_n 0, 1) := by decide +kernel
theorem dX11_handsGiven_93 : decode cX11_handsGiven 93 = .ok (.getfield 222, 3) := by decide +kernel
theorem dX11_handsGiven_96 : decode cX11_handsGiven 96 = .ok (.iconst 1, 1) := by decide +kernel
theorem dX11_handsGiven_97 : decode cX11_handsGiven 97 = .ok (.iadd, 1) := by decide +kernel
theorem dX11_handsGiven_98 : decode cX11_handsGiven 98 = .ok (.iload 7, 2) := by decide +kernel
theorem dX11_handsGiven_100 : decode cX11_handsGiven 100 = .ok (.invokevirtual 180, 3) := by decide +kernel
theorem dX11_handsGiven_103 : decode cX11_handsGiven 103 = .ok (.aload_n 0, 1) := by decide +kernel
theorem dX11_handsGiven_104 : decode cX11_handsGiven 104 = .ok (.getfield 222, 3) := by decide +kernel
theorem dX11_handsGiven_107 : decode cX11_handsGiven 107 = .ok (.iload 4, 2) := by decide +kernel
theorem dX11_handsGiven_109 : decode cX11_handsGiven 109 = .ok (.iload 5, 2) := by decide +kernel
theorem dX11_handsGiven_111 : decode cX11_handsGiven 111 = .ok (.invokevirtual 301, 3) := by decide +kernel
theorem dX11_handsGiven_114 : decode cX11_handsGiven 114 = .ok (.istore 9, 2) := by decide +kernel
theorem dX11_handsGiven_116 : decode cX11_handsGiven 116 = .ok (.aload_n 0, 1) := by decide +kernel
theorem dX11_handsGiven_117 : decode cX11_handsGiven 117 = .ok (.iload 4, 2) := by decide +kernel
theorem dX11_handsGiven_119 : decode cX11_handsGiven 119 = .ok (.putfield 140, 3) := by decide +kernel
theorem dX11_handsGiven_122 : decode cX11_handsGiven 122 = .ok (.aload_n 0, 1) := by decide +kernel
theorem dX11_handsGiven_123 : decode cX11_handsGiven 123 = .ok (.iload 5, 2) := by decide +kernel
theorem dX11_handsGiven_125 : decode cX11_handsGiven 125 = .ok (.putfield 45, 3) := by decide +kernel
theorem dX11_handsGiven_128 : decode cX11_handsGiven 128 = .ok (.aload_n 0, 1) := by decide +kernel
theorem dX11_handsGiven_129 : decode cX11_handsGiven 129 = .ok (.iload_n 1, 1) := by decide +kernel
theorem dX11_handsGiven_130 : decode cX11_handsGiven 130 = .ok (.invokevirtual 334, 3) := by decide +kernel
theorem dX11_handsGiven_133 : decode cX11_handsGiven 133 = .ok (.aload_n 0, 1) := by decide +kernel
theorem dX11_handsGiven_134 : decode cX11_handsGiven 134 = .ok (.dup, 1) := by decide +kernel
theorem dX11_handsGiven_135 : decode cX11_handsGiven 135 = .ok (.getfield 219, 3) := by decide +kernel
theorem dX11_handsGiven_138 : decode cX11_handsGiven 138 = .ok (.iconst 1, 1) := by decide +kernel
theorem dX11_handsGiven_139 : decode cX11_handsGiven 139 = .ok (.isub, 1) := by decide +kernel
theorem dX11_handsGiven_140 : decode cX11_handsGiven 140 = .ok (.putfield 219, 3) := by decide +kernel
theorem dX11_handsGiven_143 : decode cX11_handsGiven 143 = .ok (.aload_n 0, 1) := by decide +kernel
theorem dX11_handsGiven_144 : decode cX11_handsGiven 144 = .ok (.aload_n 0, 1) := by decide +kernel
theorem dX11_handsGiven_145 : decode cX11_handsGiven 145 = .ok (.getfield 85, 3) := by decide +kernel
theorem dX11_handsGiven_148 : decode cX11_handsGiven 148 = .ok (.iload_n 1, 1) := by decide +kernel
theorem dX11_handsGiven_149 : decode cX11_handsGiven 149 = .ok (.iaload, 1) := by decide +kernel
theorem dX11_handsGiven_150 : decode cX11_handsGiven 150 = .ok (.iload 8, 2) := by decide +kernel
theorem dX11_handsGiven_152 : decode cX11_handsGiven 152 = .ok (.iload 9, 2) := by decide +kernel
theorem dX11_handsGiven_154 : decode cX11_handsGiven 154 = .ok (.invokevirtual 287, 3) := by decide +kernel
theorem dX11_handsGiven_157 : decode cX11_handsGiven 157 = .ok (.return_, 1) := by decide +kernel
theorem dX11_handsTaken_0 : decode cX11_handsTaken 0 = .ok (.aload_n 0, 1) := by decide +kernel
theorem dX11_handsTaken_1 : decode cX11_handsTaken 1 = .ok (.getfield 82, 3) := by decide +kernel
theorem dX11_handsTaken_4 : decode cX11_handsTaken 4 = .ok (.iload_n 1, 1) := by decide +kernel
theorem dX11_handsTaken_5 : decode cX11_handsTaken 5 = .ok (.iaload, 1) := by decide +kernel
theorem dX11_handsTaken_6 : decode cX11_handsTaken 6 = .ok (.bipush 9, 2) := by decide +kernel
theorem dX11_handsTaken_8 : decode cX11_handsTaken 8 = .ok (.if_icmp .ne 7, 3) := by decide +kernel
theorem dX11_handsTaken_11 : decode cX11_handsTaken 11 = .ok (.iconst 1, 1) := by decide +kernel
theorem dX11_handsTaken_12 : decode cX11_handsTaken 12 = .ok (.goto 4, 3) := by decide +kernel
theorem dX11_handsTaken_15 : decode cX11_handsTaken 15 = .ok (.iconst 0, 1) := by decide +kernel
theorem dX11_handsTaken_16 : decode cX11_handsTaken 16 = .ok (.istore_n 2, 1) := by decide +kernel
theorem dX11_handsTaken_17 : decode cX11_handsTaken 17 = .ok (.aload_n 0, 1) := by decide +kernel
theorem dX11_handsTaken_18 : decode cX11_handsTaken 18 = .ok (.getfield 249, 3) := by decide +kernel
theorem dX11_handsTaken_21 : decode cX11_handsTaken 21 = .ok (.iconst 1, 1) := by decide +kernel
theorem dX11_handsTaken_22 : decode cX11_handsTaken 22 = .ok (.iadd, 1) := by decide +kernel
theorem dX11_handsTaken_23 : decode cX11_handsTaken 23 = .ok (.istore_n 3, 1) := by decide +kernel
theorem dX11_handsTaken_24 : decode cX11_handsTaken 24 = .ok (.aload_n 0, 1) := by decide +kernel
theorem dX11_handsTaken_25 : decode cX11_handsTaken 25 = .ok (.getfield 252, 3) := by decide +kernel
theorem dX11_handsTaken_28 : decode cX11_handsTaken 28 = .ok (.iconst 1, 1) := by decide +kernel
theorem dX11_handsTaken_29 : decode cX11_handsTaken 29 = .ok (.iadd, 1) := by decide +kernel
theorem dX11_handsTaken_30 : decode cX11_handsTaken 30 = .ok (.istore 4, 2) := by decide +kernel
theorem dX11_handsTaken_32 : decode cX11_handsTaken 32 = .ok (.iload_n 2, 1) := by decide +kernel
theorem dX11_handsTaken_33 : decode cX11_handsTaken 33 = .ok (.ifCond .ne 86, 3) := by decide +kernel
theorem dX11_handsTaken_36 : decode cX11_handsTaken 36 = .ok (.aload_n 0, 1) := by decide +kernel
theorem dX11_handsTaken_37 : decode cX11_handsTaken 37 = .ok (.getfield 140, 3) := by decide +kernel
theorem dX11_handsTaken_40 : decode cX11_handsTaken 40 = .ok (.istore 5, 2) := by decide +kernel
theorem dX11_handsTaken_42 : decode cX11_handsTaken 42 = .ok (.aload_n 0, 1) := by decide +kernel
theorem dX11_handsTaken_43 : decode cX11_handsTaken 43 = .ok (.getfield 45, 3) := by decide +kernel
theorem dX11_handsTaken_46 : decode cX11_handsTaken 46 = .ok (.istore 6, 2) := by decide +kernel
theorem dX11_handsTaken_48 : decode cX11_handsTaken 48 = .ok (.aload_n 0, 1) := by decide +kernel
theorem dX11_handsTaken_49 : decode cX11_handsTaken 49 = .ok (.iconst 0, 1) := by decide +kernel
theorem dX11_handsTaken_50 : decode cX11_handsTaken 50 = .ok (.aload_n 0, 1) := by decide +kernel
theorem dX11_handsTaken_51 : decode cX11_handsTaken 51 = .ok (.getfield 222, 3) := by decide +kernel
theorem dX11_handsTaken_54 : decode cX11_handsTaken 54 = .ok (.bipush 10, 2) := by decide +kernel
theorem dX11_handsTaken_56 : decode cX11_handsTaken 56 = .ok (.if_icmp .ge 10, 3) := by decide +kernel
theorem dX11_handsTaken_59 : decode cX11_handsTaken 59 = .ok (.aload_n 0, 1) := by decide +kernel
theorem dX11_handsTaken_60 : decode cX11_handsTaken 60 = .ok (.getfield 222, 3) := by decide +kernel
theorem dX11_handsTaken_63 : decode cX11_handsTaken 63 = .ok (.goto 4, 3) := by decide +kernel
theorem dX11_handsTaken_66 : decode cX11_handsTaken 66 = .ok (.iconst 0, 1) := by decide +kernel
theorem dX11_handsTaken_67 : decode cX11_handsTaken 67 = .ok (.aload_n 0, 1) := by decide +kernel
theorem dX11_handsTaken_68 : decode cX11_handsTaken 68 = .ok (.iload_n 3, 1) := by decide +kernel
theorem dX11_handsTaken_69 : decode cX11_handsTaken 69 = .ok (.invokevirtual 346, 3) := by decide +kernel
theorem dX11_handsTaken_72 : decode cX11_handsTaken 72 = .ok (.invokevirtual 177, 3) := by decide +kernel
theorem dX11_handsTaken_75 : decode cX11_handsTaken 75 = .ok (.istore 7, 2) := by decide +kernel
theorem dX11_handsTaken_77 : decode cX11_handsTaken 77 = .ok (.aload_n 0, 1) := by decide +kernel
theorem dX11_handsTaken_78 : decode cX11_handsTaken 78 = .ok (.aload_n 0, 1) := by decide +kernel
theorem dX11_handsTaken_79 : decode cX11_handsTaken 79 = .ok (.iload 4, 2) := by decide +kernel
theorem dX11_handsTaken_81 : decode cX11_handsTaken 81 = .ok (.invokevirtual 127, 3) := by decide +kernel
theorem dX11_handsTaken_84 : decode cX11_handsTaken 84 = .ok (.aload_n 0, 1) := by decide +kernel
theorem dX11_handsTaken_85 : decode cX11_handsTaken 85 = .ok (.getfield 222, 3) := by decide +kernel
theorem dX11_handsTaken_88 : decode cX11_handsTaken 88 = .ok (.iconst 1, 1) := by decide +kernel
theorem dX11_handsTaken_89 : decode cX11_handsTaken 89 = .ok (.iadd, 1) := by decide +kernel
theorem dX11_handsTaken_90 : decode cX11_handsTaken 90 = .ok (.iload 7, 2) := by decide +kernel
theorem dX11_handsTaken_92 : decode cX11_handsTaken 92 = .ok (.aload_n 0, 1) := by decide +kernel
theorem dX11_handsTaken_93 : decode cX11_handsTaken 93 = .ok (.getfield 222, 3) := by decide +kernel
theorem dX11_handsTaken_96 : decode cX11_handsTaken 96 = .ok (.invokevirtual 255, 3) := by decide +kernel
theorem dX11_handsTaken_99 : decode cX11_handsTaken 99 = .ok (.istore 4, 2) := by decide +kernel
theorem dX11_handsTaken_101 : decode cX11_handsTaken 101 = .ok (.aload_n 0, 1) := by decide +kernel
theorem dX11_handsTaken_102 : decode cX11_handsTaken 102 = .ok (.iload 5, 2) := by decide +kernel
theorem dX11_handsTaken_104 : decode cX11_handsTaken 104 = .ok (.putfield 140, 3) := by decide +kernel
theorem dX11_handsTaken_107 : decode cX11_handsTaken 107 = .ok (.aload_n 0, 1) := by decide +kernel
theorem dX11_handsTaken_108 : decode cX11_handsTaken 108 = .ok (.iload 6, 2) := by decide +kernel
theorem dX11_handsTaken_110 : decode cX11_handsTaken 110 = .ok (.putfield 45, 3) := by decide +kernel
theorem dX11_handsTaken_113 : decode cX11_handsTaken 113 = .ok (.aload_n 0, 1) := by decide +kernel
theorem dX11_handsTaken_114 : decode cX11_handsTaken 114 = .ok (.iload_n 3, 1) := by decide +kernel
theorem dX11_handsTaken_115 : decode cX11_handsTaken 115 = .ok (.invokevirtual 127, 3) := by decide +kernel
theorem dX11_handsTaken_118 : decode cX11_handsTaken 118 = .ok (.istore_n 3, 1) := by decide +kernel
theorem dX11_handsTaken_119 : decode cX11_handsTaken 119 = .ok (.aload_n 0, 1) := by decide +kernel
theorem dX11_handsTaken_120 : decode cX11_handsTaken 120 = .ok (.iload_n 1, 1) := by decide +kernel
theorem dX11_handsTaken_121 : decode cX11_handsTaken 121 = .ok (.invokevirtual 334, 3) := by decide +kernel
theorem dX11_handsTaken_124 : decode cX11_handsTaken 124 = .ok (.aload_n 0, 1) := by decide +kernel
theorem dX11_handsTaken_125 : decode cX11_handsTaken 125 = .ok (.dup, 1) := by decide +kernel
theorem dX11_handsTaken_126 : decode cX11_handsTaken 126 = .ok (.getfield 219, 3) := by decide +kernel
theorem dX11_handsTaken_129 : decode cX11_handsTaken 129 = .ok (.iconst 1, 1) := by decide +kernel
theorem dX11_handsTaken_130 : decode cX11_handsTaken 130 = .ok (.isub, 1) := by decide +kernel
theorem dX11_handsTaken_131 : decode cX11_handsTaken 131 = .ok (.putfield 219, 3) := by decide +kernel
theorem dX11_handsTaken_134 : decode cX11_handsTaken 134 = .ok (.aload_n 0, 1) := by decide +kernel
theorem dX11_handsTaken_135 : decode cX11_handsTaken 135 = .ok (.aload_n 0, 1) := by decide +kernel
theorem dX11_handsTaken_136 : decode cX11_handsTaken 136 = .ok (.getfield 85, 3) := by decide +kernel
theorem dX11_handsTaken_139 : decode cX11_handsTaken 139 = .ok (.iload_n 1, 1) := by decide +kernel
theorem dX11_handsTaken_140 : decode cX11_handsTaken 140 = .ok (.iaload, 1) := by decide +kernel
theorem dX11_handsTaken_141 : decode cX11_handsTaken 141 = .ok (.iload 4, 2) := by decide +kernel
theorem dX11_handsTaken_143 : decode cX11_handsTaken 143 = .ok (.iload_n 3, 1) := by decide +kernel
theorem dX11_handsTaken_144 : decode cX11_handsTaken 144 = .ok (.invokevirtual 287, 3) := by decide +kernel
theorem dX11_handsTaken_147 : decode cX11_handsTaken 147 = .ok (.return_, 1) := by decide +kernel
set_option maxHeartbeats 4000000 in
set_option maxRecDepth 20000 in
theorem b_handsType_180 {p : Program} {l : Launch} {e : Env} {s : State} {m : MethodId} {args : Array Value} {below : List Frame} {meth : Method} {c : Code} {D : va_G} {cy : Nat → ClassId} {ad : Nat → Nat} {q : Int32 × MS} (C : vC p s m args meth c cX11_handsType 2 none RX11 D (cyT cy)) (hi : ∀ i j, i < 34 → j < 34 → ad i = ad j → i = j) {k196 : MS → Option (Int32 × MS)} (hk196 : ∀  (σ : MS), k196 σ = some q → V p l e { frames := 6, cells := 0, slots := 0, locals := 132 } s m args below meth c D (inAd ad) 2 (MQ below (vQ D (inAd ad) none (wm cy ad q.2)) args s 0 0 (inAd ad)) 0 0 (wm cy ad σ) 196 [(0, .ref (ad 0))] []) : ∀ (x1 : Int32) (s0 : Int32) (s2 : Int32) (σ : MS), B_handsType_180 k196 x1 s0 s2 σ = some q → V p l e { frames := 6, cells := 0, slots := 0, locals := 132 } s m args below meth c D (inAd ad) 2 (MQ below (vQ D (inAd ad) none (wm cy ad q.2)) args s 0 0 (inAd ad)) 0 0 (wm cy ad σ) 180 [(0, .ref (ad 0)), (1, .int x1)] [.int s0, .ref (ad 0), .int s2, .ref (ad 0)] := by
  intro x1 s0 s2 σ h
  rw [B_handsType_180] at h
  refine v_aload_n C 0 dX11_handsType_180 rfl rfl ?_
  refine n_getR C fl_103 dX11_handsType_181 ?_
  refine v_iload_n C 1 dX11_handsType_184 rfl rfl ?_
  obtain ⟨g1, h⟩ := gd_of h
  refine vm_iald C 30 iI_30 (ix_in g1) dX11_handsType_185 ?_
  refine v_aload_n C 0 dX11_handsType_186 rfl rfl ?_
  refine n_getI C fl_249 dX11_handsType_187 ?_
  obtain ⟨q1, hq1, h⟩ := bd_of h
  refine vm_call C [.int s0, .int (σ.2.1 30 (x1 : Int32).toNatClampNeg), .int (σ.1 54)] [.int s2, .ref (ad 0)] (c_joined hi _ _ _ _ hq1) hY_joined ml_343 ⟨Nat.le_of_ble_eq_true rfl, Nat.le_of_ble_eq_true rfl⟩ ⟨Nat.zero_le _, Nat.zero_le _⟩ rfl rfl (Nat.le_of_ble_eq_true rfl) dX11_handsType_190 (wm_inj hi cy _) ?_
  obtain ⟨q2, hq2, h⟩ := bd_of h
  refine vm_call C [.int s2, .int q1.1] [] (c_endsType hi _ _ _ hq2) hY_endsType ml_278 ⟨Nat.le_of_ble_eq_true rfl, Nat.le_of_ble_eq_true rfl⟩ ⟨Nat.zero_le _, Nat.zero_le _⟩ rfl rfl (Nat.le_of_ble_eq_true rfl) dX11_handsType_193 (wm_inj hi cy _) ?_
  exact v_sub [0] rfl (hk196 _ h)
set_option maxHeartbeats 4000000 in
set_option maxRecDepth 20000 in
theorem b_handsType_81 {p : Program} {l : Launch} {e : Env} {s : State} {m : MethodId} {args : Array Value} {below : List Frame} {meth : Method} {c : Code} {D : va_G} {cy : Nat → ClassId} {ad : Nat → Nat} {q : Int32 × MS} (C : vC p s m args meth c cX11_handsType 2 none RX11 D (cyT cy)) (hi : ∀ i j, i < 34 → j < 34 → ad i = ad j → i = j) {k196 : MS → Option (Int32 × MS)} (hk196 : ∀  (σ : MS), k196 σ = some q → V p l e { frames := 6, cells := 0, slots := 0, locals := 132 } s m args below meth c D (inAd ad) 2 (MQ below (vQ D (inAd ad) none (wm cy ad q.2)) args s 0 0 (inAd ad)) 0 0 (wm cy ad σ) 196 [(0, .ref (ad 0))] []) : ∀ (x1 : Int32) (σ : MS), B_handsType_81 k196 x1 σ = some q → V p l e { frames := 6, cells := 0, slots := 0, locals := 132 } s m args below meth c D (inAd ad) 2 (MQ below (vQ D (inAd ad) none (wm cy ad q.2)) args s 0 0 (inAd ad)) 0 0 (wm cy ad σ) 81 [(0, .ref (ad 0)), (1, .int x1)] [] := by
  intro x1 σ h
  rw [B_handsType_81] at h
  refine v_aload_n C 0 dX11_handsType_81 rfl rfl ?_
  refine v_iload_n C 1 dX11_handsType_82 rfl rfl ?_
  obtain ⟨q1, hq1, h⟩ := bd_of h
  refine vm_call C [.int x1] [] (c_again hi _ _ hq1) hY_again ml_334 ⟨Nat.le_of_ble_eq_true rfl, Nat.le_of_ble_eq_true rfl⟩ ⟨Nat.zero_le _, Nat.zero_le _⟩ rfl rfl (Nat.le_of_ble_eq_true rfl) dX11_handsType_83 (wm_inj hi cy _) ?_
  refine v_aload_n C 0 dX11_handsType_86 rfl rfl ?_
  refine v_iload_n C 1 dX11_handsType_87 rfl rfl ?_
  refine v_iconst C 4 dX11_handsType_88 (by decide) ?_
  obtain ⟨q2, hq2, h⟩ := bd_of h
  refine vm_call C [.int x1, .int 4] [] (c_namesOne hi _ _ _ hq2) hY_namesOne ml_337 ⟨Nat.le_of_ble_eq_true rfl, Nat.le_of_ble_eq_true rfl⟩ ⟨Nat.zero_le _, Nat.zero_le _⟩ rfl rfl (Nat.le_of_ble_eq_true rfl) dX11_handsType_89 (wm_inj hi cy _) ?_
  refine v_goto C 196 dX11_handsType_92 (by decide) ?_
  exact v_sub [0] rfl (hk196 _ h)
set_option maxHeartbeats 4000000 in
set_option maxRecDepth 20000 in
theorem b_handsType_196 {p : Program} {l : Launch} {e : Env} {s : State} {m : MethodId} {args : Array Value} {below : List Frame} {meth : Method} {c : Code} {D : va_G} {cy : Nat → ClassId} {ad : Nat → Nat} {q : Int32 × MS} (C : vC p s m args meth c cX11_handsType 2 none RX11 D (cyT cy)) (hi : ∀ i j, i < 34 → j < 34 → ad i = ad j → i = j) : ∀ (σ : MS), B_handsType_196 σ = some q → V p l e { frames := 6, cells := 0, slots := 0, locals := 132 } s m args below meth c D (inAd ad) 2 (MQ below (vQ D (inAd ad) none (wm cy ad q.2)) args s 0 0 (inAd ad)) 0 0 (wm cy ad σ) 196 [(0, .ref (ad 0))] [] := by
  intro σ h
  rw [B_handsType_196] at h
  obtain rfl := Option.some.inj h
  exact v_vret C dX11_handsType_196
set_option maxHeartbeats 4000000 in
set_option maxRecDepth 20000 in
theorem c_handsType {l : Launch} {D : va_G} {cy : Nat → ClassId} {ad : Nat → Nat} {q : Int32 × MS} (hi : ∀ i j, i < 34 → j < 34 → ad i = ad j → i = j) (σ : MS) (h : f_handsType σ = some q) : MV l D (cyT cy) (inAd ad) yX11_handsType cX11_handsType 2 none 6 132 0 0 [.ref (ad 0)] (wm cy ad σ) none (wm cy ad q.2) := by
  refine MV.of (by decide) (wm_inj hi cy σ) (Nat.le_of_ble_eq_true rfl) [(0, .ref (ad 0))] rfl ?_
  intro p e s m args below meth c C
  rw [f_handsType] at h
  refine v_aload_n C 0 dX11_handsType_0 rfl rfl ?_
  refine n_getI C fl_219 dX11_handsType_1 ?_
  refine v_iconst C 1 dX11_handsType_4 (by decide) ?_
  refine v_isub C dX11_handsType_5 ?_
  refine v_istore_n C [(1, .int ((σ.1 44) - 1)), (0, .ref (ad 0))] dX11_handsType_6 rfl (by decide) rfl ?_
  refine v_aload_n C 1 dX11_handsType_7 rfl rfl ?_
  refine n_getR C fl_82 dX11_handsType_8 ?_
  refine v_iload_n C 0 dX11_handsType_11 rfl rfl ?_
  obtain ⟨g1, h⟩ := gd_of h
  refine vm_iald C 23 iI_23 (ix_in g1) dX11_handsType_12 ?_
  by_cases c1 : (σ.2.1 23 (((σ.1 44) - 1) : Int32).toNatClampNeg) = 1
  · rw [if_pos c1] at h
    refine v_tableIn C 48 dX11_handsType_13 (by rw [c1]; decide) (by rw [c1]; decide) (by rw [c1]; try rfl) (by decide) ?_
    refine v_aload_n C 1 dX11_handsType_48 rfl rfl ?_
    refine v_iload_n C 0 dX11_handsType_49 rfl rfl ?_
    obtain ⟨q1, hq1, h⟩ := bd_of h
    refine vm_call C [.int ((σ.1 44) - 1)] [] (c_again hi _ _ hq1) hY_again ml_334 ⟨Nat.le_of_ble_eq_true rfl, Nat.le_of_ble_eq_true rfl⟩ ⟨Nat.zero_le _, Nat.zero_le _⟩ rfl rfl (Nat.le_of_ble_eq_true rfl) dX11_handsType_50 (wm_inj hi cy _) ?_
    refine v_aload_n C 1 dX11_handsType_53 rfl rfl ?_
    refine v_iload_n C 0 dX11_handsType_54 rfl rfl ?_
    refine v_iconst C 2 dX11_handsType_55 (by decide) ?_
    obtain ⟨q2, hq2, h⟩ := bd_of h
    refine vm_call C [.int ((σ.1 44) - 1), .int 2] [] (c_namesOne hi _ _ _ hq2) hY_namesOne ml_337 ⟨Nat.le_of_ble_eq_true rfl, Nat.le_of_ble_eq_true rfl⟩ ⟨Nat.zero_le _, Nat.zero_le _⟩ rfl rfl (Nat.le_of_ble_eq_true rfl) dX11_handsType_56 (wm_inj hi cy _) ?_
    refine v_goto C 196 dX11_handsType_59 (by decide) ?_
    exact v_sub [1] rfl ((b_handsType_196 C hi) _ h)
  rw [if_neg c1] at h
  by_cases c2 : (σ.2.1 23 (((σ.1 44) - 1) : Int32).toNatClampNeg) = 2
  · rw [if_pos c2] at h
    refine v_tableIn C 140 dX11_handsType_13 (by rw [c2]; decide) (by rw [c2]; decide) (by rw [c2]; try rfl) (by decide) ?_
    refine v_aload_n C 1 dX11_handsType_140 rfl rfl ?_
    refine v_iload_n C 0 dX11_handsType_141 rfl rfl ?_
    obtain ⟨q3, hq3, h⟩ := bd_of h
    refine vm_call C [.int ((σ.1 44) - 1)] [] (c_again hi _ _ hq3) hY_again ml_334 ⟨Nat.le_of_ble_eq_true rfl, Nat.le_of_ble_eq_true rfl⟩ ⟨Nat.zero_le _, Nat.zero_le _⟩ rfl rfl (Nat.le_of_ble_eq_true rfl) dX11_handsType_142 (wm_inj hi cy _) ?_
    refine v_aload_n C 1 dX11_handsType_145 rfl rfl ?_
    refine v_dup C dX11_handsType_146 rfl ?_
    refine n_getI C fl_219 dX11_handsType_147 ?_
    refine v_iconst C 1 dX11_handsType_150 (by decide) ?_
    refine v_isub C dX11_handsType_151 ?_
    refine n_putI C fl_219 dX11_handsType_152 ?_
    refine v_aload_n C 1 dX11_handsType_155 rfl rfl ?_
    refine v_aload_n C 1 dX11_handsType_156 rfl rfl ?_
    refine n_getR C fl_85 dX11_handsType_157 ?_
    refine v_iload_n C 0 dX11_handsType_160 rfl rfl ?_
    obtain ⟨g2, h⟩ := gd_of h
    refine vm_iald C 24 iI_24 (ix_in g2) dX11_handsType_161 ?_
    refine v_aload_n C 1 dX11_handsType_162 rfl rfl ?_
    refine v_aload_n C 1 dX11_handsType_163 rfl rfl ?_
    refine n_getR C fl_82 dX11_handsType_164 ?_
    refine v_iload_n C 0 dX11_handsType_167 rfl rfl ?_
    obtain ⟨g3, h⟩ := gd_of h
    refine vm_iald C 23 iI_23 (ix_in g3) dX11_handsType_168 ?_
    refine v_iconst C 2 dX11_handsType_169 (by decide) ?_
    refine v_icmp_ne C 178 dX11_handsType_170 (by decide) (fun c3 => ?_) (fun c3 => ?_)
    · rw [if_neg c3] at h
      refine v_bipush C 80 dX11_handsType_178 (by decide) ?_
      exact v_sub [1, 0] rfl ((b_handsType_180 C hi (b_handsType_196 C hi)) _ _ _ _ h)
    · rw [if_pos c3] at h
      refine v_bipush C 83 dX11_handsType_173 (by decide) ?_
      refine v_goto C 180 dX11_handsType_175 (by decide) ?_
      exact v_sub [1, 0] rfl ((b_handsType_180 C hi (b_handsType_196 C hi)) _ _ _ _ h)
  rw [if_neg c2] at h
  by_cases c4 : (σ.2.1 23 (((σ.1 44) - 1) : Int32).toNatClampNeg) = 3
  · rw [if_pos c4] at h
    refine v_tableIn C 62 dX11_handsType_13 (by rw [c4]; decide) (by rw [c4]; decide) (by rw [c4]; try rfl) (by decide) ?_
    refine v_aload_n C 1 dX11_handsType_62 rfl rfl ?_
    refine v_aload_n C 1 dX11_handsType_63 rfl rfl ?_
    refine n_getI C fl_249 dX11_handsType_64 ?_
    obtain ⟨q4, hq4, h⟩ := bd_of h
    refine vm_call C [.int (σ.1 54)] [] (c_isData hi _ _ hq4) hY_isData ml_340 ⟨Nat.le_of_ble_eq_true rfl, Nat.le_of_ble_eq_true rfl⟩ ⟨Nat.zero_le _, Nat.zero_le _⟩ rfl rfl (Nat.le_of_ble_eq_true rfl) dX11_handsType_67 (wm_inj hi cy _) ?_
    refine v_if_ne C 81 dX11_handsType_70 (by decide) (fun c5 => ?_) (fun c5 => ?_)
    · rw [if_neg c5] at h
      exact v_sub [1, 0] rfl ((b_handsType_81 C hi (b_handsType_196 C hi)) _ _ h)
    · rw [if_pos c5] at h
      refine v_aload_n C 1 dX11_handsType_73 rfl rfl ?_
      refine v_aload_n C 1 dX11_handsType_74 rfl rfl ?_
      refine n_getI C fl_246 dX11_handsType_75 ?_
      obtain ⟨q5, hq5, h⟩ := bd_of h
      refine vm_call C [.int (q4.2.1 53)] [] (c_fails hi _ _ hq5) hY_fails ml_240 ⟨Nat.le_of_ble_eq_true rfl, Nat.le_of_ble_eq_true rfl⟩ ⟨Nat.zero_le _, Nat.zero_le _⟩ rfl rfl (Nat.le_of_ble_eq_true rfl) dX11_handsType_78 (wm_inj hi cy _) ?_
      exact v_sub [1, 0] rfl ((b_handsType_81 C hi (b_handsType_196 C hi)) _ _ h)
  rw [if_neg c4] at h
  by_cases c6 : (σ.2.1 23 (((σ.1 44) - 1) : Int32).toNatClampNeg) = 4
  · rw [if_pos c6] at h
    refine v_tableIn C 140 dX11_handsType_13 (by rw [c6]; decide) (by rw [c6]; decide) (by rw [c6]; try rfl) (by decide) ?_
    refine v_aload_n C 1 dX11_handsType_140 rfl rfl ?_
    refine v_iload_n C 0 dX11_handsType_141 rfl rfl ?_
    obtain ⟨q6, hq6, h⟩ := bd_of h
    refine vm_call C [.int ((σ.1 44) - 1)] [] (c_again hi _ _ hq6) hY_again ml_334 ⟨Nat.le_of_ble_eq_true rfl, Nat.le_of_ble_eq_true rfl⟩ ⟨Nat.zero_le _, Nat.zero_le _⟩ rfl rfl (Nat.le_of_ble_eq_true rfl) dX11_handsType_142 (wm_inj hi cy _) ?_
    refine v_aload_n C 1 dX11_handsType_145 rfl rfl ?_
    refine v_dup C dX11_handsType_146 rfl ?_
    refine n_getI C fl_219 dX11_handsType_147 ?_
    refine v_iconst C 1 dX11_handsType_150 (by decide) ?_
    refine v_isub C dX11_handsType_151 ?_
    refine n_putI C fl_219 dX11_handsType_152 ?_
    refine v_aload_n C 1 dX11_handsType_155 rfl rfl ?_
    refine v_aload_n C 1 dX11_handsType_156 rfl rfl ?_
    refine n_getR C fl_85 dX11_handsType_157 ?_
    refine v_iload_n C 0 dX11_handsType_160 rfl rfl ?_
    obtain ⟨g4, h⟩ := gd_of h
    refine vm_iald C 24 iI_24 (ix_in g4) dX11_handsType_161 ?_
    refine v_aload_n C 1 dX11_handsType_162 rfl rfl ?_
    refine v_aload_n C 1 dX11_handsType_163 rfl rfl ?_
    refine n_getR C fl_82 dX11_handsType_164 ?_
    refine v_iload_n C 0 dX11_handsType_167 rfl rfl ?_
    obtain ⟨g5, h⟩ := gd_of h
    refine vm_iald C 23 iI_23 (ix_in g5) dX11_handsType_168 ?_
    refine v_iconst C 2 dX11_handsType_169 (by decide) ?_
    refine v_icmp_ne C 178 dX11_handsType_170 (by decide) (fun c7 => ?_) (fun c7 => ?_)
    · rw [if_neg c7] at h
      refine v_bipush C 80 dX11_handsType_178 (by decide) ?_
      exact v_sub [1, 0] rfl ((b_handsType_180 C hi (b_handsType_196 C hi)) _ _ _ _ h)
    · rw [if_pos c7] at h
      refine v_bipush C 83 dX11_handsType_173 (by decide) ?_
      refine v_goto C 180 dX11_handsType_175 (by decide) ?_
      exact v_sub [1, 0] rfl ((b_handsType_180 C hi (b_handsType_196 C hi)) _ _ _ _ h)
  rw [if_neg c6] at h
  by_cases c8 : (σ.2.1 23 (((σ.1 44) - 1) : Int32).toNatClampNeg) = 5
  · rw [if_pos c8] at h
    refine v_tableIn C 95 dX11_handsType_13 (by rw [c8]; decide) (by rw [c8]; decide) (by rw [c8]; try rfl) (by decide) ?_
    refine v_aload_n C 1 dX11_handsType_95 rfl rfl ?_
    refine v_iload_n C 0 dX11_handsType_96 rfl rfl ?_
    obtain ⟨q7, hq7, h⟩ := bd_of h
    refine vm_call C [.int ((σ.1 44) - 1)] [] (c_again hi _ _ hq7) hY_again ml_334 ⟨Nat.le_of_ble_eq_true rfl, Nat.le_of_ble_eq_true rfl⟩ ⟨Nat.zero_le _, Nat.zero_le _⟩ rfl rfl (Nat.le_of_ble_eq_true rfl) dX11_handsType_97 (wm_inj hi cy _) ?_
    refine v_aload_n C 1 dX11_handsType_100 rfl rfl ?_
    refine n_getR C fl_103 dX11_handsType_101 ?_
    refine v_iload_n C 0 dX11_handsType_104 rfl rfl ?_
    refine v_aload_n C 1 dX11_handsType_105 rfl rfl ?_
    refine n_getI C fl_249 dX11_handsType_106 ?_
    obtain ⟨g6, h⟩ := gd_of h
    refine vm_iast C 30 iI_30 (ix_in g6) dX11_handsType_109 ?_
    refine v_aload_n C 1 dX11_handsType_110 rfl rfl ?_
    refine n_getR C fl_82 dX11_handsType_111 ?_
    refine v_iload_n C 0 dX11_handsType_114 rfl rfl ?_
    refine v_bipush C 6 dX11_handsType_115 (by decide) ?_
    obtain ⟨g7, h⟩ := gd_of h
    refine vm_iast C 23 iI_23 (ix_in g7) dX11_handsType_117 ?_
    refine v_aload_n C 1 dX11_handsType_118 rfl rfl ?_
    refine v_iconst C 0 dX11_handsType_119 (by decide) ?_
    refine n_putI C fl_243 dX11_handsType_120 ?_
    refine v_aload_n C 1 dX11_handsType_123 rfl rfl ?_
    refine v_iconst C 3 dX11_handsType_124 (by decide) ?_
    refine v_aload_n C 1 dX11_handsType_125 rfl rfl ?_
    refine n_getI C fl_249 dX11_handsType_126 ?_
    refine v_aload_n C 1 dX11_handsType_129 rfl rfl ?_
    refine n_getI C fl_222 dX11_handsType_130 ?_
    refine v_iconst C 0 dX11_handsType_133 (by decide) ?_
    obtain ⟨q8, hq8, h⟩ := bd_of h
    refine vm_call C [.int 3, .int ((setF (setA (setA q7.2 30 (((σ.1 44) - 1) : Int32).toNatClampNeg (q7.2.1 54)) 23 (((σ.1 44) - 1) : Int32).toNatClampNeg 6) 52 0).1 54), .int ((setF (setA (setA q7.2 30 (((σ.1 44) - 1) : Int32).toNatClampNeg (q7.2.1 54)) 23 (((σ.1 44) - 1) : Int32).toNatClampNeg 6) 52 0).1 46), .int 0] [] (c_dueTerm hi _ _ _ _ _ hq8) hY_dueTerm ml_274 ⟨Nat.le_of_ble_eq_true rfl, Nat.le_of_ble_eq_true rfl⟩ ⟨Nat.zero_le _, Nat.zero_le _⟩ rfl rfl (Nat.le_of_ble_eq_true rfl) dX11_handsType_134 (wm_inj hi cy _) ?_
    refine v_goto C 196 dX11_handsType_137 (by decide) ?_
    exact v_sub [1] rfl ((b_handsType_196 C hi) _ h)
  rw [if_neg c8] at h
  refine v_tableOut C 140 dX11_handsType_13 (sw_out 4 (by decide) (fun i hi9 => by have k0 := lv_neT c1 (show (1 : Int32).toInt = 1 from by decide); have k1 := lv_neT c2 (show (2 : Int32).toInt = 2 from by decide); have k2 := lv_neT c4 (show (3 : Int32).toInt = 3 from by decide); have k3 := lv_neT c6 (show (4 : Int32).toInt = 4 from by decide); have k4 := lv_neT c8 (show (5 : Int32).toInt = 5 from by decide); omega)) (by decide) ?_
  refine v_aload_n C 1 dX11_handsType_140 rfl rfl ?_
  refine v_iload_n C 0 dX11_handsType_141 rfl rfl ?_
  obtain ⟨q9, hq9, h⟩ := bd_of h
  refine vm_call C [.int ((σ.1 44) - 1)] [] (c_again hi _ _ hq9) hY_again ml_334 ⟨Nat.le_of_ble_eq_true rfl, Nat.le_of_ble_eq_true rfl⟩ ⟨Nat.zero_le _, Nat.zero_le _⟩ rfl rfl (Nat.le_of_ble_eq_true rfl) dX11_handsType_142 (wm_inj hi cy _) ?_
  refine v_aload_n C 1 dX11_handsType_145 rfl rfl ?_
  refine v_dup C dX11_handsType_146 rfl ?_
  refine n_getI C fl_219 dX11_handsType_147 ?_
  refine v_iconst C 1 dX11_handsType_150 (by decide) ?_
  refine v_isub C dX11_handsType_151 ?_
  refine n_putI C fl_219 dX11_handsType_152 ?_
  refine v_aload_n C 1 dX11_handsType_155 rfl rfl ?_
  refine v_aload_n C 1 dX11_handsType_156 rfl rfl ?_
  refine n_getR C fl_85 dX11_handsType_157 ?_
  refine v_iload_n C 0 dX11_handsType_160 rfl rfl ?_
  obtain ⟨g8, h⟩ := gd_of h
  refine vm_iald C 24 iI_24 (ix_in g8) dX11_handsType_161 ?_
  refine v_aload_n C 1 dX11_handsType_162 rfl rfl ?_
  refine v_aload_n C 1 dX11_handsType_163 rfl rfl ?_
  refine n_getR C fl_82 dX11_handsType_164 ?_
  refine v_iload_n C 0 dX11_handsType_167 rfl rfl ?_
  obtain ⟨g9, h⟩ := gd_of h
  refine vm_iald C 23 iI_23 (ix_in g9) dX11_handsType_168 ?_
  refine v_iconst C 2 dX11_handsType_169 (by decide) ?_
  refine v_icmp_ne C 178 dX11_handsType_170 (by decide) (fun c9 => ?_) (fun c9 => ?_)
  · rw [if_neg c9] at h
    refine v_bipush C 80 dX11_handsType_178 (by decide) ?_
    exact v_sub [1, 0] rfl ((b_handsType_180 C hi (b_handsType_196 C hi)) _ _ _ _ h)
  · rw [if_pos c9] at h
    refine v_bipush C 83 dX11_handsType_173 (by decide) ?_
    refine v_goto C 180 dX11_handsType_175 (by decide) ?_
    exact v_sub [1, 0] rfl ((b_handsType_180 C hi (b_handsType_196 C hi)) _ _ _ _ h)
set_option maxHeartbeats 4000000 in
set_option maxRecDepth 20000 in
theorem c_valueOf {l : Launch} {D : va_G} {cy : Nat → ClassId} {ad : Nat → Nat} {q : Int32 × MS} (hi : ∀ i j, i < 34 → j < 34 → ad i = ad j → i = j) (x1 : Int32) (σ : MS) (h : f_valueOf x1 σ = some q) : MV l D (cyT cy) (inAd ad) yX11_valueOf cX11_valueOf 2 (some .int) 4 94 0 0 [.ref (ad 0), .int x1] (wm cy ad σ) (some (.int q.1)) (wm cy ad q.2) := by
  refine MV.of (by decide) (wm_inj hi cy σ) (Nat.le_of_ble_eq_true rfl) [(0, .ref (ad 0)), (1, .int x1)] rfl ?_
  intro p e s m args below meth c C
  rw [f_valueOf] at h
  refine v_aload_n C 0 dX11_valueOf_0 rfl rfl ?_
  refine v_iload_n C 1 dX11_valueOf_1 rfl rfl ?_
  refine v_aload_n C 0 dX11_valueOf_2 rfl rfl ?_
  refine n_getI C fl_222 dX11_valueOf_3 ?_
  refine v_iconst C 0 dX11_valueOf_6 (by decide) ?_
  obtain ⟨q1, hq1, h⟩ := bd_of h
  refine vm_call C [.int x1, .int (σ.1 46), .int 0] [] (c_worksData hi _ _ _ _ hq1) hY_worksData ml_180 ⟨Nat.le_of_ble_eq_true rfl, Nat.le_of_ble_eq_true rfl⟩ ⟨Nat.zero_le _, Nat.zero_le _⟩ rfl rfl (Nat.le_of_ble_eq_true rfl) dX11_valueOf_7 (wm_inj hi cy _) ?_
  obtain rfl := Option.some.inj h
  exact v_iret C dX11_valueOf_10
set_option maxHeartbeats 4000000 in
set_option maxRecDepth 20000 in
theorem b_handsGiven_57 {p : Program} {l : Launch} {e : Env} {s : State} {m : MethodId} {args : Array Value} {below : List Frame} {meth : Method} {c : Code} {D : va_G} {cy : Nat → ClassId} {ad : Nat → Nat} {q : Int32 × MS} (C : vC p s m args meth c cX11_handsGiven 10 none RX11 D (cyT cy)) (hi : ∀ i j, i < 34 → j < 34 → ad i = ad j → i = j) : ∀ (x1 : Int32) (x2 : Int32) (x3 : Int32) (x4 : Int32) (x5 : Int32) (x6 : Int32) (s0 : Int32) (s1 : Int32) (σ : MS), B_handsGiven_57 x1 x2 x3 x4 x5 x6 s0 s1 σ = some q → V p l e { frames := 9, cells := 0, slots := 0, locals := 225 } s m args below meth c D (inAd ad) 10 (MQ below (vQ D (inAd ad) none (wm cy ad q.2)) args s 0 0 (inAd ad)) 0 0 (wm cy ad σ) 57 [(0, .ref (ad 0)), (1, .int x1), (2, .int x2), (3, .int x3), (4, .int x4), (5, .int x5), (6, .int x6)] [.int s0, .int s1, .ref (ad 0)] := by
  intro x1 x2 x3 x4 x5 x6 s0 s1 σ h
  rw [B_handsGiven_57] at h
  refine v_iload C 6 dX11_handsGiven_57 rfl ?_
  obtain ⟨q1, hq1, h⟩ := bd_of h
  refine vm_call C [.int s1, .int s0, .int x6] [] (c_with hi _ _ _ _ hq1) hY_with ml_177 ⟨Nat.le_of_ble_eq_true rfl, Nat.le_of_ble_eq_true rfl⟩ ⟨Nat.zero_le _, Nat.zero_le _⟩ rfl rfl (Nat.le_of_ble_eq_true rfl) dX11_handsGiven_59 (wm_inj hi cy _) ?_
  refine v_istore C [(7, .int q1.1), (0, .ref (ad 0)), (1, .int x1), (2, .int x2), (3, .int x3), (4, .int x4), (5, .int x5), (6, .int x6)] dX11_handsGiven_62 (by decide) rfl ?_
  refine v_aload_n C 1 dX11_handsGiven_64 rfl rfl ?_
  refine v_aload_n C 1 dX11_handsGiven_65 rfl rfl ?_
  refine v_iload_n C 4 dX11_handsGiven_66 rfl rfl ?_
  refine v_iconst C 1 dX11_handsGiven_67 (by decide) ?_
  refine v_iadd C dX11_handsGiven_68 ?_
  obtain ⟨q2, hq2, h⟩ := bd_of h
  refine vm_call C [.int (x3 + 1)] [.ref (ad 0)] (c_behind hi _ _ hq2) hY_behind ml_127 ⟨Nat.le_of_ble_eq_true rfl, Nat.le_of_ble_eq_true rfl⟩ ⟨Nat.zero_le _, Nat.zero_le _⟩ rfl rfl (Nat.le_of_ble_eq_true rfl) dX11_handsGiven_69 (wm_inj hi cy _) ?_
  refine v_aload_n C 1 dX11_handsGiven_72 rfl rfl ?_
  refine n_getI C fl_222 dX11_handsGiven_73 ?_
  refine v_iconst C 1 dX11_handsGiven_76 (by decide) ?_
  refine v_iadd C dX11_handsGiven_77 ?_
  refine v_iload C 0 dX11_handsGiven_78 rfl ?_
  refine v_aload_n C 1 dX11_handsGiven_80 rfl rfl ?_
  refine n_getI C fl_222 dX11_handsGiven_81 ?_
  obtain ⟨q3, hq3, h⟩ := bd_of h
  refine vm_call C [.int q2.1, .int ((q2.2.1 46) + 1), .int q1.1, .int (q2.2.1 46)] [] (c_typeBy hi _ _ _ _ _ hq3) hY_typeBy ml_255 ⟨Nat.le_of_ble_eq_true rfl, Nat.le_of_ble_eq_true rfl⟩ ⟨Nat.zero_le _, Nat.zero_le _⟩ rfl rfl (Nat.le_of_ble_eq_true rfl) dX11_handsGiven_84 (wm_inj hi cy _) ?_
  refine v_istore C [(8, .int q3.1), (7, .int q1.1), (0, .ref (ad 0)), (1, .int x1), (2, .int x2), (3, .int x3), (4, .int x4), (5, .int x5), (6, .int x6)] dX11_handsGiven_87 (by decide) rfl ?_
  refine v_aload_n C 2 dX11_handsGiven_89 rfl rfl ?_
  refine v_aload_n C 2 dX11_handsGiven_90 rfl rfl ?_
  refine v_iload_n C 4 dX11_handsGiven_91 rfl rfl ?_
  refine v_aload_n C 2 dX11_handsGiven_92 rfl rfl ?_
  refine n_getI C fl_222 dX11_handsGiven_93 ?_
  refine v_iconst C 1 dX11_handsGiven_96 (by decide) ?_
  refine v_iadd C dX11_handsGiven_97 ?_
  refine v_iload C 1 dX11_handsGiven_98 rfl ?_
  obtain ⟨q4, hq4, h⟩ := bd_of h
  refine vm_call C [.int x2, .int ((q3.2.1 46) + 1), .int q1.1] [.ref (ad 0)] (c_worksData hi _ _ _ _ hq4) hY_worksData ml_180 ⟨Nat.le_of_ble_eq_true rfl, Nat.le_of_ble_eq_true rfl⟩ ⟨Nat.zero_le _, Nat.zero_le _⟩ rfl rfl (Nat.le_of_ble_eq_true rfl) dX11_handsGiven_100 (wm_inj hi cy _) ?_
  refine v_aload_n C 2 dX11_handsGiven_103 rfl rfl ?_
  refine n_getI C fl_222 dX11_handsGiven_104 ?_
  refine v_iload C 6 dX11_handsGiven_107 rfl ?_
  refine v_iload C 7 dX11_handsGiven_109 rfl ?_
  obtain ⟨q5, hq5, h⟩ := bd_of h
  refine vm_call C [.int q4.1, .int (q4.2.1 46), .int x4, .int x5] [] (c_toldValue hi _ _ _ _ _ hq5) hY_toldValue ml_301 ⟨Nat.le_of_ble_eq_true rfl, Nat.le_of_ble_eq_true rfl⟩ ⟨Nat.zero_le _, Nat.zero_le _⟩ rfl rfl (Nat.le_of_ble_eq_true rfl) dX11_handsGiven_111 (wm_inj hi cy _) ?_
  refine v_istore C [(9, .int q5.1), (8, .int q3.1), (7, .int q1.1), (0, .ref (ad 0)), (1, .int x1), (2, .int x2), (3, .int x3), (4, .int x4), (5, .int x5), (6, .int x6)] dX11_handsGiven_114 (by decide) rfl ?_
  refine v_aload_n C 3 dX11_handsGiven_116 rfl rfl ?_
  refine v_iload C 7 dX11_handsGiven_117 rfl ?_
  refine n_putI C fl_140 dX11_handsGiven_119 ?_
  refine v_aload_n C 3 dX11_handsGiven_122 rfl rfl ?_
  refine v_iload C 8 dX11_handsGiven_123 rfl ?_
  refine n_putI C fl_45 dX11_handsGiven_125 ?_
  refine v_aload_n C 3 dX11_handsGiven_128 rfl rfl ?_
  refine v_iload_n C 4 dX11_handsGiven_129 rfl rfl ?_
  obtain ⟨q6, hq6, h⟩ := bd_of h
  refine vm_call C [.int x1] [] (c_again hi _ _ hq6) hY_again ml_334 ⟨Nat.le_of_ble_eq_true rfl, Nat.le_of_ble_eq_true rfl⟩ ⟨Nat.zero_le _, Nat.zero_le _⟩ rfl rfl (Nat.le_of_ble_eq_true rfl) dX11_handsGiven_130 (wm_inj hi cy _) ?_
  refine v_aload_n C 3 dX11_handsGiven_133 rfl rfl ?_
  refine v_dup C dX11_handsGiven_134 rfl ?_
  refine n_getI C fl_219 dX11_handsGiven_135 ?_
  refine v_iconst C 1 dX11_handsGiven_138 (by decide) ?_
  refine v_isub C dX11_handsGiven_139 ?_
  refine n_putI C fl_219 dX11_handsGiven_140 ?_
  refine v_aload_n C 3 dX11_handsGiven_143 rfl rfl ?_
  refine v_aload_n C 3 dX11_handsGiven_144 rfl rfl ?_
  refine n_getR C fl_85 dX11_handsGiven_145 ?_
  refine v_iload_n C 4 dX11_handsGiven_148 rfl rfl ?_
  obtain ⟨g1, h⟩ := gd_of h
  refine vm_iald C 24 iI_24 (ix_in g1) dX11_handsGiven_149 ?_
  refine v_iload C 1 dX11_handsGiven_150 rfl ?_
  refine v_iload C 0 dX11_handsGiven_152 rfl ?_
  obtain ⟨q7, hq7, h⟩ := bd_of h
  refine vm_call C [.int ((setF q6.2 44 ((q6.2.1 44) - 1)).2.1 24 (x1 : Int32).toNatClampNeg), .int q3.1, .int q5.1] [] (c_endsFound hi _ _ _ _ hq7) hY_endsFound ml_287 ⟨Nat.le_of_ble_eq_true rfl, Nat.le_of_ble_eq_true rfl⟩ ⟨Nat.zero_le _, Nat.zero_le _⟩ rfl rfl (Nat.le_of_ble_eq_true rfl) dX11_handsGiven_154 (wm_inj hi cy _) ?_
  obtain rfl := Option.some.inj h
  exact v_vret C dX11_handsGiven_157
set_option maxHeartbeats 4000000 in
set_option maxRecDepth 20000 in
theorem c_handsGiven {l : Launch} {D : va_G} {cy : Nat → ClassId} {ad : Nat → Nat} {q : Int32 × MS} (hi : ∀ i j, i < 34 → j < 34 → ad i = ad j → i = j) (x1 : Int32) (σ : MS) (h : f_handsGiven x1 σ = some q) : MV l D (cyT cy) (inAd ad) yX11_handsGiven cX11_handsGiven 10 none 9 225 0 0 [.ref (ad 0), .int x1] (wm cy ad σ) none (wm cy ad q.2) := by
  refine MV.of (by decide) (wm_inj hi cy σ) (Nat.le_of_ble_eq_true rfl) [(0, .ref (ad 0)), (1, .int x1)] rfl ?_
  intro p e s m args below meth c C
  rw [f_handsGiven] at h
  refine v_aload_n C 0 dX11_handsGiven_0 rfl rfl ?_
  refine n_getR C fl_103 dX11_handsGiven_1 ?_
  refine v_iload_n C 1 dX11_handsGiven_4 rfl rfl ?_
  obtain ⟨g1, h⟩ := gd_of h
  refine vm_iald C 30 iI_30 (ix_in g1) dX11_handsGiven_5 ?_
  refine v_iconst C 1 dX11_handsGiven_6 (by decide) ?_
  refine v_iadd C dX11_handsGiven_7 ?_
  refine v_istore_n C [(2, .int ((σ.2.1 30 (x1 : Int32).toNatClampNeg) + 1)), (0, .ref (ad 0)), (1, .int x1)] dX11_handsGiven_8 rfl (by decide) rfl ?_
  refine v_aload_n C 1 dX11_handsGiven_9 rfl rfl ?_
  refine n_getR C fl_106 dX11_handsGiven_10 ?_
  refine v_iload_n C 2 dX11_handsGiven_13 rfl rfl ?_
  obtain ⟨g2, h⟩ := gd_of h
  refine vm_iald C 31 iI_31 (ix_in g2) dX11_handsGiven_14 ?_
  refine v_istore_n C [(3, .int (σ.2.1 31 (x1 : Int32).toNatClampNeg)), (2, .int ((σ.2.1 30 (x1 : Int32).toNatClampNeg) + 1)), (0, .ref (ad 0)), (1, .int x1)] dX11_handsGiven_15 rfl (by decide) rfl ?_
  refine v_aload_n C 2 dX11_handsGiven_16 rfl rfl ?_
  refine n_getI C fl_140 dX11_handsGiven_17 ?_
  refine v_istore C [(4, .int (σ.1 19)), (3, .int (σ.2.1 31 (x1 : Int32).toNatClampNeg)), (2, .int ((σ.2.1 30 (x1 : Int32).toNatClampNeg) + 1)), (0, .ref (ad 0)), (1, .int x1)] dX11_handsGiven_20 (by decide) rfl ?_
  refine v_aload_n C 3 dX11_handsGiven_22 rfl rfl ?_
  refine n_getI C fl_45 dX11_handsGiven_23 ?_
  refine v_istore C [(5, .int (σ.1 21)), (4, .int (σ.1 19)), (3, .int (σ.2.1 31 (x1 : Int32).toNatClampNeg)), (2, .int ((σ.2.1 30 (x1 : Int32).toNatClampNeg) + 1)), (0, .ref (ad 0)), (1, .int x1)] dX11_handsGiven_26 (by decide) rfl ?_
  refine v_aload_n C 4 dX11_handsGiven_28 rfl rfl ?_
  refine v_aload_n C 4 dX11_handsGiven_29 rfl rfl ?_
  refine n_getI C fl_249 dX11_handsGiven_30 ?_
  obtain ⟨q1, hq1, h⟩ := bd_of h
  refine vm_call C [.int (σ.1 54)] [] (c_valueOf hi _ _ hq1) hY_valueOf ml_346 ⟨Nat.le_of_ble_eq_true rfl, Nat.le_of_ble_eq_true rfl⟩ ⟨Nat.zero_le _, Nat.zero_le _⟩ rfl rfl (Nat.le_of_ble_eq_true rfl) dX11_handsGiven_33 (wm_inj hi cy _) ?_
  refine v_istore C [(6, .int q1.1), (5, .int (σ.1 21)), (4, .int (σ.1 19)), (3, .int (σ.2.1 31 (x1 : Int32).toNatClampNeg)), (2, .int ((σ.2.1 30 (x1 : Int32).toNatClampNeg) + 1)), (0, .ref (ad 0)), (1, .int x1)] dX11_handsGiven_36 (by decide) rfl ?_
  refine v_aload_n C 5 dX11_handsGiven_38 rfl rfl ?_
  refine v_iconst C 0 dX11_handsGiven_39 (by decide) ?_
  refine v_aload_n C 5 dX11_handsGiven_40 rfl rfl ?_
  refine n_getI C fl_222 dX11_handsGiven_41 ?_
  refine v_bipush C 10 dX11_handsGiven_44 (by decide) ?_
  refine v_icmp_ge C 56 dX11_handsGiven_46 (by decide) (fun c1 => ?_) (fun c1 => ?_)
  · rw [if_pos c1] at h
    refine v_iconst C 0 dX11_handsGiven_56 (by decide) ?_
    exact v_sub [5, 6, 4, 3, 2, 1, 0] rfl ((b_handsGiven_57 C hi) _ _ _ _ _ _ _ _ _ h)
  · rw [if_neg c1] at h
    refine v_aload_n C 5 dX11_handsGiven_49 rfl rfl ?_
    refine n_getI C fl_222 dX11_handsGiven_50 ?_
    refine v_goto C 57 dX11_handsGiven_53 (by decide) ?_
    exact v_sub [5, 6, 4, 3, 2, 1, 0] rfl ((b_handsGiven_57 C hi) _ _ _ _ _ _ _ _ _ h)
set_option maxHeartbeats 4000000 in
set_option maxRecDepth 20000 in
theorem b_handsTaken_67 {p : Program} {l : Launch} {e : Env} {s : State} {m : MethodId} {args : Array Value} {below : List Frame} {meth : Method} {c : Code} {D : va_G} {cy : Nat → ClassId} {ad : Nat → Nat} {q : Int32 × MS} (C : vC p s m args meth c cX11_handsTaken 8 none RX11 D (cyT cy)) (hi : ∀ i j, i < 34 → j < 34 → ad i = ad j → i = j) {k119 : Int32 → Int32 → Int32 → MS → Option (Int32 × MS)} (hk119 : ∀ (x1 : Int32) (x3 : Int32) (x4 : Int32)  (σ : MS), k119 x1 x3 x4 σ = some q → V p l e { frames := 9, cells := 0, slots := 0, locals := 225 } s m args below meth c D (inAd ad) 8 (MQ below (vQ D (inAd ad) none (wm cy ad q.2)) args s 0 0 (inAd ad)) 0 0 (wm cy ad σ) 119 [(0, .ref (ad 0)), (1, .int x1), (3, .int x3), (4, .int x4)] []) : ∀ (x1 : Int32) (x3 : Int32) (x4 : Int32) (x5 : Int32) (x6 : Int32) (s0 : Int32) (s1 : Int32) (σ : MS), B_handsTaken_67 k119 x1 x3 x4 x5 x6 s0 s1 σ = some q → V p l e { frames := 9, cells := 0, slots := 0, locals := 225 } s m args below meth c D (inAd ad) 8 (MQ below (vQ D (inAd ad) none (wm cy ad q.2)) args s 0 0 (inAd ad)) 0 0 (wm cy ad σ) 67 [(0, .ref (ad 0)), (1, .int x1), (3, .int x3), (4, .int x4), (5, .int x5), (6, .int x6)] [.int s0, .int s1, .ref (ad 0)] := by
  intro x1 x3 x4 x5 x6 s0 s1 σ h
  rw [B_handsTaken_67] at h
  refine v_aload_n C 0 dX11_handsTaken_67 rfl rfl ?_
  refine v_iload_n C 2 dX11_handsTaken_68 rfl rfl ?_
  obtain ⟨q1, hq1, h⟩ := bd_of h
  refine vm_call C [.int x3] [.int s0, .int s1, .ref (ad 0)] (c_valueOf hi _ _ hq1) hY_valueOf ml_346 ⟨Nat.le_of_ble_eq_true rfl, Nat.le_of_ble_eq_true rfl⟩ ⟨Nat.zero_le _, Nat.zero_le _⟩ rfl rfl (Nat.le_of_ble_eq_true rfl) dX11_handsTaken_69 (wm_inj hi cy _) ?_
  obtain ⟨q2, hq2, h⟩ := bd_of h
  refine vm_call C [.int s1, .int s0, .int q1.1] [] (c_with hi _ _ _ _ hq2) hY_with ml_177 ⟨Nat.le_of_ble_eq_true rfl, Nat.le_of_ble_eq_true rfl⟩ ⟨Nat.zero_le _, Nat.zero_le _⟩ rfl rfl (Nat.le_of_ble_eq_true rfl) dX11_handsTaken_72 (wm_inj hi cy _) ?_
  refine v_istore C [(7, .int q2.1), (0, .ref (ad 0)), (1, .int x1), (3, .int x3), (4, .int x4), (5, .int x5), (6, .int x6)] dX11_handsTaken_75 (by decide) rfl ?_
  refine v_aload_n C 1 dX11_handsTaken_77 rfl rfl ?_
  refine v_aload_n C 1 dX11_handsTaken_78 rfl rfl ?_
  refine v_iload C 4 dX11_handsTaken_79 rfl ?_
  obtain ⟨q3, hq3, h⟩ := bd_of h
  refine vm_call C [.int x4] [.ref (ad 0)] (c_behind hi _ _ hq3) hY_behind ml_127 ⟨Nat.le_of_ble_eq_true rfl, Nat.le_of_ble_eq_true rfl⟩ ⟨Nat.zero_le _, Nat.zero_le _⟩ rfl rfl (Nat.le_of_ble_eq_true rfl) dX11_handsTaken_81 (wm_inj hi cy _) ?_
  refine v_aload_n C 1 dX11_handsTaken_84 rfl rfl ?_
  refine n_getI C fl_222 dX11_handsTaken_85 ?_
  refine v_iconst C 1 dX11_handsTaken_88 (by decide) ?_
  refine v_iadd C dX11_handsTaken_89 ?_
  refine v_iload C 0 dX11_handsTaken_90 rfl ?_
  refine v_aload_n C 1 dX11_handsTaken_92 rfl rfl ?_
  refine n_getI C fl_222 dX11_handsTaken_93 ?_
  obtain ⟨q4, hq4, h⟩ := bd_of h
  refine vm_call C [.int q3.1, .int ((q3.2.1 46) + 1), .int q2.1, .int (q3.2.1 46)] [] (c_typeBy hi _ _ _ _ _ hq4) hY_typeBy ml_255 ⟨Nat.le_of_ble_eq_true rfl, Nat.le_of_ble_eq_true rfl⟩ ⟨Nat.zero_le _, Nat.zero_le _⟩ rfl rfl (Nat.le_of_ble_eq_true rfl) dX11_handsTaken_96 (wm_inj hi cy _) ?_
  refine v_istore C [(4, .int q4.1), (7, .int q2.1), (0, .ref (ad 0)), (1, .int x1), (3, .int x3), (5, .int x5), (6, .int x6)] dX11_handsTaken_99 (by decide) rfl ?_
  refine v_aload_n C 2 dX11_handsTaken_101 rfl rfl ?_
  refine v_iload C 5 dX11_handsTaken_102 rfl ?_
  refine n_putI C fl_140 dX11_handsTaken_104 ?_
  refine v_aload_n C 2 dX11_handsTaken_107 rfl rfl ?_
  refine v_iload C 6 dX11_handsTaken_108 rfl ?_
  refine n_putI C fl_45 dX11_handsTaken_110 ?_
  refine v_aload_n C 2 dX11_handsTaken_113 rfl rfl ?_
  refine v_iload_n C 4 dX11_handsTaken_114 rfl rfl ?_
  obtain ⟨q5, hq5, h⟩ := bd_of h
  refine vm_call C [.int x3] [] (c_behind hi _ _ hq5) hY_behind ml_127 ⟨Nat.le_of_ble_eq_true rfl, Nat.le_of_ble_eq_true rfl⟩ ⟨Nat.zero_le _, Nat.zero_le _⟩ rfl rfl (Nat.le_of_ble_eq_true rfl) dX11_handsTaken_115 (wm_inj hi cy _) ?_
  refine v_istore_n C [(3, .int q5.1), (4, .int q4.1), (7, .int q2.1), (0, .ref (ad 0)), (1, .int x1), (5, .int x5), (6, .int x6)] dX11_handsTaken_118 rfl (by decide) rfl ?_
  exact v_sub [3, 4, 0, 1] rfl (hk119 _ _ _ _ h)
set_option maxHeartbeats 4000000 in
set_option maxRecDepth 20000 in
theorem b_handsTaken_119 {p : Program} {l : Launch} {e : Env} {s : State} {m : MethodId} {args : Array Value} {below : List Frame} {meth : Method} {c : Code} {D : va_G} {cy : Nat → ClassId} {ad : Nat → Nat} {q : Int32 × MS} (C : vC p s m args meth c cX11_handsTaken 8 none RX11 D (cyT cy)) (hi : ∀ i j, i < 34 → j < 34 → ad i = ad j → i = j) : ∀ (x1 : Int32) (x3 : Int32) (x4 : Int32) (σ : MS), B_handsTaken_119 x1 x3 x4 σ = some q → V p l e { frames := 9, cells := 0, slots := 0, locals := 225 } s m args below meth c D (inAd ad) 8 (MQ below (vQ D (inAd ad) none (wm cy ad q.2)) args s 0 0 (inAd ad)) 0 0 (wm cy ad σ) 119 [(0, .ref (ad 0)), (1, .int x1), (3, .int x3), (4, .int x4)] [] := by
  intro x1 x3 x4 σ h
  rw [B_handsTaken_119] at h
  refine v_aload_n C 0 dX11_handsTaken_119 rfl rfl ?_
  refine v_iload_n C 1 dX11_handsTaken_120 rfl rfl ?_
  obtain ⟨q1, hq1, h⟩ := bd_of h
  refine vm_call C [.int x1] [] (c_again hi _ _ hq1) hY_again ml_334 ⟨Nat.le_of_ble_eq_true rfl, Nat.le_of_ble_eq_true rfl⟩ ⟨Nat.zero_le _, Nat.zero_le _⟩ rfl rfl (Nat.le_of_ble_eq_true rfl) dX11_handsTaken_121 (wm_inj hi cy _) ?_
  refine v_aload_n C 0 dX11_handsTaken_124 rfl rfl ?_
  refine v_dup C dX11_handsTaken_125 rfl ?_
  refine n_getI C fl_219 dX11_handsTaken_126 ?_
  refine v_iconst C 1 dX11_handsTaken_129 (by decide) ?_
  refine v_isub C dX11_handsTaken_130 ?_
  refine n_putI C fl_219 dX11_handsTaken_131 ?_
  refine v_aload_n C 0 dX11_handsTaken_134 rfl rfl ?_
  refine v_aload_n C 0 dX11_handsTaken_135 rfl rfl ?_
  refine n_getR C fl_85 dX11_handsTaken_136 ?_
  refine v_iload_n C 1 dX11_handsTaken_139 rfl rfl ?_
  obtain ⟨g1, h⟩ := gd_of h
  refine vm_iald C 24 iI_24 (ix_in g1) dX11_handsTaken_140 ?_
  refine v_iload C 3 dX11_handsTaken_141 rfl ?_
  refine v_iload_n C 2 dX11_handsTaken_143 rfl rfl ?_
  obtain ⟨q2, hq2, h⟩ := bd_of h
  refine vm_call C [.int ((setF q1.2 44 ((q1.2.1 44) - 1)).2.1 24 (x1 : Int32).toNatClampNeg), .int x4, .int x3] [] (c_endsFound hi _ _ _ _ hq2) hY_endsFound ml_287 ⟨Nat.le_of_ble_eq_true rfl, Nat.le_of_ble_eq_true rfl⟩ ⟨Nat.zero_le _, Nat.zero_le _⟩ rfl rfl (Nat.le_of_ble_eq_true rfl) dX11_handsTaken_144 (wm_inj hi cy _) ?_
  obtain rfl := Option.some.inj h
  exact v_vret C dX11_handsTaken_147
set_option maxHeartbeats 4000000 in
set_option maxRecDepth 20000 in
theorem b_handsTaken_16 {p : Program} {l : Launch} {e : Env} {s : State} {m : MethodId} {args : Array Value} {below : List Frame} {meth : Method} {c : Code} {D : va_G} {cy : Nat → ClassId} {ad : Nat → Nat} {q : Int32 × MS} (C : vC p s m args meth c cX11_handsTaken 8 none RX11 D (cyT cy)) (hi : ∀ i j, i < 34 → j < 34 → ad i = ad j → i = j) : ∀ (x1 : Int32) (s0 : Int32) (σ : MS), B_handsTaken_16 x1 s0 σ = some q → V p l e { frames := 9, cells := 0, slots := 0, locals := 225 } s m args below meth c D (inAd ad) 8 (MQ below (vQ D (inAd ad) none (wm cy ad q.2)) args s 0 0 (inAd ad)) 0 0 (wm cy ad σ) 16 [(0, .ref (ad 0)), (1, .int x1)] [.int s0] := by
  intro x1 s0 σ h
  rw [B_handsTaken_16] at h
  refine v_istore_n C [(2, .int s0), (0, .ref (ad 0)), (1, .int x1)] dX11_handsTaken_16 rfl (by decide) rfl ?_
  refine v_aload_n C 1 dX11_handsTaken_17 rfl rfl ?_
  refine n_getI C fl_249 dX11_handsTaken_18 ?_
  refine v_iconst C 1 dX11_handsTaken_21 (by decide) ?_
  refine v_iadd C dX11_handsTaken_22 ?_
  refine v_istore_n C [(3, .int ((σ.1 54) + 1)), (2, .int s0), (0, .ref (ad 0)), (1, .int x1)] dX11_handsTaken_23 rfl (by decide) rfl ?_
  refine v_aload_n C 2 dX11_handsTaken_24 rfl rfl ?_
  refine n_getI C fl_252 dX11_handsTaken_25 ?_
  refine v_iconst C 1 dX11_handsTaken_28 (by decide) ?_
  refine v_iadd C dX11_handsTaken_29 ?_
  refine v_istore C [(4, .int ((σ.1 55) + 1)), (3, .int ((σ.1 54) + 1)), (2, .int s0), (0, .ref (ad 0)), (1, .int x1)] dX11_handsTaken_30 (by decide) rfl ?_
  refine v_iload_n C 2 dX11_handsTaken_32 rfl rfl ?_
  refine v_if_ne C 119 dX11_handsTaken_33 (by decide) (fun c1 => ?_) (fun c1 => ?_)
  · rw [if_neg c1] at h
    exact v_sub [3, 4, 1, 0] rfl ((b_handsTaken_119 C hi) _ _ _ _ h)
  · rw [if_pos c1] at h
    refine v_aload_n C 3 dX11_handsTaken_36 rfl rfl ?_
    refine n_getI C fl_140 dX11_handsTaken_37 ?_
    refine v_istore C [(5, .int (σ.1 19)), (4, .int ((σ.1 55) + 1)), (3, .int ((σ.1 54) + 1)), (2, .int s0), (0, .ref (ad 0)), (1, .int x1)] dX11_handsTaken_40 (by decide) rfl ?_
    refine v_aload_n C 4 dX11_handsTaken_42 rfl rfl ?_
    refine n_getI C fl_45 dX11_handsTaken_43 ?_
    refine v_istore C [(6, .int (σ.1 21)), (5, .int (σ.1 19)), (4, .int ((σ.1 55) + 1)), (3, .int ((σ.1 54) + 1)), (2, .int s0), (0, .ref (ad 0)), (1, .int x1)] dX11_handsTaken_46 (by decide) rfl ?_
    refine v_aload_n C 5 dX11_handsTaken_48 rfl rfl ?_
    refine v_iconst C 0 dX11_handsTaken_49 (by decide) ?_
    refine v_aload_n C 5 dX11_handsTaken_50 rfl rfl ?_
    refine n_getI C fl_222 dX11_handsTaken_51 ?_
    refine v_bipush C 10 dX11_handsTaken_54 (by decide) ?_
    refine v_icmp_ge C 66 dX11_handsTaken_56 (by decide) (fun c2 => ?_) (fun c2 => ?_)
    · rw [if_pos c2] at h
      refine v_iconst C 0 dX11_handsTaken_66 (by decide) ?_
      exact v_sub [5, 6, 3, 2, 1, 0] rfl ((b_handsTaken_67 C hi (b_handsTaken_119 C hi)) _ _ _ _ _ _ _ _ h)
    · rw [if_neg c2] at h
      refine v_aload_n C 5 dX11_handsTaken_59 rfl rfl ?_
      refine n_getI C fl_222 dX11_handsTaken_60 ?_
      refine v_goto C 67 dX11_handsTaken_63 (by decide) ?_
      exact v_sub [5, 6, 3, 2, 1, 0] rfl ((b_handsTaken_67 C hi (b_handsTaken_119 C hi)) _ _ _ _ _ _ _ _ h)
set_option maxHeartbeats 4000000 in
set_option maxRecDepth 20000 in
theorem c_handsTaken {l : Launch} {D : va_G} {cy : Nat → ClassId} {ad : Nat → Nat} {q : Int32 × MS} (hi : ∀ i j, i < 34 → j < 34 → ad i = ad j → i = j) (x1 : Int32) (σ : MS) (h : f_handsTaken x1 σ = some q) : MV l D (cyT cy) (inAd ad) yX11_handsTaken cX11_handsTaken 8 none 9 225 0 0 [.ref (ad 0), .int x1] (wm cy ad σ) none (wm cy ad q.2) := by
  refine MV.of (by decide) (wm_inj hi cy σ) (Nat.le_of_ble_eq_true rfl) [(0, .ref (ad 0)), (1, .int x1)] rfl ?_
  intro p e s m args below meth c C
  rw [f_handsTaken] at h
  refine v_aload_n C 0 dX11_handsTaken_0 rfl rfl ?_
  refine n_getR C fl_82 dX11_handsTaken_1 ?_
  refine v_iload_n C 1 dX11_handsTaken_4 rfl rfl ?_
  obtain ⟨g1, h⟩ := gd_of h
  refine vm_iald C 23 iI_23 (ix_in g1) dX11_handsTaken_5 ?_
  refine v_bipush C 9 dX11_handsTaken_6 (by decide) ?_
  refine v_icmp_ne C 15 dX11_handsTaken_8 (by decide) (fun c1 => ?_) (fun c1 => ?_)
  · rw [if_neg c1] at h
    refine v_iconst C 0 dX11_handsTaken_15 (by decide) ?_
    exact v_sub [0, 1] rfl ((b_handsTaken_16 C hi) _ _ _ h)
  · rw [if_pos c1] at h
    refine v_iconst C 1 dX11_handsTaken_11 (by decide) ?_
    refine v_goto C 16 dX11_handsTaken_12 (by decide) ?_
    exact v_sub [0, 1] rfl ((b_handsTaken_16 C hi) _ _ _ h)
