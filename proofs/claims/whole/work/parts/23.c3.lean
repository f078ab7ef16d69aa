theorem dX9_putType_0 : decode cX9_putType 0 = .ok (.aload_n 0, 1) := by decide +kernel
theorem dX9_putType_1 : decode cX9_putType 1 = .ok (.getfield 15, 3) := by decide +kernel
theorem dX9_putType_4 : decode cX9_putType 4 = .ok (.iload_n 1, 1) := by decide +kernel
theorem dX9_putType_5 : decode cX9_putType 5 = .ok (.invokevirtual 57, 3) := by decide +kernel
theorem dX9_putType_8 : decode cX9_putType 8 = .ok (.istore_n 3, 1) := by decide +kernel
theorem dX9_putType_9 : decode cX9_putType 9 = .ok (.aload_n 0, 1) := by decide +kernel
theorem dX9_putType_10 : decode cX9_putType 10 = .ok (.iload_n 3, 1) := by decide +kernel
theorem dX9_putType_11 : decode cX9_putType 11 = .ok (.invokevirtual 22, 3) := by decide +kernel
theorem dX9_putType_14 : decode cX9_putType 14 = .ok (.aload_n 0, 1) := by decide +kernel
theorem dX9_putType_15 : decode cX9_putType 15 = .ok (.getfield 42, 3) := by decide +kernel
theorem dX9_putType_18 : decode cX9_putType 18 = .ok (.ifCond .eq 4, 3) := by decide +kernel
theorem dX9_putType_21 : decode cX9_putType 21 = .ok (.return_, 1) := by decide +kernel
theorem dX9_putType_22 : decode cX9_putType 22 = .ok (.iload_n 3, 1) := by decide +kernel
theorem dX9_putType_23 : decode cX9_putType 23 = .ok (.bipush 83, 2) := by decide +kernel
theorem dX9_putType_25 : decode cX9_putType 25 = .ok (.if_icmp .eq 9, 3) := by decide +kernel
theorem dX9_putType_28 : decode cX9_putType 28 = .ok (.iload_n 3, 1) := by decide +kernel
theorem dX9_putType_29 : decode cX9_putType 29 = .ok (.bipush 80, 2) := by decide +kernel
theorem dX9_putType_31 : decode cX9_putType 31 = .ok (.if_icmp .ne 56, 3) := by decide +kernel
theorem dX9_putType_34 : decode cX9_putType 34 = .ok (.aload_n 0, 1) := by decide +kernel
theorem dX9_putType_35 : decode cX9_putType 35 = .ok (.aload_n 0, 1) := by decide +kernel
theorem dX9_putType_36 : decode cX9_putType 36 = .ok (.getfield 15, 3) := by decide +kernel
theorem dX9_putType_39 : decode cX9_putType 39 = .ok (.iload_n 1, 1) := by decide +kernel
theorem dX9_putType_40 : decode cX9_putType 40 = .ok (.invokevirtual 62, 3) := by decide +kernel
theorem dX9_putType_43 : decode cX9_putType 43 = .ok (.iload_n 2, 1) := by decide +kernel
theorem dX9_putType_44 : decode cX9_putType 44 = .ok (.invokevirtual 65, 3) := by decide +kernel
theorem dX9_putType_47 : decode cX9_putType 47 = .ok (.aload_n 0, 1) := by decide +kernel
theorem dX9_putType_48 : decode cX9_putType 48 = .ok (.aload_n 0, 1) := by decide +kernel
theorem dX9_putType_49 : decode cX9_putType 49 = .ok (.getfield 15, 3) := by decide +kernel
theorem dX9_putType_52 : decode cX9_putType 52 = .ok (.iload_n 1, 1) := by decide +kernel
theorem dX9_putType_53 : decode cX9_putType 53 = .ok (.invokevirtual 62, 3) := by decide +kernel
theorem dX9_putType_56 : decode cX9_putType 56 = .ok (.iload_n 2, 1) := by decide +kernel
theorem dX9_putType_57 : decode cX9_putType 57 = .ok (.invokevirtual 69, 3) := by decide +kernel
theorem dX9_putType_60 : decode cX9_putType 60 = .ok (.istore 4, 2) := by decide +kernel
theorem dX9_putType_62 : decode cX9_putType 62 = .ok (.aload_n 0, 1) := by decide +kernel
theorem dX9_putType_63 : decode cX9_putType 63 = .ok (.getfield 42, 3) := by decide +kernel
theorem dX9_putType_66 : decode cX9_putType 66 = .ok (.ifCond .ne 20, 3) := by decide +kernel
theorem dX9_putType_69 : decode cX9_putType 69 = .ok (.aload_n 0, 1) := by decide +kernel
theorem dX9_putType_70 : decode cX9_putType 70 = .ok (.aload_n 0, 1) := by decide +kernel
theorem dX9_putType_71 : decode cX9_putType 71 = .ok (.getfield 15, 3) := by decide +kernel
theorem dX9_putType_74 : decode cX9_putType 74 = .ok (.iload_n 1, 1) := by decide +kernel
theorem dX9_putType_75 : decode cX9_putType 75 = .ok (.iload 4, 2) := by decide +kernel
theorem dX9_putType_77 : decode cX9_putType 77 = .ok (.invokevirtual 73, 3) := by decide +kernel
theorem dX9_putType_80 : decode cX9_putType 80 = .ok (.iload_n 2, 1) := by decide +kernel
theorem dX9_putType_81 : decode cX9_putType 81 = .ok (.iconst 1, 1) := by decide +kernel
theorem dX9_putType_82 : decode cX9_putType 82 = .ok (.iadd, 1) := by decide +kernel
theorem dX9_putType_83 : decode cX9_putType 83 = .ok (.invokevirtual 65, 3) := by decide +kernel
theorem dX9_putType_86 : decode cX9_putType 86 = .ok (.return_, 1) := by decide +kernel
theorem dX9_putType_87 : decode cX9_putType 87 = .ok (.aload_n 0, 1) := by decide +kernel
theorem dX9_putType_88 : decode cX9_putType 88 = .ok (.getfield 9, 3) := by decide +kernel
theorem dX9_putType_91 : decode cX9_putType 91 = .ok (.iload_n 3, 1) := by decide +kernel
theorem dX9_putType_92 : decode cX9_putType 92 = .ok (.invokevirtual 76, 3) := by decide +kernel
theorem dX9_putType_95 : decode cX9_putType 95 = .ok (.istore 4, 2) := by decide +kernel
theorem dX9_putType_97 : decode cX9_putType 97 = .ok (.iload 4, 2) := by decide +kernel
theorem dX9_putType_99 : decode cX9_putType 99 = .ok (.iconst (-1), 1) := by decide +kernel
theorem dX9_putType_100 : decode cX9_putType 100 = .ok (.if_icmp .eq 53, 3) := by decide +kernel
theorem dX9_putType_103 : decode cX9_putType 103 = .ok (.aload_n 0, 1) := by decide +kernel
theorem dX9_putType_104 : decode cX9_putType 104 = .ok (.getfield 15, 3) := by decide +kernel
theorem dX9_putType_107 : decode cX9_putType 107 = .ok (.iload_n 1, 1) := by decide +kernel
theorem dX9_putType_108 : decode cX9_putType 108 = .ok (.invokevirtual 79, 3) := by decide +kernel
theorem dX9_putType_111 : decode cX9_putType 111 = .ok (.iconst 1, 1) := by decide +kernel
theorem dX9_putType_112 : decode cX9_putType 112 = .ok (.iadd, 1) := by decide +kernel
theorem dX9_putType_113 : decode cX9_putType 113 = .ok (.istore 5, 2) := by decide +kernel
theorem dX9_putType_115 : decode cX9_putType 115 = .ok (.aload_n 0, 1) := by decide +kernel
theorem dX9_putType_116 : decode cX9_putType 116 = .ok (.getfield 15, 3) := by decide +kernel
theorem dX9_putType_119 : decode cX9_putType 119 = .ok (.iload 5, 2) := by decide +kernel
theorem dX9_putType_121 : decode cX9_putType 121 = .ok (.aload_n 0, 1) := by decide +kernel
theorem dX9_putType_122 : decode cX9_putType 122 = .ok (.getfield 15, 3) := by decide +kernel
theorem dX9_putType_125 : decode cX9_putType 125 = .ok (.iload_n 1, 1) := by decide +kernel
theorem dX9_putType_126 : decode cX9_putType 126 = .ok (.invokevirtual 82, 3) := by decide +kernel
theorem dX9_putType_129 : decode cX9_putType 129 = .ok (.bipush 104, 2) := by decide +kernel
theorem dX9_putType_131 : decode cX9_putType 131 = .ok (.invokevirtual 85, 3) := by decide +kernel
theorem dX9_putType_134 : decode cX9_putType 134 = .ok (.istore 6, 2) := by decide +kernel
theorem dX9_putType_136 : decode cX9_putType 136 = .ok (.aload_n 0, 1) := by decide +kernel
theorem dX9_putType_137 : decode cX9_putType 137 = .ok (.aload_n 0, 1) := by decide +kernel
theorem dX9_putType_138 : decode cX9_putType 138 = .ok (.getfield 15, 3) := by decide +kernel
theorem dX9_putType_141 : decode cX9_putType 141 = .ok (.iload 4, 2) := by decide +kernel
theorem dX9_putType_143 : decode cX9_putType 143 = .ok (.iconst 0, 1) := by decide +kernel
theorem dX9_putType_144 : decode cX9_putType 144 = .ok (.invokevirtual 89, 3) := by decide +kernel
theorem dX9_putType_147 : decode cX9_putType 147 = .ok (.iload 6, 2) := by decide +kernel
theorem dX9_putType_149 : decode cX9_putType 149 = .ok (.iload_n 2, 1) := by decide +kernel
theorem dX9_putType_150 : decode cX9_putType 150 = .ok (.invokevirtual 92, 3) := by decide +kernel
theorem dX9_putType_153 : decode cX9_putType 153 = .ok (.return_, 1) := by decide +kernel
theorem dX9_putTerm_0 : decode cX9_putTerm 0 = .ok (.aload_n 0, 1) := by decide +kernel
theorem dX9_putTerm_1 : decode cX9_putTerm 1 = .ok (.getfield 42, 3) := by decide +kernel
theorem dX9_putTerm_4 : decode cX9_putTerm 4 = .ok (.ifCond .eq 4, 3) := by decide +kernel
theorem dX9_putTerm_7 : decode cX9_putTerm 7 = .ok (.return_, 1) := by decide +kernel
theorem dX9_putTerm_8 : decode cX9_putTerm 8 = .ok (.aload_n 0, 1) := by decide +kernel
theorem dX9_putTerm_9 : decode cX9_putTerm 9 = .ok (.getfield 15, 3) := by decide +kernel
theorem dX9_putTerm_12 : decode cX9_putTerm 12 = .ok (.iload_n 1, 1) := by decide +kernel
theorem dX9_putTerm_13 : decode cX9_putTerm 13 = .ok (.invokevirtual 57, 3) := by decide +kernel
theorem dX9_putTerm_16 : decode cX9_putTerm 16 = .ok (.lookupswitch 160 #[(49, 36), (80, 98), (83, 43)], 36) := by decide +kernel
theorem dX9_putTerm_52 : decode cX9_putTerm 52 = .ok (.aload_n 0, 1) := by decide +kernel
theorem dX9_putTerm_53 : decode cX9_putTerm 53 = .ok (.bipush 42, 2) := by decide +kernel
theorem dX9_putTerm_55 : decode cX9_putTerm 55 = .ok (.invokevirtual 22, 3) := by decide +kernel
theorem dX9_putTerm_58 : decode cX9_putTerm 58 = .ok (.return_, 1) := by decide +kernel
theorem dX9_putTerm_59 : decode cX9_putTerm 59 = .ok (.aload_n 0, 1) := by decide +kernel
theorem dX9_putTerm_60 : decode cX9_putTerm 60 = .ok (.bipush 44, 2) := by decide +kernel
theorem dX9_putTerm_62 : decode cX9_putTerm 62 = .ok (.invokevirtual 22, 3) := by decide +kernel
theorem dX9_putTerm_65 : decode cX9_putTerm 65 = .ok (.aload_n 0, 1) := by decide +kernel
theorem dX9_putTerm_66 : decode cX9_putTerm 66 = .ok (.getfield 15, 3) := by decide +kernel
theorem dX9_putTerm_69 : decode cX9_putTerm 69 = .ok (.iload_n 2, 1) := by decide +kernel
theorem dX9_putTerm_70 : decode cX9_putTerm 70 = .ok (.invokevirtual 99, 3) := by decide +kernel
theorem dX9_putTerm_73 : decode cX9_putTerm 73 = .ok (.istore 4, 2) := by decide +kernel
theorem dX9_putTerm_75 : decode cX9_putTerm 75 = .ok (.aload_n 0, 1) := by decide +kernel
theorem dX9_putTerm_76 : decode cX9_putTerm 76 = .ok (.aload_n 0, 1) := by decide +kernel
theorem dX9_putTerm_77 : decode cX9_putTerm 77 = .ok (.getfield 15, 3) := by decide +kernel
theorem dX9_putTerm_80 : decode cX9_putTerm 80 = .ok (.iload_n 1, 1) := by decide +kernel
theorem dX9_putTerm_81 : decode cX9_putTerm 81 = .ok (.invokevirtual 62, 3) := by decide +kernel
theorem dX9_putTerm_84 : decode cX9_putTerm 84 = .ok (.iload 4, 2) := by decide +kernel
theorem dX9_putTerm_86 : decode cX9_putTerm 86 = .ok (.iload_n 3, 1) := by decide +kernel
theorem dX9_putTerm_87 : decode cX9_putTerm 87 = .ok (.invokevirtual 92, 3) := by decide +kernel
theorem dX9_putTerm_90 : decode cX9_putTerm 90 = .ok (.aload_n 0, 1) := by decide +kernel
theorem dX9_putTerm_91 : decode cX9_putTerm 91 = .ok (.aload_n 0, 1) := by decide +kernel
theorem dX9_putTerm_92 : decode cX9_putTerm 92 = .ok (.getfield 15, 3) := by decide +kernel
theorem dX9_putTerm_95 : decode cX9_putTerm 95 = .ok (.iload_n 1, 1) := by decide +kernel
theorem dX9_putTerm_96 : decode cX9_putTerm 96 = .ok (.iload 4, 2) := by decide +kernel
theorem dX9_putTerm_98 : decode cX9_putTerm 98 = .ok (.invokevirtual 73, 3) := by decide +kernel
theorem dX9_putTerm_101 : decode cX9_putTerm 101 = .ok (.aload_n 0, 1) := by decide +kernel
theorem dX9_putTerm_102 : decode cX9_putTerm 102 = .ok (.getfield 15, 3) := by decide +kernel
theorem dX9_putTerm_105 : decode cX9_putTerm 105 = .ok (.iload_n 2, 1) := by decide +kernel
theorem dX9_putTerm_106 : decode cX9_putTerm 106 = .ok (.invokevirtual 102, 3) := by decide +kernel
theorem dX9_putTerm_109 : decode cX9_putTerm 109 = .ok (.iload_n 3, 1) := by decide +kernel
theorem dX9_putTerm_110 : decode cX9_putTerm 110 = .ok (.invokevirtual 92, 3) := by decide +kernel
theorem dX9_putTerm_113 : decode cX9_putTerm 113 = .ok (.return_, 1) := by decide +kernel
theorem dX9_putTerm_114 : decode cX9_putTerm 114 = .ok (.aload_n 0, 1) := by decide +kernel
theorem dX9_putTerm_115 : decode cX9_putTerm 115 = .ok (.bipush 92, 2) := by decide +kernel
theorem dX9_putTerm_117 : decode cX9_putTerm 117 = .ok (.invokevirtual 22, 3) := by decide +kernel
theorem dX9_putTerm_120 : decode cX9_putTerm 120 = .ok (.aload_n 0, 1) := by decide +kernel
theorem dX9_putTerm_121 : decode cX9_putTerm 121 = .ok (.aload_n 0, 1) := by decide +kernel
theorem dX9_putTerm_122 : decode cX9_putTerm 122 = .ok (.getfield 15, 3) := by decide +kernel
theorem dX9_putTerm_125 : decode cX9_putTerm 125 = .ok (.iload_n 1, 1) := by decide +kernel
theorem dX9_putTerm_126 : decode cX9_putTerm 126 = .ok (.invokevirtual 62, 3) := by decide +kernel
theorem dX9_putTerm_129 : decode cX9_putTerm 129 = .ok (.iload_n 3, 1) := by decide +kernel
theorem dX9_putTerm_130 : decode cX9_putTerm 130 = .ok (.invokevirtual 69, 3) := by decide +kernel
theorem dX9_putTerm_133 : decode cX9_putTerm 133 = .ok (.istore 5, 2) := by decide +kernel
theorem dX9_putTerm_135 : decode cX9_putTerm 135 = .ok (.aload_n 0, 1) := by decide +kernel
theorem dX9_putTerm_136 : decode cX9_putTerm 136 = .ok (.getfield 42, 3) := by decide +kernel
theorem dX9_putTerm_139 : decode cX9_putTerm 139 = .ok (.ifCond .ne 36, 3) := by decide +kernel
theorem dX9_putTerm_142 : decode cX9_putTerm 142 = .ok (.aload_n 0, 1) := by decide +kernel
theorem dX9_putTerm_143 : decode cX9_putTerm 143 = .ok (.getfield 15, 3) := by decide +kernel
theorem dX9_putTerm_146 : decode cX9_putTerm 146 = .ok (.iload_n 2, 1) := by decide +kernel
theorem dX9_putTerm_147 : decode cX9_putTerm 147 = .ok (.iload 5, 2) := by decide +kernel
theorem dX9_putTerm_149 : decode cX9_putTerm 149 = .ok (.bipush 104, 2) := by decide +kernel
theorem dX9_putTerm_151 : decode cX9_putTerm 151 = .ok (.invokevirtual 105, 3) := by decide +kernel
theorem dX9_putTerm_154 : decode cX9_putTerm 154 = .ok (.istore 6, 2) := by decide +kernel
theorem dX9_putTerm_156 : decode cX9_putTerm 156 = .ok (.aload_n 0, 1) := by decide +kernel
theorem dX9_putTerm_157 : decode cX9_putTerm 157 = .ok (.aload_n 0, 1) := by decide +kernel
theorem dX9_putTerm_158 : decode cX9_putTerm 158 = .ok (.getfield 15, 3) := by decide +kernel
theorem dX9_putTerm_161 : decode cX9_putTerm 161 = .ok (.iload_n 1, 1) := by decide +kernel
theorem dX9_putTerm_162 : decode cX9_putTerm 162 = .ok (.iload 5, 2) := by decide +kernel
theorem dX9_putTerm_164 : decode cX9_putTerm 164 = .ok (.invokevirtual 73, 3) := by decide +kernel
theorem dX9_putTerm_167 : decode cX9_putTerm 167 = .ok (.iload 6, 2) := by decide +kernel
theorem dX9_putTerm_169 : decode cX9_putTerm 169 = .ok (.iload_n 3, 1) := by decide +kernel
theorem dX9_putTerm_170 : decode cX9_putTerm 170 = .ok (.iconst 1, 1) := by decide +kernel
theorem dX9_putTerm_171 : decode cX9_putTerm 171 = .ok (.iadd, 1) := by decide +kernel
theorem dX9_putTerm_172 : decode cX9_putTerm 172 = .ok (.invokevirtual 92, 3) := by decide +kernel
theorem dX9_putTerm_175 : decode cX9_putTerm 175 = .ok (.return_, 1) := by decide +kernel
theorem dX9_putTerm_176 : decode cX9_putTerm 176 = .ok (.aload_n 0, 1) := by decide +kernel
theorem dX9_putTerm_177 : decode cX9_putTerm 177 = .ok (.iload_n 2, 1) := by decide +kernel
theorem dX9_putTerm_178 : decode cX9_putTerm 178 = .ok (.iload_n 3, 1) := by decide +kernel
theorem dX9_putTerm_179 : decode cX9_putTerm 179 = .ok (.invokevirtual 108, 3) := by decide +kernel
theorem dX9_putTerm_182 : decode cX9_putTerm 182 = .ok (.pop, 1) := by decide +kernel
theorem dX9_putTerm_183 : decode cX9_putTerm 183 = .ok (.return_, 1) := by decide +kernel
theorem dX9_putLeft_0 : decode cX9_putLeft 0 = .ok (.aload_n 0, 1) := by decide +kernel
theorem dX9_putLeft_1 : decode cX9_putLeft 1 = .ok (.getfield 42, 3) := by decide +kernel
theorem dX9_putLeft_4 : decode cX9_putLeft 4 = .ok (.ifCond .eq 5, 3) := by decide +kernel
theorem dX9_putLeft_7 : decode cX9_putLeft 7 = .ok (.iconst 0, 1) := by decide +kernel
theorem dX9_putLeft_8 : decode cX9_putLeft 8 = .ok (.ireturn, 1) := by decide +kernel
theorem dX9_putLeft_9 : decode cX9_putLeft 9 = .ok (.aload_n 0, 1) := by decide +kernel
theorem dX9_putLeft_10 : decode cX9_putLeft 10 = .ok (.getfield 15, 3) := by decide +kernel
theorem dX9_putLeft_13 : decode cX9_putLeft 13 = .ok (.iload_n 1, 1) := by decide +kernel
theorem dX9_putLeft_14 : decode cX9_putLeft 14 = .ok (.invokevirtual 79, 3) := by decide +kernel
theorem dX9_putLeft_17 : decode cX9_putLeft 17 = .ok (.istore_n 3, 1) := by decide +kernel
theorem dX9_putLeft_18 : decode cX9_putLeft 18 = .ok (.aload_n 0, 1) := by decide +kernel
theorem dX9_putLeft_19 : decode cX9_putLeft 19 = .ok (.getfield 15, 3) := by decide +kernel
theorem dX9_putLeft_22 : decode cX9_putLeft 22 = .ok (.iload_n 1, 1) := by decide +kernel
theorem dX9_putLeft_23 : decode cX9_putLeft 23 = .ok (.invokevirtual 111, 3) := by decide +kernel
theorem dX9_putLeft_26 : decode cX9_putLeft 26 = .ok (.tableswitch 169 1 5 #[34, 51, 65, 117, 137], 34) := by decide +kernel
theorem dX9_putLeft_60 : decode cX9_putLeft 60 = .ok (.aload_n 0, 1) := by decide +kernel
theorem dX9_putLeft_61 : decode cX9_putLeft 61 = .ok (.bipush 48, 2) := by decide +kernel
theorem dX9_putLeft_63 : decode cX9_putLeft 63 = .ok (.iload_n 3, 1) := by decide +kernel
theorem dX9_putLeft_64 : decode cX9_putLeft 64 = .ok (.iadd, 1) := by decide +kernel
theorem dX9_putLeft_65 : decode cX9_putLeft 65 = .ok (.invokevirtual 22, 3) := by decide +kernel
theorem dX9_putLeft_68 : decode cX9_putLeft 68 = .ok (.aload_n 0, 1) := by decide +kernel
theorem dX9_putLeft_69 : decode cX9_putLeft 69 = .ok (.getfield 15, 3) := by decide +kernel
theorem dX9_putLeft_72 : decode cX9_putLeft 72 = .ok (.iload_n 3, 1) := by decide +kernel
theorem dX9_putLeft_73 : decode cX9_putLeft 73 = .ok (.invokevirtual 114, 3) := by decide +kernel
theorem dX9_putLeft_76 : decode cX9_putLeft 76 = .ok (.ireturn, 1) := by decide +kernel
theorem dX9_putLeft_77 : decode cX9_putLeft 77 = .ok (.aload_n 0, 1) := by decide +kernel
theorem dX9_putLeft_78 : decode cX9_putLeft 78 = .ok (.iload_n 3, 1) := by decide +kernel
theorem dX9_putLeft_79 : decode cX9_putLeft 79 = .ok (.invokevirtual 22, 3) := by decide +kernel
theorem dX9_putLeft_82 : decode cX9_putLeft 82 = .ok (.aload_n 0, 1) := by decide +kernel
theorem dX9_putLeft_83 : decode cX9_putLeft 83 = .ok (.getfield 15, 3) := by decide +kernel
theorem dX9_putLeft_86 : decode cX9_putLeft 86 = .ok (.iload_n 3, 1) := by decide +kernel
theorem dX9_putLeft_87 : decode cX9_putLeft 87 = .ok (.invokevirtual 117, 3) := by decide +kernel
theorem dX9_putLeft_90 : decode cX9_putLeft 90 = .ok (.ireturn, 1) := by decide +kernel
theorem dX9_putLeft_91 : decode cX9_putLeft 91 = .ok (.aload_n 0, 1) := by decide +kernel
theorem dX9_putLeft_92 : decode cX9_putLeft 92 = .ok (.bipush 46, 2) := by decide +kernel
theorem dX9_putLeft_94 : decode cX9_putLeft 94 = .ok (.invokevirtual 22, 3) := by decide +kernel
theorem dX9_putLeft_97 : decode cX9_putLeft 97 = .ok (.aload_n 0, 1) := by decide +kernel
theorem dX9_putLeft_98 : decode cX9_putLeft 98 = .ok (.iload_n 3, 1) := by decide +kernel
theorem dX9_putLeft_99 : decode cX9_putLeft 99 = .ok (.iload_n 2, 1) := by decide +kernel
theorem dX9_putLeft_100 : decode cX9_putLeft 100 = .ok (.invokevirtual 108, 3) := by decide +kernel
theorem dX9_putLeft_103 : decode cX9_putLeft 103 = .ok (.istore 4, 2) := by decide +kernel
theorem dX9_putLeft_105 : decode cX9_putLeft 105 = .ok (.aload_n 0, 1) := by decide +kernel
theorem dX9_putLeft_106 : decode cX9_putLeft 106 = .ok (.getfield 15, 3) := by decide +kernel
theorem dX9_putLeft_109 : decode cX9_putLeft 109 = .ok (.iload_n 1, 1) := by decide +kernel
theorem dX9_putLeft_110 : decode cX9_putLeft 110 = .ok (.invokevirtual 82, 3) := by decide +kernel
theorem dX9_putLeft_113 : decode cX9_putLeft 113 = .ok (.istore 5, 2) := by decide +kernel
theorem dX9_putLeft_115 : decode cX9_putLeft 115 = .ok (.aload_n 0, 1) := by decide +kernel
theorem dX9_putLeft_116 : decode cX9_putLeft 116 = .ok (.aload_n 0, 1) := by decide +kernel
theorem dX9_putLeft_117 : decode cX9_putLeft 117 = .ok (.getfield 15, 3) := by decide +kernel
theorem dX9_putLeft_120 : decode cX9_putLeft 120 = .ok (.iload 4, 2) := by decide +kernel
theorem dX9_putLeft_122 : decode cX9_putLeft 122 = .ok (.invokevirtual 62, 3) := by decide +kernel
theorem dX9_putLeft_125 : decode cX9_putLeft 125 = .ok (.iload 5, 2) := by decide +kernel
theorem dX9_putLeft_127 : decode cX9_putLeft 127 = .ok (.iload_n 2, 1) := by decide +kernel
theorem dX9_putLeft_128 : decode cX9_putLeft 128 = .ok (.invokevirtual 92, 3) := by decide +kernel
theorem dX9_putLeft_131 : decode cX9_putLeft 131 = .ok (.aload_n 0, 1) := by decide +kernel
theorem dX9_putLeft_132 : decode cX9_putLeft 132 = .ok (.getfield 15, 3) := by decide +kernel
theorem dX9_putLeft_135 : decode cX9_putLeft 135 = .ok (.iload 4, 2) := by decide +kernel
theorem dX9_putLeft_137 : decode cX9_putLeft 137 = .ok (.iload 5, 2) := by decide +kernel
theorem dX9_putLeft_139 : decode cX9_putLeft 139 = .ok (.invokevirtual 73, 3) := by decide +kernel
theorem dX9_putLeft_142 : decode cX9_putLeft 142 = .ok (.ireturn, 1) := by decide +kernel
theorem dX9_putLeft_143 : decode cX9_putLeft 143 = .ok (.aload_n 0, 1) := by decide +kernel
theorem dX9_putLeft_144 : decode cX9_putLeft 144 = .ok (.bipush 60, 2) := by decide +kernel
theorem dX9_putLeft_146 : decode cX9_putLeft 146 = .ok (.invokevirtual 22, 3) := by decide +kernel
theorem dX9_putLeft_149 : decode cX9_putLeft 149 = .ok (.aload_n 0, 1) := by decide +kernel
theorem dX9_putLeft_150 : decode cX9_putLeft 150 = .ok (.getfield 15, 3) := by decide +kernel
theorem dX9_putLeft_153 : decode cX9_putLeft 153 = .ok (.aload_n 0, 1) := by decide +kernel
theorem dX9_putLeft_154 : decode cX9_putLeft 154 = .ok (.iload_n 3, 1) := by decide +kernel
theorem dX9_putLeft_155 : decode cX9_putLeft 155 = .ok (.iload_n 2, 1) := by decide +kernel
theorem dX9_putLeft_156 : decode cX9_putLeft 156 = .ok (.invokevirtual 108, 3) := by decide +kernel
theorem dX9_putLeft_159 : decode cX9_putLeft 159 = .ok (.invokevirtual 62, 3) := by decide +kernel
theorem dX9_putLeft_162 : decode cX9_putLeft 162 = .ok (.ireturn, 1) := by decide +kernel
theorem dX9_putLeft_163 : decode cX9_putLeft 163 = .ok (.aload_n 0, 1) := by decide +kernel
theorem dX9_putLeft_164 : decode cX9_putLeft 164 = .ok (.bipush 62, 2) := by decide +kernel
theorem dX9_putLeft_166 : decode cX9_putLeft 166 = .ok (.invokevirtual 22, 3) := by decide +kernel
theorem dX9_putLeft_169 : decode cX9_putLeft 169 = .ok (.aload_n 0, 1) := by decide +kernel
theorem dX9_putLeft_170 : decode cX9_putLeft 170 = .ok (.iload_n 3, 1) := by decide +kernel
theorem dX9_putLeft_171 : decode cX9_putLeft 171 = .ok (.iload_n 2, 1) := by decide +kernel
theorem dX9_putLeft_172 : decode cX9_putLeft 172 = .ok (.invokevirtual 108, 3) := by decide +kernel
theorem dX9_putLeft_175 : decode cX9_putLeft 175 = .ok (.istore 6, 2) := by decide +kernel
theorem dX9_putLeft_177 : decode cX9_putLeft 177 = .ok (.aload_n 0, 1) := by decide +kernel
theorem dX9_putLeft_178 : decode cX9_putLeft 178 = .ok (.getfield 15, 3) := by decide +kernel
theorem dX9_putLeft_181 : decode cX9_putLeft 181 = .ok (.iload 6, 2) := by decide +kernel
theorem dX9_putLeft_183 : decode cX9_putLeft 183 = .ok (.aload_n 0, 1) := by decide +kernel
theorem dX9_putLeft_184 : decode cX9_putLeft 184 = .ok (.getfield 15, 3) := by decide +kernel
theorem dX9_putLeft_187 : decode cX9_putLeft 187 = .ok (.iload_n 3, 1) := by decide +kernel
theorem dX9_putLeft_188 : decode cX9_putLeft 188 = .ok (.invokevirtual 99, 3) := by decide +kernel
theorem dX9_putLeft_191 : decode cX9_putLeft 191 = .ok (.invokevirtual 73, 3) := by decide +kernel
theorem dX9_putLeft_194 : decode cX9_putLeft 194 = .ok (.ireturn, 1) := by decide +kernel
theorem dX9_putLeft_195 : decode cX9_putLeft 195 = .ok (.aload_n 0, 1) := by decide +kernel
theorem dX9_putLeft_196 : decode cX9_putLeft 196 = .ok (.iconst 1, 1) := by decide +kernel
theorem dX9_putLeft_197 : decode cX9_putLeft 197 = .ok (.putfield 42, 3) := by decide +kernel
theorem dX9_putLeft_200 : decode cX9_putLeft 200 = .ok (.iconst 0, 1) := by decide +kernel
theorem dX9_putLeft_201 : decode cX9_putLeft 201 = .ok (.ireturn, 1) := by decide +kernel
theorem dX7_equal_0 : decode cX7_equal 0 = .ok (.aload_n 0, 1) := by decide +kernel
theorem dX7_equal_1 : decode cX7_equal 1 = .ok (.iload_n 1, 1) := by decide +kernel
theorem dX7_equal_2 : decode cX7_equal 2 = .ok (.invokevirtual 69, 3) := by decide +kernel
theorem dX7_equal_5 : decode cX7_equal 5 = .ok (.istore_n 3, 1) := by decide +kernel
theorem dX7_equal_6 : decode cX7_equal 6 = .ok (.iload_n 3, 1) := by decide +kernel
theorem dX7_equal_7 : decode cX7_equal 7 = .ok (.iload_n 1, 1) := by decide +kernel
theorem dX7_equal_8 : decode cX7_equal 8 = .ok (.isub, 1) := by decide +kernel
theorem dX7_equal_9 : decode cX7_equal 9 = .ok (.aload_n 0, 1) := by decide +kernel
theorem dX7_equal_10 : decode cX7_equal 10 = .ok (.iload_n 2, 1) := by decide +kernel
theorem dX7_equal_11 : decode cX7_equal 11 = .ok (.invokevirtual 69, 3) := by decide +kernel
theorem dX7_equal_14 : decode cX7_equal 14 = .ok (.iload_n 2, 1) := by decide +kernel
theorem dX7_equal_15 : decode cX7_equal 15 = .ok (.isub, 1) := by decide +kernel
theorem dX7_equal_16 : decode cX7_equal 16 = .ok (.if_icmp .eq 5, 3) := by decide +kernel
theorem dX7_equal_19 : decode cX7_equal 19 = .ok (.iconst 0, 1) := by decide +kernel
theorem dX7_equal_20 : decode cX7_equal 20 = .ok (.ireturn, 1) := by decide +kernel
theorem dX7_equal_21 : decode cX7_equal 21 = .ok (.iconst 0, 1) := by decide +kernel
theorem dX7_equal_22 : decode cX7_equal 22 = .ok (.istore 4, 2) := by decide +kernel
theorem dX7_equal_24 : decode cX7_equal 24 = .ok (.iload_n 1, 1) := by decide +kernel
theorem dX7_equal_25 : decode cX7_equal 25 = .ok (.iload 4, 2) := by decide +kernel
theorem dX7_equal_27 : decode cX7_equal 27 = .ok (.iadd, 1) := by decide +kernel
theorem dX7_equal_28 : decode cX7_equal 28 = .ok (.iload_n 3, 1) := by decide +kernel
theorem dX7_equal_29 : decode cX7_equal 29 = .ok (.if_icmp .ge 30, 3) := by decide +kernel
theorem dX7_equal_32 : decode cX7_equal 32 = .ok (.aload_n 0, 1) := by decide +kernel
theorem dX7_equal_33 : decode cX7_equal 33 = .ok (.iload_n 1, 1) := by decide +kernel
theorem dX7_equal_34 : decode cX7_equal 34 = .ok (.iload 4, 2) := by decide +kernel
theorem dX7_equal_36 : decode cX7_equal 36 = .ok (.iadd, 1) := by decide +kernel
theorem dX7_equal_37 : decode cX7_equal 37 = .ok (.invokevirtual 62, 3) := by decide +kernel
theorem dX7_equal_40 : decode cX7_equal 40 = .ok (.aload_n 0, 1) := by decide +kernel
theorem dX7_equal_41 : decode cX7_equal 41 = .ok (.iload_n 2, 1) := by decide +kernel
theorem dX7_equal_42 : decode cX7_equal 42 = .ok (.iload 4, 2) := by decide +kernel
theorem dX7_equal_44 : decode cX7_equal 44 = .ok (.iadd, 1) := by decide +kernel
theorem dX7_equal_45 : decode cX7_equal 45 = .ok (.invokevirtual 62, 3) := by decide +kernel
theorem dX7_equal_48 : decode cX7_equal 48 = .ok (.if_icmp .eq 5, 3) := by decide +kernel
theorem dX7_equal_51 : decode cX7_equal 51 = .ok (.iconst 0, 1) := by decide +kernel
theorem dX7_equal_52 : decode cX7_equal 52 = .ok (.ireturn, 1) := by decide +kernel
theorem dX7_equal_53 : decode cX7_equal 53 = .ok (.iinc 4 1, 3) := by decide +kernel
theorem dX7_equal_56 : decode cX7_equal 56 = .ok (.goto (-32), 3) := by decide +kernel
theorem dX7_equal_59 : decode cX7_equal 59 = .ok (.iconst 1, 1) := by decide +kernel
theorem dX7_equal_60 : decode cX7_equal 60 = .ok (.ireturn, 1) := by decide +kernel
set_option maxHeartbeats 4000000 in
set_option maxRecDepth 20000 in
theorem b_Writer_putType_86 {p : Program} {l : Launch} {e : Env} {s : State} {m : MethodId} {args : Array Value} {below : List Frame} {meth : Method} {c : Code} {D : va_G} {cy : Nat → ClassId} {ad : Nat → Nat} {q : Int32 × CS}  {r_putType : Int32 → Int32 → CS → Option (Int32 × CS)} {r_putTerm : Int32 → Int32 → Int32 → CS → Option (Int32 × CS)} {r_putLeft : Int32 → Int32 → CS → Option (Int32 × CS)} {d : Nat} (C : vC p s m args meth c cX9_putType 7 none RX9 D (cyT cy)) (hA : adOK ad) (hr_putType : ∀ (z1 : Int32) (z2 : Int32) (σ : CS) (q : Int32 × CS), r_putType z1 z2 σ = some q → MV l D (cyT cy) (inC ad) yX9_putType cX9_putType 7 none (223 + d) (8874 + 40 * d) 0 0 [.ref (ad 44), .int z1, .int z2] (wc cy ad σ) none (wc cy ad q.2)) (hr_putTerm : ∀ (z1 : Int32) (z2 : Int32) (z3 : Int32) (σ : CS) (q : Int32 × CS), r_putTerm z1 z2 z3 σ = some q → MV l D (cyT cy) (inC ad) yX9_putTerm cX9_putTerm 7 none (223 + d) (8874 + 40 * d) 0 0 [.ref (ad 44), .int z1, .int z2, .int z3] (wc cy ad σ) none (wc cy ad q.2)) (hr_putLeft : ∀ (z1 : Int32) (z2 : Int32) (σ : CS) (q : Int32 × CS), r_putLeft z1 z2 σ = some q → MV l D (cyT cy) (inC ad) yX9_putLeft cX9_putLeft 7 (some .int) (223 + d) (8874 + 40 * d) 0 0 [.ref (ad 44), .int z1, .int z2] (wc cy ad σ) (some (.int q.1)) (wc cy ad q.2)) : ∀ (σ : CS), B_Writer_putType_86 r_putType r_putTerm r_putLeft σ = some q → V p l e { frames := 223 + (d + 1), cells := 0, slots := 0, locals := 8874 + 40 * (d + 1) } s m args below meth c D (inC ad) 7 (MQ below (vQ D (inC ad) none (wc cy ad q.2)) args s 0 0 (inC ad)) 0 0 (wc cy ad σ) 86 [(0, .ref (ad 44))] [] := by
  intro σ h
  rw [B_Writer_putType_86] at h
  obtain rfl := Option.some.inj h
  exact v_vret C dX9_putType_86
set_option maxHeartbeats 4000000 in
set_option maxRecDepth 20000 in
theorem b_Writer_putType_153 {p : Program} {l : Launch} {e : Env} {s : State} {m : MethodId} {args : Array Value} {below : List Frame} {meth : Method} {c : Code} {D : va_G} {cy : Nat → ClassId} {ad : Nat → Nat} {q : Int32 × CS}  {r_putType : Int32 → Int32 → CS → Option (Int32 × CS)} {r_putTerm : Int32 → Int32 → Int32 → CS → Option (Int32 × CS)} {r_putLeft : Int32 → Int32 → CS → Option (Int32 × CS)} {d : Nat} (C : vC p s m args meth c cX9_putType 7 none RX9 D (cyT cy)) (hA : adOK ad) (hr_putType : ∀ (z1 : Int32) (z2 : Int32) (σ : CS) (q : Int32 × CS), r_putType z1 z2 σ = some q → MV l D (cyT cy) (inC ad) yX9_putType cX9_putType 7 none (223 + d) (8874 + 40 * d) 0 0 [.ref (ad 44), .int z1, .int z2] (wc cy ad σ) none (wc cy ad q.2)) (hr_putTerm : ∀ (z1 : Int32) (z2 : Int32) (z3 : Int32) (σ : CS) (q : Int32 × CS), r_putTerm z1 z2 z3 σ = some q → MV l D (cyT cy) (inC ad) yX9_putTerm cX9_putTerm 7 none (223 + d) (8874 + 40 * d) 0 0 [.ref (ad 44), .int z1, .int z2, .int z3] (wc cy ad σ) none (wc cy ad q.2)) (hr_putLeft : ∀ (z1 : Int32) (z2 : Int32) (σ : CS) (q : Int32 × CS), r_putLeft z1 z2 σ = some q → MV l D (cyT cy) (inC ad) yX9_putLeft cX9_putLeft 7 (some .int) (223 + d) (8874 + 40 * d) 0 0 [.ref (ad 44), .int z1, .int z2] (wc cy ad σ) (some (.int q.1)) (wc cy ad q.2)) : ∀ (σ : CS), B_Writer_putType_153 r_putType r_putTerm r_putLeft σ = some q → V p l e { frames := 223 + (d + 1), cells := 0, slots := 0, locals := 8874 + 40 * (d + 1) } s m args below meth c D (inC ad) 7 (MQ below (vQ D (inC ad) none (wc cy ad q.2)) args s 0 0 (inC ad)) 0 0 (wc cy ad σ) 153 [(0, .ref (ad 44))] [] := by
  intro σ h
  rw [B_Writer_putType_153] at h
  obtain rfl := Option.some.inj h
  exact v_vret C dX9_putType_153
set_option maxHeartbeats 4000000 in
set_option maxRecDepth 20000 in
theorem b_Writer_putType_34 {p : Program} {l : Launch} {e : Env} {s : State} {m : MethodId} {args : Array Value} {below : List Frame} {meth : Method} {c : Code} {D : va_G} {cy : Nat → ClassId} {ad : Nat → Nat} {q : Int32 × CS}  {r_putType : Int32 → Int32 → CS → Option (Int32 × CS)} {r_putTerm : Int32 → Int32 → Int32 → CS → Option (Int32 × CS)} {r_putLeft : Int32 → Int32 → CS → Option (Int32 × CS)} {d : Nat} (C : vC p s m args meth c cX9_putType 7 none RX9 D (cyT cy)) (hA : adOK ad) (hr_putType : ∀ (z1 : Int32) (z2 : Int32) (σ : CS) (q : Int32 × CS), r_putType z1 z2 σ = some q → MV l D (cyT cy) (inC ad) yX9_putType cX9_putType 7 none (223 + d) (8874 + 40 * d) 0 0 [.ref (ad 44), .int z1, .int z2] (wc cy ad σ) none (wc cy ad q.2)) (hr_putTerm : ∀ (z1 : Int32) (z2 : Int32) (z3 : Int32) (σ : CS) (q : Int32 × CS), r_putTerm z1 z2 z3 σ = some q → MV l D (cyT cy) (inC ad) yX9_putTerm cX9_putTerm 7 none (223 + d) (8874 + 40 * d) 0 0 [.ref (ad 44), .int z1, .int z2, .int z3] (wc cy ad σ) none (wc cy ad q.2)) (hr_putLeft : ∀ (z1 : Int32) (z2 : Int32) (σ : CS) (q : Int32 × CS), r_putLeft z1 z2 σ = some q → MV l D (cyT cy) (inC ad) yX9_putLeft cX9_putLeft 7 (some .int) (223 + d) (8874 + 40 * d) 0 0 [.ref (ad 44), .int z1, .int z2] (wc cy ad σ) (some (.int q.1)) (wc cy ad q.2)) : ∀ (x1 : Int32) (x2 : Int32) (σ : CS), B_Writer_putType_34 r_putType r_putTerm r_putLeft x1 x2 σ = some q → V p l e { frames := 223 + (d + 1), cells := 0, slots := 0, locals := 8874 + 40 * (d + 1) } s m args below meth c D (inC ad) 7 (MQ below (vQ D (inC ad) none (wc cy ad q.2)) args s 0 0 (inC ad)) 0 0 (wc cy ad σ) 34 [(0, .ref (ad 44)), (1, .int x1), (2, .int x2)] [] := by
  intro x1 x2 σ h
  rw [B_Writer_putType_34] at h
  refine v_aload_n C 0 dX9_putType_34 rfl rfl ?_
  refine v_aload_n C 0 dX9_putType_35 rfl rfl ?_
  refine c_getS C 38 fl_9_15 rfl rfl (by decide) (okS _ 44 (by decide) rfl) dX9_putType_36 ?_
  refine v_iload_n C 1 dX9_putType_39 rfl rfl ?_
  obtain ⟨q1, hq1, h⟩ := bd_of h
  refine c_call C [.int x1] [.ref (ad 44)] (c_Values_firstType hA _ _ hq1) hY_Values_firstType rfl (by decide) (okS _ 38 (by decide) rfl) ml_9_62 ⟨(by omega : 2 + 1 ≤ 223 + (d + 1)), (by omega : 8 + (2 + 11) + 45 ≤ 8874 + 40 * (d + 1))⟩ ⟨Nat.zero_le _, Nat.zero_le _⟩ rfl rfl (Nat.le_of_ble_eq_true rfl) dX9_putType_40 (wc_D hA cy _) ?_
  refine v_iload_n C 2 dX9_putType_43 rfl rfl ?_
  obtain ⟨q2, hq2, h⟩ := bd_of h
  refine c_call C [.int q1.1, .int x2] [] (hr_putType _ _ _ _ hq2) hY_Writer_putType rfl (by decide) (okS _ 44 (by decide) rfl) ml_9_65 ⟨(by omega : (223 + d) + 1 ≤ 223 + (d + 1)), (by omega : 8 + (7 + 11) + (8874 + 40 * d) ≤ 8874 + 40 * (d + 1))⟩ ⟨Nat.zero_le _, Nat.zero_le _⟩ rfl rfl (Nat.le_of_ble_eq_true rfl) dX9_putType_44 (wc_D hA cy _) ?_
  refine v_aload_n C 0 dX9_putType_47 rfl rfl ?_
  refine v_aload_n C 0 dX9_putType_48 rfl rfl ?_
  refine c_getS C 38 fl_9_15 rfl rfl (by decide) (okS _ 44 (by decide) rfl) dX9_putType_49 ?_
  refine v_iload_n C 1 dX9_putType_52 rfl rfl ?_
  obtain ⟨q3, hq3, h⟩ := bd_of h
  refine c_call C [.int x1] [.ref (ad 44)] (c_Values_firstType hA _ _ hq3) hY_Values_firstType rfl (by decide) (okS _ 38 (by decide) rfl) ml_9_62 ⟨(by omega : 2 + 1 ≤ 223 + (d + 1)), (by omega : 8 + (2 + 11) + 45 ≤ 8874 + 40 * (d + 1))⟩ ⟨Nat.zero_le _, Nat.zero_le _⟩ rfl rfl (Nat.le_of_ble_eq_true rfl) dX9_putType_53 (wc_D hA cy _) ?_
  refine v_iload_n C 2 dX9_putType_56 rfl rfl ?_
  obtain ⟨q4, hq4, h⟩ := bd_of h
  refine c_call C [.int q3.1, .int x2] [] (c_Writer_bound hA _ _ _ hq4) hY_Writer_bound rfl (by decide) (okS _ 44 (by decide) rfl) ml_9_69 ⟨(by omega : 2 + 1 ≤ 223 + (d + 1)), (by omega : 8 + (3 + 11) + 45 ≤ 8874 + 40 * (d + 1))⟩ ⟨Nat.zero_le _, Nat.zero_le _⟩ rfl rfl (Nat.le_of_ble_eq_true rfl) dX9_putType_57 (wc_D hA cy _) ?_
  refine v_istore C [(4, .int q4.1), (0, .ref (ad 44)), (1, .int x1), (2, .int x2)] dX9_putType_60 (by decide) rfl ?_
  refine v_aload_n C 1 dX9_putType_62 rfl rfl ?_
  refine c_getI C fl_9_42 rfl (okS _ 44 (by decide) rfl) dX9_putType_63 ?_
  refine v_if_ne C 86 dX9_putType_66 (by decide) (fun c1 => ?_) (fun c1 => ?_)
  · rw [if_neg c1] at h
    exact v_sub [1] rfl ((b_Writer_putType_86 C hA hr_putType hr_putTerm hr_putLeft) _ h)
  · rw [if_pos c1] at h
    refine v_aload_n C 1 dX9_putType_69 rfl rfl ?_
    refine v_aload_n C 1 dX9_putType_70 rfl rfl ?_
    refine c_getS C 38 fl_9_15 rfl rfl (by decide) (okS _ 44 (by decide) rfl) dX9_putType_71 ?_
    refine v_iload_n C 2 dX9_putType_74 rfl rfl ?_
    refine v_iload C 0 dX9_putType_75 rfl ?_
    obtain ⟨q5, hq5, h⟩ := bd_of h
    refine c_call C [.int x1, .int q4.1] [.ref (ad 44)] (c_Values_secondType hA _ _ _ hq5) hY_Values_secondType rfl (by decide) (okS _ 38 (by decide) rfl) ml_9_73 ⟨(by omega : 2 + 1 ≤ 223 + (d + 1)), (by omega : 8 + (4 + 11) + 45 ≤ 8874 + 40 * (d + 1))⟩ ⟨Nat.zero_le _, Nat.zero_le _⟩ rfl rfl (Nat.le_of_ble_eq_true rfl) dX9_putType_77 (wc_D hA cy _) ?_
    refine v_iload_n C 3 dX9_putType_80 rfl rfl ?_
    refine v_iconst C 1 dX9_putType_81 (by decide) ?_
    refine v_iadd C dX9_putType_82 ?_
    obtain ⟨q6, hq6, h⟩ := bd_of h
    refine c_call C [.int q5.1, .int (x2 + 1)] [] (hr_putType _ _ _ _ hq6) hY_Writer_putType rfl (by decide) (okS _ 44 (by decide) rfl) ml_9_65 ⟨(by omega : (223 + d) + 1 ≤ 223 + (d + 1)), (by omega : 8 + (7 + 11) + (8874 + 40 * d) ≤ 8874 + 40 * (d + 1))⟩ ⟨Nat.zero_le _, Nat.zero_le _⟩ rfl rfl (Nat.le_of_ble_eq_true rfl) dX9_putType_83 (wc_D hA cy _) ?_
    exact v_sub [1] rfl ((b_Writer_putType_86 C hA hr_putType hr_putTerm hr_putLeft) _ h)
set_option maxHeartbeats 4000000 in
set_option maxRecDepth 20000 in
theorem w_Writer_putType {l : Launch} {D : va_G} {cy : Nat → ClassId} {ad : Nat → Nat} {q : Int32 × CS} {r_putType : Int32 → Int32 → CS → Option (Int32 × CS)} {r_putTerm : Int32 → Int32 → Int32 → CS → Option (Int32 × CS)} {r_putLeft : Int32 → Int32 → CS → Option (Int32 × CS)} {d : Nat} (hA : adOK ad) (hr_putType : ∀ (z1 : Int32) (z2 : Int32) (σ : CS) (q : Int32 × CS), r_putType z1 z2 σ = some q → MV l D (cyT cy) (inC ad) yX9_putType cX9_putType 7 none (223 + d) (8874 + 40 * d) 0 0 [.ref (ad 44), .int z1, .int z2] (wc cy ad σ) none (wc cy ad q.2)) (hr_putTerm : ∀ (z1 : Int32) (z2 : Int32) (z3 : Int32) (σ : CS) (q : Int32 × CS), r_putTerm z1 z2 z3 σ = some q → MV l D (cyT cy) (inC ad) yX9_putTerm cX9_putTerm 7 none (223 + d) (8874 + 40 * d) 0 0 [.ref (ad 44), .int z1, .int z2, .int z3] (wc cy ad σ) none (wc cy ad q.2)) (hr_putLeft : ∀ (z1 : Int32) (z2 : Int32) (σ : CS) (q : Int32 × CS), r_putLeft z1 z2 σ = some q → MV l D (cyT cy) (inC ad) yX9_putLeft cX9_putLeft 7 (some .int) (223 + d) (8874 + 40 * d) 0 0 [.ref (ad 44), .int z1, .int z2] (wc cy ad σ) (some (.int q.1)) (wc cy ad q.2)) (x1 : Int32) (x2 : Int32) (σ : CS) (h : F_Writer_putType r_putType r_putTerm r_putLeft x1 x2 σ = some q) : MV l D (cyT cy) (inC ad) yX9_putType cX9_putType 7 none (223 + (d + 1)) (8874 + 40 * (d + 1)) 0 0 [.ref (ad 44), .int x1, .int x2] (wc cy ad σ) none (wc cy ad q.2) := by
  refine MV.of (by decide) (wc_D hA cy σ) (Nat.le_of_ble_eq_true rfl) [(0, .ref (ad 44)), (1, .int x1), (2, .int x2)] rfl ?_
  intro p e s m args below meth c C
  rw [F_Writer_putType] at h
  refine v_aload_n C 0 dX9_putType_0 rfl rfl ?_
  refine c_getS C 38 fl_9_15 rfl rfl (by decide) (okS _ 44 (by decide) rfl) dX9_putType_1 ?_
  refine v_iload_n C 1 dX9_putType_4 rfl rfl ?_
  obtain ⟨q1, hq1, h⟩ := bd_of h
  refine c_call C [.int x1] [] (c_Values_formOf hA _ _ hq1) hY_Values_formOf rfl (by decide) (okS _ 38 (by decide) rfl) ml_9_57 ⟨(by omega : 1 + 1 ≤ 223 + (d + 1)), (by omega : 8 + (2 + 11) + 21 ≤ 8874 + 40 * (d + 1))⟩ ⟨Nat.zero_le _, Nat.zero_le _⟩ rfl rfl (Nat.le_of_ble_eq_true rfl) dX9_putType_5 (wc_D hA cy _) ?_
  refine v_istore_n C [(3, .int q1.1), (0, .ref (ad 44)), (1, .int x1), (2, .int x2)] dX9_putType_8 rfl (by decide) rfl ?_
  refine v_aload_n C 1 dX9_putType_9 rfl rfl ?_
  refine v_iload_n C 0 dX9_putType_10 rfl rfl ?_
  obtain ⟨q2, hq2, h⟩ := bd_of h
  refine c_call C [.int q1.1] [] (c_Writer_put hA _ _ hq2) hY_Writer_put rfl (by decide) (okS _ 44 (by decide) rfl) ml_9_22 ⟨(by omega : 1 + 1 ≤ 223 + (d + 1)), (by omega : 8 + (2 + 11) + 21 ≤ 8874 + 40 * (d + 1))⟩ ⟨Nat.zero_le _, Nat.zero_le _⟩ rfl rfl (Nat.le_of_ble_eq_true rfl) dX9_putType_11 (wc_D hA cy _) ?_
  refine v_aload_n C 1 dX9_putType_14 rfl rfl ?_
  refine c_getI C fl_9_42 rfl (okS _ 44 (by decide) rfl) dX9_putType_15 ?_
  refine v_if_eq C 22 dX9_putType_18 (by decide) (fun c1 => ?_) (fun c1 => ?_)
  · rw [if_pos c1] at h
    refine v_iload_n C 0 dX9_putType_22 rfl rfl ?_
    refine v_bipush C 83 dX9_putType_23 (by decide) ?_
    refine v_icmp_eq C 34 dX9_putType_25 (by decide) (fun c2 => ?_) (fun c2 => ?_)
    · rw [if_pos c2] at h
      exact v_sub [1, 2, 3] rfl ((b_Writer_putType_34 C hA hr_putType hr_putTerm hr_putLeft) _ _ _ h)
    · rw [if_neg c2] at h
      refine v_iload_n C 0 dX9_putType_28 rfl rfl ?_
      refine v_bipush C 80 dX9_putType_29 (by decide) ?_
      refine v_icmp_ne C 87 dX9_putType_31 (by decide) (fun c3 => ?_) (fun c3 => ?_)
      · rw [if_neg c3] at h
        refine v_aload_n C 1 dX9_putType_87 rfl rfl ?_
        refine c_getS C 34 fl_9_9 rfl rfl (by decide) (okS _ 44 (by decide) rfl) dX9_putType_88 ?_
        refine v_iload_n C 0 dX9_putType_91 rfl rfl ?_
        obtain ⟨q3, hq3, h⟩ := bd_of h
        refine c_call C [.int q1.1] [] (c_Signs_indexTypeOf hA _ _ hq3) hY_Signs_indexTypeOf rfl (by decide) (okS _ 34 (by decide) rfl) ml_9_76 ⟨(by omega : 0 + 1 ≤ 223 + (d + 1)), (by omega : 8 + (3 + 11) + 0 ≤ 8874 + 40 * (d + 1))⟩ ⟨Nat.zero_le _, Nat.zero_le _⟩ rfl rfl (Nat.le_of_ble_eq_true rfl) dX9_putType_92 (wc_D hA cy _) ?_
        refine v_istore C [(4, .int q3.1), (3, .int q1.1), (0, .ref (ad 44)), (1, .int x1), (2, .int x2)] dX9_putType_95 (by decide) rfl ?_
        refine v_iload C 0 dX9_putType_97 rfl ?_
        refine v_iconst C (-1) dX9_putType_99 (by decide) ?_
        refine v_icmp_eq C 153 dX9_putType_100 (by decide) (fun c4 => ?_) (fun c4 => ?_)
        · rw [if_pos c4] at h
          exact v_sub [2] rfl ((b_Writer_putType_153 C hA hr_putType hr_putTerm hr_putLeft) _ h)
        · rw [if_neg c4] at h
          refine v_aload_n C 2 dX9_putType_103 rfl rfl ?_
          refine c_getS C 38 fl_9_15 rfl rfl (by decide) (okS _ 44 (by decide) rfl) dX9_putType_104 ?_
          refine v_iload_n C 3 dX9_putType_107 rfl rfl ?_
          obtain ⟨q4, hq4, h⟩ := bd_of h
          refine c_call C [.int x1] [] (c_Values_leftOf hA _ _ hq4) hY_Values_leftOf rfl (by decide) (okS _ 38 (by decide) rfl) ml_9_79 ⟨(by omega : 0 + 1 ≤ 223 + (d + 1)), (by omega : 8 + (2 + 11) + 0 ≤ 8874 + 40 * (d + 1))⟩ ⟨Nat.zero_le _, Nat.zero_le _⟩ rfl rfl (Nat.le_of_ble_eq_true rfl) dX9_putType_108 (wc_D hA cy _) ?_
          refine v_iconst C 1 dX9_putType_111 (by decide) ?_
          refine v_iadd C dX9_putType_112 ?_
          refine v_istore C [(5, .int (q4.1 + 1)), (4, .int q3.1), (3, .int q1.1), (0, .ref (ad 44)), (1, .int x1), (2, .int x2)] dX9_putType_113 (by decide) rfl ?_
          refine v_aload_n C 3 dX9_putType_115 rfl rfl ?_
          refine c_getS C 38 fl_9_15 rfl rfl (by decide) (okS _ 44 (by decide) rfl) dX9_putType_116 ?_
          refine v_iload C 0 dX9_putType_119 rfl ?_
          refine v_aload_n C 3 dX9_putType_121 rfl rfl ?_
          refine c_getS C 38 fl_9_15 rfl rfl (by decide) (okS _ 44 (by decide) rfl) dX9_putType_122 ?_
          refine v_iload_n C 4 dX9_putType_125 rfl rfl ?_
          obtain ⟨q5, hq5, h⟩ := bd_of h
          refine c_call C [.int x1] [.int (q4.1 + 1), .ref (ad 38)] (c_Values_rightOf hA _ _ hq5) hY_Values_rightOf rfl (by decide) (okS _ 38 (by decide) rfl) ml_9_82 ⟨(by omega : 0 + 1 ≤ 223 + (d + 1)), (by omega : 8 + (2 + 11) + 0 ≤ 8874 + 40 * (d + 1))⟩ ⟨Nat.zero_le _, Nat.zero_le _⟩ rfl rfl (Nat.le_of_ble_eq_true rfl) dX9_putType_126 (wc_D hA cy _) ?_
          refine v_bipush C 104 dX9_putType_129 (by decide) ?_
          obtain ⟨q6, hq6, h⟩ := bd_of h
          refine c_callN C [.int (q4.1 + 1), .int q5.1, .int 104] [] (c_Values_evaluate hA _ _ _ _ hq6) hY_Values_evaluate rfl (by decide) (okS _ 38 (by decide) rfl) ml_9_85 ⟨(by omega : 222 + 1 ≤ 223 + (d + 1)), (by omega : 8 + (9 + 11) + 8846 ≤ 8874 + 40 * (d + 1))⟩ ⟨Nat.zero_le _, Nat.zero_le _⟩ rfl rfl (Nat.le_of_ble_eq_true rfl) dX9_putType_131 (wc_D hA cy _) ?_
          refine v_istore C [(6, .int q6.1), (5, .int (q4.1 + 1)), (4, .int q3.1), (3, .int q1.1), (0, .ref (ad 44)), (1, .int x1), (2, .int x2)] dX9_putType_134 (by decide) rfl ?_
          refine v_aload_n C 4 dX9_putType_136 rfl rfl ?_
          refine v_aload_n C 4 dX9_putType_137 rfl rfl ?_
          refine c_getS C 38 fl_9_15 rfl rfl (by decide) (okS _ 44 (by decide) rfl) dX9_putType_138 ?_
          refine v_iload C 2 dX9_putType_141 rfl ?_
          refine v_iconst C 0 dX9_putType_143 (by decide) ?_
          obtain ⟨q7, hq7, h⟩ := bd_of h
          refine c_call C [.int q3.1, .int 0] [.ref (ad 44)] (c_Values_typeAt hA _ _ _ hq7) hY_Values_typeAt rfl (by decide) (okS _ 38 (by decide) rfl) ml_9_89 ⟨(by omega : 1 + 1 ≤ 223 + (d + 1)), (by omega : 8 + (3 + 11) + 23 ≤ 8874 + 40 * (d + 1))⟩ ⟨Nat.zero_le _, Nat.zero_le _⟩ rfl rfl (Nat.le_of_ble_eq_true rfl) dX9_putType_144 (wc_D hA cy _) ?_
          refine v_iload C 0 dX9_putType_147 rfl ?_
          refine v_iload_n C 6 dX9_putType_149 rfl rfl ?_
          obtain ⟨q8, hq8, h⟩ := bd_of h
          refine c_call C [.int q7.1, .int q6.1, .int x2] [] (hr_putTerm _ _ _ _ _ hq8) hY_Writer_putTerm rfl (by decide) (okS _ 44 (by decide) rfl) ml_9_92 ⟨(by omega : (223 + d) + 1 ≤ 223 + (d + 1)), (by omega : 8 + (7 + 11) + (8874 + 40 * d) ≤ 8874 + 40 * (d + 1))⟩ ⟨Nat.zero_le _, Nat.zero_le _⟩ rfl rfl (Nat.le_of_ble_eq_true rfl) dX9_putType_150 (wc_D hA cy _) ?_
          exact v_sub [4] rfl ((b_Writer_putType_153 C hA hr_putType hr_putTerm hr_putLeft) _ h)
      · rw [if_pos c3] at h
        exact v_sub [1, 2, 3] rfl ((b_Writer_putType_34 C hA hr_putType hr_putTerm hr_putLeft) _ _ _ h)
  · rw [if_neg c1] at h
    obtain rfl := Option.some.inj h
    exact v_vret C dX9_putType_21
set_option maxHeartbeats 4000000 in
set_option maxRecDepth 20000 in
theorem b_Writer_putTerm_175 {p : Program} {l : Launch} {e : Env} {s : State} {m : MethodId} {args : Array Value} {below : List Frame} {meth : Method} {c : Code} {D : va_G} {cy : Nat → ClassId} {ad : Nat → Nat} {q : Int32 × CS}  {r_putType : Int32 → Int32 → CS → Option (Int32 × CS)} {r_putTerm : Int32 → Int32 → Int32 → CS → Option (Int32 × CS)} {r_putLeft : Int32 → Int32 → CS → Option (Int32 × CS)} {d : Nat} (C : vC p s m args meth c cX9_putTerm 7 none RX9 D (cyT cy)) (hA : adOK ad) (hr_putType : ∀ (z1 : Int32) (z2 : Int32) (σ : CS) (q : Int32 × CS), r_putType z1 z2 σ = some q → MV l D (cyT cy) (inC ad) yX9_putType cX9_putType 7 none (223 + d) (8874 + 40 * d) 0 0 [.ref (ad 44), .int z1, .int z2] (wc cy ad σ) none (wc cy ad q.2)) (hr_putTerm : ∀ (z1 : Int32) (z2 : Int32) (z3 : Int32) (σ : CS) (q : Int32 × CS), r_putTerm z1 z2 z3 σ = some q → MV l D (cyT cy) (inC ad) yX9_putTerm cX9_putTerm 7 none (223 + d) (8874 + 40 * d) 0 0 [.ref (ad 44), .int z1, .int z2, .int z3] (wc cy ad σ) none (wc cy ad q.2)) (hr_putLeft : ∀ (z1 : Int32) (z2 : Int32) (σ : CS) (q : Int32 × CS), r_putLeft z1 z2 σ = some q → MV l D (cyT cy) (inC ad) yX9_putLeft cX9_putLeft 7 (some .int) (223 + d) (8874 + 40 * d) 0 0 [.ref (ad 44), .int z1, .int z2] (wc cy ad σ) (some (.int q.1)) (wc cy ad q.2)) : ∀ (σ : CS), B_Writer_putTerm_175 r_putType r_putTerm r_putLeft σ = some q → V p l e { frames := 223 + (d + 1), cells := 0, slots := 0, locals := 8874 + 40 * (d + 1) } s m args below meth c D (inC ad) 7 (MQ below (vQ D (inC ad) none (wc cy ad q.2)) args s 0 0 (inC ad)) 0 0 (wc cy ad σ) 175 [(0, .ref (ad 44))] [] := by
  intro σ h
  rw [B_Writer_putTerm_175] at h
  obtain rfl := Option.some.inj h
  exact v_vret C dX9_putTerm_175
set_option maxHeartbeats 4000000 in
set_option maxRecDepth 20000 in
theorem w_Writer_putTerm {l : Launch} {D : va_G} {cy : Nat → ClassId} {ad : Nat → Nat} {q : Int32 × CS} {r_putType : Int32 → Int32 → CS → Option (Int32 × CS)} {r_putTerm : Int32 → Int32 → Int32 → CS → Option (Int32 × CS)} {r_putLeft : Int32 → Int32 → CS → Option (Int32 × CS)} {d : Nat} (hA : adOK ad) (hr_putType : ∀ (z1 : Int32) (z2 : Int32) (σ : CS) (q : Int32 × CS), r_putType z1 z2 σ = some q → MV l D (cyT cy) (inC ad) yX9_putType cX9_putType 7 none (223 + d) (8874 + 40 * d) 0 0 [.ref (ad 44), .int z1, .int z2] (wc cy ad σ) none (wc cy ad q.2)) (hr_putTerm : ∀ (z1 : Int32) (z2 : Int32) (z3 : Int32) (σ : CS) (q : Int32 × CS), r_putTerm z1 z2 z3 σ = some q → MV l D (cyT cy) (inC ad) yX9_putTerm cX9_putTerm 7 none (223 + d) (8874 + 40 * d) 0 0 [.ref (ad 44), .int z1, .int z2, .int z3] (wc cy ad σ) none (wc cy ad q.2)) (hr_putLeft : ∀ (z1 : Int32) (z2 : Int32) (σ : CS) (q : Int32 × CS), r_putLeft z1 z2 σ = some q → MV l D (cyT cy) (inC ad) yX9_putLeft cX9_putLeft 7 (some .int) (223 + d) (8874 + 40 * d) 0 0 [.ref (ad 44), .int z1, .int z2] (wc cy ad σ) (some (.int q.1)) (wc cy ad q.2)) (x1 : Int32) (x2 : Int32) (x3 : Int32) (σ : CS) (h : F_Writer_putTerm r_putType r_putTerm r_putLeft x1 x2 x3 σ = some q) : MV l D (cyT cy) (inC ad) yX9_putTerm cX9_putTerm 7 none (223 + (d + 1)) (8874 + 40 * (d + 1)) 0 0 [.ref (ad 44), .int x1, .int x2, .int x3] (wc cy ad σ) none (wc cy ad q.2) := by
  refine MV.of (by decide) (wc_D hA cy σ) (Nat.le_of_ble_eq_true rfl) [(0, .ref (ad 44)), (1, .int x1), (2, .int x2), (3, .int x3)] rfl ?_
  intro p e s m args below meth c C
  rw [F_Writer_putTerm] at h
  refine v_aload_n C 0 dX9_putTerm_0 rfl rfl ?_
  refine c_getI C fl_9_42 rfl (okS _ 44 (by decide) rfl) dX9_putTerm_1 ?_
  refine v_if_eq C 8 dX9_putTerm_4 (by decide) (fun c1 => ?_) (fun c1 => ?_)
  · rw [if_pos c1] at h
    refine v_aload_n C 0 dX9_putTerm_8 rfl rfl ?_
    refine c_getS C 38 fl_9_15 rfl rfl (by decide) (okS _ 44 (by decide) rfl) dX9_putTerm_9 ?_
    refine v_iload_n C 1 dX9_putTerm_12 rfl rfl ?_
    obtain ⟨q1, hq1, h⟩ := bd_of h
    refine c_call C [.int x1] [] (c_Values_formOf hA _ _ hq1) hY_Values_formOf rfl (by decide) (okS _ 38 (by decide) rfl) ml_9_57 ⟨(by omega : 1 + 1 ≤ 223 + (d + 1)), (by omega : 8 + (2 + 11) + 21 ≤ 8874 + 40 * (d + 1))⟩ ⟨Nat.zero_le _, Nat.zero_le _⟩ rfl rfl (Nat.le_of_ble_eq_true rfl) dX9_putTerm_13 (wc_D hA cy _) ?_
    by_cases c2 : q1.1 = 49
    · rw [if_pos c2] at h
      refine v_lookup C 52 dX9_putTerm_16 (by decide) (by rw [c2]; try rfl) (by decide) ?_
      refine v_aload_n C 0 dX9_putTerm_52 rfl rfl ?_
      refine v_bipush C 42 dX9_putTerm_53 (by decide) ?_
      obtain ⟨q2, hq2, h⟩ := bd_of h
      refine c_call C [.int 42] [] (c_Writer_put hA _ _ hq2) hY_Writer_put rfl (by decide) (okS _ 44 (by decide) rfl) ml_9_22 ⟨(by omega : 1 + 1 ≤ 223 + (d + 1)), (by omega : 8 + (2 + 11) + 21 ≤ 8874 + 40 * (d + 1))⟩ ⟨Nat.zero_le _, Nat.zero_le _⟩ rfl rfl (Nat.le_of_ble_eq_true rfl) dX9_putTerm_55 (wc_D hA cy _) ?_
      obtain rfl := Option.some.inj h
      exact v_vret C dX9_putTerm_58
    rw [if_neg c2] at h
    by_cases c3 : q1.1 = 80
    · rw [if_pos c3] at h
      refine v_lookup C 114 dX9_putTerm_16 (by decide) (by rw [c3]; try rfl) (by decide) ?_
      refine v_aload_n C 0 dX9_putTerm_114 rfl rfl ?_
      refine v_bipush C 92 dX9_putTerm_115 (by decide) ?_
      obtain ⟨q3, hq3, h⟩ := bd_of h
      refine c_call C [.int 92] [] (c_Writer_put hA _ _ hq3) hY_Writer_put rfl (by decide) (okS _ 44 (by decide) rfl) ml_9_22 ⟨(by omega : 1 + 1 ≤ 223 + (d + 1)), (by omega : 8 + (2 + 11) + 21 ≤ 8874 + 40 * (d + 1))⟩ ⟨Nat.zero_le _, Nat.zero_le _⟩ rfl rfl (Nat.le_of_ble_eq_true rfl) dX9_putTerm_117 (wc_D hA cy _) ?_
      refine v_aload_n C 0 dX9_putTerm_120 rfl rfl ?_
      refine v_aload_n C 0 dX9_putTerm_121 rfl rfl ?_
      refine c_getS C 38 fl_9_15 rfl rfl (by decide) (okS _ 44 (by decide) rfl) dX9_putTerm_122 ?_
      refine v_iload_n C 1 dX9_putTerm_125 rfl rfl ?_
      obtain ⟨q4, hq4, h⟩ := bd_of h
      refine c_call C [.int x1] [.ref (ad 44)] (c_Values_firstType hA _ _ hq4) hY_Values_firstType rfl (by decide) (okS _ 38 (by decide) rfl) ml_9_62 ⟨(by omega : 2 + 1 ≤ 223 + (d + 1)), (by omega : 8 + (2 + 11) + 45 ≤ 8874 + 40 * (d + 1))⟩ ⟨Nat.zero_le _, Nat.zero_le _⟩ rfl rfl (Nat.le_of_ble_eq_true rfl) dX9_putTerm_126 (wc_D hA cy _) ?_
      refine v_iload_n C 3 dX9_putTerm_129 rfl rfl ?_
      obtain ⟨q5, hq5, h⟩ := bd_of h
      refine c_call C [.int q4.1, .int x3] [] (c_Writer_bound hA _ _ _ hq5) hY_Writer_bound rfl (by decide) (okS _ 44 (by decide) rfl) ml_9_69 ⟨(by omega : 2 + 1 ≤ 223 + (d + 1)), (by omega : 8 + (3 + 11) + 45 ≤ 8874 + 40 * (d + 1))⟩ ⟨Nat.zero_le _, Nat.zero_le _⟩ rfl rfl (Nat.le_of_ble_eq_true rfl) dX9_putTerm_130 (wc_D hA cy _) ?_
      refine v_istore C [(5, .int q5.1), (0, .ref (ad 44)), (1, .int x1), (2, .int x2), (3, .int x3)] dX9_putTerm_133 (by decide) rfl ?_
      refine v_aload_n C 1 dX9_putTerm_135 rfl rfl ?_
      refine c_getI C fl_9_42 rfl (okS _ 44 (by decide) rfl) dX9_putTerm_136 ?_
      refine v_if_ne C 175 dX9_putTerm_139 (by decide) (fun c4 => ?_) (fun c4 => ?_)
      · rw [if_neg c4] at h
        exact v_sub [1] rfl ((b_Writer_putTerm_175 C hA hr_putType hr_putTerm hr_putLeft) _ h)
      · rw [if_pos c4] at h
        refine v_aload_n C 1 dX9_putTerm_142 rfl rfl ?_
        refine c_getS C 38 fl_9_15 rfl rfl (by decide) (okS _ 44 (by decide) rfl) dX9_putTerm_143 ?_
        refine v_iload_n C 3 dX9_putTerm_146 rfl rfl ?_
        refine v_iload C 0 dX9_putTerm_147 rfl ?_
        refine v_bipush C 104 dX9_putTerm_149 (by decide) ?_
        obtain ⟨q6, hq6, h⟩ := bd_of h
        refine c_callN C [.int x2, .int q5.1, .int 104] [] (c_Values_apply hA _ _ _ _ hq6) hY_Values_apply rfl (by decide) (okS _ 38 (by decide) rfl) ml_9_105 ⟨(by omega : 222 + 1 ≤ 223 + (d + 1)), (by omega : 8 + (4 + 11) + 8846 ≤ 8874 + 40 * (d + 1))⟩ ⟨Nat.zero_le _, Nat.zero_le _⟩ rfl rfl (Nat.le_of_ble_eq_true rfl) dX9_putTerm_151 (wc_D hA cy _) ?_
        refine v_istore C [(6, .int q6.1), (5, .int q5.1), (0, .ref (ad 44)), (1, .int x1), (2, .int x2), (3, .int x3)] dX9_putTerm_154 (by decide) rfl ?_
        refine v_aload_n C 2 dX9_putTerm_156 rfl rfl ?_
        refine v_aload_n C 2 dX9_putTerm_157 rfl rfl ?_
        refine c_getS C 38 fl_9_15 rfl rfl (by decide) (okS _ 44 (by decide) rfl) dX9_putTerm_158 ?_
        refine v_iload_n C 3 dX9_putTerm_161 rfl rfl ?_
        refine v_iload C 1 dX9_putTerm_162 rfl ?_
        obtain ⟨q7, hq7, h⟩ := bd_of h
        refine c_call C [.int x1, .int q5.1] [.ref (ad 44)] (c_Values_secondType hA _ _ _ hq7) hY_Values_secondType rfl (by decide) (okS _ 38 (by decide) rfl) ml_9_73 ⟨(by omega : 2 + 1 ≤ 223 + (d + 1)), (by omega : 8 + (4 + 11) + 45 ≤ 8874 + 40 * (d + 1))⟩ ⟨Nat.zero_le _, Nat.zero_le _⟩ rfl rfl (Nat.le_of_ble_eq_true rfl) dX9_putTerm_164 (wc_D hA cy _) ?_
        refine v_iload C 0 dX9_putTerm_167 rfl ?_
        refine v_iload_n C 5 dX9_putTerm_169 rfl rfl ?_
        refine v_iconst C 1 dX9_putTerm_170 (by decide) ?_
        refine v_iadd C dX9_putTerm_171 ?_
        obtain ⟨q8, hq8, h⟩ := bd_of h
        refine c_call C [.int q7.1, .int q6.1, .int (x3 + 1)] [] (hr_putTerm _ _ _ _ _ hq8) hY_Writer_putTerm rfl (by decide) (okS _ 44 (by decide) rfl) ml_9_92 ⟨(by omega : (223 + d) + 1 ≤ 223 + (d + 1)), (by omega : 8 + (7 + 11) + (8874 + 40 * d) ≤ 8874 + 40 * (d + 1))⟩ ⟨Nat.zero_le _, Nat.zero_le _⟩ rfl rfl (Nat.le_of_ble_eq_true rfl) dX9_putTerm_172 (wc_D hA cy _) ?_
        exact v_sub [2] rfl ((b_Writer_putTerm_175 C hA hr_putType hr_putTerm hr_putLeft) _ h)
    rw [if_neg c3] at h
    by_cases c5 : q1.1 = 83
    · rw [if_pos c5] at h
      refine v_lookup C 59 dX9_putTerm_16 (by decide) (by rw [c5]; try rfl) (by decide) ?_
      refine v_aload_n C 0 dX9_putTerm_59 rfl rfl ?_
      refine v_bipush C 44 dX9_putTerm_60 (by decide) ?_
      obtain ⟨q9, hq9, h⟩ := bd_of h
      refine c_call C [.int 44] [] (c_Writer_put hA _ _ hq9) hY_Writer_put rfl (by decide) (okS _ 44 (by decide) rfl) ml_9_22 ⟨(by omega : 1 + 1 ≤ 223 + (d + 1)), (by omega : 8 + (2 + 11) + 21 ≤ 8874 + 40 * (d + 1))⟩ ⟨Nat.zero_le _, Nat.zero_le _⟩ rfl rfl (Nat.le_of_ble_eq_true rfl) dX9_putTerm_62 (wc_D hA cy _) ?_
      refine v_aload_n C 0 dX9_putTerm_65 rfl rfl ?_
      refine c_getS C 38 fl_9_15 rfl rfl (by decide) (okS _ 44 (by decide) rfl) dX9_putTerm_66 ?_
      refine v_iload_n C 2 dX9_putTerm_69 rfl rfl ?_
      obtain ⟨q10, hq10, h⟩ := bd_of h
      refine c_call C [.int x2] [] (c_Values_firstOf hA _ _ hq10) hY_Values_firstOf rfl (by decide) (okS _ 38 (by decide) rfl) ml_9_99 ⟨(by omega : 1 + 1 ≤ 223 + (d + 1)), (by omega : 8 + (2 + 11) + 23 ≤ 8874 + 40 * (d + 1))⟩ ⟨Nat.zero_le _, Nat.zero_le _⟩ rfl rfl (Nat.le_of_ble_eq_true rfl) dX9_putTerm_70 (wc_D hA cy _) ?_
      refine v_istore C [(4, .int q10.1), (0, .ref (ad 44)), (1, .int x1), (2, .int x2), (3, .int x3)] dX9_putTerm_73 (by decide) rfl ?_
      refine v_aload_n C 1 dX9_putTerm_75 rfl rfl ?_
      refine v_aload_n C 1 dX9_putTerm_76 rfl rfl ?_
      refine c_getS C 38 fl_9_15 rfl rfl (by decide) (okS _ 44 (by decide) rfl) dX9_putTerm_77 ?_
      refine v_iload_n C 2 dX9_putTerm_80 rfl rfl ?_
      obtain ⟨q11, hq11, h⟩ := bd_of h
      refine c_call C [.int x1] [.ref (ad 44)] (c_Values_firstType hA _ _ hq11) hY_Values_firstType rfl (by decide) (okS _ 38 (by decide) rfl) ml_9_62 ⟨(by omega : 2 + 1 ≤ 223 + (d + 1)), (by omega : 8 + (2 + 11) + 45 ≤ 8874 + 40 * (d + 1))⟩ ⟨Nat.zero_le _, Nat.zero_le _⟩ rfl rfl (Nat.le_of_ble_eq_true rfl) dX9_putTerm_81 (wc_D hA cy _) ?_
      refine v_iload C 0 dX9_putTerm_84 rfl ?_
      refine v_iload_n C 4 dX9_putTerm_86 rfl rfl ?_
      obtain ⟨q12, hq12, h⟩ := bd_of h
      refine c_call C [.int q11.1, .int q10.1, .int x3] [] (hr_putTerm _ _ _ _ _ hq12) hY_Writer_putTerm rfl (by decide) (okS _ 44 (by decide) rfl) ml_9_92 ⟨(by omega : (223 + d) + 1 ≤ 223 + (d + 1)), (by omega : 8 + (7 + 11) + (8874 + 40 * d) ≤ 8874 + 40 * (d + 1))⟩ ⟨Nat.zero_le _, Nat.zero_le _⟩ rfl rfl (Nat.le_of_ble_eq_true rfl) dX9_putTerm_87 (wc_D hA cy _) ?_
      refine v_aload_n C 1 dX9_putTerm_90 rfl rfl ?_
      refine v_aload_n C 1 dX9_putTerm_91 rfl rfl ?_
      refine c_getS C 38 fl_9_15 rfl rfl (by decide) (okS _ 44 (by decide) rfl) dX9_putTerm_92 ?_
      refine v_iload_n C 2 dX9_putTerm_95 rfl rfl ?_
      refine v_iload C 0 dX9_putTerm_96 rfl ?_
      obtain ⟨q13, hq13, h⟩ := bd_of h
      refine c_call C [.int x1, .int q10.1] [.ref (ad 44)] (c_Values_secondType hA _ _ _ hq13) hY_Values_secondType rfl (by decide) (okS _ 38 (by decide) rfl) ml_9_73 ⟨(by omega : 2 + 1 ≤ 223 + (d + 1)), (by omega : 8 + (4 + 11) + 45 ≤ 8874 + 40 * (d + 1))⟩ ⟨Nat.zero_le _, Nat.zero_le _⟩ rfl rfl (Nat.le_of_ble_eq_true rfl) dX9_putTerm_98 (wc_D hA cy _) ?_
      refine v_aload_n C 1 dX9_putTerm_101 rfl rfl ?_
      refine c_getS C 38 fl_9_15 rfl rfl (by decide) (okS _ 44 (by decide) rfl) dX9_putTerm_102 ?_
      refine v_iload_n C 3 dX9_putTerm_105 rfl rfl ?_
      obtain ⟨q14, hq14, h⟩ := bd_of h
      refine c_call C [.int x2] [.int q13.1, .ref (ad 44)] (c_Values_secondOf hA _ _ hq14) hY_Values_secondOf rfl (by decide) (okS _ 38 (by decide) rfl) ml_9_102 ⟨(by omega : 1 + 1 ≤ 223 + (d + 1)), (by omega : 8 + (2 + 11) + 23 ≤ 8874 + 40 * (d + 1))⟩ ⟨Nat.zero_le _, Nat.zero_le _⟩ rfl rfl (Nat.le_of_ble_eq_true rfl) dX9_putTerm_106 (wc_D hA cy _) ?_
      refine v_iload_n C 4 dX9_putTerm_109 rfl rfl ?_
      obtain ⟨q15, hq15, h⟩ := bd_of h
      refine c_call C [.int q13.1, .int q14.1, .int x3] [] (hr_putTerm _ _ _ _ _ hq15) hY_Writer_putTerm rfl (by decide) (okS _ 44 (by decide) rfl) ml_9_92 ⟨(by omega : (223 + d) + 1 ≤ 223 + (d + 1)), (by omega : 8 + (7 + 11) + (8874 + 40 * d) ≤ 8874 + 40 * (d + 1))⟩ ⟨Nat.zero_le _, Nat.zero_le _⟩ rfl rfl (Nat.le_of_ble_eq_true rfl) dX9_putTerm_110 (wc_D hA cy _) ?_
      obtain rfl := Option.some.inj h
      exact v_vret C dX9_putTerm_113
    rw [if_neg c5] at h
    refine v_lookup C 176 dX9_putTerm_16 (by decide) (show Op.lookupswitch.offset [(49, 36), (80, 98), (83, 43)] 160 (q1.1 : Int32).toInt = 160 from by rw [lv_osw (a := 49) c2 (by decide), lv_osw (a := 80) c3 (by decide), lv_osw (a := 83) c5 (by decide)]; try rfl) (by decide) ?_
    refine v_aload_n C 0 dX9_putTerm_176 rfl rfl ?_
    refine v_iload_n C 2 dX9_putTerm_177 rfl rfl ?_
    refine v_iload_n C 3 dX9_putTerm_178 rfl rfl ?_
    obtain ⟨q16, hq16, h⟩ := bd_of h
    refine c_call C [.int x2, .int x3] [] (hr_putLeft _ _ _ _ hq16) hY_Writer_putLeft rfl (by decide) (okS _ 44 (by decide) rfl) ml_9_108 ⟨(by omega : (223 + d) + 1 ≤ 223 + (d + 1)), (by omega : 8 + (7 + 11) + (8874 + 40 * d) ≤ 8874 + 40 * (d + 1))⟩ ⟨Nat.zero_le _, Nat.zero_le _⟩ rfl rfl (Nat.le_of_ble_eq_true rfl) dX9_putTerm_179 (wc_D hA cy _) ?_
    refine v_pop C dX9_putTerm_182 rfl ?_
    obtain rfl := Option.some.inj h
    exact v_vret C dX9_putTerm_183
  · rw [if_neg c1] at h
    obtain rfl := Option.some.inj h
    exact v_vret C dX9_putTerm_7
set_option maxHeartbeats 4000000 in
set_option maxRecDepth 20000 in
theorem w_Writer_putLeft {l : Launch} {D : va_G} {cy : Nat → ClassId} {ad : Nat → Nat} {q : Int32 × CS} {r_putType : Int32 → Int32 → CS → Option (Int32 × CS)} {r_putTerm : Int32 → Int32 → Int32 → CS → Option (Int32 × CS)} {r_putLeft : Int32 → Int32 → CS → Option (Int32 × CS)} {d : Nat} (hA : adOK ad) (hr_putType : ∀ (z1 : Int32) (z2 : Int32) (σ : CS) (q : Int32 × CS), r_putType z1 z2 σ = some q → MV l D (cyT cy) (inC ad) yX9_putType cX9_putType 7 none (223 + d) (8874 + 40 * d) 0 0 [.ref (ad 44), .int z1, .int z2] (wc cy ad σ) none (wc cy ad q.2)) (hr_putTerm : ∀ (z1 : Int32) (z2 : Int32) (z3 : Int32) (σ : CS) (q : Int32 × CS), r_putTerm z1 z2 z3 σ = some q → MV l D (cyT cy) (inC ad) yX9_putTerm cX9_putTerm 7 none (223 + d) (8874 + 40 * d) 0 0 [.ref (ad 44), .int z1, .int z2, .int z3] (wc cy ad σ) none (wc cy ad q.2)) (hr_putLeft : ∀ (z1 : Int32) (z2 : Int32) (σ : CS) (q : Int32 × CS), r_putLeft z1 z2 σ = some q → MV l D (cyT cy) (inC ad) yX9_putLeft cX9_putLeft 7 (some .int) (223 + d) (8874 + 40 * d) 0 0 [.ref (ad 44), .int z1, .int z2] (wc cy ad σ) (some (.int q.1)) (wc cy ad q.2)) (x1 : Int32) (x2 : Int32) (σ : CS) (h : F_Writer_putLeft r_putType r_putTerm r_putLeft x1 x2 σ = some q) : MV l D (cyT cy) (inC ad) yX9_putLeft cX9_putLeft 7 (some .int) (223 + (d + 1)) (8874 + 40 * (d + 1)) 0 0 [.ref (ad 44), .int x1, .int x2] (wc cy ad σ) (some (.int q.1)) (wc cy ad q.2) := by
  refine MV.of (by decide) (wc_D hA cy σ) (Nat.le_of_ble_eq_true rfl) [(0, .ref (ad 44)), (1, .int x1), (2, .int x2)] rfl ?_
  intro p e s m args below meth c C
  rw [F_Writer_putLeft] at h
  refine v_aload_n C 0 dX9_putLeft_0 rfl rfl ?_
  refine c_getI C fl_9_42 rfl (okS _ 44 (by decide) rfl) dX9_putLeft_1 ?_
  refine v_if_eq C 9 dX9_putLeft_4 (by decide) (fun c1 => ?_) (fun c1 => ?_)
  · rw [if_pos c1] at h
    refine v_aload_n C 0 dX9_putLeft_9 rfl rfl ?_
    refine c_getS C 38 fl_9_15 rfl rfl (by decide) (okS _ 44 (by decide) rfl) dX9_putLeft_10 ?_
    refine v_iload_n C 1 dX9_putLeft_13 rfl rfl ?_
    obtain ⟨q1, hq1, h⟩ := bd_of h
    refine c_call C [.int x1] [] (c_Values_leftOf hA _ _ hq1) hY_Values_leftOf rfl (by decide) (okS _ 38 (by decide) rfl) ml_9_79 ⟨(by omega : 0 + 1 ≤ 223 + (d + 1)), (by omega : 8 + (2 + 11) + 0 ≤ 8874 + 40 * (d + 1))⟩ ⟨Nat.zero_le _, Nat.zero_le _⟩ rfl rfl (Nat.le_of_ble_eq_true rfl) dX9_putLeft_14 (wc_D hA cy _) ?_
    refine v_istore_n C [(3, .int q1.1), (0, .ref (ad 44)), (1, .int x1), (2, .int x2)] dX9_putLeft_17 rfl (by decide) rfl ?_
    refine v_aload_n C 1 dX9_putLeft_18 rfl rfl ?_
    refine c_getS C 38 fl_9_15 rfl rfl (by decide) (okS _ 44 (by decide) rfl) dX9_putLeft_19 ?_
    refine v_iload_n C 2 dX9_putLeft_22 rfl rfl ?_
    obtain ⟨q2, hq2, h⟩ := bd_of h
    refine c_call C [.int x1] [] (c_Values_kindOf hA _ _ hq2) hY_Values_kindOf rfl (by decide) (okS _ 38 (by decide) rfl) ml_9_111 ⟨(by omega : 0 + 1 ≤ 223 + (d + 1)), (by omega : 8 + (2 + 11) + 0 ≤ 8874 + 40 * (d + 1))⟩ ⟨Nat.zero_le _, Nat.zero_le _⟩ rfl rfl (Nat.le_of_ble_eq_true rfl) dX9_putLeft_23 (wc_D hA cy _) ?_
    by_cases c2 : q2.1 = 1
    · rw [if_pos c2] at h
      refine v_tableIn C 60 dX9_putLeft_26 (by rw [c2]; decide) (by rw [c2]; decide) (by rw [c2]; try rfl) (by decide) ?_
      refine v_aload_n C 1 dX9_putLeft_60 rfl rfl ?_
      refine v_bipush C 48 dX9_putLeft_61 (by decide) ?_
      refine v_iload_n C 0 dX9_putLeft_63 rfl rfl ?_
      refine v_iadd C dX9_putLeft_64 ?_
      obtain ⟨q3, hq3, h⟩ := bd_of h
      refine c_call C [.int (48 + q1.1)] [] (c_Writer_put hA _ _ hq3) hY_Writer_put rfl (by decide) (okS _ 44 (by decide) rfl) ml_9_22 ⟨(by omega : 1 + 1 ≤ 223 + (d + 1)), (by omega : 8 + (2 + 11) + 21 ≤ 8874 + 40 * (d + 1))⟩ ⟨Nat.zero_le _, Nat.zero_le _⟩ rfl rfl (Nat.le_of_ble_eq_true rfl) dX9_putLeft_65 (wc_D hA cy _) ?_
      refine v_aload_n C 1 dX9_putLeft_68 rfl rfl ?_
      refine c_getS C 38 fl_9_15 rfl rfl (by decide) (okS _ 44 (by decide) rfl) dX9_putLeft_69 ?_
      refine v_iload_n C 0 dX9_putLeft_72 rfl rfl ?_
      obtain ⟨q4, hq4, h⟩ := bd_of h
      refine c_call C [.int q1.1] [] (c_Values_typeOfVariable hA _ _ hq4) hY_Values_typeOfVariable rfl (by decide) (okS _ 38 (by decide) rfl) ml_9_114 ⟨(by omega : 0 + 1 ≤ 223 + (d + 1)), (by omega : 8 + (2 + 11) + 0 ≤ 8874 + 40 * (d + 1))⟩ ⟨Nat.zero_le _, Nat.zero_le _⟩ rfl rfl (Nat.le_of_ble_eq_true rfl) dX9_putLeft_73 (wc_D hA cy _) ?_
      obtain rfl := Option.some.inj h
      exact v_iret C dX9_putLeft_76
    rw [if_neg c2] at h
    by_cases c3 : q2.1 = 2
    · rw [if_pos c3] at h
      refine v_tableIn C 77 dX9_putLeft_26 (by rw [c3]; decide) (by rw [c3]; decide) (by rw [c3]; try rfl) (by decide) ?_
      refine v_aload_n C 1 dX9_putLeft_77 rfl rfl ?_
      refine v_iload_n C 0 dX9_putLeft_78 rfl rfl ?_
      obtain ⟨q5, hq5, h⟩ := bd_of h
      refine c_call C [.int q1.1] [] (c_Writer_put hA _ _ hq5) hY_Writer_put rfl (by decide) (okS _ 44 (by decide) rfl) ml_9_22 ⟨(by omega : 1 + 1 ≤ 223 + (d + 1)), (by omega : 8 + (2 + 11) + 21 ≤ 8874 + 40 * (d + 1))⟩ ⟨Nat.zero_le _, Nat.zero_le _⟩ rfl rfl (Nat.le_of_ble_eq_true rfl) dX9_putLeft_79 (wc_D hA cy _) ?_
      refine v_aload_n C 1 dX9_putLeft_82 rfl rfl ?_
      refine c_getS C 38 fl_9_15 rfl rfl (by decide) (okS _ 44 (by decide) rfl) dX9_putLeft_83 ?_
      refine v_iload_n C 0 dX9_putLeft_86 rfl rfl ?_
      obtain ⟨q6, hq6, h⟩ := bd_of h
      refine c_call C [.int q1.1] [] (c_Values_typeOfConstant hA _ _ hq6) hY_Values_typeOfConstant rfl (by decide) (okS _ 38 (by decide) rfl) ml_9_117 ⟨(by omega : 2 + 1 ≤ 223 + (d + 1)), (by omega : 8 + (2 + 11) + 45 ≤ 8874 + 40 * (d + 1))⟩ ⟨Nat.zero_le _, Nat.zero_le _⟩ rfl rfl (Nat.le_of_ble_eq_true rfl) dX9_putLeft_87 (wc_D hA cy _) ?_
      obtain rfl := Option.some.inj h
      exact v_iret C dX9_putLeft_90
    rw [if_neg c3] at h
    by_cases c4 : q2.1 = 3
    · rw [if_pos c4] at h
      refine v_tableIn C 91 dX9_putLeft_26 (by rw [c4]; decide) (by rw [c4]; decide) (by rw [c4]; try rfl) (by decide) ?_
      refine v_aload_n C 1 dX9_putLeft_91 rfl rfl ?_
      refine v_bipush C 46 dX9_putLeft_92 (by decide) ?_
      obtain ⟨q7, hq7, h⟩ := bd_of h
      refine c_call C [.int 46] [] (c_Writer_put hA _ _ hq7) hY_Writer_put rfl (by decide) (okS _ 44 (by decide) rfl) ml_9_22 ⟨(by omega : 1 + 1 ≤ 223 + (d + 1)), (by omega : 8 + (2 + 11) + 21 ≤ 8874 + 40 * (d + 1))⟩ ⟨Nat.zero_le _, Nat.zero_le _⟩ rfl rfl (Nat.le_of_ble_eq_true rfl) dX9_putLeft_94 (wc_D hA cy _) ?_
      refine v_aload_n C 1 dX9_putLeft_97 rfl rfl ?_
      refine v_iload_n C 0 dX9_putLeft_98 rfl rfl ?_
      refine v_iload_n C 3 dX9_putLeft_99 rfl rfl ?_
      obtain ⟨q8, hq8, h⟩ := bd_of h
      refine c_call C [.int q1.1, .int x2] [] (hr_putLeft _ _ _ _ hq8) hY_Writer_putLeft rfl (by decide) (okS _ 44 (by decide) rfl) ml_9_108 ⟨(by omega : (223 + d) + 1 ≤ 223 + (d + 1)), (by omega : 8 + (7 + 11) + (8874 + 40 * d) ≤ 8874 + 40 * (d + 1))⟩ ⟨Nat.zero_le _, Nat.zero_le _⟩ rfl rfl (Nat.le_of_ble_eq_true rfl) dX9_putLeft_100 (wc_D hA cy _) ?_
      refine v_istore C [(4, .int q8.1), (3, .int q1.1), (0, .ref (ad 44)), (1, .int x1), (2, .int x2)] dX9_putLeft_103 (by decide) rfl ?_
      refine v_aload_n C 2 dX9_putLeft_105 rfl rfl ?_
      refine c_getS C 38 fl_9_15 rfl rfl (by decide) (okS _ 44 (by decide) rfl) dX9_putLeft_106 ?_
      refine v_iload_n C 3 dX9_putLeft_109 rfl rfl ?_
      obtain ⟨q9, hq9, h⟩ := bd_of h
      refine c_call C [.int x1] [] (c_Values_rightOf hA _ _ hq9) hY_Values_rightOf rfl (by decide) (okS _ 38 (by decide) rfl) ml_9_82 ⟨(by omega : 0 + 1 ≤ 223 + (d + 1)), (by omega : 8 + (2 + 11) + 0 ≤ 8874 + 40 * (d + 1))⟩ ⟨Nat.zero_le _, Nat.zero_le _⟩ rfl rfl (Nat.le_of_ble_eq_true rfl) dX9_putLeft_110 (wc_D hA cy _) ?_
      refine v_istore C [(5, .int q9.1), (4, .int q8.1), (3, .int q1.1), (0, .ref (ad 44)), (1, .int x1), (2, .int x2)] dX9_putLeft_113 (by decide) rfl ?_
      refine v_aload_n C 3 dX9_putLeft_115 rfl rfl ?_
      refine v_aload_n C 3 dX9_putLeft_116 rfl rfl ?_
      refine c_getS C 38 fl_9_15 rfl rfl (by decide) (okS _ 44 (by decide) rfl) dX9_putLeft_117 ?_
      refine v_iload C 1 dX9_putLeft_120 rfl ?_
      obtain ⟨q10, hq10, h⟩ := bd_of h
      refine c_call C [.int q8.1] [.ref (ad 44)] (c_Values_firstType hA _ _ hq10) hY_Values_firstType rfl (by decide) (okS _ 38 (by decide) rfl) ml_9_62 ⟨(by omega : 2 + 1 ≤ 223 + (d + 1)), (by omega : 8 + (2 + 11) + 45 ≤ 8874 + 40 * (d + 1))⟩ ⟨Nat.zero_le _, Nat.zero_le _⟩ rfl rfl (Nat.le_of_ble_eq_true rfl) dX9_putLeft_122 (wc_D hA cy _) ?_
      refine v_iload C 0 dX9_putLeft_125 rfl ?_
      refine v_iload_n C 5 dX9_putLeft_127 rfl rfl ?_
      obtain ⟨q11, hq11, h⟩ := bd_of h
      refine c_call C [.int q10.1, .int q9.1, .int x2] [] (hr_putTerm _ _ _ _ _ hq11) hY_Writer_putTerm rfl (by decide) (okS _ 44 (by decide) rfl) ml_9_92 ⟨(by omega : (223 + d) + 1 ≤ 223 + (d + 1)), (by omega : 8 + (7 + 11) + (8874 + 40 * d) ≤ 8874 + 40 * (d + 1))⟩ ⟨Nat.zero_le _, Nat.zero_le _⟩ rfl rfl (Nat.le_of_ble_eq_true rfl) dX9_putLeft_128 (wc_D hA cy _) ?_
      refine v_aload_n C 3 dX9_putLeft_131 rfl rfl ?_
      refine c_getS C 38 fl_9_15 rfl rfl (by decide) (okS _ 44 (by decide) rfl) dX9_putLeft_132 ?_
      refine v_iload C 1 dX9_putLeft_135 rfl ?_
      refine v_iload C 0 dX9_putLeft_137 rfl ?_
      obtain ⟨q12, hq12, h⟩ := bd_of h
      refine c_call C [.int q8.1, .int q9.1] [] (c_Values_secondType hA _ _ _ hq12) hY_Values_secondType rfl (by decide) (okS _ 38 (by decide) rfl) ml_9_73 ⟨(by omega : 2 + 1 ≤ 223 + (d + 1)), (by omega : 8 + (4 + 11) + 45 ≤ 8874 + 40 * (d + 1))⟩ ⟨Nat.zero_le _, Nat.zero_le _⟩ rfl rfl (Nat.le_of_ble_eq_true rfl) dX9_putLeft_139 (wc_D hA cy _) ?_
      obtain rfl := Option.some.inj h
      exact v_iret C dX9_putLeft_142
    rw [if_neg c4] at h
    by_cases c5 : q2.1 = 4
    · rw [if_pos c5] at h
      refine v_tableIn C 143 dX9_putLeft_26 (by rw [c5]; decide) (by rw [c5]; decide) (by rw [c5]; try rfl) (by decide) ?_
      refine v_aload_n C 1 dX9_putLeft_143 rfl rfl ?_
      refine v_bipush C 60 dX9_putLeft_144 (by decide) ?_
      obtain ⟨q13, hq13, h⟩ := bd_of h
      refine c_call C [.int 60] [] (c_Writer_put hA _ _ hq13) hY_Writer_put rfl (by decide) (okS _ 44 (by decide) rfl) ml_9_22 ⟨(by omega : 1 + 1 ≤ 223 + (d + 1)), (by omega : 8 + (2 + 11) + 21 ≤ 8874 + 40 * (d + 1))⟩ ⟨Nat.zero_le _, Nat.zero_le _⟩ rfl rfl (Nat.le_of_ble_eq_true rfl) dX9_putLeft_146 (wc_D hA cy _) ?_
      refine v_aload_n C 1 dX9_putLeft_149 rfl rfl ?_
      refine c_getS C 38 fl_9_15 rfl rfl (by decide) (okS _ 44 (by decide) rfl) dX9_putLeft_150 ?_
      refine v_aload_n C 1 dX9_putLeft_153 rfl rfl ?_
      refine v_iload_n C 0 dX9_putLeft_154 rfl rfl ?_
      refine v_iload_n C 3 dX9_putLeft_155 rfl rfl ?_
      obtain ⟨q14, hq14, h⟩ := bd_of h
      refine c_call C [.int q1.1, .int x2] [.ref (ad 38)] (hr_putLeft _ _ _ _ hq14) hY_Writer_putLeft rfl (by decide) (okS _ 44 (by decide) rfl) ml_9_108 ⟨(by omega : (223 + d) + 1 ≤ 223 + (d + 1)), (by omega : 8 + (7 + 11) + (8874 + 40 * d) ≤ 8874 + 40 * (d + 1))⟩ ⟨Nat.zero_le _, Nat.zero_le _⟩ rfl rfl (Nat.le_of_ble_eq_true rfl) dX9_putLeft_156 (wc_D hA cy _) ?_
      obtain ⟨q15, hq15, h⟩ := bd_of h
      refine c_call C [.int q14.1] [] (c_Values_firstType hA _ _ hq15) hY_Values_firstType rfl (by decide) (okS _ 38 (by decide) rfl) ml_9_62 ⟨(by omega : 2 + 1 ≤ 223 + (d + 1)), (by omega : 8 + (2 + 11) + 45 ≤ 8874 + 40 * (d + 1))⟩ ⟨Nat.zero_le _, Nat.zero_le _⟩ rfl rfl (Nat.le_of_ble_eq_true rfl) dX9_putLeft_159 (wc_D hA cy _) ?_
      obtain rfl := Option.some.inj h
      exact v_iret C dX9_putLeft_162
    rw [if_neg c5] at h
    by_cases c6 : q2.1 = 5
    · rw [if_pos c6] at h
      refine v_tableIn C 163 dX9_putLeft_26 (by rw [c6]; decide) (by rw [c6]; decide) (by rw [c6]; try rfl) (by decide) ?_
      refine v_aload_n C 1 dX9_putLeft_163 rfl rfl ?_
      refine v_bipush C 62 dX9_putLeft_164 (by decide) ?_
      obtain ⟨q16, hq16, h⟩ := bd_of h
      refine c_call C [.int 62] [] (c_Writer_put hA _ _ hq16) hY_Writer_put rfl (by decide) (okS _ 44 (by decide) rfl) ml_9_22 ⟨(by omega : 1 + 1 ≤ 223 + (d + 1)), (by omega : 8 + (2 + 11) + 21 ≤ 8874 + 40 * (d + 1))⟩ ⟨Nat.zero_le _, Nat.zero_le _⟩ rfl rfl (Nat.le_of_ble_eq_true rfl) dX9_putLeft_166 (wc_D hA cy _) ?_
      refine v_aload_n C 1 dX9_putLeft_169 rfl rfl ?_
      refine v_iload_n C 0 dX9_putLeft_170 rfl rfl ?_
      refine v_iload_n C 3 dX9_putLeft_171 rfl rfl ?_
      obtain ⟨q17, hq17, h⟩ := bd_of h
      refine c_call C [.int q1.1, .int x2] [] (hr_putLeft _ _ _ _ hq17) hY_Writer_putLeft rfl (by decide) (okS _ 44 (by decide) rfl) ml_9_108 ⟨(by omega : (223 + d) + 1 ≤ 223 + (d + 1)), (by omega : 8 + (7 + 11) + (8874 + 40 * d) ≤ 8874 + 40 * (d + 1))⟩ ⟨Nat.zero_le _, Nat.zero_le _⟩ rfl rfl (Nat.le_of_ble_eq_true rfl) dX9_putLeft_172 (wc_D hA cy _) ?_
      refine v_istore C [(6, .int q17.1), (3, .int q1.1), (0, .ref (ad 44)), (1, .int x1), (2, .int x2)] dX9_putLeft_175 (by decide) rfl ?_
      refine v_aload_n C 2 dX9_putLeft_177 rfl rfl ?_
      refine c_getS C 38 fl_9_15 rfl rfl (by decide) (okS _ 44 (by decide) rfl) dX9_putLeft_178 ?_
      refine v_iload C 0 dX9_putLeft_181 rfl ?_
      refine v_aload_n C 2 dX9_putLeft_183 rfl rfl ?_
      refine c_getS C 38 fl_9_15 rfl rfl (by decide) (okS _ 44 (by decide) rfl) dX9_putLeft_184 ?_
      refine v_iload_n C 1 dX9_putLeft_187 rfl rfl ?_
      obtain ⟨q18, hq18, h⟩ := bd_of h
      refine c_call C [.int q1.1] [.int q17.1, .ref (ad 38)] (c_Values_firstOf hA _ _ hq18) hY_Values_firstOf rfl (by decide) (okS _ 38 (by decide) rfl) ml_9_99 ⟨(by omega : 1 + 1 ≤ 223 + (d + 1)), (by omega : 8 + (2 + 11) + 23 ≤ 8874 + 40 * (d + 1))⟩ ⟨Nat.zero_le _, Nat.zero_le _⟩ rfl rfl (Nat.le_of_ble_eq_true rfl) dX9_putLeft_188 (wc_D hA cy _) ?_
      obtain ⟨q19, hq19, h⟩ := bd_of h
      refine c_call C [.int q17.1, .int q18.1] [] (c_Values_secondType hA _ _ _ hq19) hY_Values_secondType rfl (by decide) (okS _ 38 (by decide) rfl) ml_9_73 ⟨(by omega : 2 + 1 ≤ 223 + (d + 1)), (by omega : 8 + (4 + 11) + 45 ≤ 8874 + 40 * (d + 1))⟩ ⟨Nat.zero_le _, Nat.zero_le _⟩ rfl rfl (Nat.le_of_ble_eq_true rfl) dX9_putLeft_191 (wc_D hA cy _) ?_
      obtain rfl := Option.some.inj h
      exact v_iret C dX9_putLeft_194
    rw [if_neg c6] at h
    refine v_tableOut C 195 dX9_putLeft_26 (sw_out 4 (by decide) (fun i hi9 => by have k0 := lv_neT c2 (show (1 : Int32).toInt = 1 from by decide); have k1 := lv_neT c3 (show (2 : Int32).toInt = 2 from by decide); have k2 := lv_neT c4 (show (3 : Int32).toInt = 3 from by decide); have k3 := lv_neT c5 (show (4 : Int32).toInt = 4 from by decide); have k4 := lv_neT c6 (show (5 : Int32).toInt = 5 from by decide); omega)) (by decide) ?_
    refine v_aload_n C 1 dX9_putLeft_195 rfl rfl ?_
    refine v_iconst C 1 dX9_putLeft_196 (by decide) ?_
    refine c_putZ C (Or.inr rfl) fl_9_42 fw_9_3 rfl (by decide) (okS _ 44 (by decide) rfl) dX9_putLeft_197 ?_
    refine v_iconst C 0 dX9_putLeft_200 (by decide) ?_
    obtain rfl := Option.some.inj h
    exact v_iret C dX9_putLeft_201
  · rw [if_neg c1] at h
    refine v_iconst C 0 dX9_putLeft_7 (by decide) ?_
    obtain rfl := Option.some.inj h
    exact v_iret C dX9_putLeft_8
set_option maxHeartbeats 4000000 in
set_option maxRecDepth 20000 in
theorem g_Writer {l : Launch} {D : va_G} {cy : Nat → ClassId} {ad : Nat → Nat} (hA : adOK ad) : ∀ d : Nat, (∀ (z1 : Int32) (z2 : Int32) (σ : CS) (q : Int32 × CS), f_Writer_putType d z1 z2 σ = some q → MV l D (cyT cy) (inC ad) yX9_putType cX9_putType 7 none (223 + d) (8874 + 40 * d) 0 0 [.ref (ad 44), .int z1, .int z2] (wc cy ad σ) none (wc cy ad q.2)) ∧ (∀ (z1 : Int32) (z2 : Int32) (z3 : Int32) (σ : CS) (q : Int32 × CS), f_Writer_putTerm d z1 z2 z3 σ = some q → MV l D (cyT cy) (inC ad) yX9_putTerm cX9_putTerm 7 none (223 + d) (8874 + 40 * d) 0 0 [.ref (ad 44), .int z1, .int z2, .int z3] (wc cy ad σ) none (wc cy ad q.2)) ∧ (∀ (z1 : Int32) (z2 : Int32) (σ : CS) (q : Int32 × CS), f_Writer_putLeft d z1 z2 σ = some q → MV l D (cyT cy) (inC ad) yX9_putLeft cX9_putLeft 7 (some .int) (223 + d) (8874 + 40 * d) 0 0 [.ref (ad 44), .int z1, .int z2] (wc cy ad σ) (some (.int q.1)) (wc cy ad q.2)) := by
  intro d
  induction d with
  | zero => exact ⟨(fun _ _ _ _ h => absurd (show (none : Option (Int32 × CS)) = some _ from h) (by simp)), (fun _ _ _ _ _ h => absurd (show (none : Option (Int32 × CS)) = some _ from h) (by simp)), (fun _ _ _ _ h => absurd (show (none : Option (Int32 × CS)) = some _ from h) (by simp))⟩
  | succ d ih =>
    obtain ⟨h0, h1, h2⟩ := ih
    exact ⟨(fun _ _ _ _ h => w_Writer_putType hA h0 h1 h2 _ _ _ h), (fun _ _ _ _ _ h => w_Writer_putTerm hA h0 h1 h2 _ _ _ _ h), (fun _ _ _ _ h => w_Writer_putLeft hA h0 h1 h2 _ _ _ h)⟩
set_option maxHeartbeats 4000000 in
set_option maxRecDepth 20000 in
theorem c_Writer_putType {l : Launch} {D : va_G} {cy : Nat → ClassId} {ad : Nat → Nat} {q : Int32 × CS} (hA : adOK ad) (z1 : Int32) (z2 : Int32) (σ : CS) (h : f_Writer_putType 120 z1 z2 σ = some q) : MV l D (cyT cy) (inC ad) yX9_putType cX9_putType 7 none 343 13674 0 0 [.ref (ad 44), .int z1, .int z2] (wc cy ad σ) none (wc cy ad q.2) := (g_Writer hA 120).1 _ _ _ _ h
set_option maxHeartbeats 4000000 in
set_option maxRecDepth 20000 in
theorem c_Writer_putTerm {l : Launch} {D : va_G} {cy : Nat → ClassId} {ad : Nat → Nat} {q : Int32 × CS} (hA : adOK ad) (z1 : Int32) (z2 : Int32) (z3 : Int32) (σ : CS) (h : f_Writer_putTerm 120 z1 z2 z3 σ = some q) : MV l D (cyT cy) (inC ad) yX9_putTerm cX9_putTerm 7 none 343 13674 0 0 [.ref (ad 44), .int z1, .int z2, .int z3] (wc cy ad σ) none (wc cy ad q.2) := (g_Writer hA 120).2.1 _ _ _ _ _ h
set_option maxHeartbeats 4000000 in
set_option maxRecDepth 20000 in
theorem c_Writer_putLeft {l : Launch} {D : va_G} {cy : Nat → ClassId} {ad : Nat → Nat} {q : Int32 × CS} (hA : adOK ad) (z1 : Int32) (z2 : Int32) (σ : CS) (h : f_Writer_putLeft 120 z1 z2 σ = some q) : MV l D (cyT cy) (inC ad) yX9_putLeft cX9_putLeft 7 (some .int) 343 13674 0 0 [.ref (ad 44), .int z1, .int z2] (wc cy ad σ) (some (.int q.1)) (wc cy ad q.2) := (g_Writer hA 120).2.2 _ _ _ _ h
set_option maxHeartbeats 4000000 in
set_option maxRecDepth 20000 in
theorem l_Signs_equal_24 {p : Program} {l : Launch} {e : Env} {s : State} {m : MethodId} {args : Array Value} {below : List Frame} {meth : Method} {c : Code} {D : va_G} {cy : Nat → ClassId} {ad : Nat → Nat} {q : Int32 × CS}  (C : vC p s m args meth c cX7_equal 5 (some .boolean) RX7 D (cyT cy)) (hA : adOK ad) : ∀ (n : Nat) (x1 : Int32) (x2 : Int32) (x3 : Int32) (x4 : Int32) (σ : CS), L_Signs_equal_24 n x1 x2 x3 x4 σ = some q → V p l e { frames := 2, cells := 0, slots := 0, locals := 45 } s m args below meth c D (inC ad) 5 (MQ below (vQ D (inC ad) (some (.int q.1)) (wc cy ad q.2)) args s 0 0 (inC ad)) 0 0 (wc cy ad σ) 24 [(0, .ref (ad 34)), (1, .int x1), (2, .int x2), (3, .int x3), (4, .int x4)] [] := by
  intro n
  induction n with
  | zero =>
    intro x1 x2 x3 x4 σ h
    rw [L_Signs_equal_24.eq_1] at h
    cases h
  | succ n ih =>
    intro x1 x2 x3 x4 σ h
    rw [L_Signs_equal_24.eq_2] at h
    refine v_iload_n C 1 dX7_equal_24 rfl rfl ?_
    refine v_iload C 4 dX7_equal_25 rfl ?_
    refine v_iadd C dX7_equal_27 ?_
    refine v_iload_n C 3 dX7_equal_28 rfl rfl ?_
    refine v_icmp_ge C 59 dX7_equal_29 (by decide) (fun c1 => ?_) (fun c1 => ?_)
    · rw [if_pos c1] at h
      refine v_iconst C 1 dX7_equal_59 (by decide) ?_
      obtain rfl := Option.some.inj h
      exact v_zret C (Or.inr rfl) dX7_equal_60
    · rw [if_neg c1] at h
      refine v_aload_n C 0 dX7_equal_32 rfl rfl ?_
      refine v_iload_n C 1 dX7_equal_33 rfl rfl ?_
      refine v_iload C 4 dX7_equal_34 rfl ?_
      refine v_iadd C dX7_equal_36 ?_
      obtain ⟨q1, hq1, h⟩ := bd_of h
      refine c_call C [.int (x1 + x4)] [] (c_Signs_at hA _ _ hq1) hY_Signs_at rfl (by decide) (okS _ 34 (by decide) rfl) ml_7_62 ⟨(by omega : 0 + 1 ≤ 2), (by omega : 8 + (2 + 11) + 0 ≤ 45)⟩ ⟨Nat.zero_le _, Nat.zero_le _⟩ rfl rfl (Nat.le_of_ble_eq_true rfl) dX7_equal_37 (wc_D hA cy _) ?_
      refine v_aload_n C 0 dX7_equal_40 rfl rfl ?_
      refine v_iload_n C 2 dX7_equal_41 rfl rfl ?_
      refine v_iload C 4 dX7_equal_42 rfl ?_
      refine v_iadd C dX7_equal_44 ?_
      obtain ⟨q2, hq2, h⟩ := bd_of h
      refine c_call C [.int (x2 + x4)] [.int q1.1] (c_Signs_at hA _ _ hq2) hY_Signs_at rfl (by decide) (okS _ 34 (by decide) rfl) ml_7_62 ⟨(by omega : 0 + 1 ≤ 2), (by omega : 8 + (2 + 11) + 0 ≤ 45)⟩ ⟨Nat.zero_le _, Nat.zero_le _⟩ rfl rfl (Nat.le_of_ble_eq_true rfl) dX7_equal_45 (wc_D hA cy _) ?_
      refine v_icmp_eq C 53 dX7_equal_48 (by decide) (fun c2 => ?_) (fun c2 => ?_)
      · rw [if_pos c2] at h
        refine v_iinc C (x4 + 1) 4 [(4, .int (x4 + 1)), (0, .ref (ad 34)), (1, .int x1), (2, .int x2), (3, .int x3)] dX7_equal_53 rfl rfl (by decide) rfl ?_
        refine v_goto C 24 dX7_equal_56 (by decide) ?_
        exact v_sub [1, 2, 3, 4, 0] rfl (ih _ _ _ _ _ h)
      · rw [if_neg c2] at h
        refine v_iconst C 0 dX7_equal_51 (by decide) ?_
        obtain rfl := Option.some.inj h
        exact v_zret C (Or.inl rfl) dX7_equal_52
set_option maxHeartbeats 4000000 in
set_option maxRecDepth 20000 in
theorem c_Signs_equal {l : Launch} {D : va_G} {cy : Nat → ClassId} {ad : Nat → Nat} {q : Int32 × CS} (hA : adOK ad) (x1 : Int32) (x2 : Int32) (σ : CS) (h : f_Signs_equal x1 x2 σ = some q) : MV l D (cyT cy) (inC ad) yX7_equal cX7_equal 5 (some .boolean) (2) (45) 0 0 [.ref (ad 34), .int x1, .int x2] (wc cy ad σ) (some (.int q.1)) (wc cy ad q.2) := by
  refine MV.of (by decide) (wc_D hA cy σ) (Nat.le_of_ble_eq_true rfl) [(0, .ref (ad 34)), (1, .int x1), (2, .int x2)] rfl ?_
  intro p e s m args below meth c C
  rw [f_Signs_equal] at h
  refine v_aload_n C 0 dX7_equal_0 rfl rfl ?_
  refine v_iload_n C 1 dX7_equal_1 rfl rfl ?_
  obtain ⟨q1, hq1, h⟩ := bd_of h
  refine c_call C [.int x1] [] (c_Signs_behind hA _ _ hq1) hY_Signs_behind rfl (by decide) (okS _ 34 (by decide) rfl) ml_7_69 ⟨(by omega : 1 + 1 ≤ 2), (by omega : 8 + (4 + 11) + 22 ≤ 45)⟩ ⟨Nat.zero_le _, Nat.zero_le _⟩ rfl rfl (Nat.le_of_ble_eq_true rfl) dX7_equal_2 (wc_D hA cy _) ?_
  refine v_istore_n C [(3, .int q1.1), (0, .ref (ad 34)), (1, .int x1), (2, .int x2)] dX7_equal_5 rfl (by decide) rfl ?_
  refine v_iload_n C 0 dX7_equal_6 rfl rfl ?_
  refine v_iload_n C 2 dX7_equal_7 rfl rfl ?_
  refine v_isub C dX7_equal_8 ?_
  refine v_aload_n C 1 dX7_equal_9 rfl rfl ?_
  refine v_iload_n C 3 dX7_equal_10 rfl rfl ?_
  obtain ⟨q2, hq2, h⟩ := bd_of h
  refine c_call C [.int x2] [.int (q1.1 - x1)] (c_Signs_behind hA _ _ hq2) hY_Signs_behind rfl (by decide) (okS _ 34 (by decide) rfl) ml_7_69 ⟨(by omega : 1 + 1 ≤ 2), (by omega : 8 + (4 + 11) + 22 ≤ 45)⟩ ⟨Nat.zero_le _, Nat.zero_le _⟩ rfl rfl (Nat.le_of_ble_eq_true rfl) dX7_equal_11 (wc_D hA cy _) ?_
  refine v_iload_n C 3 dX7_equal_14 rfl rfl ?_
  refine v_isub C dX7_equal_15 ?_
  refine v_icmp_eq C 21 dX7_equal_16 (by decide) (fun c1 => ?_) (fun c1 => ?_)
  · rw [if_pos c1] at h
    refine v_iconst C 0 dX7_equal_21 (by decide) ?_
    refine v_istore C [(4, .int 0), (3, .int q1.1), (0, .ref (ad 34)), (1, .int x1), (2, .int x2)] dX7_equal_22 (by decide) rfl ?_
    exact v_sub [2, 3, 4, 1, 0] rfl ((l_Signs_equal_24 C hA 10000) _ _ _ _ _ h)
  · rw [if_neg c1] at h
    refine v_iconst C 0 dX7_equal_19 (by decide) ?_
    obtain rfl := Option.some.inj h
    exact v_zret C (Or.inl rfl) dX7_equal_20
