theorem dX11_worksData_0 : decode cX11_worksData 0 = .ok (.iload_n 1, 1) := by decide +kernel
theorem dX11_worksData_1 : decode cX11_worksData 1 = .ok (.istore 4, 2) := by decide +kernel
theorem dX11_worksData_3 : decode cX11_worksData 3 = .ok (.iconst 0, 1) := by decide +kernel
theorem dX11_worksData_4 : decode cX11_worksData 4 = .ok (.istore 5, 2) := by decide +kernel
theorem dX11_worksData_6 : decode cX11_worksData 6 = .ok (.aload_n 0, 1) := by decide +kernel
theorem dX11_worksData_7 : decode cX11_worksData 7 = .ok (.getfield 7, 3) := by decide +kernel
theorem dX11_worksData_10 : decode cX11_worksData 10 = .ok (.iload 4, 2) := by decide +kernel
theorem dX11_worksData_12 : decode cX11_worksData 12 = .ok (.iaload, 1) := by decide +kernel
theorem dX11_worksData_13 : decode cX11_worksData 13 = .ok (.istore 6, 2) := by decide +kernel
theorem dX11_worksData_15 : decode cX11_worksData 15 = .ok (.iload 6, 2) := by decide +kernel
theorem dX11_worksData_17 : decode cX11_worksData 17 = .ok (.invokestatic 160, 3) := by decide +kernel
theorem dX11_worksData_20 : decode cX11_worksData 20 = .ok (.ifCond .eq 30, 3) := by decide +kernel
theorem dX11_worksData_23 : decode cX11_worksData 23 = .ok (.aload_n 0, 1) := by decide +kernel
theorem dX11_worksData_24 : decode cX11_worksData 24 = .ok (.getfield 49, 3) := by decide +kernel
theorem dX11_worksData_27 : decode cX11_worksData 27 = .ok (.iload 5, 2) := by decide +kernel
theorem dX11_worksData_29 : decode cX11_worksData 29 = .ok (.iload 6, 2) := by decide +kernel
theorem dX11_worksData_31 : decode cX11_worksData 31 = .ok (.iastore, 1) := by decide +kernel
theorem dX11_worksData_32 : decode cX11_worksData 32 = .ok (.aload_n 0, 1) := by decide +kernel
theorem dX11_worksData_33 : decode cX11_worksData 33 = .ok (.getfield 52, 3) := by decide +kernel
theorem dX11_worksData_36 : decode cX11_worksData 36 = .ok (.iload 5, 2) := by decide +kernel
theorem dX11_worksData_38 : decode cX11_worksData 38 = .ok (.bipush (-9), 2) := by decide +kernel
theorem dX11_worksData_40 : decode cX11_worksData 40 = .ok (.iastore, 1) := by decide +kernel
theorem dX11_worksData_41 : decode cX11_worksData 41 = .ok (.iinc 5 1, 3) := by decide +kernel
theorem dX11_worksData_44 : decode cX11_worksData 44 = .ok (.iinc 4 1, 3) := by decide +kernel
theorem dX11_worksData_47 : decode cX11_worksData 47 = .ok (.goto (-41), 3) := by decide +kernel
theorem dX11_worksData_50 : decode cX11_worksData 50 = .ok (.aload_n 0, 1) := by decide +kernel
theorem dX11_worksData_51 : decode cX11_worksData 51 = .ok (.iload 4, 2) := by decide +kernel
theorem dX11_worksData_53 : decode cX11_worksData 53 = .ok (.iload_n 2, 1) := by decide +kernel
theorem dX11_worksData_54 : decode cX11_worksData 54 = .ok (.iload_n 3, 1) := by decide +kernel
theorem dX11_worksData_55 : decode cX11_worksData 55 = .ok (.invokevirtual 163, 3) := by decide +kernel
theorem dX11_worksData_58 : decode cX11_worksData 58 = .ok (.istore 7, 2) := by decide +kernel
theorem dX11_worksData_60 : decode cX11_worksData 60 = .ok (.aload_n 0, 1) := by decide +kernel
theorem dX11_worksData_61 : decode cX11_worksData 61 = .ok (.iload 4, 2) := by decide +kernel
theorem dX11_worksData_63 : decode cX11_worksData 63 = .ok (.invokevirtual 127, 3) := by decide +kernel
theorem dX11_worksData_66 : decode cX11_worksData 66 = .ok (.istore 4, 2) := by decide +kernel
theorem dX11_worksData_68 : decode cX11_worksData 68 = .ok (.iconst 1, 1) := by decide +kernel
theorem dX11_worksData_69 : decode cX11_worksData 69 = .ok (.istore 8, 2) := by decide +kernel
theorem dX11_worksData_71 : decode cX11_worksData 71 = .ok (.iload 5, 2) := by decide +kernel
theorem dX11_worksData_73 : decode cX11_worksData 73 = .ok (.ifCond .le 129, 3) := by decide +kernel
theorem dX11_worksData_76 : decode cX11_worksData 76 = .ok (.iload 8, 2) := by decide +kernel
theorem dX11_worksData_78 : decode cX11_worksData 78 = .ok (.ifCond .eq 124, 3) := by decide +kernel
theorem dX11_worksData_81 : decode cX11_worksData 81 = .ok (.aload_n 0, 1) := by decide +kernel
theorem dX11_worksData_82 : decode cX11_worksData 82 = .ok (.getfield 49, 3) := by decide +kernel
theorem dX11_worksData_85 : decode cX11_worksData 85 = .ok (.iload 5, 2) := by decide +kernel
theorem dX11_worksData_87 : decode cX11_worksData 87 = .ok (.iconst 1, 1) := by decide +kernel
theorem dX11_worksData_88 : decode cX11_worksData 88 = .ok (.isub, 1) := by decide +kernel
theorem dX11_worksData_89 : decode cX11_worksData 89 = .ok (.iaload, 1) := by decide +kernel
theorem dX11_worksData_90 : decode cX11_worksData 90 = .ok (.istore 9, 2) := by decide +kernel
theorem dX11_worksData_92 : decode cX11_worksData 92 = .ok (.aload_n 0, 1) := by decide +kernel
theorem dX11_worksData_93 : decode cX11_worksData 93 = .ok (.getfield 52, 3) := by decide +kernel
theorem dX11_worksData_96 : decode cX11_worksData 96 = .ok (.iload 5, 2) := by decide +kernel
theorem dX11_worksData_98 : decode cX11_worksData 98 = .ok (.iconst 1, 1) := by decide +kernel
theorem dX11_worksData_99 : decode cX11_worksData 99 = .ok (.isub, 1) := by decide +kernel
theorem dX11_worksData_100 : decode cX11_worksData 100 = .ok (.iaload, 1) := by decide +kernel
theorem dX11_worksData_101 : decode cX11_worksData 101 = .ok (.istore 10, 2) := by decide +kernel
theorem dX11_worksData_103 : decode cX11_worksData 103 = .ok (.iload 9, 2) := by decide +kernel
theorem dX11_worksData_105 : decode cX11_worksData 105 = .ok (.bipush 46, 2) := by decide +kernel
theorem dX11_worksData_107 : decode cX11_worksData 107 = .ok (.if_icmp .eq 10, 3) := by decide +kernel
theorem dX11_worksData_110 : decode cX11_worksData 110 = .ok (.iload 9, 2) := by decide +kernel
theorem dX11_worksData_112 : decode cX11_worksData 112 = .ok (.bipush 44, 2) := by decide +kernel
theorem dX11_worksData_114 : decode cX11_worksData 114 = .ok (.if_icmp .ne 25, 3) := by decide +kernel
theorem dX11_worksData_117 : decode cX11_worksData 117 = .ok (.iload 10, 2) := by decide +kernel
theorem dX11_worksData_119 : decode cX11_worksData 119 = .ok (.ifCond .ge 20, 3) := by decide +kernel
theorem dX11_worksData_122 : decode cX11_worksData 122 = .ok (.aload_n 0, 1) := by decide +kernel
theorem dX11_worksData_123 : decode cX11_worksData 123 = .ok (.getfield 52, 3) := by decide +kernel
theorem dX11_worksData_126 : decode cX11_worksData 126 = .ok (.iload 5, 2) := by decide +kernel
theorem dX11_worksData_128 : decode cX11_worksData 128 = .ok (.iconst 1, 1) := by decide +kernel
theorem dX11_worksData_129 : decode cX11_worksData 129 = .ok (.isub, 1) := by decide +kernel
theorem dX11_worksData_130 : decode cX11_worksData 130 = .ok (.iload 7, 2) := by decide +kernel
theorem dX11_worksData_132 : decode cX11_worksData 132 = .ok (.iastore, 1) := by decide +kernel
theorem dX11_worksData_133 : decode cX11_worksData 133 = .ok (.iconst 0, 1) := by decide +kernel
theorem dX11_worksData_134 : decode cX11_worksData 134 = .ok (.istore 8, 2) := by decide +kernel
theorem dX11_worksData_136 : decode cX11_worksData 136 = .ok (.goto 63, 3) := by decide +kernel
theorem dX11_worksData_139 : decode cX11_worksData 139 = .ok (.iload 9, 2) := by decide +kernel
theorem dX11_worksData_141 : decode cX11_worksData 141 = .ok (.bipush 60, 2) := by decide +kernel
theorem dX11_worksData_143 : decode cX11_worksData 143 = .ok (.if_icmp .ne 13, 3) := by decide +kernel
theorem dX11_worksData_146 : decode cX11_worksData 146 = .ok (.aload_n 0, 1) := by decide +kernel
theorem dX11_worksData_147 : decode cX11_worksData 147 = .ok (.iload 7, 2) := by decide +kernel
theorem dX11_worksData_149 : decode cX11_worksData 149 = .ok (.iconst 3, 1) := by decide +kernel
theorem dX11_worksData_150 : decode cX11_worksData 150 = .ok (.invokevirtual 167, 3) := by decide +kernel
theorem dX11_worksData_153 : decode cX11_worksData 153 = .ok (.goto 41, 3) := by decide +kernel
theorem dX11_worksData_156 : decode cX11_worksData 156 = .ok (.iload 9, 2) := by decide +kernel
theorem dX11_worksData_158 : decode cX11_worksData 158 = .ok (.bipush 62, 2) := by decide +kernel
theorem dX11_worksData_160 : decode cX11_worksData 160 = .ok (.if_icmp .ne 13, 3) := by decide +kernel
theorem dX11_worksData_163 : decode cX11_worksData 163 = .ok (.aload_n 0, 1) := by decide +kernel
theorem dX11_worksData_164 : decode cX11_worksData 164 = .ok (.iload 7, 2) := by decide +kernel
theorem dX11_worksData_166 : decode cX11_worksData 166 = .ok (.iconst 4, 1) := by decide +kernel
theorem dX11_worksData_167 : decode cX11_worksData 167 = .ok (.invokevirtual 167, 3) := by decide +kernel
theorem dX11_worksData_170 : decode cX11_worksData 170 = .ok (.goto 24, 3) := by decide +kernel
theorem dX11_worksData_173 : decode cX11_worksData 173 = .ok (.aload_n 0, 1) := by decide +kernel
theorem dX11_worksData_174 : decode cX11_worksData 174 = .ok (.iload 9, 2) := by decide +kernel
theorem dX11_worksData_176 : decode cX11_worksData 176 = .ok (.bipush 44, 2) := by decide +kernel
theorem dX11_worksData_178 : decode cX11_worksData 178 = .ok (.if_icmp .ne 7, 3) := by decide +kernel
theorem dX11_worksData_181 : decode cX11_worksData 181 = .ok (.iconst 5, 1) := by decide +kernel
theorem dX11_worksData_182 : decode cX11_worksData 182 = .ok (.goto 4, 3) := by decide +kernel
theorem dX11_worksData_185 : decode cX11_worksData 185 = .ok (.iconst 2, 1) := by decide +kernel
theorem dX11_worksData_186 : decode cX11_worksData 186 = .ok (.iload 10, 2) := by decide +kernel
theorem dX11_worksData_188 : decode cX11_worksData 188 = .ok (.iload 7, 2) := by decide +kernel
theorem dX11_worksData_190 : decode cX11_worksData 190 = .ok (.iconst 0, 1) := by decide +kernel
theorem dX11_worksData_191 : decode cX11_worksData 191 = .ok (.invokevirtual 115, 3) := by decide +kernel
theorem dX11_worksData_194 : decode cX11_worksData 194 = .ok (.istore 7, 2) := by decide +kernel
theorem dX11_worksData_196 : decode cX11_worksData 196 = .ok (.iinc 5 (-1), 3) := by decide +kernel
theorem dX11_worksData_199 : decode cX11_worksData 199 = .ok (.goto (-128), 3) := by decide +kernel
theorem dX11_worksData_202 : decode cX11_worksData 202 = .ok (.iload 8, 2) := by decide +kernel
theorem dX11_worksData_204 : decode cX11_worksData 204 = .ok (.ifCond .eq 12, 3) := by decide +kernel
theorem dX11_worksData_207 : decode cX11_worksData 207 = .ok (.aload_n 0, 1) := by decide +kernel
theorem dX11_worksData_208 : decode cX11_worksData 208 = .ok (.iload 4, 2) := by decide +kernel
theorem dX11_worksData_210 : decode cX11_worksData 210 = .ok (.putfield 171, 3) := by decide +kernel
theorem dX11_worksData_213 : decode cX11_worksData 213 = .ok (.iload 7, 2) := by decide +kernel
theorem dX11_worksData_215 : decode cX11_worksData 215 = .ok (.ireturn, 1) := by decide +kernel
theorem dX11_worksData_216 : decode cX11_worksData 216 = .ok (.goto (-210), 3) := by decide +kernel
theorem dX11_gives_0 : decode cX11_gives 0 = .ok (.aload_n 0, 1) := by decide +kernel
theorem dX11_gives_1 : decode cX11_gives 1 = .ok (.iload_n 1, 1) := by decide +kernel
theorem dX11_gives_2 : decode cX11_gives 2 = .ok (.invokevirtual 151, 3) := by decide +kernel
theorem dX11_gives_5 : decode cX11_gives 5 = .ok (.bipush 7, 2) := by decide +kernel
theorem dX11_gives_7 : decode cX11_gives 7 = .ok (.if_icmp .eq 12, 3) := by decide +kernel
theorem dX11_gives_10 : decode cX11_gives 10 = .ok (.aload_n 0, 1) := by decide +kernel
theorem dX11_gives_11 : decode cX11_gives 11 = .ok (.iconst 2, 1) := by decide +kernel
theorem dX11_gives_12 : decode cX11_gives 12 = .ok (.iload_n 1, 1) := by decide +kernel
theorem dX11_gives_13 : decode cX11_gives 13 = .ok (.iload_n 2, 1) := by decide +kernel
theorem dX11_gives_14 : decode cX11_gives 14 = .ok (.iconst 0, 1) := by decide +kernel
theorem dX11_gives_15 : decode cX11_gives 15 = .ok (.invokevirtual 115, 3) := by decide +kernel
theorem dX11_gives_18 : decode cX11_gives 18 = .ok (.ireturn, 1) := by decide +kernel
theorem dX11_gives_19 : decode cX11_gives 19 = .ok (.aload_n 0, 1) := by decide +kernel
theorem dX11_gives_20 : decode cX11_gives 20 = .ok (.iload_n 1, 1) := by decide +kernel
theorem dX11_gives_21 : decode cX11_gives 21 = .ok (.invokevirtual 174, 3) := by decide +kernel
theorem dX11_gives_24 : decode cX11_gives 24 = .ok (.istore_n 3, 1) := by decide +kernel
theorem dX11_gives_25 : decode cX11_gives 25 = .ok (.aload_n 0, 1) := by decide +kernel
theorem dX11_gives_26 : decode cX11_gives 26 = .ok (.aload_n 0, 1) := by decide +kernel
theorem dX11_gives_27 : decode cX11_gives 27 = .ok (.iload_n 1, 1) := by decide +kernel
theorem dX11_gives_28 : decode cX11_gives 28 = .ok (.invokevirtual 154, 3) := by decide +kernel
theorem dX11_gives_31 : decode cX11_gives 31 = .ok (.iload_n 3, 1) := by decide +kernel
theorem dX11_gives_32 : decode cX11_gives 32 = .ok (.iconst 1, 1) := by decide +kernel
theorem dX11_gives_33 : decode cX11_gives 33 = .ok (.iadd, 1) := by decide +kernel
theorem dX11_gives_34 : decode cX11_gives 34 = .ok (.aload_n 0, 1) := by decide +kernel
theorem dX11_gives_35 : decode cX11_gives 35 = .ok (.aload_n 0, 1) := by decide +kernel
theorem dX11_gives_36 : decode cX11_gives 36 = .ok (.iload_n 1, 1) := by decide +kernel
theorem dX11_gives_37 : decode cX11_gives 37 = .ok (.invokevirtual 157, 3) := by decide +kernel
theorem dX11_gives_40 : decode cX11_gives 40 = .ok (.iload_n 3, 1) := by decide +kernel
theorem dX11_gives_41 : decode cX11_gives 41 = .ok (.iload_n 2, 1) := by decide +kernel
theorem dX11_gives_42 : decode cX11_gives 42 = .ok (.invokevirtual 177, 3) := by decide +kernel
theorem dX11_gives_45 : decode cX11_gives 45 = .ok (.invokevirtual 180, 3) := by decide +kernel
theorem dX11_gives_48 : decode cX11_gives 48 = .ok (.ireturn, 1) := by decide +kernel
theorem dX11_works_0 : decode cX11_works 0 = .ok (.iload_n 1, 1) := by decide +kernel
theorem dX11_works_1 : decode cX11_works 1 = .ok (.istore 4, 2) := by decide +kernel
theorem dX11_works_3 : decode cX11_works 3 = .ok (.iconst 0, 1) := by decide +kernel
theorem dX11_works_4 : decode cX11_works 4 = .ok (.istore 5, 2) := by decide +kernel
theorem dX11_works_6 : decode cX11_works 6 = .ok (.aload_n 0, 1) := by decide +kernel
theorem dX11_works_7 : decode cX11_works 7 = .ok (.getfield 7, 3) := by decide +kernel
theorem dX11_works_10 : decode cX11_works 10 = .ok (.iload 4, 2) := by decide +kernel
theorem dX11_works_12 : decode cX11_works 12 = .ok (.iaload, 1) := by decide +kernel
theorem dX11_works_13 : decode cX11_works 13 = .ok (.istore 6, 2) := by decide +kernel
theorem dX11_works_15 : decode cX11_works 15 = .ok (.iload 6, 2) := by decide +kernel
theorem dX11_works_17 : decode cX11_works 17 = .ok (.invokestatic 160, 3) := by decide +kernel
theorem dX11_works_20 : decode cX11_works 20 = .ok (.ifCond .eq 30, 3) := by decide +kernel
theorem dX11_works_23 : decode cX11_works 23 = .ok (.aload_n 0, 1) := by decide +kernel
theorem dX11_works_24 : decode cX11_works 24 = .ok (.getfield 55, 3) := by decide +kernel
theorem dX11_works_27 : decode cX11_works 27 = .ok (.iload 5, 2) := by decide +kernel
theorem dX11_works_29 : decode cX11_works 29 = .ok (.iload 6, 2) := by decide +kernel
theorem dX11_works_31 : decode cX11_works 31 = .ok (.iastore, 1) := by decide +kernel
theorem dX11_works_32 : decode cX11_works 32 = .ok (.aload_n 0, 1) := by decide +kernel
theorem dX11_works_33 : decode cX11_works 33 = .ok (.getfield 58, 3) := by decide +kernel
theorem dX11_works_36 : decode cX11_works 36 = .ok (.iload 5, 2) := by decide +kernel
theorem dX11_works_38 : decode cX11_works 38 = .ok (.bipush (-9), 2) := by decide +kernel
theorem dX11_works_40 : decode cX11_works 40 = .ok (.iastore, 1) := by decide +kernel
theorem dX11_works_41 : decode cX11_works 41 = .ok (.iinc 5 1, 3) := by decide +kernel
theorem dX11_works_44 : decode cX11_works 44 = .ok (.iinc 4 1, 3) := by decide +kernel
theorem dX11_works_47 : decode cX11_works 47 = .ok (.goto (-41), 3) := by decide +kernel
theorem dX11_works_50 : decode cX11_works 50 = .ok (.aload_n 0, 1) := by decide +kernel
theorem dX11_works_51 : decode cX11_works 51 = .ok (.iload 4, 2) := by decide +kernel
theorem dX11_works_53 : decode cX11_works 53 = .ok (.iload_n 2, 1) := by decide +kernel
theorem dX11_works_54 : decode cX11_works 54 = .ok (.iload_n 3, 1) := by decide +kernel
theorem dX11_works_55 : decode cX11_works 55 = .ok (.invokevirtual 163, 3) := by decide +kernel
theorem dX11_works_58 : decode cX11_works 58 = .ok (.istore 7, 2) := by decide +kernel
theorem dX11_works_60 : decode cX11_works 60 = .ok (.aload_n 0, 1) := by decide +kernel
theorem dX11_works_61 : decode cX11_works 61 = .ok (.iload 4, 2) := by decide +kernel
theorem dX11_works_63 : decode cX11_works 63 = .ok (.invokevirtual 127, 3) := by decide +kernel
theorem dX11_works_66 : decode cX11_works 66 = .ok (.istore 4, 2) := by decide +kernel
theorem dX11_works_68 : decode cX11_works 68 = .ok (.iconst 1, 1) := by decide +kernel
theorem dX11_works_69 : decode cX11_works 69 = .ok (.istore 8, 2) := by decide +kernel
theorem dX11_works_71 : decode cX11_works 71 = .ok (.iload 5, 2) := by decide +kernel
theorem dX11_works_73 : decode cX11_works 73 = .ok (.ifCond .le 136, 3) := by decide +kernel
theorem dX11_works_76 : decode cX11_works 76 = .ok (.iload 8, 2) := by decide +kernel
theorem dX11_works_78 : decode cX11_works 78 = .ok (.ifCond .eq 131, 3) := by decide +kernel
theorem dX11_works_81 : decode cX11_works 81 = .ok (.aload_n 0, 1) := by decide +kernel
theorem dX11_works_82 : decode cX11_works 82 = .ok (.getfield 55, 3) := by decide +kernel
theorem dX11_works_85 : decode cX11_works 85 = .ok (.iload 5, 2) := by decide +kernel
theorem dX11_works_87 : decode cX11_works 87 = .ok (.iconst 1, 1) := by decide +kernel
theorem dX11_works_88 : decode cX11_works 88 = .ok (.isub, 1) := by decide +kernel
theorem dX11_works_89 : decode cX11_works 89 = .ok (.iaload, 1) := by decide +kernel
theorem dX11_works_90 : decode cX11_works 90 = .ok (.istore 9, 2) := by decide +kernel
theorem dX11_works_92 : decode cX11_works 92 = .ok (.aload_n 0, 1) := by decide +kernel
theorem dX11_works_93 : decode cX11_works 93 = .ok (.getfield 58, 3) := by decide +kernel
theorem dX11_works_96 : decode cX11_works 96 = .ok (.iload 5, 2) := by decide +kernel
theorem dX11_works_98 : decode cX11_works 98 = .ok (.iconst 1, 1) := by decide +kernel
theorem dX11_works_99 : decode cX11_works 99 = .ok (.isub, 1) := by decide +kernel
theorem dX11_works_100 : decode cX11_works 100 = .ok (.iaload, 1) := by decide +kernel
theorem dX11_works_101 : decode cX11_works 101 = .ok (.istore 10, 2) := by decide +kernel
theorem dX11_works_103 : decode cX11_works 103 = .ok (.iload 9, 2) := by decide +kernel
theorem dX11_works_105 : decode cX11_works 105 = .ok (.bipush 46, 2) := by decide +kernel
theorem dX11_works_107 : decode cX11_works 107 = .ok (.if_icmp .eq 10, 3) := by decide +kernel
theorem dX11_works_110 : decode cX11_works 110 = .ok (.iload 9, 2) := by decide +kernel
theorem dX11_works_112 : decode cX11_works 112 = .ok (.bipush 44, 2) := by decide +kernel
theorem dX11_works_114 : decode cX11_works 114 = .ok (.if_icmp .ne 25, 3) := by decide +kernel
theorem dX11_works_117 : decode cX11_works 117 = .ok (.iload 10, 2) := by decide +kernel
theorem dX11_works_119 : decode cX11_works 119 = .ok (.ifCond .ge 20, 3) := by decide +kernel
theorem dX11_works_122 : decode cX11_works 122 = .ok (.aload_n 0, 1) := by decide +kernel
theorem dX11_works_123 : decode cX11_works 123 = .ok (.getfield 58, 3) := by decide +kernel
theorem dX11_works_126 : decode cX11_works 126 = .ok (.iload 5, 2) := by decide +kernel
theorem dX11_works_128 : decode cX11_works 128 = .ok (.iconst 1, 1) := by decide +kernel
theorem dX11_works_129 : decode cX11_works 129 = .ok (.isub, 1) := by decide +kernel
theorem dX11_works_130 : decode cX11_works 130 = .ok (.iload 7, 2) := by decide +kernel
theorem dX11_works_132 : decode cX11_works 132 = .ok (.iastore, 1) := by decide +kernel
theorem dX11_works_133 : decode cX11_works 133 = .ok (.iconst 0, 1) := by decide +kernel
theorem dX11_works_134 : decode cX11_works 134 = .ok (.istore 8, 2) := by decide +kernel
theorem dX11_works_136 : decode cX11_works 136 = .ok (.goto 70, 3) := by decide +kernel
theorem dX11_works_139 : decode cX11_works 139 = .ok (.iload 9, 2) := by decide +kernel
theorem dX11_works_141 : decode cX11_works 141 = .ok (.bipush 60, 2) := by decide +kernel
theorem dX11_works_143 : decode cX11_works 143 = .ok (.if_icmp .ne 13, 3) := by decide +kernel
theorem dX11_works_146 : decode cX11_works 146 = .ok (.aload_n 0, 1) := by decide +kernel
theorem dX11_works_147 : decode cX11_works 147 = .ok (.iload 7, 2) := by decide +kernel
theorem dX11_works_149 : decode cX11_works 149 = .ok (.iconst 3, 1) := by decide +kernel
theorem dX11_works_150 : decode cX11_works 150 = .ok (.invokevirtual 167, 3) := by decide +kernel
theorem dX11_works_153 : decode cX11_works 153 = .ok (.goto 48, 3) := by decide +kernel
theorem dX11_works_156 : decode cX11_works 156 = .ok (.iload 9, 2) := by decide +kernel
theorem dX11_works_158 : decode cX11_works 158 = .ok (.bipush 62, 2) := by decide +kernel
theorem dX11_works_160 : decode cX11_works 160 = .ok (.if_icmp .ne 13, 3) := by decide +kernel
theorem dX11_works_163 : decode cX11_works 163 = .ok (.aload_n 0, 1) := by decide +kernel
theorem dX11_works_164 : decode cX11_works 164 = .ok (.iload 7, 2) := by decide +kernel
theorem dX11_works_166 : decode cX11_works 166 = .ok (.iconst 4, 1) := by decide +kernel
theorem dX11_works_167 : decode cX11_works 167 = .ok (.invokevirtual 167, 3) := by decide +kernel
theorem dX11_works_170 : decode cX11_works 170 = .ok (.goto 31, 3) := by decide +kernel
theorem dX11_works_173 : decode cX11_works 173 = .ok (.iload 9, 2) := by decide +kernel
theorem dX11_works_175 : decode cX11_works 175 = .ok (.bipush 44, 2) := by decide +kernel
theorem dX11_works_177 : decode cX11_works 177 = .ok (.if_icmp .ne 16, 3) := by decide +kernel
theorem dX11_works_180 : decode cX11_works 180 = .ok (.aload_n 0, 1) := by decide +kernel
theorem dX11_works_181 : decode cX11_works 181 = .ok (.iconst 5, 1) := by decide +kernel
theorem dX11_works_182 : decode cX11_works 182 = .ok (.iload 10, 2) := by decide +kernel
theorem dX11_works_184 : decode cX11_works 184 = .ok (.iload 7, 2) := by decide +kernel
theorem dX11_works_186 : decode cX11_works 186 = .ok (.iconst 0, 1) := by decide +kernel
theorem dX11_works_187 : decode cX11_works 187 = .ok (.invokevirtual 115, 3) := by decide +kernel
theorem dX11_works_190 : decode cX11_works 190 = .ok (.goto 11, 3) := by decide +kernel
theorem dX11_works_193 : decode cX11_works 193 = .ok (.aload_n 0, 1) := by decide +kernel
theorem dX11_works_194 : decode cX11_works 194 = .ok (.iload 10, 2) := by decide +kernel
theorem dX11_works_196 : decode cX11_works 196 = .ok (.iload 7, 2) := by decide +kernel
theorem dX11_works_198 : decode cX11_works 198 = .ok (.invokevirtual 183, 3) := by decide +kernel
theorem dX11_works_201 : decode cX11_works 201 = .ok (.istore 7, 2) := by decide +kernel
theorem dX11_works_203 : decode cX11_works 203 = .ok (.iinc 5 (-1), 3) := by decide +kernel
theorem dX11_works_206 : decode cX11_works 206 = .ok (.goto (-135), 3) := by decide +kernel
theorem dX11_works_209 : decode cX11_works 209 = .ok (.iload 8, 2) := by decide +kernel
theorem dX11_works_211 : decode cX11_works 211 = .ok (.ifCond .eq 12, 3) := by decide +kernel
theorem dX11_works_214 : decode cX11_works 214 = .ok (.aload_n 0, 1) := by decide +kernel
theorem dX11_works_215 : decode cX11_works 215 = .ok (.iload 4, 2) := by decide +kernel
theorem dX11_works_217 : decode cX11_works 217 = .ok (.putfield 171, 3) := by decide +kernel
theorem dX11_works_220 : decode cX11_works 220 = .ok (.iload 7, 2) := by decide +kernel
theorem dX11_works_222 : decode cX11_works 222 = .ok (.ireturn, 1) := by decide +kernel
theorem dX11_works_223 : decode cX11_works 223 = .ok (.goto (-217), 3) := by decide +kernel
theorem dX11_checks_0 : decode cX11_checks 0 = .ok (.aload_n 0, 1) := by decide +kernel
theorem dX11_checks_1 : decode cX11_checks 1 = .ok (.aload_n 0, 1) := by decide +kernel
theorem dX11_checks_2 : decode cX11_checks 2 = .ok (.getfield 186, 3) := by decide +kernel
theorem dX11_checks_5 : decode cX11_checks 5 = .ok (.ifCond .ne 14, 3) := by decide +kernel
theorem dX11_checks_8 : decode cX11_checks 8 = .ok (.aload_n 0, 1) := by decide +kernel
theorem dX11_checks_9 : decode cX11_checks 9 = .ok (.getfield 133, 3) := by decide +kernel
theorem dX11_checks_12 : decode cX11_checks 12 = .ok (.iload_n 1, 1) := by decide +kernel
theorem dX11_checks_13 : decode cX11_checks 13 = .ok (.isub, 1) := by decide +kernel
theorem dX11_checks_14 : decode cX11_checks 14 = .ok (.bipush 50, 2) := by decide +kernel
theorem dX11_checks_16 : decode cX11_checks 16 = .ok (.if_icmp .le 7, 3) := by decide +kernel
theorem dX11_checks_19 : decode cX11_checks 19 = .ok (.iconst 1, 1) := by decide +kernel
theorem dX11_checks_20 : decode cX11_checks 20 = .ok (.goto 4, 3) := by decide +kernel
theorem dX11_checks_23 : decode cX11_checks 23 = .ok (.iconst 0, 1) := by decide +kernel
theorem dX11_checks_24 : decode cX11_checks 24 = .ok (.putfield 186, 3) := by decide +kernel
theorem dX11_checks_27 : decode cX11_checks 27 = .ok (.return_, 1) := by decide +kernel
theorem dX11_tellsSign_0 : decode cX11_tellsSign 0 = .ok (.aload_n 0, 1) := by decide +kernel
theorem dX11_tellsSign_1 : decode cX11_tellsSign 1 = .ok (.iload_n 1, 1) := by decide +kernel
theorem dX11_tellsSign_2 : decode cX11_tellsSign 2 = .ok (.invokevirtual 151, 3) := by decide +kernel
theorem dX11_tellsSign_5 : decode cX11_tellsSign 5 = .ok (.tableswitch 141 0 6 #[43, 84, 96, 105, 114, 123, 132], 43) := by decide +kernel
theorem dX11_tellsSign_48 : decode cX11_tellsSign 48 = .ok (.aload_n 0, 1) := by decide +kernel
theorem dX11_tellsSign_49 : decode cX11_tellsSign 49 = .ok (.aload_n 0, 1) := by decide +kernel
theorem dX11_tellsSign_50 : decode cX11_tellsSign 50 = .ok (.getfield 186, 3) := by decide +kernel
theorem dX11_tellsSign_53 : decode cX11_tellsSign 53 = .ok (.ifCond .ne 13, 3) := by decide +kernel
theorem dX11_tellsSign_56 : decode cX11_tellsSign 56 = .ok (.aload_n 0, 1) := by decide +kernel
theorem dX11_tellsSign_57 : decode cX11_tellsSign 57 = .ok (.iload_n 1, 1) := by decide +kernel
theorem dX11_tellsSign_58 : decode cX11_tellsSign 58 = .ok (.invokevirtual 154, 3) := by decide +kernel
theorem dX11_tellsSign_61 : decode cX11_tellsSign 61 = .ok (.bipush 9, 2) := by decide +kernel
theorem dX11_tellsSign_63 : decode cX11_tellsSign 63 = .ok (.if_icmp .le 7, 3) := by decide +kernel
theorem dX11_tellsSign_66 : decode cX11_tellsSign 66 = .ok (.iconst 1, 1) := by decide +kernel
theorem dX11_tellsSign_67 : decode cX11_tellsSign 67 = .ok (.goto 4, 3) := by decide +kernel
theorem dX11_tellsSign_70 : decode cX11_tellsSign 70 = .ok (.iconst 0, 1) := by decide +kernel
theorem dX11_tellsSign_71 : decode cX11_tellsSign 71 = .ok (.putfield 186, 3) := by decide +kernel
theorem dX11_tellsSign_74 : decode cX11_tellsSign 74 = .ok (.aload_n 0, 1) := by decide +kernel
theorem dX11_tellsSign_75 : decode cX11_tellsSign 75 = .ok (.bipush 48, 2) := by decide +kernel
theorem dX11_tellsSign_77 : decode cX11_tellsSign 77 = .ok (.aload_n 0, 1) := by decide +kernel
theorem dX11_tellsSign_78 : decode cX11_tellsSign 78 = .ok (.iload_n 1, 1) := by decide +kernel
theorem dX11_tellsSign_79 : decode cX11_tellsSign 79 = .ok (.invokevirtual 154, 3) := by decide +kernel
theorem dX11_tellsSign_82 : decode cX11_tellsSign 82 = .ok (.iadd, 1) := by decide +kernel
theorem dX11_tellsSign_83 : decode cX11_tellsSign 83 = .ok (.invokevirtual 136, 3) := by decide +kernel
theorem dX11_tellsSign_86 : decode cX11_tellsSign 86 = .ok (.goto 88, 3) := by decide +kernel
theorem dX11_tellsSign_89 : decode cX11_tellsSign 89 = .ok (.aload_n 0, 1) := by decide +kernel
theorem dX11_tellsSign_90 : decode cX11_tellsSign 90 = .ok (.aload_n 0, 1) := by decide +kernel
theorem dX11_tellsSign_91 : decode cX11_tellsSign 91 = .ok (.iload_n 1, 1) := by decide +kernel
theorem dX11_tellsSign_92 : decode cX11_tellsSign 92 = .ok (.invokevirtual 154, 3) := by decide +kernel
theorem dX11_tellsSign_95 : decode cX11_tellsSign 95 = .ok (.invokevirtual 136, 3) := by decide +kernel
theorem dX11_tellsSign_98 : decode cX11_tellsSign 98 = .ok (.goto 76, 3) := by decide +kernel
theorem dX11_tellsSign_101 : decode cX11_tellsSign 101 = .ok (.aload_n 0, 1) := by decide +kernel
theorem dX11_tellsSign_102 : decode cX11_tellsSign 102 = .ok (.bipush 46, 2) := by decide +kernel
theorem dX11_tellsSign_104 : decode cX11_tellsSign 104 = .ok (.invokevirtual 136, 3) := by decide +kernel
theorem dX11_tellsSign_107 : decode cX11_tellsSign 107 = .ok (.goto 67, 3) := by decide +kernel
theorem dX11_tellsSign_110 : decode cX11_tellsSign 110 = .ok (.aload_n 0, 1) := by decide +kernel
theorem dX11_tellsSign_111 : decode cX11_tellsSign 111 = .ok (.bipush 60, 2) := by decide +kernel
theorem dX11_tellsSign_113 : decode cX11_tellsSign 113 = .ok (.invokevirtual 136, 3) := by decide +kernel
theorem dX11_tellsSign_116 : decode cX11_tellsSign 116 = .ok (.goto 58, 3) := by decide +kernel
theorem dX11_tellsSign_119 : decode cX11_tellsSign 119 = .ok (.aload_n 0, 1) := by decide +kernel
theorem dX11_tellsSign_120 : decode cX11_tellsSign 120 = .ok (.bipush 62, 2) := by decide +kernel
theorem dX11_tellsSign_122 : decode cX11_tellsSign 122 = .ok (.invokevirtual 136, 3) := by decide +kernel
theorem dX11_tellsSign_125 : decode cX11_tellsSign 125 = .ok (.goto 49, 3) := by decide +kernel
theorem dX11_tellsSign_128 : decode cX11_tellsSign 128 = .ok (.aload_n 0, 1) := by decide +kernel
theorem dX11_tellsSign_129 : decode cX11_tellsSign 129 = .ok (.bipush 44, 2) := by decide +kernel
theorem dX11_tellsSign_131 : decode cX11_tellsSign 131 = .ok (.invokevirtual 136, 3) := by decide +kernel
theorem dX11_tellsSign_134 : decode cX11_tellsSign 134 = .ok (.goto 40, 3) := by decide +kernel
theorem dX11_tellsSign_137 : decode cX11_tellsSign 137 = .ok (.aload_n 0, 1) := by decide +kernel
theorem dX11_tellsSign_138 : decode cX11_tellsSign 138 = .ok (.bipush 42, 2) := by decide +kernel
theorem dX11_tellsSign_140 : decode cX11_tellsSign 140 = .ok (.invokevirtual 136, 3) := by decide +kernel
theorem dX11_tellsSign_143 : decode cX11_tellsSign 143 = .ok (.goto 31, 3) := by decide +kernel
theorem dX11_tellsSign_146 : decode cX11_tellsSign 146 = .ok (.aload_n 0, 1) := by decide +kernel
theorem dX11_tellsSign_147 : decode cX11_tellsSign 147 = .ok (.aload_n 0, 1) := by decide +kernel
theorem dX11_tellsSign_148 : decode cX11_tellsSign 148 = .ok (.getfield 186, 3) := by decide +kernel
theorem dX11_tellsSign_151 : decode cX11_tellsSign 151 = .ok (.ifCond .ne 9, 3) := by decide +kernel
theorem dX11_tellsSign_154 : decode cX11_tellsSign 154 = .ok (.iload_n 2, 1) := by decide +kernel
theorem dX11_tellsSign_155 : decode cX11_tellsSign 155 = .ok (.bipush 10, 2) := by decide +kernel
theorem dX11_tellsSign_157 : decode cX11_tellsSign 157 = .ok (.if_icmp .lt 7, 3) := by decide +kernel
theorem dX11_tellsSign_160 : decode cX11_tellsSign 160 = .ok (.iconst 1, 1) := by decide +kernel
theorem dX11_tellsSign_161 : decode cX11_tellsSign 161 = .ok (.goto 4, 3) := by decide +kernel
theorem dX11_tellsSign_164 : decode cX11_tellsSign 164 = .ok (.iconst 0, 1) := by decide +kernel
theorem dX11_tellsSign_165 : decode cX11_tellsSign 165 = .ok (.putfield 186, 3) := by decide +kernel
theorem dX11_tellsSign_168 : decode cX11_tellsSign 168 = .ok (.aload_n 0, 1) := by decide +kernel
theorem dX11_tellsSign_169 : decode cX11_tellsSign 169 = .ok (.bipush 92, 2) := by decide +kernel
theorem dX11_tellsSign_171 : decode cX11_tellsSign 171 = .ok (.invokevirtual 136, 3) := by decide +kernel
theorem dX11_tellsSign_174 : decode cX11_tellsSign 174 = .ok (.return_, 1) := by decide +kernel
theorem dX11_tells_0 : decode cX11_tells 0 = .ok (.iconst 1, 1) := by decide +kernel
theorem dX11_tells_1 : decode cX11_tells 1 = .ok (.istore 4, 2) := by decide +kernel
theorem dX11_tells_3 : decode cX11_tells 3 = .ok (.aload_n 0, 1) := by decide +kernel
theorem dX11_tells_4 : decode cX11_tells 4 = .ok (.getfield 61, 3) := by decide +kernel
theorem dX11_tells_7 : decode cX11_tells 7 = .ok (.iconst 0, 1) := by decide +kernel
theorem dX11_tells_8 : decode cX11_tells 8 = .ok (.iload_n 1, 1) := by decide +kernel
theorem dX11_tells_9 : decode cX11_tells 9 = .ok (.iastore, 1) := by decide +kernel
theorem dX11_tells_10 : decode cX11_tells 10 = .ok (.aload_n 0, 1) := by decide +kernel
theorem dX11_tells_11 : decode cX11_tells 11 = .ok (.getfield 64, 3) := by decide +kernel
theorem dX11_tells_14 : decode cX11_tells 14 = .ok (.iconst 0, 1) := by decide +kernel
theorem dX11_tells_15 : decode cX11_tells 15 = .ok (.iload_n 2, 1) := by decide +kernel
theorem dX11_tells_16 : decode cX11_tells 16 = .ok (.iastore, 1) := by decide +kernel
theorem dX11_tells_17 : decode cX11_tells 17 = .ok (.iload 4, 2) := by decide +kernel
theorem dX11_tells_19 : decode cX11_tells 19 = .ok (.ifCond .le 182, 3) := by decide +kernel
theorem dX11_tells_22 : decode cX11_tells 22 = .ok (.aload_n 0, 1) := by decide +kernel
theorem dX11_tells_23 : decode cX11_tells 23 = .ok (.getfield 186, 3) := by decide +kernel
theorem dX11_tells_26 : decode cX11_tells 26 = .ok (.ifCond .ne 175, 3) := by decide +kernel
theorem dX11_tells_29 : decode cX11_tells 29 = .ok (.iinc 4 (-1), 3) := by decide +kernel
theorem dX11_tells_32 : decode cX11_tells 32 = .ok (.aload_n 0, 1) := by decide +kernel
theorem dX11_tells_33 : decode cX11_tells 33 = .ok (.getfield 61, 3) := by decide +kernel
theorem dX11_tells_36 : decode cX11_tells 36 = .ok (.iload 4, 2) := by decide +kernel
theorem dX11_tells_38 : decode cX11_tells 38 = .ok (.iaload, 1) := by decide +kernel
theorem dX11_tells_39 : decode cX11_tells 39 = .ok (.istore 5, 2) := by decide +kernel
theorem dX11_tells_41 : decode cX11_tells 41 = .ok (.aload_n 0, 1) := by decide +kernel
theorem dX11_tells_42 : decode cX11_tells 42 = .ok (.getfield 64, 3) := by decide +kernel
theorem dX11_tells_45 : decode cX11_tells 45 = .ok (.iload 4, 2) := by decide +kernel
theorem dX11_tells_47 : decode cX11_tells 47 = .ok (.iaload, 1) := by decide +kernel
theorem dX11_tells_48 : decode cX11_tells 48 = .ok (.istore 6, 2) := by decide +kernel
theorem dX11_tells_50 : decode cX11_tells 50 = .ok (.aload_n 0, 1) := by decide +kernel
theorem dX11_tells_51 : decode cX11_tells 51 = .ok (.iload 5, 2) := by decide +kernel
theorem dX11_tells_53 : decode cX11_tells 53 = .ok (.iload 6, 2) := by decide +kernel
theorem dX11_tells_55 : decode cX11_tells 55 = .ok (.invokevirtual 190, 3) := by decide +kernel
theorem dX11_tells_58 : decode cX11_tells 58 = .ok (.aload_n 0, 1) := by decide +kernel
theorem dX11_tells_59 : decode cX11_tells 59 = .ok (.iload_n 3, 1) := by decide +kernel
theorem dX11_tells_60 : decode cX11_tells 60 = .ok (.invokevirtual 194, 3) := by decide +kernel
theorem dX11_tells_63 : decode cX11_tells 63 = .ok (.aload_n 0, 1) := by decide +kernel
theorem dX11_tells_64 : decode cX11_tells 64 = .ok (.iload 5, 2) := by decide +kernel
theorem dX11_tells_66 : decode cX11_tells 66 = .ok (.invokevirtual 151, 3) := by decide +kernel
theorem dX11_tells_69 : decode cX11_tells 69 = .ok (.istore 7, 2) := by decide +kernel
theorem dX11_tells_71 : decode cX11_tells 71 = .ok (.aload_n 0, 1) := by decide +kernel
theorem dX11_tells_72 : decode cX11_tells 72 = .ok (.getfield 186, 3) := by decide +kernel
theorem dX11_tells_75 : decode cX11_tells 75 = .ok (.ifCond .ne 40, 3) := by decide +kernel
theorem dX11_tells_78 : decode cX11_tells 78 = .ok (.iload 7, 2) := by decide +kernel
theorem dX11_tells_80 : decode cX11_tells 80 = .ok (.iconst 2, 1) := by decide +kernel
theorem dX11_tells_81 : decode cX11_tells 81 = .ok (.if_icmp .eq 9, 3) := by decide +kernel
theorem dX11_tells_84 : decode cX11_tells 84 = .ok (.iload 7, 2) := by decide +kernel
theorem dX11_tells_86 : decode cX11_tells 86 = .ok (.iconst 5, 1) := by decide +kernel
theorem dX11_tells_87 : decode cX11_tells 87 = .ok (.if_icmp .ne 28, 3) := by decide +kernel
theorem dX11_tells_90 : decode cX11_tells 90 = .ok (.aload_n 0, 1) := by decide +kernel
theorem dX11_tells_91 : decode cX11_tells 91 = .ok (.getfield 61, 3) := by decide +kernel
theorem dX11_tells_94 : decode cX11_tells 94 = .ok (.iload 4, 2) := by decide +kernel
theorem dX11_tells_96 : decode cX11_tells 96 = .ok (.aload_n 0, 1) := by decide +kernel
theorem dX11_tells_97 : decode cX11_tells 97 = .ok (.iload 5, 2) := by decide +kernel
theorem dX11_tells_99 : decode cX11_tells 99 = .ok (.invokevirtual 157, 3) := by decide +kernel
theorem dX11_tells_102 : decode cX11_tells 102 = .ok (.iastore, 1) := by decide +kernel
theorem dX11_tells_103 : decode cX11_tells 103 = .ok (.aload_n 0, 1) := by decide +kernel
theorem dX11_tells_104 : decode cX11_tells 104 = .ok (.getfield 64, 3) := by decide +kernel
theorem dX11_tells_107 : decode cX11_tells 107 = .ok (.iload 4, 2) := by decide +kernel
theorem dX11_tells_109 : decode cX11_tells 109 = .ok (.iload 6, 2) := by decide +kernel
theorem dX11_tells_111 : decode cX11_tells 111 = .ok (.iastore, 1) := by decide +kernel
theorem dX11_tells_112 : decode cX11_tells 112 = .ok (.iinc 4 1, 3) := by decide +kernel
theorem dX11_tells_115 : decode cX11_tells 115 = .ok (.aload_n 0, 1) := by decide +kernel
theorem dX11_tells_116 : decode cX11_tells 116 = .ok (.getfield 186, 3) := by decide +kernel
theorem dX11_tells_119 : decode cX11_tells 119 = .ok (.ifCond .ne 79, 3) := by decide +kernel
theorem dX11_tells_122 : decode cX11_tells 122 = .ok (.iload 7, 2) := by decide +kernel
theorem dX11_tells_124 : decode cX11_tells 124 = .ok (.bipush 7, 2) := by decide +kernel
theorem dX11_tells_126 : decode cX11_tells 126 = .ok (.if_icmp .eq 15, 3) := by decide +kernel
theorem dX11_tells_129 : decode cX11_tells 129 = .ok (.iload 7, 2) := by decide +kernel
theorem dX11_tells_131 : decode cX11_tells 131 = .ok (.iconst 2, 1) := by decide +kernel
theorem dX11_tells_132 : decode cX11_tells 132 = .ok (.if_icmp .lt 66, 3) := by decide +kernel
theorem dX11_tells_135 : decode cX11_tells 135 = .ok (.iload 7, 2) := by decide +kernel
theorem dX11_tells_137 : decode cX11_tells 137 = .ok (.iconst 5, 1) := by decide +kernel
theorem dX11_tells_138 : decode cX11_tells 138 = .ok (.if_icmp .gt 60, 3) := by decide +kernel
theorem dX11_tells_141 : decode cX11_tells 141 = .ok (.aload_n 0, 1) := by decide +kernel
theorem dX11_tells_142 : decode cX11_tells 142 = .ok (.getfield 61, 3) := by decide +kernel
theorem dX11_tells_145 : decode cX11_tells 145 = .ok (.iload 4, 2) := by decide +kernel
theorem dX11_tells_147 : decode cX11_tells 147 = .ok (.iload 7, 2) := by decide +kernel
theorem dX11_tells_149 : decode cX11_tells 149 = .ok (.bipush 7, 2) := by decide +kernel
theorem dX11_tells_151 : decode cX11_tells 151 = .ok (.if_icmp .ne 14, 3) := by decide +kernel
theorem dX11_tells_154 : decode cX11_tells 154 = .ok (.aload_n 0, 1) := by decide +kernel
theorem dX11_tells_155 : decode cX11_tells 155 = .ok (.iload 5, 2) := by decide +kernel
theorem dX11_tells_157 : decode cX11_tells 157 = .ok (.iload 6, 2) := by decide +kernel
theorem dX11_tells_159 : decode cX11_tells 159 = .ok (.invokevirtual 183, 3) := by decide +kernel
theorem dX11_tells_162 : decode cX11_tells 162 = .ok (.goto 9, 3) := by decide +kernel
theorem dX11_tells_165 : decode cX11_tells 165 = .ok (.aload_n 0, 1) := by decide +kernel
theorem dX11_tells_166 : decode cX11_tells 166 = .ok (.iload 5, 2) := by decide +kernel
theorem dX11_tells_168 : decode cX11_tells 168 = .ok (.invokevirtual 154, 3) := by decide +kernel
theorem dX11_tells_171 : decode cX11_tells 171 = .ok (.iastore, 1) := by decide +kernel
theorem dX11_tells_172 : decode cX11_tells 172 = .ok (.aload_n 0, 1) := by decide +kernel
theorem dX11_tells_173 : decode cX11_tells 173 = .ok (.getfield 64, 3) := by decide +kernel
theorem dX11_tells_176 : decode cX11_tells 176 = .ok (.iload 4, 2) := by decide +kernel
theorem dX11_tells_178 : decode cX11_tells 178 = .ok (.iload 7, 2) := by decide +kernel
theorem dX11_tells_180 : decode cX11_tells 180 = .ok (.bipush 7, 2) := by decide +kernel
theorem dX11_tells_182 : decode cX11_tells 182 = .ok (.if_icmp .ne 10, 3) := by decide +kernel
theorem dX11_tells_185 : decode cX11_tells 185 = .ok (.iload 6, 2) := by decide +kernel
theorem dX11_tells_187 : decode cX11_tells 187 = .ok (.iconst 1, 1) := by decide +kernel
theorem dX11_tells_188 : decode cX11_tells 188 = .ok (.iadd, 1) := by decide +kernel
theorem dX11_tells_189 : decode cX11_tells 189 = .ok (.goto 5, 3) := by decide +kernel
theorem dX11_tells_192 : decode cX11_tells 192 = .ok (.iload 6, 2) := by decide +kernel
theorem dX11_tells_194 : decode cX11_tells 194 = .ok (.iastore, 1) := by decide +kernel
theorem dX11_tells_195 : decode cX11_tells 195 = .ok (.iinc 4 1, 3) := by decide +kernel
theorem dX11_tells_198 : decode cX11_tells 198 = .ok (.goto (-181), 3) := by decide +kernel
theorem dX11_tells_201 : decode cX11_tells 201 = .ok (.return_, 1) := by decide +kernel
set_option maxHeartbeats 4000000 in
set_option maxRecDepth 20000 in
theorem b_worksData_186 {p : Program} {l : Launch} {e : Env} {s : State} {m : MethodId} {args : Array Value} {below : List Frame} {meth : Method} {c : Code} {D : va_G} {cy : Nat → ClassId} {ad : Nat → Nat} {q : Int32 × MS} (C : vC p s m args meth c cX11_worksData 11 (some .int) RX11 D (cyT cy)) (hi : ∀ i j, i < 34 → j < 34 → ad i = ad j → i = j) {k194 : Int32 → Int32 → Int32 → Int32 → Int32 → Int32 → MS → Option (Int32 × MS)} (hk194 : ∀ (x2 : Int32) (x3 : Int32) (x4 : Int32) (x5 : Int32) (x8 : Int32) (s0 : Int32)  (σ : MS), k194 x2 x3 x4 x5 x8 s0 σ = some q → V p l e { frames := 3, cells := 0, slots := 0, locals := 64 } s m args below meth c D (inAd ad) 11 (MQ below (vQ D (inAd ad) (some (.int q.1)) (wm cy ad q.2)) args s 0 0 (inAd ad)) 0 0 (wm cy ad σ) 194 [(0, .ref (ad 0)), (2, .int x2), (3, .int x3), (4, .int x4), (5, .int x5), (8, .int x8)] [.int s0]) : ∀ (x2 : Int32) (x3 : Int32) (x4 : Int32) (x5 : Int32) (x7 : Int32) (x8 : Int32) (x10 : Int32) (s0 : Int32) (σ : MS), B_worksData_186 k194 x2 x3 x4 x5 x7 x8 x10 s0 σ = some q → V p l e { frames := 3, cells := 0, slots := 0, locals := 64 } s m args below meth c D (inAd ad) 11 (MQ below (vQ D (inAd ad) (some (.int q.1)) (wm cy ad q.2)) args s 0 0 (inAd ad)) 0 0 (wm cy ad σ) 186 [(0, .ref (ad 0)), (2, .int x2), (3, .int x3), (4, .int x4), (5, .int x5), (7, .int x7), (8, .int x8), (10, .int x10)] [.int s0, .ref (ad 0)] := by
  intro x2 x3 x4 x5 x7 x8 x10 s0 σ h
  rw [B_worksData_186] at h
  refine v_iload C 7 dX11_worksData_186 rfl ?_
  refine v_iload C 5 dX11_worksData_188 rfl ?_
  refine v_iconst C 0 dX11_worksData_190 (by decide) ?_
  obtain ⟨q1, hq1, h⟩ := bd_of h
  refine vm_call C [.int s0, .int x10, .int x7, .int 0] [] (c_lays hi _ _ _ _ _ hq1) hY_lays ml_115 ⟨Nat.le_of_ble_eq_true rfl, Nat.le_of_ble_eq_true rfl⟩ ⟨Nat.zero_le _, Nat.zero_le _⟩ rfl rfl (Nat.le_of_ble_eq_true rfl) dX11_worksData_191 (wm_inj hi cy _) ?_
  exact v_sub [0, 1, 2, 3, 4, 6] rfl (hk194 _ _ _ _ _ _ _ h)
set_option maxHeartbeats 4000000 in
set_option maxRecDepth 20000 in
theorem b_worksData_194 {p : Program} {l : Launch} {e : Env} {s : State} {m : MethodId} {args : Array Value} {below : List Frame} {meth : Method} {c : Code} {D : va_G} {cy : Nat → ClassId} {ad : Nat → Nat} {q : Int32 × MS} (C : vC p s m args meth c cX11_worksData 11 (some .int) RX11 D (cyT cy)) (hi : ∀ i j, i < 34 → j < 34 → ad i = ad j → i = j) {k199 : Int32 → Int32 → Int32 → Int32 → Int32 → Int32 → MS → Option (Int32 × MS)} (hk199 : ∀ (x2 : Int32) (x3 : Int32) (x4 : Int32) (x5 : Int32) (x7 : Int32) (x8 : Int32)  (σ : MS), k199 x2 x3 x4 x5 x7 x8 σ = some q → V p l e { frames := 3, cells := 0, slots := 0, locals := 64 } s m args below meth c D (inAd ad) 11 (MQ below (vQ D (inAd ad) (some (.int q.1)) (wm cy ad q.2)) args s 0 0 (inAd ad)) 0 0 (wm cy ad σ) 199 [(0, .ref (ad 0)), (2, .int x2), (3, .int x3), (4, .int x4), (5, .int x5), (7, .int x7), (8, .int x8)] []) : ∀ (x2 : Int32) (x3 : Int32) (x4 : Int32) (x5 : Int32) (x8 : Int32) (s0 : Int32) (σ : MS), B_worksData_194 k199 x2 x3 x4 x5 x8 s0 σ = some q → V p l e { frames := 3, cells := 0, slots := 0, locals := 64 } s m args below meth c D (inAd ad) 11 (MQ below (vQ D (inAd ad) (some (.int q.1)) (wm cy ad q.2)) args s 0 0 (inAd ad)) 0 0 (wm cy ad σ) 194 [(0, .ref (ad 0)), (2, .int x2), (3, .int x3), (4, .int x4), (5, .int x5), (8, .int x8)] [.int s0] := by
  intro x2 x3 x4 x5 x8 s0 σ h
  rw [B_worksData_194] at h
  refine v_istore C [(7, .int s0), (0, .ref (ad 0)), (2, .int x2), (3, .int x3), (4, .int x4), (5, .int x5), (8, .int x8)] dX11_worksData_194 (by decide) rfl ?_
  refine v_iinc C (x5 + (-1)) 5 [(5, .int (x5 + (-1))), (7, .int s0), (0, .ref (ad 0)), (2, .int x2), (3, .int x3), (4, .int x4), (8, .int x8)] dX11_worksData_196 rfl rfl (by decide) rfl ?_
  exact v_sub [2, 3, 4, 5, 0, 1, 6] rfl (hk199 _ _ _ _ _ _ _ h)
set_option maxHeartbeats 4000000 in
set_option maxRecDepth 20000 in
theorem b_worksData_199 {p : Program} {l : Launch} {e : Env} {s : State} {m : MethodId} {args : Array Value} {below : List Frame} {meth : Method} {c : Code} {D : va_G} {cy : Nat → ClassId} {ad : Nat → Nat} {q : Int32 × MS} (C : vC p s m args meth c cX11_worksData 11 (some .int) RX11 D (cyT cy)) (hi : ∀ i j, i < 34 → j < 34 → ad i = ad j → i = j) {k71 : Int32 → Int32 → Int32 → Int32 → Int32 → Int32 → MS → Option (Int32 × MS)} (hk71 : ∀ (x2 : Int32) (x3 : Int32) (x4 : Int32) (x5 : Int32) (x7 : Int32) (x8 : Int32)  (σ : MS), k71 x2 x3 x4 x5 x7 x8 σ = some q → V p l e { frames := 3, cells := 0, slots := 0, locals := 64 } s m args below meth c D (inAd ad) 11 (MQ below (vQ D (inAd ad) (some (.int q.1)) (wm cy ad q.2)) args s 0 0 (inAd ad)) 0 0 (wm cy ad σ) 71 [(0, .ref (ad 0)), (2, .int x2), (3, .int x3), (4, .int x4), (5, .int x5), (7, .int x7), (8, .int x8)] []) : ∀ (x2 : Int32) (x3 : Int32) (x4 : Int32) (x5 : Int32) (x7 : Int32) (x8 : Int32) (σ : MS), B_worksData_199 k71 x2 x3 x4 x5 x7 x8 σ = some q → V p l e { frames := 3, cells := 0, slots := 0, locals := 64 } s m args below meth c D (inAd ad) 11 (MQ below (vQ D (inAd ad) (some (.int q.1)) (wm cy ad q.2)) args s 0 0 (inAd ad)) 0 0 (wm cy ad σ) 199 [(0, .ref (ad 0)), (2, .int x2), (3, .int x3), (4, .int x4), (5, .int x5), (7, .int x7), (8, .int x8)] [] := by
  intro x2 x3 x4 x5 x7 x8 σ h
  rw [B_worksData_199] at h
  refine v_goto C 71 dX11_worksData_199 (by decide) ?_
  exact v_sub [0, 1, 2, 3, 4, 5, 6] rfl (hk71 _ _ _ _ _ _ _ h)
set_option maxHeartbeats 4000000 in
set_option maxRecDepth 20000 in
theorem b_worksData_139 {p : Program} {l : Launch} {e : Env} {s : State} {m : MethodId} {args : Array Value} {below : List Frame} {meth : Method} {c : Code} {D : va_G} {cy : Nat → ClassId} {ad : Nat → Nat} {q : Int32 × MS} (C : vC p s m args meth c cX11_worksData 11 (some .int) RX11 D (cyT cy)) (hi : ∀ i j, i < 34 → j < 34 → ad i = ad j → i = j) {k199 : Int32 → Int32 → Int32 → Int32 → Int32 → Int32 → MS → Option (Int32 × MS)} (hk199 : ∀ (x2 : Int32) (x3 : Int32) (x4 : Int32) (x5 : Int32) (x7 : Int32) (x8 : Int32)  (σ : MS), k199 x2 x3 x4 x5 x7 x8 σ = some q → V p l e { frames := 3, cells := 0, slots := 0, locals := 64 } s m args below meth c D (inAd ad) 11 (MQ below (vQ D (inAd ad) (some (.int q.1)) (wm cy ad q.2)) args s 0 0 (inAd ad)) 0 0 (wm cy ad σ) 199 [(0, .ref (ad 0)), (2, .int x2), (3, .int x3), (4, .int x4), (5, .int x5), (7, .int x7), (8, .int x8)] []) : ∀ (x2 : Int32) (x3 : Int32) (x4 : Int32) (x5 : Int32) (x7 : Int32) (x8 : Int32) (x9 : Int32) (x10 : Int32) (σ : MS), B_worksData_139 k199 x2 x3 x4 x5 x7 x8 x9 x10 σ = some q → V p l e { frames := 3, cells := 0, slots := 0, locals := 64 } s m args below meth c D (inAd ad) 11 (MQ below (vQ D (inAd ad) (some (.int q.1)) (wm cy ad q.2)) args s 0 0 (inAd ad)) 0 0 (wm cy ad σ) 139 [(0, .ref (ad 0)), (2, .int x2), (3, .int x3), (4, .int x4), (5, .int x5), (7, .int x7), (8, .int x8), (9, .int x9), (10, .int x10)] [] := by
  intro x2 x3 x4 x5 x7 x8 x9 x10 σ h
  rw [B_worksData_139] at h
  refine v_iload C 7 dX11_worksData_139 rfl ?_
  refine v_bipush C 60 dX11_worksData_141 (by decide) ?_
  refine v_icmp_ne C 156 dX11_worksData_143 (by decide) (fun c1 => ?_) (fun c1 => ?_)
  · rw [if_neg c1] at h
    refine v_iload C 7 dX11_worksData_156 rfl ?_
    refine v_bipush C 62 dX11_worksData_158 (by decide) ?_
    refine v_icmp_ne C 173 dX11_worksData_160 (by decide) (fun c2 => ?_) (fun c2 => ?_)
    · rw [if_neg c2] at h
      refine v_aload_n C 0 dX11_worksData_173 rfl rfl ?_
      refine v_iload C 7 dX11_worksData_174 rfl ?_
      refine v_bipush C 44 dX11_worksData_176 (by decide) ?_
      refine v_icmp_ne C 185 dX11_worksData_178 (by decide) (fun c3 => ?_) (fun c3 => ?_)
      · rw [if_neg c3] at h
        refine v_iconst C 2 dX11_worksData_185 (by decide) ?_
        exact v_sub [0, 1, 2, 3, 4, 5, 6, 8] rfl ((b_worksData_186 C hi (b_worksData_194 C hi hk199)) _ _ _ _ _ _ _ _ _ h)
      · rw [if_pos c3] at h
        refine v_iconst C 5 dX11_worksData_181 (by decide) ?_
        refine v_goto C 186 dX11_worksData_182 (by decide) ?_
        exact v_sub [0, 1, 2, 3, 4, 5, 6, 8] rfl ((b_worksData_186 C hi (b_worksData_194 C hi hk199)) _ _ _ _ _ _ _ _ _ h)
    · rw [if_pos c2] at h
      refine v_aload_n C 0 dX11_worksData_163 rfl rfl ?_
      refine v_iload C 5 dX11_worksData_164 rfl ?_
      refine v_iconst C 4 dX11_worksData_166 (by decide) ?_
      obtain ⟨q1, hq1, h⟩ := bd_of h
      refine vm_call C [.int x7, .int 4] [] (c_taken hi _ _ _ hq1) hY_taken ml_167 ⟨Nat.le_of_ble_eq_true rfl, Nat.le_of_ble_eq_true rfl⟩ ⟨Nat.zero_le _, Nat.zero_le _⟩ rfl rfl (Nat.le_of_ble_eq_true rfl) dX11_worksData_167 (wm_inj hi cy _) ?_
      refine v_goto C 194 dX11_worksData_170 (by decide) ?_
      exact v_sub [0, 1, 2, 3, 4, 6] rfl ((b_worksData_194 C hi hk199) _ _ _ _ _ _ _ h)
  · rw [if_pos c1] at h
    refine v_aload_n C 0 dX11_worksData_146 rfl rfl ?_
    refine v_iload C 5 dX11_worksData_147 rfl ?_
    refine v_iconst C 3 dX11_worksData_149 (by decide) ?_
    obtain ⟨q2, hq2, h⟩ := bd_of h
    refine vm_call C [.int x7, .int 3] [] (c_taken hi _ _ _ hq2) hY_taken ml_167 ⟨Nat.le_of_ble_eq_true rfl, Nat.le_of_ble_eq_true rfl⟩ ⟨Nat.zero_le _, Nat.zero_le _⟩ rfl rfl (Nat.le_of_ble_eq_true rfl) dX11_worksData_150 (wm_inj hi cy _) ?_
    refine v_goto C 194 dX11_worksData_153 (by decide) ?_
    exact v_sub [0, 1, 2, 3, 4, 6] rfl ((b_worksData_194 C hi hk199) _ _ _ _ _ _ _ h)
set_option maxHeartbeats 4000000 in
set_option maxRecDepth 20000 in
theorem b_worksData_117 {p : Program} {l : Launch} {e : Env} {s : State} {m : MethodId} {args : Array Value} {below : List Frame} {meth : Method} {c : Code} {D : va_G} {cy : Nat → ClassId} {ad : Nat → Nat} {q : Int32 × MS} (C : vC p s m args meth c cX11_worksData 11 (some .int) RX11 D (cyT cy)) (hi : ∀ i j, i < 34 → j < 34 → ad i = ad j → i = j) {k139 : Int32 → Int32 → Int32 → Int32 → Int32 → Int32 → Int32 → Int32 → MS → Option (Int32 × MS)} {k199 : Int32 → Int32 → Int32 → Int32 → Int32 → Int32 → MS → Option (Int32 × MS)} (hk139 : ∀ (x2 : Int32) (x3 : Int32) (x4 : Int32) (x5 : Int32) (x7 : Int32) (x8 : Int32) (x9 : Int32) (x10 : Int32)  (σ : MS), k139 x2 x3 x4 x5 x7 x8 x9 x10 σ = some q → V p l e { frames := 3, cells := 0, slots := 0, locals := 64 } s m args below meth c D (inAd ad) 11 (MQ below (vQ D (inAd ad) (some (.int q.1)) (wm cy ad q.2)) args s 0 0 (inAd ad)) 0 0 (wm cy ad σ) 139 [(0, .ref (ad 0)), (2, .int x2), (3, .int x3), (4, .int x4), (5, .int x5), (7, .int x7), (8, .int x8), (9, .int x9), (10, .int x10)] []) (hk199 : ∀ (x2 : Int32) (x3 : Int32) (x4 : Int32) (x5 : Int32) (x7 : Int32) (x8 : Int32)  (σ : MS), k199 x2 x3 x4 x5 x7 x8 σ = some q → V p l e { frames := 3, cells := 0, slots := 0, locals := 64 } s m args below meth c D (inAd ad) 11 (MQ below (vQ D (inAd ad) (some (.int q.1)) (wm cy ad q.2)) args s 0 0 (inAd ad)) 0 0 (wm cy ad σ) 199 [(0, .ref (ad 0)), (2, .int x2), (3, .int x3), (4, .int x4), (5, .int x5), (7, .int x7), (8, .int x8)] []) : ∀ (x2 : Int32) (x3 : Int32) (x4 : Int32) (x5 : Int32) (x7 : Int32) (x8 : Int32) (x9 : Int32) (x10 : Int32) (σ : MS), B_worksData_117 k139 k199 x2 x3 x4 x5 x7 x8 x9 x10 σ = some q → V p l e { frames := 3, cells := 0, slots := 0, locals := 64 } s m args below meth c D (inAd ad) 11 (MQ below (vQ D (inAd ad) (some (.int q.1)) (wm cy ad q.2)) args s 0 0 (inAd ad)) 0 0 (wm cy ad σ) 117 [(0, .ref (ad 0)), (2, .int x2), (3, .int x3), (4, .int x4), (5, .int x5), (7, .int x7), (8, .int x8), (9, .int x9), (10, .int x10)] [] := by
  intro x2 x3 x4 x5 x7 x8 x9 x10 σ h
  rw [B_worksData_117] at h
  refine v_iload C 8 dX11_worksData_117 rfl ?_
  refine v_if_ge C 139 dX11_worksData_119 (by decide) (fun c1 => ?_) (fun c1 => ?_)
  · rw [if_pos c1] at h
    exact v_sub [0, 1, 2, 3, 4, 5, 6, 7, 8] rfl (hk139 _ _ _ _ _ _ _ _ _ h)
  · rw [if_neg c1] at h
    refine v_aload_n C 0 dX11_worksData_122 rfl rfl ?_
    refine n_getR C fl_52 dX11_worksData_123 ?_
    refine v_iload C 4 dX11_worksData_126 rfl ?_
    refine v_iconst C 1 dX11_worksData_128 (by decide) ?_
    refine v_isub C dX11_worksData_129 ?_
    refine v_iload C 5 dX11_worksData_130 rfl ?_
    obtain ⟨g1, h⟩ := gd_of h
    refine vm_iast C 13 iI_13 (ix_in g1) dX11_worksData_132 ?_
    refine v_iconst C 0 dX11_worksData_133 (by decide) ?_
    refine v_istore C [(8, .int 0), (0, .ref (ad 0)), (2, .int x2), (3, .int x3), (4, .int x4), (5, .int x5), (7, .int x7), (9, .int x9), (10, .int x10)] dX11_worksData_134 (by decide) rfl ?_
    refine v_goto C 199 dX11_worksData_136 (by decide) ?_
    exact v_sub [1, 2, 3, 4, 5, 6, 0] rfl (hk199 _ _ _ _ _ _ _ h)
set_option maxHeartbeats 4000000 in
set_option maxRecDepth 20000 in
theorem b_worksData_202 {p : Program} {l : Launch} {e : Env} {s : State} {m : MethodId} {args : Array Value} {below : List Frame} {meth : Method} {c : Code} {D : va_G} {cy : Nat → ClassId} {ad : Nat → Nat} {q : Int32 × MS} (C : vC p s m args meth c cX11_worksData 11 (some .int) RX11 D (cyT cy)) (hi : ∀ i j, i < 34 → j < 34 → ad i = ad j → i = j) {k6 : Int32 → Int32 → Int32 → Int32 → MS → Option (Int32 × MS)} (hk6 : ∀ (x2 : Int32) (x3 : Int32) (x4 : Int32) (x5 : Int32)  (σ : MS), k6 x2 x3 x4 x5 σ = some q → V p l e { frames := 3, cells := 0, slots := 0, locals := 64 } s m args below meth c D (inAd ad) 11 (MQ below (vQ D (inAd ad) (some (.int q.1)) (wm cy ad q.2)) args s 0 0 (inAd ad)) 0 0 (wm cy ad σ) 6 [(0, .ref (ad 0)), (2, .int x2), (3, .int x3), (4, .int x4), (5, .int x5)] []) : ∀ (x2 : Int32) (x3 : Int32) (x4 : Int32) (x5 : Int32) (x7 : Int32) (x8 : Int32) (σ : MS), B_worksData_202 k6 x2 x3 x4 x5 x7 x8 σ = some q → V p l e { frames := 3, cells := 0, slots := 0, locals := 64 } s m args below meth c D (inAd ad) 11 (MQ below (vQ D (inAd ad) (some (.int q.1)) (wm cy ad q.2)) args s 0 0 (inAd ad)) 0 0 (wm cy ad σ) 202 [(0, .ref (ad 0)), (2, .int x2), (3, .int x3), (4, .int x4), (5, .int x5), (7, .int x7), (8, .int x8)] [] := by
  intro x2 x3 x4 x5 x7 x8 σ h
  rw [B_worksData_202] at h
  refine v_iload C 6 dX11_worksData_202 rfl ?_
  refine v_if_eq C 216 dX11_worksData_204 (by decide) (fun c1 => ?_) (fun c1 => ?_)
  · rw [if_pos c1] at h
    refine v_goto C 6 dX11_worksData_216 (by decide) ?_
    exact v_sub [0, 1, 2, 3, 4] rfl (hk6 _ _ _ _ _ h)
  · rw [if_neg c1] at h
    refine v_aload_n C 0 dX11_worksData_207 rfl rfl ?_
    refine v_iload C 3 dX11_worksData_208 rfl ?_
    refine n_putI C fl_171 dX11_worksData_210 ?_
    refine v_iload C 5 dX11_worksData_213 rfl ?_
    obtain rfl := Option.some.inj h
    exact v_iret C dX11_worksData_215
set_option maxHeartbeats 4000000 in
set_option maxRecDepth 20000 in
theorem l_worksData_71 {p : Program} {l : Launch} {e : Env} {s : State} {m : MethodId} {args : Array Value} {below : List Frame} {meth : Method} {c : Code} {D : va_G} {cy : Nat → ClassId} {ad : Nat → Nat} {q : Int32 × MS} (C : vC p s m args meth c cX11_worksData 11 (some .int) RX11 D (cyT cy)) (hi : ∀ i j, i < 34 → j < 34 → ad i = ad j → i = j) {k6 : Int32 → Int32 → Int32 → Int32 → MS → Option (Int32 × MS)} (hk6 : ∀ (x2 : Int32) (x3 : Int32) (x4 : Int32) (x5 : Int32)  (σ : MS), k6 x2 x3 x4 x5 σ = some q → V p l e { frames := 3, cells := 0, slots := 0, locals := 64 } s m args below meth c D (inAd ad) 11 (MQ below (vQ D (inAd ad) (some (.int q.1)) (wm cy ad q.2)) args s 0 0 (inAd ad)) 0 0 (wm cy ad σ) 6 [(0, .ref (ad 0)), (2, .int x2), (3, .int x3), (4, .int x4), (5, .int x5)] []) : ∀ (n : Nat) (x2 : Int32) (x3 : Int32) (x4 : Int32) (x5 : Int32) (x7 : Int32) (x8 : Int32) (σ : MS), L_worksData_71 k6 n x2 x3 x4 x5 x7 x8 σ = some q → V p l e { frames := 3, cells := 0, slots := 0, locals := 64 } s m args below meth c D (inAd ad) 11 (MQ below (vQ D (inAd ad) (some (.int q.1)) (wm cy ad q.2)) args s 0 0 (inAd ad)) 0 0 (wm cy ad σ) 71 [(0, .ref (ad 0)), (2, .int x2), (3, .int x3), (4, .int x4), (5, .int x5), (7, .int x7), (8, .int x8)] [] := by
  intro n
  induction n with
  | zero =>
    intro x2 x3 x4 x5 x7 x8 σ h
    rw [L_worksData_71.eq_1] at h
    cases h
  | succ n ih =>
    intro x2 x3 x4 x5 x7 x8 σ h
    rw [L_worksData_71.eq_2] at h
    refine v_iload C 4 dX11_worksData_71 rfl ?_
    refine v_if_le C 202 dX11_worksData_73 (by decide) (fun c1 => ?_) (fun c1 => ?_)
    · rw [if_pos c1] at h
      exact v_sub [0, 1, 2, 3, 4, 5, 6] rfl ((b_worksData_202 C hi hk6) _ _ _ _ _ _ _ h)
    · rw [if_neg c1] at h
      refine v_iload C 6 dX11_worksData_76 rfl ?_
      refine v_if_eq C 202 dX11_worksData_78 (by decide) (fun c2 => ?_) (fun c2 => ?_)
      · rw [if_pos c2] at h
        exact v_sub [0, 1, 2, 3, 4, 5, 6] rfl ((b_worksData_202 C hi hk6) _ _ _ _ _ _ _ h)
      · rw [if_neg c2] at h
        refine v_aload_n C 0 dX11_worksData_81 rfl rfl ?_
        refine n_getR C fl_49 dX11_worksData_82 ?_
        refine v_iload C 4 dX11_worksData_85 rfl ?_
        refine v_iconst C 1 dX11_worksData_87 (by decide) ?_
        refine v_isub C dX11_worksData_88 ?_
        obtain ⟨g1, h⟩ := gd_of h
        refine vm_iald C 12 iI_12 (ix_in g1) dX11_worksData_89 ?_
        refine v_istore C [(9, .int (σ.2.1 12 ((x5 - 1) : Int32).toNatClampNeg)), (0, .ref (ad 0)), (2, .int x2), (3, .int x3), (4, .int x4), (5, .int x5), (7, .int x7), (8, .int x8)] dX11_worksData_90 (by decide) rfl ?_
        refine v_aload_n C 1 dX11_worksData_92 rfl rfl ?_
        refine n_getR C fl_52 dX11_worksData_93 ?_
        refine v_iload C 5 dX11_worksData_96 rfl ?_
        refine v_iconst C 1 dX11_worksData_98 (by decide) ?_
        refine v_isub C dX11_worksData_99 ?_
        obtain ⟨g2, h⟩ := gd_of h
        refine vm_iald C 13 iI_13 (ix_in g2) dX11_worksData_100 ?_
        refine v_istore C [(10, .int (σ.2.1 13 ((x5 - 1) : Int32).toNatClampNeg)), (9, .int (σ.2.1 12 ((x5 - 1) : Int32).toNatClampNeg)), (0, .ref (ad 0)), (2, .int x2), (3, .int x3), (4, .int x4), (5, .int x5), (7, .int x7), (8, .int x8)] dX11_worksData_101 (by decide) rfl ?_
        refine v_iload C 1 dX11_worksData_103 rfl ?_
        refine v_bipush C 46 dX11_worksData_105 (by decide) ?_
        refine v_icmp_eq C 117 dX11_worksData_107 (by decide) (fun c3 => ?_) (fun c3 => ?_)
        · rw [if_pos c3] at h
          exact v_sub [2, 3, 4, 5, 6, 7, 8, 1, 0] rfl ((b_worksData_117 C hi (b_worksData_139 C hi (b_worksData_199 C hi ih)) (b_worksData_199 C hi ih)) _ _ _ _ _ _ _ _ _ h)
        · rw [if_neg c3] at h
          refine v_iload C 1 dX11_worksData_110 rfl ?_
          refine v_bipush C 44 dX11_worksData_112 (by decide) ?_
          refine v_icmp_ne C 139 dX11_worksData_114 (by decide) (fun c4 => ?_) (fun c4 => ?_)
          · rw [if_neg c4] at h
            exact v_sub [2, 3, 4, 5, 6, 7, 8, 1, 0] rfl ((b_worksData_139 C hi (b_worksData_199 C hi ih)) _ _ _ _ _ _ _ _ _ h)
          · rw [if_pos c4] at h
            exact v_sub [2, 3, 4, 5, 6, 7, 8, 1, 0] rfl ((b_worksData_117 C hi (b_worksData_139 C hi (b_worksData_199 C hi ih)) (b_worksData_199 C hi ih)) _ _ _ _ _ _ _ _ _ h)
set_option maxHeartbeats 4000000 in
set_option maxRecDepth 20000 in
theorem l_worksData_6 {p : Program} {l : Launch} {e : Env} {s : State} {m : MethodId} {args : Array Value} {below : List Frame} {meth : Method} {c : Code} {D : va_G} {cy : Nat → ClassId} {ad : Nat → Nat} {q : Int32 × MS} (C : vC p s m args meth c cX11_worksData 11 (some .int) RX11 D (cyT cy)) (hi : ∀ i j, i < 34 → j < 34 → ad i = ad j → i = j) : ∀ (n : Nat) (x2 : Int32) (x3 : Int32) (x4 : Int32) (x5 : Int32) (σ : MS), L_worksData_6 n x2 x3 x4 x5 σ = some q → V p l e { frames := 3, cells := 0, slots := 0, locals := 64 } s m args below meth c D (inAd ad) 11 (MQ below (vQ D (inAd ad) (some (.int q.1)) (wm cy ad q.2)) args s 0 0 (inAd ad)) 0 0 (wm cy ad σ) 6 [(0, .ref (ad 0)), (2, .int x2), (3, .int x3), (4, .int x4), (5, .int x5)] [] := by
  intro n
  induction n with
  | zero =>
    intro x2 x3 x4 x5 σ h
    rw [L_worksData_6.eq_1] at h
    cases h
  | succ n ih =>
    intro x2 x3 x4 x5 σ h
    rw [L_worksData_6.eq_2] at h
    refine v_aload_n C 0 dX11_worksData_6 rfl rfl ?_
    refine n_getR C fl_7 dX11_worksData_7 ?_
    refine v_iload C 3 dX11_worksData_10 rfl ?_
    obtain ⟨g1, h⟩ := gd_of h
    refine vm_iald C 1 iI_1 (ix_in g1) dX11_worksData_12 ?_
    refine v_istore C [(6, .int (σ.2.1 1 (x4 : Int32).toNatClampNeg)), (0, .ref (ad 0)), (2, .int x2), (3, .int x3), (4, .int x4), (5, .int x5)] dX11_worksData_13 (by decide) rfl ?_
    refine v_iload C 0 dX11_worksData_15 rfl ?_
    obtain ⟨q1, hq1, h⟩ := bd_of h
    refine vm_callS C [.int (σ.2.1 1 (x4 : Int32).toNatClampNeg)] [] (c_isOpen hi _ _ hq1) hY_isOpen ml_160 ⟨Nat.le_of_ble_eq_true rfl, Nat.le_of_ble_eq_true rfl⟩ ⟨Nat.zero_le _, Nat.zero_le _⟩ rfl rfl (Nat.le_of_ble_eq_true rfl) dX11_worksData_17 (wm_inj hi cy _) ?_
    refine v_if_eq C 50 dX11_worksData_20 (by decide) (fun c1 => ?_) (fun c1 => ?_)
    · rw [if_pos c1] at h
      refine v_aload_n C 1 dX11_worksData_50 rfl rfl ?_
      refine v_iload C 4 dX11_worksData_51 rfl ?_
      refine v_iload_n C 2 dX11_worksData_53 rfl rfl ?_
      refine v_iload_n C 3 dX11_worksData_54 rfl rfl ?_
      obtain ⟨q2, hq2, h⟩ := bd_of h
      refine vm_call C [.int x4, .int x2, .int x3] [] (c_valueAt hi _ _ _ _ hq2) hY_valueAt ml_163 ⟨Nat.le_of_ble_eq_true rfl, Nat.le_of_ble_eq_true rfl⟩ ⟨Nat.zero_le _, Nat.zero_le _⟩ rfl rfl (Nat.le_of_ble_eq_true rfl) dX11_worksData_55 (wm_inj hi cy _) ?_
      refine v_istore C [(7, .int q2.1), (6, .int (σ.2.1 1 (x4 : Int32).toNatClampNeg)), (0, .ref (ad 0)), (2, .int x2), (3, .int x3), (4, .int x4), (5, .int x5)] dX11_worksData_58 (by decide) rfl ?_
      refine v_aload_n C 2 dX11_worksData_60 rfl rfl ?_
      refine v_iload C 5 dX11_worksData_61 rfl ?_
      obtain ⟨q3, hq3, h⟩ := bd_of h
      refine vm_call C [.int x4] [] (c_behind hi _ _ hq3) hY_behind ml_127 ⟨Nat.le_of_ble_eq_true rfl, Nat.le_of_ble_eq_true rfl⟩ ⟨Nat.zero_le _, Nat.zero_le _⟩ rfl rfl (Nat.le_of_ble_eq_true rfl) dX11_worksData_63 (wm_inj hi cy _) ?_
      refine v_istore C [(4, .int q3.1), (7, .int q2.1), (6, .int (σ.2.1 1 (x4 : Int32).toNatClampNeg)), (0, .ref (ad 0)), (2, .int x2), (3, .int x3), (5, .int x5)] dX11_worksData_66 (by decide) rfl ?_
      refine v_iconst C 1 dX11_worksData_68 (by decide) ?_
      refine v_istore C [(8, .int 1), (4, .int q3.1), (7, .int q2.1), (6, .int (σ.2.1 1 (x4 : Int32).toNatClampNeg)), (0, .ref (ad 0)), (2, .int x2), (3, .int x3), (5, .int x5)] dX11_worksData_69 (by decide) rfl ?_
      exact v_sub [4, 5, 6, 1, 7, 2, 0] rfl ((l_worksData_71 C hi ih 10000) _ _ _ _ _ _ _ h)
    · rw [if_neg c1] at h
      refine v_aload_n C 1 dX11_worksData_23 rfl rfl ?_
      refine n_getR C fl_49 dX11_worksData_24 ?_
      refine v_iload C 5 dX11_worksData_27 rfl ?_
      refine v_iload C 0 dX11_worksData_29 rfl ?_
      obtain ⟨g2, h⟩ := gd_of h
      refine vm_iast C 12 iI_12 (ix_in g2) dX11_worksData_31 ?_
      refine v_aload_n C 1 dX11_worksData_32 rfl rfl ?_
      refine n_getR C fl_52 dX11_worksData_33 ?_
      refine v_iload C 5 dX11_worksData_36 rfl ?_
      refine v_bipush C (-9) dX11_worksData_38 (by decide) ?_
      obtain ⟨g3, h⟩ := gd_of h
      refine vm_iast C 13 iI_13 (ix_in g3) dX11_worksData_40 ?_
      refine v_iinc C (x5 + 1) 5 [(5, .int (x5 + 1)), (6, .int (σ.2.1 1 (x4 : Int32).toNatClampNeg)), (0, .ref (ad 0)), (2, .int x2), (3, .int x3), (4, .int x4)] dX11_worksData_41 rfl rfl (by decide) rfl ?_
      refine v_iinc C (x4 + 1) 5 [(4, .int (x4 + 1)), (5, .int (x5 + 1)), (6, .int (σ.2.1 1 (x4 : Int32).toNatClampNeg)), (0, .ref (ad 0)), (2, .int x2), (3, .int x3)] dX11_worksData_44 rfl rfl (by decide) rfl ?_
      refine v_goto C 6 dX11_worksData_47 (by decide) ?_
      exact v_sub [3, 4, 5, 0, 1] rfl (ih _ _ _ _ _ h)
set_option maxHeartbeats 4000000 in
set_option maxRecDepth 20000 in
theorem c_worksData {l : Launch} {D : va_G} {cy : Nat → ClassId} {ad : Nat → Nat} {q : Int32 × MS} (hi : ∀ i j, i < 34 → j < 34 → ad i = ad j → i = j) (x1 : Int32) (x2 : Int32) (x3 : Int32) (σ : MS) (h : f_worksData x1 x2 x3 σ = some q) : MV l D (cyT cy) (inAd ad) yX11_worksData cX11_worksData 11 (some .int) 3 64 0 0 [.ref (ad 0), .int x1, .int x2, .int x3] (wm cy ad σ) (some (.int q.1)) (wm cy ad q.2) := by
  refine MV.of (by decide) (wm_inj hi cy σ) (Nat.le_of_ble_eq_true rfl) [(0, .ref (ad 0)), (1, .int x1), (2, .int x2), (3, .int x3)] rfl ?_
  intro p e s m args below meth c C
  rw [f_worksData] at h
  refine v_iload_n C 1 dX11_worksData_0 rfl rfl ?_
  refine v_istore C [(4, .int x1), (0, .ref (ad 0)), (1, .int x1), (2, .int x2), (3, .int x3)] dX11_worksData_1 (by decide) rfl ?_
  refine v_iconst C 0 dX11_worksData_3 (by decide) ?_
  refine v_istore C [(5, .int 0), (4, .int x1), (0, .ref (ad 0)), (1, .int x1), (2, .int x2), (3, .int x3)] dX11_worksData_4 (by decide) rfl ?_
  exact v_sub [2, 4, 5, 1, 0] rfl ((l_worksData_6 C hi 10000) _ _ _ _ _ h)
set_option maxHeartbeats 4000000 in
set_option maxRecDepth 20000 in
theorem c_gives {l : Launch} {D : va_G} {cy : Nat → ClassId} {ad : Nat → Nat} {q : Int32 × MS} (hi : ∀ i j, i < 34 → j < 34 → ad i = ad j → i = j) (x1 : Int32) (x2 : Int32) (σ : MS) (h : f_gives x1 x2 σ = some q) : MV l D (cyT cy) (inAd ad) yX11_gives cX11_gives 4 (some .int) 4 94 0 0 [.ref (ad 0), .int x1, .int x2] (wm cy ad σ) (some (.int q.1)) (wm cy ad q.2) := by
  refine MV.of (by decide) (wm_inj hi cy σ) (Nat.le_of_ble_eq_true rfl) [(0, .ref (ad 0)), (1, .int x1), (2, .int x2)] rfl ?_
  intro p e s m args below meth c C
  rw [f_gives] at h
  refine v_aload_n C 0 dX11_gives_0 rfl rfl ?_
  refine v_iload_n C 1 dX11_gives_1 rfl rfl ?_
  obtain ⟨q1, hq1, h⟩ := bd_of h
  refine vm_call C [.int x1] [] (c_sortOf hi _ _ hq1) hY_sortOf ml_151 ⟨Nat.le_of_ble_eq_true rfl, Nat.le_of_ble_eq_true rfl⟩ ⟨Nat.zero_le _, Nat.zero_le _⟩ rfl rfl (Nat.le_of_ble_eq_true rfl) dX11_gives_2 (wm_inj hi cy _) ?_
  refine v_bipush C 7 dX11_gives_5 (by decide) ?_
  refine v_icmp_eq C 19 dX11_gives_7 (by decide) (fun c1 => ?_) (fun c1 => ?_)
  · rw [if_pos c1] at h
    refine v_aload_n C 0 dX11_gives_19 rfl rfl ?_
    refine v_iload_n C 1 dX11_gives_20 rfl rfl ?_
    obtain ⟨q2, hq2, h⟩ := bd_of h
    refine vm_call C [.int x1] [] (c_levelOf hi _ _ hq2) hY_levelOf ml_174 ⟨Nat.le_of_ble_eq_true rfl, Nat.le_of_ble_eq_true rfl⟩ ⟨Nat.zero_le _, Nat.zero_le _⟩ rfl rfl (Nat.le_of_ble_eq_true rfl) dX11_gives_21 (wm_inj hi cy _) ?_
    refine v_istore_n C [(3, .int q2.1), (0, .ref (ad 0)), (1, .int x1), (2, .int x2)] dX11_gives_24 rfl (by decide) rfl ?_
    refine v_aload_n C 1 dX11_gives_25 rfl rfl ?_
    refine v_aload_n C 1 dX11_gives_26 rfl rfl ?_
    refine v_iload_n C 2 dX11_gives_27 rfl rfl ?_
    obtain ⟨q3, hq3, h⟩ := bd_of h
    refine vm_call C [.int x1] [.ref (ad 0)] (c_aOf hi _ _ hq3) hY_aOf ml_154 ⟨Nat.le_of_ble_eq_true rfl, Nat.le_of_ble_eq_true rfl⟩ ⟨Nat.zero_le _, Nat.zero_le _⟩ rfl rfl (Nat.le_of_ble_eq_true rfl) dX11_gives_28 (wm_inj hi cy _) ?_
    refine v_iload_n C 0 dX11_gives_31 rfl rfl ?_
    refine v_iconst C 1 dX11_gives_32 (by decide) ?_
    refine v_iadd C dX11_gives_33 ?_
    refine v_aload_n C 1 dX11_gives_34 rfl rfl ?_
    refine v_aload_n C 1 dX11_gives_35 rfl rfl ?_
    refine v_iload_n C 2 dX11_gives_36 rfl rfl ?_
    obtain ⟨q4, hq4, h⟩ := bd_of h
    refine vm_call C [.int x1] [.ref (ad 0), .int (q2.1 + 1), .int q3.1, .ref (ad 0)] (c_bOf hi _ _ hq4) hY_bOf ml_157 ⟨Nat.le_of_ble_eq_true rfl, Nat.le_of_ble_eq_true rfl⟩ ⟨Nat.zero_le _, Nat.zero_le _⟩ rfl rfl (Nat.le_of_ble_eq_true rfl) dX11_gives_37 (wm_inj hi cy _) ?_
    refine v_iload_n C 0 dX11_gives_40 rfl rfl ?_
    refine v_iload_n C 3 dX11_gives_41 rfl rfl ?_
    obtain ⟨q5, hq5, h⟩ := bd_of h
    refine vm_call C [.int q4.1, .int q2.1, .int x2] [.int (q2.1 + 1), .int q3.1, .ref (ad 0)] (c_with hi _ _ _ _ hq5) hY_with ml_177 ⟨Nat.le_of_ble_eq_true rfl, Nat.le_of_ble_eq_true rfl⟩ ⟨Nat.zero_le _, Nat.zero_le _⟩ rfl rfl (Nat.le_of_ble_eq_true rfl) dX11_gives_42 (wm_inj hi cy _) ?_
    obtain ⟨q6, hq6, h⟩ := bd_of h
    refine vm_call C [.int q3.1, .int (q2.1 + 1), .int q5.1] [] (c_worksData hi _ _ _ _ hq6) hY_worksData ml_180 ⟨Nat.le_of_ble_eq_true rfl, Nat.le_of_ble_eq_true rfl⟩ ⟨Nat.zero_le _, Nat.zero_le _⟩ rfl rfl (Nat.le_of_ble_eq_true rfl) dX11_gives_45 (wm_inj hi cy _) ?_
    obtain rfl := Option.some.inj h
    exact v_iret C dX11_gives_48
  · rw [if_neg c1] at h
    refine v_aload_n C 0 dX11_gives_10 rfl rfl ?_
    refine v_iconst C 2 dX11_gives_11 (by decide) ?_
    refine v_iload_n C 1 dX11_gives_12 rfl rfl ?_
    refine v_iload_n C 2 dX11_gives_13 rfl rfl ?_
    refine v_iconst C 0 dX11_gives_14 (by decide) ?_
    obtain ⟨q7, hq7, h⟩ := bd_of h
    refine vm_call C [.int 2, .int x1, .int x2, .int 0] [] (c_lays hi _ _ _ _ _ hq7) hY_lays ml_115 ⟨Nat.le_of_ble_eq_true rfl, Nat.le_of_ble_eq_true rfl⟩ ⟨Nat.zero_le _, Nat.zero_le _⟩ rfl rfl (Nat.le_of_ble_eq_true rfl) dX11_gives_15 (wm_inj hi cy _) ?_
    obtain rfl := Option.some.inj h
    exact v_iret C dX11_gives_18
set_option maxHeartbeats 4000000 in
set_option maxRecDepth 20000 in
theorem b_works_201 {p : Program} {l : Launch} {e : Env} {s : State} {m : MethodId} {args : Array Value} {below : List Frame} {meth : Method} {c : Code} {D : va_G} {cy : Nat → ClassId} {ad : Nat → Nat} {q : Int32 × MS} (C : vC p s m args meth c cX11_works 11 (some .int) RX11 D (cyT cy)) (hi : ∀ i j, i < 34 → j < 34 → ad i = ad j → i = j) {k206 : Int32 → Int32 → Int32 → Int32 → Int32 → Int32 → MS → Option (Int32 × MS)} (hk206 : ∀ (x2 : Int32) (x3 : Int32) (x4 : Int32) (x5 : Int32) (x7 : Int32) (x8 : Int32)  (σ : MS), k206 x2 x3 x4 x5 x7 x8 σ = some q → V p l e { frames := 5, cells := 0, slots := 0, locals := 117 } s m args below meth c D (inAd ad) 11 (MQ below (vQ D (inAd ad) (some (.int q.1)) (wm cy ad q.2)) args s 0 0 (inAd ad)) 0 0 (wm cy ad σ) 206 [(0, .ref (ad 0)), (2, .int x2), (3, .int x3), (4, .int x4), (5, .int x5), (7, .int x7), (8, .int x8)] []) : ∀ (x2 : Int32) (x3 : Int32) (x4 : Int32) (x5 : Int32) (x8 : Int32) (s0 : Int32) (σ : MS), B_works_201 k206 x2 x3 x4 x5 x8 s0 σ = some q → V p l e { frames := 5, cells := 0, slots := 0, locals := 117 } s m args below meth c D (inAd ad) 11 (MQ below (vQ D (inAd ad) (some (.int q.1)) (wm cy ad q.2)) args s 0 0 (inAd ad)) 0 0 (wm cy ad σ) 201 [(0, .ref (ad 0)), (2, .int x2), (3, .int x3), (4, .int x4), (5, .int x5), (8, .int x8)] [.int s0] := by
  intro x2 x3 x4 x5 x8 s0 σ h
  rw [B_works_201] at h
  refine v_istore C [(7, .int s0), (0, .ref (ad 0)), (2, .int x2), (3, .int x3), (4, .int x4), (5, .int x5), (8, .int x8)] dX11_works_201 (by decide) rfl ?_
  refine v_iinc C (x5 + (-1)) 5 [(5, .int (x5 + (-1))), (7, .int s0), (0, .ref (ad 0)), (2, .int x2), (3, .int x3), (4, .int x4), (8, .int x8)] dX11_works_203 rfl rfl (by decide) rfl ?_
  exact v_sub [2, 3, 4, 5, 0, 1, 6] rfl (hk206 _ _ _ _ _ _ _ h)
set_option maxHeartbeats 4000000 in
set_option maxRecDepth 20000 in
theorem b_works_206 {p : Program} {l : Launch} {e : Env} {s : State} {m : MethodId} {args : Array Value} {below : List Frame} {meth : Method} {c : Code} {D : va_G} {cy : Nat → ClassId} {ad : Nat → Nat} {q : Int32 × MS} (C : vC p s m args meth c cX11_works 11 (some .int) RX11 D (cyT cy)) (hi : ∀ i j, i < 34 → j < 34 → ad i = ad j → i = j) {k71 : Int32 → Int32 → Int32 → Int32 → Int32 → Int32 → MS → Option (Int32 × MS)} (hk71 : ∀ (x2 : Int32) (x3 : Int32) (x4 : Int32) (x5 : Int32) (x7 : Int32) (x8 : Int32)  (σ : MS), k71 x2 x3 x4 x5 x7 x8 σ = some q → V p l e { frames := 5, cells := 0, slots := 0, locals := 117 } s m args below meth c D (inAd ad) 11 (MQ below (vQ D (inAd ad) (some (.int q.1)) (wm cy ad q.2)) args s 0 0 (inAd ad)) 0 0 (wm cy ad σ) 71 [(0, .ref (ad 0)), (2, .int x2), (3, .int x3), (4, .int x4), (5, .int x5), (7, .int x7), (8, .int x8)] []) : ∀ (x2 : Int32) (x3 : Int32) (x4 : Int32) (x5 : Int32) (x7 : Int32) (x8 : Int32) (σ : MS), B_works_206 k71 x2 x3 x4 x5 x7 x8 σ = some q → V p l e { frames := 5, cells := 0, slots := 0, locals := 117 } s m args below meth c D (inAd ad) 11 (MQ below (vQ D (inAd ad) (some (.int q.1)) (wm cy ad q.2)) args s 0 0 (inAd ad)) 0 0 (wm cy ad σ) 206 [(0, .ref (ad 0)), (2, .int x2), (3, .int x3), (4, .int x4), (5, .int x5), (7, .int x7), (8, .int x8)] [] := by
  intro x2 x3 x4 x5 x7 x8 σ h
  rw [B_works_206] at h
  refine v_goto C 71 dX11_works_206 (by decide) ?_
  exact v_sub [0, 1, 2, 3, 4, 5, 6] rfl (hk71 _ _ _ _ _ _ _ h)
set_option maxHeartbeats 4000000 in
set_option maxRecDepth 20000 in
theorem b_works_139 {p : Program} {l : Launch} {e : Env} {s : State} {m : MethodId} {args : Array Value} {below : List Frame} {meth : Method} {c : Code} {D : va_G} {cy : Nat → ClassId} {ad : Nat → Nat} {q : Int32 × MS} (C : vC p s m args meth c cX11_works 11 (some .int) RX11 D (cyT cy)) (hi : ∀ i j, i < 34 → j < 34 → ad i = ad j → i = j) {k206 : Int32 → Int32 → Int32 → Int32 → Int32 → Int32 → MS → Option (Int32 × MS)} (hk206 : ∀ (x2 : Int32) (x3 : Int32) (x4 : Int32) (x5 : Int32) (x7 : Int32) (x8 : Int32)  (σ : MS), k206 x2 x3 x4 x5 x7 x8 σ = some q → V p l e { frames := 5, cells := 0, slots := 0, locals := 117 } s m args below meth c D (inAd ad) 11 (MQ below (vQ D (inAd ad) (some (.int q.1)) (wm cy ad q.2)) args s 0 0 (inAd ad)) 0 0 (wm cy ad σ) 206 [(0, .ref (ad 0)), (2, .int x2), (3, .int x3), (4, .int x4), (5, .int x5), (7, .int x7), (8, .int x8)] []) : ∀ (x2 : Int32) (x3 : Int32) (x4 : Int32) (x5 : Int32) (x7 : Int32) (x8 : Int32) (x9 : Int32) (x10 : Int32) (σ : MS), B_works_139 k206 x2 x3 x4 x5 x7 x8 x9 x10 σ = some q → V p l e { frames := 5, cells := 0, slots := 0, locals := 117 } s m args below meth c D (inAd ad) 11 (MQ below (vQ D (inAd ad) (some (.int q.1)) (wm cy ad q.2)) args s 0 0 (inAd ad)) 0 0 (wm cy ad σ) 139 [(0, .ref (ad 0)), (2, .int x2), (3, .int x3), (4, .int x4), (5, .int x5), (7, .int x7), (8, .int x8), (9, .int x9), (10, .int x10)] [] := by
  intro x2 x3 x4 x5 x7 x8 x9 x10 σ h
  rw [B_works_139] at h
  refine v_iload C 7 dX11_works_139 rfl ?_
  refine v_bipush C 60 dX11_works_141 (by decide) ?_
  refine v_icmp_ne C 156 dX11_works_143 (by decide) (fun c1 => ?_) (fun c1 => ?_)
  · rw [if_neg c1] at h
    refine v_iload C 7 dX11_works_156 rfl ?_
    refine v_bipush C 62 dX11_works_158 (by decide) ?_
    refine v_icmp_ne C 173 dX11_works_160 (by decide) (fun c2 => ?_) (fun c2 => ?_)
    · rw [if_neg c2] at h
      refine v_iload C 7 dX11_works_173 rfl ?_
      refine v_bipush C 44 dX11_works_175 (by decide) ?_
      refine v_icmp_ne C 193 dX11_works_177 (by decide) (fun c3 => ?_) (fun c3 => ?_)
      · rw [if_neg c3] at h
        refine v_aload_n C 0 dX11_works_193 rfl rfl ?_
        refine v_iload C 8 dX11_works_194 rfl ?_
        refine v_iload C 5 dX11_works_196 rfl ?_
        obtain ⟨q1, hq1, h⟩ := bd_of h
        refine vm_call C [.int x10, .int x7] [] (c_gives hi _ _ _ hq1) hY_gives ml_183 ⟨Nat.le_of_ble_eq_true rfl, Nat.le_of_ble_eq_true rfl⟩ ⟨Nat.zero_le _, Nat.zero_le _⟩ rfl rfl (Nat.le_of_ble_eq_true rfl) dX11_works_198 (wm_inj hi cy _) ?_
        exact v_sub [0, 1, 2, 3, 4, 6] rfl ((b_works_201 C hi hk206) _ _ _ _ _ _ _ h)
      · rw [if_pos c3] at h
        refine v_aload_n C 0 dX11_works_180 rfl rfl ?_
        refine v_iconst C 5 dX11_works_181 (by decide) ?_
        refine v_iload C 8 dX11_works_182 rfl ?_
        refine v_iload C 5 dX11_works_184 rfl ?_
        refine v_iconst C 0 dX11_works_186 (by decide) ?_
        obtain ⟨q2, hq2, h⟩ := bd_of h
        refine vm_call C [.int 5, .int x10, .int x7, .int 0] [] (c_lays hi _ _ _ _ _ hq2) hY_lays ml_115 ⟨Nat.le_of_ble_eq_true rfl, Nat.le_of_ble_eq_true rfl⟩ ⟨Nat.zero_le _, Nat.zero_le _⟩ rfl rfl (Nat.le_of_ble_eq_true rfl) dX11_works_187 (wm_inj hi cy _) ?_
        refine v_goto C 201 dX11_works_190 (by decide) ?_
        exact v_sub [0, 1, 2, 3, 4, 6] rfl ((b_works_201 C hi hk206) _ _ _ _ _ _ _ h)
    · rw [if_pos c2] at h
      refine v_aload_n C 0 dX11_works_163 rfl rfl ?_
      refine v_iload C 5 dX11_works_164 rfl ?_
      refine v_iconst C 4 dX11_works_166 (by decide) ?_
      obtain ⟨q3, hq3, h⟩ := bd_of h
      refine vm_call C [.int x7, .int 4] [] (c_taken hi _ _ _ hq3) hY_taken ml_167 ⟨Nat.le_of_ble_eq_true rfl, Nat.le_of_ble_eq_true rfl⟩ ⟨Nat.zero_le _, Nat.zero_le _⟩ rfl rfl (Nat.le_of_ble_eq_true rfl) dX11_works_167 (wm_inj hi cy _) ?_
      refine v_goto C 201 dX11_works_170 (by decide) ?_
      exact v_sub [0, 1, 2, 3, 4, 6] rfl ((b_works_201 C hi hk206) _ _ _ _ _ _ _ h)
  · rw [if_pos c1] at h
    refine v_aload_n C 0 dX11_works_146 rfl rfl ?_
    refine v_iload C 5 dX11_works_147 rfl ?_
    refine v_iconst C 3 dX11_works_149 (by decide) ?_
    obtain ⟨q4, hq4, h⟩ := bd_of h
    refine vm_call C [.int x7, .int 3] [] (c_taken hi _ _ _ hq4) hY_taken ml_167 ⟨Nat.le_of_ble_eq_true rfl, Nat.le_of_ble_eq_true rfl⟩ ⟨Nat.zero_le _, Nat.zero_le _⟩ rfl rfl (Nat.le_of_ble_eq_true rfl) dX11_works_150 (wm_inj hi cy _) ?_
    refine v_goto C 201 dX11_works_153 (by decide) ?_
    exact v_sub [0, 1, 2, 3, 4, 6] rfl ((b_works_201 C hi hk206) _ _ _ _ _ _ _ h)
set_option maxHeartbeats 4000000 in
set_option maxRecDepth 20000 in
theorem b_works_117 {p : Program} {l : Launch} {e : Env} {s : State} {m : MethodId} {args : Array Value} {below : List Frame} {meth : Method} {c : Code} {D : va_G} {cy : Nat → ClassId} {ad : Nat → Nat} {q : Int32 × MS} (C : vC p s m args meth c cX11_works 11 (some .int) RX11 D (cyT cy)) (hi : ∀ i j, i < 34 → j < 34 → ad i = ad j → i = j) {k139 : Int32 → Int32 → Int32 → Int32 → Int32 → Int32 → Int32 → Int32 → MS → Option (Int32 × MS)} {k206 : Int32 → Int32 → Int32 → Int32 → Int32 → Int32 → MS → Option (Int32 × MS)} (hk139 : ∀ (x2 : Int32) (x3 : Int32) (x4 : Int32) (x5 : Int32) (x7 : Int32) (x8 : Int32) (x9 : Int32) (x10 : Int32)  (σ : MS), k139 x2 x3 x4 x5 x7 x8 x9 x10 σ = some q → V p l e { frames := 5, cells := 0, slots := 0, locals := 117 } s m args below meth c D (inAd ad) 11 (MQ below (vQ D (inAd ad) (some (.int q.1)) (wm cy ad q.2)) args s 0 0 (inAd ad)) 0 0 (wm cy ad σ) 139 [(0, .ref (ad 0)), (2, .int x2), (3, .int x3), (4, .int x4), (5, .int x5), (7, .int x7), (8, .int x8), (9, .int x9), (10, .int x10)] []) (hk206 : ∀ (x2 : Int32) (x3 : Int32) (x4 : Int32) (x5 : Int32) (x7 : Int32) (x8 : Int32)  (σ : MS), k206 x2 x3 x4 x5 x7 x8 σ = some q → V p l e { frames := 5, cells := 0, slots := 0, locals := 117 } s m args below meth c D (inAd ad) 11 (MQ below (vQ D (inAd ad) (some (.int q.1)) (wm cy ad q.2)) args s 0 0 (inAd ad)) 0 0 (wm cy ad σ) 206 [(0, .ref (ad 0)), (2, .int x2), (3, .int x3), (4, .int x4), (5, .int x5), (7, .int x7), (8, .int x8)] []) : ∀ (x2 : Int32) (x3 : Int32) (x4 : Int32) (x5 : Int32) (x7 : Int32) (x8 : Int32) (x9 : Int32) (x10 : Int32) (σ : MS), B_works_117 k139 k206 x2 x3 x4 x5 x7 x8 x9 x10 σ = some q → V p l e { frames := 5, cells := 0, slots := 0, locals := 117 } s m args below meth c D (inAd ad) 11 (MQ below (vQ D (inAd ad) (some (.int q.1)) (wm cy ad q.2)) args s 0 0 (inAd ad)) 0 0 (wm cy ad σ) 117 [(0, .ref (ad 0)), (2, .int x2), (3, .int x3), (4, .int x4), (5, .int x5), (7, .int x7), (8, .int x8), (9, .int x9), (10, .int x10)] [] := by
  intro x2 x3 x4 x5 x7 x8 x9 x10 σ h
  rw [B_works_117] at h
  refine v_iload C 8 dX11_works_117 rfl ?_
  refine v_if_ge C 139 dX11_works_119 (by decide) (fun c1 => ?_) (fun c1 => ?_)
  · rw [if_pos c1] at h
    exact v_sub [0, 1, 2, 3, 4, 5, 6, 7, 8] rfl (hk139 _ _ _ _ _ _ _ _ _ h)
  · rw [if_neg c1] at h
    refine v_aload_n C 0 dX11_works_122 rfl rfl ?_
    refine n_getR C fl_58 dX11_works_123 ?_
    refine v_iload C 4 dX11_works_126 rfl ?_
    refine v_iconst C 1 dX11_works_128 (by decide) ?_
    refine v_isub C dX11_works_129 ?_
    refine v_iload C 5 dX11_works_130 rfl ?_
    obtain ⟨g1, h⟩ := gd_of h
    refine vm_iast C 15 iI_15 (ix_in g1) dX11_works_132 ?_
    refine v_iconst C 0 dX11_works_133 (by decide) ?_
    refine v_istore C [(8, .int 0), (0, .ref (ad 0)), (2, .int x2), (3, .int x3), (4, .int x4), (5, .int x5), (7, .int x7), (9, .int x9), (10, .int x10)] dX11_works_134 (by decide) rfl ?_
    refine v_goto C 206 dX11_works_136 (by decide) ?_
    exact v_sub [1, 2, 3, 4, 5, 6, 0] rfl (hk206 _ _ _ _ _ _ _ h)
set_option maxHeartbeats 4000000 in
set_option maxRecDepth 20000 in
theorem b_works_209 {p : Program} {l : Launch} {e : Env} {s : State} {m : MethodId} {args : Array Value} {below : List Frame} {meth : Method} {c : Code} {D : va_G} {cy : Nat → ClassId} {ad : Nat → Nat} {q : Int32 × MS} (C : vC p s m args meth c cX11_works 11 (some .int) RX11 D (cyT cy)) (hi : ∀ i j, i < 34 → j < 34 → ad i = ad j → i = j) {k6 : Int32 → Int32 → Int32 → Int32 → MS → Option (Int32 × MS)} (hk6 : ∀ (x2 : Int32) (x3 : Int32) (x4 : Int32) (x5 : Int32)  (σ : MS), k6 x2 x3 x4 x5 σ = some q → V p l e { frames := 5, cells := 0, slots := 0, locals := 117 } s m args below meth c D (inAd ad) 11 (MQ below (vQ D (inAd ad) (some (.int q.1)) (wm cy ad q.2)) args s 0 0 (inAd ad)) 0 0 (wm cy ad σ) 6 [(0, .ref (ad 0)), (2, .int x2), (3, .int x3), (4, .int x4), (5, .int x5)] []) : ∀ (x2 : Int32) (x3 : Int32) (x4 : Int32) (x5 : Int32) (x7 : Int32) (x8 : Int32) (σ : MS), B_works_209 k6 x2 x3 x4 x5 x7 x8 σ = some q → V p l e { frames := 5, cells := 0, slots := 0, locals := 117 } s m args below meth c D (inAd ad) 11 (MQ below (vQ D (inAd ad) (some (.int q.1)) (wm cy ad q.2)) args s 0 0 (inAd ad)) 0 0 (wm cy ad σ) 209 [(0, .ref (ad 0)), (2, .int x2), (3, .int x3), (4, .int x4), (5, .int x5), (7, .int x7), (8, .int x8)] [] := by
  intro x2 x3 x4 x5 x7 x8 σ h
  rw [B_works_209] at h
  refine v_iload C 6 dX11_works_209 rfl ?_
  refine v_if_eq C 223 dX11_works_211 (by decide) (fun c1 => ?_) (fun c1 => ?_)
  · rw [if_pos c1] at h
    refine v_goto C 6 dX11_works_223 (by decide) ?_
    exact v_sub [0, 1, 2, 3, 4] rfl (hk6 _ _ _ _ _ h)
  · rw [if_neg c1] at h
    refine v_aload_n C 0 dX11_works_214 rfl rfl ?_
    refine v_iload C 3 dX11_works_215 rfl ?_
    refine n_putI C fl_171 dX11_works_217 ?_
    refine v_iload C 5 dX11_works_220 rfl ?_
    obtain rfl := Option.some.inj h
    exact v_iret C dX11_works_222
set_option maxHeartbeats 4000000 in
set_option maxRecDepth 20000 in
theorem l_works_71 {p : Program} {l : Launch} {e : Env} {s : State} {m : MethodId} {args : Array Value} {below : List Frame} {meth : Method} {c : Code} {D : va_G} {cy : Nat → ClassId} {ad : Nat → Nat} {q : Int32 × MS} (C : vC p s m args meth c cX11_works 11 (some .int) RX11 D (cyT cy)) (hi : ∀ i j, i < 34 → j < 34 → ad i = ad j → i = j) {k6 : Int32 → Int32 → Int32 → Int32 → MS → Option (Int32 × MS)} (hk6 : ∀ (x2 : Int32) (x3 : Int32) (x4 : Int32) (x5 : Int32)  (σ : MS), k6 x2 x3 x4 x5 σ = some q → V p l e { frames := 5, cells := 0, slots := 0, locals := 117 } s m args below meth c D (inAd ad) 11 (MQ below (vQ D (inAd ad) (some (.int q.1)) (wm cy ad q.2)) args s 0 0 (inAd ad)) 0 0 (wm cy ad σ) 6 [(0, .ref (ad 0)), (2, .int x2), (3, .int x3), (4, .int x4), (5, .int x5)] []) : ∀ (n : Nat) (x2 : Int32) (x3 : Int32) (x4 : Int32) (x5 : Int32) (x7 : Int32) (x8 : Int32) (σ : MS), L_works_71 k6 n x2 x3 x4 x5 x7 x8 σ = some q → V p l e { frames := 5, cells := 0, slots := 0, locals := 117 } s m args below meth c D (inAd ad) 11 (MQ below (vQ D (inAd ad) (some (.int q.1)) (wm cy ad q.2)) args s 0 0 (inAd ad)) 0 0 (wm cy ad σ) 71 [(0, .ref (ad 0)), (2, .int x2), (3, .int x3), (4, .int x4), (5, .int x5), (7, .int x7), (8, .int x8)] [] := by
  intro n
  induction n with
  | zero =>
    intro x2 x3 x4 x5 x7 x8 σ h
    rw [L_works_71.eq_1] at h
    cases h
  | succ n ih =>
    intro x2 x3 x4 x5 x7 x8 σ h
    rw [L_works_71.eq_2] at h
    refine v_iload C 4 dX11_works_71 rfl ?_
    refine v_if_le C 209 dX11_works_73 (by decide) (fun c1 => ?_) (fun c1 => ?_)
    · rw [if_pos c1] at h
      exact v_sub [0, 1, 2, 3, 4, 5, 6] rfl ((b_works_209 C hi hk6) _ _ _ _ _ _ _ h)
    · rw [if_neg c1] at h
      refine v_iload C 6 dX11_works_76 rfl ?_
      refine v_if_eq C 209 dX11_works_78 (by decide) (fun c2 => ?_) (fun c2 => ?_)
      · rw [if_pos c2] at h
        exact v_sub [0, 1, 2, 3, 4, 5, 6] rfl ((b_works_209 C hi hk6) _ _ _ _ _ _ _ h)
      · rw [if_neg c2] at h
        refine v_aload_n C 0 dX11_works_81 rfl rfl ?_
        refine n_getR C fl_55 dX11_works_82 ?_
        refine v_iload C 4 dX11_works_85 rfl ?_
        refine v_iconst C 1 dX11_works_87 (by decide) ?_
        refine v_isub C dX11_works_88 ?_
        obtain ⟨g1, h⟩ := gd_of h
        refine vm_iald C 14 iI_14 (ix_in g1) dX11_works_89 ?_
        refine v_istore C [(9, .int (σ.2.1 14 ((x5 - 1) : Int32).toNatClampNeg)), (0, .ref (ad 0)), (2, .int x2), (3, .int x3), (4, .int x4), (5, .int x5), (7, .int x7), (8, .int x8)] dX11_works_90 (by decide) rfl ?_
        refine v_aload_n C 1 dX11_works_92 rfl rfl ?_
        refine n_getR C fl_58 dX11_works_93 ?_
        refine v_iload C 5 dX11_works_96 rfl ?_
        refine v_iconst C 1 dX11_works_98 (by decide) ?_
        refine v_isub C dX11_works_99 ?_
        obtain ⟨g2, h⟩ := gd_of h
        refine vm_iald C 15 iI_15 (ix_in g2) dX11_works_100 ?_
        refine v_istore C [(10, .int (σ.2.1 15 ((x5 - 1) : Int32).toNatClampNeg)), (9, .int (σ.2.1 14 ((x5 - 1) : Int32).toNatClampNeg)), (0, .ref (ad 0)), (2, .int x2), (3, .int x3), (4, .int x4), (5, .int x5), (7, .int x7), (8, .int x8)] dX11_works_101 (by decide) rfl ?_
        refine v_iload C 1 dX11_works_103 rfl ?_
        refine v_bipush C 46 dX11_works_105 (by decide) ?_
        refine v_icmp_eq C 117 dX11_works_107 (by decide) (fun c3 => ?_) (fun c3 => ?_)
        · rw [if_pos c3] at h
          exact v_sub [2, 3, 4, 5, 6, 7, 8, 1, 0] rfl ((b_works_117 C hi (b_works_139 C hi (b_works_206 C hi ih)) (b_works_206 C hi ih)) _ _ _ _ _ _ _ _ _ h)
        · rw [if_neg c3] at h
          refine v_iload C 1 dX11_works_110 rfl ?_
          refine v_bipush C 44 dX11_works_112 (by decide) ?_
          refine v_icmp_ne C 139 dX11_works_114 (by decide) (fun c4 => ?_) (fun c4 => ?_)
          · rw [if_neg c4] at h
            exact v_sub [2, 3, 4, 5, 6, 7, 8, 1, 0] rfl ((b_works_139 C hi (b_works_206 C hi ih)) _ _ _ _ _ _ _ _ _ h)
          · rw [if_pos c4] at h
            exact v_sub [2, 3, 4, 5, 6, 7, 8, 1, 0] rfl ((b_works_117 C hi (b_works_139 C hi (b_works_206 C hi ih)) (b_works_206 C hi ih)) _ _ _ _ _ _ _ _ _ h)
set_option maxHeartbeats 4000000 in
set_option maxRecDepth 20000 in
theorem l_works_6 {p : Program} {l : Launch} {e : Env} {s : State} {m : MethodId} {args : Array Value} {below : List Frame} {meth : Method} {c : Code} {D : va_G} {cy : Nat → ClassId} {ad : Nat → Nat} {q : Int32 × MS} (C : vC p s m args meth c cX11_works 11 (some .int) RX11 D (cyT cy)) (hi : ∀ i j, i < 34 → j < 34 → ad i = ad j → i = j) : ∀ (n : Nat) (x2 : Int32) (x3 : Int32) (x4 : Int32) (x5 : Int32) (σ : MS), L_works_6 n x2 x3 x4 x5 σ = some q → V p l e { frames := 5, cells := 0, slots := 0, locals := 117 } s m args below meth c D (inAd ad) 11 (MQ below (vQ D (inAd ad) (some (.int q.1)) (wm cy ad q.2)) args s 0 0 (inAd ad)) 0 0 (wm cy ad σ) 6 [(0, .ref (ad 0)), (2, .int x2), (3, .int x3), (4, .int x4), (5, .int x5)] [] := by
  intro n
  induction n with
  | zero =>
    intro x2 x3 x4 x5 σ h
    rw [L_works_6.eq_1] at h
    cases h
  | succ n ih =>
    intro x2 x3 x4 x5 σ h
    rw [L_works_6.eq_2] at h
    refine v_aload_n C 0 dX11_works_6 rfl rfl ?_
    refine n_getR C fl_7 dX11_works_7 ?_
    refine v_iload C 3 dX11_works_10 rfl ?_
    obtain ⟨g1, h⟩ := gd_of h
    refine vm_iald C 1 iI_1 (ix_in g1) dX11_works_12 ?_
    refine v_istore C [(6, .int (σ.2.1 1 (x4 : Int32).toNatClampNeg)), (0, .ref (ad 0)), (2, .int x2), (3, .int x3), (4, .int x4), (5, .int x5)] dX11_works_13 (by decide) rfl ?_
    refine v_iload C 0 dX11_works_15 rfl ?_
    obtain ⟨q1, hq1, h⟩ := bd_of h
    refine vm_callS C [.int (σ.2.1 1 (x4 : Int32).toNatClampNeg)] [] (c_isOpen hi _ _ hq1) hY_isOpen ml_160 ⟨Nat.le_of_ble_eq_true rfl, Nat.le_of_ble_eq_true rfl⟩ ⟨Nat.zero_le _, Nat.zero_le _⟩ rfl rfl (Nat.le_of_ble_eq_true rfl) dX11_works_17 (wm_inj hi cy _) ?_
    refine v_if_eq C 50 dX11_works_20 (by decide) (fun c1 => ?_) (fun c1 => ?_)
    · rw [if_pos c1] at h
      refine v_aload_n C 1 dX11_works_50 rfl rfl ?_
      refine v_iload C 4 dX11_works_51 rfl ?_
      refine v_iload_n C 2 dX11_works_53 rfl rfl ?_
      refine v_iload_n C 3 dX11_works_54 rfl rfl ?_
      obtain ⟨q2, hq2, h⟩ := bd_of h
      refine vm_call C [.int x4, .int x2, .int x3] [] (c_valueAt hi _ _ _ _ hq2) hY_valueAt ml_163 ⟨Nat.le_of_ble_eq_true rfl, Nat.le_of_ble_eq_true rfl⟩ ⟨Nat.zero_le _, Nat.zero_le _⟩ rfl rfl (Nat.le_of_ble_eq_true rfl) dX11_works_55 (wm_inj hi cy _) ?_
      refine v_istore C [(7, .int q2.1), (6, .int (σ.2.1 1 (x4 : Int32).toNatClampNeg)), (0, .ref (ad 0)), (2, .int x2), (3, .int x3), (4, .int x4), (5, .int x5)] dX11_works_58 (by decide) rfl ?_
      refine v_aload_n C 2 dX11_works_60 rfl rfl ?_
      refine v_iload C 5 dX11_works_61 rfl ?_
      obtain ⟨q3, hq3, h⟩ := bd_of h
      refine vm_call C [.int x4] [] (c_behind hi _ _ hq3) hY_behind ml_127 ⟨Nat.le_of_ble_eq_true rfl, Nat.le_of_ble_eq_true rfl⟩ ⟨Nat.zero_le _, Nat.zero_le _⟩ rfl rfl (Nat.le_of_ble_eq_true rfl) dX11_works_63 (wm_inj hi cy _) ?_
      refine v_istore C [(4, .int q3.1), (7, .int q2.1), (6, .int (σ.2.1 1 (x4 : Int32).toNatClampNeg)), (0, .ref (ad 0)), (2, .int x2), (3, .int x3), (5, .int x5)] dX11_works_66 (by decide) rfl ?_
      refine v_iconst C 1 dX11_works_68 (by decide) ?_
      refine v_istore C [(8, .int 1), (4, .int q3.1), (7, .int q2.1), (6, .int (σ.2.1 1 (x4 : Int32).toNatClampNeg)), (0, .ref (ad 0)), (2, .int x2), (3, .int x3), (5, .int x5)] dX11_works_69 (by decide) rfl ?_
      exact v_sub [4, 5, 6, 1, 7, 2, 0] rfl ((l_works_71 C hi ih 10000) _ _ _ _ _ _ _ h)
    · rw [if_neg c1] at h
      refine v_aload_n C 1 dX11_works_23 rfl rfl ?_
      refine n_getR C fl_55 dX11_works_24 ?_
      refine v_iload C 5 dX11_works_27 rfl ?_
      refine v_iload C 0 dX11_works_29 rfl ?_
      obtain ⟨g2, h⟩ := gd_of h
      refine vm_iast C 14 iI_14 (ix_in g2) dX11_works_31 ?_
      refine v_aload_n C 1 dX11_works_32 rfl rfl ?_
      refine n_getR C fl_58 dX11_works_33 ?_
      refine v_iload C 5 dX11_works_36 rfl ?_
      refine v_bipush C (-9) dX11_works_38 (by decide) ?_
      obtain ⟨g3, h⟩ := gd_of h
      refine vm_iast C 15 iI_15 (ix_in g3) dX11_works_40 ?_
      refine v_iinc C (x5 + 1) 5 [(5, .int (x5 + 1)), (6, .int (σ.2.1 1 (x4 : Int32).toNatClampNeg)), (0, .ref (ad 0)), (2, .int x2), (3, .int x3), (4, .int x4)] dX11_works_41 rfl rfl (by decide) rfl ?_
      refine v_iinc C (x4 + 1) 5 [(4, .int (x4 + 1)), (5, .int (x5 + 1)), (6, .int (σ.2.1 1 (x4 : Int32).toNatClampNeg)), (0, .ref (ad 0)), (2, .int x2), (3, .int x3)] dX11_works_44 rfl rfl (by decide) rfl ?_
      refine v_goto C 6 dX11_works_47 (by decide) ?_
      exact v_sub [3, 4, 5, 0, 1] rfl (ih _ _ _ _ _ h)
set_option maxHeartbeats 4000000 in
set_option maxRecDepth 20000 in
theorem c_works {l : Launch} {D : va_G} {cy : Nat → ClassId} {ad : Nat → Nat} {q : Int32 × MS} (hi : ∀ i j, i < 34 → j < 34 → ad i = ad j → i = j) (x1 : Int32) (x2 : Int32) (x3 : Int32) (σ : MS) (h : f_works x1 x2 x3 σ = some q) : MV l D (cyT cy) (inAd ad) yX11_works cX11_works 11 (some .int) 5 117 0 0 [.ref (ad 0), .int x1, .int x2, .int x3] (wm cy ad σ) (some (.int q.1)) (wm cy ad q.2) := by
  refine MV.of (by decide) (wm_inj hi cy σ) (Nat.le_of_ble_eq_true rfl) [(0, .ref (ad 0)), (1, .int x1), (2, .int x2), (3, .int x3)] rfl ?_
  intro p e s m args below meth c C
  rw [f_works] at h
  refine v_iload_n C 1 dX11_works_0 rfl rfl ?_
  refine v_istore C [(4, .int x1), (0, .ref (ad 0)), (1, .int x1), (2, .int x2), (3, .int x3)] dX11_works_1 (by decide) rfl ?_
  refine v_iconst C 0 dX11_works_3 (by decide) ?_
  refine v_istore C [(5, .int 0), (4, .int x1), (0, .ref (ad 0)), (1, .int x1), (2, .int x2), (3, .int x3)] dX11_works_4 (by decide) rfl ?_
  exact v_sub [2, 4, 5, 1, 0] rfl ((l_works_6 C hi 10000) _ _ _ _ _ h)
set_option maxHeartbeats 4000000 in
set_option maxRecDepth 20000 in
theorem b_checks_24 {p : Program} {l : Launch} {e : Env} {s : State} {m : MethodId} {args : Array Value} {below : List Frame} {meth : Method} {c : Code} {D : va_G} {cy : Nat → ClassId} {ad : Nat → Nat} {q : Int32 × MS} (C : vC p s m args meth c cX11_checks 2 none RX11 D (cyT cy)) (hi : ∀ i j, i < 34 → j < 34 → ad i = ad j → i = j) : ∀ (s0 : Int32) (σ : MS), B_checks_24 s0 σ = some q → V p l e { frames := 0, cells := 0, slots := 0, locals := 0 } s m args below meth c D (inAd ad) 2 (MQ below (vQ D (inAd ad) none (wm cy ad q.2)) args s 0 0 (inAd ad)) 0 0 (wm cy ad σ) 24 [(0, .ref (ad 0))] [.int s0, .ref (ad 0)] := by
  intro s0 σ h
  rw [B_checks_24] at h
  obtain ⟨g1, h⟩ := gd_of h
  refine n_putZ C (bzb_in g1) fl_186 dX11_checks_24 ?_
  obtain rfl := Option.some.inj h
  exact v_vret C dX11_checks_27
set_option maxHeartbeats 4000000 in
set_option maxRecDepth 20000 in
theorem b_checks_19 {p : Program} {l : Launch} {e : Env} {s : State} {m : MethodId} {args : Array Value} {below : List Frame} {meth : Method} {c : Code} {D : va_G} {cy : Nat → ClassId} {ad : Nat → Nat} {q : Int32 × MS} (C : vC p s m args meth c cX11_checks 2 none RX11 D (cyT cy)) (hi : ∀ i j, i < 34 → j < 34 → ad i = ad j → i = j) {k24 : Int32 → MS → Option (Int32 × MS)} (hk24 : ∀ (s0 : Int32)  (σ : MS), k24 s0 σ = some q → V p l e { frames := 0, cells := 0, slots := 0, locals := 0 } s m args below meth c D (inAd ad) 2 (MQ below (vQ D (inAd ad) none (wm cy ad q.2)) args s 0 0 (inAd ad)) 0 0 (wm cy ad σ) 24 [(0, .ref (ad 0))] [.int s0, .ref (ad 0)]) : ∀ (σ : MS), B_checks_19 k24 σ = some q → V p l e { frames := 0, cells := 0, slots := 0, locals := 0 } s m args below meth c D (inAd ad) 2 (MQ below (vQ D (inAd ad) none (wm cy ad q.2)) args s 0 0 (inAd ad)) 0 0 (wm cy ad σ) 19 [(0, .ref (ad 0))] [.ref (ad 0)] := by
  intro σ h
  rw [B_checks_19] at h
  refine v_iconst C 1 dX11_checks_19 (by decide) ?_
  refine v_goto C 24 dX11_checks_20 (by decide) ?_
  exact v_sub [0] rfl (hk24 _ _ h)
set_option maxHeartbeats 4000000 in
set_option maxRecDepth 20000 in
theorem c_checks {l : Launch} {D : va_G} {cy : Nat → ClassId} {ad : Nat → Nat} {q : Int32 × MS} (hi : ∀ i j, i < 34 → j < 34 → ad i = ad j → i = j) (x1 : Int32) (σ : MS) (h : f_checks x1 σ = some q) : MV l D (cyT cy) (inAd ad) yX11_checks cX11_checks 2 none 0 0 0 0 [.ref (ad 0), .int x1] (wm cy ad σ) none (wm cy ad q.2) := by
  refine MV.of (by decide) (wm_inj hi cy σ) (Nat.le_of_ble_eq_true rfl) [(0, .ref (ad 0)), (1, .int x1)] rfl ?_
  intro p e s m args below meth c C
  rw [f_checks] at h
  refine v_aload_n C 0 dX11_checks_0 rfl rfl ?_
  refine v_aload_n C 0 dX11_checks_1 rfl rfl ?_
  refine n_getZ C fl_186 dX11_checks_2 ?_
  refine v_if_ne C 19 dX11_checks_5 (by decide) (fun c1 => ?_) (fun c1 => ?_)
  · rw [if_neg c1] at h
    exact v_sub [0] rfl ((b_checks_19 C hi (b_checks_24 C hi)) _ h)
  · rw [if_pos c1] at h
    refine v_aload_n C 0 dX11_checks_8 rfl rfl ?_
    refine n_getI C fl_133 dX11_checks_9 ?_
    refine v_iload_n C 1 dX11_checks_12 rfl rfl ?_
    refine v_isub C dX11_checks_13 ?_
    refine v_bipush C 50 dX11_checks_14 (by decide) ?_
    refine v_icmp_le C 23 dX11_checks_16 (by decide) (fun c2 => ?_) (fun c2 => ?_)
    · rw [if_pos c2] at h
      refine v_iconst C 0 dX11_checks_23 (by decide) ?_
      exact v_sub [0] rfl ((b_checks_24 C hi) _ _ h)
    · rw [if_neg c2] at h
      exact v_sub [0] rfl ((b_checks_19 C hi (b_checks_24 C hi)) _ h)
set_option maxHeartbeats 4000000 in
set_option maxRecDepth 20000 in
theorem b_tellsSign_71 {p : Program} {l : Launch} {e : Env} {s : State} {m : MethodId} {args : Array Value} {below : List Frame} {meth : Method} {c : Code} {D : va_G} {cy : Nat → ClassId} {ad : Nat → Nat} {q : Int32 × MS} (C : vC p s m args meth c cX11_tellsSign 3 none RX11 D (cyT cy)) (hi : ∀ i j, i < 34 → j < 34 → ad i = ad j → i = j) {k174 : MS → Option (Int32 × MS)} (hk174 : ∀  (σ : MS), k174 σ = some q → V p l e { frames := 1, cells := 0, slots := 0, locals := 21 } s m args below meth c D (inAd ad) 3 (MQ below (vQ D (inAd ad) none (wm cy ad q.2)) args s 0 0 (inAd ad)) 0 0 (wm cy ad σ) 174 [(0, .ref (ad 0))] []) : ∀ (x1 : Int32) (s0 : Int32) (σ : MS), B_tellsSign_71 k174 x1 s0 σ = some q → V p l e { frames := 1, cells := 0, slots := 0, locals := 21 } s m args below meth c D (inAd ad) 3 (MQ below (vQ D (inAd ad) none (wm cy ad q.2)) args s 0 0 (inAd ad)) 0 0 (wm cy ad σ) 71 [(0, .ref (ad 0)), (1, .int x1)] [.int s0, .ref (ad 0)] := by
  intro x1 s0 σ h
  rw [B_tellsSign_71] at h
  obtain ⟨g1, h⟩ := gd_of h
  refine n_putZ C (bzb_in g1) fl_186 dX11_tellsSign_71 ?_
  refine v_aload_n C 0 dX11_tellsSign_74 rfl rfl ?_
  refine v_bipush C 48 dX11_tellsSign_75 (by decide) ?_
  refine v_aload_n C 0 dX11_tellsSign_77 rfl rfl ?_
  refine v_iload_n C 1 dX11_tellsSign_78 rfl rfl ?_
  obtain ⟨q1, hq1, h⟩ := bd_of h
  refine vm_call C [.int x1] [.int 48, .ref (ad 0)] (c_aOf hi _ _ hq1) hY_aOf ml_154 ⟨Nat.le_of_ble_eq_true rfl, Nat.le_of_ble_eq_true rfl⟩ ⟨Nat.zero_le _, Nat.zero_le _⟩ rfl rfl (Nat.le_of_ble_eq_true rfl) dX11_tellsSign_79 (wm_inj hi cy _) ?_
  refine v_iadd C dX11_tellsSign_82 ?_
  obtain ⟨q2, hq2, h⟩ := bd_of h
  refine vm_call C [.int (48 + q1.1)] [] (c_puts hi _ _ hq2) hY_puts ml_136 ⟨Nat.le_of_ble_eq_true rfl, Nat.le_of_ble_eq_true rfl⟩ ⟨Nat.zero_le _, Nat.zero_le _⟩ rfl rfl (Nat.le_of_ble_eq_true rfl) dX11_tellsSign_83 (wm_inj hi cy _) ?_
  refine v_goto C 174 dX11_tellsSign_86 (by decide) ?_
  exact v_sub [0] rfl (hk174 _ h)
set_option maxHeartbeats 4000000 in
set_option maxRecDepth 20000 in
theorem b_tellsSign_66 {p : Program} {l : Launch} {e : Env} {s : State} {m : MethodId} {args : Array Value} {below : List Frame} {meth : Method} {c : Code} {D : va_G} {cy : Nat → ClassId} {ad : Nat → Nat} {q : Int32 × MS} (C : vC p s m args meth c cX11_tellsSign 3 none RX11 D (cyT cy)) (hi : ∀ i j, i < 34 → j < 34 → ad i = ad j → i = j) {k71 : Int32 → Int32 → MS → Option (Int32 × MS)} (hk71 : ∀ (x1 : Int32) (s0 : Int32)  (σ : MS), k71 x1 s0 σ = some q → V p l e { frames := 1, cells := 0, slots := 0, locals := 21 } s m args below meth c D (inAd ad) 3 (MQ below (vQ D (inAd ad) none (wm cy ad q.2)) args s 0 0 (inAd ad)) 0 0 (wm cy ad σ) 71 [(0, .ref (ad 0)), (1, .int x1)] [.int s0, .ref (ad 0)]) : ∀ (x1 : Int32) (σ : MS), B_tellsSign_66 k71 x1 σ = some q → V p l e { frames := 1, cells := 0, slots := 0, locals := 21 } s m args below meth c D (inAd ad) 3 (MQ below (vQ D (inAd ad) none (wm cy ad q.2)) args s 0 0 (inAd ad)) 0 0 (wm cy ad σ) 66 [(0, .ref (ad 0)), (1, .int x1)] [.ref (ad 0)] := by
  intro x1 σ h
  rw [B_tellsSign_66] at h
  refine v_iconst C 1 dX11_tellsSign_66 (by decide) ?_
  refine v_goto C 71 dX11_tellsSign_67 (by decide) ?_
  exact v_sub [0, 1] rfl (hk71 _ _ _ h)
set_option maxHeartbeats 4000000 in
set_option maxRecDepth 20000 in
theorem b_tellsSign_165 {p : Program} {l : Launch} {e : Env} {s : State} {m : MethodId} {args : Array Value} {below : List Frame} {meth : Method} {c : Code} {D : va_G} {cy : Nat → ClassId} {ad : Nat → Nat} {q : Int32 × MS} (C : vC p s m args meth c cX11_tellsSign 3 none RX11 D (cyT cy)) (hi : ∀ i j, i < 34 → j < 34 → ad i = ad j → i = j) {k174 : MS → Option (Int32 × MS)} (hk174 : ∀  (σ : MS), k174 σ = some q → V p l e { frames := 1, cells := 0, slots := 0, locals := 21 } s m args below meth c D (inAd ad) 3 (MQ below (vQ D (inAd ad) none (wm cy ad q.2)) args s 0 0 (inAd ad)) 0 0 (wm cy ad σ) 174 [(0, .ref (ad 0))] []) : ∀ (s0 : Int32) (σ : MS), B_tellsSign_165 k174 s0 σ = some q → V p l e { frames := 1, cells := 0, slots := 0, locals := 21 } s m args below meth c D (inAd ad) 3 (MQ below (vQ D (inAd ad) none (wm cy ad q.2)) args s 0 0 (inAd ad)) 0 0 (wm cy ad σ) 165 [(0, .ref (ad 0))] [.int s0, .ref (ad 0)] := by
  intro s0 σ h
  rw [B_tellsSign_165] at h
  obtain ⟨g1, h⟩ := gd_of h
  refine n_putZ C (bzb_in g1) fl_186 dX11_tellsSign_165 ?_
  refine v_aload_n C 0 dX11_tellsSign_168 rfl rfl ?_
  refine v_bipush C 92 dX11_tellsSign_169 (by decide) ?_
  obtain ⟨q1, hq1, h⟩ := bd_of h
  refine vm_call C [.int 92] [] (c_puts hi _ _ hq1) hY_puts ml_136 ⟨Nat.le_of_ble_eq_true rfl, Nat.le_of_ble_eq_true rfl⟩ ⟨Nat.zero_le _, Nat.zero_le _⟩ rfl rfl (Nat.le_of_ble_eq_true rfl) dX11_tellsSign_171 (wm_inj hi cy _) ?_
  exact v_sub [0] rfl (hk174 _ h)
set_option maxHeartbeats 4000000 in
set_option maxRecDepth 20000 in
theorem b_tellsSign_160 {p : Program} {l : Launch} {e : Env} {s : State} {m : MethodId} {args : Array Value} {below : List Frame} {meth : Method} {c : Code} {D : va_G} {cy : Nat → ClassId} {ad : Nat → Nat} {q : Int32 × MS} (C : vC p s m args meth c cX11_tellsSign 3 none RX11 D (cyT cy)) (hi : ∀ i j, i < 34 → j < 34 → ad i = ad j → i = j) {k165 : Int32 → MS → Option (Int32 × MS)} (hk165 : ∀ (s0 : Int32)  (σ : MS), k165 s0 σ = some q → V p l e { frames := 1, cells := 0, slots := 0, locals := 21 } s m args below meth c D (inAd ad) 3 (MQ below (vQ D (inAd ad) none (wm cy ad q.2)) args s 0 0 (inAd ad)) 0 0 (wm cy ad σ) 165 [(0, .ref (ad 0))] [.int s0, .ref (ad 0)]) : ∀ (σ : MS), B_tellsSign_160 k165 σ = some q → V p l e { frames := 1, cells := 0, slots := 0, locals := 21 } s m args below meth c D (inAd ad) 3 (MQ below (vQ D (inAd ad) none (wm cy ad q.2)) args s 0 0 (inAd ad)) 0 0 (wm cy ad σ) 160 [(0, .ref (ad 0))] [.ref (ad 0)] := by
  intro σ h
  rw [B_tellsSign_160] at h
  refine v_iconst C 1 dX11_tellsSign_160 (by decide) ?_
  refine v_goto C 165 dX11_tellsSign_161 (by decide) ?_
  exact v_sub [0] rfl (hk165 _ _ h)
set_option maxHeartbeats 4000000 in
set_option maxRecDepth 20000 in
theorem b_tellsSign_174 {p : Program} {l : Launch} {e : Env} {s : State} {m : MethodId} {args : Array Value} {below : List Frame} {meth : Method} {c : Code} {D : va_G} {cy : Nat → ClassId} {ad : Nat → Nat} {q : Int32 × MS} (C : vC p s m args meth c cX11_tellsSign 3 none RX11 D (cyT cy)) (hi : ∀ i j, i < 34 → j < 34 → ad i = ad j → i = j) : ∀ (σ : MS), B_tellsSign_174 σ = some q → V p l e { frames := 1, cells := 0, slots := 0, locals := 21 } s m args below meth c D (inAd ad) 3 (MQ below (vQ D (inAd ad) none (wm cy ad q.2)) args s 0 0 (inAd ad)) 0 0 (wm cy ad σ) 174 [(0, .ref (ad 0))] [] := by
  intro σ h
  rw [B_tellsSign_174] at h
  obtain rfl := Option.some.inj h
  exact v_vret C dX11_tellsSign_174
set_option maxHeartbeats 4000000 in
set_option maxRecDepth 20000 in
theorem c_tellsSign {l : Launch} {D : va_G} {cy : Nat → ClassId} {ad : Nat → Nat} {q : Int32 × MS} (hi : ∀ i j, i < 34 → j < 34 → ad i = ad j → i = j) (x1 : Int32) (x2 : Int32) (σ : MS) (h : f_tellsSign x1 x2 σ = some q) : MV l D (cyT cy) (inAd ad) yX11_tellsSign cX11_tellsSign 3 none 1 21 0 0 [.ref (ad 0), .int x1, .int x2] (wm cy ad σ) none (wm cy ad q.2) := by
  refine MV.of (by decide) (wm_inj hi cy σ) (Nat.le_of_ble_eq_true rfl) [(0, .ref (ad 0)), (1, .int x1), (2, .int x2)] rfl ?_
  intro p e s m args below meth c C
  rw [f_tellsSign] at h
  refine v_aload_n C 0 dX11_tellsSign_0 rfl rfl ?_
  refine v_iload_n C 1 dX11_tellsSign_1 rfl rfl ?_
  obtain ⟨q1, hq1, h⟩ := bd_of h
  refine vm_call C [.int x1] [] (c_sortOf hi _ _ hq1) hY_sortOf ml_151 ⟨Nat.le_of_ble_eq_true rfl, Nat.le_of_ble_eq_true rfl⟩ ⟨Nat.zero_le _, Nat.zero_le _⟩ rfl rfl (Nat.le_of_ble_eq_true rfl) dX11_tellsSign_2 (wm_inj hi cy _) ?_
  by_cases c1 : q1.1 = 0
  · rw [if_pos c1] at h
    refine v_tableIn C 48 dX11_tellsSign_5 (by rw [c1]; decide) (by rw [c1]; decide) (by rw [c1]; try rfl) (by decide) ?_
    refine v_aload_n C 0 dX11_tellsSign_48 rfl rfl ?_
    refine v_aload_n C 0 dX11_tellsSign_49 rfl rfl ?_
    refine n_getZ C fl_186 dX11_tellsSign_50 ?_
    refine v_if_ne C 66 dX11_tellsSign_53 (by decide) (fun c2 => ?_) (fun c2 => ?_)
    · rw [if_neg c2] at h
      exact v_sub [0, 1] rfl ((b_tellsSign_66 C hi (b_tellsSign_71 C hi (b_tellsSign_174 C hi))) _ _ h)
    · rw [if_pos c2] at h
      refine v_aload_n C 0 dX11_tellsSign_56 rfl rfl ?_
      refine v_iload_n C 1 dX11_tellsSign_57 rfl rfl ?_
      obtain ⟨q2, hq2, h⟩ := bd_of h
      refine vm_call C [.int x1] [.ref (ad 0)] (c_aOf hi _ _ hq2) hY_aOf ml_154 ⟨Nat.le_of_ble_eq_true rfl, Nat.le_of_ble_eq_true rfl⟩ ⟨Nat.zero_le _, Nat.zero_le _⟩ rfl rfl (Nat.le_of_ble_eq_true rfl) dX11_tellsSign_58 (wm_inj hi cy _) ?_
      refine v_bipush C 9 dX11_tellsSign_61 (by decide) ?_
      refine v_icmp_le C 70 dX11_tellsSign_63 (by decide) (fun c3 => ?_) (fun c3 => ?_)
      · rw [if_pos c3] at h
        refine v_iconst C 0 dX11_tellsSign_70 (by decide) ?_
        exact v_sub [0, 1] rfl ((b_tellsSign_71 C hi (b_tellsSign_174 C hi)) _ _ _ h)
      · rw [if_neg c3] at h
        exact v_sub [0, 1] rfl ((b_tellsSign_66 C hi (b_tellsSign_71 C hi (b_tellsSign_174 C hi))) _ _ h)
  rw [if_neg c1] at h
  by_cases c4 : q1.1 = 1
  · rw [if_pos c4] at h
    refine v_tableIn C 89 dX11_tellsSign_5 (by rw [c4]; decide) (by rw [c4]; decide) (by rw [c4]; try rfl) (by decide) ?_
    refine v_aload_n C 0 dX11_tellsSign_89 rfl rfl ?_
    refine v_aload_n C 0 dX11_tellsSign_90 rfl rfl ?_
    refine v_iload_n C 1 dX11_tellsSign_91 rfl rfl ?_
    obtain ⟨q3, hq3, h⟩ := bd_of h
    refine vm_call C [.int x1] [.ref (ad 0)] (c_aOf hi _ _ hq3) hY_aOf ml_154 ⟨Nat.le_of_ble_eq_true rfl, Nat.le_of_ble_eq_true rfl⟩ ⟨Nat.zero_le _, Nat.zero_le _⟩ rfl rfl (Nat.le_of_ble_eq_true rfl) dX11_tellsSign_92 (wm_inj hi cy _) ?_
    obtain ⟨q4, hq4, h⟩ := bd_of h
    refine vm_call C [.int q3.1] [] (c_puts hi _ _ hq4) hY_puts ml_136 ⟨Nat.le_of_ble_eq_true rfl, Nat.le_of_ble_eq_true rfl⟩ ⟨Nat.zero_le _, Nat.zero_le _⟩ rfl rfl (Nat.le_of_ble_eq_true rfl) dX11_tellsSign_95 (wm_inj hi cy _) ?_
    refine v_goto C 174 dX11_tellsSign_98 (by decide) ?_
    exact v_sub [0] rfl ((b_tellsSign_174 C hi) _ h)
  rw [if_neg c4] at h
  by_cases c5 : q1.1 = 2
  · rw [if_pos c5] at h
    refine v_tableIn C 101 dX11_tellsSign_5 (by rw [c5]; decide) (by rw [c5]; decide) (by rw [c5]; try rfl) (by decide) ?_
    refine v_aload_n C 0 dX11_tellsSign_101 rfl rfl ?_
    refine v_bipush C 46 dX11_tellsSign_102 (by decide) ?_
    obtain ⟨q5, hq5, h⟩ := bd_of h
    refine vm_call C [.int 46] [] (c_puts hi _ _ hq5) hY_puts ml_136 ⟨Nat.le_of_ble_eq_true rfl, Nat.le_of_ble_eq_true rfl⟩ ⟨Nat.zero_le _, Nat.zero_le _⟩ rfl rfl (Nat.le_of_ble_eq_true rfl) dX11_tellsSign_104 (wm_inj hi cy _) ?_
    refine v_goto C 174 dX11_tellsSign_107 (by decide) ?_
    exact v_sub [0] rfl ((b_tellsSign_174 C hi) _ h)
  rw [if_neg c5] at h
  by_cases c6 : q1.1 = 3
  · rw [if_pos c6] at h
    refine v_tableIn C 110 dX11_tellsSign_5 (by rw [c6]; decide) (by rw [c6]; decide) (by rw [c6]; try rfl) (by decide) ?_
    refine v_aload_n C 0 dX11_tellsSign_110 rfl rfl ?_
    refine v_bipush C 60 dX11_tellsSign_111 (by decide) ?_
    obtain ⟨q6, hq6, h⟩ := bd_of h
    refine vm_call C [.int 60] [] (c_puts hi _ _ hq6) hY_puts ml_136 ⟨Nat.le_of_ble_eq_true rfl, Nat.le_of_ble_eq_true rfl⟩ ⟨Nat.zero_le _, Nat.zero_le _⟩ rfl rfl (Nat.le_of_ble_eq_true rfl) dX11_tellsSign_113 (wm_inj hi cy _) ?_
    refine v_goto C 174 dX11_tellsSign_116 (by decide) ?_
    exact v_sub [0] rfl ((b_tellsSign_174 C hi) _ h)
  rw [if_neg c6] at h
  by_cases c7 : q1.1 = 4
  · rw [if_pos c7] at h
    refine v_tableIn C 119 dX11_tellsSign_5 (by rw [c7]; decide) (by rw [c7]; decide) (by rw [c7]; try rfl) (by decide) ?_
    refine v_aload_n C 0 dX11_tellsSign_119 rfl rfl ?_
    refine v_bipush C 62 dX11_tellsSign_120 (by decide) ?_
    obtain ⟨q7, hq7, h⟩ := bd_of h
    refine vm_call C [.int 62] [] (c_puts hi _ _ hq7) hY_puts ml_136 ⟨Nat.le_of_ble_eq_true rfl, Nat.le_of_ble_eq_true rfl⟩ ⟨Nat.zero_le _, Nat.zero_le _⟩ rfl rfl (Nat.le_of_ble_eq_true rfl) dX11_tellsSign_122 (wm_inj hi cy _) ?_
    refine v_goto C 174 dX11_tellsSign_125 (by decide) ?_
    exact v_sub [0] rfl ((b_tellsSign_174 C hi) _ h)
  rw [if_neg c7] at h
  by_cases c8 : q1.1 = 5
  · rw [if_pos c8] at h
    refine v_tableIn C 128 dX11_tellsSign_5 (by rw [c8]; decide) (by rw [c8]; decide) (by rw [c8]; try rfl) (by decide) ?_
    refine v_aload_n C 0 dX11_tellsSign_128 rfl rfl ?_
    refine v_bipush C 44 dX11_tellsSign_129 (by decide) ?_
    obtain ⟨q8, hq8, h⟩ := bd_of h
    refine vm_call C [.int 44] [] (c_puts hi _ _ hq8) hY_puts ml_136 ⟨Nat.le_of_ble_eq_true rfl, Nat.le_of_ble_eq_true rfl⟩ ⟨Nat.zero_le _, Nat.zero_le _⟩ rfl rfl (Nat.le_of_ble_eq_true rfl) dX11_tellsSign_131 (wm_inj hi cy _) ?_
    refine v_goto C 174 dX11_tellsSign_134 (by decide) ?_
    exact v_sub [0] rfl ((b_tellsSign_174 C hi) _ h)
  rw [if_neg c8] at h
  by_cases c9 : q1.1 = 6
  · rw [if_pos c9] at h
    refine v_tableIn C 137 dX11_tellsSign_5 (by rw [c9]; decide) (by rw [c9]; decide) (by rw [c9]; try rfl) (by decide) ?_
    refine v_aload_n C 0 dX11_tellsSign_137 rfl rfl ?_
    refine v_bipush C 42 dX11_tellsSign_138 (by decide) ?_
    obtain ⟨q9, hq9, h⟩ := bd_of h
    refine vm_call C [.int 42] [] (c_puts hi _ _ hq9) hY_puts ml_136 ⟨Nat.le_of_ble_eq_true rfl, Nat.le_of_ble_eq_true rfl⟩ ⟨Nat.zero_le _, Nat.zero_le _⟩ rfl rfl (Nat.le_of_ble_eq_true rfl) dX11_tellsSign_140 (wm_inj hi cy _) ?_
    refine v_goto C 174 dX11_tellsSign_143 (by decide) ?_
    exact v_sub [0] rfl ((b_tellsSign_174 C hi) _ h)
  rw [if_neg c9] at h
  refine v_tableOut C 146 dX11_tellsSign_5 (sw_out 6 (by decide) (fun i hi9 => by have k0 := lv_neT c1 (show (0 : Int32).toInt = 0 from by decide); have k1 := lv_neT c4 (show (1 : Int32).toInt = 1 from by decide); have k2 := lv_neT c5 (show (2 : Int32).toInt = 2 from by decide); have k3 := lv_neT c6 (show (3 : Int32).toInt = 3 from by decide); have k4 := lv_neT c7 (show (4 : Int32).toInt = 4 from by decide); have k5 := lv_neT c8 (show (5 : Int32).toInt = 5 from by decide); have k6 := lv_neT c9 (show (6 : Int32).toInt = 6 from by decide); omega)) (by decide) ?_
  refine v_aload_n C 0 dX11_tellsSign_146 rfl rfl ?_
  refine v_aload_n C 0 dX11_tellsSign_147 rfl rfl ?_
  refine n_getZ C fl_186 dX11_tellsSign_148 ?_
  refine v_if_ne C 160 dX11_tellsSign_151 (by decide) (fun c10 => ?_) (fun c10 => ?_)
  · rw [if_neg c10] at h
    exact v_sub [0] rfl ((b_tellsSign_160 C hi (b_tellsSign_165 C hi (b_tellsSign_174 C hi))) _ h)
  · rw [if_pos c10] at h
    refine v_iload_n C 2 dX11_tellsSign_154 rfl rfl ?_
    refine v_bipush C 10 dX11_tellsSign_155 (by decide) ?_
    refine v_icmp_lt C 164 dX11_tellsSign_157 (by decide) (fun c11 => ?_) (fun c11 => ?_)
    · rw [if_pos c11] at h
      refine v_iconst C 0 dX11_tellsSign_164 (by decide) ?_
      exact v_sub [0] rfl ((b_tellsSign_165 C hi (b_tellsSign_174 C hi)) _ _ h)
    · rw [if_neg c11] at h
      exact v_sub [0] rfl ((b_tellsSign_160 C hi (b_tellsSign_165 C hi (b_tellsSign_174 C hi))) _ h)
set_option maxHeartbeats 4000000 in
set_option maxRecDepth 20000 in
theorem b_tells_194 {p : Program} {l : Launch} {e : Env} {s : State} {m : MethodId} {args : Array Value} {below : List Frame} {meth : Method} {c : Code} {D : va_G} {cy : Nat → ClassId} {ad : Nat → Nat} {q : Int32 × MS} (C : vC p s m args meth c cX11_tells 8 none RX11 D (cyT cy)) (hi : ∀ i j, i < 34 → j < 34 → ad i = ad j → i = j) {k198 : Int32 → Int32 → MS → Option (Int32 × MS)} (hk198 : ∀ (x3 : Int32) (x4 : Int32)  (σ : MS), k198 x3 x4 σ = some q → V p l e { frames := 5, cells := 0, slots := 0, locals := 117 } s m args below meth c D (inAd ad) 8 (MQ below (vQ D (inAd ad) none (wm cy ad q.2)) args s 0 0 (inAd ad)) 0 0 (wm cy ad σ) 198 [(0, .ref (ad 0)), (3, .int x3), (4, .int x4)] []) : ∀ (x3 : Int32) (x4 : Int32) (s0 : Int32) (s1 : Int32) (σ : MS), B_tells_194 k198 x3 x4 s0 s1 σ = some q → V p l e { frames := 5, cells := 0, slots := 0, locals := 117 } s m args below meth c D (inAd ad) 8 (MQ below (vQ D (inAd ad) none (wm cy ad q.2)) args s 0 0 (inAd ad)) 0 0 (wm cy ad σ) 194 [(0, .ref (ad 0)), (3, .int x3), (4, .int x4)] [.int s0, .int s1, .ref (ad 17)] := by
  intro x3 x4 s0 s1 σ h
  rw [B_tells_194] at h
  obtain ⟨g1, h⟩ := gd_of h
  refine vm_iast C 17 iI_17 (ix_in g1) dX11_tells_194 ?_
  refine v_iinc C (x4 + 1) 2 [(4, .int (x4 + 1)), (0, .ref (ad 0)), (3, .int x3)] dX11_tells_195 rfl rfl (by decide) rfl ?_
  exact v_sub [1, 2, 0] rfl (hk198 _ _ _ h)
set_option maxHeartbeats 4000000 in
set_option maxRecDepth 20000 in
theorem b_tells_171 {p : Program} {l : Launch} {e : Env} {s : State} {m : MethodId} {args : Array Value} {below : List Frame} {meth : Method} {c : Code} {D : va_G} {cy : Nat → ClassId} {ad : Nat → Nat} {q : Int32 × MS} (C : vC p s m args meth c cX11_tells 8 none RX11 D (cyT cy)) (hi : ∀ i j, i < 34 → j < 34 → ad i = ad j → i = j) {k198 : Int32 → Int32 → MS → Option (Int32 × MS)} (hk198 : ∀ (x3 : Int32) (x4 : Int32)  (σ : MS), k198 x3 x4 σ = some q → V p l e { frames := 5, cells := 0, slots := 0, locals := 117 } s m args below meth c D (inAd ad) 8 (MQ below (vQ D (inAd ad) none (wm cy ad q.2)) args s 0 0 (inAd ad)) 0 0 (wm cy ad σ) 198 [(0, .ref (ad 0)), (3, .int x3), (4, .int x4)] []) : ∀ (x3 : Int32) (x4 : Int32) (x6 : Int32) (x7 : Int32) (s0 : Int32) (s1 : Int32) (σ : MS), B_tells_171 k198 x3 x4 x6 x7 s0 s1 σ = some q → V p l e { frames := 5, cells := 0, slots := 0, locals := 117 } s m args below meth c D (inAd ad) 8 (MQ below (vQ D (inAd ad) none (wm cy ad q.2)) args s 0 0 (inAd ad)) 0 0 (wm cy ad σ) 171 [(0, .ref (ad 0)), (3, .int x3), (4, .int x4), (6, .int x6), (7, .int x7)] [.int s0, .int s1, .ref (ad 16)] := by
  intro x3 x4 x6 x7 s0 s1 σ h
  rw [B_tells_171] at h
  obtain ⟨g1, h⟩ := gd_of h
  refine vm_iast C 16 iI_16 (ix_in g1) dX11_tells_171 ?_
  refine v_aload_n C 0 dX11_tells_172 rfl rfl ?_
  refine n_getR C fl_64 dX11_tells_173 ?_
  refine v_iload C 2 dX11_tells_176 rfl ?_
  refine v_iload C 4 dX11_tells_178 rfl ?_
  refine v_bipush C 7 dX11_tells_180 (by decide) ?_
  refine v_icmp_ne C 192 dX11_tells_182 (by decide) (fun c1 => ?_) (fun c1 => ?_)
  · rw [if_neg c1] at h
    refine v_iload C 3 dX11_tells_192 rfl ?_
    exact v_sub [0, 1, 2] rfl ((b_tells_194 C hi hk198) _ _ _ _ _ h)
  · rw [if_pos c1] at h
    refine v_iload C 3 dX11_tells_185 rfl ?_
    refine v_iconst C 1 dX11_tells_187 (by decide) ?_
    refine v_iadd C dX11_tells_188 ?_
    refine v_goto C 194 dX11_tells_189 (by decide) ?_
    exact v_sub [0, 1, 2] rfl ((b_tells_194 C hi hk198) _ _ _ _ _ h)
set_option maxHeartbeats 4000000 in
set_option maxRecDepth 20000 in
theorem b_tells_141 {p : Program} {l : Launch} {e : Env} {s : State} {m : MethodId} {args : Array Value} {below : List Frame} {meth : Method} {c : Code} {D : va_G} {cy : Nat → ClassId} {ad : Nat → Nat} {q : Int32 × MS} (C : vC p s m args meth c cX11_tells 8 none RX11 D (cyT cy)) (hi : ∀ i j, i < 34 → j < 34 → ad i = ad j → i = j) {k198 : Int32 → Int32 → MS → Option (Int32 × MS)} (hk198 : ∀ (x3 : Int32) (x4 : Int32)  (σ : MS), k198 x3 x4 σ = some q → V p l e { frames := 5, cells := 0, slots := 0, locals := 117 } s m args below meth c D (inAd ad) 8 (MQ below (vQ D (inAd ad) none (wm cy ad q.2)) args s 0 0 (inAd ad)) 0 0 (wm cy ad σ) 198 [(0, .ref (ad 0)), (3, .int x3), (4, .int x4)] []) : ∀ (x3 : Int32) (x4 : Int32) (x5 : Int32) (x6 : Int32) (x7 : Int32) (σ : MS), B_tells_141 k198 x3 x4 x5 x6 x7 σ = some q → V p l e { frames := 5, cells := 0, slots := 0, locals := 117 } s m args below meth c D (inAd ad) 8 (MQ below (vQ D (inAd ad) none (wm cy ad q.2)) args s 0 0 (inAd ad)) 0 0 (wm cy ad σ) 141 [(0, .ref (ad 0)), (3, .int x3), (4, .int x4), (5, .int x5), (6, .int x6), (7, .int x7)] [] := by
  intro x3 x4 x5 x6 x7 σ h
  rw [B_tells_141] at h
  refine v_aload_n C 0 dX11_tells_141 rfl rfl ?_
  refine n_getR C fl_61 dX11_tells_142 ?_
  refine v_iload C 2 dX11_tells_145 rfl ?_
  refine v_iload C 5 dX11_tells_147 rfl ?_
  refine v_bipush C 7 dX11_tells_149 (by decide) ?_
  refine v_icmp_ne C 165 dX11_tells_151 (by decide) (fun c1 => ?_) (fun c1 => ?_)
  · rw [if_neg c1] at h
    refine v_aload_n C 0 dX11_tells_165 rfl rfl ?_
    refine v_iload C 3 dX11_tells_166 rfl ?_
    obtain ⟨q1, hq1, h⟩ := bd_of h
    refine vm_call C [.int x5] [.int x4, .ref (ad 16)] (c_aOf hi _ _ hq1) hY_aOf ml_154 ⟨Nat.le_of_ble_eq_true rfl, Nat.le_of_ble_eq_true rfl⟩ ⟨Nat.zero_le _, Nat.zero_le _⟩ rfl rfl (Nat.le_of_ble_eq_true rfl) dX11_tells_168 (wm_inj hi cy _) ?_
    exact v_sub [0, 1, 2, 4, 5] rfl ((b_tells_171 C hi hk198) _ _ _ _ _ _ _ h)
  · rw [if_pos c1] at h
    refine v_aload_n C 0 dX11_tells_154 rfl rfl ?_
    refine v_iload C 3 dX11_tells_155 rfl ?_
    refine v_iload C 4 dX11_tells_157 rfl ?_
    obtain ⟨q2, hq2, h⟩ := bd_of h
    refine vm_call C [.int x5, .int x6] [.int x4, .ref (ad 16)] (c_gives hi _ _ _ hq2) hY_gives ml_183 ⟨Nat.le_of_ble_eq_true rfl, Nat.le_of_ble_eq_true rfl⟩ ⟨Nat.zero_le _, Nat.zero_le _⟩ rfl rfl (Nat.le_of_ble_eq_true rfl) dX11_tells_159 (wm_inj hi cy _) ?_
    refine v_goto C 171 dX11_tells_162 (by decide) ?_
    exact v_sub [0, 1, 2, 4, 5] rfl ((b_tells_171 C hi hk198) _ _ _ _ _ _ _ h)
set_option maxHeartbeats 4000000 in
set_option maxRecDepth 20000 in
theorem b_tells_198 {p : Program} {l : Launch} {e : Env} {s : State} {m : MethodId} {args : Array Value} {below : List Frame} {meth : Method} {c : Code} {D : va_G} {cy : Nat → ClassId} {ad : Nat → Nat} {q : Int32 × MS} (C : vC p s m args meth c cX11_tells 8 none RX11 D (cyT cy)) (hi : ∀ i j, i < 34 → j < 34 → ad i = ad j → i = j) {k17 : Int32 → Int32 → MS → Option (Int32 × MS)} (hk17 : ∀ (x3 : Int32) (x4 : Int32)  (σ : MS), k17 x3 x4 σ = some q → V p l e { frames := 5, cells := 0, slots := 0, locals := 117 } s m args below meth c D (inAd ad) 8 (MQ below (vQ D (inAd ad) none (wm cy ad q.2)) args s 0 0 (inAd ad)) 0 0 (wm cy ad σ) 17 [(0, .ref (ad 0)), (3, .int x3), (4, .int x4)] []) : ∀ (x3 : Int32) (x4 : Int32) (σ : MS), B_tells_198 k17 x3 x4 σ = some q → V p l e { frames := 5, cells := 0, slots := 0, locals := 117 } s m args below meth c D (inAd ad) 8 (MQ below (vQ D (inAd ad) none (wm cy ad q.2)) args s 0 0 (inAd ad)) 0 0 (wm cy ad σ) 198 [(0, .ref (ad 0)), (3, .int x3), (4, .int x4)] [] := by
  intro x3 x4 σ h
  rw [B_tells_198] at h
  refine v_goto C 17 dX11_tells_198 (by decide) ?_
  exact v_sub [0, 1, 2] rfl (hk17 _ _ _ h)
set_option maxHeartbeats 4000000 in
set_option maxRecDepth 20000 in
theorem b_tells_90 {p : Program} {l : Launch} {e : Env} {s : State} {m : MethodId} {args : Array Value} {below : List Frame} {meth : Method} {c : Code} {D : va_G} {cy : Nat → ClassId} {ad : Nat → Nat} {q : Int32 × MS} (C : vC p s m args meth c cX11_tells 8 none RX11 D (cyT cy)) (hi : ∀ i j, i < 34 → j < 34 → ad i = ad j → i = j) {k115 : Int32 → Int32 → Int32 → Int32 → Int32 → MS → Option (Int32 × MS)} (hk115 : ∀ (x3 : Int32) (x4 : Int32) (x5 : Int32) (x6 : Int32) (x7 : Int32)  (σ : MS), k115 x3 x4 x5 x6 x7 σ = some q → V p l e { frames := 5, cells := 0, slots := 0, locals := 117 } s m args below meth c D (inAd ad) 8 (MQ below (vQ D (inAd ad) none (wm cy ad q.2)) args s 0 0 (inAd ad)) 0 0 (wm cy ad σ) 115 [(0, .ref (ad 0)), (3, .int x3), (4, .int x4), (5, .int x5), (6, .int x6), (7, .int x7)] []) : ∀ (x3 : Int32) (x4 : Int32) (x5 : Int32) (x6 : Int32) (x7 : Int32) (σ : MS), B_tells_90 k115 x3 x4 x5 x6 x7 σ = some q → V p l e { frames := 5, cells := 0, slots := 0, locals := 117 } s m args below meth c D (inAd ad) 8 (MQ below (vQ D (inAd ad) none (wm cy ad q.2)) args s 0 0 (inAd ad)) 0 0 (wm cy ad σ) 90 [(0, .ref (ad 0)), (3, .int x3), (4, .int x4), (5, .int x5), (6, .int x6), (7, .int x7)] [] := by
  intro x3 x4 x5 x6 x7 σ h
  rw [B_tells_90] at h
  refine v_aload_n C 0 dX11_tells_90 rfl rfl ?_
  refine n_getR C fl_61 dX11_tells_91 ?_
  refine v_iload C 2 dX11_tells_94 rfl ?_
  refine v_aload_n C 0 dX11_tells_96 rfl rfl ?_
  refine v_iload C 3 dX11_tells_97 rfl ?_
  obtain ⟨q1, hq1, h⟩ := bd_of h
  refine vm_call C [.int x5] [.int x4, .ref (ad 16)] (c_bOf hi _ _ hq1) hY_bOf ml_157 ⟨Nat.le_of_ble_eq_true rfl, Nat.le_of_ble_eq_true rfl⟩ ⟨Nat.zero_le _, Nat.zero_le _⟩ rfl rfl (Nat.le_of_ble_eq_true rfl) dX11_tells_99 (wm_inj hi cy _) ?_
  obtain ⟨g1, h⟩ := gd_of h
  refine vm_iast C 16 iI_16 (ix_in g1) dX11_tells_102 ?_
  refine v_aload_n C 0 dX11_tells_103 rfl rfl ?_
  refine n_getR C fl_64 dX11_tells_104 ?_
  refine v_iload C 2 dX11_tells_107 rfl ?_
  refine v_iload C 4 dX11_tells_109 rfl ?_
  obtain ⟨g2, h⟩ := gd_of h
  refine vm_iast C 17 iI_17 (ix_in g2) dX11_tells_111 ?_
  refine v_iinc C (x4 + 1) 2 [(4, .int (x4 + 1)), (0, .ref (ad 0)), (3, .int x3), (5, .int x5), (6, .int x6), (7, .int x7)] dX11_tells_112 rfl rfl (by decide) rfl ?_
  exact v_sub [1, 2, 0, 3, 4, 5] rfl (hk115 _ _ _ _ _ _ h)
set_option maxHeartbeats 4000000 in
set_option maxRecDepth 20000 in
theorem b_tells_115 {p : Program} {l : Launch} {e : Env} {s : State} {m : MethodId} {args : Array Value} {below : List Frame} {meth : Method} {c : Code} {D : va_G} {cy : Nat → ClassId} {ad : Nat → Nat} {q : Int32 × MS} (C : vC p s m args meth c cX11_tells 8 none RX11 D (cyT cy)) (hi : ∀ i j, i < 34 → j < 34 → ad i = ad j → i = j) {k17 : Int32 → Int32 → MS → Option (Int32 × MS)} (hk17 : ∀ (x3 : Int32) (x4 : Int32)  (σ : MS), k17 x3 x4 σ = some q → V p l e { frames := 5, cells := 0, slots := 0, locals := 117 } s m args below meth c D (inAd ad) 8 (MQ below (vQ D (inAd ad) none (wm cy ad q.2)) args s 0 0 (inAd ad)) 0 0 (wm cy ad σ) 17 [(0, .ref (ad 0)), (3, .int x3), (4, .int x4)] []) : ∀ (x3 : Int32) (x4 : Int32) (x5 : Int32) (x6 : Int32) (x7 : Int32) (σ : MS), B_tells_115 k17 x3 x4 x5 x6 x7 σ = some q → V p l e { frames := 5, cells := 0, slots := 0, locals := 117 } s m args below meth c D (inAd ad) 8 (MQ below (vQ D (inAd ad) none (wm cy ad q.2)) args s 0 0 (inAd ad)) 0 0 (wm cy ad σ) 115 [(0, .ref (ad 0)), (3, .int x3), (4, .int x4), (5, .int x5), (6, .int x6), (7, .int x7)] [] := by
  intro x3 x4 x5 x6 x7 σ h
  rw [B_tells_115] at h
  refine v_aload_n C 0 dX11_tells_115 rfl rfl ?_
  refine n_getZ C fl_186 dX11_tells_116 ?_
  refine v_if_ne C 198 dX11_tells_119 (by decide) (fun c1 => ?_) (fun c1 => ?_)
  · rw [if_neg c1] at h
    exact v_sub [0, 1, 2] rfl ((b_tells_198 C hi hk17) _ _ _ h)
  · rw [if_pos c1] at h
    refine v_iload C 5 dX11_tells_122 rfl ?_
    refine v_bipush C 7 dX11_tells_124 (by decide) ?_
    refine v_icmp_eq C 141 dX11_tells_126 (by decide) (fun c2 => ?_) (fun c2 => ?_)
    · rw [if_pos c2] at h
      exact v_sub [0, 1, 2, 3, 4, 5] rfl ((b_tells_141 C hi (b_tells_198 C hi hk17)) _ _ _ _ _ _ h)
    · rw [if_neg c2] at h
      refine v_iload C 5 dX11_tells_129 rfl ?_
      refine v_iconst C 2 dX11_tells_131 (by decide) ?_
      refine v_icmp_lt C 198 dX11_tells_132 (by decide) (fun c3 => ?_) (fun c3 => ?_)
      · rw [if_pos c3] at h
        exact v_sub [0, 1, 2] rfl ((b_tells_198 C hi hk17) _ _ _ h)
      · rw [if_neg c3] at h
        refine v_iload C 5 dX11_tells_135 rfl ?_
        refine v_iconst C 5 dX11_tells_137 (by decide) ?_
        refine v_icmp_gt C 198 dX11_tells_138 (by decide) (fun c4 => ?_) (fun c4 => ?_)
        · rw [if_pos c4] at h
          exact v_sub [0, 1, 2] rfl ((b_tells_198 C hi hk17) _ _ _ h)
        · rw [if_neg c4] at h
          exact v_sub [0, 1, 2, 3, 4, 5] rfl ((b_tells_141 C hi (b_tells_198 C hi hk17)) _ _ _ _ _ _ h)
set_option maxHeartbeats 4000000 in
set_option maxRecDepth 20000 in
theorem b_tells_201 {p : Program} {l : Launch} {e : Env} {s : State} {m : MethodId} {args : Array Value} {below : List Frame} {meth : Method} {c : Code} {D : va_G} {cy : Nat → ClassId} {ad : Nat → Nat} {q : Int32 × MS} (C : vC p s m args meth c cX11_tells 8 none RX11 D (cyT cy)) (hi : ∀ i j, i < 34 → j < 34 → ad i = ad j → i = j) : ∀ (σ : MS), B_tells_201 σ = some q → V p l e { frames := 5, cells := 0, slots := 0, locals := 117 } s m args below meth c D (inAd ad) 8 (MQ below (vQ D (inAd ad) none (wm cy ad q.2)) args s 0 0 (inAd ad)) 0 0 (wm cy ad σ) 201 [(0, .ref (ad 0))] [] := by
  intro σ h
  rw [B_tells_201] at h
  obtain rfl := Option.some.inj h
  exact v_vret C dX11_tells_201
set_option maxHeartbeats 4000000 in
set_option maxRecDepth 20000 in
theorem l_tells_17 {p : Program} {l : Launch} {e : Env} {s : State} {m : MethodId} {args : Array Value} {below : List Frame} {meth : Method} {c : Code} {D : va_G} {cy : Nat → ClassId} {ad : Nat → Nat} {q : Int32 × MS} (C : vC p s m args meth c cX11_tells 8 none RX11 D (cyT cy)) (hi : ∀ i j, i < 34 → j < 34 → ad i = ad j → i = j) : ∀ (n : Nat) (x3 : Int32) (x4 : Int32) (σ : MS), L_tells_17 n x3 x4 σ = some q → V p l e { frames := 5, cells := 0, slots := 0, locals := 117 } s m args below meth c D (inAd ad) 8 (MQ below (vQ D (inAd ad) none (wm cy ad q.2)) args s 0 0 (inAd ad)) 0 0 (wm cy ad σ) 17 [(0, .ref (ad 0)), (3, .int x3), (4, .int x4)] [] := by
  intro n
  induction n with
  | zero =>
    intro x3 x4 σ h
    rw [L_tells_17.eq_1] at h
    cases h
  | succ n ih =>
    intro x3 x4 σ h
    rw [L_tells_17.eq_2] at h
    refine v_iload C 2 dX11_tells_17 rfl ?_
    refine v_if_le C 201 dX11_tells_19 (by decide) (fun c1 => ?_) (fun c1 => ?_)
    · rw [if_pos c1] at h
      exact v_sub [0] rfl ((b_tells_201 C hi) _ h)
    · rw [if_neg c1] at h
      refine v_aload_n C 0 dX11_tells_22 rfl rfl ?_
      refine n_getZ C fl_186 dX11_tells_23 ?_
      refine v_if_ne C 201 dX11_tells_26 (by decide) (fun c2 => ?_) (fun c2 => ?_)
      · rw [if_neg c2] at h
        exact v_sub [0] rfl ((b_tells_201 C hi) _ h)
      · rw [if_pos c2] at h
        refine v_iinc C (x4 + (-1)) 2 [(4, .int (x4 + (-1))), (0, .ref (ad 0)), (3, .int x3)] dX11_tells_29 rfl rfl (by decide) rfl ?_
        refine v_aload_n C 1 dX11_tells_32 rfl rfl ?_
        refine n_getR C fl_61 dX11_tells_33 ?_
        refine v_iload C 0 dX11_tells_36 rfl ?_
        obtain ⟨g1, h⟩ := gd_of h
        refine vm_iald C 16 iI_16 (ix_in g1) dX11_tells_38 ?_
        refine v_istore C [(5, .int (σ.2.1 16 ((x4 + (-1)) : Int32).toNatClampNeg)), (4, .int (x4 + (-1))), (0, .ref (ad 0)), (3, .int x3)] dX11_tells_39 (by decide) rfl ?_
        refine v_aload_n C 2 dX11_tells_41 rfl rfl ?_
        refine n_getR C fl_64 dX11_tells_42 ?_
        refine v_iload C 1 dX11_tells_45 rfl ?_
        obtain ⟨g2, h⟩ := gd_of h
        refine vm_iald C 17 iI_17 (ix_in g2) dX11_tells_47 ?_
        refine v_istore C [(6, .int (σ.2.1 17 ((x4 + (-1)) : Int32).toNatClampNeg)), (5, .int (σ.2.1 16 ((x4 + (-1)) : Int32).toNatClampNeg)), (4, .int (x4 + (-1))), (0, .ref (ad 0)), (3, .int x3)] dX11_tells_48 (by decide) rfl ?_
        refine v_aload_n C 3 dX11_tells_50 rfl rfl ?_
        refine v_iload C 1 dX11_tells_51 rfl ?_
        refine v_iload C 0 dX11_tells_53 rfl ?_
        obtain ⟨q1, hq1, h⟩ := bd_of h
        refine vm_call C [.int (σ.2.1 16 ((x4 + (-1)) : Int32).toNatClampNeg), .int (σ.2.1 17 ((x4 + (-1)) : Int32).toNatClampNeg)] [] (c_tellsSign hi _ _ _ hq1) hY_tellsSign ml_190 ⟨Nat.le_of_ble_eq_true rfl, Nat.le_of_ble_eq_true rfl⟩ ⟨Nat.zero_le _, Nat.zero_le _⟩ rfl rfl (Nat.le_of_ble_eq_true rfl) dX11_tells_55 (wm_inj hi cy _) ?_
        refine v_aload_n C 3 dX11_tells_58 rfl rfl ?_
        refine v_iload_n C 4 dX11_tells_59 rfl rfl ?_
        obtain ⟨q2, hq2, h⟩ := bd_of h
        refine vm_call C [.int x3] [] (c_checks hi _ _ hq2) hY_checks ml_194 ⟨Nat.le_of_ble_eq_true rfl, Nat.le_of_ble_eq_true rfl⟩ ⟨Nat.zero_le _, Nat.zero_le _⟩ rfl rfl (Nat.le_of_ble_eq_true rfl) dX11_tells_60 (wm_inj hi cy _) ?_
        refine v_aload_n C 3 dX11_tells_63 rfl rfl ?_
        refine v_iload C 1 dX11_tells_64 rfl ?_
        obtain ⟨q3, hq3, h⟩ := bd_of h
        refine vm_call C [.int (σ.2.1 16 ((x4 + (-1)) : Int32).toNatClampNeg)] [] (c_sortOf hi _ _ hq3) hY_sortOf ml_151 ⟨Nat.le_of_ble_eq_true rfl, Nat.le_of_ble_eq_true rfl⟩ ⟨Nat.zero_le _, Nat.zero_le _⟩ rfl rfl (Nat.le_of_ble_eq_true rfl) dX11_tells_66 (wm_inj hi cy _) ?_
        refine v_istore C [(7, .int q3.1), (6, .int (σ.2.1 17 ((x4 + (-1)) : Int32).toNatClampNeg)), (5, .int (σ.2.1 16 ((x4 + (-1)) : Int32).toNatClampNeg)), (4, .int (x4 + (-1))), (0, .ref (ad 0)), (3, .int x3)] dX11_tells_69 (by decide) rfl ?_
        refine v_aload_n C 4 dX11_tells_71 rfl rfl ?_
        refine n_getZ C fl_186 dX11_tells_72 ?_
        refine v_if_ne C 115 dX11_tells_75 (by decide) (fun c3 => ?_) (fun c3 => ?_)
        · rw [if_neg c3] at h
          exact v_sub [4, 5, 3, 2, 1, 0] rfl ((b_tells_115 C hi ih) _ _ _ _ _ _ h)
        · rw [if_pos c3] at h
          refine v_iload C 0 dX11_tells_78 rfl ?_
          refine v_iconst C 2 dX11_tells_80 (by decide) ?_
          refine v_icmp_eq C 90 dX11_tells_81 (by decide) (fun c4 => ?_) (fun c4 => ?_)
          · rw [if_pos c4] at h
            exact v_sub [4, 5, 3, 2, 1, 0] rfl ((b_tells_90 C hi (b_tells_115 C hi ih)) _ _ _ _ _ _ h)
          · rw [if_neg c4] at h
            refine v_iload C 0 dX11_tells_84 rfl ?_
            refine v_iconst C 5 dX11_tells_86 (by decide) ?_
            refine v_icmp_ne C 115 dX11_tells_87 (by decide) (fun c5 => ?_) (fun c5 => ?_)
            · rw [if_neg c5] at h
              exact v_sub [4, 5, 3, 2, 1, 0] rfl ((b_tells_115 C hi ih) _ _ _ _ _ _ h)
            · rw [if_pos c5] at h
              exact v_sub [4, 5, 3, 2, 1, 0] rfl ((b_tells_90 C hi (b_tells_115 C hi ih)) _ _ _ _ _ _ h)
set_option maxHeartbeats 4000000 in
set_option maxRecDepth 20000 in
theorem c_tells {l : Launch} {D : va_G} {cy : Nat → ClassId} {ad : Nat → Nat} {q : Int32 × MS} (hi : ∀ i j, i < 34 → j < 34 → ad i = ad j → i = j) (x1 : Int32) (x2 : Int32) (x3 : Int32) (σ : MS) (h : f_tells x1 x2 x3 σ = some q) : MV l D (cyT cy) (inAd ad) yX11_tells cX11_tells 8 none 5 117 0 0 [.ref (ad 0), .int x1, .int x2, .int x3] (wm cy ad σ) none (wm cy ad q.2) := by
  refine MV.of (by decide) (wm_inj hi cy σ) (Nat.le_of_ble_eq_true rfl) [(0, .ref (ad 0)), (1, .int x1), (2, .int x2), (3, .int x3)] rfl ?_
  intro p e s m args below meth c C
  rw [f_tells] at h
  refine v_iconst C 1 dX11_tells_0 (by decide) ?_
  refine v_istore C [(4, .int 1), (0, .ref (ad 0)), (1, .int x1), (2, .int x2), (3, .int x3)] dX11_tells_1 (by decide) rfl ?_
  refine v_aload_n C 1 dX11_tells_3 rfl rfl ?_
  refine n_getR C fl_61 dX11_tells_4 ?_
  refine v_iconst C 0 dX11_tells_7 (by decide) ?_
  refine v_iload_n C 2 dX11_tells_8 rfl rfl ?_
  obtain ⟨g1, h⟩ := gd_of h
  refine vm_iast C 16 iI_16 (ix_in g1) dX11_tells_9 ?_
  refine v_aload_n C 1 dX11_tells_10 rfl rfl ?_
  refine n_getR C fl_64 dX11_tells_11 ?_
  refine v_iconst C 0 dX11_tells_14 (by decide) ?_
  refine v_iload_n C 3 dX11_tells_15 rfl rfl ?_
  obtain ⟨g2, h⟩ := gd_of h
  refine vm_iast C 17 iI_17 (ix_in g2) dX11_tells_16 ?_
  exact v_sub [1, 4, 0] rfl ((l_tells_17 C hi 10000) _ _ _ h)
