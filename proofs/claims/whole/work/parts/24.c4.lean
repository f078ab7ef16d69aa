theorem dX4_readType_0 : decode cX4_readType 0 = .ok (.aload_n 0, 1) := by decide +kernel
theorem dX4_readType_1 : decode cX4_readType 1 = .ok (.invokevirtual 99, 3) := by decide +kernel
theorem dX4_readType_4 : decode cX4_readType 4 = .ok (.istore_n 2, 1) := by decide +kernel
theorem dX4_readType_5 : decode cX4_readType 5 = .ok (.iload_n 2, 1) := by decide +kernel
theorem dX4_readType_6 : decode cX4_readType 6 = .ok (.bipush 83, 2) := by decide +kernel
theorem dX4_readType_8 : decode cX4_readType 8 = .ok (.if_icmp .eq 9, 3) := by decide +kernel
theorem dX4_readType_11 : decode cX4_readType 11 = .ok (.iload_n 2, 1) := by decide +kernel
theorem dX4_readType_12 : decode cX4_readType 12 = .ok (.bipush 80, 2) := by decide +kernel
theorem dX4_readType_14 : decode cX4_readType 14 = .ok (.if_icmp .ne 13, 3) := by decide +kernel
theorem dX4_readType_17 : decode cX4_readType 17 = .ok (.iload_n 1, 1) := by decide +kernel
theorem dX4_readType_18 : decode cX4_readType 18 = .ok (.bipush 10, 2) := by decide +kernel
theorem dX4_readType_20 : decode cX4_readType 20 = .ok (.if_icmp .ge 7, 3) := by decide +kernel
theorem dX4_readType_23 : decode cX4_readType 23 = .ok (.iconst 1, 1) := by decide +kernel
theorem dX4_readType_24 : decode cX4_readType 24 = .ok (.goto 4, 3) := by decide +kernel
theorem dX4_readType_27 : decode cX4_readType 27 = .ok (.iconst 0, 1) := by decide +kernel
theorem dX4_readType_28 : decode cX4_readType 28 = .ok (.istore_n 3, 1) := by decide +kernel
theorem dX4_readType_29 : decode cX4_readType 29 = .ok (.iload_n 2, 1) := by decide +kernel
theorem dX4_readType_30 : decode cX4_readType 30 = .ok (.bipush 49, 2) := by decide +kernel
theorem dX4_readType_32 : decode cX4_readType 32 = .ok (.if_icmp .eq 27, 3) := by decide +kernel
theorem dX4_readType_35 : decode cX4_readType 35 = .ok (.iload_n 3, 1) := by decide +kernel
theorem dX4_readType_36 : decode cX4_readType 36 = .ok (.ifCond .ne 23, 3) := by decide +kernel
theorem dX4_readType_39 : decode cX4_readType 39 = .ok (.aload_n 0, 1) := by decide +kernel
theorem dX4_readType_40 : decode cX4_readType 40 = .ok (.getfield 25, 3) := by decide +kernel
theorem dX4_readType_43 : decode cX4_readType 43 = .ok (.iload_n 2, 1) := by decide +kernel
theorem dX4_readType_44 : decode cX4_readType 44 = .ok (.invokevirtual 133, 3) := by decide +kernel
theorem dX4_readType_47 : decode cX4_readType 47 = .ok (.ifCond .ne 12, 3) := by decide +kernel
theorem dX4_readType_50 : decode cX4_readType 50 = .ok (.aload_n 0, 1) := by decide +kernel
theorem dX4_readType_51 : decode cX4_readType 51 = .ok (.aload_n 0, 1) := by decide +kernel
theorem dX4_readType_52 : decode cX4_readType 52 = .ok (.getfield 41, 3) := by decide +kernel
theorem dX4_readType_55 : decode cX4_readType 55 = .ok (.invokevirtual 124, 3) := by decide +kernel
theorem dX4_readType_58 : decode cX4_readType 58 = .ok (.ireturn, 1) := by decide +kernel
theorem dX4_readType_59 : decode cX4_readType 59 = .ok (.aload_n 0, 1) := by decide +kernel
theorem dX4_readType_60 : decode cX4_readType 60 = .ok (.getfield 41, 3) := by decide +kernel
theorem dX4_readType_63 : decode cX4_readType 63 = .ok (.istore 4, 2) := by decide +kernel
theorem dX4_readType_65 : decode cX4_readType 65 = .ok (.aload_n 0, 1) := by decide +kernel
theorem dX4_readType_66 : decode cX4_readType 66 = .ok (.dup, 1) := by decide +kernel
theorem dX4_readType_67 : decode cX4_readType 67 = .ok (.getfield 41, 3) := by decide +kernel
theorem dX4_readType_70 : decode cX4_readType 70 = .ok (.iconst 1, 1) := by decide +kernel
theorem dX4_readType_71 : decode cX4_readType 71 = .ok (.iadd, 1) := by decide +kernel
theorem dX4_readType_72 : decode cX4_readType 72 = .ok (.putfield 41, 3) := by decide +kernel
theorem dX4_readType_75 : decode cX4_readType 75 = .ok (.iload_n 3, 1) := by decide +kernel
theorem dX4_readType_76 : decode cX4_readType 76 = .ok (.ifCond .eq 12, 3) := by decide +kernel
theorem dX4_readType_79 : decode cX4_readType 79 = .ok (.aload_n 0, 1) := by decide +kernel
theorem dX4_readType_80 : decode cX4_readType 80 = .ok (.iload_n 2, 1) := by decide +kernel
theorem dX4_readType_81 : decode cX4_readType 81 = .ok (.iload 4, 2) := by decide +kernel
theorem dX4_readType_83 : decode cX4_readType 83 = .ok (.iload_n 1, 1) := by decide +kernel
theorem dX4_readType_84 : decode cX4_readType 84 = .ok (.invokevirtual 136, 3) := by decide +kernel
theorem dX4_readType_87 : decode cX4_readType 87 = .ok (.ireturn, 1) := by decide +kernel
theorem dX4_readType_88 : decode cX4_readType 88 = .ok (.aload_n 0, 1) := by decide +kernel
theorem dX4_readType_89 : decode cX4_readType 89 = .ok (.getfield 25, 3) := by decide +kernel
theorem dX4_readType_92 : decode cX4_readType 92 = .ok (.iload_n 2, 1) := by decide +kernel
theorem dX4_readType_93 : decode cX4_readType 93 = .ok (.invokevirtual 139, 3) := by decide +kernel
theorem dX4_readType_96 : decode cX4_readType 96 = .ok (.istore 5, 2) := by decide +kernel
theorem dX4_readType_98 : decode cX4_readType 98 = .ok (.iload 5, 2) := by decide +kernel
theorem dX4_readType_100 : decode cX4_readType 100 = .ok (.iconst (-1), 1) := by decide +kernel
theorem dX4_readType_101 : decode cX4_readType 101 = .ok (.if_icmp .ne 13, 3) := by decide +kernel
theorem dX4_readType_104 : decode cX4_readType 104 = .ok (.aload_n 0, 1) := by decide +kernel
theorem dX4_readType_105 : decode cX4_readType 105 = .ok (.iload_n 2, 1) := by decide +kernel
theorem dX4_readType_106 : decode cX4_readType 106 = .ok (.iconst (-1), 1) := by decide +kernel
theorem dX4_readType_107 : decode cX4_readType 107 = .ok (.iconst (-1), 1) := by decide +kernel
theorem dX4_readType_108 : decode cX4_readType 108 = .ok (.iload 4, 2) := by decide +kernel
theorem dX4_readType_110 : decode cX4_readType 110 = .ok (.invokevirtual 142, 3) := by decide +kernel
theorem dX4_readType_113 : decode cX4_readType 113 = .ok (.ireturn, 1) := by decide +kernel
theorem dX4_readType_114 : decode cX4_readType 114 = .ok (.aload_n 0, 1) := by decide +kernel
theorem dX4_readType_115 : decode cX4_readType 115 = .ok (.aload_n 0, 1) := by decide +kernel
theorem dX4_readType_116 : decode cX4_readType 116 = .ok (.getfield 29, 3) := by decide +kernel
theorem dX4_readType_119 : decode cX4_readType 119 = .ok (.iload 5, 2) := by decide +kernel
theorem dX4_readType_121 : decode cX4_readType 121 = .ok (.iconst 0, 1) := by decide +kernel
theorem dX4_readType_122 : decode cX4_readType 122 = .ok (.invokevirtual 66, 3) := by decide +kernel
theorem dX4_readType_125 : decode cX4_readType 125 = .ok (.iload_n 1, 1) := by decide +kernel
theorem dX4_readType_126 : decode cX4_readType 126 = .ok (.invokevirtual 70, 3) := by decide +kernel
theorem dX4_readType_129 : decode cX4_readType 129 = .ok (.istore 6, 2) := by decide +kernel
theorem dX4_readType_131 : decode cX4_readType 131 = .ok (.iload 6, 2) := by decide +kernel
theorem dX4_readType_133 : decode cX4_readType 133 = .ok (.iconst (-1), 1) := by decide +kernel
theorem dX4_readType_134 : decode cX4_readType 134 = .ok (.if_icmp .ne 7, 3) := by decide +kernel
theorem dX4_readType_137 : decode cX4_readType 137 = .ok (.iconst (-1), 1) := by decide +kernel
theorem dX4_readType_138 : decode cX4_readType 138 = .ok (.goto 13, 3) := by decide +kernel
theorem dX4_readType_141 : decode cX4_readType 141 = .ok (.aload_n 0, 1) := by decide +kernel
theorem dX4_readType_142 : decode cX4_readType 142 = .ok (.iload_n 2, 1) := by decide +kernel
theorem dX4_readType_143 : decode cX4_readType 143 = .ok (.iload 6, 2) := by decide +kernel
theorem dX4_readType_145 : decode cX4_readType 145 = .ok (.iconst (-1), 1) := by decide +kernel
theorem dX4_readType_146 : decode cX4_readType 146 = .ok (.iload 4, 2) := by decide +kernel
theorem dX4_readType_148 : decode cX4_readType 148 = .ok (.invokevirtual 142, 3) := by decide +kernel
theorem dX4_readType_151 : decode cX4_readType 151 = .ok (.ireturn, 1) := by decide +kernel
theorem dX4_readBinder_0 : decode cX4_readBinder 0 = .ok (.aload_n 0, 1) := by decide +kernel
theorem dX4_readBinder_1 : decode cX4_readBinder 1 = .ok (.getfield 41, 3) := by decide +kernel
theorem dX4_readBinder_4 : decode cX4_readBinder 4 = .ok (.istore 4, 2) := by decide +kernel
theorem dX4_readBinder_6 : decode cX4_readBinder 6 = .ok (.aload_n 0, 1) := by decide +kernel
theorem dX4_readBinder_7 : decode cX4_readBinder 7 = .ok (.iload_n 3, 1) := by decide +kernel
theorem dX4_readBinder_8 : decode cX4_readBinder 8 = .ok (.invokevirtual 59, 3) := by decide +kernel
theorem dX4_readBinder_11 : decode cX4_readBinder 11 = .ok (.istore 5, 2) := by decide +kernel
theorem dX4_readBinder_13 : decode cX4_readBinder 13 = .ok (.iload 5, 2) := by decide +kernel
theorem dX4_readBinder_15 : decode cX4_readBinder 15 = .ok (.iconst (-1), 1) := by decide +kernel
theorem dX4_readBinder_16 : decode cX4_readBinder 16 = .ok (.if_icmp .ne 5, 3) := by decide +kernel
theorem dX4_readBinder_19 : decode cX4_readBinder 19 = .ok (.iconst (-1), 1) := by decide +kernel
theorem dX4_readBinder_20 : decode cX4_readBinder 20 = .ok (.ireturn, 1) := by decide +kernel
theorem dX4_readBinder_21 : decode cX4_readBinder 21 = .ok (.iload_n 1, 1) := by decide +kernel
theorem dX4_readBinder_22 : decode cX4_readBinder 22 = .ok (.bipush 80, 2) := by decide +kernel
theorem dX4_readBinder_24 : decode cX4_readBinder 24 = .ok (.if_icmp .ne 22, 3) := by decide +kernel
theorem dX4_readBinder_27 : decode cX4_readBinder 27 = .ok (.aload_n 0, 1) := by decide +kernel
theorem dX4_readBinder_28 : decode cX4_readBinder 28 = .ok (.getfield 25, 3) := by decide +kernel
theorem dX4_readBinder_31 : decode cX4_readBinder 31 = .ok (.iload 5, 2) := by decide +kernel
theorem dX4_readBinder_33 : decode cX4_readBinder 33 = .ok (.invokevirtual 109, 3) := by decide +kernel
theorem dX4_readBinder_36 : decode cX4_readBinder 36 = .ok (.ifCond .ne 10, 3) := by decide +kernel
theorem dX4_readBinder_39 : decode cX4_readBinder 39 = .ok (.aload_n 0, 1) := by decide +kernel
theorem dX4_readBinder_40 : decode cX4_readBinder 40 = .ok (.iload 4, 2) := by decide +kernel
theorem dX4_readBinder_42 : decode cX4_readBinder 42 = .ok (.invokevirtual 124, 3) := by decide +kernel
theorem dX4_readBinder_45 : decode cX4_readBinder 45 = .ok (.ireturn, 1) := by decide +kernel
theorem dX4_readBinder_46 : decode cX4_readBinder 46 = .ok (.aload_n 0, 1) := by decide +kernel
theorem dX4_readBinder_47 : decode cX4_readBinder 47 = .ok (.aload_n 0, 1) := by decide +kernel
theorem dX4_readBinder_48 : decode cX4_readBinder 48 = .ok (.getfield 29, 3) := by decide +kernel
theorem dX4_readBinder_51 : decode cX4_readBinder 51 = .ok (.iload 5, 2) := by decide +kernel
theorem dX4_readBinder_53 : decode cX4_readBinder 53 = .ok (.aload_n 0, 1) := by decide +kernel
theorem dX4_readBinder_54 : decode cX4_readBinder 54 = .ok (.iload_n 3, 1) := by decide +kernel
theorem dX4_readBinder_55 : decode cX4_readBinder 55 = .ok (.invokevirtual 145, 3) := by decide +kernel
theorem dX4_readBinder_58 : decode cX4_readBinder 58 = .ok (.invokevirtual 66, 3) := by decide +kernel
theorem dX4_readBinder_61 : decode cX4_readBinder 61 = .ok (.iload_n 3, 1) := by decide +kernel
theorem dX4_readBinder_62 : decode cX4_readBinder 62 = .ok (.invokevirtual 148, 3) := by decide +kernel
theorem dX4_readBinder_65 : decode cX4_readBinder 65 = .ok (.pop, 1) := by decide +kernel
theorem dX4_readBinder_66 : decode cX4_readBinder 66 = .ok (.aload_n 0, 1) := by decide +kernel
theorem dX4_readBinder_67 : decode cX4_readBinder 67 = .ok (.iload_n 3, 1) := by decide +kernel
theorem dX4_readBinder_68 : decode cX4_readBinder 68 = .ok (.iconst 1, 1) := by decide +kernel
theorem dX4_readBinder_69 : decode cX4_readBinder 69 = .ok (.iadd, 1) := by decide +kernel
theorem dX4_readBinder_70 : decode cX4_readBinder 70 = .ok (.invokevirtual 59, 3) := by decide +kernel
theorem dX4_readBinder_73 : decode cX4_readBinder 73 = .ok (.istore 6, 2) := by decide +kernel
theorem dX4_readBinder_75 : decode cX4_readBinder 75 = .ok (.iload 6, 2) := by decide +kernel
theorem dX4_readBinder_77 : decode cX4_readBinder 77 = .ok (.iconst (-1), 1) := by decide +kernel
theorem dX4_readBinder_78 : decode cX4_readBinder 78 = .ok (.if_icmp .ne 7, 3) := by decide +kernel
theorem dX4_readBinder_81 : decode cX4_readBinder 81 = .ok (.iconst (-1), 1) := by decide +kernel
theorem dX4_readBinder_82 : decode cX4_readBinder 82 = .ok (.goto 13, 3) := by decide +kernel
theorem dX4_readBinder_85 : decode cX4_readBinder 85 = .ok (.aload_n 0, 1) := by decide +kernel
theorem dX4_readBinder_86 : decode cX4_readBinder 86 = .ok (.iload_n 1, 1) := by decide +kernel
theorem dX4_readBinder_87 : decode cX4_readBinder 87 = .ok (.iload 5, 2) := by decide +kernel
theorem dX4_readBinder_89 : decode cX4_readBinder 89 = .ok (.iload 6, 2) := by decide +kernel
theorem dX4_readBinder_91 : decode cX4_readBinder 91 = .ok (.iload_n 2, 1) := by decide +kernel
theorem dX4_readBinder_92 : decode cX4_readBinder 92 = .ok (.invokevirtual 142, 3) := by decide +kernel
theorem dX4_readBinder_95 : decode cX4_readBinder 95 = .ok (.ireturn, 1) := by decide +kernel
theorem dX4_checkTerm_0 : decode cX4_checkTerm 0 = .ok (.aload_n 0, 1) := by decide +kernel
theorem dX4_checkTerm_1 : decode cX4_checkTerm 1 = .ok (.getfield 29, 3) := by decide +kernel
theorem dX4_checkTerm_4 : decode cX4_checkTerm 4 = .ok (.iload_n 1, 1) := by decide +kernel
theorem dX4_checkTerm_5 : decode cX4_checkTerm 5 = .ok (.invokevirtual 151, 3) := by decide +kernel
theorem dX4_checkTerm_8 : decode cX4_checkTerm 8 = .ok (.istore_n 3, 1) := by decide +kernel
theorem dX4_checkTerm_9 : decode cX4_checkTerm 9 = .ok (.aload_n 0, 1) := by decide +kernel
theorem dX4_checkTerm_10 : decode cX4_checkTerm 10 = .ok (.getfield 41, 3) := by decide +kernel
theorem dX4_checkTerm_13 : decode cX4_checkTerm 13 = .ok (.istore 4, 2) := by decide +kernel
theorem dX4_checkTerm_15 : decode cX4_checkTerm 15 = .ok (.aload_n 0, 1) := by decide +kernel
theorem dX4_checkTerm_16 : decode cX4_checkTerm 16 = .ok (.invokevirtual 99, 3) := by decide +kernel
theorem dX4_checkTerm_19 : decode cX4_checkTerm 19 = .ok (.lookupswitch 129 #[(42, 33), (44, 67), (92, 89)], 33) := by decide +kernel
theorem dX4_checkTerm_52 : decode cX4_checkTerm 52 = .ok (.iload_n 3, 1) := by decide +kernel
theorem dX4_checkTerm_53 : decode cX4_checkTerm 53 = .ok (.bipush 49, 2) := by decide +kernel
theorem dX4_checkTerm_55 : decode cX4_checkTerm 55 = .ok (.if_icmp .eq 10, 3) := by decide +kernel
theorem dX4_checkTerm_58 : decode cX4_checkTerm 58 = .ok (.aload_n 0, 1) := by decide +kernel
theorem dX4_checkTerm_59 : decode cX4_checkTerm 59 = .ok (.iload 4, 2) := by decide +kernel
theorem dX4_checkTerm_61 : decode cX4_checkTerm 61 = .ok (.invokevirtual 124, 3) := by decide +kernel
theorem dX4_checkTerm_64 : decode cX4_checkTerm 64 = .ok (.ireturn, 1) := by decide +kernel
theorem dX4_checkTerm_65 : decode cX4_checkTerm 65 = .ok (.aload_n 0, 1) := by decide +kernel
theorem dX4_checkTerm_66 : decode cX4_checkTerm 66 = .ok (.dup, 1) := by decide +kernel
theorem dX4_checkTerm_67 : decode cX4_checkTerm 67 = .ok (.getfield 41, 3) := by decide +kernel
theorem dX4_checkTerm_70 : decode cX4_checkTerm 70 = .ok (.iconst 1, 1) := by decide +kernel
theorem dX4_checkTerm_71 : decode cX4_checkTerm 71 = .ok (.iadd, 1) := by decide +kernel
theorem dX4_checkTerm_72 : decode cX4_checkTerm 72 = .ok (.putfield 41, 3) := by decide +kernel
theorem dX4_checkTerm_75 : decode cX4_checkTerm 75 = .ok (.aload_n 0, 1) := by decide +kernel
theorem dX4_checkTerm_76 : decode cX4_checkTerm 76 = .ok (.bipush 42, 2) := by decide +kernel
theorem dX4_checkTerm_78 : decode cX4_checkTerm 78 = .ok (.iconst (-1), 1) := by decide +kernel
theorem dX4_checkTerm_79 : decode cX4_checkTerm 79 = .ok (.iconst (-1), 1) := by decide +kernel
theorem dX4_checkTerm_80 : decode cX4_checkTerm 80 = .ok (.iload 4, 2) := by decide +kernel
theorem dX4_checkTerm_82 : decode cX4_checkTerm 82 = .ok (.invokevirtual 142, 3) := by decide +kernel
theorem dX4_checkTerm_85 : decode cX4_checkTerm 85 = .ok (.ireturn, 1) := by decide +kernel
theorem dX4_checkTerm_86 : decode cX4_checkTerm 86 = .ok (.iload_n 3, 1) := by decide +kernel
theorem dX4_checkTerm_87 : decode cX4_checkTerm 87 = .ok (.bipush 83, 2) := by decide +kernel
theorem dX4_checkTerm_89 : decode cX4_checkTerm 89 = .ok (.if_icmp .ne 12, 3) := by decide +kernel
theorem dX4_checkTerm_92 : decode cX4_checkTerm 92 = .ok (.aload_n 0, 1) := by decide +kernel
theorem dX4_checkTerm_93 : decode cX4_checkTerm 93 = .ok (.iload_n 1, 1) := by decide +kernel
theorem dX4_checkTerm_94 : decode cX4_checkTerm 94 = .ok (.iload_n 2, 1) := by decide +kernel
theorem dX4_checkTerm_95 : decode cX4_checkTerm 95 = .ok (.invokevirtual 154, 3) := by decide +kernel
theorem dX4_checkTerm_98 : decode cX4_checkTerm 98 = .ok (.goto 9, 3) := by decide +kernel
theorem dX4_checkTerm_101 : decode cX4_checkTerm 101 = .ok (.aload_n 0, 1) := by decide +kernel
theorem dX4_checkTerm_102 : decode cX4_checkTerm 102 = .ok (.iload 4, 2) := by decide +kernel
theorem dX4_checkTerm_104 : decode cX4_checkTerm 104 = .ok (.invokevirtual 124, 3) := by decide +kernel
theorem dX4_checkTerm_107 : decode cX4_checkTerm 107 = .ok (.ireturn, 1) := by decide +kernel
theorem dX4_checkTerm_108 : decode cX4_checkTerm 108 = .ok (.iload_n 3, 1) := by decide +kernel
theorem dX4_checkTerm_109 : decode cX4_checkTerm 109 = .ok (.bipush 80, 2) := by decide +kernel
theorem dX4_checkTerm_111 : decode cX4_checkTerm 111 = .ok (.if_icmp .ne 13, 3) := by decide +kernel
theorem dX4_checkTerm_114 : decode cX4_checkTerm 114 = .ok (.iload_n 2, 1) := by decide +kernel
theorem dX4_checkTerm_115 : decode cX4_checkTerm 115 = .ok (.bipush 10, 2) := by decide +kernel
theorem dX4_checkTerm_117 : decode cX4_checkTerm 117 = .ok (.if_icmp .ge 7, 3) := by decide +kernel
theorem dX4_checkTerm_120 : decode cX4_checkTerm 120 = .ok (.iconst 1, 1) := by decide +kernel
theorem dX4_checkTerm_121 : decode cX4_checkTerm 121 = .ok (.goto 4, 3) := by decide +kernel
theorem dX4_checkTerm_124 : decode cX4_checkTerm 124 = .ok (.iconst 0, 1) := by decide +kernel
theorem dX4_checkTerm_125 : decode cX4_checkTerm 125 = .ok (.istore 5, 2) := by decide +kernel
theorem dX4_checkTerm_127 : decode cX4_checkTerm 127 = .ok (.iload 5, 2) := by decide +kernel
theorem dX4_checkTerm_129 : decode cX4_checkTerm 129 = .ok (.ifCond .eq 12, 3) := by decide +kernel
theorem dX4_checkTerm_132 : decode cX4_checkTerm 132 = .ok (.aload_n 0, 1) := by decide +kernel
theorem dX4_checkTerm_133 : decode cX4_checkTerm 133 = .ok (.iload_n 1, 1) := by decide +kernel
theorem dX4_checkTerm_134 : decode cX4_checkTerm 134 = .ok (.iload_n 2, 1) := by decide +kernel
theorem dX4_checkTerm_135 : decode cX4_checkTerm 135 = .ok (.invokevirtual 157, 3) := by decide +kernel
theorem dX4_checkTerm_138 : decode cX4_checkTerm 138 = .ok (.goto 9, 3) := by decide +kernel
theorem dX4_checkTerm_141 : decode cX4_checkTerm 141 = .ok (.aload_n 0, 1) := by decide +kernel
theorem dX4_checkTerm_142 : decode cX4_checkTerm 142 = .ok (.iload 4, 2) := by decide +kernel
theorem dX4_checkTerm_144 : decode cX4_checkTerm 144 = .ok (.invokevirtual 124, 3) := by decide +kernel
theorem dX4_checkTerm_147 : decode cX4_checkTerm 147 = .ok (.ireturn, 1) := by decide +kernel
theorem dX4_checkTerm_148 : decode cX4_checkTerm 148 = .ok (.aload_n 0, 1) := by decide +kernel
theorem dX4_checkTerm_149 : decode cX4_checkTerm 149 = .ok (.iload_n 1, 1) := by decide +kernel
theorem dX4_checkTerm_150 : decode cX4_checkTerm 150 = .ok (.iload_n 2, 1) := by decide +kernel
theorem dX4_checkTerm_151 : decode cX4_checkTerm 151 = .ok (.invokevirtual 160, 3) := by decide +kernel
theorem dX4_checkTerm_154 : decode cX4_checkTerm 154 = .ok (.ireturn, 1) := by decide +kernel
theorem dX4_readPair_0 : decode cX4_readPair 0 = .ok (.aload_n 0, 1) := by decide +kernel
theorem dX4_readPair_1 : decode cX4_readPair 1 = .ok (.getfield 41, 3) := by decide +kernel
theorem dX4_readPair_4 : decode cX4_readPair 4 = .ok (.istore_n 3, 1) := by decide +kernel
theorem dX4_readPair_5 : decode cX4_readPair 5 = .ok (.aload_n 0, 1) := by decide +kernel
theorem dX4_readPair_6 : decode cX4_readPair 6 = .ok (.dup, 1) := by decide +kernel
theorem dX4_readPair_7 : decode cX4_readPair 7 = .ok (.getfield 41, 3) := by decide +kernel
theorem dX4_readPair_10 : decode cX4_readPair 10 = .ok (.iconst 1, 1) := by decide +kernel
theorem dX4_readPair_11 : decode cX4_readPair 11 = .ok (.iadd, 1) := by decide +kernel
theorem dX4_readPair_12 : decode cX4_readPair 12 = .ok (.putfield 41, 3) := by decide +kernel
theorem dX4_readPair_15 : decode cX4_readPair 15 = .ok (.aload_n 0, 1) := by decide +kernel
theorem dX4_readPair_16 : decode cX4_readPair 16 = .ok (.aload_n 0, 1) := by decide +kernel
theorem dX4_readPair_17 : decode cX4_readPair 17 = .ok (.getfield 29, 3) := by decide +kernel
theorem dX4_readPair_20 : decode cX4_readPair 20 = .ok (.iload_n 1, 1) := by decide +kernel
theorem dX4_readPair_21 : decode cX4_readPair 21 = .ok (.invokevirtual 183, 3) := by decide +kernel
theorem dX4_readPair_24 : decode cX4_readPair 24 = .ok (.iload_n 2, 1) := by decide +kernel
theorem dX4_readPair_25 : decode cX4_readPair 25 = .ok (.invokevirtual 70, 3) := by decide +kernel
theorem dX4_readPair_28 : decode cX4_readPair 28 = .ok (.istore 4, 2) := by decide +kernel
theorem dX4_readPair_30 : decode cX4_readPair 30 = .ok (.iload 4, 2) := by decide +kernel
theorem dX4_readPair_32 : decode cX4_readPair 32 = .ok (.iconst (-1), 1) := by decide +kernel
theorem dX4_readPair_33 : decode cX4_readPair 33 = .ok (.if_icmp .ne 5, 3) := by decide +kernel
theorem dX4_readPair_36 : decode cX4_readPair 36 = .ok (.iconst (-1), 1) := by decide +kernel
theorem dX4_readPair_37 : decode cX4_readPair 37 = .ok (.ireturn, 1) := by decide +kernel
theorem dX4_readPair_38 : decode cX4_readPair 38 = .ok (.aload_n 0, 1) := by decide +kernel
theorem dX4_readPair_39 : decode cX4_readPair 39 = .ok (.getfield 29, 3) := by decide +kernel
theorem dX4_readPair_42 : decode cX4_readPair 42 = .ok (.iload 4, 2) := by decide +kernel
theorem dX4_readPair_44 : decode cX4_readPair 44 = .ok (.aload_n 0, 1) := by decide +kernel
theorem dX4_readPair_45 : decode cX4_readPair 45 = .ok (.iload_n 2, 1) := by decide +kernel
theorem dX4_readPair_46 : decode cX4_readPair 46 = .ok (.invokevirtual 145, 3) := by decide +kernel
theorem dX4_readPair_49 : decode cX4_readPair 49 = .ok (.bipush 104, 2) := by decide +kernel
theorem dX4_readPair_51 : decode cX4_readPair 51 = .ok (.invokevirtual 186, 3) := by decide +kernel
theorem dX4_readPair_54 : decode cX4_readPair 54 = .ok (.istore 5, 2) := by decide +kernel
theorem dX4_readPair_56 : decode cX4_readPair 56 = .ok (.aload_n 0, 1) := by decide +kernel
theorem dX4_readPair_57 : decode cX4_readPair 57 = .ok (.aload_n 0, 1) := by decide +kernel
theorem dX4_readPair_58 : decode cX4_readPair 58 = .ok (.getfield 29, 3) := by decide +kernel
theorem dX4_readPair_61 : decode cX4_readPair 61 = .ok (.iload_n 1, 1) := by decide +kernel
theorem dX4_readPair_62 : decode cX4_readPair 62 = .ok (.iload 5, 2) := by decide +kernel
theorem dX4_readPair_64 : decode cX4_readPair 64 = .ok (.invokevirtual 189, 3) := by decide +kernel
theorem dX4_readPair_67 : decode cX4_readPair 67 = .ok (.iload_n 2, 1) := by decide +kernel
theorem dX4_readPair_68 : decode cX4_readPair 68 = .ok (.invokevirtual 70, 3) := by decide +kernel
theorem dX4_readPair_71 : decode cX4_readPair 71 = .ok (.istore 6, 2) := by decide +kernel
theorem dX4_readPair_73 : decode cX4_readPair 73 = .ok (.iload 6, 2) := by decide +kernel
theorem dX4_readPair_75 : decode cX4_readPair 75 = .ok (.iconst (-1), 1) := by decide +kernel
theorem dX4_readPair_76 : decode cX4_readPair 76 = .ok (.if_icmp .ne 7, 3) := by decide +kernel
theorem dX4_readPair_79 : decode cX4_readPair 79 = .ok (.iconst (-1), 1) := by decide +kernel
theorem dX4_readPair_80 : decode cX4_readPair 80 = .ok (.goto 14, 3) := by decide +kernel
theorem dX4_readPair_83 : decode cX4_readPair 83 = .ok (.aload_n 0, 1) := by decide +kernel
theorem dX4_readPair_84 : decode cX4_readPair 84 = .ok (.bipush 44, 2) := by decide +kernel
theorem dX4_readPair_86 : decode cX4_readPair 86 = .ok (.iload 4, 2) := by decide +kernel
theorem dX4_readPair_88 : decode cX4_readPair 88 = .ok (.iload 6, 2) := by decide +kernel
theorem dX4_readPair_90 : decode cX4_readPair 90 = .ok (.iload_n 3, 1) := by decide +kernel
theorem dX4_readPair_91 : decode cX4_readPair 91 = .ok (.invokevirtual 142, 3) := by decide +kernel
theorem dX4_readPair_94 : decode cX4_readPair 94 = .ok (.ireturn, 1) := by decide +kernel
theorem dX4_readFunction_0 : decode cX4_readFunction 0 = .ok (.aload_n 0, 1) := by decide +kernel
theorem dX4_readFunction_1 : decode cX4_readFunction 1 = .ok (.getfield 41, 3) := by decide +kernel
theorem dX4_readFunction_4 : decode cX4_readFunction 4 = .ok (.istore_n 3, 1) := by decide +kernel
theorem dX4_readFunction_5 : decode cX4_readFunction 5 = .ok (.aload_n 0, 1) := by decide +kernel
theorem dX4_readFunction_6 : decode cX4_readFunction 6 = .ok (.dup, 1) := by decide +kernel
theorem dX4_readFunction_7 : decode cX4_readFunction 7 = .ok (.getfield 41, 3) := by decide +kernel
theorem dX4_readFunction_10 : decode cX4_readFunction 10 = .ok (.iconst 1, 1) := by decide +kernel
theorem dX4_readFunction_11 : decode cX4_readFunction 11 = .ok (.iadd, 1) := by decide +kernel
theorem dX4_readFunction_12 : decode cX4_readFunction 12 = .ok (.putfield 41, 3) := by decide +kernel
theorem dX4_readFunction_15 : decode cX4_readFunction 15 = .ok (.aload_n 0, 1) := by decide +kernel
theorem dX4_readFunction_16 : decode cX4_readFunction 16 = .ok (.aload_n 0, 1) := by decide +kernel
theorem dX4_readFunction_17 : decode cX4_readFunction 17 = .ok (.getfield 29, 3) := by decide +kernel
theorem dX4_readFunction_20 : decode cX4_readFunction 20 = .ok (.iload_n 1, 1) := by decide +kernel
theorem dX4_readFunction_21 : decode cX4_readFunction 21 = .ok (.invokevirtual 183, 3) := by decide +kernel
theorem dX4_readFunction_24 : decode cX4_readFunction 24 = .ok (.iload_n 2, 1) := by decide +kernel
theorem dX4_readFunction_25 : decode cX4_readFunction 25 = .ok (.invokevirtual 148, 3) := by decide +kernel
theorem dX4_readFunction_28 : decode cX4_readFunction 28 = .ok (.istore 4, 2) := by decide +kernel
theorem dX4_readFunction_30 : decode cX4_readFunction 30 = .ok (.aload_n 0, 1) := by decide +kernel
theorem dX4_readFunction_31 : decode cX4_readFunction 31 = .ok (.aload_n 0, 1) := by decide +kernel
theorem dX4_readFunction_32 : decode cX4_readFunction 32 = .ok (.getfield 29, 3) := by decide +kernel
theorem dX4_readFunction_35 : decode cX4_readFunction 35 = .ok (.iload_n 1, 1) := by decide +kernel
theorem dX4_readFunction_36 : decode cX4_readFunction 36 = .ok (.iload 4, 2) := by decide +kernel
theorem dX4_readFunction_38 : decode cX4_readFunction 38 = .ok (.invokevirtual 189, 3) := by decide +kernel
theorem dX4_readFunction_41 : decode cX4_readFunction 41 = .ok (.iload_n 2, 1) := by decide +kernel
theorem dX4_readFunction_42 : decode cX4_readFunction 42 = .ok (.iconst 1, 1) := by decide +kernel
theorem dX4_readFunction_43 : decode cX4_readFunction 43 = .ok (.iadd, 1) := by decide +kernel
theorem dX4_readFunction_44 : decode cX4_readFunction 44 = .ok (.invokevirtual 70, 3) := by decide +kernel
theorem dX4_readFunction_47 : decode cX4_readFunction 47 = .ok (.istore 5, 2) := by decide +kernel
theorem dX4_readFunction_49 : decode cX4_readFunction 49 = .ok (.iload 5, 2) := by decide +kernel
theorem dX4_readFunction_51 : decode cX4_readFunction 51 = .ok (.iconst (-1), 1) := by decide +kernel
theorem dX4_readFunction_52 : decode cX4_readFunction 52 = .ok (.if_icmp .ne 7, 3) := by decide +kernel
theorem dX4_readFunction_55 : decode cX4_readFunction 55 = .ok (.iconst (-1), 1) := by decide +kernel
theorem dX4_readFunction_56 : decode cX4_readFunction 56 = .ok (.goto 13, 3) := by decide +kernel
theorem dX4_readFunction_59 : decode cX4_readFunction 59 = .ok (.aload_n 0, 1) := by decide +kernel
theorem dX4_readFunction_60 : decode cX4_readFunction 60 = .ok (.bipush 92, 2) := by decide +kernel
theorem dX4_readFunction_62 : decode cX4_readFunction 62 = .ok (.iload 5, 2) := by decide +kernel
theorem dX4_readFunction_64 : decode cX4_readFunction 64 = .ok (.iconst (-1), 1) := by decide +kernel
theorem dX4_readFunction_65 : decode cX4_readFunction 65 = .ok (.iload_n 3, 1) := by decide +kernel
theorem dX4_readFunction_66 : decode cX4_readFunction 66 = .ok (.invokevirtual 142, 3) := by decide +kernel
theorem dX4_readFunction_69 : decode cX4_readFunction 69 = .ok (.ireturn, 1) := by decide +kernel
theorem dX4_inferTerm_0 : decode cX4_inferTerm 0 = .ok (.aload_n 0, 1) := by decide +kernel
theorem dX4_inferTerm_1 : decode cX4_inferTerm 1 = .ok (.getfield 41, 3) := by decide +kernel
theorem dX4_inferTerm_4 : decode cX4_inferTerm 4 = .ok (.istore_n 2, 1) := by decide +kernel
theorem dX4_inferTerm_5 : decode cX4_inferTerm 5 = .ok (.aload_n 0, 1) := by decide +kernel
theorem dX4_inferTerm_6 : decode cX4_inferTerm 6 = .ok (.getfield 29, 3) := by decide +kernel
theorem dX4_inferTerm_9 : decode cX4_inferTerm 9 = .ok (.getfield 166, 3) := by decide +kernel
theorem dX4_inferTerm_12 : decode cX4_inferTerm 12 = .ok (.istore_n 3, 1) := by decide +kernel
theorem dX4_inferTerm_13 : decode cX4_inferTerm 13 = .ok (.aload_n 0, 1) := by decide +kernel
theorem dX4_inferTerm_14 : decode cX4_inferTerm 14 = .ok (.invokevirtual 99, 3) := by decide +kernel
theorem dX4_inferTerm_17 : decode cX4_inferTerm 17 = .ok (.lookupswitch 90 #[(35, 51), (46, 70), (58, 60), (60, 80), (62, 80)], 51) := by decide +kernel
theorem dX4_inferTerm_68 : decode cX4_inferTerm 68 = .ok (.aload_n 0, 1) := by decide +kernel
theorem dX4_inferTerm_69 : decode cX4_inferTerm 69 = .ok (.invokevirtual 192, 3) := by decide +kernel
theorem dX4_inferTerm_72 : decode cX4_inferTerm 72 = .ok (.istore 4, 2) := by decide +kernel
theorem dX4_inferTerm_74 : decode cX4_inferTerm 74 = .ok (.goto 40, 3) := by decide +kernel
theorem dX4_inferTerm_77 : decode cX4_inferTerm 77 = .ok (.aload_n 0, 1) := by decide +kernel
theorem dX4_inferTerm_78 : decode cX4_inferTerm 78 = .ok (.iload_n 1, 1) := by decide +kernel
theorem dX4_inferTerm_79 : decode cX4_inferTerm 79 = .ok (.invokevirtual 195, 3) := by decide +kernel
theorem dX4_inferTerm_82 : decode cX4_inferTerm 82 = .ok (.istore 4, 2) := by decide +kernel
theorem dX4_inferTerm_84 : decode cX4_inferTerm 84 = .ok (.goto 30, 3) := by decide +kernel
theorem dX4_inferTerm_87 : decode cX4_inferTerm 87 = .ok (.aload_n 0, 1) := by decide +kernel
theorem dX4_inferTerm_88 : decode cX4_inferTerm 88 = .ok (.iload_n 1, 1) := by decide +kernel
theorem dX4_inferTerm_89 : decode cX4_inferTerm 89 = .ok (.invokevirtual 198, 3) := by decide +kernel
theorem dX4_inferTerm_92 : decode cX4_inferTerm 92 = .ok (.istore 4, 2) := by decide +kernel
theorem dX4_inferTerm_94 : decode cX4_inferTerm 94 = .ok (.goto 20, 3) := by decide +kernel
theorem dX4_inferTerm_97 : decode cX4_inferTerm 97 = .ok (.aload_n 0, 1) := by decide +kernel
theorem dX4_inferTerm_98 : decode cX4_inferTerm 98 = .ok (.iload_n 1, 1) := by decide +kernel
theorem dX4_inferTerm_99 : decode cX4_inferTerm 99 = .ok (.invokevirtual 201, 3) := by decide +kernel
theorem dX4_inferTerm_102 : decode cX4_inferTerm 102 = .ok (.istore 4, 2) := by decide +kernel
theorem dX4_inferTerm_104 : decode cX4_inferTerm 104 = .ok (.goto 10, 3) := by decide +kernel
theorem dX4_inferTerm_107 : decode cX4_inferTerm 107 = .ok (.aload_n 0, 1) := by decide +kernel
theorem dX4_inferTerm_108 : decode cX4_inferTerm 108 = .ok (.iload_n 1, 1) := by decide +kernel
theorem dX4_inferTerm_109 : decode cX4_inferTerm 109 = .ok (.invokevirtual 204, 3) := by decide +kernel
theorem dX4_inferTerm_112 : decode cX4_inferTerm 112 = .ok (.istore 4, 2) := by decide +kernel
theorem dX4_inferTerm_114 : decode cX4_inferTerm 114 = .ok (.iload 4, 2) := by decide +kernel
theorem dX4_inferTerm_116 : decode cX4_inferTerm 116 = .ok (.ifCond .ne 5, 3) := by decide +kernel
theorem dX4_inferTerm_119 : decode cX4_inferTerm 119 = .ok (.iconst (-1), 1) := by decide +kernel
theorem dX4_inferTerm_120 : decode cX4_inferTerm 120 = .ok (.ireturn, 1) := by decide +kernel
theorem dX4_inferTerm_121 : decode cX4_inferTerm 121 = .ok (.aload_n 0, 1) := by decide +kernel
theorem dX4_inferTerm_122 : decode cX4_inferTerm 122 = .ok (.getfield 33, 3) := by decide +kernel
theorem dX4_inferTerm_125 : decode cX4_inferTerm 125 = .ok (.invokevirtual 167, 3) := by decide +kernel
theorem dX4_inferTerm_128 : decode cX4_inferTerm 128 = .ok (.aload_n 0, 1) := by decide +kernel
theorem dX4_inferTerm_129 : decode cX4_inferTerm 129 = .ok (.getfield 33, 3) := by decide +kernel
theorem dX4_inferTerm_132 : decode cX4_inferTerm 132 = .ok (.aload_n 0, 1) := by decide +kernel
theorem dX4_inferTerm_133 : decode cX4_inferTerm 133 = .ok (.getfield 207, 3) := by decide +kernel
theorem dX4_inferTerm_136 : decode cX4_inferTerm 136 = .ok (.iload_n 1, 1) := by decide +kernel
theorem dX4_inferTerm_137 : decode cX4_inferTerm 137 = .ok (.invokevirtual 169, 3) := by decide +kernel
theorem dX4_inferTerm_140 : decode cX4_inferTerm 140 = .ok (.aload_n 0, 1) := by decide +kernel
theorem dX4_inferTerm_141 : decode cX4_inferTerm 141 = .ok (.getfield 33, 3) := by decide +kernel
theorem dX4_inferTerm_144 : decode cX4_inferTerm 144 = .ok (.invokevirtual 173, 3) := by decide +kernel
theorem dX4_inferTerm_147 : decode cX4_inferTerm 147 = .ok (.istore 5, 2) := by decide +kernel
theorem dX4_inferTerm_149 : decode cX4_inferTerm 149 = .ok (.aload_n 0, 1) := by decide +kernel
theorem dX4_inferTerm_150 : decode cX4_inferTerm 150 = .ok (.getfield 33, 3) := by decide +kernel
theorem dX4_inferTerm_153 : decode cX4_inferTerm 153 = .ok (.invokevirtual 167, 3) := by decide +kernel
theorem dX4_inferTerm_156 : decode cX4_inferTerm 156 = .ok (.aload_n 0, 1) := by decide +kernel
theorem dX4_inferTerm_157 : decode cX4_inferTerm 157 = .ok (.getfield 33, 3) := by decide +kernel
theorem dX4_inferTerm_160 : decode cX4_inferTerm 160 = .ok (.aload_n 0, 1) := by decide +kernel
theorem dX4_inferTerm_161 : decode cX4_inferTerm 161 = .ok (.getfield 207, 3) := by decide +kernel
theorem dX4_inferTerm_164 : decode cX4_inferTerm 164 = .ok (.aload_n 0, 1) := by decide +kernel
theorem dX4_inferTerm_165 : decode cX4_inferTerm 165 = .ok (.getfield 210, 3) := by decide +kernel
theorem dX4_inferTerm_168 : decode cX4_inferTerm 168 = .ok (.iload_n 1, 1) := by decide +kernel
theorem dX4_inferTerm_169 : decode cX4_inferTerm 169 = .ok (.invokevirtual 213, 3) := by decide +kernel
theorem dX4_inferTerm_172 : decode cX4_inferTerm 172 = .ok (.aload_n 0, 1) := by decide +kernel
theorem dX4_inferTerm_173 : decode cX4_inferTerm 173 = .ok (.getfield 33, 3) := by decide +kernel
theorem dX4_inferTerm_176 : decode cX4_inferTerm 176 = .ok (.invokevirtual 173, 3) := by decide +kernel
theorem dX4_inferTerm_179 : decode cX4_inferTerm 179 = .ok (.istore 6, 2) := by decide +kernel
theorem dX4_inferTerm_181 : decode cX4_inferTerm 181 = .ok (.aload_n 0, 1) := by decide +kernel
theorem dX4_inferTerm_182 : decode cX4_inferTerm 182 = .ok (.getfield 29, 3) := by decide +kernel
theorem dX4_inferTerm_185 : decode cX4_inferTerm 185 = .ok (.iload_n 3, 1) := by decide +kernel
theorem dX4_inferTerm_186 : decode cX4_inferTerm 186 = .ok (.invokevirtual 55, 3) := by decide +kernel
theorem dX4_inferTerm_189 : decode cX4_inferTerm 189 = .ok (.iload 5, 2) := by decide +kernel
theorem dX4_inferTerm_191 : decode cX4_inferTerm 191 = .ok (.iconst (-1), 1) := by decide +kernel
theorem dX4_inferTerm_192 : decode cX4_inferTerm 192 = .ok (.if_icmp .eq 9, 3) := by decide +kernel
theorem dX4_inferTerm_195 : decode cX4_inferTerm 195 = .ok (.iload 6, 2) := by decide +kernel
theorem dX4_inferTerm_197 : decode cX4_inferTerm 197 = .ok (.iconst (-1), 1) := by decide +kernel
theorem dX4_inferTerm_198 : decode cX4_inferTerm 198 = .ok (.if_icmp .ne 9, 3) := by decide +kernel
theorem dX4_inferTerm_201 : decode cX4_inferTerm 201 = .ok (.aload_n 0, 1) := by decide +kernel
theorem dX4_inferTerm_202 : decode cX4_inferTerm 202 = .ok (.iload_n 2, 1) := by decide +kernel
theorem dX4_inferTerm_203 : decode cX4_inferTerm 203 = .ok (.invokevirtual 124, 3) := by decide +kernel
theorem dX4_inferTerm_206 : decode cX4_inferTerm 206 = .ok (.ireturn, 1) := by decide +kernel
theorem dX4_inferTerm_207 : decode cX4_inferTerm 207 = .ok (.aload_n 0, 1) := by decide +kernel
theorem dX4_inferTerm_208 : decode cX4_inferTerm 208 = .ok (.iload 5, 2) := by decide +kernel
theorem dX4_inferTerm_210 : decode cX4_inferTerm 210 = .ok (.putfield 176, 3) := by decide +kernel
theorem dX4_inferTerm_213 : decode cX4_inferTerm 213 = .ok (.iload 6, 2) := by decide +kernel
theorem dX4_inferTerm_215 : decode cX4_inferTerm 215 = .ok (.ireturn, 1) := by decide +kernel
theorem dX4_readAnnotated_0 : decode cX4_readAnnotated 0 = .ok (.aload_n 0, 1) := by decide +kernel
theorem dX4_readAnnotated_1 : decode cX4_readAnnotated 1 = .ok (.dup, 1) := by decide +kernel
theorem dX4_readAnnotated_2 : decode cX4_readAnnotated 2 = .ok (.getfield 41, 3) := by decide +kernel
theorem dX4_readAnnotated_5 : decode cX4_readAnnotated 5 = .ok (.iconst 1, 1) := by decide +kernel
theorem dX4_readAnnotated_6 : decode cX4_readAnnotated 6 = .ok (.iadd, 1) := by decide +kernel
theorem dX4_readAnnotated_7 : decode cX4_readAnnotated 7 = .ok (.putfield 41, 3) := by decide +kernel
theorem dX4_readAnnotated_10 : decode cX4_readAnnotated 10 = .ok (.aload_n 0, 1) := by decide +kernel
theorem dX4_readAnnotated_11 : decode cX4_readAnnotated 11 = .ok (.iload_n 1, 1) := by decide +kernel
theorem dX4_readAnnotated_12 : decode cX4_readAnnotated 12 = .ok (.invokevirtual 59, 3) := by decide +kernel
theorem dX4_readAnnotated_15 : decode cX4_readAnnotated 15 = .ok (.istore_n 2, 1) := by decide +kernel
theorem dX4_readAnnotated_16 : decode cX4_readAnnotated 16 = .ok (.iload_n 2, 1) := by decide +kernel
theorem dX4_readAnnotated_17 : decode cX4_readAnnotated 17 = .ok (.iconst (-1), 1) := by decide +kernel
theorem dX4_readAnnotated_18 : decode cX4_readAnnotated 18 = .ok (.if_icmp .ne 5, 3) := by decide +kernel
theorem dX4_readAnnotated_21 : decode cX4_readAnnotated 21 = .ok (.iconst 0, 1) := by decide +kernel
theorem dX4_readAnnotated_22 : decode cX4_readAnnotated 22 = .ok (.ireturn, 1) := by decide +kernel
theorem dX4_readAnnotated_23 : decode cX4_readAnnotated 23 = .ok (.aload_n 0, 1) := by decide +kernel
theorem dX4_readAnnotated_24 : decode cX4_readAnnotated 24 = .ok (.getfield 29, 3) := by decide +kernel
theorem dX4_readAnnotated_27 : decode cX4_readAnnotated 27 = .ok (.iload_n 2, 1) := by decide +kernel
theorem dX4_readAnnotated_28 : decode cX4_readAnnotated 28 = .ok (.aload_n 0, 1) := by decide +kernel
theorem dX4_readAnnotated_29 : decode cX4_readAnnotated 29 = .ok (.iload_n 1, 1) := by decide +kernel
theorem dX4_readAnnotated_30 : decode cX4_readAnnotated 30 = .ok (.invokevirtual 145, 3) := by decide +kernel
theorem dX4_readAnnotated_33 : decode cX4_readAnnotated 33 = .ok (.invokevirtual 66, 3) := by decide +kernel
theorem dX4_readAnnotated_36 : decode cX4_readAnnotated 36 = .ok (.istore_n 3, 1) := by decide +kernel
theorem dX4_readAnnotated_37 : decode cX4_readAnnotated 37 = .ok (.aload_n 0, 1) := by decide +kernel
theorem dX4_readAnnotated_38 : decode cX4_readAnnotated 38 = .ok (.iload_n 3, 1) := by decide +kernel
theorem dX4_readAnnotated_39 : decode cX4_readAnnotated 39 = .ok (.iload_n 1, 1) := by decide +kernel
theorem dX4_readAnnotated_40 : decode cX4_readAnnotated 40 = .ok (.invokevirtual 70, 3) := by decide +kernel
theorem dX4_readAnnotated_43 : decode cX4_readAnnotated 43 = .ok (.istore 4, 2) := by decide +kernel
theorem dX4_readAnnotated_45 : decode cX4_readAnnotated 45 = .ok (.iload 4, 2) := by decide +kernel
theorem dX4_readAnnotated_47 : decode cX4_readAnnotated 47 = .ok (.iconst (-1), 1) := by decide +kernel
theorem dX4_readAnnotated_48 : decode cX4_readAnnotated 48 = .ok (.if_icmp .ne 5, 3) := by decide +kernel
theorem dX4_readAnnotated_51 : decode cX4_readAnnotated 51 = .ok (.iconst 0, 1) := by decide +kernel
theorem dX4_readAnnotated_52 : decode cX4_readAnnotated 52 = .ok (.ireturn, 1) := by decide +kernel
theorem dX4_readAnnotated_53 : decode cX4_readAnnotated 53 = .ok (.aload_n 0, 1) := by decide +kernel
theorem dX4_readAnnotated_54 : decode cX4_readAnnotated 54 = .ok (.iload_n 3, 1) := by decide +kernel
theorem dX4_readAnnotated_55 : decode cX4_readAnnotated 55 = .ok (.aload_n 0, 1) := by decide +kernel
theorem dX4_readAnnotated_56 : decode cX4_readAnnotated 56 = .ok (.getfield 29, 3) := by decide +kernel
theorem dX4_readAnnotated_59 : decode cX4_readAnnotated 59 = .ok (.iload 4, 2) := by decide +kernel
theorem dX4_readAnnotated_61 : decode cX4_readAnnotated 61 = .ok (.aload_n 0, 1) := by decide +kernel
theorem dX4_readAnnotated_62 : decode cX4_readAnnotated 62 = .ok (.iload_n 1, 1) := by decide +kernel
theorem dX4_readAnnotated_63 : decode cX4_readAnnotated 63 = .ok (.invokevirtual 145, 3) := by decide +kernel
theorem dX4_readAnnotated_66 : decode cX4_readAnnotated 66 = .ok (.bipush 104, 2) := by decide +kernel
theorem dX4_readAnnotated_68 : decode cX4_readAnnotated 68 = .ok (.invokevirtual 186, 3) := by decide +kernel
theorem dX4_readAnnotated_71 : decode cX4_readAnnotated 71 = .ok (.invokevirtual 223, 3) := by decide +kernel
theorem dX4_readAnnotated_74 : decode cX4_readAnnotated 74 = .ok (.ireturn, 1) := by decide +kernel
theorem dX4_readApplied_0 : decode cX4_readApplied 0 = .ok (.aload_n 0, 1) := by decide +kernel
theorem dX4_readApplied_1 : decode cX4_readApplied 1 = .ok (.dup, 1) := by decide +kernel
theorem dX4_readApplied_2 : decode cX4_readApplied 2 = .ok (.getfield 41, 3) := by decide +kernel
theorem dX4_readApplied_5 : decode cX4_readApplied 5 = .ok (.iconst 1, 1) := by decide +kernel
theorem dX4_readApplied_6 : decode cX4_readApplied 6 = .ok (.iadd, 1) := by decide +kernel
theorem dX4_readApplied_7 : decode cX4_readApplied 7 = .ok (.putfield 41, 3) := by decide +kernel
theorem dX4_readApplied_10 : decode cX4_readApplied 10 = .ok (.aload_n 0, 1) := by decide +kernel
theorem dX4_readApplied_11 : decode cX4_readApplied 11 = .ok (.getfield 41, 3) := by decide +kernel
theorem dX4_readApplied_14 : decode cX4_readApplied 14 = .ok (.istore_n 2, 1) := by decide +kernel
theorem dX4_readApplied_15 : decode cX4_readApplied 15 = .ok (.aload_n 0, 1) := by decide +kernel
theorem dX4_readApplied_16 : decode cX4_readApplied 16 = .ok (.iload_n 1, 1) := by decide +kernel
theorem dX4_readApplied_17 : decode cX4_readApplied 17 = .ok (.invokevirtual 83, 3) := by decide +kernel
theorem dX4_readApplied_20 : decode cX4_readApplied 20 = .ok (.istore_n 3, 1) := by decide +kernel
theorem dX4_readApplied_21 : decode cX4_readApplied 21 = .ok (.iload_n 3, 1) := by decide +kernel
theorem dX4_readApplied_22 : decode cX4_readApplied 22 = .ok (.iconst (-1), 1) := by decide +kernel
theorem dX4_readApplied_23 : decode cX4_readApplied 23 = .ok (.if_icmp .ne 5, 3) := by decide +kernel
theorem dX4_readApplied_26 : decode cX4_readApplied 26 = .ok (.iconst 0, 1) := by decide +kernel
theorem dX4_readApplied_27 : decode cX4_readApplied 27 = .ok (.ireturn, 1) := by decide +kernel
theorem dX4_readApplied_28 : decode cX4_readApplied 28 = .ok (.aload_n 0, 1) := by decide +kernel
theorem dX4_readApplied_29 : decode cX4_readApplied 29 = .ok (.getfield 29, 3) := by decide +kernel
theorem dX4_readApplied_32 : decode cX4_readApplied 32 = .ok (.aload_n 0, 1) := by decide +kernel
theorem dX4_readApplied_33 : decode cX4_readApplied 33 = .ok (.getfield 176, 3) := by decide +kernel
theorem dX4_readApplied_36 : decode cX4_readApplied 36 = .ok (.aload_n 0, 1) := by decide +kernel
theorem dX4_readApplied_37 : decode cX4_readApplied 37 = .ok (.iload_n 1, 1) := by decide +kernel
theorem dX4_readApplied_38 : decode cX4_readApplied 38 = .ok (.invokevirtual 145, 3) := by decide +kernel
theorem dX4_readApplied_41 : decode cX4_readApplied 41 = .ok (.invokevirtual 66, 3) := by decide +kernel
theorem dX4_readApplied_44 : decode cX4_readApplied 44 = .ok (.istore 4, 2) := by decide +kernel
theorem dX4_readApplied_46 : decode cX4_readApplied 46 = .ok (.aload_n 0, 1) := by decide +kernel
theorem dX4_readApplied_47 : decode cX4_readApplied 47 = .ok (.getfield 29, 3) := by decide +kernel
theorem dX4_readApplied_50 : decode cX4_readApplied 50 = .ok (.iload 4, 2) := by decide +kernel
theorem dX4_readApplied_52 : decode cX4_readApplied 52 = .ok (.invokevirtual 151, 3) := by decide +kernel
theorem dX4_readApplied_55 : decode cX4_readApplied 55 = .ok (.bipush 80, 2) := by decide +kernel
theorem dX4_readApplied_57 : decode cX4_readApplied 57 = .ok (.if_icmp .eq 9, 3) := by decide +kernel
theorem dX4_readApplied_60 : decode cX4_readApplied 60 = .ok (.aload_n 0, 1) := by decide +kernel
theorem dX4_readApplied_61 : decode cX4_readApplied 61 = .ok (.iload_n 2, 1) := by decide +kernel
theorem dX4_readApplied_62 : decode cX4_readApplied 62 = .ok (.invokevirtual 95, 3) := by decide +kernel
theorem dX4_readApplied_65 : decode cX4_readApplied 65 = .ok (.ireturn, 1) := by decide +kernel
theorem dX4_readApplied_66 : decode cX4_readApplied 66 = .ok (.aload_n 0, 1) := by decide +kernel
theorem dX4_readApplied_67 : decode cX4_readApplied 67 = .ok (.aload_n 0, 1) := by decide +kernel
theorem dX4_readApplied_68 : decode cX4_readApplied 68 = .ok (.getfield 29, 3) := by decide +kernel
theorem dX4_readApplied_71 : decode cX4_readApplied 71 = .ok (.iload 4, 2) := by decide +kernel
theorem dX4_readApplied_73 : decode cX4_readApplied 73 = .ok (.invokevirtual 183, 3) := by decide +kernel
theorem dX4_readApplied_76 : decode cX4_readApplied 76 = .ok (.iload_n 1, 1) := by decide +kernel
theorem dX4_readApplied_77 : decode cX4_readApplied 77 = .ok (.invokevirtual 70, 3) := by decide +kernel
theorem dX4_readApplied_80 : decode cX4_readApplied 80 = .ok (.istore 5, 2) := by decide +kernel
theorem dX4_readApplied_82 : decode cX4_readApplied 82 = .ok (.iload 5, 2) := by decide +kernel
theorem dX4_readApplied_84 : decode cX4_readApplied 84 = .ok (.iconst (-1), 1) := by decide +kernel
theorem dX4_readApplied_85 : decode cX4_readApplied 85 = .ok (.if_icmp .ne 5, 3) := by decide +kernel
theorem dX4_readApplied_88 : decode cX4_readApplied 88 = .ok (.iconst 0, 1) := by decide +kernel
theorem dX4_readApplied_89 : decode cX4_readApplied 89 = .ok (.ireturn, 1) := by decide +kernel
theorem dX4_readApplied_90 : decode cX4_readApplied 90 = .ok (.aload_n 0, 1) := by decide +kernel
theorem dX4_readApplied_91 : decode cX4_readApplied 91 = .ok (.getfield 29, 3) := by decide +kernel
theorem dX4_readApplied_94 : decode cX4_readApplied 94 = .ok (.iload 5, 2) := by decide +kernel
theorem dX4_readApplied_96 : decode cX4_readApplied 96 = .ok (.aload_n 0, 1) := by decide +kernel
theorem dX4_readApplied_97 : decode cX4_readApplied 97 = .ok (.iload_n 1, 1) := by decide +kernel
theorem dX4_readApplied_98 : decode cX4_readApplied 98 = .ok (.invokevirtual 145, 3) := by decide +kernel
theorem dX4_readApplied_101 : decode cX4_readApplied 101 = .ok (.bipush 104, 2) := by decide +kernel
theorem dX4_readApplied_103 : decode cX4_readApplied 103 = .ok (.invokevirtual 186, 3) := by decide +kernel
theorem dX4_readApplied_106 : decode cX4_readApplied 106 = .ok (.istore 6, 2) := by decide +kernel
theorem dX4_readApplied_108 : decode cX4_readApplied 108 = .ok (.aload_n 0, 1) := by decide +kernel
theorem dX4_readApplied_109 : decode cX4_readApplied 109 = .ok (.getfield 29, 3) := by decide +kernel
theorem dX4_readApplied_112 : decode cX4_readApplied 112 = .ok (.iload_n 3, 1) := by decide +kernel
theorem dX4_readApplied_113 : decode cX4_readApplied 113 = .ok (.aload_n 0, 1) := by decide +kernel
theorem dX4_readApplied_114 : decode cX4_readApplied 114 = .ok (.iload_n 1, 1) := by decide +kernel
theorem dX4_readApplied_115 : decode cX4_readApplied 115 = .ok (.invokevirtual 145, 3) := by decide +kernel
theorem dX4_readApplied_118 : decode cX4_readApplied 118 = .ok (.bipush 104, 2) := by decide +kernel
theorem dX4_readApplied_120 : decode cX4_readApplied 120 = .ok (.invokevirtual 186, 3) := by decide +kernel
theorem dX4_readApplied_123 : decode cX4_readApplied 123 = .ok (.istore 7, 2) := by decide +kernel
theorem dX4_readApplied_125 : decode cX4_readApplied 125 = .ok (.aload_n 0, 1) := by decide +kernel
theorem dX4_readApplied_126 : decode cX4_readApplied 126 = .ok (.aload_n 0, 1) := by decide +kernel
theorem dX4_readApplied_127 : decode cX4_readApplied 127 = .ok (.getfield 29, 3) := by decide +kernel
theorem dX4_readApplied_130 : decode cX4_readApplied 130 = .ok (.iload 4, 2) := by decide +kernel
theorem dX4_readApplied_132 : decode cX4_readApplied 132 = .ok (.iload 6, 2) := by decide +kernel
theorem dX4_readApplied_134 : decode cX4_readApplied 134 = .ok (.invokevirtual 189, 3) := by decide +kernel
theorem dX4_readApplied_137 : decode cX4_readApplied 137 = .ok (.aload_n 0, 1) := by decide +kernel
theorem dX4_readApplied_138 : decode cX4_readApplied 138 = .ok (.getfield 29, 3) := by decide +kernel
theorem dX4_readApplied_141 : decode cX4_readApplied 141 = .ok (.iload 7, 2) := by decide +kernel
theorem dX4_readApplied_143 : decode cX4_readApplied 143 = .ok (.iload 6, 2) := by decide +kernel
theorem dX4_readApplied_145 : decode cX4_readApplied 145 = .ok (.bipush 104, 2) := by decide +kernel
theorem dX4_readApplied_147 : decode cX4_readApplied 147 = .ok (.invokevirtual 250, 3) := by decide +kernel
theorem dX4_readApplied_150 : decode cX4_readApplied 150 = .ok (.invokevirtual 223, 3) := by decide +kernel
theorem dX4_readApplied_153 : decode cX4_readApplied 153 = .ok (.ireturn, 1) := by decide +kernel
theorem dX4_readComponent_0 : decode cX4_readComponent 0 = .ok (.aload_n 0, 1) := by decide +kernel
theorem dX4_readComponent_1 : decode cX4_readComponent 1 = .ok (.invokevirtual 99, 3) := by decide +kernel
theorem dX4_readComponent_4 : decode cX4_readComponent 4 = .ok (.bipush 60, 2) := by decide +kernel
theorem dX4_readComponent_6 : decode cX4_readComponent 6 = .ok (.if_icmp .ne 7, 3) := by decide +kernel
theorem dX4_readComponent_9 : decode cX4_readComponent 9 = .ok (.iconst 1, 1) := by decide +kernel
theorem dX4_readComponent_10 : decode cX4_readComponent 10 = .ok (.goto 4, 3) := by decide +kernel
theorem dX4_readComponent_13 : decode cX4_readComponent 13 = .ok (.iconst 0, 1) := by decide +kernel
theorem dX4_readComponent_14 : decode cX4_readComponent 14 = .ok (.istore_n 2, 1) := by decide +kernel
theorem dX4_readComponent_15 : decode cX4_readComponent 15 = .ok (.aload_n 0, 1) := by decide +kernel
theorem dX4_readComponent_16 : decode cX4_readComponent 16 = .ok (.dup, 1) := by decide +kernel
theorem dX4_readComponent_17 : decode cX4_readComponent 17 = .ok (.getfield 41, 3) := by decide +kernel
theorem dX4_readComponent_20 : decode cX4_readComponent 20 = .ok (.iconst 1, 1) := by decide +kernel
theorem dX4_readComponent_21 : decode cX4_readComponent 21 = .ok (.iadd, 1) := by decide +kernel
theorem dX4_readComponent_22 : decode cX4_readComponent 22 = .ok (.putfield 41, 3) := by decide +kernel
theorem dX4_readComponent_25 : decode cX4_readComponent 25 = .ok (.aload_n 0, 1) := by decide +kernel
theorem dX4_readComponent_26 : decode cX4_readComponent 26 = .ok (.getfield 41, 3) := by decide +kernel
theorem dX4_readComponent_29 : decode cX4_readComponent 29 = .ok (.istore_n 3, 1) := by decide +kernel
theorem dX4_readComponent_30 : decode cX4_readComponent 30 = .ok (.aload_n 0, 1) := by decide +kernel
theorem dX4_readComponent_31 : decode cX4_readComponent 31 = .ok (.iload_n 1, 1) := by decide +kernel
theorem dX4_readComponent_32 : decode cX4_readComponent 32 = .ok (.invokevirtual 83, 3) := by decide +kernel
theorem dX4_readComponent_35 : decode cX4_readComponent 35 = .ok (.istore 4, 2) := by decide +kernel
theorem dX4_readComponent_37 : decode cX4_readComponent 37 = .ok (.iload 4, 2) := by decide +kernel
theorem dX4_readComponent_39 : decode cX4_readComponent 39 = .ok (.iconst (-1), 1) := by decide +kernel
theorem dX4_readComponent_40 : decode cX4_readComponent 40 = .ok (.if_icmp .ne 5, 3) := by decide +kernel
theorem dX4_readComponent_43 : decode cX4_readComponent 43 = .ok (.iconst 0, 1) := by decide +kernel
theorem dX4_readComponent_44 : decode cX4_readComponent 44 = .ok (.ireturn, 1) := by decide +kernel
theorem dX4_readComponent_45 : decode cX4_readComponent 45 = .ok (.aload_n 0, 1) := by decide +kernel
theorem dX4_readComponent_46 : decode cX4_readComponent 46 = .ok (.getfield 29, 3) := by decide +kernel
theorem dX4_readComponent_49 : decode cX4_readComponent 49 = .ok (.aload_n 0, 1) := by decide +kernel
theorem dX4_readComponent_50 : decode cX4_readComponent 50 = .ok (.getfield 176, 3) := by decide +kernel
theorem dX4_readComponent_53 : decode cX4_readComponent 53 = .ok (.aload_n 0, 1) := by decide +kernel
theorem dX4_readComponent_54 : decode cX4_readComponent 54 = .ok (.iload_n 1, 1) := by decide +kernel
theorem dX4_readComponent_55 : decode cX4_readComponent 55 = .ok (.invokevirtual 145, 3) := by decide +kernel
theorem dX4_readComponent_58 : decode cX4_readComponent 58 = .ok (.invokevirtual 66, 3) := by decide +kernel
theorem dX4_readComponent_61 : decode cX4_readComponent 61 = .ok (.istore 5, 2) := by decide +kernel
theorem dX4_readComponent_63 : decode cX4_readComponent 63 = .ok (.aload_n 0, 1) := by decide +kernel
theorem dX4_readComponent_64 : decode cX4_readComponent 64 = .ok (.getfield 29, 3) := by decide +kernel
theorem dX4_readComponent_67 : decode cX4_readComponent 67 = .ok (.iload 5, 2) := by decide +kernel
theorem dX4_readComponent_69 : decode cX4_readComponent 69 = .ok (.invokevirtual 151, 3) := by decide +kernel
theorem dX4_readComponent_72 : decode cX4_readComponent 72 = .ok (.bipush 83, 2) := by decide +kernel
theorem dX4_readComponent_74 : decode cX4_readComponent 74 = .ok (.if_icmp .eq 9, 3) := by decide +kernel
theorem dX4_readComponent_77 : decode cX4_readComponent 77 = .ok (.aload_n 0, 1) := by decide +kernel
theorem dX4_readComponent_78 : decode cX4_readComponent 78 = .ok (.iload_n 3, 1) := by decide +kernel
theorem dX4_readComponent_79 : decode cX4_readComponent 79 = .ok (.invokevirtual 95, 3) := by decide +kernel
theorem dX4_readComponent_82 : decode cX4_readComponent 82 = .ok (.ireturn, 1) := by decide +kernel
theorem dX4_readComponent_83 : decode cX4_readComponent 83 = .ok (.aload_n 0, 1) := by decide +kernel
theorem dX4_readComponent_84 : decode cX4_readComponent 84 = .ok (.getfield 29, 3) := by decide +kernel
theorem dX4_readComponent_87 : decode cX4_readComponent 87 = .ok (.iload 4, 2) := by decide +kernel
theorem dX4_readComponent_89 : decode cX4_readComponent 89 = .ok (.aload_n 0, 1) := by decide +kernel
theorem dX4_readComponent_90 : decode cX4_readComponent 90 = .ok (.iload_n 1, 1) := by decide +kernel
theorem dX4_readComponent_91 : decode cX4_readComponent 91 = .ok (.invokevirtual 145, 3) := by decide +kernel
theorem dX4_readComponent_94 : decode cX4_readComponent 94 = .ok (.bipush 104, 2) := by decide +kernel
theorem dX4_readComponent_96 : decode cX4_readComponent 96 = .ok (.invokevirtual 186, 3) := by decide +kernel
theorem dX4_readComponent_99 : decode cX4_readComponent 99 = .ok (.istore 6, 2) := by decide +kernel
theorem dX4_readComponent_101 : decode cX4_readComponent 101 = .ok (.aload_n 0, 1) := by decide +kernel
theorem dX4_readComponent_102 : decode cX4_readComponent 102 = .ok (.getfield 29, 3) := by decide +kernel
theorem dX4_readComponent_105 : decode cX4_readComponent 105 = .ok (.iload 6, 2) := by decide +kernel
theorem dX4_readComponent_107 : decode cX4_readComponent 107 = .ok (.invokevirtual 253, 3) := by decide +kernel
theorem dX4_readComponent_110 : decode cX4_readComponent 110 = .ok (.istore 7, 2) := by decide +kernel
theorem dX4_readComponent_112 : decode cX4_readComponent 112 = .ok (.iload_n 2, 1) := by decide +kernel
theorem dX4_readComponent_113 : decode cX4_readComponent 113 = .ok (.ifCond .eq 19, 3) := by decide +kernel
theorem dX4_readComponent_116 : decode cX4_readComponent 116 = .ok (.aload_n 0, 1) := by decide +kernel
theorem dX4_readComponent_117 : decode cX4_readComponent 117 = .ok (.aload_n 0, 1) := by decide +kernel
theorem dX4_readComponent_118 : decode cX4_readComponent 118 = .ok (.getfield 29, 3) := by decide +kernel
theorem dX4_readComponent_121 : decode cX4_readComponent 121 = .ok (.iload 5, 2) := by decide +kernel
theorem dX4_readComponent_123 : decode cX4_readComponent 123 = .ok (.invokevirtual 183, 3) := by decide +kernel
theorem dX4_readComponent_126 : decode cX4_readComponent 126 = .ok (.iload 7, 2) := by decide +kernel
theorem dX4_readComponent_128 : decode cX4_readComponent 128 = .ok (.invokevirtual 223, 3) := by decide +kernel
theorem dX4_readComponent_131 : decode cX4_readComponent 131 = .ok (.ireturn, 1) := by decide +kernel
theorem dX4_readComponent_132 : decode cX4_readComponent 132 = .ok (.aload_n 0, 1) := by decide +kernel
theorem dX4_readComponent_133 : decode cX4_readComponent 133 = .ok (.aload_n 0, 1) := by decide +kernel
theorem dX4_readComponent_134 : decode cX4_readComponent 134 = .ok (.getfield 29, 3) := by decide +kernel
theorem dX4_readComponent_137 : decode cX4_readComponent 137 = .ok (.iload 5, 2) := by decide +kernel
theorem dX4_readComponent_139 : decode cX4_readComponent 139 = .ok (.iload 7, 2) := by decide +kernel
theorem dX4_readComponent_141 : decode cX4_readComponent 141 = .ok (.invokevirtual 189, 3) := by decide +kernel
theorem dX4_readComponent_144 : decode cX4_readComponent 144 = .ok (.aload_n 0, 1) := by decide +kernel
theorem dX4_readComponent_145 : decode cX4_readComponent 145 = .ok (.getfield 29, 3) := by decide +kernel
theorem dX4_readComponent_148 : decode cX4_readComponent 148 = .ok (.iload 6, 2) := by decide +kernel
theorem dX4_readComponent_150 : decode cX4_readComponent 150 = .ok (.invokevirtual 256, 3) := by decide +kernel
theorem dX4_readComponent_153 : decode cX4_readComponent 153 = .ok (.invokevirtual 223, 3) := by decide +kernel
theorem dX4_readComponent_156 : decode cX4_readComponent 156 = .ok (.ireturn, 1) := by decide +kernel
theorem dX4_checkInferred_0 : decode cX4_checkInferred 0 = .ok (.aload_n 0, 1) := by decide +kernel
theorem dX4_checkInferred_1 : decode cX4_checkInferred 1 = .ok (.getfield 41, 3) := by decide +kernel
theorem dX4_checkInferred_4 : decode cX4_checkInferred 4 = .ok (.istore_n 3, 1) := by decide +kernel
theorem dX4_checkInferred_5 : decode cX4_checkInferred 5 = .ok (.aload_n 0, 1) := by decide +kernel
theorem dX4_checkInferred_6 : decode cX4_checkInferred 6 = .ok (.iload_n 2, 1) := by decide +kernel
theorem dX4_checkInferred_7 : decode cX4_checkInferred 7 = .ok (.invokevirtual 83, 3) := by decide +kernel
theorem dX4_checkInferred_10 : decode cX4_checkInferred 10 = .ok (.istore 4, 2) := by decide +kernel
theorem dX4_checkInferred_12 : decode cX4_checkInferred 12 = .ok (.iload 4, 2) := by decide +kernel
theorem dX4_checkInferred_14 : decode cX4_checkInferred 14 = .ok (.iconst (-1), 1) := by decide +kernel
theorem dX4_checkInferred_15 : decode cX4_checkInferred 15 = .ok (.if_icmp .ne 5, 3) := by decide +kernel
theorem dX4_checkInferred_18 : decode cX4_checkInferred 18 = .ok (.iconst (-1), 1) := by decide +kernel
theorem dX4_checkInferred_19 : decode cX4_checkInferred 19 = .ok (.ireturn, 1) := by decide +kernel
theorem dX4_checkInferred_20 : decode cX4_checkInferred 20 = .ok (.aload_n 0, 1) := by decide +kernel
theorem dX4_checkInferred_21 : decode cX4_checkInferred 21 = .ok (.getfield 25, 3) := by decide +kernel
theorem dX4_checkInferred_24 : decode cX4_checkInferred 24 = .ok (.getfield 163, 3) := by decide +kernel
theorem dX4_checkInferred_27 : decode cX4_checkInferred 27 = .ok (.istore 5, 2) := by decide +kernel
theorem dX4_checkInferred_29 : decode cX4_checkInferred 29 = .ok (.aload_n 0, 1) := by decide +kernel
theorem dX4_checkInferred_30 : decode cX4_checkInferred 30 = .ok (.getfield 29, 3) := by decide +kernel
theorem dX4_checkInferred_33 : decode cX4_checkInferred 33 = .ok (.getfield 166, 3) := by decide +kernel
theorem dX4_checkInferred_36 : decode cX4_checkInferred 36 = .ok (.istore 6, 2) := by decide +kernel
theorem dX4_checkInferred_38 : decode cX4_checkInferred 38 = .ok (.aload_n 0, 1) := by decide +kernel
theorem dX4_checkInferred_39 : decode cX4_checkInferred 39 = .ok (.getfield 33, 3) := by decide +kernel
theorem dX4_checkInferred_42 : decode cX4_checkInferred 42 = .ok (.invokevirtual 167, 3) := by decide +kernel
theorem dX4_checkInferred_45 : decode cX4_checkInferred 45 = .ok (.aload_n 0, 1) := by decide +kernel
theorem dX4_checkInferred_46 : decode cX4_checkInferred 46 = .ok (.getfield 33, 3) := by decide +kernel
theorem dX4_checkInferred_49 : decode cX4_checkInferred 49 = .ok (.iload_n 1, 1) := by decide +kernel
theorem dX4_checkInferred_50 : decode cX4_checkInferred 50 = .ok (.iload_n 2, 1) := by decide +kernel
theorem dX4_checkInferred_51 : decode cX4_checkInferred 51 = .ok (.invokevirtual 169, 3) := by decide +kernel
theorem dX4_checkInferred_54 : decode cX4_checkInferred 54 = .ok (.aload_n 0, 1) := by decide +kernel
theorem dX4_checkInferred_55 : decode cX4_checkInferred 55 = .ok (.getfield 33, 3) := by decide +kernel
theorem dX4_checkInferred_58 : decode cX4_checkInferred 58 = .ok (.invokevirtual 173, 3) := by decide +kernel
theorem dX4_checkInferred_61 : decode cX4_checkInferred 61 = .ok (.istore 7, 2) := by decide +kernel
theorem dX4_checkInferred_63 : decode cX4_checkInferred 63 = .ok (.iload 7, 2) := by decide +kernel
theorem dX4_checkInferred_65 : decode cX4_checkInferred 65 = .ok (.iconst (-1), 1) := by decide +kernel
theorem dX4_checkInferred_66 : decode cX4_checkInferred 66 = .ok (.if_icmp .eq 23, 3) := by decide +kernel
theorem dX4_checkInferred_69 : decode cX4_checkInferred 69 = .ok (.aload_n 0, 1) := by decide +kernel
theorem dX4_checkInferred_70 : decode cX4_checkInferred 70 = .ok (.getfield 25, 3) := by decide +kernel
theorem dX4_checkInferred_73 : decode cX4_checkInferred 73 = .ok (.aload_n 0, 1) := by decide +kernel
theorem dX4_checkInferred_74 : decode cX4_checkInferred 74 = .ok (.getfield 176, 3) := by decide +kernel
theorem dX4_checkInferred_77 : decode cX4_checkInferred 77 = .ok (.iload 7, 2) := by decide +kernel
theorem dX4_checkInferred_79 : decode cX4_checkInferred 79 = .ok (.invokevirtual 179, 3) := by decide +kernel
theorem dX4_checkInferred_82 : decode cX4_checkInferred 82 = .ok (.ifCond .eq 7, 3) := by decide +kernel
theorem dX4_checkInferred_85 : decode cX4_checkInferred 85 = .ok (.iconst 1, 1) := by decide +kernel
theorem dX4_checkInferred_86 : decode cX4_checkInferred 86 = .ok (.goto 4, 3) := by decide +kernel
theorem dX4_checkInferred_89 : decode cX4_checkInferred 89 = .ok (.iconst 0, 1) := by decide +kernel
theorem dX4_checkInferred_90 : decode cX4_checkInferred 90 = .ok (.istore 8, 2) := by decide +kernel
theorem dX4_checkInferred_92 : decode cX4_checkInferred 92 = .ok (.aload_n 0, 1) := by decide +kernel
theorem dX4_checkInferred_93 : decode cX4_checkInferred 93 = .ok (.getfield 25, 3) := by decide +kernel
theorem dX4_checkInferred_96 : decode cX4_checkInferred 96 = .ok (.iload 5, 2) := by decide +kernel
theorem dX4_checkInferred_98 : decode cX4_checkInferred 98 = .ok (.putfield 163, 3) := by decide +kernel
theorem dX4_checkInferred_101 : decode cX4_checkInferred 101 = .ok (.aload_n 0, 1) := by decide +kernel
theorem dX4_checkInferred_102 : decode cX4_checkInferred 102 = .ok (.getfield 29, 3) := by decide +kernel
theorem dX4_checkInferred_105 : decode cX4_checkInferred 105 = .ok (.iload 6, 2) := by decide +kernel
theorem dX4_checkInferred_107 : decode cX4_checkInferred 107 = .ok (.invokevirtual 55, 3) := by decide +kernel
theorem dX4_checkInferred_110 : decode cX4_checkInferred 110 = .ok (.iload 8, 2) := by decide +kernel
theorem dX4_checkInferred_112 : decode cX4_checkInferred 112 = .ok (.ifCond .eq 8, 3) := by decide +kernel
theorem dX4_checkInferred_115 : decode cX4_checkInferred 115 = .ok (.iload 4, 2) := by decide +kernel
theorem dX4_checkInferred_117 : decode cX4_checkInferred 117 = .ok (.goto 8, 3) := by decide +kernel
theorem dX4_checkInferred_120 : decode cX4_checkInferred 120 = .ok (.aload_n 0, 1) := by decide +kernel
theorem dX4_checkInferred_121 : decode cX4_checkInferred 121 = .ok (.iload_n 3, 1) := by decide +kernel
theorem dX4_checkInferred_122 : decode cX4_checkInferred 122 = .ok (.invokevirtual 124, 3) := by decide +kernel
theorem dX4_checkInferred_125 : decode cX4_checkInferred 125 = .ok (.ireturn, 1) := by decide +kernel
set_option maxHeartbeats 4000000 in
set_option maxRecDepth 20000 in
theorem b_Reader_readType_151 {p : Program} {l : Launch} {e : Env} {s : State} {m : MethodId} {args : Array Value} {below : List Frame} {meth : Method} {c : Code} {D : va_G} {cy : Nat → ClassId} {ad : Nat → Nat} {q : Int32 × CS}  {r_readType : Int32 → CS → Option (Int32 × CS)} {r_readBinder : Int32 → Int32 → Int32 → CS → Option (Int32 × CS)} {r_checkTerm : Int32 → Int32 → CS → Option (Int32 × CS)} {r_readPair : Int32 → Int32 → CS → Option (Int32 × CS)} {r_readFunction : Int32 → Int32 → CS → Option (Int32 × CS)} {r_inferTerm : Int32 → CS → Option (Int32 × CS)} {r_readAnnotated : Int32 → CS → Option (Int32 × CS)} {r_readApplied : Int32 → CS → Option (Int32 × CS)} {r_readComponent : Int32 → CS → Option (Int32 × CS)} {r_checkInferred : Int32 → Int32 → CS → Option (Int32 × CS)} {d : Nat} (C : vC p s m args meth c cX4_readType 7 (some .int) RX4 D (cyT cy)) (hA : adOK ad) (hr_readType : ∀ (z1 : Int32) (σ : CS) (q : Int32 × CS), r_readType z1 σ = some q → MV l D (cyT cy) (inC ad) yX4_readType cX4_readType 7 (some .int) (344 + d) (13700 + 40 * d) 0 0 [.ref (ad 43), .int z1] (wc cy ad σ) (some (.int q.1)) (wc cy ad q.2)) (hr_readBinder : ∀ (z1 : Int32) (z2 : Int32) (z3 : Int32) (σ : CS) (q : Int32 × CS), r_readBinder z1 z2 z3 σ = some q → MV l D (cyT cy) (inC ad) yX4_readBinder cX4_readBinder 7 (some .int) (344 + d) (13700 + 40 * d) 0 0 [.ref (ad 43), .int z1, .int z2, .int z3] (wc cy ad σ) (some (.int q.1)) (wc cy ad q.2)) (hr_checkTerm : ∀ (z1 : Int32) (z2 : Int32) (σ : CS) (q : Int32 × CS), r_checkTerm z1 z2 σ = some q → MV l D (cyT cy) (inC ad) yX4_checkTerm cX4_checkTerm 6 (some .int) (344 + d) (13700 + 40 * d) 0 0 [.ref (ad 43), .int z1, .int z2] (wc cy ad σ) (some (.int q.1)) (wc cy ad q.2)) (hr_readPair : ∀ (z1 : Int32) (z2 : Int32) (σ : CS) (q : Int32 × CS), r_readPair z1 z2 σ = some q → MV l D (cyT cy) (inC ad) yX4_readPair cX4_readPair 7 (some .int) (344 + d) (13700 + 40 * d) 0 0 [.ref (ad 43), .int z1, .int z2] (wc cy ad σ) (some (.int q.1)) (wc cy ad q.2)) (hr_readFunction : ∀ (z1 : Int32) (z2 : Int32) (σ : CS) (q : Int32 × CS), r_readFunction z1 z2 σ = some q → MV l D (cyT cy) (inC ad) yX4_readFunction cX4_readFunction 6 (some .int) (344 + d) (13700 + 40 * d) 0 0 [.ref (ad 43), .int z1, .int z2] (wc cy ad σ) (some (.int q.1)) (wc cy ad q.2)) (hr_inferTerm : ∀ (z1 : Int32) (σ : CS) (q : Int32 × CS), r_inferTerm z1 σ = some q → MV l D (cyT cy) (inC ad) yX4_inferTerm cX4_inferTerm 7 (some .int) (344 + d) (13700 + 40 * d) 0 0 [.ref (ad 43), .int z1] (wc cy ad σ) (some (.int q.1)) (wc cy ad q.2)) (hr_readAnnotated : ∀ (z1 : Int32) (σ : CS) (q : Int32 × CS), r_readAnnotated z1 σ = some q → MV l D (cyT cy) (inC ad) yX4_readAnnotated cX4_readAnnotated 5 (some .boolean) (344 + d) (13700 + 40 * d) 0 0 [.ref (ad 43), .int z1] (wc cy ad σ) (some (.int q.1)) (wc cy ad q.2)) (hr_readApplied : ∀ (z1 : Int32) (σ : CS) (q : Int32 × CS), r_readApplied z1 σ = some q → MV l D (cyT cy) (inC ad) yX4_readApplied cX4_readApplied 8 (some .boolean) (344 + d) (13700 + 40 * d) 0 0 [.ref (ad 43), .int z1] (wc cy ad σ) (some (.int q.1)) (wc cy ad q.2)) (hr_readComponent : ∀ (z1 : Int32) (σ : CS) (q : Int32 × CS), r_readComponent z1 σ = some q → MV l D (cyT cy) (inC ad) yX4_readComponent cX4_readComponent 8 (some .boolean) (344 + d) (13700 + 40 * d) 0 0 [.ref (ad 43), .int z1] (wc cy ad σ) (some (.int q.1)) (wc cy ad q.2)) (hr_checkInferred : ∀ (z1 : Int32) (z2 : Int32) (σ : CS) (q : Int32 × CS), r_checkInferred z1 z2 σ = some q → MV l D (cyT cy) (inC ad) yX4_checkInferred cX4_checkInferred 9 (some .int) (344 + d) (13700 + 40 * d) 0 0 [.ref (ad 43), .int z1, .int z2] (wc cy ad σ) (some (.int q.1)) (wc cy ad q.2)) : ∀ (s0 : Int32) (σ : CS), B_Reader_readType_151 r_readType r_readBinder r_checkTerm r_readPair r_readFunction r_inferTerm r_readAnnotated r_readApplied r_readComponent r_checkInferred s0 σ = some q → V p l e { frames := 344 + (d + 1), cells := 0, slots := 0, locals := 13700 + 40 * (d + 1) } s m args below meth c D (inC ad) 7 (MQ below (vQ D (inC ad) (some (.int q.1)) (wc cy ad q.2)) args s 0 0 (inC ad)) 0 0 (wc cy ad σ) 151 [(0, .ref (ad 43))] [.int s0] := by
  intro s0 σ h
  rw [B_Reader_readType_151] at h
  obtain rfl := Option.some.inj h
  exact v_iret C dX4_readType_151
set_option maxHeartbeats 4000000 in
set_option maxRecDepth 20000 in
theorem b_Reader_readType_59 {p : Program} {l : Launch} {e : Env} {s : State} {m : MethodId} {args : Array Value} {below : List Frame} {meth : Method} {c : Code} {D : va_G} {cy : Nat → ClassId} {ad : Nat → Nat} {q : Int32 × CS}  {r_readType : Int32 → CS → Option (Int32 × CS)} {r_readBinder : Int32 → Int32 → Int32 → CS → Option (Int32 × CS)} {r_checkTerm : Int32 → Int32 → CS → Option (Int32 × CS)} {r_readPair : Int32 → Int32 → CS → Option (Int32 × CS)} {r_readFunction : Int32 → Int32 → CS → Option (Int32 × CS)} {r_inferTerm : Int32 → CS → Option (Int32 × CS)} {r_readAnnotated : Int32 → CS → Option (Int32 × CS)} {r_readApplied : Int32 → CS → Option (Int32 × CS)} {r_readComponent : Int32 → CS → Option (Int32 × CS)} {r_checkInferred : Int32 → Int32 → CS → Option (Int32 × CS)} {d : Nat} (C : vC p s m args meth c cX4_readType 7 (some .int) RX4 D (cyT cy)) (hA : adOK ad) (hr_readType : ∀ (z1 : Int32) (σ : CS) (q : Int32 × CS), r_readType z1 σ = some q → MV l D (cyT cy) (inC ad) yX4_readType cX4_readType 7 (some .int) (344 + d) (13700 + 40 * d) 0 0 [.ref (ad 43), .int z1] (wc cy ad σ) (some (.int q.1)) (wc cy ad q.2)) (hr_readBinder : ∀ (z1 : Int32) (z2 : Int32) (z3 : Int32) (σ : CS) (q : Int32 × CS), r_readBinder z1 z2 z3 σ = some q → MV l D (cyT cy) (inC ad) yX4_readBinder cX4_readBinder 7 (some .int) (344 + d) (13700 + 40 * d) 0 0 [.ref (ad 43), .int z1, .int z2, .int z3] (wc cy ad σ) (some (.int q.1)) (wc cy ad q.2)) (hr_checkTerm : ∀ (z1 : Int32) (z2 : Int32) (σ : CS) (q : Int32 × CS), r_checkTerm z1 z2 σ = some q → MV l D (cyT cy) (inC ad) yX4_checkTerm cX4_checkTerm 6 (some .int) (344 + d) (13700 + 40 * d) 0 0 [.ref (ad 43), .int z1, .int z2] (wc cy ad σ) (some (.int q.1)) (wc cy ad q.2)) (hr_readPair : ∀ (z1 : Int32) (z2 : Int32) (σ : CS) (q : Int32 × CS), r_readPair z1 z2 σ = some q → MV l D (cyT cy) (inC ad) yX4_readPair cX4_readPair 7 (some .int) (344 + d) (13700 + 40 * d) 0 0 [.ref (ad 43), .int z1, .int z2] (wc cy ad σ) (some (.int q.1)) (wc cy ad q.2)) (hr_readFunction : ∀ (z1 : Int32) (z2 : Int32) (σ : CS) (q : Int32 × CS), r_readFunction z1 z2 σ = some q → MV l D (cyT cy) (inC ad) yX4_readFunction cX4_readFunction 6 (some .int) (344 + d) (13700 + 40 * d) 0 0 [.ref (ad 43), .int z1, .int z2] (wc cy ad σ) (some (.int q.1)) (wc cy ad q.2)) (hr_inferTerm : ∀ (z1 : Int32) (σ : CS) (q : Int32 × CS), r_inferTerm z1 σ = some q → MV l D (cyT cy) (inC ad) yX4_inferTerm cX4_inferTerm 7 (some .int) (344 + d) (13700 + 40 * d) 0 0 [.ref (ad 43), .int z1] (wc cy ad σ) (some (.int q.1)) (wc cy ad q.2)) (hr_readAnnotated : ∀ (z1 : Int32) (σ : CS) (q : Int32 × CS), r_readAnnotated z1 σ = some q → MV l D (cyT cy) (inC ad) yX4_readAnnotated cX4_readAnnotated 5 (some .boolean) (344 + d) (13700 + 40 * d) 0 0 [.ref (ad 43), .int z1] (wc cy ad σ) (some (.int q.1)) (wc cy ad q.2)) (hr_readApplied : ∀ (z1 : Int32) (σ : CS) (q : Int32 × CS), r_readApplied z1 σ = some q → MV l D (cyT cy) (inC ad) yX4_readApplied cX4_readApplied 8 (some .boolean) (344 + d) (13700 + 40 * d) 0 0 [.ref (ad 43), .int z1] (wc cy ad σ) (some (.int q.1)) (wc cy ad q.2)) (hr_readComponent : ∀ (z1 : Int32) (σ : CS) (q : Int32 × CS), r_readComponent z1 σ = some q → MV l D (cyT cy) (inC ad) yX4_readComponent cX4_readComponent 8 (some .boolean) (344 + d) (13700 + 40 * d) 0 0 [.ref (ad 43), .int z1] (wc cy ad σ) (some (.int q.1)) (wc cy ad q.2)) (hr_checkInferred : ∀ (z1 : Int32) (z2 : Int32) (σ : CS) (q : Int32 × CS), r_checkInferred z1 z2 σ = some q → MV l D (cyT cy) (inC ad) yX4_checkInferred cX4_checkInferred 9 (some .int) (344 + d) (13700 + 40 * d) 0 0 [.ref (ad 43), .int z1, .int z2] (wc cy ad σ) (some (.int q.1)) (wc cy ad q.2)) : ∀ (x1 : Int32) (x2 : Int32) (x3 : Int32) (σ : CS), B_Reader_readType_59 r_readType r_readBinder r_checkTerm r_readPair r_readFunction r_inferTerm r_readAnnotated r_readApplied r_readComponent r_checkInferred x1 x2 x3 σ = some q → V p l e { frames := 344 + (d + 1), cells := 0, slots := 0, locals := 13700 + 40 * (d + 1) } s m args below meth c D (inC ad) 7 (MQ below (vQ D (inC ad) (some (.int q.1)) (wc cy ad q.2)) args s 0 0 (inC ad)) 0 0 (wc cy ad σ) 59 [(0, .ref (ad 43)), (1, .int x1), (2, .int x2), (3, .int x3)] [] := by
  intro x1 x2 x3 σ h
  rw [B_Reader_readType_59] at h
  refine v_aload_n C 0 dX4_readType_59 rfl rfl ?_
  refine c_getI C fl_4_41 rfl (okS _ 43 (by decide) rfl) dX4_readType_60 ?_
  refine v_istore C [(4, .int (σ.1 43 7)), (0, .ref (ad 43)), (1, .int x1), (2, .int x2), (3, .int x3)] dX4_readType_63 (by decide) rfl ?_
  refine v_aload_n C 1 dX4_readType_65 rfl rfl ?_
  refine v_dup C dX4_readType_66 rfl ?_
  refine c_getI C fl_4_41 rfl (okS _ 43 (by decide) rfl) dX4_readType_67 ?_
  refine v_iconst C 1 dX4_readType_70 (by decide) ?_
  refine v_iadd C dX4_readType_71 ?_
  refine c_putI C fl_4_41 fw_4_7 rfl (by decide) (okS _ 43 (by decide) rfl) dX4_readType_72 ?_
  refine v_iload_n C 4 dX4_readType_75 rfl rfl ?_
  refine v_if_eq C 88 dX4_readType_76 (by decide) (fun c1 => ?_) (fun c1 => ?_)
  · rw [if_pos c1] at h
    refine v_aload_n C 1 dX4_readType_88 rfl rfl ?_
    refine c_getS C 34 fl_4_25 rfl rfl (by decide) (okS _ 43 (by decide) rfl) dX4_readType_89 ?_
    refine v_iload_n C 3 dX4_readType_92 rfl rfl ?_
    obtain ⟨q1, hq1, h⟩ := bd_of h
    refine c_call C [.int x2] [] (c_Signs_indexTypeOf hA _ _ hq1) hY_Signs_indexTypeOf rfl (by decide) (okS _ 34 (by decide) rfl) ml_4_139 ⟨(by omega : 0 + 1 ≤ 344 + (d + 1)), (by omega : 8 + (3 + 11) + 0 ≤ 13700 + 40 * (d + 1))⟩ ⟨Nat.zero_le _, Nat.zero_le _⟩ rfl rfl (Nat.le_of_ble_eq_true rfl) dX4_readType_93 (wc_D hA cy _) ?_
    refine v_istore C [(5, .int q1.1), (4, .int (σ.1 43 7)), (0, .ref (ad 43)), (1, .int x1), (2, .int x2), (3, .int x3)] dX4_readType_96 (by decide) rfl ?_
    refine v_iload C 0 dX4_readType_98 rfl ?_
    refine v_iconst C (-1) dX4_readType_100 (by decide) ?_
    refine v_icmp_ne C 114 dX4_readType_101 (by decide) (fun c2 => ?_) (fun c2 => ?_)
    · rw [if_neg c2] at h
      refine v_aload_n C 2 dX4_readType_114 rfl rfl ?_
      refine v_aload_n C 2 dX4_readType_115 rfl rfl ?_
      refine c_getS C 38 fl_4_29 rfl rfl (by decide) (okS _ 43 (by decide) rfl) dX4_readType_116 ?_
      refine v_iload C 0 dX4_readType_119 rfl ?_
      refine v_iconst C 0 dX4_readType_121 (by decide) ?_
      obtain ⟨q2, hq2, h⟩ := bd_of h
      refine c_call C [.int q1.1, .int 0] [.ref (ad 43)] (c_Values_typeAt hA _ _ _ hq2) hY_Values_typeAt rfl (by decide) (okS _ 38 (by decide) rfl) ml_4_66 ⟨(by omega : 1 + 1 ≤ 344 + (d + 1)), (by omega : 8 + (3 + 11) + 23 ≤ 13700 + 40 * (d + 1))⟩ ⟨Nat.zero_le _, Nat.zero_le _⟩ rfl rfl (Nat.le_of_ble_eq_true rfl) dX4_readType_122 (wc_D hA cy _) ?_
      refine v_iload_n C 3 dX4_readType_125 rfl rfl ?_
      obtain ⟨q3, hq3, h⟩ := bd_of h
      refine c_call C [.int q2.1, .int x1] [] (hr_checkTerm _ _ _ _ hq3) hY_Reader_checkTerm rfl (by decide) (okS _ 43 (by decide) rfl) ml_4_70 ⟨(by omega : (344 + d) + 1 ≤ 344 + (d + 1)), (by omega : 8 + (6 + 11) + (13700 + 40 * d) ≤ 13700 + 40 * (d + 1))⟩ ⟨Nat.zero_le _, Nat.zero_le _⟩ rfl rfl (Nat.le_of_ble_eq_true rfl) dX4_readType_126 (wc_D hA cy _) ?_
      refine v_istore C [(6, .int q3.1), (5, .int q1.1), (4, .int (σ.1 43 7)), (0, .ref (ad 43)), (1, .int x1), (2, .int x2), (3, .int x3)] dX4_readType_129 (by decide) rfl ?_
      refine v_iload C 0 dX4_readType_131 rfl ?_
      refine v_iconst C (-1) dX4_readType_133 (by decide) ?_
      refine v_icmp_ne C 141 dX4_readType_134 (by decide) (fun c3 => ?_) (fun c3 => ?_)
      · rw [if_neg c3] at h
        refine v_aload_n C 3 dX4_readType_141 rfl rfl ?_
        refine v_iload_n C 5 dX4_readType_142 rfl rfl ?_
        refine v_iload C 0 dX4_readType_143 rfl ?_
        refine v_iconst C (-1) dX4_readType_145 (by decide) ?_
        refine v_iload C 2 dX4_readType_146 rfl ?_
        obtain ⟨q4, hq4, h⟩ := bd_of h
        refine c_call C [.int x2, .int q3.1, .int (-1), .int (σ.1 43 7)] [] (c_Reader_join hA _ _ _ _ _ hq4) hY_Reader_join rfl (by decide) (okS _ 43 (by decide) rfl) ml_4_142 ⟨(by omega : 4 + 1 ≤ 344 + (d + 1)), (by omega : 8 + (6 + 11) + 91 ≤ 13700 + 40 * (d + 1))⟩ ⟨Nat.zero_le _, Nat.zero_le _⟩ rfl rfl (Nat.le_of_ble_eq_true rfl) dX4_readType_148 (wc_D hA cy _) ?_
        exact v_sub [3] rfl ((b_Reader_readType_151 C hA hr_readType hr_readBinder hr_checkTerm hr_readPair hr_readFunction hr_inferTerm hr_readAnnotated hr_readApplied hr_readComponent hr_checkInferred) _ _ h)
      · rw [if_pos c3] at h
        refine v_iconst C (-1) dX4_readType_137 (by decide) ?_
        refine v_goto C 151 dX4_readType_138 (by decide) ?_
        exact v_sub [3] rfl ((b_Reader_readType_151 C hA hr_readType hr_readBinder hr_checkTerm hr_readPair hr_readFunction hr_inferTerm hr_readAnnotated hr_readApplied hr_readComponent hr_checkInferred) _ _ h)
    · rw [if_pos c2] at h
      refine v_aload_n C 2 dX4_readType_104 rfl rfl ?_
      refine v_iload_n C 4 dX4_readType_105 rfl rfl ?_
      refine v_iconst C (-1) dX4_readType_106 (by decide) ?_
      refine v_iconst C (-1) dX4_readType_107 (by decide) ?_
      refine v_iload C 1 dX4_readType_108 rfl ?_
      obtain ⟨q5, hq5, h⟩ := bd_of h
      refine c_call C [.int x2, .int (-1), .int (-1), .int (σ.1 43 7)] [] (c_Reader_join hA _ _ _ _ _ hq5) hY_Reader_join rfl (by decide) (okS _ 43 (by decide) rfl) ml_4_142 ⟨(by omega : 4 + 1 ≤ 344 + (d + 1)), (by omega : 8 + (6 + 11) + 91 ≤ 13700 + 40 * (d + 1))⟩ ⟨Nat.zero_le _, Nat.zero_le _⟩ rfl rfl (Nat.le_of_ble_eq_true rfl) dX4_readType_110 (wc_D hA cy _) ?_
      obtain rfl := Option.some.inj h
      exact v_iret C dX4_readType_113
  · rw [if_neg c1] at h
    refine v_aload_n C 1 dX4_readType_79 rfl rfl ?_
    refine v_iload_n C 3 dX4_readType_80 rfl rfl ?_
    refine v_iload C 0 dX4_readType_81 rfl ?_
    refine v_iload_n C 2 dX4_readType_83 rfl rfl ?_
    obtain ⟨q6, hq6, h⟩ := bd_of h
    refine c_call C [.int x2, .int (σ.1 43 7), .int x1] [] (hr_readBinder _ _ _ _ _ hq6) hY_Reader_readBinder rfl (by decide) (okS _ 43 (by decide) rfl) ml_4_136 ⟨(by omega : (344 + d) + 1 ≤ 344 + (d + 1)), (by omega : 8 + (7 + 11) + (13700 + 40 * d) ≤ 13700 + 40 * (d + 1))⟩ ⟨Nat.zero_le _, Nat.zero_le _⟩ rfl rfl (Nat.le_of_ble_eq_true rfl) dX4_readType_84 (wc_D hA cy _) ?_
    obtain rfl := Option.some.inj h
    exact v_iret C dX4_readType_87
set_option maxHeartbeats 4000000 in
set_option maxRecDepth 20000 in
theorem b_Reader_readType_28 {p : Program} {l : Launch} {e : Env} {s : State} {m : MethodId} {args : Array Value} {below : List Frame} {meth : Method} {c : Code} {D : va_G} {cy : Nat → ClassId} {ad : Nat → Nat} {q : Int32 × CS}  {r_readType : Int32 → CS → Option (Int32 × CS)} {r_readBinder : Int32 → Int32 → Int32 → CS → Option (Int32 × CS)} {r_checkTerm : Int32 → Int32 → CS → Option (Int32 × CS)} {r_readPair : Int32 → Int32 → CS → Option (Int32 × CS)} {r_readFunction : Int32 → Int32 → CS → Option (Int32 × CS)} {r_inferTerm : Int32 → CS → Option (Int32 × CS)} {r_readAnnotated : Int32 → CS → Option (Int32 × CS)} {r_readApplied : Int32 → CS → Option (Int32 × CS)} {r_readComponent : Int32 → CS → Option (Int32 × CS)} {r_checkInferred : Int32 → Int32 → CS → Option (Int32 × CS)} {d : Nat} (C : vC p s m args meth c cX4_readType 7 (some .int) RX4 D (cyT cy)) (hA : adOK ad) (hr_readType : ∀ (z1 : Int32) (σ : CS) (q : Int32 × CS), r_readType z1 σ = some q → MV l D (cyT cy) (inC ad) yX4_readType cX4_readType 7 (some .int) (344 + d) (13700 + 40 * d) 0 0 [.ref (ad 43), .int z1] (wc cy ad σ) (some (.int q.1)) (wc cy ad q.2)) (hr_readBinder : ∀ (z1 : Int32) (z2 : Int32) (z3 : Int32) (σ : CS) (q : Int32 × CS), r_readBinder z1 z2 z3 σ = some q → MV l D (cyT cy) (inC ad) yX4_readBinder cX4_readBinder 7 (some .int) (344 + d) (13700 + 40 * d) 0 0 [.ref (ad 43), .int z1, .int z2, .int z3] (wc cy ad σ) (some (.int q.1)) (wc cy ad q.2)) (hr_checkTerm : ∀ (z1 : Int32) (z2 : Int32) (σ : CS) (q : Int32 × CS), r_checkTerm z1 z2 σ = some q → MV l D (cyT cy) (inC ad) yX4_checkTerm cX4_checkTerm 6 (some .int) (344 + d) (13700 + 40 * d) 0 0 [.ref (ad 43), .int z1, .int z2] (wc cy ad σ) (some (.int q.1)) (wc cy ad q.2)) (hr_readPair : ∀ (z1 : Int32) (z2 : Int32) (σ : CS) (q : Int32 × CS), r_readPair z1 z2 σ = some q → MV l D (cyT cy) (inC ad) yX4_readPair cX4_readPair 7 (some .int) (344 + d) (13700 + 40 * d) 0 0 [.ref (ad 43), .int z1, .int z2] (wc cy ad σ) (some (.int q.1)) (wc cy ad q.2)) (hr_readFunction : ∀ (z1 : Int32) (z2 : Int32) (σ : CS) (q : Int32 × CS), r_readFunction z1 z2 σ = some q → MV l D (cyT cy) (inC ad) yX4_readFunction cX4_readFunction 6 (some .int) (344 + d) (13700 + 40 * d) 0 0 [.ref (ad 43), .int z1, .int z2] (wc cy ad σ) (some (.int q.1)) (wc cy ad q.2)) (hr_inferTerm : ∀ (z1 : Int32) (σ : CS) (q : Int32 × CS), r_inferTerm z1 σ = some q → MV l D (cyT cy) (inC ad) yX4_inferTerm cX4_inferTerm 7 (some .int) (344 + d) (13700 + 40 * d) 0 0 [.ref (ad 43), .int z1] (wc cy ad σ) (some (.int q.1)) (wc cy ad q.2)) (hr_readAnnotated : ∀ (z1 : Int32) (σ : CS) (q : Int32 × CS), r_readAnnotated z1 σ = some q → MV l D (cyT cy) (inC ad) yX4_readAnnotated cX4_readAnnotated 5 (some .boolean) (344 + d) (13700 + 40 * d) 0 0 [.ref (ad 43), .int z1] (wc cy ad σ) (some (.int q.1)) (wc cy ad q.2)) (hr_readApplied : ∀ (z1 : Int32) (σ : CS) (q : Int32 × CS), r_readApplied z1 σ = some q → MV l D (cyT cy) (inC ad) yX4_readApplied cX4_readApplied 8 (some .boolean) (344 + d) (13700 + 40 * d) 0 0 [.ref (ad 43), .int z1] (wc cy ad σ) (some (.int q.1)) (wc cy ad q.2)) (hr_readComponent : ∀ (z1 : Int32) (σ : CS) (q : Int32 × CS), r_readComponent z1 σ = some q → MV l D (cyT cy) (inC ad) yX4_readComponent cX4_readComponent 8 (some .boolean) (344 + d) (13700 + 40 * d) 0 0 [.ref (ad 43), .int z1] (wc cy ad σ) (some (.int q.1)) (wc cy ad q.2)) (hr_checkInferred : ∀ (z1 : Int32) (z2 : Int32) (σ : CS) (q : Int32 × CS), r_checkInferred z1 z2 σ = some q → MV l D (cyT cy) (inC ad) yX4_checkInferred cX4_checkInferred 9 (some .int) (344 + d) (13700 + 40 * d) 0 0 [.ref (ad 43), .int z1, .int z2] (wc cy ad σ) (some (.int q.1)) (wc cy ad q.2)) : ∀ (x1 : Int32) (x2 : Int32) (s0 : Int32) (σ : CS), B_Reader_readType_28 r_readType r_readBinder r_checkTerm r_readPair r_readFunction r_inferTerm r_readAnnotated r_readApplied r_readComponent r_checkInferred x1 x2 s0 σ = some q → V p l e { frames := 344 + (d + 1), cells := 0, slots := 0, locals := 13700 + 40 * (d + 1) } s m args below meth c D (inC ad) 7 (MQ below (vQ D (inC ad) (some (.int q.1)) (wc cy ad q.2)) args s 0 0 (inC ad)) 0 0 (wc cy ad σ) 28 [(0, .ref (ad 43)), (1, .int x1), (2, .int x2)] [.int s0] := by
  intro x1 x2 s0 σ h
  rw [B_Reader_readType_28] at h
  refine v_istore_n C [(3, .int s0), (0, .ref (ad 43)), (1, .int x1), (2, .int x2)] dX4_readType_28 rfl (by decide) rfl ?_
  refine v_iload_n C 3 dX4_readType_29 rfl rfl ?_
  refine v_bipush C 49 dX4_readType_30 (by decide) ?_
  refine v_icmp_eq C 59 dX4_readType_32 (by decide) (fun c1 => ?_) (fun c1 => ?_)
  · rw [if_pos c1] at h
    exact v_sub [1, 2, 3, 0] rfl ((b_Reader_readType_59 C hA hr_readType hr_readBinder hr_checkTerm hr_readPair hr_readFunction hr_inferTerm hr_readAnnotated hr_readApplied hr_readComponent hr_checkInferred) _ _ _ _ h)
  · rw [if_neg c1] at h
    refine v_iload_n C 0 dX4_readType_35 rfl rfl ?_
    refine v_if_ne C 59 dX4_readType_36 (by decide) (fun c2 => ?_) (fun c2 => ?_)
    · rw [if_neg c2] at h
      exact v_sub [1, 2, 3, 0] rfl ((b_Reader_readType_59 C hA hr_readType hr_readBinder hr_checkTerm hr_readPair hr_readFunction hr_inferTerm hr_readAnnotated hr_readApplied hr_readComponent hr_checkInferred) _ _ _ _ h)
    · rw [if_pos c2] at h
      refine v_aload_n C 1 dX4_readType_39 rfl rfl ?_
      refine c_getS C 34 fl_4_25 rfl rfl (by decide) (okS _ 43 (by decide) rfl) dX4_readType_40 ?_
      refine v_iload_n C 3 dX4_readType_43 rfl rfl ?_
      obtain ⟨q1, hq1, h⟩ := bd_of h
      refine c_call C [.int x2] [] (c_Signs_isFamily hA _ _ hq1) hY_Signs_isFamily rfl (by decide) (okS _ 34 (by decide) rfl) ml_4_133 ⟨(by omega : 0 + 1 ≤ 344 + (d + 1)), (by omega : 8 + (2 + 11) + 0 ≤ 13700 + 40 * (d + 1))⟩ ⟨Nat.zero_le _, Nat.zero_le _⟩ rfl rfl (Nat.le_of_ble_eq_true rfl) dX4_readType_44 (wc_D hA cy _) ?_
      refine v_if_ne C 59 dX4_readType_47 (by decide) (fun c3 => ?_) (fun c3 => ?_)
      · rw [if_neg c3] at h
        exact v_sub [1, 2, 3, 0] rfl ((b_Reader_readType_59 C hA hr_readType hr_readBinder hr_checkTerm hr_readPair hr_readFunction hr_inferTerm hr_readAnnotated hr_readApplied hr_readComponent hr_checkInferred) _ _ _ _ h)
      · rw [if_pos c3] at h
        refine v_aload_n C 1 dX4_readType_50 rfl rfl ?_
        refine v_aload_n C 1 dX4_readType_51 rfl rfl ?_
        refine c_getI C fl_4_41 rfl (okS _ 43 (by decide) rfl) dX4_readType_52 ?_
        obtain ⟨q2, hq2, h⟩ := bd_of h
        refine c_call C [.int (q1.2.1 43 7)] [] (c_Reader_refuse hA _ _ hq2) hY_Reader_refuse rfl (by decide) (okS _ 43 (by decide) rfl) ml_4_124 ⟨(by omega : 0 + 1 ≤ 344 + (d + 1)), (by omega : 8 + (2 + 11) + 0 ≤ 13700 + 40 * (d + 1))⟩ ⟨Nat.zero_le _, Nat.zero_le _⟩ rfl rfl (Nat.le_of_ble_eq_true rfl) dX4_readType_55 (wc_D hA cy _) ?_
        obtain rfl := Option.some.inj h
        exact v_iret C dX4_readType_58
set_option maxHeartbeats 4000000 in
set_option maxRecDepth 20000 in
theorem b_Reader_readType_27 {p : Program} {l : Launch} {e : Env} {s : State} {m : MethodId} {args : Array Value} {below : List Frame} {meth : Method} {c : Code} {D : va_G} {cy : Nat → ClassId} {ad : Nat → Nat} {q : Int32 × CS}  {r_readType : Int32 → CS → Option (Int32 × CS)} {r_readBinder : Int32 → Int32 → Int32 → CS → Option (Int32 × CS)} {r_checkTerm : Int32 → Int32 → CS → Option (Int32 × CS)} {r_readPair : Int32 → Int32 → CS → Option (Int32 × CS)} {r_readFunction : Int32 → Int32 → CS → Option (Int32 × CS)} {r_inferTerm : Int32 → CS → Option (Int32 × CS)} {r_readAnnotated : Int32 → CS → Option (Int32 × CS)} {r_readApplied : Int32 → CS → Option (Int32 × CS)} {r_readComponent : Int32 → CS → Option (Int32 × CS)} {r_checkInferred : Int32 → Int32 → CS → Option (Int32 × CS)} {d : Nat} (C : vC p s m args meth c cX4_readType 7 (some .int) RX4 D (cyT cy)) (hA : adOK ad) (hr_readType : ∀ (z1 : Int32) (σ : CS) (q : Int32 × CS), r_readType z1 σ = some q → MV l D (cyT cy) (inC ad) yX4_readType cX4_readType 7 (some .int) (344 + d) (13700 + 40 * d) 0 0 [.ref (ad 43), .int z1] (wc cy ad σ) (some (.int q.1)) (wc cy ad q.2)) (hr_readBinder : ∀ (z1 : Int32) (z2 : Int32) (z3 : Int32) (σ : CS) (q : Int32 × CS), r_readBinder z1 z2 z3 σ = some q → MV l D (cyT cy) (inC ad) yX4_readBinder cX4_readBinder 7 (some .int) (344 + d) (13700 + 40 * d) 0 0 [.ref (ad 43), .int z1, .int z2, .int z3] (wc cy ad σ) (some (.int q.1)) (wc cy ad q.2)) (hr_checkTerm : ∀ (z1 : Int32) (z2 : Int32) (σ : CS) (q : Int32 × CS), r_checkTerm z1 z2 σ = some q → MV l D (cyT cy) (inC ad) yX4_checkTerm cX4_checkTerm 6 (some .int) (344 + d) (13700 + 40 * d) 0 0 [.ref (ad 43), .int z1, .int z2] (wc cy ad σ) (some (.int q.1)) (wc cy ad q.2)) (hr_readPair : ∀ (z1 : Int32) (z2 : Int32) (σ : CS) (q : Int32 × CS), r_readPair z1 z2 σ = some q → MV l D (cyT cy) (inC ad) yX4_readPair cX4_readPair 7 (some .int) (344 + d) (13700 + 40 * d) 0 0 [.ref (ad 43), .int z1, .int z2] (wc cy ad σ) (some (.int q.1)) (wc cy ad q.2)) (hr_readFunction : ∀ (z1 : Int32) (z2 : Int32) (σ : CS) (q : Int32 × CS), r_readFunction z1 z2 σ = some q → MV l D (cyT cy) (inC ad) yX4_readFunction cX4_readFunction 6 (some .int) (344 + d) (13700 + 40 * d) 0 0 [.ref (ad 43), .int z1, .int z2] (wc cy ad σ) (some (.int q.1)) (wc cy ad q.2)) (hr_inferTerm : ∀ (z1 : Int32) (σ : CS) (q : Int32 × CS), r_inferTerm z1 σ = some q → MV l D (cyT cy) (inC ad) yX4_inferTerm cX4_inferTerm 7 (some .int) (344 + d) (13700 + 40 * d) 0 0 [.ref (ad 43), .int z1] (wc cy ad σ) (some (.int q.1)) (wc cy ad q.2)) (hr_readAnnotated : ∀ (z1 : Int32) (σ : CS) (q : Int32 × CS), r_readAnnotated z1 σ = some q → MV l D (cyT cy) (inC ad) yX4_readAnnotated cX4_readAnnotated 5 (some .boolean) (344 + d) (13700 + 40 * d) 0 0 [.ref (ad 43), .int z1] (wc cy ad σ) (some (.int q.1)) (wc cy ad q.2)) (hr_readApplied : ∀ (z1 : Int32) (σ : CS) (q : Int32 × CS), r_readApplied z1 σ = some q → MV l D (cyT cy) (inC ad) yX4_readApplied cX4_readApplied 8 (some .boolean) (344 + d) (13700 + 40 * d) 0 0 [.ref (ad 43), .int z1] (wc cy ad σ) (some (.int q.1)) (wc cy ad q.2)) (hr_readComponent : ∀ (z1 : Int32) (σ : CS) (q : Int32 × CS), r_readComponent z1 σ = some q → MV l D (cyT cy) (inC ad) yX4_readComponent cX4_readComponent 8 (some .boolean) (344 + d) (13700 + 40 * d) 0 0 [.ref (ad 43), .int z1] (wc cy ad σ) (some (.int q.1)) (wc cy ad q.2)) (hr_checkInferred : ∀ (z1 : Int32) (z2 : Int32) (σ : CS) (q : Int32 × CS), r_checkInferred z1 z2 σ = some q → MV l D (cyT cy) (inC ad) yX4_checkInferred cX4_checkInferred 9 (some .int) (344 + d) (13700 + 40 * d) 0 0 [.ref (ad 43), .int z1, .int z2] (wc cy ad σ) (some (.int q.1)) (wc cy ad q.2)) {k28 : Int32 → Int32 → Int32 → CS → Option (Int32 × CS)} (hk28 : ∀ (x1 : Int32) (x2 : Int32) (s0 : Int32) (σ : CS), k28 x1 x2 s0 σ = some q → V p l e { frames := 344 + (d + 1), cells := 0, slots := 0, locals := 13700 + 40 * (d + 1) } s m args below meth c D (inC ad) 7 (MQ below (vQ D (inC ad) (some (.int q.1)) (wc cy ad q.2)) args s 0 0 (inC ad)) 0 0 (wc cy ad σ) 28 [(0, .ref (ad 43)), (1, .int x1), (2, .int x2)] [.int s0]) : ∀ (x1 : Int32) (x2 : Int32) (σ : CS), B_Reader_readType_27 r_readType r_readBinder r_checkTerm r_readPair r_readFunction r_inferTerm r_readAnnotated r_readApplied r_readComponent r_checkInferred k28 x1 x2 σ = some q → V p l e { frames := 344 + (d + 1), cells := 0, slots := 0, locals := 13700 + 40 * (d + 1) } s m args below meth c D (inC ad) 7 (MQ below (vQ D (inC ad) (some (.int q.1)) (wc cy ad q.2)) args s 0 0 (inC ad)) 0 0 (wc cy ad σ) 27 [(0, .ref (ad 43)), (1, .int x1), (2, .int x2)] [] := by
  intro x1 x2 σ h
  rw [B_Reader_readType_27] at h
  refine v_iconst C 0 dX4_readType_27 (by decide) ?_
  exact v_sub [0, 1, 2] rfl (hk28 _ _ _ _ h)
set_option maxHeartbeats 4000000 in
set_option maxRecDepth 20000 in
theorem b_Reader_readType_17 {p : Program} {l : Launch} {e : Env} {s : State} {m : MethodId} {args : Array Value} {below : List Frame} {meth : Method} {c : Code} {D : va_G} {cy : Nat → ClassId} {ad : Nat → Nat} {q : Int32 × CS}  {r_readType : Int32 → CS → Option (Int32 × CS)} {r_readBinder : Int32 → Int32 → Int32 → CS → Option (Int32 × CS)} {r_checkTerm : Int32 → Int32 → CS → Option (Int32 × CS)} {r_readPair : Int32 → Int32 → CS → Option (Int32 × CS)} {r_readFunction : Int32 → Int32 → CS → Option (Int32 × CS)} {r_inferTerm : Int32 → CS → Option (Int32 × CS)} {r_readAnnotated : Int32 → CS → Option (Int32 × CS)} {r_readApplied : Int32 → CS → Option (Int32 × CS)} {r_readComponent : Int32 → CS → Option (Int32 × CS)} {r_checkInferred : Int32 → Int32 → CS → Option (Int32 × CS)} {d : Nat} (C : vC p s m args meth c cX4_readType 7 (some .int) RX4 D (cyT cy)) (hA : adOK ad) (hr_readType : ∀ (z1 : Int32) (σ : CS) (q : Int32 × CS), r_readType z1 σ = some q → MV l D (cyT cy) (inC ad) yX4_readType cX4_readType 7 (some .int) (344 + d) (13700 + 40 * d) 0 0 [.ref (ad 43), .int z1] (wc cy ad σ) (some (.int q.1)) (wc cy ad q.2)) (hr_readBinder : ∀ (z1 : Int32) (z2 : Int32) (z3 : Int32) (σ : CS) (q : Int32 × CS), r_readBinder z1 z2 z3 σ = some q → MV l D (cyT cy) (inC ad) yX4_readBinder cX4_readBinder 7 (some .int) (344 + d) (13700 + 40 * d) 0 0 [.ref (ad 43), .int z1, .int z2, .int z3] (wc cy ad σ) (some (.int q.1)) (wc cy ad q.2)) (hr_checkTerm : ∀ (z1 : Int32) (z2 : Int32) (σ : CS) (q : Int32 × CS), r_checkTerm z1 z2 σ = some q → MV l D (cyT cy) (inC ad) yX4_checkTerm cX4_checkTerm 6 (some .int) (344 + d) (13700 + 40 * d) 0 0 [.ref (ad 43), .int z1, .int z2] (wc cy ad σ) (some (.int q.1)) (wc cy ad q.2)) (hr_readPair : ∀ (z1 : Int32) (z2 : Int32) (σ : CS) (q : Int32 × CS), r_readPair z1 z2 σ = some q → MV l D (cyT cy) (inC ad) yX4_readPair cX4_readPair 7 (some .int) (344 + d) (13700 + 40 * d) 0 0 [.ref (ad 43), .int z1, .int z2] (wc cy ad σ) (some (.int q.1)) (wc cy ad q.2)) (hr_readFunction : ∀ (z1 : Int32) (z2 : Int32) (σ : CS) (q : Int32 × CS), r_readFunction z1 z2 σ = some q → MV l D (cyT cy) (inC ad) yX4_readFunction cX4_readFunction 6 (some .int) (344 + d) (13700 + 40 * d) 0 0 [.ref (ad 43), .int z1, .int z2] (wc cy ad σ) (some (.int q.1)) (wc cy ad q.2)) (hr_inferTerm : ∀ (z1 : Int32) (σ : CS) (q : Int32 × CS), r_inferTerm z1 σ = some q → MV l D (cyT cy) (inC ad) yX4_inferTerm cX4_inferTerm 7 (some .int) (344 + d) (13700 + 40 * d) 0 0 [.ref (ad 43), .int z1] (wc cy ad σ) (some (.int q.1)) (wc cy ad q.2)) (hr_readAnnotated : ∀ (z1 : Int32) (σ : CS) (q : Int32 × CS), r_readAnnotated z1 σ = some q → MV l D (cyT cy) (inC ad) yX4_readAnnotated cX4_readAnnotated 5 (some .boolean) (344 + d) (13700 + 40 * d) 0 0 [.ref (ad 43), .int z1] (wc cy ad σ) (some (.int q.1)) (wc cy ad q.2)) (hr_readApplied : ∀ (z1 : Int32) (σ : CS) (q : Int32 × CS), r_readApplied z1 σ = some q → MV l D (cyT cy) (inC ad) yX4_readApplied cX4_readApplied 8 (some .boolean) (344 + d) (13700 + 40 * d) 0 0 [.ref (ad 43), .int z1] (wc cy ad σ) (some (.int q.1)) (wc cy ad q.2)) (hr_readComponent : ∀ (z1 : Int32) (σ : CS) (q : Int32 × CS), r_readComponent z1 σ = some q → MV l D (cyT cy) (inC ad) yX4_readComponent cX4_readComponent 8 (some .boolean) (344 + d) (13700 + 40 * d) 0 0 [.ref (ad 43), .int z1] (wc cy ad σ) (some (.int q.1)) (wc cy ad q.2)) (hr_checkInferred : ∀ (z1 : Int32) (z2 : Int32) (σ : CS) (q : Int32 × CS), r_checkInferred z1 z2 σ = some q → MV l D (cyT cy) (inC ad) yX4_checkInferred cX4_checkInferred 9 (some .int) (344 + d) (13700 + 40 * d) 0 0 [.ref (ad 43), .int z1, .int z2] (wc cy ad σ) (some (.int q.1)) (wc cy ad q.2)) {k27 : Int32 → Int32 → CS → Option (Int32 × CS)} {k28 : Int32 → Int32 → Int32 → CS → Option (Int32 × CS)} (hk27 : ∀ (x1 : Int32) (x2 : Int32) (σ : CS), k27 x1 x2 σ = some q → V p l e { frames := 344 + (d + 1), cells := 0, slots := 0, locals := 13700 + 40 * (d + 1) } s m args below meth c D (inC ad) 7 (MQ below (vQ D (inC ad) (some (.int q.1)) (wc cy ad q.2)) args s 0 0 (inC ad)) 0 0 (wc cy ad σ) 27 [(0, .ref (ad 43)), (1, .int x1), (2, .int x2)] []) (hk28 : ∀ (x1 : Int32) (x2 : Int32) (s0 : Int32) (σ : CS), k28 x1 x2 s0 σ = some q → V p l e { frames := 344 + (d + 1), cells := 0, slots := 0, locals := 13700 + 40 * (d + 1) } s m args below meth c D (inC ad) 7 (MQ below (vQ D (inC ad) (some (.int q.1)) (wc cy ad q.2)) args s 0 0 (inC ad)) 0 0 (wc cy ad σ) 28 [(0, .ref (ad 43)), (1, .int x1), (2, .int x2)] [.int s0]) : ∀ (x1 : Int32) (x2 : Int32) (σ : CS), B_Reader_readType_17 r_readType r_readBinder r_checkTerm r_readPair r_readFunction r_inferTerm r_readAnnotated r_readApplied r_readComponent r_checkInferred k27 k28 x1 x2 σ = some q → V p l e { frames := 344 + (d + 1), cells := 0, slots := 0, locals := 13700 + 40 * (d + 1) } s m args below meth c D (inC ad) 7 (MQ below (vQ D (inC ad) (some (.int q.1)) (wc cy ad q.2)) args s 0 0 (inC ad)) 0 0 (wc cy ad σ) 17 [(0, .ref (ad 43)), (1, .int x1), (2, .int x2)] [] := by
  intro x1 x2 σ h
  rw [B_Reader_readType_17] at h
  refine v_iload_n C 1 dX4_readType_17 rfl rfl ?_
  refine v_bipush C 10 dX4_readType_18 (by decide) ?_
  refine v_icmp_ge C 27 dX4_readType_20 (by decide) (fun c1 => ?_) (fun c1 => ?_)
  · rw [if_pos c1] at h
    exact v_sub [0, 1, 2] rfl (hk27 _ _ _ h)
  · rw [if_neg c1] at h
    refine v_iconst C 1 dX4_readType_23 (by decide) ?_
    refine v_goto C 28 dX4_readType_24 (by decide) ?_
    exact v_sub [0, 1, 2] rfl (hk28 _ _ _ _ h)
set_option maxHeartbeats 4000000 in
set_option maxRecDepth 20000 in
theorem w_Reader_readType {l : Launch} {D : va_G} {cy : Nat → ClassId} {ad : Nat → Nat} {q : Int32 × CS} {r_readType : Int32 → CS → Option (Int32 × CS)} {r_readBinder : Int32 → Int32 → Int32 → CS → Option (Int32 × CS)} {r_checkTerm : Int32 → Int32 → CS → Option (Int32 × CS)} {r_readPair : Int32 → Int32 → CS → Option (Int32 × CS)} {r_readFunction : Int32 → Int32 → CS → Option (Int32 × CS)} {r_inferTerm : Int32 → CS → Option (Int32 × CS)} {r_readAnnotated : Int32 → CS → Option (Int32 × CS)} {r_readApplied : Int32 → CS → Option (Int32 × CS)} {r_readComponent : Int32 → CS → Option (Int32 × CS)} {r_checkInferred : Int32 → Int32 → CS → Option (Int32 × CS)} {d : Nat} (hA : adOK ad) (hr_readType : ∀ (z1 : Int32) (σ : CS) (q : Int32 × CS), r_readType z1 σ = some q → MV l D (cyT cy) (inC ad) yX4_readType cX4_readType 7 (some .int) (344 + d) (13700 + 40 * d) 0 0 [.ref (ad 43), .int z1] (wc cy ad σ) (some (.int q.1)) (wc cy ad q.2)) (hr_readBinder : ∀ (z1 : Int32) (z2 : Int32) (z3 : Int32) (σ : CS) (q : Int32 × CS), r_readBinder z1 z2 z3 σ = some q → MV l D (cyT cy) (inC ad) yX4_readBinder cX4_readBinder 7 (some .int) (344 + d) (13700 + 40 * d) 0 0 [.ref (ad 43), .int z1, .int z2, .int z3] (wc cy ad σ) (some (.int q.1)) (wc cy ad q.2)) (hr_checkTerm : ∀ (z1 : Int32) (z2 : Int32) (σ : CS) (q : Int32 × CS), r_checkTerm z1 z2 σ = some q → MV l D (cyT cy) (inC ad) yX4_checkTerm cX4_checkTerm 6 (some .int) (344 + d) (13700 + 40 * d) 0 0 [.ref (ad 43), .int z1, .int z2] (wc cy ad σ) (some (.int q.1)) (wc cy ad q.2)) (hr_readPair : ∀ (z1 : Int32) (z2 : Int32) (σ : CS) (q : Int32 × CS), r_readPair z1 z2 σ = some q → MV l D (cyT cy) (inC ad) yX4_readPair cX4_readPair 7 (some .int) (344 + d) (13700 + 40 * d) 0 0 [.ref (ad 43), .int z1, .int z2] (wc cy ad σ) (some (.int q.1)) (wc cy ad q.2)) (hr_readFunction : ∀ (z1 : Int32) (z2 : Int32) (σ : CS) (q : Int32 × CS), r_readFunction z1 z2 σ = some q → MV l D (cyT cy) (inC ad) yX4_readFunction cX4_readFunction 6 (some .int) (344 + d) (13700 + 40 * d) 0 0 [.ref (ad 43), .int z1, .int z2] (wc cy ad σ) (some (.int q.1)) (wc cy ad q.2)) (hr_inferTerm : ∀ (z1 : Int32) (σ : CS) (q : Int32 × CS), r_inferTerm z1 σ = some q → MV l D (cyT cy) (inC ad) yX4_inferTerm cX4_inferTerm 7 (some .int) (344 + d) (13700 + 40 * d) 0 0 [.ref (ad 43), .int z1] (wc cy ad σ) (some (.int q.1)) (wc cy ad q.2)) (hr_readAnnotated : ∀ (z1 : Int32) (σ : CS) (q : Int32 × CS), r_readAnnotated z1 σ = some q → MV l D (cyT cy) (inC ad) yX4_readAnnotated cX4_readAnnotated 5 (some .boolean) (344 + d) (13700 + 40 * d) 0 0 [.ref (ad 43), .int z1] (wc cy ad σ) (some (.int q.1)) (wc cy ad q.2)) (hr_readApplied : ∀ (z1 : Int32) (σ : CS) (q : Int32 × CS), r_readApplied z1 σ = some q → MV l D (cyT cy) (inC ad) yX4_readApplied cX4_readApplied 8 (some .boolean) (344 + d) (13700 + 40 * d) 0 0 [.ref (ad 43), .int z1] (wc cy ad σ) (some (.int q.1)) (wc cy ad q.2)) (hr_readComponent : ∀ (z1 : Int32) (σ : CS) (q : Int32 × CS), r_readComponent z1 σ = some q → MV l D (cyT cy) (inC ad) yX4_readComponent cX4_readComponent 8 (some .boolean) (344 + d) (13700 + 40 * d) 0 0 [.ref (ad 43), .int z1] (wc cy ad σ) (some (.int q.1)) (wc cy ad q.2)) (hr_checkInferred : ∀ (z1 : Int32) (z2 : Int32) (σ : CS) (q : Int32 × CS), r_checkInferred z1 z2 σ = some q → MV l D (cyT cy) (inC ad) yX4_checkInferred cX4_checkInferred 9 (some .int) (344 + d) (13700 + 40 * d) 0 0 [.ref (ad 43), .int z1, .int z2] (wc cy ad σ) (some (.int q.1)) (wc cy ad q.2)) (x1 : Int32) (σ : CS) (h : F_Reader_readType r_readType r_readBinder r_checkTerm r_readPair r_readFunction r_inferTerm r_readAnnotated r_readApplied r_readComponent r_checkInferred x1 σ = some q) : MV l D (cyT cy) (inC ad) yX4_readType cX4_readType 7 (some .int) (344 + (d + 1)) (13700 + 40 * (d + 1)) 0 0 [.ref (ad 43), .int x1] (wc cy ad σ) (some (.int q.1)) (wc cy ad q.2) := by
  refine MV.of (by decide) (wc_D hA cy σ) (Nat.le_of_ble_eq_true rfl) [(0, .ref (ad 43)), (1, .int x1)] rfl ?_
  intro p e s m args below meth c C
  rw [F_Reader_readType] at h
  refine v_aload_n C 0 dX4_readType_0 rfl rfl ?_
  obtain ⟨q1, hq1, h⟩ := bd_of h
  refine c_call C [] [] (c_Reader_peek hA _ hq1) hY_Reader_peek rfl (by decide) (okS _ 43 (by decide) rfl) ml_4_99 ⟨(by omega : 0 + 1 ≤ 344 + (d + 1)), (by omega : 8 + (1 + 11) + 0 ≤ 13700 + 40 * (d + 1))⟩ ⟨Nat.zero_le _, Nat.zero_le _⟩ rfl rfl (Nat.le_of_ble_eq_true rfl) dX4_readType_1 (wc_D hA cy _) ?_
  refine v_istore_n C [(2, .int q1.1), (0, .ref (ad 43)), (1, .int x1)] dX4_readType_4 rfl (by decide) rfl ?_
  refine v_iload_n C 0 dX4_readType_5 rfl rfl ?_
  refine v_bipush C 83 dX4_readType_6 (by decide) ?_
  refine v_icmp_eq C 17 dX4_readType_8 (by decide) (fun c1 => ?_) (fun c1 => ?_)
  · rw [if_pos c1] at h
    exact v_sub [1, 2, 0] rfl ((b_Reader_readType_17 C hA hr_readType hr_readBinder hr_checkTerm hr_readPair hr_readFunction hr_inferTerm hr_readAnnotated hr_readApplied hr_readComponent hr_checkInferred (b_Reader_readType_27 C hA hr_readType hr_readBinder hr_checkTerm hr_readPair hr_readFunction hr_inferTerm hr_readAnnotated hr_readApplied hr_readComponent hr_checkInferred (b_Reader_readType_28 C hA hr_readType hr_readBinder hr_checkTerm hr_readPair hr_readFunction hr_inferTerm hr_readAnnotated hr_readApplied hr_readComponent hr_checkInferred)) (b_Reader_readType_28 C hA hr_readType hr_readBinder hr_checkTerm hr_readPair hr_readFunction hr_inferTerm hr_readAnnotated hr_readApplied hr_readComponent hr_checkInferred)) _ _ _ h)
  · rw [if_neg c1] at h
    refine v_iload_n C 0 dX4_readType_11 rfl rfl ?_
    refine v_bipush C 80 dX4_readType_12 (by decide) ?_
    refine v_icmp_ne C 27 dX4_readType_14 (by decide) (fun c2 => ?_) (fun c2 => ?_)
    · rw [if_neg c2] at h
      exact v_sub [1, 2, 0] rfl ((b_Reader_readType_27 C hA hr_readType hr_readBinder hr_checkTerm hr_readPair hr_readFunction hr_inferTerm hr_readAnnotated hr_readApplied hr_readComponent hr_checkInferred (b_Reader_readType_28 C hA hr_readType hr_readBinder hr_checkTerm hr_readPair hr_readFunction hr_inferTerm hr_readAnnotated hr_readApplied hr_readComponent hr_checkInferred)) _ _ _ h)
    · rw [if_pos c2] at h
      exact v_sub [1, 2, 0] rfl ((b_Reader_readType_17 C hA hr_readType hr_readBinder hr_checkTerm hr_readPair hr_readFunction hr_inferTerm hr_readAnnotated hr_readApplied hr_readComponent hr_checkInferred (b_Reader_readType_27 C hA hr_readType hr_readBinder hr_checkTerm hr_readPair hr_readFunction hr_inferTerm hr_readAnnotated hr_readApplied hr_readComponent hr_checkInferred (b_Reader_readType_28 C hA hr_readType hr_readBinder hr_checkTerm hr_readPair hr_readFunction hr_inferTerm hr_readAnnotated hr_readApplied hr_readComponent hr_checkInferred)) (b_Reader_readType_28 C hA hr_readType hr_readBinder hr_checkTerm hr_readPair hr_readFunction hr_inferTerm hr_readAnnotated hr_readApplied hr_readComponent hr_checkInferred)) _ _ _ h)
set_option maxHeartbeats 4000000 in
set_option maxRecDepth 20000 in
theorem b_Reader_readBinder_95 {p : Program} {l : Launch} {e : Env} {s : State} {m : MethodId} {args : Array Value} {below : List Frame} {meth : Method} {c : Code} {D : va_G} {cy : Nat → ClassId} {ad : Nat → Nat} {q : Int32 × CS}  {r_readType : Int32 → CS → Option (Int32 × CS)} {r_readBinder : Int32 → Int32 → Int32 → CS → Option (Int32 × CS)} {r_checkTerm : Int32 → Int32 → CS → Option (Int32 × CS)} {r_readPair : Int32 → Int32 → CS → Option (Int32 × CS)} {r_readFunction : Int32 → Int32 → CS → Option (Int32 × CS)} {r_inferTerm : Int32 → CS → Option (Int32 × CS)} {r_readAnnotated : Int32 → CS → Option (Int32 × CS)} {r_readApplied : Int32 → CS → Option (Int32 × CS)} {r_readComponent : Int32 → CS → Option (Int32 × CS)} {r_checkInferred : Int32 → Int32 → CS → Option (Int32 × CS)} {d : Nat} (C : vC p s m args meth c cX4_readBinder 7 (some .int) RX4 D (cyT cy)) (hA : adOK ad) (hr_readType : ∀ (z1 : Int32) (σ : CS) (q : Int32 × CS), r_readType z1 σ = some q → MV l D (cyT cy) (inC ad) yX4_readType cX4_readType 7 (some .int) (344 + d) (13700 + 40 * d) 0 0 [.ref (ad 43), .int z1] (wc cy ad σ) (some (.int q.1)) (wc cy ad q.2)) (hr_readBinder : ∀ (z1 : Int32) (z2 : Int32) (z3 : Int32) (σ : CS) (q : Int32 × CS), r_readBinder z1 z2 z3 σ = some q → MV l D (cyT cy) (inC ad) yX4_readBinder cX4_readBinder 7 (some .int) (344 + d) (13700 + 40 * d) 0 0 [.ref (ad 43), .int z1, .int z2, .int z3] (wc cy ad σ) (some (.int q.1)) (wc cy ad q.2)) (hr_checkTerm : ∀ (z1 : Int32) (z2 : Int32) (σ : CS) (q : Int32 × CS), r_checkTerm z1 z2 σ = some q → MV l D (cyT cy) (inC ad) yX4_checkTerm cX4_checkTerm 6 (some .int) (344 + d) (13700 + 40 * d) 0 0 [.ref (ad 43), .int z1, .int z2] (wc cy ad σ) (some (.int q.1)) (wc cy ad q.2)) (hr_readPair : ∀ (z1 : Int32) (z2 : Int32) (σ : CS) (q : Int32 × CS), r_readPair z1 z2 σ = some q → MV l D (cyT cy) (inC ad) yX4_readPair cX4_readPair 7 (some .int) (344 + d) (13700 + 40 * d) 0 0 [.ref (ad 43), .int z1, .int z2] (wc cy ad σ) (some (.int q.1)) (wc cy ad q.2)) (hr_readFunction : ∀ (z1 : Int32) (z2 : Int32) (σ : CS) (q : Int32 × CS), r_readFunction z1 z2 σ = some q → MV l D (cyT cy) (inC ad) yX4_readFunction cX4_readFunction 6 (some .int) (344 + d) (13700 + 40 * d) 0 0 [.ref (ad 43), .int z1, .int z2] (wc cy ad σ) (some (.int q.1)) (wc cy ad q.2)) (hr_inferTerm : ∀ (z1 : Int32) (σ : CS) (q : Int32 × CS), r_inferTerm z1 σ = some q → MV l D (cyT cy) (inC ad) yX4_inferTerm cX4_inferTerm 7 (some .int) (344 + d) (13700 + 40 * d) 0 0 [.ref (ad 43), .int z1] (wc cy ad σ) (some (.int q.1)) (wc cy ad q.2)) (hr_readAnnotated : ∀ (z1 : Int32) (σ : CS) (q : Int32 × CS), r_readAnnotated z1 σ = some q → MV l D (cyT cy) (inC ad) yX4_readAnnotated cX4_readAnnotated 5 (some .boolean) (344 + d) (13700 + 40 * d) 0 0 [.ref (ad 43), .int z1] (wc cy ad σ) (some (.int q.1)) (wc cy ad q.2)) (hr_readApplied : ∀ (z1 : Int32) (σ : CS) (q : Int32 × CS), r_readApplied z1 σ = some q → MV l D (cyT cy) (inC ad) yX4_readApplied cX4_readApplied 8 (some .boolean) (344 + d) (13700 + 40 * d) 0 0 [.ref (ad 43), .int z1] (wc cy ad σ) (some (.int q.1)) (wc cy ad q.2)) (hr_readComponent : ∀ (z1 : Int32) (σ : CS) (q : Int32 × CS), r_readComponent z1 σ = some q → MV l D (cyT cy) (inC ad) yX4_readComponent cX4_readComponent 8 (some .boolean) (344 + d) (13700 + 40 * d) 0 0 [.ref (ad 43), .int z1] (wc cy ad σ) (some (.int q.1)) (wc cy ad q.2)) (hr_checkInferred : ∀ (z1 : Int32) (z2 : Int32) (σ : CS) (q : Int32 × CS), r_checkInferred z1 z2 σ = some q → MV l D (cyT cy) (inC ad) yX4_checkInferred cX4_checkInferred 9 (some .int) (344 + d) (13700 + 40 * d) 0 0 [.ref (ad 43), .int z1, .int z2] (wc cy ad σ) (some (.int q.1)) (wc cy ad q.2)) : ∀ (s0 : Int32) (σ : CS), B_Reader_readBinder_95 r_readType r_readBinder r_checkTerm r_readPair r_readFunction r_inferTerm r_readAnnotated r_readApplied r_readComponent r_checkInferred s0 σ = some q → V p l e { frames := 344 + (d + 1), cells := 0, slots := 0, locals := 13700 + 40 * (d + 1) } s m args below meth c D (inC ad) 7 (MQ below (vQ D (inC ad) (some (.int q.1)) (wc cy ad q.2)) args s 0 0 (inC ad)) 0 0 (wc cy ad σ) 95 [(0, .ref (ad 43))] [.int s0] := by
  intro s0 σ h
  rw [B_Reader_readBinder_95] at h
  obtain rfl := Option.some.inj h
  exact v_iret C dX4_readBinder_95
set_option maxHeartbeats 4000000 in
set_option maxRecDepth 20000 in
theorem b_Reader_readBinder_46 {p : Program} {l : Launch} {e : Env} {s : State} {m : MethodId} {args : Array Value} {below : List Frame} {meth : Method} {c : Code} {D : va_G} {cy : Nat → ClassId} {ad : Nat → Nat} {q : Int32 × CS}  {r_readType : Int32 → CS → Option (Int32 × CS)} {r_readBinder : Int32 → Int32 → Int32 → CS → Option (Int32 × CS)} {r_checkTerm : Int32 → Int32 → CS → Option (Int32 × CS)} {r_readPair : Int32 → Int32 → CS → Option (Int32 × CS)} {r_readFunction : Int32 → Int32 → CS → Option (Int32 × CS)} {r_inferTerm : Int32 → CS → Option (Int32 × CS)} {r_readAnnotated : Int32 → CS → Option (Int32 × CS)} {r_readApplied : Int32 → CS → Option (Int32 × CS)} {r_readComponent : Int32 → CS → Option (Int32 × CS)} {r_checkInferred : Int32 → Int32 → CS → Option (Int32 × CS)} {d : Nat} (C : vC p s m args meth c cX4_readBinder 7 (some .int) RX4 D (cyT cy)) (hA : adOK ad) (hr_readType : ∀ (z1 : Int32) (σ : CS) (q : Int32 × CS), r_readType z1 σ = some q → MV l D (cyT cy) (inC ad) yX4_readType cX4_readType 7 (some .int) (344 + d) (13700 + 40 * d) 0 0 [.ref (ad 43), .int z1] (wc cy ad σ) (some (.int q.1)) (wc cy ad q.2)) (hr_readBinder : ∀ (z1 : Int32) (z2 : Int32) (z3 : Int32) (σ : CS) (q : Int32 × CS), r_readBinder z1 z2 z3 σ = some q → MV l D (cyT cy) (inC ad) yX4_readBinder cX4_readBinder 7 (some .int) (344 + d) (13700 + 40 * d) 0 0 [.ref (ad 43), .int z1, .int z2, .int z3] (wc cy ad σ) (some (.int q.1)) (wc cy ad q.2)) (hr_checkTerm : ∀ (z1 : Int32) (z2 : Int32) (σ : CS) (q : Int32 × CS), r_checkTerm z1 z2 σ = some q → MV l D (cyT cy) (inC ad) yX4_checkTerm cX4_checkTerm 6 (some .int) (344 + d) (13700 + 40 * d) 0 0 [.ref (ad 43), .int z1, .int z2] (wc cy ad σ) (some (.int q.1)) (wc cy ad q.2)) (hr_readPair : ∀ (z1 : Int32) (z2 : Int32) (σ : CS) (q : Int32 × CS), r_readPair z1 z2 σ = some q → MV l D (cyT cy) (inC ad) yX4_readPair cX4_readPair 7 (some .int) (344 + d) (13700 + 40 * d) 0 0 [.ref (ad 43), .int z1, .int z2] (wc cy ad σ) (some (.int q.1)) (wc cy ad q.2)) (hr_readFunction : ∀ (z1 : Int32) (z2 : Int32) (σ : CS) (q : Int32 × CS), r_readFunction z1 z2 σ = some q → MV l D (cyT cy) (inC ad) yX4_readFunction cX4_readFunction 6 (some .int) (344 + d) (13700 + 40 * d) 0 0 [.ref (ad 43), .int z1, .int z2] (wc cy ad σ) (some (.int q.1)) (wc cy ad q.2)) (hr_inferTerm : ∀ (z1 : Int32) (σ : CS) (q : Int32 × CS), r_inferTerm z1 σ = some q → MV l D (cyT cy) (inC ad) yX4_inferTerm cX4_inferTerm 7 (some .int) (344 + d) (13700 + 40 * d) 0 0 [.ref (ad 43), .int z1] (wc cy ad σ) (some (.int q.1)) (wc cy ad q.2)) (hr_readAnnotated : ∀ (z1 : Int32) (σ : CS) (q : Int32 × CS), r_readAnnotated z1 σ = some q → MV l D (cyT cy) (inC ad) yX4_readAnnotated cX4_readAnnotated 5 (some .boolean) (344 + d) (13700 + 40 * d) 0 0 [.ref (ad 43), .int z1] (wc cy ad σ) (some (.int q.1)) (wc cy ad q.2)) (hr_readApplied : ∀ (z1 : Int32) (σ : CS) (q : Int32 × CS), r_readApplied z1 σ = some q → MV l D (cyT cy) (inC ad) yX4_readApplied cX4_readApplied 8 (some .boolean) (344 + d) (13700 + 40 * d) 0 0 [.ref (ad 43), .int z1] (wc cy ad σ) (some (.int q.1)) (wc cy ad q.2)) (hr_readComponent : ∀ (z1 : Int32) (σ : CS) (q : Int32 × CS), r_readComponent z1 σ = some q → MV l D (cyT cy) (inC ad) yX4_readComponent cX4_readComponent 8 (some .boolean) (344 + d) (13700 + 40 * d) 0 0 [.ref (ad 43), .int z1] (wc cy ad σ) (some (.int q.1)) (wc cy ad q.2)) (hr_checkInferred : ∀ (z1 : Int32) (z2 : Int32) (σ : CS) (q : Int32 × CS), r_checkInferred z1 z2 σ = some q → MV l D (cyT cy) (inC ad) yX4_checkInferred cX4_checkInferred 9 (some .int) (344 + d) (13700 + 40 * d) 0 0 [.ref (ad 43), .int z1, .int z2] (wc cy ad σ) (some (.int q.1)) (wc cy ad q.2)) : ∀ (x1 : Int32) (x2 : Int32) (x3 : Int32) (x5 : Int32) (σ : CS), B_Reader_readBinder_46 r_readType r_readBinder r_checkTerm r_readPair r_readFunction r_inferTerm r_readAnnotated r_readApplied r_readComponent r_checkInferred x1 x2 x3 x5 σ = some q → V p l e { frames := 344 + (d + 1), cells := 0, slots := 0, locals := 13700 + 40 * (d + 1) } s m args below meth c D (inC ad) 7 (MQ below (vQ D (inC ad) (some (.int q.1)) (wc cy ad q.2)) args s 0 0 (inC ad)) 0 0 (wc cy ad σ) 46 [(0, .ref (ad 43)), (1, .int x1), (2, .int x2), (3, .int x3), (5, .int x5)] [] := by
  intro x1 x2 x3 x5 σ h
  rw [B_Reader_readBinder_46] at h
  refine v_aload_n C 0 dX4_readBinder_46 rfl rfl ?_
  refine v_aload_n C 0 dX4_readBinder_47 rfl rfl ?_
  refine c_getS C 38 fl_4_29 rfl rfl (by decide) (okS _ 43 (by decide) rfl) dX4_readBinder_48 ?_
  refine v_iload C 4 dX4_readBinder_51 rfl ?_
  refine v_aload_n C 0 dX4_readBinder_53 rfl rfl ?_
  refine v_iload_n C 3 dX4_readBinder_54 rfl rfl ?_
  obtain ⟨q1, hq1, h⟩ := bd_of h
  refine c_call C [.int x3] [.int x5, .ref (ad 38), .ref (ad 43)] (c_Reader_scope hA _ _ hq1) hY_Reader_scope rfl (by decide) (okS _ 43 (by decide) rfl) ml_4_145 ⟨(by omega : 0 + 1 ≤ 344 + (d + 1)), (by omega : 8 + (2 + 11) + 0 ≤ 13700 + 40 * (d + 1))⟩ ⟨Nat.zero_le _, Nat.zero_le _⟩ rfl rfl (Nat.le_of_ble_eq_true rfl) dX4_readBinder_55 (wc_D hA cy _) ?_
  obtain ⟨q2, hq2, h⟩ := bd_of h
  refine c_call C [.int x5, .int q1.1] [.ref (ad 43)] (c_Values_typeAt hA _ _ _ hq2) hY_Values_typeAt rfl (by decide) (okS _ 38 (by decide) rfl) ml_4_66 ⟨(by omega : 1 + 1 ≤ 344 + (d + 1)), (by omega : 8 + (3 + 11) + 23 ≤ 13700 + 40 * (d + 1))⟩ ⟨Nat.zero_le _, Nat.zero_le _⟩ rfl rfl (Nat.le_of_ble_eq_true rfl) dX4_readBinder_58 (wc_D hA cy _) ?_
  refine v_iload_n C 3 dX4_readBinder_61 rfl rfl ?_
  obtain ⟨q3, hq3, h⟩ := bd_of h
  refine c_call C [.int q2.1, .int x3] [] (c_Reader_bind hA _ _ _ hq3) hY_Reader_bind rfl (by decide) (okS _ 43 (by decide) rfl) ml_4_148 ⟨(by omega : 2 + 1 ≤ 344 + (d + 1)), (by omega : 8 + (4 + 11) + 45 ≤ 13700 + 40 * (d + 1))⟩ ⟨Nat.zero_le _, Nat.zero_le _⟩ rfl rfl (Nat.le_of_ble_eq_true rfl) dX4_readBinder_62 (wc_D hA cy _) ?_
  refine v_pop C dX4_readBinder_65 rfl ?_
  refine v_aload_n C 0 dX4_readBinder_66 rfl rfl ?_
  refine v_iload_n C 3 dX4_readBinder_67 rfl rfl ?_
  refine v_iconst C 1 dX4_readBinder_68 (by decide) ?_
  refine v_iadd C dX4_readBinder_69 ?_
  obtain ⟨q4, hq4, h⟩ := bd_of h
  refine c_call C [.int (x3 + 1)] [] (hr_readType _ _ _ hq4) hY_Reader_readType rfl (by decide) (okS _ 43 (by decide) rfl) ml_4_59 ⟨(by omega : (344 + d) + 1 ≤ 344 + (d + 1)), (by omega : 8 + (7 + 11) + (13700 + 40 * d) ≤ 13700 + 40 * (d + 1))⟩ ⟨Nat.zero_le _, Nat.zero_le _⟩ rfl rfl (Nat.le_of_ble_eq_true rfl) dX4_readBinder_70 (wc_D hA cy _) ?_
  refine v_istore C [(6, .int q4.1), (0, .ref (ad 43)), (1, .int x1), (2, .int x2), (3, .int x3), (5, .int x5)] dX4_readBinder_73 (by decide) rfl ?_
  refine v_iload C 0 dX4_readBinder_75 rfl ?_
  refine v_iconst C (-1) dX4_readBinder_77 (by decide) ?_
  refine v_icmp_ne C 85 dX4_readBinder_78 (by decide) (fun c1 => ?_) (fun c1 => ?_)
  · rw [if_neg c1] at h
    refine v_aload_n C 1 dX4_readBinder_85 rfl rfl ?_
    refine v_iload_n C 2 dX4_readBinder_86 rfl rfl ?_
    refine v_iload C 5 dX4_readBinder_87 rfl ?_
    refine v_iload C 0 dX4_readBinder_89 rfl ?_
    refine v_iload_n C 3 dX4_readBinder_91 rfl rfl ?_
    obtain ⟨q5, hq5, h⟩ := bd_of h
    refine c_call C [.int x1, .int x5, .int q4.1, .int x2] [] (c_Reader_join hA _ _ _ _ _ hq5) hY_Reader_join rfl (by decide) (okS _ 43 (by decide) rfl) ml_4_142 ⟨(by omega : 4 + 1 ≤ 344 + (d + 1)), (by omega : 8 + (6 + 11) + 91 ≤ 13700 + 40 * (d + 1))⟩ ⟨Nat.zero_le _, Nat.zero_le _⟩ rfl rfl (Nat.le_of_ble_eq_true rfl) dX4_readBinder_92 (wc_D hA cy _) ?_
    exact v_sub [1] rfl ((b_Reader_readBinder_95 C hA hr_readType hr_readBinder hr_checkTerm hr_readPair hr_readFunction hr_inferTerm hr_readAnnotated hr_readApplied hr_readComponent hr_checkInferred) _ _ h)
  · rw [if_pos c1] at h
    refine v_iconst C (-1) dX4_readBinder_81 (by decide) ?_
    refine v_goto C 95 dX4_readBinder_82 (by decide) ?_
    exact v_sub [1] rfl ((b_Reader_readBinder_95 C hA hr_readType hr_readBinder hr_checkTerm hr_readPair hr_readFunction hr_inferTerm hr_readAnnotated hr_readApplied hr_readComponent hr_checkInferred) _ _ h)
set_option maxHeartbeats 4000000 in
set_option maxRecDepth 20000 in
theorem w_Reader_readBinder {l : Launch} {D : va_G} {cy : Nat → ClassId} {ad : Nat → Nat} {q : Int32 × CS} {r_readType : Int32 → CS → Option (Int32 × CS)} {r_readBinder : Int32 → Int32 → Int32 → CS → Option (Int32 × CS)} {r_checkTerm : Int32 → Int32 → CS → Option (Int32 × CS)} {r_readPair : Int32 → Int32 → CS → Option (Int32 × CS)} {r_readFunction : Int32 → Int32 → CS → Option (Int32 × CS)} {r_inferTerm : Int32 → CS → Option (Int32 × CS)} {r_readAnnotated : Int32 → CS → Option (Int32 × CS)} {r_readApplied : Int32 → CS → Option (Int32 × CS)} {r_readComponent : Int32 → CS → Option (Int32 × CS)} {r_checkInferred : Int32 → Int32 → CS → Option (Int32 × CS)} {d : Nat} (hA : adOK ad) (hr_readType : ∀ (z1 : Int32) (σ : CS) (q : Int32 × CS), r_readType z1 σ = some q → MV l D (cyT cy) (inC ad) yX4_readType cX4_readType 7 (some .int) (344 + d) (13700 + 40 * d) 0 0 [.ref (ad 43), .int z1] (wc cy ad σ) (some (.int q.1)) (wc cy ad q.2)) (hr_readBinder : ∀ (z1 : Int32) (z2 : Int32) (z3 : Int32) (σ : CS) (q : Int32 × CS), r_readBinder z1 z2 z3 σ = some q → MV l D (cyT cy) (inC ad) yX4_readBinder cX4_readBinder 7 (some .int) (344 + d) (13700 + 40 * d) 0 0 [.ref (ad 43), .int z1, .int z2, .int z3] (wc cy ad σ) (some (.int q.1)) (wc cy ad q.2)) (hr_checkTerm : ∀ (z1 : Int32) (z2 : Int32) (σ : CS) (q : Int32 × CS), r_checkTerm z1 z2 σ = some q → MV l D (cyT cy) (inC ad) yX4_checkTerm cX4_checkTerm 6 (some .int) (344 + d) (13700 + 40 * d) 0 0 [.ref (ad 43), .int z1, .int z2] (wc cy ad σ) (some (.int q.1)) (wc cy ad q.2)) (hr_readPair : ∀ (z1 : Int32) (z2 : Int32) (σ : CS) (q : Int32 × CS), r_readPair z1 z2 σ = some q → MV l D (cyT cy) (inC ad) yX4_readPair cX4_readPair 7 (some .int) (344 + d) (13700 + 40 * d) 0 0 [.ref (ad 43), .int z1, .int z2] (wc cy ad σ) (some (.int q.1)) (wc cy ad q.2)) (hr_readFunction : ∀ (z1 : Int32) (z2 : Int32) (σ : CS) (q : Int32 × CS), r_readFunction z1 z2 σ = some q → MV l D (cyT cy) (inC ad) yX4_readFunction cX4_readFunction 6 (some .int) (344 + d) (13700 + 40 * d) 0 0 [.ref (ad 43), .int z1, .int z2] (wc cy ad σ) (some (.int q.1)) (wc cy ad q.2)) (hr_inferTerm : ∀ (z1 : Int32) (σ : CS) (q : Int32 × CS), r_inferTerm z1 σ = some q → MV l D (cyT cy) (inC ad) yX4_inferTerm cX4_inferTerm 7 (some .int) (344 + d) (13700 + 40 * d) 0 0 [.ref (ad 43), .int z1] (wc cy ad σ) (some (.int q.1)) (wc cy ad q.2)) (hr_readAnnotated : ∀ (z1 : Int32) (σ : CS) (q : Int32 × CS), r_readAnnotated z1 σ = some q → MV l D (cyT cy) (inC ad) yX4_readAnnotated cX4_readAnnotated 5 (some .boolean) (344 + d) (13700 + 40 * d) 0 0 [.ref (ad 43), .int z1] (wc cy ad σ) (some (.int q.1)) (wc cy ad q.2)) (hr_readApplied : ∀ (z1 : Int32) (σ : CS) (q : Int32 × CS), r_readApplied z1 σ = some q → MV l D (cyT cy) (inC ad) yX4_readApplied cX4_readApplied 8 (some .boolean) (344 + d) (13700 + 40 * d) 0 0 [.ref (ad 43), .int z1] (wc cy ad σ) (some (.int q.1)) (wc cy ad q.2)) (hr_readComponent : ∀ (z1 : Int32) (σ : CS) (q : Int32 × CS), r_readComponent z1 σ = some q → MV l D (cyT cy) (inC ad) yX4_readComponent cX4_readComponent 8 (some .boolean) (344 + d) (13700 + 40 * d) 0 0 [.ref (ad 43), .int z1] (wc cy ad σ) (some (.int q.1)) (wc cy ad q.2)) (hr_checkInferred : ∀ (z1 : Int32) (z2 : Int32) (σ : CS) (q : Int32 × CS), r_checkInferred z1 z2 σ = some q → MV l D (cyT cy) (inC ad) yX4_checkInferred cX4_checkInferred 9 (some .int) (344 + d) (13700 + 40 * d) 0 0 [.ref (ad 43), .int z1, .int z2] (wc cy ad σ) (some (.int q.1)) (wc cy ad q.2)) (x1 : Int32) (x2 : Int32) (x3 : Int32) (σ : CS) (h : F_Reader_readBinder r_readType r_readBinder r_checkTerm r_readPair r_readFunction r_inferTerm r_readAnnotated r_readApplied r_readComponent r_checkInferred x1 x2 x3 σ = some q) : MV l D (cyT cy) (inC ad) yX4_readBinder cX4_readBinder 7 (some .int) (344 + (d + 1)) (13700 + 40 * (d + 1)) 0 0 [.ref (ad 43), .int x1, .int x2, .int x3] (wc cy ad σ) (some (.int q.1)) (wc cy ad q.2) := by
  refine MV.of (by decide) (wc_D hA cy σ) (Nat.le_of_ble_eq_true rfl) [(0, .ref (ad 43)), (1, .int x1), (2, .int x2), (3, .int x3)] rfl ?_
  intro p e s m args below meth c C
  rw [F_Reader_readBinder] at h
  refine v_aload_n C 0 dX4_readBinder_0 rfl rfl ?_
  refine c_getI C fl_4_41 rfl (okS _ 43 (by decide) rfl) dX4_readBinder_1 ?_
  refine v_istore C [(4, .int (σ.1 43 7)), (0, .ref (ad 43)), (1, .int x1), (2, .int x2), (3, .int x3)] dX4_readBinder_4 (by decide) rfl ?_
  refine v_aload_n C 1 dX4_readBinder_6 rfl rfl ?_
  refine v_iload_n C 4 dX4_readBinder_7 rfl rfl ?_
  obtain ⟨q1, hq1, h⟩ := bd_of h
  refine c_call C [.int x3] [] (hr_readType _ _ _ hq1) hY_Reader_readType rfl (by decide) (okS _ 43 (by decide) rfl) ml_4_59 ⟨(by omega : (344 + d) + 1 ≤ 344 + (d + 1)), (by omega : 8 + (7 + 11) + (13700 + 40 * d) ≤ 13700 + 40 * (d + 1))⟩ ⟨Nat.zero_le _, Nat.zero_le _⟩ rfl rfl (Nat.le_of_ble_eq_true rfl) dX4_readBinder_8 (wc_D hA cy _) ?_
  refine v_istore C [(5, .int q1.1), (4, .int (σ.1 43 7)), (0, .ref (ad 43)), (1, .int x1), (2, .int x2), (3, .int x3)] dX4_readBinder_11 (by decide) rfl ?_
  refine v_iload C 0 dX4_readBinder_13 rfl ?_
  refine v_iconst C (-1) dX4_readBinder_15 (by decide) ?_
  refine v_icmp_ne C 21 dX4_readBinder_16 (by decide) (fun c1 => ?_) (fun c1 => ?_)
  · rw [if_neg c1] at h
    refine v_iload_n C 3 dX4_readBinder_21 rfl rfl ?_
    refine v_bipush C 80 dX4_readBinder_22 (by decide) ?_
    refine v_icmp_ne C 46 dX4_readBinder_24 (by decide) (fun c2 => ?_) (fun c2 => ?_)
    · rw [if_neg c2] at h
      exact v_sub [2, 3, 4, 5, 0] rfl ((b_Reader_readBinder_46 C hA hr_readType hr_readBinder hr_checkTerm hr_readPair hr_readFunction hr_inferTerm hr_readAnnotated hr_readApplied hr_readComponent hr_checkInferred) _ _ _ _ _ h)
    · rw [if_pos c2] at h
      refine v_aload_n C 2 dX4_readBinder_27 rfl rfl ?_
      refine c_getS C 34 fl_4_25 rfl rfl (by decide) (okS _ 43 (by decide) rfl) dX4_readBinder_28 ?_
      refine v_iload C 0 dX4_readBinder_31 rfl ?_
      obtain ⟨q2, hq2, h⟩ := bd_of h
      refine c_call C [.int q1.1] [] (c_Signs_isData hA _ _ hq2) hY_Signs_isData rfl (by decide) (okS _ 34 (by decide) rfl) ml_4_109 ⟨(by omega : 2 + 1 ≤ 344 + (d + 1)), (by omega : 8 + (4 + 11) + 45 ≤ 13700 + 40 * (d + 1))⟩ ⟨Nat.zero_le _, Nat.zero_le _⟩ rfl rfl (Nat.le_of_ble_eq_true rfl) dX4_readBinder_33 (wc_D hA cy _) ?_
      refine v_if_ne C 46 dX4_readBinder_36 (by decide) (fun c3 => ?_) (fun c3 => ?_)
      · rw [if_neg c3] at h
        exact v_sub [2, 3, 4, 5, 0] rfl ((b_Reader_readBinder_46 C hA hr_readType hr_readBinder hr_checkTerm hr_readPair hr_readFunction hr_inferTerm hr_readAnnotated hr_readApplied hr_readComponent hr_checkInferred) _ _ _ _ _ h)
      · rw [if_pos c3] at h
        refine v_aload_n C 2 dX4_readBinder_39 rfl rfl ?_
        refine v_iload C 1 dX4_readBinder_40 rfl ?_
        obtain ⟨q3, hq3, h⟩ := bd_of h
        refine c_call C [.int (σ.1 43 7)] [] (c_Reader_refuse hA _ _ hq3) hY_Reader_refuse rfl (by decide) (okS _ 43 (by decide) rfl) ml_4_124 ⟨(by omega : 0 + 1 ≤ 344 + (d + 1)), (by omega : 8 + (2 + 11) + 0 ≤ 13700 + 40 * (d + 1))⟩ ⟨Nat.zero_le _, Nat.zero_le _⟩ rfl rfl (Nat.le_of_ble_eq_true rfl) dX4_readBinder_42 (wc_D hA cy _) ?_
        obtain rfl := Option.some.inj h
        exact v_iret C dX4_readBinder_45
  · rw [if_pos c1] at h
    refine v_iconst C (-1) dX4_readBinder_19 (by decide) ?_
    obtain rfl := Option.some.inj h
    exact v_iret C dX4_readBinder_20
set_option maxHeartbeats 4000000 in
set_option maxRecDepth 20000 in
theorem b_Reader_checkTerm_147 {p : Program} {l : Launch} {e : Env} {s : State} {m : MethodId} {args : Array Value} {below : List Frame} {meth : Method} {c : Code} {D : va_G} {cy : Nat → ClassId} {ad : Nat → Nat} {q : Int32 × CS}  {r_readType : Int32 → CS → Option (Int32 × CS)} {r_readBinder : Int32 → Int32 → Int32 → CS → Option (Int32 × CS)} {r_checkTerm : Int32 → Int32 → CS → Option (Int32 × CS)} {r_readPair : Int32 → Int32 → CS → Option (Int32 × CS)} {r_readFunction : Int32 → Int32 → CS → Option (Int32 × CS)} {r_inferTerm : Int32 → CS → Option (Int32 × CS)} {r_readAnnotated : Int32 → CS → Option (Int32 × CS)} {r_readApplied : Int32 → CS → Option (Int32 × CS)} {r_readComponent : Int32 → CS → Option (Int32 × CS)} {r_checkInferred : Int32 → Int32 → CS → Option (Int32 × CS)} {d : Nat} (C : vC p s m args meth c cX4_checkTerm 6 (some .int) RX4 D (cyT cy)) (hA : adOK ad) (hr_readType : ∀ (z1 : Int32) (σ : CS) (q : Int32 × CS), r_readType z1 σ = some q → MV l D (cyT cy) (inC ad) yX4_readType cX4_readType 7 (some .int) (344 + d) (13700 + 40 * d) 0 0 [.ref (ad 43), .int z1] (wc cy ad σ) (some (.int q.1)) (wc cy ad q.2)) (hr_readBinder : ∀ (z1 : Int32) (z2 : Int32) (z3 : Int32) (σ : CS) (q : Int32 × CS), r_readBinder z1 z2 z3 σ = some q → MV l D (cyT cy) (inC ad) yX4_readBinder cX4_readBinder 7 (some .int) (344 + d) (13700 + 40 * d) 0 0 [.ref (ad 43), .int z1, .int z2, .int z3] (wc cy ad σ) (some (.int q.1)) (wc cy ad q.2)) (hr_checkTerm : ∀ (z1 : Int32) (z2 : Int32) (σ : CS) (q : Int32 × CS), r_checkTerm z1 z2 σ = some q → MV l D (cyT cy) (inC ad) yX4_checkTerm cX4_checkTerm 6 (some .int) (344 + d) (13700 + 40 * d) 0 0 [.ref (ad 43), .int z1, .int z2] (wc cy ad σ) (some (.int q.1)) (wc cy ad q.2)) (hr_readPair : ∀ (z1 : Int32) (z2 : Int32) (σ : CS) (q : Int32 × CS), r_readPair z1 z2 σ = some q → MV l D (cyT cy) (inC ad) yX4_readPair cX4_readPair 7 (some .int) (344 + d) (13700 + 40 * d) 0 0 [.ref (ad 43), .int z1, .int z2] (wc cy ad σ) (some (.int q.1)) (wc cy ad q.2)) (hr_readFunction : ∀ (z1 : Int32) (z2 : Int32) (σ : CS) (q : Int32 × CS), r_readFunction z1 z2 σ = some q → MV l D (cyT cy) (inC ad) yX4_readFunction cX4_readFunction 6 (some .int) (344 + d) (13700 + 40 * d) 0 0 [.ref (ad 43), .int z1, .int z2] (wc cy ad σ) (some (.int q.1)) (wc cy ad q.2)) (hr_inferTerm : ∀ (z1 : Int32) (σ : CS) (q : Int32 × CS), r_inferTerm z1 σ = some q → MV l D (cyT cy) (inC ad) yX4_inferTerm cX4_inferTerm 7 (some .int) (344 + d) (13700 + 40 * d) 0 0 [.ref (ad 43), .int z1] (wc cy ad σ) (some (.int q.1)) (wc cy ad q.2)) (hr_readAnnotated : ∀ (z1 : Int32) (σ : CS) (q : Int32 × CS), r_readAnnotated z1 σ = some q → MV l D (cyT cy) (inC ad) yX4_readAnnotated cX4_readAnnotated 5 (some .boolean) (344 + d) (13700 + 40 * d) 0 0 [.ref (ad 43), .int z1] (wc cy ad σ) (some (.int q.1)) (wc cy ad q.2)) (hr_readApplied : ∀ (z1 : Int32) (σ : CS) (q : Int32 × CS), r_readApplied z1 σ = some q → MV l D (cyT cy) (inC ad) yX4_readApplied cX4_readApplied 8 (some .boolean) (344 + d) (13700 + 40 * d) 0 0 [.ref (ad 43), .int z1] (wc cy ad σ) (some (.int q.1)) (wc cy ad q.2)) (hr_readComponent : ∀ (z1 : Int32) (σ : CS) (q : Int32 × CS), r_readComponent z1 σ = some q → MV l D (cyT cy) (inC ad) yX4_readComponent cX4_readComponent 8 (some .boolean) (344 + d) (13700 + 40 * d) 0 0 [.ref (ad 43), .int z1] (wc cy ad σ) (some (.int q.1)) (wc cy ad q.2)) (hr_checkInferred : ∀ (z1 : Int32) (z2 : Int32) (σ : CS) (q : Int32 × CS), r_checkInferred z1 z2 σ = some q → MV l D (cyT cy) (inC ad) yX4_checkInferred cX4_checkInferred 9 (some .int) (344 + d) (13700 + 40 * d) 0 0 [.ref (ad 43), .int z1, .int z2] (wc cy ad σ) (some (.int q.1)) (wc cy ad q.2)) : ∀ (s0 : Int32) (σ : CS), B_Reader_checkTerm_147 r_readType r_readBinder r_checkTerm r_readPair r_readFunction r_inferTerm r_readAnnotated r_readApplied r_readComponent r_checkInferred s0 σ = some q → V p l e { frames := 344 + (d + 1), cells := 0, slots := 0, locals := 13700 + 40 * (d + 1) } s m args below meth c D (inC ad) 6 (MQ below (vQ D (inC ad) (some (.int q.1)) (wc cy ad q.2)) args s 0 0 (inC ad)) 0 0 (wc cy ad σ) 147 [(0, .ref (ad 43))] [.int s0] := by
  intro s0 σ h
  rw [B_Reader_checkTerm_147] at h
  obtain rfl := Option.some.inj h
  exact v_iret C dX4_checkTerm_147
set_option maxHeartbeats 4000000 in
set_option maxRecDepth 20000 in
theorem b_Reader_checkTerm_107 {p : Program} {l : Launch} {e : Env} {s : State} {m : MethodId} {args : Array Value} {below : List Frame} {meth : Method} {c : Code} {D : va_G} {cy : Nat → ClassId} {ad : Nat → Nat} {q : Int32 × CS}  {r_readType : Int32 → CS → Option (Int32 × CS)} {r_readBinder : Int32 → Int32 → Int32 → CS → Option (Int32 × CS)} {r_checkTerm : Int32 → Int32 → CS → Option (Int32 × CS)} {r_readPair : Int32 → Int32 → CS → Option (Int32 × CS)} {r_readFunction : Int32 → Int32 → CS → Option (Int32 × CS)} {r_inferTerm : Int32 → CS → Option (Int32 × CS)} {r_readAnnotated : Int32 → CS → Option (Int32 × CS)} {r_readApplied : Int32 → CS → Option (Int32 × CS)} {r_readComponent : Int32 → CS → Option (Int32 × CS)} {r_checkInferred : Int32 → Int32 → CS → Option (Int32 × CS)} {d : Nat} (C : vC p s m args meth c cX4_checkTerm 6 (some .int) RX4 D (cyT cy)) (hA : adOK ad) (hr_readType : ∀ (z1 : Int32) (σ : CS) (q : Int32 × CS), r_readType z1 σ = some q → MV l D (cyT cy) (inC ad) yX4_readType cX4_readType 7 (some .int) (344 + d) (13700 + 40 * d) 0 0 [.ref (ad 43), .int z1] (wc cy ad σ) (some (.int q.1)) (wc cy ad q.2)) (hr_readBinder : ∀ (z1 : Int32) (z2 : Int32) (z3 : Int32) (σ : CS) (q : Int32 × CS), r_readBinder z1 z2 z3 σ = some q → MV l D (cyT cy) (inC ad) yX4_readBinder cX4_readBinder 7 (some .int) (344 + d) (13700 + 40 * d) 0 0 [.ref (ad 43), .int z1, .int z2, .int z3] (wc cy ad σ) (some (.int q.1)) (wc cy ad q.2)) (hr_checkTerm : ∀ (z1 : Int32) (z2 : Int32) (σ : CS) (q : Int32 × CS), r_checkTerm z1 z2 σ = some q → MV l D (cyT cy) (inC ad) yX4_checkTerm cX4_checkTerm 6 (some .int) (344 + d) (13700 + 40 * d) 0 0 [.ref (ad 43), .int z1, .int z2] (wc cy ad σ) (some (.int q.1)) (wc cy ad q.2)) (hr_readPair : ∀ (z1 : Int32) (z2 : Int32) (σ : CS) (q : Int32 × CS), r_readPair z1 z2 σ = some q → MV l D (cyT cy) (inC ad) yX4_readPair cX4_readPair 7 (some .int) (344 + d) (13700 + 40 * d) 0 0 [.ref (ad 43), .int z1, .int z2] (wc cy ad σ) (some (.int q.1)) (wc cy ad q.2)) (hr_readFunction : ∀ (z1 : Int32) (z2 : Int32) (σ : CS) (q : Int32 × CS), r_readFunction z1 z2 σ = some q → MV l D (cyT cy) (inC ad) yX4_readFunction cX4_readFunction 6 (some .int) (344 + d) (13700 + 40 * d) 0 0 [.ref (ad 43), .int z1, .int z2] (wc cy ad σ) (some (.int q.1)) (wc cy ad q.2)) (hr_inferTerm : ∀ (z1 : Int32) (σ : CS) (q : Int32 × CS), r_inferTerm z1 σ = some q → MV l D (cyT cy) (inC ad) yX4_inferTerm cX4_inferTerm 7 (some .int) (344 + d) (13700 + 40 * d) 0 0 [.ref (ad 43), .int z1] (wc cy ad σ) (some (.int q.1)) (wc cy ad q.2)) (hr_readAnnotated : ∀ (z1 : Int32) (σ : CS) (q : Int32 × CS), r_readAnnotated z1 σ = some q → MV l D (cyT cy) (inC ad) yX4_readAnnotated cX4_readAnnotated 5 (some .boolean) (344 + d) (13700 + 40 * d) 0 0 [.ref (ad 43), .int z1] (wc cy ad σ) (some (.int q.1)) (wc cy ad q.2)) (hr_readApplied : ∀ (z1 : Int32) (σ : CS) (q : Int32 × CS), r_readApplied z1 σ = some q → MV l D (cyT cy) (inC ad) yX4_readApplied cX4_readApplied 8 (some .boolean) (344 + d) (13700 + 40 * d) 0 0 [.ref (ad 43), .int z1] (wc cy ad σ) (some (.int q.1)) (wc cy ad q.2)) (hr_readComponent : ∀ (z1 : Int32) (σ : CS) (q : Int32 × CS), r_readComponent z1 σ = some q → MV l D (cyT cy) (inC ad) yX4_readComponent cX4_readComponent 8 (some .boolean) (344 + d) (13700 + 40 * d) 0 0 [.ref (ad 43), .int z1] (wc cy ad σ) (some (.int q.1)) (wc cy ad q.2)) (hr_checkInferred : ∀ (z1 : Int32) (z2 : Int32) (σ : CS) (q : Int32 × CS), r_checkInferred z1 z2 σ = some q → MV l D (cyT cy) (inC ad) yX4_checkInferred cX4_checkInferred 9 (some .int) (344 + d) (13700 + 40 * d) 0 0 [.ref (ad 43), .int z1, .int z2] (wc cy ad σ) (some (.int q.1)) (wc cy ad q.2)) : ∀ (s0 : Int32) (σ : CS), B_Reader_checkTerm_107 r_readType r_readBinder r_checkTerm r_readPair r_readFunction r_inferTerm r_readAnnotated r_readApplied r_readComponent r_checkInferred s0 σ = some q → V p l e { frames := 344 + (d + 1), cells := 0, slots := 0, locals := 13700 + 40 * (d + 1) } s m args below meth c D (inC ad) 6 (MQ below (vQ D (inC ad) (some (.int q.1)) (wc cy ad q.2)) args s 0 0 (inC ad)) 0 0 (wc cy ad σ) 107 [(0, .ref (ad 43))] [.int s0] := by
  intro s0 σ h
  rw [B_Reader_checkTerm_107] at h
  obtain rfl := Option.some.inj h
  exact v_iret C dX4_checkTerm_107
set_option maxHeartbeats 4000000 in
set_option maxRecDepth 20000 in
theorem b_Reader_checkTerm_125 {p : Program} {l : Launch} {e : Env} {s : State} {m : MethodId} {args : Array Value} {below : List Frame} {meth : Method} {c : Code} {D : va_G} {cy : Nat → ClassId} {ad : Nat → Nat} {q : Int32 × CS}  {r_readType : Int32 → CS → Option (Int32 × CS)} {r_readBinder : Int32 → Int32 → Int32 → CS → Option (Int32 × CS)} {r_checkTerm : Int32 → Int32 → CS → Option (Int32 × CS)} {r_readPair : Int32 → Int32 → CS → Option (Int32 × CS)} {r_readFunction : Int32 → Int32 → CS → Option (Int32 × CS)} {r_inferTerm : Int32 → CS → Option (Int32 × CS)} {r_readAnnotated : Int32 → CS → Option (Int32 × CS)} {r_readApplied : Int32 → CS → Option (Int32 × CS)} {r_readComponent : Int32 → CS → Option (Int32 × CS)} {r_checkInferred : Int32 → Int32 → CS → Option (Int32 × CS)} {d : Nat} (C : vC p s m args meth c cX4_checkTerm 6 (some .int) RX4 D (cyT cy)) (hA : adOK ad) (hr_readType : ∀ (z1 : Int32) (σ : CS) (q : Int32 × CS), r_readType z1 σ = some q → MV l D (cyT cy) (inC ad) yX4_readType cX4_readType 7 (some .int) (344 + d) (13700 + 40 * d) 0 0 [.ref (ad 43), .int z1] (wc cy ad σ) (some (.int q.1)) (wc cy ad q.2)) (hr_readBinder : ∀ (z1 : Int32) (z2 : Int32) (z3 : Int32) (σ : CS) (q : Int32 × CS), r_readBinder z1 z2 z3 σ = some q → MV l D (cyT cy) (inC ad) yX4_readBinder cX4_readBinder 7 (some .int) (344 + d) (13700 + 40 * d) 0 0 [.ref (ad 43), .int z1, .int z2, .int z3] (wc cy ad σ) (some (.int q.1)) (wc cy ad q.2)) (hr_checkTerm : ∀ (z1 : Int32) (z2 : Int32) (σ : CS) (q : Int32 × CS), r_checkTerm z1 z2 σ = some q → MV l D (cyT cy) (inC ad) yX4_checkTerm cX4_checkTerm 6 (some .int) (344 + d) (13700 + 40 * d) 0 0 [.ref (ad 43), .int z1, .int z2] (wc cy ad σ) (some (.int q.1)) (wc cy ad q.2)) (hr_readPair : ∀ (z1 : Int32) (z2 : Int32) (σ : CS) (q : Int32 × CS), r_readPair z1 z2 σ = some q → MV l D (cyT cy) (inC ad) yX4_readPair cX4_readPair 7 (some .int) (344 + d) (13700 + 40 * d) 0 0 [.ref (ad 43), .int z1, .int z2] (wc cy ad σ) (some (.int q.1)) (wc cy ad q.2)) (hr_readFunction : ∀ (z1 : Int32) (z2 : Int32) (σ : CS) (q : Int32 × CS), r_readFunction z1 z2 σ = some q → MV l D (cyT cy) (inC ad) yX4_readFunction cX4_readFunction 6 (some .int) (344 + d) (13700 + 40 * d) 0 0 [.ref (ad 43), .int z1, .int z2] (wc cy ad σ) (some (.int q.1)) (wc cy ad q.2)) (hr_inferTerm : ∀ (z1 : Int32) (σ : CS) (q : Int32 × CS), r_inferTerm z1 σ = some q → MV l D (cyT cy) (inC ad) yX4_inferTerm cX4_inferTerm 7 (some .int) (344 + d) (13700 + 40 * d) 0 0 [.ref (ad 43), .int z1] (wc cy ad σ) (some (.int q.1)) (wc cy ad q.2)) (hr_readAnnotated : ∀ (z1 : Int32) (σ : CS) (q : Int32 × CS), r_readAnnotated z1 σ = some q → MV l D (cyT cy) (inC ad) yX4_readAnnotated cX4_readAnnotated 5 (some .boolean) (344 + d) (13700 + 40 * d) 0 0 [.ref (ad 43), .int z1] (wc cy ad σ) (some (.int q.1)) (wc cy ad q.2)) (hr_readApplied : ∀ (z1 : Int32) (σ : CS) (q : Int32 × CS), r_readApplied z1 σ = some q → MV l D (cyT cy) (inC ad) yX4_readApplied cX4_readApplied 8 (some .boolean) (344 + d) (13700 + 40 * d) 0 0 [.ref (ad 43), .int z1] (wc cy ad σ) (some (.int q.1)) (wc cy ad q.2)) (hr_readComponent : ∀ (z1 : Int32) (σ : CS) (q : Int32 × CS), r_readComponent z1 σ = some q → MV l D (cyT cy) (inC ad) yX4_readComponent cX4_readComponent 8 (some .boolean) (344 + d) (13700 + 40 * d) 0 0 [.ref (ad 43), .int z1] (wc cy ad σ) (some (.int q.1)) (wc cy ad q.2)) (hr_checkInferred : ∀ (z1 : Int32) (z2 : Int32) (σ : CS) (q : Int32 × CS), r_checkInferred z1 z2 σ = some q → MV l D (cyT cy) (inC ad) yX4_checkInferred cX4_checkInferred 9 (some .int) (344 + d) (13700 + 40 * d) 0 0 [.ref (ad 43), .int z1, .int z2] (wc cy ad σ) (some (.int q.1)) (wc cy ad q.2)) : ∀ (x1 : Int32) (x2 : Int32) (x4 : Int32) (s0 : Int32) (σ : CS), B_Reader_checkTerm_125 r_readType r_readBinder r_checkTerm r_readPair r_readFunction r_inferTerm r_readAnnotated r_readApplied r_readComponent r_checkInferred x1 x2 x4 s0 σ = some q → V p l e { frames := 344 + (d + 1), cells := 0, slots := 0, locals := 13700 + 40 * (d + 1) } s m args below meth c D (inC ad) 6 (MQ below (vQ D (inC ad) (some (.int q.1)) (wc cy ad q.2)) args s 0 0 (inC ad)) 0 0 (wc cy ad σ) 125 [(0, .ref (ad 43)), (1, .int x1), (2, .int x2), (4, .int x4)] [.int s0] := by
  intro x1 x2 x4 s0 σ h
  rw [B_Reader_checkTerm_125] at h
  refine v_istore C [(5, .int s0), (0, .ref (ad 43)), (1, .int x1), (2, .int x2), (4, .int x4)] dX4_checkTerm_125 (by decide) rfl ?_
  refine v_iload C 0 dX4_checkTerm_127 rfl ?_
  refine v_if_eq C 141 dX4_checkTerm_129 (by decide) (fun c1 => ?_) (fun c1 => ?_)
  · rw [if_pos c1] at h
    refine v_aload_n C 1 dX4_checkTerm_141 rfl rfl ?_
    refine v_iload C 4 dX4_checkTerm_142 rfl ?_
    obtain ⟨q1, hq1, h⟩ := bd_of h
    refine c_call C [.int x4] [] (c_Reader_refuse hA _ _ hq1) hY_Reader_refuse rfl (by decide) (okS _ 43 (by decide) rfl) ml_4_124 ⟨(by omega : 0 + 1 ≤ 344 + (d + 1)), (by omega : 8 + (2 + 11) + 0 ≤ 13700 + 40 * (d + 1))⟩ ⟨Nat.zero_le _, Nat.zero_le _⟩ rfl rfl (Nat.le_of_ble_eq_true rfl) dX4_checkTerm_144 (wc_D hA cy _) ?_
    exact v_sub [1] rfl ((b_Reader_checkTerm_147 C hA hr_readType hr_readBinder hr_checkTerm hr_readPair hr_readFunction hr_inferTerm hr_readAnnotated hr_readApplied hr_readComponent hr_checkInferred) _ _ h)
  · rw [if_neg c1] at h
    refine v_aload_n C 1 dX4_checkTerm_132 rfl rfl ?_
    refine v_iload_n C 2 dX4_checkTerm_133 rfl rfl ?_
    refine v_iload_n C 3 dX4_checkTerm_134 rfl rfl ?_
    obtain ⟨q2, hq2, h⟩ := bd_of h
    refine c_call C [.int x1, .int x2] [] (hr_readFunction _ _ _ _ hq2) hY_Reader_readFunction rfl (by decide) (okS _ 43 (by decide) rfl) ml_4_157 ⟨(by omega : (344 + d) + 1 ≤ 344 + (d + 1)), (by omega : 8 + (6 + 11) + (13700 + 40 * d) ≤ 13700 + 40 * (d + 1))⟩ ⟨Nat.zero_le _, Nat.zero_le _⟩ rfl rfl (Nat.le_of_ble_eq_true rfl) dX4_checkTerm_135 (wc_D hA cy _) ?_
    refine v_goto C 147 dX4_checkTerm_138 (by decide) ?_
    exact v_sub [1] rfl ((b_Reader_checkTerm_147 C hA hr_readType hr_readBinder hr_checkTerm hr_readPair hr_readFunction hr_inferTerm hr_readAnnotated hr_readApplied hr_readComponent hr_checkInferred) _ _ h)
set_option maxHeartbeats 4000000 in
set_option maxRecDepth 20000 in
theorem b_Reader_checkTerm_124 {p : Program} {l : Launch} {e : Env} {s : State} {m : MethodId} {args : Array Value} {below : List Frame} {meth : Method} {c : Code} {D : va_G} {cy : Nat → ClassId} {ad : Nat → Nat} {q : Int32 × CS}  {r_readType : Int32 → CS → Option (Int32 × CS)} {r_readBinder : Int32 → Int32 → Int32 → CS → Option (Int32 × CS)} {r_checkTerm : Int32 → Int32 → CS → Option (Int32 × CS)} {r_readPair : Int32 → Int32 → CS → Option (Int32 × CS)} {r_readFunction : Int32 → Int32 → CS → Option (Int32 × CS)} {r_inferTerm : Int32 → CS → Option (Int32 × CS)} {r_readAnnotated : Int32 → CS → Option (Int32 × CS)} {r_readApplied : Int32 → CS → Option (Int32 × CS)} {r_readComponent : Int32 → CS → Option (Int32 × CS)} {r_checkInferred : Int32 → Int32 → CS → Option (Int32 × CS)} {d : Nat} (C : vC p s m args meth c cX4_checkTerm 6 (some .int) RX4 D (cyT cy)) (hA : adOK ad) (hr_readType : ∀ (z1 : Int32) (σ : CS) (q : Int32 × CS), r_readType z1 σ = some q → MV l D (cyT cy) (inC ad) yX4_readType cX4_readType 7 (some .int) (344 + d) (13700 + 40 * d) 0 0 [.ref (ad 43), .int z1] (wc cy ad σ) (some (.int q.1)) (wc cy ad q.2)) (hr_readBinder : ∀ (z1 : Int32) (z2 : Int32) (z3 : Int32) (σ : CS) (q : Int32 × CS), r_readBinder z1 z2 z3 σ = some q → MV l D (cyT cy) (inC ad) yX4_readBinder cX4_readBinder 7 (some .int) (344 + d) (13700 + 40 * d) 0 0 [.ref (ad 43), .int z1, .int z2, .int z3] (wc cy ad σ) (some (.int q.1)) (wc cy ad q.2)) (hr_checkTerm : ∀ (z1 : Int32) (z2 : Int32) (σ : CS) (q : Int32 × CS), r_checkTerm z1 z2 σ = some q → MV l D (cyT cy) (inC ad) yX4_checkTerm cX4_checkTerm 6 (some .int) (344 + d) (13700 + 40 * d) 0 0 [.ref (ad 43), .int z1, .int z2] (wc cy ad σ) (some (.int q.1)) (wc cy ad q.2)) (hr_readPair : ∀ (z1 : Int32) (z2 : Int32) (σ : CS) (q : Int32 × CS), r_readPair z1 z2 σ = some q → MV l D (cyT cy) (inC ad) yX4_readPair cX4_readPair 7 (some .int) (344 + d) (13700 + 40 * d) 0 0 [.ref (ad 43), .int z1, .int z2] (wc cy ad σ) (some (.int q.1)) (wc cy ad q.2)) (hr_readFunction : ∀ (z1 : Int32) (z2 : Int32) (σ : CS) (q : Int32 × CS), r_readFunction z1 z2 σ = some q → MV l D (cyT cy) (inC ad) yX4_readFunction cX4_readFunction 6 (some .int) (344 + d) (13700 + 40 * d) 0 0 [.ref (ad 43), .int z1, .int z2] (wc cy ad σ) (some (.int q.1)) (wc cy ad q.2)) (hr_inferTerm : ∀ (z1 : Int32) (σ : CS) (q : Int32 × CS), r_inferTerm z1 σ = some q → MV l D (cyT cy) (inC ad) yX4_inferTerm cX4_inferTerm 7 (some .int) (344 + d) (13700 + 40 * d) 0 0 [.ref (ad 43), .int z1] (wc cy ad σ) (some (.int q.1)) (wc cy ad q.2)) (hr_readAnnotated : ∀ (z1 : Int32) (σ : CS) (q : Int32 × CS), r_readAnnotated z1 σ = some q → MV l D (cyT cy) (inC ad) yX4_readAnnotated cX4_readAnnotated 5 (some .boolean) (344 + d) (13700 + 40 * d) 0 0 [.ref (ad 43), .int z1] (wc cy ad σ) (some (.int q.1)) (wc cy ad q.2)) (hr_readApplied : ∀ (z1 : Int32) (σ : CS) (q : Int32 × CS), r_readApplied z1 σ = some q → MV l D (cyT cy) (inC ad) yX4_readApplied cX4_readApplied 8 (some .boolean) (344 + d) (13700 + 40 * d) 0 0 [.ref (ad 43), .int z1] (wc cy ad σ) (some (.int q.1)) (wc cy ad q.2)) (hr_readComponent : ∀ (z1 : Int32) (σ : CS) (q : Int32 × CS), r_readComponent z1 σ = some q → MV l D (cyT cy) (inC ad) yX4_readComponent cX4_readComponent 8 (some .boolean) (344 + d) (13700 + 40 * d) 0 0 [.ref (ad 43), .int z1] (wc cy ad σ) (some (.int q.1)) (wc cy ad q.2)) (hr_checkInferred : ∀ (z1 : Int32) (z2 : Int32) (σ : CS) (q : Int32 × CS), r_checkInferred z1 z2 σ = some q → MV l D (cyT cy) (inC ad) yX4_checkInferred cX4_checkInferred 9 (some .int) (344 + d) (13700 + 40 * d) 0 0 [.ref (ad 43), .int z1, .int z2] (wc cy ad σ) (some (.int q.1)) (wc cy ad q.2)) {k125 : Int32 → Int32 → Int32 → Int32 → CS → Option (Int32 × CS)} (hk125 : ∀ (x1 : Int32) (x2 : Int32) (x4 : Int32) (s0 : Int32) (σ : CS), k125 x1 x2 x4 s0 σ = some q → V p l e { frames := 344 + (d + 1), cells := 0, slots := 0, locals := 13700 + 40 * (d + 1) } s m args below meth c D (inC ad) 6 (MQ below (vQ D (inC ad) (some (.int q.1)) (wc cy ad q.2)) args s 0 0 (inC ad)) 0 0 (wc cy ad σ) 125 [(0, .ref (ad 43)), (1, .int x1), (2, .int x2), (4, .int x4)] [.int s0]) : ∀ (x1 : Int32) (x2 : Int32) (x4 : Int32) (σ : CS), B_Reader_checkTerm_124 r_readType r_readBinder r_checkTerm r_readPair r_readFunction r_inferTerm r_readAnnotated r_readApplied r_readComponent r_checkInferred k125 x1 x2 x4 σ = some q → V p l e { frames := 344 + (d + 1), cells := 0, slots := 0, locals := 13700 + 40 * (d + 1) } s m args below meth c D (inC ad) 6 (MQ below (vQ D (inC ad) (some (.int q.1)) (wc cy ad q.2)) args s 0 0 (inC ad)) 0 0 (wc cy ad σ) 124 [(0, .ref (ad 43)), (1, .int x1), (2, .int x2), (4, .int x4)] [] := by
  intro x1 x2 x4 σ h
  rw [B_Reader_checkTerm_124] at h
  refine v_iconst C 0 dX4_checkTerm_124 (by decide) ?_
  exact v_sub [0, 1, 2, 3] rfl (hk125 _ _ _ _ _ h)
set_option maxHeartbeats 4000000 in
set_option maxRecDepth 20000 in
theorem w_Reader_checkTerm {l : Launch} {D : va_G} {cy : Nat → ClassId} {ad : Nat → Nat} {q : Int32 × CS} {r_readType : Int32 → CS → Option (Int32 × CS)} {r_readBinder : Int32 → Int32 → Int32 → CS → Option (Int32 × CS)} {r_checkTerm : Int32 → Int32 → CS → Option (Int32 × CS)} {r_readPair : Int32 → Int32 → CS → Option (Int32 × CS)} {r_readFunction : Int32 → Int32 → CS → Option (Int32 × CS)} {r_inferTerm : Int32 → CS → Option (Int32 × CS)} {r_readAnnotated : Int32 → CS → Option (Int32 × CS)} {r_readApplied : Int32 → CS → Option (Int32 × CS)} {r_readComponent : Int32 → CS → Option (Int32 × CS)} {r_checkInferred : Int32 → Int32 → CS → Option (Int32 × CS)} {d : Nat} (hA : adOK ad) (hr_readType : ∀ (z1 : Int32) (σ : CS) (q : Int32 × CS), r_readType z1 σ = some q → MV l D (cyT cy) (inC ad) yX4_readType cX4_readType 7 (some .int) (344 + d) (13700 + 40 * d) 0 0 [.ref (ad 43), .int z1] (wc cy ad σ) (some (.int q.1)) (wc cy ad q.2)) (hr_readBinder : ∀ (z1 : Int32) (z2 : Int32) (z3 : Int32) (σ : CS) (q : Int32 × CS), r_readBinder z1 z2 z3 σ = some q → MV l D (cyT cy) (inC ad) yX4_readBinder cX4_readBinder 7 (some .int) (344 + d) (13700 + 40 * d) 0 0 [.ref (ad 43), .int z1, .int z2, .int z3] (wc cy ad σ) (some (.int q.1)) (wc cy ad q.2)) (hr_checkTerm : ∀ (z1 : Int32) (z2 : Int32) (σ : CS) (q : Int32 × CS), r_checkTerm z1 z2 σ = some q → MV l D (cyT cy) (inC ad) yX4_checkTerm cX4_checkTerm 6 (some .int) (344 + d) (13700 + 40 * d) 0 0 [.ref (ad 43), .int z1, .int z2] (wc cy ad σ) (some (.int q.1)) (wc cy ad q.2)) (hr_readPair : ∀ (z1 : Int32) (z2 : Int32) (σ : CS) (q : Int32 × CS), r_readPair z1 z2 σ = some q → MV l D (cyT cy) (inC ad) yX4_readPair cX4_readPair 7 (some .int) (344 + d) (13700 + 40 * d) 0 0 [.ref (ad 43), .int z1, .int z2] (wc cy ad σ) (some (.int q.1)) (wc cy ad q.2)) (hr_readFunction : ∀ (z1 : Int32) (z2 : Int32) (σ : CS) (q : Int32 × CS), r_readFunction z1 z2 σ = some q → MV l D (cyT cy) (inC ad) yX4_readFunction cX4_readFunction 6 (some .int) (344 + d) (13700 + 40 * d) 0 0 [.ref (ad 43), .int z1, .int z2] (wc cy ad σ) (some (.int q.1)) (wc cy ad q.2)) (hr_inferTerm : ∀ (z1 : Int32) (σ : CS) (q : Int32 × CS), r_inferTerm z1 σ = some q → MV l D (cyT cy) (inC ad) yX4_inferTerm cX4_inferTerm 7 (some .int) (344 + d) (13700 + 40 * d) 0 0 [.ref (ad 43), .int z1] (wc cy ad σ) (some (.int q.1)) (wc cy ad q.2)) (hr_readAnnotated : ∀ (z1 : Int32) (σ : CS) (q : Int32 × CS), r_readAnnotated z1 σ = some q → MV l D (cyT cy) (inC ad) yX4_readAnnotated cX4_readAnnotated 5 (some .boolean) (344 + d) (13700 + 40 * d) 0 0 [.ref (ad 43), .int z1] (wc cy ad σ) (some (.int q.1)) (wc cy ad q.2)) (hr_readApplied : ∀ (z1 : Int32) (σ : CS) (q : Int32 × CS), r_readApplied z1 σ = some q → MV l D (cyT cy) (inC ad) yX4_readApplied cX4_readApplied 8 (some .boolean) (344 + d) (13700 + 40 * d) 0 0 [.ref (ad 43), .int z1] (wc cy ad σ) (some (.int q.1)) (wc cy ad q.2)) (hr_readComponent : ∀ (z1 : Int32) (σ : CS) (q : Int32 × CS), r_readComponent z1 σ = some q → MV l D (cyT cy) (inC ad) yX4_readComponent cX4_readComponent 8 (some .boolean) (344 + d) (13700 + 40 * d) 0 0 [.ref (ad 43), .int z1] (wc cy ad σ) (some (.int q.1)) (wc cy ad q.2)) (hr_checkInferred : ∀ (z1 : Int32) (z2 : Int32) (σ : CS) (q : Int32 × CS), r_checkInferred z1 z2 σ = some q → MV l D (cyT cy) (inC ad) yX4_checkInferred cX4_checkInferred 9 (some .int) (344 + d) (13700 + 40 * d) 0 0 [.ref (ad 43), .int z1, .int z2] (wc cy ad σ) (some (.int q.1)) (wc cy ad q.2)) (x1 : Int32) (x2 : Int32) (σ : CS) (h : F_Reader_checkTerm r_readType r_readBinder r_checkTerm r_readPair r_readFunction r_inferTerm r_readAnnotated r_readApplied r_readComponent r_checkInferred x1 x2 σ = some q) : MV l D (cyT cy) (inC ad) yX4_checkTerm cX4_checkTerm 6 (some .int) (344 + (d + 1)) (13700 + 40 * (d + 1)) 0 0 [.ref (ad 43), .int x1, .int x2] (wc cy ad σ) (some (.int q.1)) (wc cy ad q.2) := by
  refine MV.of (by decide) (wc_D hA cy σ) (Nat.le_of_ble_eq_true rfl) [(0, .ref (ad 43)), (1, .int x1), (2, .int x2)] rfl ?_
  intro p e s m args below meth c C
  rw [F_Reader_checkTerm] at h
  refine v_aload_n C 0 dX4_checkTerm_0 rfl rfl ?_
  refine c_getS C 38 fl_4_29 rfl rfl (by decide) (okS _ 43 (by decide) rfl) dX4_checkTerm_1 ?_
  refine v_iload_n C 1 dX4_checkTerm_4 rfl rfl ?_
  obtain ⟨q1, hq1, h⟩ := bd_of h
  refine c_call C [.int x1] [] (c_Values_formOf hA _ _ hq1) hY_Values_formOf rfl (by decide) (okS _ 38 (by decide) rfl) ml_4_151 ⟨(by omega : 1 + 1 ≤ 344 + (d + 1)), (by omega : 8 + (2 + 11) + 21 ≤ 13700 + 40 * (d + 1))⟩ ⟨Nat.zero_le _, Nat.zero_le _⟩ rfl rfl (Nat.le_of_ble_eq_true rfl) dX4_checkTerm_5 (wc_D hA cy _) ?_
  refine v_istore_n C [(3, .int q1.1), (0, .ref (ad 43)), (1, .int x1), (2, .int x2)] dX4_checkTerm_8 rfl (by decide) rfl ?_
  refine v_aload_n C 1 dX4_checkTerm_9 rfl rfl ?_
  refine c_getI C fl_4_41 rfl (okS _ 43 (by decide) rfl) dX4_checkTerm_10 ?_
  refine v_istore C [(4, .int (q1.2.1 43 7)), (3, .int q1.1), (0, .ref (ad 43)), (1, .int x1), (2, .int x2)] dX4_checkTerm_13 (by decide) rfl ?_
  refine v_aload_n C 2 dX4_checkTerm_15 rfl rfl ?_
  obtain ⟨q2, hq2, h⟩ := bd_of h
  refine c_call C [] [] (c_Reader_peek hA _ hq2) hY_Reader_peek rfl (by decide) (okS _ 43 (by decide) rfl) ml_4_99 ⟨(by omega : 0 + 1 ≤ 344 + (d + 1)), (by omega : 8 + (1 + 11) + 0 ≤ 13700 + 40 * (d + 1))⟩ ⟨Nat.zero_le _, Nat.zero_le _⟩ rfl rfl (Nat.le_of_ble_eq_true rfl) dX4_checkTerm_16 (wc_D hA cy _) ?_
  by_cases c1 : q2.1 = 42
  · rw [if_pos c1] at h
    refine v_lookup C 52 dX4_checkTerm_19 (by decide) (by rw [c1]; try rfl) (by decide) ?_
    refine v_iload_n C 1 dX4_checkTerm_52 rfl rfl ?_
    refine v_bipush C 49 dX4_checkTerm_53 (by decide) ?_
    refine v_icmp_eq C 65 dX4_checkTerm_55 (by decide) (fun c2 => ?_) (fun c2 => ?_)
    · rw [if_pos c2] at h
      refine v_aload_n C 2 dX4_checkTerm_65 rfl rfl ?_
      refine v_dup C dX4_checkTerm_66 rfl ?_
      refine c_getI C fl_4_41 rfl (okS _ 43 (by decide) rfl) dX4_checkTerm_67 ?_
      refine v_iconst C 1 dX4_checkTerm_70 (by decide) ?_
      refine v_iadd C dX4_checkTerm_71 ?_
      refine c_putI C fl_4_41 fw_4_7 rfl (by decide) (okS _ 43 (by decide) rfl) dX4_checkTerm_72 ?_
      refine v_aload_n C 2 dX4_checkTerm_75 rfl rfl ?_
      refine v_bipush C 42 dX4_checkTerm_76 (by decide) ?_
      refine v_iconst C (-1) dX4_checkTerm_78 (by decide) ?_
      refine v_iconst C (-1) dX4_checkTerm_79 (by decide) ?_
      refine v_iload C 0 dX4_checkTerm_80 rfl ?_
      obtain ⟨q3, hq3, h⟩ := bd_of h
      refine c_call C [.int 42, .int (-1), .int (-1), .int (q1.2.1 43 7)] [] (c_Reader_join hA _ _ _ _ _ hq3) hY_Reader_join rfl (by decide) (okS _ 43 (by decide) rfl) ml_4_142 ⟨(by omega : 4 + 1 ≤ 344 + (d + 1)), (by omega : 8 + (6 + 11) + 91 ≤ 13700 + 40 * (d + 1))⟩ ⟨Nat.zero_le _, Nat.zero_le _⟩ rfl rfl (Nat.le_of_ble_eq_true rfl) dX4_checkTerm_82 (wc_D hA cy _) ?_
      obtain rfl := Option.some.inj h
      exact v_iret C dX4_checkTerm_85
    · rw [if_neg c2] at h
      refine v_aload_n C 2 dX4_checkTerm_58 rfl rfl ?_
      refine v_iload C 0 dX4_checkTerm_59 rfl ?_
      obtain ⟨q4, hq4, h⟩ := bd_of h
      refine c_call C [.int (q1.2.1 43 7)] [] (c_Reader_refuse hA _ _ hq4) hY_Reader_refuse rfl (by decide) (okS _ 43 (by decide) rfl) ml_4_124 ⟨(by omega : 0 + 1 ≤ 344 + (d + 1)), (by omega : 8 + (2 + 11) + 0 ≤ 13700 + 40 * (d + 1))⟩ ⟨Nat.zero_le _, Nat.zero_le _⟩ rfl rfl (Nat.le_of_ble_eq_true rfl) dX4_checkTerm_61 (wc_D hA cy _) ?_
      obtain rfl := Option.some.inj h
      exact v_iret C dX4_checkTerm_64
  rw [if_neg c1] at h
  by_cases c3 : q2.1 = 44
  · rw [if_pos c3] at h
    refine v_lookup C 86 dX4_checkTerm_19 (by decide) (by rw [c3]; try rfl) (by decide) ?_
    refine v_iload_n C 1 dX4_checkTerm_86 rfl rfl ?_
    refine v_bipush C 83 dX4_checkTerm_87 (by decide) ?_
    refine v_icmp_ne C 101 dX4_checkTerm_89 (by decide) (fun c4 => ?_) (fun c4 => ?_)
    · rw [if_neg c4] at h
      refine v_aload_n C 2 dX4_checkTerm_101 rfl rfl ?_
      refine v_iload C 0 dX4_checkTerm_102 rfl ?_
      obtain ⟨q5, hq5, h⟩ := bd_of h
      refine c_call C [.int (q1.2.1 43 7)] [] (c_Reader_refuse hA _ _ hq5) hY_Reader_refuse rfl (by decide) (okS _ 43 (by decide) rfl) ml_4_124 ⟨(by omega : 0 + 1 ≤ 344 + (d + 1)), (by omega : 8 + (2 + 11) + 0 ≤ 13700 + 40 * (d + 1))⟩ ⟨Nat.zero_le _, Nat.zero_le _⟩ rfl rfl (Nat.le_of_ble_eq_true rfl) dX4_checkTerm_104 (wc_D hA cy _) ?_
      exact v_sub [2] rfl ((b_Reader_checkTerm_107 C hA hr_readType hr_readBinder hr_checkTerm hr_readPair hr_readFunction hr_inferTerm hr_readAnnotated hr_readApplied hr_readComponent hr_checkInferred) _ _ h)
    · rw [if_pos c4] at h
      refine v_aload_n C 2 dX4_checkTerm_92 rfl rfl ?_
      refine v_iload_n C 3 dX4_checkTerm_93 rfl rfl ?_
      refine v_iload_n C 4 dX4_checkTerm_94 rfl rfl ?_
      obtain ⟨q6, hq6, h⟩ := bd_of h
      refine c_call C [.int x1, .int x2] [] (hr_readPair _ _ _ _ hq6) hY_Reader_readPair rfl (by decide) (okS _ 43 (by decide) rfl) ml_4_154 ⟨(by omega : (344 + d) + 1 ≤ 344 + (d + 1)), (by omega : 8 + (7 + 11) + (13700 + 40 * d) ≤ 13700 + 40 * (d + 1))⟩ ⟨Nat.zero_le _, Nat.zero_le _⟩ rfl rfl (Nat.le_of_ble_eq_true rfl) dX4_checkTerm_95 (wc_D hA cy _) ?_
      refine v_goto C 107 dX4_checkTerm_98 (by decide) ?_
      exact v_sub [2] rfl ((b_Reader_checkTerm_107 C hA hr_readType hr_readBinder hr_checkTerm hr_readPair hr_readFunction hr_inferTerm hr_readAnnotated hr_readApplied hr_readComponent hr_checkInferred) _ _ h)
  rw [if_neg c3] at h
  by_cases c5 : q2.1 = 92
  · rw [if_pos c5] at h
    refine v_lookup C 108 dX4_checkTerm_19 (by decide) (by rw [c5]; try rfl) (by decide) ?_
    refine v_iload_n C 1 dX4_checkTerm_108 rfl rfl ?_
    refine v_bipush C 80 dX4_checkTerm_109 (by decide) ?_
    refine v_icmp_ne C 124 dX4_checkTerm_111 (by decide) (fun c6 => ?_) (fun c6 => ?_)
    · rw [if_neg c6] at h
      exact v_sub [2, 3, 4, 0] rfl ((b_Reader_checkTerm_124 C hA hr_readType hr_readBinder hr_checkTerm hr_readPair hr_readFunction hr_inferTerm hr_readAnnotated hr_readApplied hr_readComponent hr_checkInferred (b_Reader_checkTerm_125 C hA hr_readType hr_readBinder hr_checkTerm hr_readPair hr_readFunction hr_inferTerm hr_readAnnotated hr_readApplied hr_readComponent hr_checkInferred)) _ _ _ _ h)
    · rw [if_pos c6] at h
      refine v_iload_n C 4 dX4_checkTerm_114 rfl rfl ?_
      refine v_bipush C 10 dX4_checkTerm_115 (by decide) ?_
      refine v_icmp_ge C 124 dX4_checkTerm_117 (by decide) (fun c7 => ?_) (fun c7 => ?_)
      · rw [if_pos c7] at h
        exact v_sub [2, 3, 4, 0] rfl ((b_Reader_checkTerm_124 C hA hr_readType hr_readBinder hr_checkTerm hr_readPair hr_readFunction hr_inferTerm hr_readAnnotated hr_readApplied hr_readComponent hr_checkInferred (b_Reader_checkTerm_125 C hA hr_readType hr_readBinder hr_checkTerm hr_readPair hr_readFunction hr_inferTerm hr_readAnnotated hr_readApplied hr_readComponent hr_checkInferred)) _ _ _ _ h)
      · rw [if_neg c7] at h
        refine v_iconst C 1 dX4_checkTerm_120 (by decide) ?_
        refine v_goto C 125 dX4_checkTerm_121 (by decide) ?_
        exact v_sub [2, 3, 4, 0] rfl ((b_Reader_checkTerm_125 C hA hr_readType hr_readBinder hr_checkTerm hr_readPair hr_readFunction hr_inferTerm hr_readAnnotated hr_readApplied hr_readComponent hr_checkInferred) _ _ _ _ _ h)
  rw [if_neg c5] at h
  refine v_lookup C 148 dX4_checkTerm_19 (by decide) (show Op.lookupswitch.offset [(42, 33), (44, 67), (92, 89)] 129 (q2.1 : Int32).toInt = 129 from by rw [lv_osw (a := 42) c1 (by decide), lv_osw (a := 44) c3 (by decide), lv_osw (a := 92) c5 (by decide)]; try rfl) (by decide) ?_
  refine v_aload_n C 2 dX4_checkTerm_148 rfl rfl ?_
  refine v_iload_n C 3 dX4_checkTerm_149 rfl rfl ?_
  refine v_iload_n C 4 dX4_checkTerm_150 rfl rfl ?_
  obtain ⟨q7, hq7, h⟩ := bd_of h
  refine c_call C [.int x1, .int x2] [] (hr_checkInferred _ _ _ _ hq7) hY_Reader_checkInferred rfl (by decide) (okS _ 43 (by decide) rfl) ml_4_160 ⟨(by omega : (344 + d) + 1 ≤ 344 + (d + 1)), (by omega : 8 + (9 + 11) + (13700 + 40 * d) ≤ 13700 + 40 * (d + 1))⟩ ⟨Nat.zero_le _, Nat.zero_le _⟩ rfl rfl (Nat.le_of_ble_eq_true rfl) dX4_checkTerm_151 (wc_D hA cy _) ?_
  obtain rfl := Option.some.inj h
  exact v_iret C dX4_checkTerm_154
set_option maxHeartbeats 4000000 in
set_option maxRecDepth 20000 in
theorem b_Reader_readPair_94 {p : Program} {l : Launch} {e : Env} {s : State} {m : MethodId} {args : Array Value} {below : List Frame} {meth : Method} {c : Code} {D : va_G} {cy : Nat → ClassId} {ad : Nat → Nat} {q : Int32 × CS}  {r_readType : Int32 → CS → Option (Int32 × CS)} {r_readBinder : Int32 → Int32 → Int32 → CS → Option (Int32 × CS)} {r_checkTerm : Int32 → Int32 → CS → Option (Int32 × CS)} {r_readPair : Int32 → Int32 → CS → Option (Int32 × CS)} {r_readFunction : Int32 → Int32 → CS → Option (Int32 × CS)} {r_inferTerm : Int32 → CS → Option (Int32 × CS)} {r_readAnnotated : Int32 → CS → Option (Int32 × CS)} {r_readApplied : Int32 → CS → Option (Int32 × CS)} {r_readComponent : Int32 → CS → Option (Int32 × CS)} {r_checkInferred : Int32 → Int32 → CS → Option (Int32 × CS)} {d : Nat} (C : vC p s m args meth c cX4_readPair 7 (some .int) RX4 D (cyT cy)) (hA : adOK ad) (hr_readType : ∀ (z1 : Int32) (σ : CS) (q : Int32 × CS), r_readType z1 σ = some q → MV l D (cyT cy) (inC ad) yX4_readType cX4_readType 7 (some .int) (344 + d) (13700 + 40 * d) 0 0 [.ref (ad 43), .int z1] (wc cy ad σ) (some (.int q.1)) (wc cy ad q.2)) (hr_readBinder : ∀ (z1 : Int32) (z2 : Int32) (z3 : Int32) (σ : CS) (q : Int32 × CS), r_readBinder z1 z2 z3 σ = some q → MV l D (cyT cy) (inC ad) yX4_readBinder cX4_readBinder 7 (some .int) (344 + d) (13700 + 40 * d) 0 0 [.ref (ad 43), .int z1, .int z2, .int z3] (wc cy ad σ) (some (.int q.1)) (wc cy ad q.2)) (hr_checkTerm : ∀ (z1 : Int32) (z2 : Int32) (σ : CS) (q : Int32 × CS), r_checkTerm z1 z2 σ = some q → MV l D (cyT cy) (inC ad) yX4_checkTerm cX4_checkTerm 6 (some .int) (344 + d) (13700 + 40 * d) 0 0 [.ref (ad 43), .int z1, .int z2] (wc cy ad σ) (some (.int q.1)) (wc cy ad q.2)) (hr_readPair : ∀ (z1 : Int32) (z2 : Int32) (σ : CS) (q : Int32 × CS), r_readPair z1 z2 σ = some q → MV l D (cyT cy) (inC ad) yX4_readPair cX4_readPair 7 (some .int) (344 + d) (13700 + 40 * d) 0 0 [.ref (ad 43), .int z1, .int z2] (wc cy ad σ) (some (.int q.1)) (wc cy ad q.2)) (hr_readFunction : ∀ (z1 : Int32) (z2 : Int32) (σ : CS) (q : Int32 × CS), r_readFunction z1 z2 σ = some q → MV l D (cyT cy) (inC ad) yX4_readFunction cX4_readFunction 6 (some .int) (344 + d) (13700 + 40 * d) 0 0 [.ref (ad 43), .int z1, .int z2] (wc cy ad σ) (some (.int q.1)) (wc cy ad q.2)) (hr_inferTerm : ∀ (z1 : Int32) (σ : CS) (q : Int32 × CS), r_inferTerm z1 σ = some q → MV l D (cyT cy) (inC ad) yX4_inferTerm cX4_inferTerm 7 (some .int) (344 + d) (13700 + 40 * d) 0 0 [.ref (ad 43), .int z1] (wc cy ad σ) (some (.int q.1)) (wc cy ad q.2)) (hr_readAnnotated : ∀ (z1 : Int32) (σ : CS) (q : Int32 × CS), r_readAnnotated z1 σ = some q → MV l D (cyT cy) (inC ad) yX4_readAnnotated cX4_readAnnotated 5 (some .boolean) (344 + d) (13700 + 40 * d) 0 0 [.ref (ad 43), .int z1] (wc cy ad σ) (some (.int q.1)) (wc cy ad q.2)) (hr_readApplied : ∀ (z1 : Int32) (σ : CS) (q : Int32 × CS), r_readApplied z1 σ = some q → MV l D (cyT cy) (inC ad) yX4_readApplied cX4_readApplied 8 (some .boolean) (344 + d) (13700 + 40 * d) 0 0 [.ref (ad 43), .int z1] (wc cy ad σ) (some (.int q.1)) (wc cy ad q.2)) (hr_readComponent : ∀ (z1 : Int32) (σ : CS) (q : Int32 × CS), r_readComponent z1 σ = some q → MV l D (cyT cy) (inC ad) yX4_readComponent cX4_readComponent 8 (some .boolean) (344 + d) (13700 + 40 * d) 0 0 [.ref (ad 43), .int z1] (wc cy ad σ) (some (.int q.1)) (wc cy ad q.2)) (hr_checkInferred : ∀ (z1 : Int32) (z2 : Int32) (σ : CS) (q : Int32 × CS), r_checkInferred z1 z2 σ = some q → MV l D (cyT cy) (inC ad) yX4_checkInferred cX4_checkInferred 9 (some .int) (344 + d) (13700 + 40 * d) 0 0 [.ref (ad 43), .int z1, .int z2] (wc cy ad σ) (some (.int q.1)) (wc cy ad q.2)) : ∀ (s0 : Int32) (σ : CS), B_Reader_readPair_94 r_readType r_readBinder r_checkTerm r_readPair r_readFunction r_inferTerm r_readAnnotated r_readApplied r_readComponent r_checkInferred s0 σ = some q → V p l e { frames := 344 + (d + 1), cells := 0, slots := 0, locals := 13700 + 40 * (d + 1) } s m args below meth c D (inC ad) 7 (MQ below (vQ D (inC ad) (some (.int q.1)) (wc cy ad q.2)) args s 0 0 (inC ad)) 0 0 (wc cy ad σ) 94 [(0, .ref (ad 43))] [.int s0] := by
  intro s0 σ h
  rw [B_Reader_readPair_94] at h
  obtain rfl := Option.some.inj h
  exact v_iret C dX4_readPair_94
set_option maxHeartbeats 4000000 in
set_option maxRecDepth 20000 in
theorem w_Reader_readPair {l : Launch} {D : va_G} {cy : Nat → ClassId} {ad : Nat → Nat} {q : Int32 × CS} {r_readType : Int32 → CS → Option (Int32 × CS)} {r_readBinder : Int32 → Int32 → Int32 → CS → Option (Int32 × CS)} {r_checkTerm : Int32 → Int32 → CS → Option (Int32 × CS)} {r_readPair : Int32 → Int32 → CS → Option (Int32 × CS)} {r_readFunction : Int32 → Int32 → CS → Option (Int32 × CS)} {r_inferTerm : Int32 → CS → Option (Int32 × CS)} {r_readAnnotated : Int32 → CS → Option (Int32 × CS)} {r_readApplied : Int32 → CS → Option (Int32 × CS)} {r_readComponent : Int32 → CS → Option (Int32 × CS)} {r_checkInferred : Int32 → Int32 → CS → Option (Int32 × CS)} {d : Nat} (hA : adOK ad) (hr_readType : ∀ (z1 : Int32) (σ : CS) (q : Int32 × CS), r_readType z1 σ = some q → MV l D (cyT cy) (inC ad) yX4_readType cX4_readType 7 (some .int) (344 + d) (13700 + 40 * d) 0 0 [.ref (ad 43), .int z1] (wc cy ad σ) (some (.int q.1)) (wc cy ad q.2)) (hr_readBinder : ∀ (z1 : Int32) (z2 : Int32) (z3 : Int32) (σ : CS) (q : Int32 × CS), r_readBinder z1 z2 z3 σ = some q → MV l D (cyT cy) (inC ad) yX4_readBinder cX4_readBinder 7 (some .int) (344 + d) (13700 + 40 * d) 0 0 [.ref (ad 43), .int z1, .int z2, .int z3] (wc cy ad σ) (some (.int q.1)) (wc cy ad q.2)) (hr_checkTerm : ∀ (z1 : Int32) (z2 : Int32) (σ : CS) (q : Int32 × CS), r_checkTerm z1 z2 σ = some q → MV l D (cyT cy) (inC ad) yX4_checkTerm cX4_checkTerm 6 (some .int) (344 + d) (13700 + 40 * d) 0 0 [.ref (ad 43), .int z1, .int z2] (wc cy ad σ) (some (.int q.1)) (wc cy ad q.2)) (hr_readPair : ∀ (z1 : Int32) (z2 : Int32) (σ : CS) (q : Int32 × CS), r_readPair z1 z2 σ = some q → MV l D (cyT cy) (inC ad) yX4_readPair cX4_readPair 7 (some .int) (344 + d) (13700 + 40 * d) 0 0 [.ref (ad 43), .int z1, .int z2] (wc cy ad σ) (some (.int q.1)) (wc cy ad q.2)) (hr_readFunction : ∀ (z1 : Int32) (z2 : Int32) (σ : CS) (q : Int32 × CS), r_readFunction z1 z2 σ = some q → MV l D (cyT cy) (inC ad) yX4_readFunction cX4_readFunction 6 (some .int) (344 + d) (13700 + 40 * d) 0 0 [.ref (ad 43), .int z1, .int z2] (wc cy ad σ) (some (.int q.1)) (wc cy ad q.2)) (hr_inferTerm : ∀ (z1 : Int32) (σ : CS) (q : Int32 × CS), r_inferTerm z1 σ = some q → MV l D (cyT cy) (inC ad) yX4_inferTerm cX4_inferTerm 7 (some .int) (344 + d) (13700 + 40 * d) 0 0 [.ref (ad 43), .int z1] (wc cy ad σ) (some (.int q.1)) (wc cy ad q.2)) (hr_readAnnotated : ∀ (z1 : Int32) (σ : CS) (q : Int32 × CS), r_readAnnotated z1 σ = some q → MV l D (cyT cy) (inC ad) yX4_readAnnotated cX4_readAnnotated 5 (some .boolean) (344 + d) (13700 + 40 * d) 0 0 [.ref (ad 43), .int z1] (wc cy ad σ) (some (.int q.1)) (wc cy ad q.2)) (hr_readApplied : ∀ (z1 : Int32) (σ : CS) (q : Int32 × CS), r_readApplied z1 σ = some q → MV l D (cyT cy) (inC ad) yX4_readApplied cX4_readApplied 8 (some .boolean) (344 + d) (13700 + 40 * d) 0 0 [.ref (ad 43), .int z1] (wc cy ad σ) (some (.int q.1)) (wc cy ad q.2)) (hr_readComponent : ∀ (z1 : Int32) (σ : CS) (q : Int32 × CS), r_readComponent z1 σ = some q → MV l D (cyT cy) (inC ad) yX4_readComponent cX4_readComponent 8 (some .boolean) (344 + d) (13700 + 40 * d) 0 0 [.ref (ad 43), .int z1] (wc cy ad σ) (some (.int q.1)) (wc cy ad q.2)) (hr_checkInferred : ∀ (z1 : Int32) (z2 : Int32) (σ : CS) (q : Int32 × CS), r_checkInferred z1 z2 σ = some q → MV l D (cyT cy) (inC ad) yX4_checkInferred cX4_checkInferred 9 (some .int) (344 + d) (13700 + 40 * d) 0 0 [.ref (ad 43), .int z1, .int z2] (wc cy ad σ) (some (.int q.1)) (wc cy ad q.2)) (x1 : Int32) (x2 : Int32) (σ : CS) (h : F_Reader_readPair r_readType r_readBinder r_checkTerm r_readPair r_readFunction r_inferTerm r_readAnnotated r_readApplied r_readComponent r_checkInferred x1 x2 σ = some q) : MV l D (cyT cy) (inC ad) yX4_readPair cX4_readPair 7 (some .int) (344 + (d + 1)) (13700 + 40 * (d + 1)) 0 0 [.ref (ad 43), .int x1, .int x2] (wc cy ad σ) (some (.int q.1)) (wc cy ad q.2) := by
  refine MV.of (by decide) (wc_D hA cy σ) (Nat.le_of_ble_eq_true rfl) [(0, .ref (ad 43)), (1, .int x1), (2, .int x2)] rfl ?_
  intro p e s m args below meth c C
  rw [F_Reader_readPair] at h
  refine v_aload_n C 0 dX4_readPair_0 rfl rfl ?_
  refine c_getI C fl_4_41 rfl (okS _ 43 (by decide) rfl) dX4_readPair_1 ?_
  refine v_istore_n C [(3, .int (σ.1 43 7)), (0, .ref (ad 43)), (1, .int x1), (2, .int x2)] dX4_readPair_4 rfl (by decide) rfl ?_
  refine v_aload_n C 1 dX4_readPair_5 rfl rfl ?_
  refine v_dup C dX4_readPair_6 rfl ?_
  refine c_getI C fl_4_41 rfl (okS _ 43 (by decide) rfl) dX4_readPair_7 ?_
  refine v_iconst C 1 dX4_readPair_10 (by decide) ?_
  refine v_iadd C dX4_readPair_11 ?_
  refine c_putI C fl_4_41 fw_4_7 rfl (by decide) (okS _ 43 (by decide) rfl) dX4_readPair_12 ?_
  refine v_aload_n C 1 dX4_readPair_15 rfl rfl ?_
  refine v_aload_n C 1 dX4_readPair_16 rfl rfl ?_
  refine c_getS C 38 fl_4_29 rfl rfl (by decide) (okS _ 43 (by decide) rfl) dX4_readPair_17 ?_
  refine v_iload_n C 2 dX4_readPair_20 rfl rfl ?_
  obtain ⟨q1, hq1, h⟩ := bd_of h
  refine c_call C [.int x1] [.ref (ad 43)] (c_Values_firstType hA _ _ hq1) hY_Values_firstType rfl (by decide) (okS _ 38 (by decide) rfl) ml_4_183 ⟨(by omega : 2 + 1 ≤ 344 + (d + 1)), (by omega : 8 + (2 + 11) + 45 ≤ 13700 + 40 * (d + 1))⟩ ⟨Nat.zero_le _, Nat.zero_le _⟩ rfl rfl (Nat.le_of_ble_eq_true rfl) dX4_readPair_21 (wc_D hA cy _) ?_
  refine v_iload_n C 3 dX4_readPair_24 rfl rfl ?_
  obtain ⟨q2, hq2, h⟩ := bd_of h
  refine c_call C [.int q1.1, .int x2] [] (hr_checkTerm _ _ _ _ hq2) hY_Reader_checkTerm rfl (by decide) (okS _ 43 (by decide) rfl) ml_4_70 ⟨(by omega : (344 + d) + 1 ≤ 344 + (d + 1)), (by omega : 8 + (6 + 11) + (13700 + 40 * d) ≤ 13700 + 40 * (d + 1))⟩ ⟨Nat.zero_le _, Nat.zero_le _⟩ rfl rfl (Nat.le_of_ble_eq_true rfl) dX4_readPair_25 (wc_D hA cy _) ?_
  refine v_istore C [(4, .int q2.1), (3, .int (σ.1 43 7)), (0, .ref (ad 43)), (1, .int x1), (2, .int x2)] dX4_readPair_28 (by decide) rfl ?_
  refine v_iload C 0 dX4_readPair_30 rfl ?_
  refine v_iconst C (-1) dX4_readPair_32 (by decide) ?_
  refine v_icmp_ne C 38 dX4_readPair_33 (by decide) (fun c1 => ?_) (fun c1 => ?_)
  · rw [if_neg c1] at h
    refine v_aload_n C 2 dX4_readPair_38 rfl rfl ?_
    refine c_getS C 38 fl_4_29 rfl rfl (by decide) (okS _ 43 (by decide) rfl) dX4_readPair_39 ?_
    refine v_iload C 0 dX4_readPair_42 rfl ?_
    refine v_aload_n C 2 dX4_readPair_44 rfl rfl ?_
    refine v_iload_n C 4 dX4_readPair_45 rfl rfl ?_
    obtain ⟨q3, hq3, h⟩ := bd_of h
    refine c_call C [.int x2] [.int q2.1, .ref (ad 38)] (c_Reader_scope hA _ _ hq3) hY_Reader_scope rfl (by decide) (okS _ 43 (by decide) rfl) ml_4_145 ⟨(by omega : 0 + 1 ≤ 344 + (d + 1)), (by omega : 8 + (2 + 11) + 0 ≤ 13700 + 40 * (d + 1))⟩ ⟨Nat.zero_le _, Nat.zero_le _⟩ rfl rfl (Nat.le_of_ble_eq_true rfl) dX4_readPair_46 (wc_D hA cy _) ?_
    refine v_bipush C 104 dX4_readPair_49 (by decide) ?_
    obtain ⟨q4, hq4, h⟩ := bd_of h
    refine c_callN C [.int q2.1, .int q3.1, .int 104] [] (c_Values_evaluate hA _ _ _ _ hq4) hY_Values_evaluate rfl (by decide) (okS _ 38 (by decide) rfl) ml_4_186 ⟨(by omega : 222 + 1 ≤ 344 + (d + 1)), (by omega : 8 + (9 + 11) + 8846 ≤ 13700 + 40 * (d + 1))⟩ ⟨Nat.zero_le _, Nat.zero_le _⟩ rfl rfl (Nat.le_of_ble_eq_true rfl) dX4_readPair_51 (wc_D hA cy _) ?_
    refine v_istore C [(5, .int q4.1), (4, .int q2.1), (3, .int (σ.1 43 7)), (0, .ref (ad 43)), (1, .int x1), (2, .int x2)] dX4_readPair_54 (by decide) rfl ?_
    refine v_aload_n C 3 dX4_readPair_56 rfl rfl ?_
    refine v_aload_n C 3 dX4_readPair_57 rfl rfl ?_
    refine c_getS C 38 fl_4_29 rfl rfl (by decide) (okS _ 43 (by decide) rfl) dX4_readPair_58 ?_
    refine v_iload_n C 4 dX4_readPair_61 rfl rfl ?_
    refine v_iload C 0 dX4_readPair_62 rfl ?_
    obtain ⟨q5, hq5, h⟩ := bd_of h
    refine c_call C [.int x1, .int q4.1] [.ref (ad 43)] (c_Values_secondType hA _ _ _ hq5) hY_Values_secondType rfl (by decide) (okS _ 38 (by decide) rfl) ml_4_189 ⟨(by omega : 2 + 1 ≤ 344 + (d + 1)), (by omega : 8 + (4 + 11) + 45 ≤ 13700 + 40 * (d + 1))⟩ ⟨Nat.zero_le _, Nat.zero_le _⟩ rfl rfl (Nat.le_of_ble_eq_true rfl) dX4_readPair_64 (wc_D hA cy _) ?_
    refine v_iload_n C 5 dX4_readPair_67 rfl rfl ?_
    obtain ⟨q6, hq6, h⟩ := bd_of h
    refine c_call C [.int q5.1, .int x2] [] (hr_checkTerm _ _ _ _ hq6) hY_Reader_checkTerm rfl (by decide) (okS _ 43 (by decide) rfl) ml_4_70 ⟨(by omega : (344 + d) + 1 ≤ 344 + (d + 1)), (by omega : 8 + (6 + 11) + (13700 + 40 * d) ≤ 13700 + 40 * (d + 1))⟩ ⟨Nat.zero_le _, Nat.zero_le _⟩ rfl rfl (Nat.le_of_ble_eq_true rfl) dX4_readPair_68 (wc_D hA cy _) ?_
    refine v_istore C [(6, .int q6.1), (5, .int q4.1), (4, .int q2.1), (3, .int (σ.1 43 7)), (0, .ref (ad 43)), (1, .int x1), (2, .int x2)] dX4_readPair_71 (by decide) rfl ?_
    refine v_iload C 0 dX4_readPair_73 rfl ?_
    refine v_iconst C (-1) dX4_readPair_75 (by decide) ?_
    refine v_icmp_ne C 83 dX4_readPair_76 (by decide) (fun c2 => ?_) (fun c2 => ?_)
    · rw [if_neg c2] at h
      refine v_aload_n C 4 dX4_readPair_83 rfl rfl ?_
      refine v_bipush C 44 dX4_readPair_84 (by decide) ?_
      refine v_iload C 2 dX4_readPair_86 rfl ?_
      refine v_iload C 0 dX4_readPair_88 rfl ?_
      refine v_iload_n C 3 dX4_readPair_90 rfl rfl ?_
      obtain ⟨q7, hq7, h⟩ := bd_of h
      refine c_call C [.int 44, .int q2.1, .int q6.1, .int (σ.1 43 7)] [] (c_Reader_join hA _ _ _ _ _ hq7) hY_Reader_join rfl (by decide) (okS _ 43 (by decide) rfl) ml_4_142 ⟨(by omega : 4 + 1 ≤ 344 + (d + 1)), (by omega : 8 + (6 + 11) + 91 ≤ 13700 + 40 * (d + 1))⟩ ⟨Nat.zero_le _, Nat.zero_le _⟩ rfl rfl (Nat.le_of_ble_eq_true rfl) dX4_readPair_91 (wc_D hA cy _) ?_
      exact v_sub [4] rfl ((b_Reader_readPair_94 C hA hr_readType hr_readBinder hr_checkTerm hr_readPair hr_readFunction hr_inferTerm hr_readAnnotated hr_readApplied hr_readComponent hr_checkInferred) _ _ h)
    · rw [if_pos c2] at h
      refine v_iconst C (-1) dX4_readPair_79 (by decide) ?_
      refine v_goto C 94 dX4_readPair_80 (by decide) ?_
      exact v_sub [4] rfl ((b_Reader_readPair_94 C hA hr_readType hr_readBinder hr_checkTerm hr_readPair hr_readFunction hr_inferTerm hr_readAnnotated hr_readApplied hr_readComponent hr_checkInferred) _ _ h)
  · rw [if_pos c1] at h
    refine v_iconst C (-1) dX4_readPair_36 (by decide) ?_
    obtain rfl := Option.some.inj h
    exact v_iret C dX4_readPair_37
set_option maxHeartbeats 4000000 in
set_option maxRecDepth 20000 in
theorem b_Reader_readFunction_69 {p : Program} {l : Launch} {e : Env} {s : State} {m : MethodId} {args : Array Value} {below : List Frame} {meth : Method} {c : Code} {D : va_G} {cy : Nat → ClassId} {ad : Nat → Nat} {q : Int32 × CS}  {r_readType : Int32 → CS → Option (Int32 × CS)} {r_readBinder : Int32 → Int32 → Int32 → CS → Option (Int32 × CS)} {r_checkTerm : Int32 → Int32 → CS → Option (Int32 × CS)} {r_readPair : Int32 → Int32 → CS → Option (Int32 × CS)} {r_readFunction : Int32 → Int32 → CS → Option (Int32 × CS)} {r_inferTerm : Int32 → CS → Option (Int32 × CS)} {r_readAnnotated : Int32 → CS → Option (Int32 × CS)} {r_readApplied : Int32 → CS → Option (Int32 × CS)} {r_readComponent : Int32 → CS → Option (Int32 × CS)} {r_checkInferred : Int32 → Int32 → CS → Option (Int32 × CS)} {d : Nat} (C : vC p s m args meth c cX4_readFunction 6 (some .int) RX4 D (cyT cy)) (hA : adOK ad) (hr_readType : ∀ (z1 : Int32) (σ : CS) (q : Int32 × CS), r_readType z1 σ = some q → MV l D (cyT cy) (inC ad) yX4_readType cX4_readType 7 (some .int) (344 + d) (13700 + 40 * d) 0 0 [.ref (ad 43), .int z1] (wc cy ad σ) (some (.int q.1)) (wc cy ad q.2)) (hr_readBinder : ∀ (z1 : Int32) (z2 : Int32) (z3 : Int32) (σ : CS) (q : Int32 × CS), r_readBinder z1 z2 z3 σ = some q → MV l D (cyT cy) (inC ad) yX4_readBinder cX4_readBinder 7 (some .int) (344 + d) (13700 + 40 * d) 0 0 [.ref (ad 43), .int z1, .int z2, .int z3] (wc cy ad σ) (some (.int q.1)) (wc cy ad q.2)) (hr_checkTerm : ∀ (z1 : Int32) (z2 : Int32) (σ : CS) (q : Int32 × CS), r_checkTerm z1 z2 σ = some q → MV l D (cyT cy) (inC ad) yX4_checkTerm cX4_checkTerm 6 (some .int) (344 + d) (13700 + 40 * d) 0 0 [.ref (ad 43), .int z1, .int z2] (wc cy ad σ) (some (.int q.1)) (wc cy ad q.2)) (hr_readPair : ∀ (z1 : Int32) (z2 : Int32) (σ : CS) (q : Int32 × CS), r_readPair z1 z2 σ = some q → MV l D (cyT cy) (inC ad) yX4_readPair cX4_readPair 7 (some .int) (344 + d) (13700 + 40 * d) 0 0 [.ref (ad 43), .int z1, .int z2] (wc cy ad σ) (some (.int q.1)) (wc cy ad q.2)) (hr_readFunction : ∀ (z1 : Int32) (z2 : Int32) (σ : CS) (q : Int32 × CS), r_readFunction z1 z2 σ = some q → MV l D (cyT cy) (inC ad) yX4_readFunction cX4_readFunction 6 (some .int) (344 + d) (13700 + 40 * d) 0 0 [.ref (ad 43), .int z1, .int z2] (wc cy ad σ) (some (.int q.1)) (wc cy ad q.2)) (hr_inferTerm : ∀ (z1 : Int32) (σ : CS) (q : Int32 × CS), r_inferTerm z1 σ = some q → MV l D (cyT cy) (inC ad) yX4_inferTerm cX4_inferTerm 7 (some .int) (344 + d) (13700 + 40 * d) 0 0 [.ref (ad 43), .int z1] (wc cy ad σ) (some (.int q.1)) (wc cy ad q.2)) (hr_readAnnotated : ∀ (z1 : Int32) (σ : CS) (q : Int32 × CS), r_readAnnotated z1 σ = some q → MV l D (cyT cy) (inC ad) yX4_readAnnotated cX4_readAnnotated 5 (some .boolean) (344 + d) (13700 + 40 * d) 0 0 [.ref (ad 43), .int z1] (wc cy ad σ) (some (.int q.1)) (wc cy ad q.2)) (hr_readApplied : ∀ (z1 : Int32) (σ : CS) (q : Int32 × CS), r_readApplied z1 σ = some q → MV l D (cyT cy) (inC ad) yX4_readApplied cX4_readApplied 8 (some .boolean) (344 + d) (13700 + 40 * d) 0 0 [.ref (ad 43), .int z1] (wc cy ad σ) (some (.int q.1)) (wc cy ad q.2)) (hr_readComponent : ∀ (z1 : Int32) (σ : CS) (q : Int32 × CS), r_readComponent z1 σ = some q → MV l D (cyT cy) (inC ad) yX4_readComponent cX4_readComponent 8 (some .boolean) (344 + d) (13700 + 40 * d) 0 0 [.ref (ad 43), .int z1] (wc cy ad σ) (some (.int q.1)) (wc cy ad q.2)) (hr_checkInferred : ∀ (z1 : Int32) (z2 : Int32) (σ : CS) (q : Int32 × CS), r_checkInferred z1 z2 σ = some q → MV l D (cyT cy) (inC ad) yX4_checkInferred cX4_checkInferred 9 (some .int) (344 + d) (13700 + 40 * d) 0 0 [.ref (ad 43), .int z1, .int z2] (wc cy ad σ) (some (.int q.1)) (wc cy ad q.2)) : ∀ (s0 : Int32) (σ : CS), B_Reader_readFunction_69 r_readType r_readBinder r_checkTerm r_readPair r_readFunction r_inferTerm r_readAnnotated r_readApplied r_readComponent r_checkInferred s0 σ = some q → V p l e { frames := 344 + (d + 1), cells := 0, slots := 0, locals := 13700 + 40 * (d + 1) } s m args below meth c D (inC ad) 6 (MQ below (vQ D (inC ad) (some (.int q.1)) (wc cy ad q.2)) args s 0 0 (inC ad)) 0 0 (wc cy ad σ) 69 [(0, .ref (ad 43))] [.int s0] := by
  intro s0 σ h
  rw [B_Reader_readFunction_69] at h
  obtain rfl := Option.some.inj h
  exact v_iret C dX4_readFunction_69
set_option maxHeartbeats 4000000 in
set_option maxRecDepth 20000 in
theorem w_Reader_readFunction {l : Launch} {D : va_G} {cy : Nat → ClassId} {ad : Nat → Nat} {q : Int32 × CS} {r_readType : Int32 → CS → Option (Int32 × CS)} {r_readBinder : Int32 → Int32 → Int32 → CS → Option (Int32 × CS)} {r_checkTerm : Int32 → Int32 → CS → Option (Int32 × CS)} {r_readPair : Int32 → Int32 → CS → Option (Int32 × CS)} {r_readFunction : Int32 → Int32 → CS → Option (Int32 × CS)} {r_inferTerm : Int32 → CS → Option (Int32 × CS)} {r_readAnnotated : Int32 → CS → Option (Int32 × CS)} {r_readApplied : Int32 → CS → Option (Int32 × CS)} {r_readComponent : Int32 → CS → Option (Int32 × CS)} {r_checkInferred : Int32 → Int32 → CS → Option (Int32 × CS)} {d : Nat} (hA : adOK ad) (hr_readType : ∀ (z1 : Int32) (σ : CS) (q : Int32 × CS), r_readType z1 σ = some q → MV l D (cyT cy) (inC ad) yX4_readType cX4_readType 7 (some .int) (344 + d) (13700 + 40 * d) 0 0 [.ref (ad 43), .int z1] (wc cy ad σ) (some (.int q.1)) (wc cy ad q.2)) (hr_readBinder : ∀ (z1 : Int32) (z2 : Int32) (z3 : Int32) (σ : CS) (q : Int32 × CS), r_readBinder z1 z2 z3 σ = some q → MV l D (cyT cy) (inC ad) yX4_readBinder cX4_readBinder 7 (some .int) (344 + d) (13700 + 40 * d) 0 0 [.ref (ad 43), .int z1, .int z2, .int z3] (wc cy ad σ) (some (.int q.1)) (wc cy ad q.2)) (hr_checkTerm : ∀ (z1 : Int32) (z2 : Int32) (σ : CS) (q : Int32 × CS), r_checkTerm z1 z2 σ = some q → MV l D (cyT cy) (inC ad) yX4_checkTerm cX4_checkTerm 6 (some .int) (344 + d) (13700 + 40 * d) 0 0 [.ref (ad 43), .int z1, .int z2] (wc cy ad σ) (some (.int q.1)) (wc cy ad q.2)) (hr_readPair : ∀ (z1 : Int32) (z2 : Int32) (σ : CS) (q : Int32 × CS), r_readPair z1 z2 σ = some q → MV l D (cyT cy) (inC ad) yX4_readPair cX4_readPair 7 (some .int) (344 + d) (13700 + 40 * d) 0 0 [.ref (ad 43), .int z1, .int z2] (wc cy ad σ) (some (.int q.1)) (wc cy ad q.2)) (hr_readFunction : ∀ (z1 : Int32) (z2 : Int32) (σ : CS) (q : Int32 × CS), r_readFunction z1 z2 σ = some q → MV l D (cyT cy) (inC ad) yX4_readFunction cX4_readFunction 6 (some .int) (344 + d) (13700 + 40 * d) 0 0 [.ref (ad 43), .int z1, .int z2] (wc cy ad σ) (some (.int q.1)) (wc cy ad q.2)) (hr_inferTerm : ∀ (z1 : Int32) (σ : CS) (q : Int32 × CS), r_inferTerm z1 σ = some q → MV l D (cyT cy) (inC ad) yX4_inferTerm cX4_inferTerm 7 (some .int) (344 + d) (13700 + 40 * d) 0 0 [.ref (ad 43), .int z1] (wc cy ad σ) (some (.int q.1)) (wc cy ad q.2)) (hr_readAnnotated : ∀ (z1 : Int32) (σ : CS) (q : Int32 × CS), r_readAnnotated z1 σ = some q → MV l D (cyT cy) (inC ad) yX4_readAnnotated cX4_readAnnotated 5 (some .boolean) (344 + d) (13700 + 40 * d) 0 0 [.ref (ad 43), .int z1] (wc cy ad σ) (some (.int q.1)) (wc cy ad q.2)) (hr_readApplied : ∀ (z1 : Int32) (σ : CS) (q : Int32 × CS), r_readApplied z1 σ = some q → MV l D (cyT cy) (inC ad) yX4_readApplied cX4_readApplied 8 (some .boolean) (344 + d) (13700 + 40 * d) 0 0 [.ref (ad 43), .int z1] (wc cy ad σ) (some (.int q.1)) (wc cy ad q.2)) (hr_readComponent : ∀ (z1 : Int32) (σ : CS) (q : Int32 × CS), r_readComponent z1 σ = some q → MV l D (cyT cy) (inC ad) yX4_readComponent cX4_readComponent 8 (some .boolean) (344 + d) (13700 + 40 * d) 0 0 [.ref (ad 43), .int z1] (wc cy ad σ) (some (.int q.1)) (wc cy ad q.2)) (hr_checkInferred : ∀ (z1 : Int32) (z2 : Int32) (σ : CS) (q : Int32 × CS), r_checkInferred z1 z2 σ = some q → MV l D (cyT cy) (inC ad) yX4_checkInferred cX4_checkInferred 9 (some .int) (344 + d) (13700 + 40 * d) 0 0 [.ref (ad 43), .int z1, .int z2] (wc cy ad σ) (some (.int q.1)) (wc cy ad q.2)) (x1 : Int32) (x2 : Int32) (σ : CS) (h : F_Reader_readFunction r_readType r_readBinder r_checkTerm r_readPair r_readFunction r_inferTerm r_readAnnotated r_readApplied r_readComponent r_checkInferred x1 x2 σ = some q) : MV l D (cyT cy) (inC ad) yX4_readFunction cX4_readFunction 6 (some .int) (344 + (d + 1)) (13700 + 40 * (d + 1)) 0 0 [.ref (ad 43), .int x1, .int x2] (wc cy ad σ) (some (.int q.1)) (wc cy ad q.2) := by
  refine MV.of (by decide) (wc_D hA cy σ) (Nat.le_of_ble_eq_true rfl) [(0, .ref (ad 43)), (1, .int x1), (2, .int x2)] rfl ?_
  intro p e s m args below meth c C
  rw [F_Reader_readFunction] at h
  refine v_aload_n C 0 dX4_readFunction_0 rfl rfl ?_
  refine c_getI C fl_4_41 rfl (okS _ 43 (by decide) rfl) dX4_readFunction_1 ?_
  refine v_istore_n C [(3, .int (σ.1 43 7)), (0, .ref (ad 43)), (1, .int x1), (2, .int x2)] dX4_readFunction_4 rfl (by decide) rfl ?_
  refine v_aload_n C 1 dX4_readFunction_5 rfl rfl ?_
  refine v_dup C dX4_readFunction_6 rfl ?_
  refine c_getI C fl_4_41 rfl (okS _ 43 (by decide) rfl) dX4_readFunction_7 ?_
  refine v_iconst C 1 dX4_readFunction_10 (by decide) ?_
  refine v_iadd C dX4_readFunction_11 ?_
  refine c_putI C fl_4_41 fw_4_7 rfl (by decide) (okS _ 43 (by decide) rfl) dX4_readFunction_12 ?_
  refine v_aload_n C 1 dX4_readFunction_15 rfl rfl ?_
  refine v_aload_n C 1 dX4_readFunction_16 rfl rfl ?_
  refine c_getS C 38 fl_4_29 rfl rfl (by decide) (okS _ 43 (by decide) rfl) dX4_readFunction_17 ?_
  refine v_iload_n C 2 dX4_readFunction_20 rfl rfl ?_
  obtain ⟨q1, hq1, h⟩ := bd_of h
  refine c_call C [.int x1] [.ref (ad 43)] (c_Values_firstType hA _ _ hq1) hY_Values_firstType rfl (by decide) (okS _ 38 (by decide) rfl) ml_4_183 ⟨(by omega : 2 + 1 ≤ 344 + (d + 1)), (by omega : 8 + (2 + 11) + 45 ≤ 13700 + 40 * (d + 1))⟩ ⟨Nat.zero_le _, Nat.zero_le _⟩ rfl rfl (Nat.le_of_ble_eq_true rfl) dX4_readFunction_21 (wc_D hA cy _) ?_
  refine v_iload_n C 3 dX4_readFunction_24 rfl rfl ?_
  obtain ⟨q2, hq2, h⟩ := bd_of h
  refine c_call C [.int q1.1, .int x2] [] (c_Reader_bind hA _ _ _ hq2) hY_Reader_bind rfl (by decide) (okS _ 43 (by decide) rfl) ml_4_148 ⟨(by omega : 2 + 1 ≤ 344 + (d + 1)), (by omega : 8 + (4 + 11) + 45 ≤ 13700 + 40 * (d + 1))⟩ ⟨Nat.zero_le _, Nat.zero_le _⟩ rfl rfl (Nat.le_of_ble_eq_true rfl) dX4_readFunction_25 (wc_D hA cy _) ?_
  refine v_istore C [(4, .int q2.1), (3, .int (σ.1 43 7)), (0, .ref (ad 43)), (1, .int x1), (2, .int x2)] dX4_readFunction_28 (by decide) rfl ?_
  refine v_aload_n C 2 dX4_readFunction_30 rfl rfl ?_
  refine v_aload_n C 2 dX4_readFunction_31 rfl rfl ?_
  refine c_getS C 38 fl_4_29 rfl rfl (by decide) (okS _ 43 (by decide) rfl) dX4_readFunction_32 ?_
  refine v_iload_n C 3 dX4_readFunction_35 rfl rfl ?_
  refine v_iload C 0 dX4_readFunction_36 rfl ?_
  obtain ⟨q3, hq3, h⟩ := bd_of h
  refine c_call C [.int x1, .int q2.1] [.ref (ad 43)] (c_Values_secondType hA _ _ _ hq3) hY_Values_secondType rfl (by decide) (okS _ 38 (by decide) rfl) ml_4_189 ⟨(by omega : 2 + 1 ≤ 344 + (d + 1)), (by omega : 8 + (4 + 11) + 45 ≤ 13700 + 40 * (d + 1))⟩ ⟨Nat.zero_le _, Nat.zero_le _⟩ rfl rfl (Nat.le_of_ble_eq_true rfl) dX4_readFunction_38 (wc_D hA cy _) ?_
  refine v_iload_n C 4 dX4_readFunction_41 rfl rfl ?_
  refine v_iconst C 1 dX4_readFunction_42 (by decide) ?_
  refine v_iadd C dX4_readFunction_43 ?_
  obtain ⟨q4, hq4, h⟩ := bd_of h
  refine c_call C [.int q3.1, .int (x2 + 1)] [] (hr_checkTerm _ _ _ _ hq4) hY_Reader_checkTerm rfl (by decide) (okS _ 43 (by decide) rfl) ml_4_70 ⟨(by omega : (344 + d) + 1 ≤ 344 + (d + 1)), (by omega : 8 + (6 + 11) + (13700 + 40 * d) ≤ 13700 + 40 * (d + 1))⟩ ⟨Nat.zero_le _, Nat.zero_le _⟩ rfl rfl (Nat.le_of_ble_eq_true rfl) dX4_readFunction_44 (wc_D hA cy _) ?_
  refine v_istore C [(5, .int q4.1), (4, .int q2.1), (3, .int (σ.1 43 7)), (0, .ref (ad 43)), (1, .int x1), (2, .int x2)] dX4_readFunction_47 (by decide) rfl ?_
  refine v_iload C 0 dX4_readFunction_49 rfl ?_
  refine v_iconst C (-1) dX4_readFunction_51 (by decide) ?_
  refine v_icmp_ne C 59 dX4_readFunction_52 (by decide) (fun c1 => ?_) (fun c1 => ?_)
  · rw [if_neg c1] at h
    refine v_aload_n C 3 dX4_readFunction_59 rfl rfl ?_
    refine v_bipush C 92 dX4_readFunction_60 (by decide) ?_
    refine v_iload C 0 dX4_readFunction_62 rfl ?_
    refine v_iconst C (-1) dX4_readFunction_64 (by decide) ?_
    refine v_iload_n C 2 dX4_readFunction_65 rfl rfl ?_
    obtain ⟨q5, hq5, h⟩ := bd_of h
    refine c_call C [.int 92, .int q4.1, .int (-1), .int (σ.1 43 7)] [] (c_Reader_join hA _ _ _ _ _ hq5) hY_Reader_join rfl (by decide) (okS _ 43 (by decide) rfl) ml_4_142 ⟨(by omega : 4 + 1 ≤ 344 + (d + 1)), (by omega : 8 + (6 + 11) + 91 ≤ 13700 + 40 * (d + 1))⟩ ⟨Nat.zero_le _, Nat.zero_le _⟩ rfl rfl (Nat.le_of_ble_eq_true rfl) dX4_readFunction_66 (wc_D hA cy _) ?_
    exact v_sub [3] rfl ((b_Reader_readFunction_69 C hA hr_readType hr_readBinder hr_checkTerm hr_readPair hr_readFunction hr_inferTerm hr_readAnnotated hr_readApplied hr_readComponent hr_checkInferred) _ _ h)
  · rw [if_pos c1] at h
    refine v_iconst C (-1) dX4_readFunction_55 (by decide) ?_
    refine v_goto C 69 dX4_readFunction_56 (by decide) ?_
    exact v_sub [3] rfl ((b_Reader_readFunction_69 C hA hr_readType hr_readBinder hr_checkTerm hr_readPair hr_readFunction hr_inferTerm hr_readAnnotated hr_readApplied hr_readComponent hr_checkInferred) _ _ h)
set_option maxHeartbeats 4000000 in
set_option maxRecDepth 20000 in
theorem b_Reader_inferTerm_201 {p : Program} {l : Launch} {e : Env} {s : State} {m : MethodId} {args : Array Value} {below : List Frame} {meth : Method} {c : Code} {D : va_G} {cy : Nat → ClassId} {ad : Nat → Nat} {q : Int32 × CS}  {r_readType : Int32 → CS → Option (Int32 × CS)} {r_readBinder : Int32 → Int32 → Int32 → CS → Option (Int32 × CS)} {r_checkTerm : Int32 → Int32 → CS → Option (Int32 × CS)} {r_readPair : Int32 → Int32 → CS → Option (Int32 × CS)} {r_readFunction : Int32 → Int32 → CS → Option (Int32 × CS)} {r_inferTerm : Int32 → CS → Option (Int32 × CS)} {r_readAnnotated : Int32 → CS → Option (Int32 × CS)} {r_readApplied : Int32 → CS → Option (Int32 × CS)} {r_readComponent : Int32 → CS → Option (Int32 × CS)} {r_checkInferred : Int32 → Int32 → CS → Option (Int32 × CS)} {d : Nat} (C : vC p s m args meth c cX4_inferTerm 7 (some .int) RX4 D (cyT cy)) (hA : adOK ad) (hr_readType : ∀ (z1 : Int32) (σ : CS) (q : Int32 × CS), r_readType z1 σ = some q → MV l D (cyT cy) (inC ad) yX4_readType cX4_readType 7 (some .int) (344 + d) (13700 + 40 * d) 0 0 [.ref (ad 43), .int z1] (wc cy ad σ) (some (.int q.1)) (wc cy ad q.2)) (hr_readBinder : ∀ (z1 : Int32) (z2 : Int32) (z3 : Int32) (σ : CS) (q : Int32 × CS), r_readBinder z1 z2 z3 σ = some q → MV l D (cyT cy) (inC ad) yX4_readBinder cX4_readBinder 7 (some .int) (344 + d) (13700 + 40 * d) 0 0 [.ref (ad 43), .int z1, .int z2, .int z3] (wc cy ad σ) (some (.int q.1)) (wc cy ad q.2)) (hr_checkTerm : ∀ (z1 : Int32) (z2 : Int32) (σ : CS) (q : Int32 × CS), r_checkTerm z1 z2 σ = some q → MV l D (cyT cy) (inC ad) yX4_checkTerm cX4_checkTerm 6 (some .int) (344 + d) (13700 + 40 * d) 0 0 [.ref (ad 43), .int z1, .int z2] (wc cy ad σ) (some (.int q.1)) (wc cy ad q.2)) (hr_readPair : ∀ (z1 : Int32) (z2 : Int32) (σ : CS) (q : Int32 × CS), r_readPair z1 z2 σ = some q → MV l D (cyT cy) (inC ad) yX4_readPair cX4_readPair 7 (some .int) (344 + d) (13700 + 40 * d) 0 0 [.ref (ad 43), .int z1, .int z2] (wc cy ad σ) (some (.int q.1)) (wc cy ad q.2)) (hr_readFunction : ∀ (z1 : Int32) (z2 : Int32) (σ : CS) (q : Int32 × CS), r_readFunction z1 z2 σ = some q → MV l D (cyT cy) (inC ad) yX4_readFunction cX4_readFunction 6 (some .int) (344 + d) (13700 + 40 * d) 0 0 [.ref (ad 43), .int z1, .int z2] (wc cy ad σ) (some (.int q.1)) (wc cy ad q.2)) (hr_inferTerm : ∀ (z1 : Int32) (σ : CS) (q : Int32 × CS), r_inferTerm z1 σ = some q → MV l D (cyT cy) (inC ad) yX4_inferTerm cX4_inferTerm 7 (some .int) (344 + d) (13700 + 40 * d) 0 0 [.ref (ad 43), .int z1] (wc cy ad σ) (some (.int q.1)) (wc cy ad q.2)) (hr_readAnnotated : ∀ (z1 : Int32) (σ : CS) (q : Int32 × CS), r_readAnnotated z1 σ = some q → MV l D (cyT cy) (inC ad) yX4_readAnnotated cX4_readAnnotated 5 (some .boolean) (344 + d) (13700 + 40 * d) 0 0 [.ref (ad 43), .int z1] (wc cy ad σ) (some (.int q.1)) (wc cy ad q.2)) (hr_readApplied : ∀ (z1 : Int32) (σ : CS) (q : Int32 × CS), r_readApplied z1 σ = some q → MV l D (cyT cy) (inC ad) yX4_readApplied cX4_readApplied 8 (some .boolean) (344 + d) (13700 + 40 * d) 0 0 [.ref (ad 43), .int z1] (wc cy ad σ) (some (.int q.1)) (wc cy ad q.2)) (hr_readComponent : ∀ (z1 : Int32) (σ : CS) (q : Int32 × CS), r_readComponent z1 σ = some q → MV l D (cyT cy) (inC ad) yX4_readComponent cX4_readComponent 8 (some .boolean) (344 + d) (13700 + 40 * d) 0 0 [.ref (ad 43), .int z1] (wc cy ad σ) (some (.int q.1)) (wc cy ad q.2)) (hr_checkInferred : ∀ (z1 : Int32) (z2 : Int32) (σ : CS) (q : Int32 × CS), r_checkInferred z1 z2 σ = some q → MV l D (cyT cy) (inC ad) yX4_checkInferred cX4_checkInferred 9 (some .int) (344 + d) (13700 + 40 * d) 0 0 [.ref (ad 43), .int z1, .int z2] (wc cy ad σ) (some (.int q.1)) (wc cy ad q.2)) : ∀ (x2 : Int32) (σ : CS), B_Reader_inferTerm_201 r_readType r_readBinder r_checkTerm r_readPair r_readFunction r_inferTerm r_readAnnotated r_readApplied r_readComponent r_checkInferred x2 σ = some q → V p l e { frames := 344 + (d + 1), cells := 0, slots := 0, locals := 13700 + 40 * (d + 1) } s m args below meth c D (inC ad) 7 (MQ below (vQ D (inC ad) (some (.int q.1)) (wc cy ad q.2)) args s 0 0 (inC ad)) 0 0 (wc cy ad σ) 201 [(0, .ref (ad 43)), (2, .int x2)] [] := by
  intro x2 σ h
  rw [B_Reader_inferTerm_201] at h
  refine v_aload_n C 0 dX4_inferTerm_201 rfl rfl ?_
  refine v_iload_n C 1 dX4_inferTerm_202 rfl rfl ?_
  obtain ⟨q1, hq1, h⟩ := bd_of h
  refine c_call C [.int x2] [] (c_Reader_refuse hA _ _ hq1) hY_Reader_refuse rfl (by decide) (okS _ 43 (by decide) rfl) ml_4_124 ⟨(by omega : 0 + 1 ≤ 344 + (d + 1)), (by omega : 8 + (2 + 11) + 0 ≤ 13700 + 40 * (d + 1))⟩ ⟨Nat.zero_le _, Nat.zero_le _⟩ rfl rfl (Nat.le_of_ble_eq_true rfl) dX4_inferTerm_203 (wc_D hA cy _) ?_
  obtain rfl := Option.some.inj h
  exact v_iret C dX4_inferTerm_206
set_option maxHeartbeats 4000000 in
set_option maxRecDepth 20000 in
theorem b_Reader_inferTerm_114 {p : Program} {l : Launch} {e : Env} {s : State} {m : MethodId} {args : Array Value} {below : List Frame} {meth : Method} {c : Code} {D : va_G} {cy : Nat → ClassId} {ad : Nat → Nat} {q : Int32 × CS}  {r_readType : Int32 → CS → Option (Int32 × CS)} {r_readBinder : Int32 → Int32 → Int32 → CS → Option (Int32 × CS)} {r_checkTerm : Int32 → Int32 → CS → Option (Int32 × CS)} {r_readPair : Int32 → Int32 → CS → Option (Int32 × CS)} {r_readFunction : Int32 → Int32 → CS → Option (Int32 × CS)} {r_inferTerm : Int32 → CS → Option (Int32 × CS)} {r_readAnnotated : Int32 → CS → Option (Int32 × CS)} {r_readApplied : Int32 → CS → Option (Int32 × CS)} {r_readComponent : Int32 → CS → Option (Int32 × CS)} {r_checkInferred : Int32 → Int32 → CS → Option (Int32 × CS)} {d : Nat} (C : vC p s m args meth c cX4_inferTerm 7 (some .int) RX4 D (cyT cy)) (hA : adOK ad) (hr_readType : ∀ (z1 : Int32) (σ : CS) (q : Int32 × CS), r_readType z1 σ = some q → MV l D (cyT cy) (inC ad) yX4_readType cX4_readType 7 (some .int) (344 + d) (13700 + 40 * d) 0 0 [.ref (ad 43), .int z1] (wc cy ad σ) (some (.int q.1)) (wc cy ad q.2)) (hr_readBinder : ∀ (z1 : Int32) (z2 : Int32) (z3 : Int32) (σ : CS) (q : Int32 × CS), r_readBinder z1 z2 z3 σ = some q → MV l D (cyT cy) (inC ad) yX4_readBinder cX4_readBinder 7 (some .int) (344 + d) (13700 + 40 * d) 0 0 [.ref (ad 43), .int z1, .int z2, .int z3] (wc cy ad σ) (some (.int q.1)) (wc cy ad q.2)) (hr_checkTerm : ∀ (z1 : Int32) (z2 : Int32) (σ : CS) (q : Int32 × CS), r_checkTerm z1 z2 σ = some q → MV l D (cyT cy) (inC ad) yX4_checkTerm cX4_checkTerm 6 (some .int) (344 + d) (13700 + 40 * d) 0 0 [.ref (ad 43), .int z1, .int z2] (wc cy ad σ) (some (.int q.1)) (wc cy ad q.2)) (hr_readPair : ∀ (z1 : Int32) (z2 : Int32) (σ : CS) (q : Int32 × CS), r_readPair z1 z2 σ = some q → MV l D (cyT cy) (inC ad) yX4_readPair cX4_readPair 7 (some .int) (344 + d) (13700 + 40 * d) 0 0 [.ref (ad 43), .int z1, .int z2] (wc cy ad σ) (some (.int q.1)) (wc cy ad q.2)) (hr_readFunction : ∀ (z1 : Int32) (z2 : Int32) (σ : CS) (q : Int32 × CS), r_readFunction z1 z2 σ = some q → MV l D (cyT cy) (inC ad) yX4_readFunction cX4_readFunction 6 (some .int) (344 + d) (13700 + 40 * d) 0 0 [.ref (ad 43), .int z1, .int z2] (wc cy ad σ) (some (.int q.1)) (wc cy ad q.2)) (hr_inferTerm : ∀ (z1 : Int32) (σ : CS) (q : Int32 × CS), r_inferTerm z1 σ = some q → MV l D (cyT cy) (inC ad) yX4_inferTerm cX4_inferTerm 7 (some .int) (344 + d) (13700 + 40 * d) 0 0 [.ref (ad 43), .int z1] (wc cy ad σ) (some (.int q.1)) (wc cy ad q.2)) (hr_readAnnotated : ∀ (z1 : Int32) (σ : CS) (q : Int32 × CS), r_readAnnotated z1 σ = some q → MV l D (cyT cy) (inC ad) yX4_readAnnotated cX4_readAnnotated 5 (some .boolean) (344 + d) (13700 + 40 * d) 0 0 [.ref (ad 43), .int z1] (wc cy ad σ) (some (.int q.1)) (wc cy ad q.2)) (hr_readApplied : ∀ (z1 : Int32) (σ : CS) (q : Int32 × CS), r_readApplied z1 σ = some q → MV l D (cyT cy) (inC ad) yX4_readApplied cX4_readApplied 8 (some .boolean) (344 + d) (13700 + 40 * d) 0 0 [.ref (ad 43), .int z1] (wc cy ad σ) (some (.int q.1)) (wc cy ad q.2)) (hr_readComponent : ∀ (z1 : Int32) (σ : CS) (q : Int32 × CS), r_readComponent z1 σ = some q → MV l D (cyT cy) (inC ad) yX4_readComponent cX4_readComponent 8 (some .boolean) (344 + d) (13700 + 40 * d) 0 0 [.ref (ad 43), .int z1] (wc cy ad σ) (some (.int q.1)) (wc cy ad q.2)) (hr_checkInferred : ∀ (z1 : Int32) (z2 : Int32) (σ : CS) (q : Int32 × CS), r_checkInferred z1 z2 σ = some q → MV l D (cyT cy) (inC ad) yX4_checkInferred cX4_checkInferred 9 (some .int) (344 + d) (13700 + 40 * d) 0 0 [.ref (ad 43), .int z1, .int z2] (wc cy ad σ) (some (.int q.1)) (wc cy ad q.2)) : ∀ (x1 : Int32) (x2 : Int32) (x3 : Int32) (x4 : Int32) (σ : CS), B_Reader_inferTerm_114 r_readType r_readBinder r_checkTerm r_readPair r_readFunction r_inferTerm r_readAnnotated r_readApplied r_readComponent r_checkInferred x1 x2 x3 x4 σ = some q → V p l e { frames := 344 + (d + 1), cells := 0, slots := 0, locals := 13700 + 40 * (d + 1) } s m args below meth c D (inC ad) 7 (MQ below (vQ D (inC ad) (some (.int q.1)) (wc cy ad q.2)) args s 0 0 (inC ad)) 0 0 (wc cy ad σ) 114 [(0, .ref (ad 43)), (1, .int x1), (2, .int x2), (3, .int x3), (4, .int x4)] [] := by
  intro x1 x2 x3 x4 σ h
  rw [B_Reader_inferTerm_114] at h
  refine v_iload C 4 dX4_inferTerm_114 rfl ?_
  refine v_if_ne C 121 dX4_inferTerm_116 (by decide) (fun c1 => ?_) (fun c1 => ?_)
  · rw [if_neg c1] at h
    refine v_aload_n C 0 dX4_inferTerm_121 rfl rfl ?_
    refine c_getS C 44 fl_4_33 rfl rfl (by decide) (okS _ 43 (by decide) rfl) dX4_inferTerm_122 ?_
    obtain ⟨q1, hq1, h⟩ := bd_of h
    refine c_call C [] [] (c_Writer_begin hA _ hq1) hY_Writer_begin rfl (by decide) (okS _ 44 (by decide) rfl) ml_4_167 ⟨(by omega : 0 + 1 ≤ 344 + (d + 1)), (by omega : 8 + (1 + 11) + 0 ≤ 13700 + 40 * (d + 1))⟩ ⟨Nat.zero_le _, Nat.zero_le _⟩ rfl rfl (Nat.le_of_ble_eq_true rfl) dX4_inferTerm_125 (wc_D hA cy _) ?_
    refine v_aload_n C 0 dX4_inferTerm_128 rfl rfl ?_
    refine c_getS C 44 fl_4_33 rfl rfl (by decide) (okS _ 43 (by decide) rfl) dX4_inferTerm_129 ?_
    refine v_aload_n C 0 dX4_inferTerm_132 rfl rfl ?_
    refine c_getI C fl_4_207 rfl (okS _ 43 (by decide) rfl) dX4_inferTerm_133 ?_
    refine v_iload_n C 1 dX4_inferTerm_136 rfl rfl ?_
    obtain ⟨q2, hq2, h⟩ := bd_of h
    refine c_callN C [.int (q1.2.1 43 10), .int x1] [] (c_Writer_putType hA _ _ _ hq2) hY_Writer_putType rfl (by decide) (okS _ 44 (by decide) rfl) ml_4_169 ⟨(by omega : 343 + 1 ≤ 344 + (d + 1)), (by omega : 8 + (7 + 11) + 13674 ≤ 13700 + 40 * (d + 1))⟩ ⟨Nat.zero_le _, Nat.zero_le _⟩ rfl rfl (Nat.le_of_ble_eq_true rfl) dX4_inferTerm_137 (wc_D hA cy _) ?_
    refine v_aload_n C 0 dX4_inferTerm_140 rfl rfl ?_
    refine c_getS C 44 fl_4_33 rfl rfl (by decide) (okS _ 43 (by decide) rfl) dX4_inferTerm_141 ?_
    obtain ⟨q3, hq3, h⟩ := bd_of h
    refine c_call C [] [] (c_Writer_written hA _ hq3) hY_Writer_written rfl (by decide) (okS _ 44 (by decide) rfl) ml_4_173 ⟨(by omega : 0 + 1 ≤ 344 + (d + 1)), (by omega : 8 + (1 + 11) + 0 ≤ 13700 + 40 * (d + 1))⟩ ⟨Nat.zero_le _, Nat.zero_le _⟩ rfl rfl (Nat.le_of_ble_eq_true rfl) dX4_inferTerm_144 (wc_D hA cy _) ?_
    refine v_istore C [(5, .int q3.1), (0, .ref (ad 43)), (1, .int x1), (2, .int x2), (3, .int x3), (4, .int x4)] dX4_inferTerm_147 (by decide) rfl ?_
    refine v_aload_n C 1 dX4_inferTerm_149 rfl rfl ?_
    refine c_getS C 44 fl_4_33 rfl rfl (by decide) (okS _ 43 (by decide) rfl) dX4_inferTerm_150 ?_
    obtain ⟨q4, hq4, h⟩ := bd_of h
    refine c_call C [] [] (c_Writer_begin hA _ hq4) hY_Writer_begin rfl (by decide) (okS _ 44 (by decide) rfl) ml_4_167 ⟨(by omega : 0 + 1 ≤ 344 + (d + 1)), (by omega : 8 + (1 + 11) + 0 ≤ 13700 + 40 * (d + 1))⟩ ⟨Nat.zero_le _, Nat.zero_le _⟩ rfl rfl (Nat.le_of_ble_eq_true rfl) dX4_inferTerm_153 (wc_D hA cy _) ?_
    refine v_aload_n C 1 dX4_inferTerm_156 rfl rfl ?_
    refine c_getS C 44 fl_4_33 rfl rfl (by decide) (okS _ 43 (by decide) rfl) dX4_inferTerm_157 ?_
    refine v_aload_n C 1 dX4_inferTerm_160 rfl rfl ?_
    refine c_getI C fl_4_207 rfl (okS _ 43 (by decide) rfl) dX4_inferTerm_161 ?_
    refine v_aload_n C 1 dX4_inferTerm_164 rfl rfl ?_
    refine c_getI C fl_4_210 rfl (okS _ 43 (by decide) rfl) dX4_inferTerm_165 ?_
    refine v_iload_n C 2 dX4_inferTerm_168 rfl rfl ?_
    obtain ⟨q5, hq5, h⟩ := bd_of h
    refine c_callN C [.int (q4.2.1 43 10), .int (q4.2.1 43 11), .int x1] [] (c_Writer_putTerm hA _ _ _ _ hq5) hY_Writer_putTerm rfl (by decide) (okS _ 44 (by decide) rfl) ml_4_213 ⟨(by omega : 343 + 1 ≤ 344 + (d + 1)), (by omega : 8 + (7 + 11) + 13674 ≤ 13700 + 40 * (d + 1))⟩ ⟨Nat.zero_le _, Nat.zero_le _⟩ rfl rfl (Nat.le_of_ble_eq_true rfl) dX4_inferTerm_169 (wc_D hA cy _) ?_
    refine v_aload_n C 1 dX4_inferTerm_172 rfl rfl ?_
    refine c_getS C 44 fl_4_33 rfl rfl (by decide) (okS _ 43 (by decide) rfl) dX4_inferTerm_173 ?_
    obtain ⟨q6, hq6, h⟩ := bd_of h
    refine c_call C [] [] (c_Writer_written hA _ hq6) hY_Writer_written rfl (by decide) (okS _ 44 (by decide) rfl) ml_4_173 ⟨(by omega : 0 + 1 ≤ 344 + (d + 1)), (by omega : 8 + (1 + 11) + 0 ≤ 13700 + 40 * (d + 1))⟩ ⟨Nat.zero_le _, Nat.zero_le _⟩ rfl rfl (Nat.le_of_ble_eq_true rfl) dX4_inferTerm_176 (wc_D hA cy _) ?_
    refine v_istore C [(6, .int q6.1), (5, .int q3.1), (0, .ref (ad 43)), (1, .int x1), (2, .int x2), (3, .int x3), (4, .int x4)] dX4_inferTerm_179 (by decide) rfl ?_
    refine v_aload_n C 2 dX4_inferTerm_181 rfl rfl ?_
    refine c_getS C 38 fl_4_29 rfl rfl (by decide) (okS _ 43 (by decide) rfl) dX4_inferTerm_182 ?_
    refine v_iload_n C 5 dX4_inferTerm_185 rfl rfl ?_
    obtain ⟨q7, hq7, h⟩ := bd_of h
    refine c_call C [.int x3] [] (c_Values_release hA _ _ hq7) hY_Values_release rfl (by decide) (okS _ 38 (by decide) rfl) ml_4_55 ⟨(by omega : 0 + 1 ≤ 344 + (d + 1)), (by omega : 8 + (2 + 11) + 0 ≤ 13700 + 40 * (d + 1))⟩ ⟨Nat.zero_le _, Nat.zero_le _⟩ rfl rfl (Nat.le_of_ble_eq_true rfl) dX4_inferTerm_186 (wc_D hA cy _) ?_
    refine v_iload C 1 dX4_inferTerm_189 rfl ?_
    refine v_iconst C (-1) dX4_inferTerm_191 (by decide) ?_
    refine v_icmp_eq C 201 dX4_inferTerm_192 (by decide) (fun c2 => ?_) (fun c2 => ?_)
    · rw [if_pos c2] at h
      exact v_sub [2, 4] rfl ((b_Reader_inferTerm_201 C hA hr_readType hr_readBinder hr_checkTerm hr_readPair hr_readFunction hr_inferTerm hr_readAnnotated hr_readApplied hr_readComponent hr_checkInferred) _ _ h)
    · rw [if_neg c2] at h
      refine v_iload C 0 dX4_inferTerm_195 rfl ?_
      refine v_iconst C (-1) dX4_inferTerm_197 (by decide) ?_
      refine v_icmp_ne C 207 dX4_inferTerm_198 (by decide) (fun c3 => ?_) (fun c3 => ?_)
      · rw [if_neg c3] at h
        refine v_aload_n C 2 dX4_inferTerm_207 rfl rfl ?_
        refine v_iload C 1 dX4_inferTerm_208 rfl ?_
        refine c_putI C fl_4_176 fw_4_9 rfl (by decide) (okS _ 43 (by decide) rfl) dX4_inferTerm_210 ?_
        refine v_iload C 0 dX4_inferTerm_213 rfl ?_
        obtain rfl := Option.some.inj h
        exact v_iret C dX4_inferTerm_215
      · rw [if_pos c3] at h
        exact v_sub [2, 4] rfl ((b_Reader_inferTerm_201 C hA hr_readType hr_readBinder hr_checkTerm hr_readPair hr_readFunction hr_inferTerm hr_readAnnotated hr_readApplied hr_readComponent hr_checkInferred) _ _ h)
  · rw [if_pos c1] at h
    refine v_iconst C (-1) dX4_inferTerm_119 (by decide) ?_
    obtain rfl := Option.some.inj h
    exact v_iret C dX4_inferTerm_120
set_option maxHeartbeats 4000000 in
set_option maxRecDepth 20000 in
theorem w_Reader_inferTerm {l : Launch} {D : va_G} {cy : Nat → ClassId} {ad : Nat → Nat} {q : Int32 × CS} {r_readType : Int32 → CS → Option (Int32 × CS)} {r_readBinder : Int32 → Int32 → Int32 → CS → Option (Int32 × CS)} {r_checkTerm : Int32 → Int32 → CS → Option (Int32 × CS)} {r_readPair : Int32 → Int32 → CS → Option (Int32 × CS)} {r_readFunction : Int32 → Int32 → CS → Option (Int32 × CS)} {r_inferTerm : Int32 → CS → Option (Int32 × CS)} {r_readAnnotated : Int32 → CS → Option (Int32 × CS)} {r_readApplied : Int32 → CS → Option (Int32 × CS)} {r_readComponent : Int32 → CS → Option (Int32 × CS)} {r_checkInferred : Int32 → Int32 → CS → Option (Int32 × CS)} {d : Nat} (hA : adOK ad) (hr_readType : ∀ (z1 : Int32) (σ : CS) (q : Int32 × CS), r_readType z1 σ = some q → MV l D (cyT cy) (inC ad) yX4_readType cX4_readType 7 (some .int) (344 + d) (13700 + 40 * d) 0 0 [.ref (ad 43), .int z1] (wc cy ad σ) (some (.int q.1)) (wc cy ad q.2)) (hr_readBinder : ∀ (z1 : Int32) (z2 : Int32) (z3 : Int32) (σ : CS) (q : Int32 × CS), r_readBinder z1 z2 z3 σ = some q → MV l D (cyT cy) (inC ad) yX4_readBinder cX4_readBinder 7 (some .int) (344 + d) (13700 + 40 * d) 0 0 [.ref (ad 43), .int z1, .int z2, .int z3] (wc cy ad σ) (some (.int q.1)) (wc cy ad q.2)) (hr_checkTerm : ∀ (z1 : Int32) (z2 : Int32) (σ : CS) (q : Int32 × CS), r_checkTerm z1 z2 σ = some q → MV l D (cyT cy) (inC ad) yX4_checkTerm cX4_checkTerm 6 (some .int) (344 + d) (13700 + 40 * d) 0 0 [.ref (ad 43), .int z1, .int z2] (wc cy ad σ) (some (.int q.1)) (wc cy ad q.2)) (hr_readPair : ∀ (z1 : Int32) (z2 : Int32) (σ : CS) (q : Int32 × CS), r_readPair z1 z2 σ = some q → MV l D (cyT cy) (inC ad) yX4_readPair cX4_readPair 7 (some .int) (344 + d) (13700 + 40 * d) 0 0 [.ref (ad 43), .int z1, .int z2] (wc cy ad σ) (some (.int q.1)) (wc cy ad q.2)) (hr_readFunction : ∀ (z1 : Int32) (z2 : Int32) (σ : CS) (q : Int32 × CS), r_readFunction z1 z2 σ = some q → MV l D (cyT cy) (inC ad) yX4_readFunction cX4_readFunction 6 (some .int) (344 + d) (13700 + 40 * d) 0 0 [.ref (ad 43), .int z1, .int z2] (wc cy ad σ) (some (.int q.1)) (wc cy ad q.2)) (hr_inferTerm : ∀ (z1 : Int32) (σ : CS) (q : Int32 × CS), r_inferTerm z1 σ = some q → MV l D (cyT cy) (inC ad) yX4_inferTerm cX4_inferTerm 7 (some .int) (344 + d) (13700 + 40 * d) 0 0 [.ref (ad 43), .int z1] (wc cy ad σ) (some (.int q.1)) (wc cy ad q.2)) (hr_readAnnotated : ∀ (z1 : Int32) (σ : CS) (q : Int32 × CS), r_readAnnotated z1 σ = some q → MV l D (cyT cy) (inC ad) yX4_readAnnotated cX4_readAnnotated 5 (some .boolean) (344 + d) (13700 + 40 * d) 0 0 [.ref (ad 43), .int z1] (wc cy ad σ) (some (.int q.1)) (wc cy ad q.2)) (hr_readApplied : ∀ (z1 : Int32) (σ : CS) (q : Int32 × CS), r_readApplied z1 σ = some q → MV l D (cyT cy) (inC ad) yX4_readApplied cX4_readApplied 8 (some .boolean) (344 + d) (13700 + 40 * d) 0 0 [.ref (ad 43), .int z1] (wc cy ad σ) (some (.int q.1)) (wc cy ad q.2)) (hr_readComponent : ∀ (z1 : Int32) (σ : CS) (q : Int32 × CS), r_readComponent z1 σ = some q → MV l D (cyT cy) (inC ad) yX4_readComponent cX4_readComponent 8 (some .boolean) (344 + d) (13700 + 40 * d) 0 0 [.ref (ad 43), .int z1] (wc cy ad σ) (some (.int q.1)) (wc cy ad q.2)) (hr_checkInferred : ∀ (z1 : Int32) (z2 : Int32) (σ : CS) (q : Int32 × CS), r_checkInferred z1 z2 σ = some q → MV l D (cyT cy) (inC ad) yX4_checkInferred cX4_checkInferred 9 (some .int) (344 + d) (13700 + 40 * d) 0 0 [.ref (ad 43), .int z1, .int z2] (wc cy ad σ) (some (.int q.1)) (wc cy ad q.2)) (x1 : Int32) (σ : CS) (h : F_Reader_inferTerm r_readType r_readBinder r_checkTerm r_readPair r_readFunction r_inferTerm r_readAnnotated r_readApplied r_readComponent r_checkInferred x1 σ = some q) : MV l D (cyT cy) (inC ad) yX4_inferTerm cX4_inferTerm 7 (some .int) (344 + (d + 1)) (13700 + 40 * (d + 1)) 0 0 [.ref (ad 43), .int x1] (wc cy ad σ) (some (.int q.1)) (wc cy ad q.2) := by
  refine MV.of (by decide) (wc_D hA cy σ) (Nat.le_of_ble_eq_true rfl) [(0, .ref (ad 43)), (1, .int x1)] rfl ?_
  intro p e s m args below meth c C
  rw [F_Reader_inferTerm] at h
  refine v_aload_n C 0 dX4_inferTerm_0 rfl rfl ?_
  refine c_getI C fl_4_41 rfl (okS _ 43 (by decide) rfl) dX4_inferTerm_1 ?_
  refine v_istore_n C [(2, .int (σ.1 43 7)), (0, .ref (ad 43)), (1, .int x1)] dX4_inferTerm_4 rfl (by decide) rfl ?_
  refine v_aload_n C 1 dX4_inferTerm_5 rfl rfl ?_
  refine c_getS C 38 fl_4_29 rfl rfl (by decide) (okS _ 43 (by decide) rfl) dX4_inferTerm_6 ?_
  refine c_getIN C fl_4_166 rfl (okS _ 38 (by decide) rfl) dX4_inferTerm_9 ?_
  refine v_istore_n C [(3, .int (σ.1 38 4)), (2, .int (σ.1 43 7)), (0, .ref (ad 43)), (1, .int x1)] dX4_inferTerm_12 rfl (by decide) rfl ?_
  refine v_aload_n C 2 dX4_inferTerm_13 rfl rfl ?_
  obtain ⟨q1, hq1, h⟩ := bd_of h
  refine c_call C [] [] (c_Reader_peek hA _ hq1) hY_Reader_peek rfl (by decide) (okS _ 43 (by decide) rfl) ml_4_99 ⟨(by omega : 0 + 1 ≤ 344 + (d + 1)), (by omega : 8 + (1 + 11) + 0 ≤ 13700 + 40 * (d + 1))⟩ ⟨Nat.zero_le _, Nat.zero_le _⟩ rfl rfl (Nat.le_of_ble_eq_true rfl) dX4_inferTerm_14 (wc_D hA cy _) ?_
  by_cases c1 : q1.1 = 35
  · rw [if_pos c1] at h
    refine v_lookup C 68 dX4_inferTerm_17 (by decide) (by rw [c1]; try rfl) (by decide) ?_
    refine v_aload_n C 2 dX4_inferTerm_68 rfl rfl ?_
    obtain ⟨q2, hq2, h⟩ := bd_of h
    refine c_call C [] [] (c_Reader_readEntry hA _ hq2) hY_Reader_readEntry rfl (by decide) (okS _ 43 (by decide) rfl) ml_4_192 ⟨(by omega : 223 + 1 ≤ 344 + (d + 1)), (by omega : 8 + (5 + 11) + 8874 ≤ 13700 + 40 * (d + 1))⟩ ⟨Nat.zero_le _, Nat.zero_le _⟩ rfl rfl (Nat.le_of_ble_eq_true rfl) dX4_inferTerm_69 (wc_D hA cy _) ?_
    refine v_istore C [(4, .int q2.1), (3, .int (σ.1 38 4)), (2, .int (σ.1 43 7)), (0, .ref (ad 43)), (1, .int x1)] dX4_inferTerm_72 (by decide) rfl ?_
    refine v_goto C 114 dX4_inferTerm_74 (by decide) ?_
    exact v_sub [3, 4, 2, 1, 0] rfl ((b_Reader_inferTerm_114 C hA hr_readType hr_readBinder hr_checkTerm hr_readPair hr_readFunction hr_inferTerm hr_readAnnotated hr_readApplied hr_readComponent hr_checkInferred) _ _ _ _ _ h)
  rw [if_neg c1] at h
  by_cases c2 : q1.1 = 46
  · rw [if_pos c2] at h
    refine v_lookup C 87 dX4_inferTerm_17 (by decide) (by rw [c2]; try rfl) (by decide) ?_
    refine v_aload_n C 2 dX4_inferTerm_87 rfl rfl ?_
    refine v_iload_n C 3 dX4_inferTerm_88 rfl rfl ?_
    obtain ⟨q3, hq3, h⟩ := bd_of h
    refine c_call C [.int x1] [] (hr_readApplied _ _ _ hq3) hY_Reader_readApplied rfl (by decide) (okS _ 43 (by decide) rfl) ml_4_198 ⟨(by omega : (344 + d) + 1 ≤ 344 + (d + 1)), (by omega : 8 + (8 + 11) + (13700 + 40 * d) ≤ 13700 + 40 * (d + 1))⟩ ⟨Nat.zero_le _, Nat.zero_le _⟩ rfl rfl (Nat.le_of_ble_eq_true rfl) dX4_inferTerm_89 (wc_D hA cy _) ?_
    refine v_istore C [(4, .int q3.1), (3, .int (σ.1 38 4)), (2, .int (σ.1 43 7)), (0, .ref (ad 43)), (1, .int x1)] dX4_inferTerm_92 (by decide) rfl ?_
    refine v_goto C 114 dX4_inferTerm_94 (by decide) ?_
    exact v_sub [3, 4, 2, 1, 0] rfl ((b_Reader_inferTerm_114 C hA hr_readType hr_readBinder hr_checkTerm hr_readPair hr_readFunction hr_inferTerm hr_readAnnotated hr_readApplied hr_readComponent hr_checkInferred) _ _ _ _ _ h)
  rw [if_neg c2] at h
  by_cases c3 : q1.1 = 58
  · rw [if_pos c3] at h
    refine v_lookup C 77 dX4_inferTerm_17 (by decide) (by rw [c3]; try rfl) (by decide) ?_
    refine v_aload_n C 2 dX4_inferTerm_77 rfl rfl ?_
    refine v_iload_n C 3 dX4_inferTerm_78 rfl rfl ?_
    obtain ⟨q4, hq4, h⟩ := bd_of h
    refine c_call C [.int x1] [] (hr_readAnnotated _ _ _ hq4) hY_Reader_readAnnotated rfl (by decide) (okS _ 43 (by decide) rfl) ml_4_195 ⟨(by omega : (344 + d) + 1 ≤ 344 + (d + 1)), (by omega : 8 + (5 + 11) + (13700 + 40 * d) ≤ 13700 + 40 * (d + 1))⟩ ⟨Nat.zero_le _, Nat.zero_le _⟩ rfl rfl (Nat.le_of_ble_eq_true rfl) dX4_inferTerm_79 (wc_D hA cy _) ?_
    refine v_istore C [(4, .int q4.1), (3, .int (σ.1 38 4)), (2, .int (σ.1 43 7)), (0, .ref (ad 43)), (1, .int x1)] dX4_inferTerm_82 (by decide) rfl ?_
    refine v_goto C 114 dX4_inferTerm_84 (by decide) ?_
    exact v_sub [3, 4, 2, 1, 0] rfl ((b_Reader_inferTerm_114 C hA hr_readType hr_readBinder hr_checkTerm hr_readPair hr_readFunction hr_inferTerm hr_readAnnotated hr_readApplied hr_readComponent hr_checkInferred) _ _ _ _ _ h)
  rw [if_neg c3] at h
  by_cases c4 : q1.1 = 60
  · rw [if_pos c4] at h
    refine v_lookup C 97 dX4_inferTerm_17 (by decide) (by rw [c4]; try rfl) (by decide) ?_
    refine v_aload_n C 2 dX4_inferTerm_97 rfl rfl ?_
    refine v_iload_n C 3 dX4_inferTerm_98 rfl rfl ?_
    obtain ⟨q5, hq5, h⟩ := bd_of h
    refine c_call C [.int x1] [] (hr_readComponent _ _ _ hq5) hY_Reader_readComponent rfl (by decide) (okS _ 43 (by decide) rfl) ml_4_201 ⟨(by omega : (344 + d) + 1 ≤ 344 + (d + 1)), (by omega : 8 + (8 + 11) + (13700 + 40 * d) ≤ 13700 + 40 * (d + 1))⟩ ⟨Nat.zero_le _, Nat.zero_le _⟩ rfl rfl (Nat.le_of_ble_eq_true rfl) dX4_inferTerm_99 (wc_D hA cy _) ?_
    refine v_istore C [(4, .int q5.1), (3, .int (σ.1 38 4)), (2, .int (σ.1 43 7)), (0, .ref (ad 43)), (1, .int x1)] dX4_inferTerm_102 (by decide) rfl ?_
    refine v_goto C 114 dX4_inferTerm_104 (by decide) ?_
    exact v_sub [3, 4, 2, 1, 0] rfl ((b_Reader_inferTerm_114 C hA hr_readType hr_readBinder hr_checkTerm hr_readPair hr_readFunction hr_inferTerm hr_readAnnotated hr_readApplied hr_readComponent hr_checkInferred) _ _ _ _ _ h)
  rw [if_neg c4] at h
  by_cases c5 : q1.1 = 62
  · rw [if_pos c5] at h
    refine v_lookup C 97 dX4_inferTerm_17 (by decide) (by rw [c5]; try rfl) (by decide) ?_
    refine v_aload_n C 2 dX4_inferTerm_97 rfl rfl ?_
    refine v_iload_n C 3 dX4_inferTerm_98 rfl rfl ?_
    obtain ⟨q6, hq6, h⟩ := bd_of h
    refine c_call C [.int x1] [] (hr_readComponent _ _ _ hq6) hY_Reader_readComponent rfl (by decide) (okS _ 43 (by decide) rfl) ml_4_201 ⟨(by omega : (344 + d) + 1 ≤ 344 + (d + 1)), (by omega : 8 + (8 + 11) + (13700 + 40 * d) ≤ 13700 + 40 * (d + 1))⟩ ⟨Nat.zero_le _, Nat.zero_le _⟩ rfl rfl (Nat.le_of_ble_eq_true rfl) dX4_inferTerm_99 (wc_D hA cy _) ?_
    refine v_istore C [(4, .int q6.1), (3, .int (σ.1 38 4)), (2, .int (σ.1 43 7)), (0, .ref (ad 43)), (1, .int x1)] dX4_inferTerm_102 (by decide) rfl ?_
    refine v_goto C 114 dX4_inferTerm_104 (by decide) ?_
    exact v_sub [3, 4, 2, 1, 0] rfl ((b_Reader_inferTerm_114 C hA hr_readType hr_readBinder hr_checkTerm hr_readPair hr_readFunction hr_inferTerm hr_readAnnotated hr_readApplied hr_readComponent hr_checkInferred) _ _ _ _ _ h)
  rw [if_neg c5] at h
  refine v_lookup C 107 dX4_inferTerm_17 (by decide) (show Op.lookupswitch.offset [(35, 51), (46, 70), (58, 60), (60, 80), (62, 80)] 90 (q1.1 : Int32).toInt = 90 from by rw [lv_osw (a := 35) c1 (by decide), lv_osw (a := 46) c2 (by decide), lv_osw (a := 58) c3 (by decide), lv_osw (a := 60) c4 (by decide), lv_osw (a := 62) c5 (by decide)]; try rfl) (by decide) ?_
  refine v_aload_n C 2 dX4_inferTerm_107 rfl rfl ?_
  refine v_iload_n C 3 dX4_inferTerm_108 rfl rfl ?_
  obtain ⟨q7, hq7, h⟩ := bd_of h
  refine c_call C [.int x1] [] (c_Reader_readName hA _ _ hq7) hY_Reader_readName rfl (by decide) (okS _ 43 (by decide) rfl) ml_4_204 ⟨(by omega : 3 + 1 ≤ 344 + (d + 1)), (by omega : 8 + (4 + 11) + 66 ≤ 13700 + 40 * (d + 1))⟩ ⟨Nat.zero_le _, Nat.zero_le _⟩ rfl rfl (Nat.le_of_ble_eq_true rfl) dX4_inferTerm_109 (wc_D hA cy _) ?_
  refine v_istore C [(4, .int q7.1), (3, .int (σ.1 38 4)), (2, .int (σ.1 43 7)), (0, .ref (ad 43)), (1, .int x1)] dX4_inferTerm_112 (by decide) rfl ?_
  exact v_sub [3, 4, 2, 1, 0] rfl ((b_Reader_inferTerm_114 C hA hr_readType hr_readBinder hr_checkTerm hr_readPair hr_readFunction hr_inferTerm hr_readAnnotated hr_readApplied hr_readComponent hr_checkInferred) _ _ _ _ _ h)
set_option maxHeartbeats 4000000 in
set_option maxRecDepth 20000 in
theorem w_Reader_readAnnotated {l : Launch} {D : va_G} {cy : Nat → ClassId} {ad : Nat → Nat} {q : Int32 × CS} {r_readType : Int32 → CS → Option (Int32 × CS)} {r_readBinder : Int32 → Int32 → Int32 → CS → Option (Int32 × CS)} {r_checkTerm : Int32 → Int32 → CS → Option (Int32 × CS)} {r_readPair : Int32 → Int32 → CS → Option (Int32 × CS)} {r_readFunction : Int32 → Int32 → CS → Option (Int32 × CS)} {r_inferTerm : Int32 → CS → Option (Int32 × CS)} {r_readAnnotated : Int32 → CS → Option (Int32 × CS)} {r_readApplied : Int32 → CS → Option (Int32 × CS)} {r_readComponent : Int32 → CS → Option (Int32 × CS)} {r_checkInferred : Int32 → Int32 → CS → Option (Int32 × CS)} {d : Nat} (hA : adOK ad) (hr_readType : ∀ (z1 : Int32) (σ : CS) (q : Int32 × CS), r_readType z1 σ = some q → MV l D (cyT cy) (inC ad) yX4_readType cX4_readType 7 (some .int) (344 + d) (13700 + 40 * d) 0 0 [.ref (ad 43), .int z1] (wc cy ad σ) (some (.int q.1)) (wc cy ad q.2)) (hr_readBinder : ∀ (z1 : Int32) (z2 : Int32) (z3 : Int32) (σ : CS) (q : Int32 × CS), r_readBinder z1 z2 z3 σ = some q → MV l D (cyT cy) (inC ad) yX4_readBinder cX4_readBinder 7 (some .int) (344 + d) (13700 + 40 * d) 0 0 [.ref (ad 43), .int z1, .int z2, .int z3] (wc cy ad σ) (some (.int q.1)) (wc cy ad q.2)) (hr_checkTerm : ∀ (z1 : Int32) (z2 : Int32) (σ : CS) (q : Int32 × CS), r_checkTerm z1 z2 σ = some q → MV l D (cyT cy) (inC ad) yX4_checkTerm cX4_checkTerm 6 (some .int) (344 + d) (13700 + 40 * d) 0 0 [.ref (ad 43), .int z1, .int z2] (wc cy ad σ) (some (.int q.1)) (wc cy ad q.2)) (hr_readPair : ∀ (z1 : Int32) (z2 : Int32) (σ : CS) (q : Int32 × CS), r_readPair z1 z2 σ = some q → MV l D (cyT cy) (inC ad) yX4_readPair cX4_readPair 7 (some .int) (344 + d) (13700 + 40 * d) 0 0 [.ref (ad 43), .int z1, .int z2] (wc cy ad σ) (some (.int q.1)) (wc cy ad q.2)) (hr_readFunction : ∀ (z1 : Int32) (z2 : Int32) (σ : CS) (q : Int32 × CS), r_readFunction z1 z2 σ = some q → MV l D (cyT cy) (inC ad) yX4_readFunction cX4_readFunction 6 (some .int) (344 + d) (13700 + 40 * d) 0 0 [.ref (ad 43), .int z1, .int z2] (wc cy ad σ) (some (.int q.1)) (wc cy ad q.2)) (hr_inferTerm : ∀ (z1 : Int32) (σ : CS) (q : Int32 × CS), r_inferTerm z1 σ = some q → MV l D (cyT cy) (inC ad) yX4_inferTerm cX4_inferTerm 7 (some .int) (344 + d) (13700 + 40 * d) 0 0 [.ref (ad 43), .int z1] (wc cy ad σ) (some (.int q.1)) (wc cy ad q.2)) (hr_readAnnotated : ∀ (z1 : Int32) (σ : CS) (q : Int32 × CS), r_readAnnotated z1 σ = some q → MV l D (cyT cy) (inC ad) yX4_readAnnotated cX4_readAnnotated 5 (some .boolean) (344 + d) (13700 + 40 * d) 0 0 [.ref (ad 43), .int z1] (wc cy ad σ) (some (.int q.1)) (wc cy ad q.2)) (hr_readApplied : ∀ (z1 : Int32) (σ : CS) (q : Int32 × CS), r_readApplied z1 σ = some q → MV l D (cyT cy) (inC ad) yX4_readApplied cX4_readApplied 8 (some .boolean) (344 + d) (13700 + 40 * d) 0 0 [.ref (ad 43), .int z1] (wc cy ad σ) (some (.int q.1)) (wc cy ad q.2)) (hr_readComponent : ∀ (z1 : Int32) (σ : CS) (q : Int32 × CS), r_readComponent z1 σ = some q → MV l D (cyT cy) (inC ad) yX4_readComponent cX4_readComponent 8 (some .boolean) (344 + d) (13700 + 40 * d) 0 0 [.ref (ad 43), .int z1] (wc cy ad σ) (some (.int q.1)) (wc cy ad q.2)) (hr_checkInferred : ∀ (z1 : Int32) (z2 : Int32) (σ : CS) (q : Int32 × CS), r_checkInferred z1 z2 σ = some q → MV l D (cyT cy) (inC ad) yX4_checkInferred cX4_checkInferred 9 (some .int) (344 + d) (13700 + 40 * d) 0 0 [.ref (ad 43), .int z1, .int z2] (wc cy ad σ) (some (.int q.1)) (wc cy ad q.2)) (x1 : Int32) (σ : CS) (h : F_Reader_readAnnotated r_readType r_readBinder r_checkTerm r_readPair r_readFunction r_inferTerm r_readAnnotated r_readApplied r_readComponent r_checkInferred x1 σ = some q) : MV l D (cyT cy) (inC ad) yX4_readAnnotated cX4_readAnnotated 5 (some .boolean) (344 + (d + 1)) (13700 + 40 * (d + 1)) 0 0 [.ref (ad 43), .int x1] (wc cy ad σ) (some (.int q.1)) (wc cy ad q.2) := by
  refine MV.of (by decide) (wc_D hA cy σ) (Nat.le_of_ble_eq_true rfl) [(0, .ref (ad 43)), (1, .int x1)] rfl ?_
  intro p e s m args below meth c C
  rw [F_Reader_readAnnotated] at h
  refine v_aload_n C 0 dX4_readAnnotated_0 rfl rfl ?_
  refine v_dup C dX4_readAnnotated_1 rfl ?_
  refine c_getI C fl_4_41 rfl (okS _ 43 (by decide) rfl) dX4_readAnnotated_2 ?_
  refine v_iconst C 1 dX4_readAnnotated_5 (by decide) ?_
  refine v_iadd C dX4_readAnnotated_6 ?_
  refine c_putI C fl_4_41 fw_4_7 rfl (by decide) (okS _ 43 (by decide) rfl) dX4_readAnnotated_7 ?_
  refine v_aload_n C 0 dX4_readAnnotated_10 rfl rfl ?_
  refine v_iload_n C 1 dX4_readAnnotated_11 rfl rfl ?_
  obtain ⟨q1, hq1, h⟩ := bd_of h
  refine c_call C [.int x1] [] (hr_readType _ _ _ hq1) hY_Reader_readType rfl (by decide) (okS _ 43 (by decide) rfl) ml_4_59 ⟨(by omega : (344 + d) + 1 ≤ 344 + (d + 1)), (by omega : 8 + (7 + 11) + (13700 + 40 * d) ≤ 13700 + 40 * (d + 1))⟩ ⟨Nat.zero_le _, Nat.zero_le _⟩ rfl rfl (Nat.le_of_ble_eq_true rfl) dX4_readAnnotated_12 (wc_D hA cy _) ?_
  refine v_istore_n C [(2, .int q1.1), (0, .ref (ad 43)), (1, .int x1)] dX4_readAnnotated_15 rfl (by decide) rfl ?_
  refine v_iload_n C 0 dX4_readAnnotated_16 rfl rfl ?_
  refine v_iconst C (-1) dX4_readAnnotated_17 (by decide) ?_
  refine v_icmp_ne C 23 dX4_readAnnotated_18 (by decide) (fun c1 => ?_) (fun c1 => ?_)
  · rw [if_neg c1] at h
    refine v_aload_n C 1 dX4_readAnnotated_23 rfl rfl ?_
    refine c_getS C 38 fl_4_29 rfl rfl (by decide) (okS _ 43 (by decide) rfl) dX4_readAnnotated_24 ?_
    refine v_iload_n C 0 dX4_readAnnotated_27 rfl rfl ?_
    refine v_aload_n C 1 dX4_readAnnotated_28 rfl rfl ?_
    refine v_iload_n C 2 dX4_readAnnotated_29 rfl rfl ?_
    obtain ⟨q2, hq2, h⟩ := bd_of h
    refine c_call C [.int x1] [.int q1.1, .ref (ad 38)] (c_Reader_scope hA _ _ hq2) hY_Reader_scope rfl (by decide) (okS _ 43 (by decide) rfl) ml_4_145 ⟨(by omega : 0 + 1 ≤ 344 + (d + 1)), (by omega : 8 + (2 + 11) + 0 ≤ 13700 + 40 * (d + 1))⟩ ⟨Nat.zero_le _, Nat.zero_le _⟩ rfl rfl (Nat.le_of_ble_eq_true rfl) dX4_readAnnotated_30 (wc_D hA cy _) ?_
    obtain ⟨q3, hq3, h⟩ := bd_of h
    refine c_call C [.int q1.1, .int q2.1] [] (c_Values_typeAt hA _ _ _ hq3) hY_Values_typeAt rfl (by decide) (okS _ 38 (by decide) rfl) ml_4_66 ⟨(by omega : 1 + 1 ≤ 344 + (d + 1)), (by omega : 8 + (3 + 11) + 23 ≤ 13700 + 40 * (d + 1))⟩ ⟨Nat.zero_le _, Nat.zero_le _⟩ rfl rfl (Nat.le_of_ble_eq_true rfl) dX4_readAnnotated_33 (wc_D hA cy _) ?_
    refine v_istore_n C [(3, .int q3.1), (2, .int q1.1), (0, .ref (ad 43)), (1, .int x1)] dX4_readAnnotated_36 rfl (by decide) rfl ?_
    refine v_aload_n C 2 dX4_readAnnotated_37 rfl rfl ?_
    refine v_iload_n C 0 dX4_readAnnotated_38 rfl rfl ?_
    refine v_iload_n C 3 dX4_readAnnotated_39 rfl rfl ?_
    obtain ⟨q4, hq4, h⟩ := bd_of h
    refine c_call C [.int q3.1, .int x1] [] (hr_checkTerm _ _ _ _ hq4) hY_Reader_checkTerm rfl (by decide) (okS _ 43 (by decide) rfl) ml_4_70 ⟨(by omega : (344 + d) + 1 ≤ 344 + (d + 1)), (by omega : 8 + (6 + 11) + (13700 + 40 * d) ≤ 13700 + 40 * (d + 1))⟩ ⟨Nat.zero_le _, Nat.zero_le _⟩ rfl rfl (Nat.le_of_ble_eq_true rfl) dX4_readAnnotated_40 (wc_D hA cy _) ?_
    refine v_istore C [(4, .int q4.1), (3, .int q3.1), (2, .int q1.1), (0, .ref (ad 43)), (1, .int x1)] dX4_readAnnotated_43 (by decide) rfl ?_
    refine v_iload C 0 dX4_readAnnotated_45 rfl ?_
    refine v_iconst C (-1) dX4_readAnnotated_47 (by decide) ?_
    refine v_icmp_ne C 53 dX4_readAnnotated_48 (by decide) (fun c2 => ?_) (fun c2 => ?_)
    · rw [if_neg c2] at h
      refine v_aload_n C 3 dX4_readAnnotated_53 rfl rfl ?_
      refine v_iload_n C 1 dX4_readAnnotated_54 rfl rfl ?_
      refine v_aload_n C 3 dX4_readAnnotated_55 rfl rfl ?_
      refine c_getS C 38 fl_4_29 rfl rfl (by decide) (okS _ 43 (by decide) rfl) dX4_readAnnotated_56 ?_
      refine v_iload C 0 dX4_readAnnotated_59 rfl ?_
      refine v_aload_n C 3 dX4_readAnnotated_61 rfl rfl ?_
      refine v_iload_n C 4 dX4_readAnnotated_62 rfl rfl ?_
      obtain ⟨q5, hq5, h⟩ := bd_of h
      refine c_call C [.int x1] [.int q4.1, .ref (ad 38), .int q3.1, .ref (ad 43)] (c_Reader_scope hA _ _ hq5) hY_Reader_scope rfl (by decide) (okS _ 43 (by decide) rfl) ml_4_145 ⟨(by omega : 0 + 1 ≤ 344 + (d + 1)), (by omega : 8 + (2 + 11) + 0 ≤ 13700 + 40 * (d + 1))⟩ ⟨Nat.zero_le _, Nat.zero_le _⟩ rfl rfl (Nat.le_of_ble_eq_true rfl) dX4_readAnnotated_63 (wc_D hA cy _) ?_
      refine v_bipush C 104 dX4_readAnnotated_66 (by decide) ?_
      obtain ⟨q6, hq6, h⟩ := bd_of h
      refine c_callN C [.int q4.1, .int q5.1, .int 104] [.int q3.1, .ref (ad 43)] (c_Values_evaluate hA _ _ _ _ hq6) hY_Values_evaluate rfl (by decide) (okS _ 38 (by decide) rfl) ml_4_186 ⟨(by omega : 222 + 1 ≤ 344 + (d + 1)), (by omega : 8 + (9 + 11) + 8846 ≤ 13700 + 40 * (d + 1))⟩ ⟨Nat.zero_le _, Nat.zero_le _⟩ rfl rfl (Nat.le_of_ble_eq_true rfl) dX4_readAnnotated_68 (wc_D hA cy _) ?_
      obtain ⟨q7, hq7, h⟩ := bd_of h
      refine c_call C [.int q3.1, .int q6.1] [] (c_Reader_hasRead hA _ _ _ hq7) hY_Reader_hasRead rfl (by decide) (okS _ 43 (by decide) rfl) ml_4_223 ⟨(by omega : 0 + 1 ≤ 344 + (d + 1)), (by omega : 8 + (3 + 11) + 0 ≤ 13700 + 40 * (d + 1))⟩ ⟨Nat.zero_le _, Nat.zero_le _⟩ rfl rfl (Nat.le_of_ble_eq_true rfl) dX4_readAnnotated_71 (wc_D hA cy _) ?_
      obtain ⟨g1, h⟩ := gd_of h
      obtain rfl := Option.some.inj h
      exact v_zret C (bzb_in g1) dX4_readAnnotated_74
    · rw [if_pos c2] at h
      refine v_iconst C 0 dX4_readAnnotated_51 (by decide) ?_
      obtain rfl := Option.some.inj h
      exact v_zret C (Or.inl rfl) dX4_readAnnotated_52
  · rw [if_pos c1] at h
    refine v_iconst C 0 dX4_readAnnotated_21 (by decide) ?_
    obtain rfl := Option.some.inj h
    exact v_zret C (Or.inl rfl) dX4_readAnnotated_22
set_option maxHeartbeats 4000000 in
set_option maxRecDepth 20000 in
theorem w_Reader_readApplied {l : Launch} {D : va_G} {cy : Nat → ClassId} {ad : Nat → Nat} {q : Int32 × CS} {r_readType : Int32 → CS → Option (Int32 × CS)} {r_readBinder : Int32 → Int32 → Int32 → CS → Option (Int32 × CS)} {r_checkTerm : Int32 → Int32 → CS → Option (Int32 × CS)} {r_readPair : Int32 → Int32 → CS → Option (Int32 × CS)} {r_readFunction : Int32 → Int32 → CS → Option (Int32 × CS)} {r_inferTerm : Int32 → CS → Option (Int32 × CS)} {r_readAnnotated : Int32 → CS → Option (Int32 × CS)} {r_readApplied : Int32 → CS → Option (Int32 × CS)} {r_readComponent : Int32 → CS → Option (Int32 × CS)} {r_checkInferred : Int32 → Int32 → CS → Option (Int32 × CS)} {d : Nat} (hA : adOK ad) (hr_readType : ∀ (z1 : Int32) (σ : CS) (q : Int32 × CS), r_readType z1 σ = some q → MV l D (cyT cy) (inC ad) yX4_readType cX4_readType 7 (some .int) (344 + d) (13700 + 40 * d) 0 0 [.ref (ad 43), .int z1] (wc cy ad σ) (some (.int q.1)) (wc cy ad q.2)) (hr_readBinder : ∀ (z1 : Int32) (z2 : Int32) (z3 : Int32) (σ : CS) (q : Int32 × CS), r_readBinder z1 z2 z3 σ = some q → MV l D (cyT cy) (inC ad) yX4_readBinder cX4_readBinder 7 (some .int) (344 + d) (13700 + 40 * d) 0 0 [.ref (ad 43), .int z1, .int z2, .int z3] (wc cy ad σ) (some (.int q.1)) (wc cy ad q.2)) (hr_checkTerm : ∀ (z1 : Int32) (z2 : Int32) (σ : CS) (q : Int32 × CS), r_checkTerm z1 z2 σ = some q → MV l D (cyT cy) (inC ad) yX4_checkTerm cX4_checkTerm 6 (some .int) (344 + d) (13700 + 40 * d) 0 0 [.ref (ad 43), .int z1, .int z2] (wc cy ad σ) (some (.int q.1)) (wc cy ad q.2)) (hr_readPair : ∀ (z1 : Int32) (z2 : Int32) (σ : CS) (q : Int32 × CS), r_readPair z1 z2 σ = some q → MV l D (cyT cy) (inC ad) yX4_readPair cX4_readPair 7 (some .int) (344 + d) (13700 + 40 * d) 0 0 [.ref (ad 43), .int z1, .int z2] (wc cy ad σ) (some (.int q.1)) (wc cy ad q.2)) (hr_readFunction : ∀ (z1 : Int32) (z2 : Int32) (σ : CS) (q : Int32 × CS), r_readFunction z1 z2 σ = some q → MV l D (cyT cy) (inC ad) yX4_readFunction cX4_readFunction 6 (some .int) (344 + d) (13700 + 40 * d) 0 0 [.ref (ad 43), .int z1, .int z2] (wc cy ad σ) (some (.int q.1)) (wc cy ad q.2)) (hr_inferTerm : ∀ (z1 : Int32) (σ : CS) (q : Int32 × CS), r_inferTerm z1 σ = some q → MV l D (cyT cy) (inC ad) yX4_inferTerm cX4_inferTerm 7 (some .int) (344 + d) (13700 + 40 * d) 0 0 [.ref (ad 43), .int z1] (wc cy ad σ) (some (.int q.1)) (wc cy ad q.2)) (hr_readAnnotated : ∀ (z1 : Int32) (σ : CS) (q : Int32 × CS), r_readAnnotated z1 σ = some q → MV l D (cyT cy) (inC ad) yX4_readAnnotated cX4_readAnnotated 5 (some .boolean) (344 + d) (13700 + 40 * d) 0 0 [.ref (ad 43), .int z1] (wc cy ad σ) (some (.int q.1)) (wc cy ad q.2)) (hr_readApplied : ∀ (z1 : Int32) (σ : CS) (q : Int32 × CS), r_readApplied z1 σ = some q → MV l D (cyT cy) (inC ad) yX4_readApplied cX4_readApplied 8 (some .boolean) (344 + d) (13700 + 40 * d) 0 0 [.ref (ad 43), .int z1] (wc cy ad σ) (some (.int q.1)) (wc cy ad q.2)) (hr_readComponent : ∀ (z1 : Int32) (σ : CS) (q : Int32 × CS), r_readComponent z1 σ = some q → MV l D (cyT cy) (inC ad) yX4_readComponent cX4_readComponent 8 (some .boolean) (344 + d) (13700 + 40 * d) 0 0 [.ref (ad 43), .int z1] (wc cy ad σ) (some (.int q.1)) (wc cy ad q.2)) (hr_checkInferred : ∀ (z1 : Int32) (z2 : Int32) (σ : CS) (q : Int32 × CS), r_checkInferred z1 z2 σ = some q → MV l D (cyT cy) (inC ad) yX4_checkInferred cX4_checkInferred 9 (some .int) (344 + d) (13700 + 40 * d) 0 0 [.ref (ad 43), .int z1, .int z2] (wc cy ad σ) (some (.int q.1)) (wc cy ad q.2)) (x1 : Int32) (σ : CS) (h : F_Reader_readApplied r_readType r_readBinder r_checkTerm r_readPair r_readFunction r_inferTerm r_readAnnotated r_readApplied r_readComponent r_checkInferred x1 σ = some q) : MV l D (cyT cy) (inC ad) yX4_readApplied cX4_readApplied 8 (some .boolean) (344 + (d + 1)) (13700 + 40 * (d + 1)) 0 0 [.ref (ad 43), .int x1] (wc cy ad σ) (some (.int q.1)) (wc cy ad q.2) := by
  refine MV.of (by decide) (wc_D hA cy σ) (Nat.le_of_ble_eq_true rfl) [(0, .ref (ad 43)), (1, .int x1)] rfl ?_
  intro p e s m args below meth c C
  rw [F_Reader_readApplied] at h
  refine v_aload_n C 0 dX4_readApplied_0 rfl rfl ?_
  refine v_dup C dX4_readApplied_1 rfl ?_
  refine c_getI C fl_4_41 rfl (okS _ 43 (by decide) rfl) dX4_readApplied_2 ?_
  refine v_iconst C 1 dX4_readApplied_5 (by decide) ?_
  refine v_iadd C dX4_readApplied_6 ?_
  refine c_putI C fl_4_41 fw_4_7 rfl (by decide) (okS _ 43 (by decide) rfl) dX4_readApplied_7 ?_
  refine v_aload_n C 0 dX4_readApplied_10 rfl rfl ?_
  refine c_getI C fl_4_41 rfl (okS _ 43 (by decide) rfl) dX4_readApplied_11 ?_
  refine v_istore_n C [(2, .int ((sI σ 43 7 ((σ.1 43 7) + 1)).1 43 7)), (0, .ref (ad 43)), (1, .int x1)] dX4_readApplied_14 rfl (by decide) rfl ?_
  refine v_aload_n C 1 dX4_readApplied_15 rfl rfl ?_
  refine v_iload_n C 2 dX4_readApplied_16 rfl rfl ?_
  obtain ⟨q1, hq1, h⟩ := bd_of h
  refine c_call C [.int x1] [] (hr_inferTerm _ _ _ hq1) hY_Reader_inferTerm rfl (by decide) (okS _ 43 (by decide) rfl) ml_4_83 ⟨(by omega : (344 + d) + 1 ≤ 344 + (d + 1)), (by omega : 8 + (7 + 11) + (13700 + 40 * d) ≤ 13700 + 40 * (d + 1))⟩ ⟨Nat.zero_le _, Nat.zero_le _⟩ rfl rfl (Nat.le_of_ble_eq_true rfl) dX4_readApplied_17 (wc_D hA cy _) ?_
  refine v_istore_n C [(3, .int q1.1), (2, .int ((sI σ 43 7 ((σ.1 43 7) + 1)).1 43 7)), (0, .ref (ad 43)), (1, .int x1)] dX4_readApplied_20 rfl (by decide) rfl ?_
  refine v_iload_n C 0 dX4_readApplied_21 rfl rfl ?_
  refine v_iconst C (-1) dX4_readApplied_22 (by decide) ?_
  refine v_icmp_ne C 28 dX4_readApplied_23 (by decide) (fun c1 => ?_) (fun c1 => ?_)
  · rw [if_neg c1] at h
    refine v_aload_n C 2 dX4_readApplied_28 rfl rfl ?_
    refine c_getS C 38 fl_4_29 rfl rfl (by decide) (okS _ 43 (by decide) rfl) dX4_readApplied_29 ?_
    refine v_aload_n C 2 dX4_readApplied_32 rfl rfl ?_
    refine c_getI C fl_4_176 rfl (okS _ 43 (by decide) rfl) dX4_readApplied_33 ?_
    refine v_aload_n C 2 dX4_readApplied_36 rfl rfl ?_
    refine v_iload_n C 3 dX4_readApplied_37 rfl rfl ?_
    obtain ⟨q2, hq2, h⟩ := bd_of h
    refine c_call C [.int x1] [.int (q1.2.1 43 9), .ref (ad 38)] (c_Reader_scope hA _ _ hq2) hY_Reader_scope rfl (by decide) (okS _ 43 (by decide) rfl) ml_4_145 ⟨(by omega : 0 + 1 ≤ 344 + (d + 1)), (by omega : 8 + (2 + 11) + 0 ≤ 13700 + 40 * (d + 1))⟩ ⟨Nat.zero_le _, Nat.zero_le _⟩ rfl rfl (Nat.le_of_ble_eq_true rfl) dX4_readApplied_38 (wc_D hA cy _) ?_
    obtain ⟨q3, hq3, h⟩ := bd_of h
    refine c_call C [.int (q1.2.1 43 9), .int q2.1] [] (c_Values_typeAt hA _ _ _ hq3) hY_Values_typeAt rfl (by decide) (okS _ 38 (by decide) rfl) ml_4_66 ⟨(by omega : 1 + 1 ≤ 344 + (d + 1)), (by omega : 8 + (3 + 11) + 23 ≤ 13700 + 40 * (d + 1))⟩ ⟨Nat.zero_le _, Nat.zero_le _⟩ rfl rfl (Nat.le_of_ble_eq_true rfl) dX4_readApplied_41 (wc_D hA cy _) ?_
    refine v_istore C [(4, .int q3.1), (3, .int q1.1), (2, .int ((sI σ 43 7 ((σ.1 43 7) + 1)).1 43 7)), (0, .ref (ad 43)), (1, .int x1)] dX4_readApplied_44 (by decide) rfl ?_
    refine v_aload_n C 3 dX4_readApplied_46 rfl rfl ?_
    refine c_getS C 38 fl_4_29 rfl rfl (by decide) (okS _ 43 (by decide) rfl) dX4_readApplied_47 ?_
    refine v_iload C 0 dX4_readApplied_50 rfl ?_
    obtain ⟨q4, hq4, h⟩ := bd_of h
    refine c_call C [.int q3.1] [] (c_Values_formOf hA _ _ hq4) hY_Values_formOf rfl (by decide) (okS _ 38 (by decide) rfl) ml_4_151 ⟨(by omega : 1 + 1 ≤ 344 + (d + 1)), (by omega : 8 + (2 + 11) + 21 ≤ 13700 + 40 * (d + 1))⟩ ⟨Nat.zero_le _, Nat.zero_le _⟩ rfl rfl (Nat.le_of_ble_eq_true rfl) dX4_readApplied_52 (wc_D hA cy _) ?_
    refine v_bipush C 80 dX4_readApplied_55 (by decide) ?_
    refine v_icmp_eq C 66 dX4_readApplied_57 (by decide) (fun c2 => ?_) (fun c2 => ?_)
    · rw [if_pos c2] at h
      refine v_aload_n C 3 dX4_readApplied_66 rfl rfl ?_
      refine v_aload_n C 3 dX4_readApplied_67 rfl rfl ?_
      refine c_getS C 38 fl_4_29 rfl rfl (by decide) (okS _ 43 (by decide) rfl) dX4_readApplied_68 ?_
      refine v_iload C 0 dX4_readApplied_71 rfl ?_
      obtain ⟨q5, hq5, h⟩ := bd_of h
      refine c_call C [.int q3.1] [.ref (ad 43)] (c_Values_firstType hA _ _ hq5) hY_Values_firstType rfl (by decide) (okS _ 38 (by decide) rfl) ml_4_183 ⟨(by omega : 2 + 1 ≤ 344 + (d + 1)), (by omega : 8 + (2 + 11) + 45 ≤ 13700 + 40 * (d + 1))⟩ ⟨Nat.zero_le _, Nat.zero_le _⟩ rfl rfl (Nat.le_of_ble_eq_true rfl) dX4_readApplied_73 (wc_D hA cy _) ?_
      refine v_iload_n C 4 dX4_readApplied_76 rfl rfl ?_
      obtain ⟨q6, hq6, h⟩ := bd_of h
      refine c_call C [.int q5.1, .int x1] [] (hr_checkTerm _ _ _ _ hq6) hY_Reader_checkTerm rfl (by decide) (okS _ 43 (by decide) rfl) ml_4_70 ⟨(by omega : (344 + d) + 1 ≤ 344 + (d + 1)), (by omega : 8 + (6 + 11) + (13700 + 40 * d) ≤ 13700 + 40 * (d + 1))⟩ ⟨Nat.zero_le _, Nat.zero_le _⟩ rfl rfl (Nat.le_of_ble_eq_true rfl) dX4_readApplied_77 (wc_D hA cy _) ?_
      refine v_istore C [(5, .int q6.1), (4, .int q3.1), (3, .int q1.1), (2, .int ((sI σ 43 7 ((σ.1 43 7) + 1)).1 43 7)), (0, .ref (ad 43)), (1, .int x1)] dX4_readApplied_80 (by decide) rfl ?_
      refine v_iload C 0 dX4_readApplied_82 rfl ?_
      refine v_iconst C (-1) dX4_readApplied_84 (by decide) ?_
      refine v_icmp_ne C 90 dX4_readApplied_85 (by decide) (fun c3 => ?_) (fun c3 => ?_)
      · rw [if_neg c3] at h
        refine v_aload_n C 4 dX4_readApplied_90 rfl rfl ?_
        refine c_getS C 38 fl_4_29 rfl rfl (by decide) (okS _ 43 (by decide) rfl) dX4_readApplied_91 ?_
        refine v_iload C 0 dX4_readApplied_94 rfl ?_
        refine v_aload_n C 4 dX4_readApplied_96 rfl rfl ?_
        refine v_iload_n C 5 dX4_readApplied_97 rfl rfl ?_
        obtain ⟨q7, hq7, h⟩ := bd_of h
        refine c_call C [.int x1] [.int q6.1, .ref (ad 38)] (c_Reader_scope hA _ _ hq7) hY_Reader_scope rfl (by decide) (okS _ 43 (by decide) rfl) ml_4_145 ⟨(by omega : 0 + 1 ≤ 344 + (d + 1)), (by omega : 8 + (2 + 11) + 0 ≤ 13700 + 40 * (d + 1))⟩ ⟨Nat.zero_le _, Nat.zero_le _⟩ rfl rfl (Nat.le_of_ble_eq_true rfl) dX4_readApplied_98 (wc_D hA cy _) ?_
        refine v_bipush C 104 dX4_readApplied_101 (by decide) ?_
        obtain ⟨q8, hq8, h⟩ := bd_of h
        refine c_callN C [.int q6.1, .int q7.1, .int 104] [] (c_Values_evaluate hA _ _ _ _ hq8) hY_Values_evaluate rfl (by decide) (okS _ 38 (by decide) rfl) ml_4_186 ⟨(by omega : 222 + 1 ≤ 344 + (d + 1)), (by omega : 8 + (9 + 11) + 8846 ≤ 13700 + 40 * (d + 1))⟩ ⟨Nat.zero_le _, Nat.zero_le _⟩ rfl rfl (Nat.le_of_ble_eq_true rfl) dX4_readApplied_103 (wc_D hA cy _) ?_
        refine v_istore C [(6, .int q8.1), (5, .int q6.1), (4, .int q3.1), (3, .int q1.1), (2, .int ((sI σ 43 7 ((σ.1 43 7) + 1)).1 43 7)), (0, .ref (ad 43)), (1, .int x1)] dX4_readApplied_106 (by decide) rfl ?_
        refine v_aload_n C 5 dX4_readApplied_108 rfl rfl ?_
        refine c_getS C 38 fl_4_29 rfl rfl (by decide) (okS _ 43 (by decide) rfl) dX4_readApplied_109 ?_
        refine v_iload_n C 3 dX4_readApplied_112 rfl rfl ?_
        refine v_aload_n C 5 dX4_readApplied_113 rfl rfl ?_
        refine v_iload_n C 6 dX4_readApplied_114 rfl rfl ?_
        obtain ⟨q9, hq9, h⟩ := bd_of h
        refine c_call C [.int x1] [.int q1.1, .ref (ad 38)] (c_Reader_scope hA _ _ hq9) hY_Reader_scope rfl (by decide) (okS _ 43 (by decide) rfl) ml_4_145 ⟨(by omega : 0 + 1 ≤ 344 + (d + 1)), (by omega : 8 + (2 + 11) + 0 ≤ 13700 + 40 * (d + 1))⟩ ⟨Nat.zero_le _, Nat.zero_le _⟩ rfl rfl (Nat.le_of_ble_eq_true rfl) dX4_readApplied_115 (wc_D hA cy _) ?_
        refine v_bipush C 104 dX4_readApplied_118 (by decide) ?_
        obtain ⟨q10, hq10, h⟩ := bd_of h
        refine c_callN C [.int q1.1, .int q9.1, .int 104] [] (c_Values_evaluate hA _ _ _ _ hq10) hY_Values_evaluate rfl (by decide) (okS _ 38 (by decide) rfl) ml_4_186 ⟨(by omega : 222 + 1 ≤ 344 + (d + 1)), (by omega : 8 + (9 + 11) + 8846 ≤ 13700 + 40 * (d + 1))⟩ ⟨Nat.zero_le _, Nat.zero_le _⟩ rfl rfl (Nat.le_of_ble_eq_true rfl) dX4_readApplied_120 (wc_D hA cy _) ?_
        refine v_istore C [(7, .int q10.1), (6, .int q8.1), (5, .int q6.1), (4, .int q3.1), (3, .int q1.1), (2, .int ((sI σ 43 7 ((σ.1 43 7) + 1)).1 43 7)), (0, .ref (ad 43)), (1, .int x1)] dX4_readApplied_123 (by decide) rfl ?_
        refine v_aload_n C 6 dX4_readApplied_125 rfl rfl ?_
        refine v_aload_n C 6 dX4_readApplied_126 rfl rfl ?_
        refine c_getS C 38 fl_4_29 rfl rfl (by decide) (okS _ 43 (by decide) rfl) dX4_readApplied_127 ?_
        refine v_iload C 3 dX4_readApplied_130 rfl ?_
        refine v_iload C 1 dX4_readApplied_132 rfl ?_
        obtain ⟨q11, hq11, h⟩ := bd_of h
        refine c_call C [.int q3.1, .int q8.1] [.ref (ad 43)] (c_Values_secondType hA _ _ _ hq11) hY_Values_secondType rfl (by decide) (okS _ 38 (by decide) rfl) ml_4_189 ⟨(by omega : 2 + 1 ≤ 344 + (d + 1)), (by omega : 8 + (4 + 11) + 45 ≤ 13700 + 40 * (d + 1))⟩ ⟨Nat.zero_le _, Nat.zero_le _⟩ rfl rfl (Nat.le_of_ble_eq_true rfl) dX4_readApplied_134 (wc_D hA cy _) ?_
        refine v_aload_n C 6 dX4_readApplied_137 rfl rfl ?_
        refine c_getS C 38 fl_4_29 rfl rfl (by decide) (okS _ 43 (by decide) rfl) dX4_readApplied_138 ?_
        refine v_iload C 0 dX4_readApplied_141 rfl ?_
        refine v_iload C 1 dX4_readApplied_143 rfl ?_
        refine v_bipush C 104 dX4_readApplied_145 (by decide) ?_
        obtain ⟨q12, hq12, h⟩ := bd_of h
        refine c_callN C [.int q10.1, .int q8.1, .int 104] [.int q11.1, .ref (ad 43)] (c_Values_apply hA _ _ _ _ hq12) hY_Values_apply rfl (by decide) (okS _ 38 (by decide) rfl) ml_4_250 ⟨(by omega : 222 + 1 ≤ 344 + (d + 1)), (by omega : 8 + (4 + 11) + 8846 ≤ 13700 + 40 * (d + 1))⟩ ⟨Nat.zero_le _, Nat.zero_le _⟩ rfl rfl (Nat.le_of_ble_eq_true rfl) dX4_readApplied_147 (wc_D hA cy _) ?_
        obtain ⟨q13, hq13, h⟩ := bd_of h
        refine c_call C [.int q11.1, .int q12.1] [] (c_Reader_hasRead hA _ _ _ hq13) hY_Reader_hasRead rfl (by decide) (okS _ 43 (by decide) rfl) ml_4_223 ⟨(by omega : 0 + 1 ≤ 344 + (d + 1)), (by omega : 8 + (3 + 11) + 0 ≤ 13700 + 40 * (d + 1))⟩ ⟨Nat.zero_le _, Nat.zero_le _⟩ rfl rfl (Nat.le_of_ble_eq_true rfl) dX4_readApplied_150 (wc_D hA cy _) ?_
        obtain ⟨g1, h⟩ := gd_of h
        obtain rfl := Option.some.inj h
        exact v_zret C (bzb_in g1) dX4_readApplied_153
      · rw [if_pos c3] at h
        refine v_iconst C 0 dX4_readApplied_88 (by decide) ?_
        obtain rfl := Option.some.inj h
        exact v_zret C (Or.inl rfl) dX4_readApplied_89
    · rw [if_neg c2] at h
      refine v_aload_n C 3 dX4_readApplied_60 rfl rfl ?_
      refine v_iload_n C 2 dX4_readApplied_61 rfl rfl ?_
      obtain ⟨q14, hq14, h⟩ := bd_of h
      refine c_call C [.int ((sI σ 43 7 ((σ.1 43 7) + 1)).1 43 7)] [] (c_Reader_fail hA _ _ hq14) hY_Reader_fail rfl (by decide) (okS _ 43 (by decide) rfl) ml_4_95 ⟨(by omega : 0 + 1 ≤ 344 + (d + 1)), (by omega : 8 + (2 + 11) + 0 ≤ 13700 + 40 * (d + 1))⟩ ⟨Nat.zero_le _, Nat.zero_le _⟩ rfl rfl (Nat.le_of_ble_eq_true rfl) dX4_readApplied_62 (wc_D hA cy _) ?_
      obtain ⟨g2, h⟩ := gd_of h
      obtain rfl := Option.some.inj h
      exact v_zret C (bzb_in g2) dX4_readApplied_65
  · rw [if_pos c1] at h
    refine v_iconst C 0 dX4_readApplied_26 (by decide) ?_
    obtain rfl := Option.some.inj h
    exact v_zret C (Or.inl rfl) dX4_readApplied_27
set_option maxHeartbeats 4000000 in
set_option maxRecDepth 20000 in
theorem b_Reader_readComponent_14 {p : Program} {l : Launch} {e : Env} {s : State} {m : MethodId} {args : Array Value} {below : List Frame} {meth : Method} {c : Code} {D : va_G} {cy : Nat → ClassId} {ad : Nat → Nat} {q : Int32 × CS}  {r_readType : Int32 → CS → Option (Int32 × CS)} {r_readBinder : Int32 → Int32 → Int32 → CS → Option (Int32 × CS)} {r_checkTerm : Int32 → Int32 → CS → Option (Int32 × CS)} {r_readPair : Int32 → Int32 → CS → Option (Int32 × CS)} {r_readFunction : Int32 → Int32 → CS → Option (Int32 × CS)} {r_inferTerm : Int32 → CS → Option (Int32 × CS)} {r_readAnnotated : Int32 → CS → Option (Int32 × CS)} {r_readApplied : Int32 → CS → Option (Int32 × CS)} {r_readComponent : Int32 → CS → Option (Int32 × CS)} {r_checkInferred : Int32 → Int32 → CS → Option (Int32 × CS)} {d : Nat} (C : vC p s m args meth c cX4_readComponent 8 (some .boolean) RX4 D (cyT cy)) (hA : adOK ad) (hr_readType : ∀ (z1 : Int32) (σ : CS) (q : Int32 × CS), r_readType z1 σ = some q → MV l D (cyT cy) (inC ad) yX4_readType cX4_readType 7 (some .int) (344 + d) (13700 + 40 * d) 0 0 [.ref (ad 43), .int z1] (wc cy ad σ) (some (.int q.1)) (wc cy ad q.2)) (hr_readBinder : ∀ (z1 : Int32) (z2 : Int32) (z3 : Int32) (σ : CS) (q : Int32 × CS), r_readBinder z1 z2 z3 σ = some q → MV l D (cyT cy) (inC ad) yX4_readBinder cX4_readBinder 7 (some .int) (344 + d) (13700 + 40 * d) 0 0 [.ref (ad 43), .int z1, .int z2, .int z3] (wc cy ad σ) (some (.int q.1)) (wc cy ad q.2)) (hr_checkTerm : ∀ (z1 : Int32) (z2 : Int32) (σ : CS) (q : Int32 × CS), r_checkTerm z1 z2 σ = some q → MV l D (cyT cy) (inC ad) yX4_checkTerm cX4_checkTerm 6 (some .int) (344 + d) (13700 + 40 * d) 0 0 [.ref (ad 43), .int z1, .int z2] (wc cy ad σ) (some (.int q.1)) (wc cy ad q.2)) (hr_readPair : ∀ (z1 : Int32) (z2 : Int32) (σ : CS) (q : Int32 × CS), r_readPair z1 z2 σ = some q → MV l D (cyT cy) (inC ad) yX4_readPair cX4_readPair 7 (some .int) (344 + d) (13700 + 40 * d) 0 0 [.ref (ad 43), .int z1, .int z2] (wc cy ad σ) (some (.int q.1)) (wc cy ad q.2)) (hr_readFunction : ∀ (z1 : Int32) (z2 : Int32) (σ : CS) (q : Int32 × CS), r_readFunction z1 z2 σ = some q → MV l D (cyT cy) (inC ad) yX4_readFunction cX4_readFunction 6 (some .int) (344 + d) (13700 + 40 * d) 0 0 [.ref (ad 43), .int z1, .int z2] (wc cy ad σ) (some (.int q.1)) (wc cy ad q.2)) (hr_inferTerm : ∀ (z1 : Int32) (σ : CS) (q : Int32 × CS), r_inferTerm z1 σ = some q → MV l D (cyT cy) (inC ad) yX4_inferTerm cX4_inferTerm 7 (some .int) (344 + d) (13700 + 40 * d) 0 0 [.ref (ad 43), .int z1] (wc cy ad σ) (some (.int q.1)) (wc cy ad q.2)) (hr_readAnnotated : ∀ (z1 : Int32) (σ : CS) (q : Int32 × CS), r_readAnnotated z1 σ = some q → MV l D (cyT cy) (inC ad) yX4_readAnnotated cX4_readAnnotated 5 (some .boolean) (344 + d) (13700 + 40 * d) 0 0 [.ref (ad 43), .int z1] (wc cy ad σ) (some (.int q.1)) (wc cy ad q.2)) (hr_readApplied : ∀ (z1 : Int32) (σ : CS) (q : Int32 × CS), r_readApplied z1 σ = some q → MV l D (cyT cy) (inC ad) yX4_readApplied cX4_readApplied 8 (some .boolean) (344 + d) (13700 + 40 * d) 0 0 [.ref (ad 43), .int z1] (wc cy ad σ) (some (.int q.1)) (wc cy ad q.2)) (hr_readComponent : ∀ (z1 : Int32) (σ : CS) (q : Int32 × CS), r_readComponent z1 σ = some q → MV l D (cyT cy) (inC ad) yX4_readComponent cX4_readComponent 8 (some .boolean) (344 + d) (13700 + 40 * d) 0 0 [.ref (ad 43), .int z1] (wc cy ad σ) (some (.int q.1)) (wc cy ad q.2)) (hr_checkInferred : ∀ (z1 : Int32) (z2 : Int32) (σ : CS) (q : Int32 × CS), r_checkInferred z1 z2 σ = some q → MV l D (cyT cy) (inC ad) yX4_checkInferred cX4_checkInferred 9 (some .int) (344 + d) (13700 + 40 * d) 0 0 [.ref (ad 43), .int z1, .int z2] (wc cy ad σ) (some (.int q.1)) (wc cy ad q.2)) : ∀ (x1 : Int32) (s0 : Int32) (σ : CS), B_Reader_readComponent_14 r_readType r_readBinder r_checkTerm r_readPair r_readFunction r_inferTerm r_readAnnotated r_readApplied r_readComponent r_checkInferred x1 s0 σ = some q → V p l e { frames := 344 + (d + 1), cells := 0, slots := 0, locals := 13700 + 40 * (d + 1) } s m args below meth c D (inC ad) 8 (MQ below (vQ D (inC ad) (some (.int q.1)) (wc cy ad q.2)) args s 0 0 (inC ad)) 0 0 (wc cy ad σ) 14 [(0, .ref (ad 43)), (1, .int x1)] [.int s0] := by
  intro x1 s0 σ h
  rw [B_Reader_readComponent_14] at h
  refine v_istore_n C [(2, .int s0), (0, .ref (ad 43)), (1, .int x1)] dX4_readComponent_14 rfl (by decide) rfl ?_
  refine v_aload_n C 1 dX4_readComponent_15 rfl rfl ?_
  refine v_dup C dX4_readComponent_16 rfl ?_
  refine c_getI C fl_4_41 rfl (okS _ 43 (by decide) rfl) dX4_readComponent_17 ?_
  refine v_iconst C 1 dX4_readComponent_20 (by decide) ?_
  refine v_iadd C dX4_readComponent_21 ?_
  refine c_putI C fl_4_41 fw_4_7 rfl (by decide) (okS _ 43 (by decide) rfl) dX4_readComponent_22 ?_
  refine v_aload_n C 1 dX4_readComponent_25 rfl rfl ?_
  refine c_getI C fl_4_41 rfl (okS _ 43 (by decide) rfl) dX4_readComponent_26 ?_
  refine v_istore_n C [(3, .int ((sI σ 43 7 ((σ.1 43 7) + 1)).1 43 7)), (2, .int s0), (0, .ref (ad 43)), (1, .int x1)] dX4_readComponent_29 rfl (by decide) rfl ?_
  refine v_aload_n C 2 dX4_readComponent_30 rfl rfl ?_
  refine v_iload_n C 3 dX4_readComponent_31 rfl rfl ?_
  obtain ⟨q1, hq1, h⟩ := bd_of h
  refine c_call C [.int x1] [] (hr_inferTerm _ _ _ hq1) hY_Reader_inferTerm rfl (by decide) (okS _ 43 (by decide) rfl) ml_4_83 ⟨(by omega : (344 + d) + 1 ≤ 344 + (d + 1)), (by omega : 8 + (7 + 11) + (13700 + 40 * d) ≤ 13700 + 40 * (d + 1))⟩ ⟨Nat.zero_le _, Nat.zero_le _⟩ rfl rfl (Nat.le_of_ble_eq_true rfl) dX4_readComponent_32 (wc_D hA cy _) ?_
  refine v_istore C [(4, .int q1.1), (3, .int ((sI σ 43 7 ((σ.1 43 7) + 1)).1 43 7)), (2, .int s0), (0, .ref (ad 43)), (1, .int x1)] dX4_readComponent_35 (by decide) rfl ?_
  refine v_iload C 0 dX4_readComponent_37 rfl ?_
  refine v_iconst C (-1) dX4_readComponent_39 (by decide) ?_
  refine v_icmp_ne C 45 dX4_readComponent_40 (by decide) (fun c1 => ?_) (fun c1 => ?_)
  · rw [if_neg c1] at h
    refine v_aload_n C 3 dX4_readComponent_45 rfl rfl ?_
    refine c_getS C 38 fl_4_29 rfl rfl (by decide) (okS _ 43 (by decide) rfl) dX4_readComponent_46 ?_
    refine v_aload_n C 3 dX4_readComponent_49 rfl rfl ?_
    refine c_getI C fl_4_176 rfl (okS _ 43 (by decide) rfl) dX4_readComponent_50 ?_
    refine v_aload_n C 3 dX4_readComponent_53 rfl rfl ?_
    refine v_iload_n C 4 dX4_readComponent_54 rfl rfl ?_
    obtain ⟨q2, hq2, h⟩ := bd_of h
    refine c_call C [.int x1] [.int (q1.2.1 43 9), .ref (ad 38)] (c_Reader_scope hA _ _ hq2) hY_Reader_scope rfl (by decide) (okS _ 43 (by decide) rfl) ml_4_145 ⟨(by omega : 0 + 1 ≤ 344 + (d + 1)), (by omega : 8 + (2 + 11) + 0 ≤ 13700 + 40 * (d + 1))⟩ ⟨Nat.zero_le _, Nat.zero_le _⟩ rfl rfl (Nat.le_of_ble_eq_true rfl) dX4_readComponent_55 (wc_D hA cy _) ?_
    obtain ⟨q3, hq3, h⟩ := bd_of h
    refine c_call C [.int (q1.2.1 43 9), .int q2.1] [] (c_Values_typeAt hA _ _ _ hq3) hY_Values_typeAt rfl (by decide) (okS _ 38 (by decide) rfl) ml_4_66 ⟨(by omega : 1 + 1 ≤ 344 + (d + 1)), (by omega : 8 + (3 + 11) + 23 ≤ 13700 + 40 * (d + 1))⟩ ⟨Nat.zero_le _, Nat.zero_le _⟩ rfl rfl (Nat.le_of_ble_eq_true rfl) dX4_readComponent_58 (wc_D hA cy _) ?_
    refine v_istore C [(5, .int q3.1), (4, .int q1.1), (3, .int ((sI σ 43 7 ((σ.1 43 7) + 1)).1 43 7)), (2, .int s0), (0, .ref (ad 43)), (1, .int x1)] dX4_readComponent_61 (by decide) rfl ?_
    refine v_aload_n C 4 dX4_readComponent_63 rfl rfl ?_
    refine c_getS C 38 fl_4_29 rfl rfl (by decide) (okS _ 43 (by decide) rfl) dX4_readComponent_64 ?_
    refine v_iload C 0 dX4_readComponent_67 rfl ?_
    obtain ⟨q4, hq4, h⟩ := bd_of h
    refine c_call C [.int q3.1] [] (c_Values_formOf hA _ _ hq4) hY_Values_formOf rfl (by decide) (okS _ 38 (by decide) rfl) ml_4_151 ⟨(by omega : 1 + 1 ≤ 344 + (d + 1)), (by omega : 8 + (2 + 11) + 21 ≤ 13700 + 40 * (d + 1))⟩ ⟨Nat.zero_le _, Nat.zero_le _⟩ rfl rfl (Nat.le_of_ble_eq_true rfl) dX4_readComponent_69 (wc_D hA cy _) ?_
    refine v_bipush C 83 dX4_readComponent_72 (by decide) ?_
    refine v_icmp_eq C 83 dX4_readComponent_74 (by decide) (fun c2 => ?_) (fun c2 => ?_)
    · rw [if_pos c2] at h
      refine v_aload_n C 4 dX4_readComponent_83 rfl rfl ?_
      refine c_getS C 38 fl_4_29 rfl rfl (by decide) (okS _ 43 (by decide) rfl) dX4_readComponent_84 ?_
      refine v_iload C 1 dX4_readComponent_87 rfl ?_
      refine v_aload_n C 4 dX4_readComponent_89 rfl rfl ?_
      refine v_iload_n C 5 dX4_readComponent_90 rfl rfl ?_
      obtain ⟨q5, hq5, h⟩ := bd_of h
      refine c_call C [.int x1] [.int q1.1, .ref (ad 38)] (c_Reader_scope hA _ _ hq5) hY_Reader_scope rfl (by decide) (okS _ 43 (by decide) rfl) ml_4_145 ⟨(by omega : 0 + 1 ≤ 344 + (d + 1)), (by omega : 8 + (2 + 11) + 0 ≤ 13700 + 40 * (d + 1))⟩ ⟨Nat.zero_le _, Nat.zero_le _⟩ rfl rfl (Nat.le_of_ble_eq_true rfl) dX4_readComponent_91 (wc_D hA cy _) ?_
      refine v_bipush C 104 dX4_readComponent_94 (by decide) ?_
      obtain ⟨q6, hq6, h⟩ := bd_of h
      refine c_callN C [.int q1.1, .int q5.1, .int 104] [] (c_Values_evaluate hA _ _ _ _ hq6) hY_Values_evaluate rfl (by decide) (okS _ 38 (by decide) rfl) ml_4_186 ⟨(by omega : 222 + 1 ≤ 344 + (d + 1)), (by omega : 8 + (9 + 11) + 8846 ≤ 13700 + 40 * (d + 1))⟩ ⟨Nat.zero_le _, Nat.zero_le _⟩ rfl rfl (Nat.le_of_ble_eq_true rfl) dX4_readComponent_96 (wc_D hA cy _) ?_
      refine v_istore C [(6, .int q6.1), (5, .int q3.1), (4, .int q1.1), (3, .int ((sI σ 43 7 ((σ.1 43 7) + 1)).1 43 7)), (2, .int s0), (0, .ref (ad 43)), (1, .int x1)] dX4_readComponent_99 (by decide) rfl ?_
      refine v_aload_n C 5 dX4_readComponent_101 rfl rfl ?_
      refine c_getS C 38 fl_4_29 rfl rfl (by decide) (okS _ 43 (by decide) rfl) dX4_readComponent_102 ?_
      refine v_iload C 0 dX4_readComponent_105 rfl ?_
      obtain ⟨q7, hq7, h⟩ := bd_of h
      refine c_call C [.int q6.1] [] (c_Values_firstOf hA _ _ hq7) hY_Values_firstOf rfl (by decide) (okS _ 38 (by decide) rfl) ml_4_253 ⟨(by omega : 1 + 1 ≤ 344 + (d + 1)), (by omega : 8 + (2 + 11) + 23 ≤ 13700 + 40 * (d + 1))⟩ ⟨Nat.zero_le _, Nat.zero_le _⟩ rfl rfl (Nat.le_of_ble_eq_true rfl) dX4_readComponent_107 (wc_D hA cy _) ?_
      refine v_istore C [(7, .int q7.1), (6, .int q6.1), (5, .int q3.1), (4, .int q1.1), (3, .int ((sI σ 43 7 ((σ.1 43 7) + 1)).1 43 7)), (2, .int s0), (0, .ref (ad 43)), (1, .int x1)] dX4_readComponent_110 (by decide) rfl ?_
      refine v_iload_n C 5 dX4_readComponent_112 rfl rfl ?_
      refine v_if_eq C 132 dX4_readComponent_113 (by decide) (fun c3 => ?_) (fun c3 => ?_)
      · rw [if_pos c3] at h
        refine v_aload_n C 6 dX4_readComponent_132 rfl rfl ?_
        refine v_aload_n C 6 dX4_readComponent_133 rfl rfl ?_
        refine c_getS C 38 fl_4_29 rfl rfl (by decide) (okS _ 43 (by decide) rfl) dX4_readComponent_134 ?_
        refine v_iload C 2 dX4_readComponent_137 rfl ?_
        refine v_iload C 0 dX4_readComponent_139 rfl ?_
        obtain ⟨q8, hq8, h⟩ := bd_of h
        refine c_call C [.int q3.1, .int q7.1] [.ref (ad 43)] (c_Values_secondType hA _ _ _ hq8) hY_Values_secondType rfl (by decide) (okS _ 38 (by decide) rfl) ml_4_189 ⟨(by omega : 2 + 1 ≤ 344 + (d + 1)), (by omega : 8 + (4 + 11) + 45 ≤ 13700 + 40 * (d + 1))⟩ ⟨Nat.zero_le _, Nat.zero_le _⟩ rfl rfl (Nat.le_of_ble_eq_true rfl) dX4_readComponent_141 (wc_D hA cy _) ?_
        refine v_aload_n C 6 dX4_readComponent_144 rfl rfl ?_
        refine c_getS C 38 fl_4_29 rfl rfl (by decide) (okS _ 43 (by decide) rfl) dX4_readComponent_145 ?_
        refine v_iload C 1 dX4_readComponent_148 rfl ?_
        obtain ⟨q9, hq9, h⟩ := bd_of h
        refine c_call C [.int q6.1] [.int q8.1, .ref (ad 43)] (c_Values_secondOf hA _ _ hq9) hY_Values_secondOf rfl (by decide) (okS _ 38 (by decide) rfl) ml_4_256 ⟨(by omega : 1 + 1 ≤ 344 + (d + 1)), (by omega : 8 + (2 + 11) + 23 ≤ 13700 + 40 * (d + 1))⟩ ⟨Nat.zero_le _, Nat.zero_le _⟩ rfl rfl (Nat.le_of_ble_eq_true rfl) dX4_readComponent_150 (wc_D hA cy _) ?_
        obtain ⟨q10, hq10, h⟩ := bd_of h
        refine c_call C [.int q8.1, .int q9.1] [] (c_Reader_hasRead hA _ _ _ hq10) hY_Reader_hasRead rfl (by decide) (okS _ 43 (by decide) rfl) ml_4_223 ⟨(by omega : 0 + 1 ≤ 344 + (d + 1)), (by omega : 8 + (3 + 11) + 0 ≤ 13700 + 40 * (d + 1))⟩ ⟨Nat.zero_le _, Nat.zero_le _⟩ rfl rfl (Nat.le_of_ble_eq_true rfl) dX4_readComponent_153 (wc_D hA cy _) ?_
        obtain ⟨g1, h⟩ := gd_of h
        obtain rfl := Option.some.inj h
        exact v_zret C (bzb_in g1) dX4_readComponent_156
      · rw [if_neg c3] at h
        refine v_aload_n C 6 dX4_readComponent_116 rfl rfl ?_
        refine v_aload_n C 6 dX4_readComponent_117 rfl rfl ?_
        refine c_getS C 38 fl_4_29 rfl rfl (by decide) (okS _ 43 (by decide) rfl) dX4_readComponent_118 ?_
        refine v_iload C 2 dX4_readComponent_121 rfl ?_
        obtain ⟨q11, hq11, h⟩ := bd_of h
        refine c_call C [.int q3.1] [.ref (ad 43)] (c_Values_firstType hA _ _ hq11) hY_Values_firstType rfl (by decide) (okS _ 38 (by decide) rfl) ml_4_183 ⟨(by omega : 2 + 1 ≤ 344 + (d + 1)), (by omega : 8 + (2 + 11) + 45 ≤ 13700 + 40 * (d + 1))⟩ ⟨Nat.zero_le _, Nat.zero_le _⟩ rfl rfl (Nat.le_of_ble_eq_true rfl) dX4_readComponent_123 (wc_D hA cy _) ?_
        refine v_iload C 0 dX4_readComponent_126 rfl ?_
        obtain ⟨q12, hq12, h⟩ := bd_of h
        refine c_call C [.int q11.1, .int q7.1] [] (c_Reader_hasRead hA _ _ _ hq12) hY_Reader_hasRead rfl (by decide) (okS _ 43 (by decide) rfl) ml_4_223 ⟨(by omega : 0 + 1 ≤ 344 + (d + 1)), (by omega : 8 + (3 + 11) + 0 ≤ 13700 + 40 * (d + 1))⟩ ⟨Nat.zero_le _, Nat.zero_le _⟩ rfl rfl (Nat.le_of_ble_eq_true rfl) dX4_readComponent_128 (wc_D hA cy _) ?_
        obtain ⟨g2, h⟩ := gd_of h
        obtain rfl := Option.some.inj h
        exact v_zret C (bzb_in g2) dX4_readComponent_131
    · rw [if_neg c2] at h
      refine v_aload_n C 4 dX4_readComponent_77 rfl rfl ?_
      refine v_iload_n C 2 dX4_readComponent_78 rfl rfl ?_
      obtain ⟨q13, hq13, h⟩ := bd_of h
      refine c_call C [.int ((sI σ 43 7 ((σ.1 43 7) + 1)).1 43 7)] [] (c_Reader_fail hA _ _ hq13) hY_Reader_fail rfl (by decide) (okS _ 43 (by decide) rfl) ml_4_95 ⟨(by omega : 0 + 1 ≤ 344 + (d + 1)), (by omega : 8 + (2 + 11) + 0 ≤ 13700 + 40 * (d + 1))⟩ ⟨Nat.zero_le _, Nat.zero_le _⟩ rfl rfl (Nat.le_of_ble_eq_true rfl) dX4_readComponent_79 (wc_D hA cy _) ?_
      obtain ⟨g3, h⟩ := gd_of h
      obtain rfl := Option.some.inj h
      exact v_zret C (bzb_in g3) dX4_readComponent_82
  · rw [if_pos c1] at h
    refine v_iconst C 0 dX4_readComponent_43 (by decide) ?_
    obtain rfl := Option.some.inj h
    exact v_zret C (Or.inl rfl) dX4_readComponent_44
set_option maxHeartbeats 4000000 in
set_option maxRecDepth 20000 in
theorem w_Reader_readComponent {l : Launch} {D : va_G} {cy : Nat → ClassId} {ad : Nat → Nat} {q : Int32 × CS} {r_readType : Int32 → CS → Option (Int32 × CS)} {r_readBinder : Int32 → Int32 → Int32 → CS → Option (Int32 × CS)} {r_checkTerm : Int32 → Int32 → CS → Option (Int32 × CS)} {r_readPair : Int32 → Int32 → CS → Option (Int32 × CS)} {r_readFunction : Int32 → Int32 → CS → Option (Int32 × CS)} {r_inferTerm : Int32 → CS → Option (Int32 × CS)} {r_readAnnotated : Int32 → CS → Option (Int32 × CS)} {r_readApplied : Int32 → CS → Option (Int32 × CS)} {r_readComponent : Int32 → CS → Option (Int32 × CS)} {r_checkInferred : Int32 → Int32 → CS → Option (Int32 × CS)} {d : Nat} (hA : adOK ad) (hr_readType : ∀ (z1 : Int32) (σ : CS) (q : Int32 × CS), r_readType z1 σ = some q → MV l D (cyT cy) (inC ad) yX4_readType cX4_readType 7 (some .int) (344 + d) (13700 + 40 * d) 0 0 [.ref (ad 43), .int z1] (wc cy ad σ) (some (.int q.1)) (wc cy ad q.2)) (hr_readBinder : ∀ (z1 : Int32) (z2 : Int32) (z3 : Int32) (σ : CS) (q : Int32 × CS), r_readBinder z1 z2 z3 σ = some q → MV l D (cyT cy) (inC ad) yX4_readBinder cX4_readBinder 7 (some .int) (344 + d) (13700 + 40 * d) 0 0 [.ref (ad 43), .int z1, .int z2, .int z3] (wc cy ad σ) (some (.int q.1)) (wc cy ad q.2)) (hr_checkTerm : ∀ (z1 : Int32) (z2 : Int32) (σ : CS) (q : Int32 × CS), r_checkTerm z1 z2 σ = some q → MV l D (cyT cy) (inC ad) yX4_checkTerm cX4_checkTerm 6 (some .int) (344 + d) (13700 + 40 * d) 0 0 [.ref (ad 43), .int z1, .int z2] (wc cy ad σ) (some (.int q.1)) (wc cy ad q.2)) (hr_readPair : ∀ (z1 : Int32) (z2 : Int32) (σ : CS) (q : Int32 × CS), r_readPair z1 z2 σ = some q → MV l D (cyT cy) (inC ad) yX4_readPair cX4_readPair 7 (some .int) (344 + d) (13700 + 40 * d) 0 0 [.ref (ad 43), .int z1, .int z2] (wc cy ad σ) (some (.int q.1)) (wc cy ad q.2)) (hr_readFunction : ∀ (z1 : Int32) (z2 : Int32) (σ : CS) (q : Int32 × CS), r_readFunction z1 z2 σ = some q → MV l D (cyT cy) (inC ad) yX4_readFunction cX4_readFunction 6 (some .int) (344 + d) (13700 + 40 * d) 0 0 [.ref (ad 43), .int z1, .int z2] (wc cy ad σ) (some (.int q.1)) (wc cy ad q.2)) (hr_inferTerm : ∀ (z1 : Int32) (σ : CS) (q : Int32 × CS), r_inferTerm z1 σ = some q → MV l D (cyT cy) (inC ad) yX4_inferTerm cX4_inferTerm 7 (some .int) (344 + d) (13700 + 40 * d) 0 0 [.ref (ad 43), .int z1] (wc cy ad σ) (some (.int q.1)) (wc cy ad q.2)) (hr_readAnnotated : ∀ (z1 : Int32) (σ : CS) (q : Int32 × CS), r_readAnnotated z1 σ = some q → MV l D (cyT cy) (inC ad) yX4_readAnnotated cX4_readAnnotated 5 (some .boolean) (344 + d) (13700 + 40 * d) 0 0 [.ref (ad 43), .int z1] (wc cy ad σ) (some (.int q.1)) (wc cy ad q.2)) (hr_readApplied : ∀ (z1 : Int32) (σ : CS) (q : Int32 × CS), r_readApplied z1 σ = some q → MV l D (cyT cy) (inC ad) yX4_readApplied cX4_readApplied 8 (some .boolean) (344 + d) (13700 + 40 * d) 0 0 [.ref (ad 43), .int z1] (wc cy ad σ) (some (.int q.1)) (wc cy ad q.2)) (hr_readComponent : ∀ (z1 : Int32) (σ : CS) (q : Int32 × CS), r_readComponent z1 σ = some q → MV l D (cyT cy) (inC ad) yX4_readComponent cX4_readComponent 8 (some .boolean) (344 + d) (13700 + 40 * d) 0 0 [.ref (ad 43), .int z1] (wc cy ad σ) (some (.int q.1)) (wc cy ad q.2)) (hr_checkInferred : ∀ (z1 : Int32) (z2 : Int32) (σ : CS) (q : Int32 × CS), r_checkInferred z1 z2 σ = some q → MV l D (cyT cy) (inC ad) yX4_checkInferred cX4_checkInferred 9 (some .int) (344 + d) (13700 + 40 * d) 0 0 [.ref (ad 43), .int z1, .int z2] (wc cy ad σ) (some (.int q.1)) (wc cy ad q.2)) (x1 : Int32) (σ : CS) (h : F_Reader_readComponent r_readType r_readBinder r_checkTerm r_readPair r_readFunction r_inferTerm r_readAnnotated r_readApplied r_readComponent r_checkInferred x1 σ = some q) : MV l D (cyT cy) (inC ad) yX4_readComponent cX4_readComponent 8 (some .boolean) (344 + (d + 1)) (13700 + 40 * (d + 1)) 0 0 [.ref (ad 43), .int x1] (wc cy ad σ) (some (.int q.1)) (wc cy ad q.2) := by
  refine MV.of (by decide) (wc_D hA cy σ) (Nat.le_of_ble_eq_true rfl) [(0, .ref (ad 43)), (1, .int x1)] rfl ?_
  intro p e s m args below meth c C
  rw [F_Reader_readComponent] at h
  refine v_aload_n C 0 dX4_readComponent_0 rfl rfl ?_
  obtain ⟨q1, hq1, h⟩ := bd_of h
  refine c_call C [] [] (c_Reader_peek hA _ hq1) hY_Reader_peek rfl (by decide) (okS _ 43 (by decide) rfl) ml_4_99 ⟨(by omega : 0 + 1 ≤ 344 + (d + 1)), (by omega : 8 + (1 + 11) + 0 ≤ 13700 + 40 * (d + 1))⟩ ⟨Nat.zero_le _, Nat.zero_le _⟩ rfl rfl (Nat.le_of_ble_eq_true rfl) dX4_readComponent_1 (wc_D hA cy _) ?_
  refine v_bipush C 60 dX4_readComponent_4 (by decide) ?_
  refine v_icmp_ne C 13 dX4_readComponent_6 (by decide) (fun c1 => ?_) (fun c1 => ?_)
  · rw [if_neg c1] at h
    refine v_iconst C 0 dX4_readComponent_13 (by decide) ?_
    exact v_sub [0, 1] rfl ((b_Reader_readComponent_14 C hA hr_readType hr_readBinder hr_checkTerm hr_readPair hr_readFunction hr_inferTerm hr_readAnnotated hr_readApplied hr_readComponent hr_checkInferred) _ _ _ h)
  · rw [if_pos c1] at h
    refine v_iconst C 1 dX4_readComponent_9 (by decide) ?_
    refine v_goto C 14 dX4_readComponent_10 (by decide) ?_
    exact v_sub [0, 1] rfl ((b_Reader_readComponent_14 C hA hr_readType hr_readBinder hr_checkTerm hr_readPair hr_readFunction hr_inferTerm hr_readAnnotated hr_readApplied hr_readComponent hr_checkInferred) _ _ _ h)
set_option maxHeartbeats 4000000 in
set_option maxRecDepth 20000 in
theorem b_Reader_checkInferred_125 {p : Program} {l : Launch} {e : Env} {s : State} {m : MethodId} {args : Array Value} {below : List Frame} {meth : Method} {c : Code} {D : va_G} {cy : Nat → ClassId} {ad : Nat → Nat} {q : Int32 × CS}  {r_readType : Int32 → CS → Option (Int32 × CS)} {r_readBinder : Int32 → Int32 → Int32 → CS → Option (Int32 × CS)} {r_checkTerm : Int32 → Int32 → CS → Option (Int32 × CS)} {r_readPair : Int32 → Int32 → CS → Option (Int32 × CS)} {r_readFunction : Int32 → Int32 → CS → Option (Int32 × CS)} {r_inferTerm : Int32 → CS → Option (Int32 × CS)} {r_readAnnotated : Int32 → CS → Option (Int32 × CS)} {r_readApplied : Int32 → CS → Option (Int32 × CS)} {r_readComponent : Int32 → CS → Option (Int32 × CS)} {r_checkInferred : Int32 → Int32 → CS → Option (Int32 × CS)} {d : Nat} (C : vC p s m args meth c cX4_checkInferred 9 (some .int) RX4 D (cyT cy)) (hA : adOK ad) (hr_readType : ∀ (z1 : Int32) (σ : CS) (q : Int32 × CS), r_readType z1 σ = some q → MV l D (cyT cy) (inC ad) yX4_readType cX4_readType 7 (some .int) (344 + d) (13700 + 40 * d) 0 0 [.ref (ad 43), .int z1] (wc cy ad σ) (some (.int q.1)) (wc cy ad q.2)) (hr_readBinder : ∀ (z1 : Int32) (z2 : Int32) (z3 : Int32) (σ : CS) (q : Int32 × CS), r_readBinder z1 z2 z3 σ = some q → MV l D (cyT cy) (inC ad) yX4_readBinder cX4_readBinder 7 (some .int) (344 + d) (13700 + 40 * d) 0 0 [.ref (ad 43), .int z1, .int z2, .int z3] (wc cy ad σ) (some (.int q.1)) (wc cy ad q.2)) (hr_checkTerm : ∀ (z1 : Int32) (z2 : Int32) (σ : CS) (q : Int32 × CS), r_checkTerm z1 z2 σ = some q → MV l D (cyT cy) (inC ad) yX4_checkTerm cX4_checkTerm 6 (some .int) (344 + d) (13700 + 40 * d) 0 0 [.ref (ad 43), .int z1, .int z2] (wc cy ad σ) (some (.int q.1)) (wc cy ad q.2)) (hr_readPair : ∀ (z1 : Int32) (z2 : Int32) (σ : CS) (q : Int32 × CS), r_readPair z1 z2 σ = some q → MV l D (cyT cy) (inC ad) yX4_readPair cX4_readPair 7 (some .int) (344 + d) (13700 + 40 * d) 0 0 [.ref (ad 43), .int z1, .int z2] (wc cy ad σ) (some (.int q.1)) (wc cy ad q.2)) (hr_readFunction : ∀ (z1 : Int32) (z2 : Int32) (σ : CS) (q : Int32 × CS), r_readFunction z1 z2 σ = some q → MV l D (cyT cy) (inC ad) yX4_readFunction cX4_readFunction 6 (some .int) (344 + d) (13700 + 40 * d) 0 0 [.ref (ad 43), .int z1, .int z2] (wc cy ad σ) (some (.int q.1)) (wc cy ad q.2)) (hr_inferTerm : ∀ (z1 : Int32) (σ : CS) (q : Int32 × CS), r_inferTerm z1 σ = some q → MV l D (cyT cy) (inC ad) yX4_inferTerm cX4_inferTerm 7 (some .int) (344 + d) (13700 + 40 * d) 0 0 [.ref (ad 43), .int z1] (wc cy ad σ) (some (.int q.1)) (wc cy ad q.2)) (hr_readAnnotated : ∀ (z1 : Int32) (σ : CS) (q : Int32 × CS), r_readAnnotated z1 σ = some q → MV l D (cyT cy) (inC ad) yX4_readAnnotated cX4_readAnnotated 5 (some .boolean) (344 + d) (13700 + 40 * d) 0 0 [.ref (ad 43), .int z1] (wc cy ad σ) (some (.int q.1)) (wc cy ad q.2)) (hr_readApplied : ∀ (z1 : Int32) (σ : CS) (q : Int32 × CS), r_readApplied z1 σ = some q → MV l D (cyT cy) (inC ad) yX4_readApplied cX4_readApplied 8 (some .boolean) (344 + d) (13700 + 40 * d) 0 0 [.ref (ad 43), .int z1] (wc cy ad σ) (some (.int q.1)) (wc cy ad q.2)) (hr_readComponent : ∀ (z1 : Int32) (σ : CS) (q : Int32 × CS), r_readComponent z1 σ = some q → MV l D (cyT cy) (inC ad) yX4_readComponent cX4_readComponent 8 (some .boolean) (344 + d) (13700 + 40 * d) 0 0 [.ref (ad 43), .int z1] (wc cy ad σ) (some (.int q.1)) (wc cy ad q.2)) (hr_checkInferred : ∀ (z1 : Int32) (z2 : Int32) (σ : CS) (q : Int32 × CS), r_checkInferred z1 z2 σ = some q → MV l D (cyT cy) (inC ad) yX4_checkInferred cX4_checkInferred 9 (some .int) (344 + d) (13700 + 40 * d) 0 0 [.ref (ad 43), .int z1, .int z2] (wc cy ad σ) (some (.int q.1)) (wc cy ad q.2)) : ∀ (s0 : Int32) (σ : CS), B_Reader_checkInferred_125 r_readType r_readBinder r_checkTerm r_readPair r_readFunction r_inferTerm r_readAnnotated r_readApplied r_readComponent r_checkInferred s0 σ = some q → V p l e { frames := 344 + (d + 1), cells := 0, slots := 0, locals := 13700 + 40 * (d + 1) } s m args below meth c D (inC ad) 9 (MQ below (vQ D (inC ad) (some (.int q.1)) (wc cy ad q.2)) args s 0 0 (inC ad)) 0 0 (wc cy ad σ) 125 [(0, .ref (ad 43))] [.int s0] := by
  intro s0 σ h
  rw [B_Reader_checkInferred_125] at h
  obtain rfl := Option.some.inj h
  exact v_iret C dX4_checkInferred_125
set_option maxHeartbeats 4000000 in
set_option maxRecDepth 20000 in
theorem b_Reader_checkInferred_90 {p : Program} {l : Launch} {e : Env} {s : State} {m : MethodId} {args : Array Value} {below : List Frame} {meth : Method} {c : Code} {D : va_G} {cy : Nat → ClassId} {ad : Nat → Nat} {q : Int32 × CS}  {r_readType : Int32 → CS → Option (Int32 × CS)} {r_readBinder : Int32 → Int32 → Int32 → CS → Option (Int32 × CS)} {r_checkTerm : Int32 → Int32 → CS → Option (Int32 × CS)} {r_readPair : Int32 → Int32 → CS → Option (Int32 × CS)} {r_readFunction : Int32 → Int32 → CS → Option (Int32 × CS)} {r_inferTerm : Int32 → CS → Option (Int32 × CS)} {r_readAnnotated : Int32 → CS → Option (Int32 × CS)} {r_readApplied : Int32 → CS → Option (Int32 × CS)} {r_readComponent : Int32 → CS → Option (Int32 × CS)} {r_checkInferred : Int32 → Int32 → CS → Option (Int32 × CS)} {d : Nat} (C : vC p s m args meth c cX4_checkInferred 9 (some .int) RX4 D (cyT cy)) (hA : adOK ad) (hr_readType : ∀ (z1 : Int32) (σ : CS) (q : Int32 × CS), r_readType z1 σ = some q → MV l D (cyT cy) (inC ad) yX4_readType cX4_readType 7 (some .int) (344 + d) (13700 + 40 * d) 0 0 [.ref (ad 43), .int z1] (wc cy ad σ) (some (.int q.1)) (wc cy ad q.2)) (hr_readBinder : ∀ (z1 : Int32) (z2 : Int32) (z3 : Int32) (σ : CS) (q : Int32 × CS), r_readBinder z1 z2 z3 σ = some q → MV l D (cyT cy) (inC ad) yX4_readBinder cX4_readBinder 7 (some .int) (344 + d) (13700 + 40 * d) 0 0 [.ref (ad 43), .int z1, .int z2, .int z3] (wc cy ad σ) (some (.int q.1)) (wc cy ad q.2)) (hr_checkTerm : ∀ (z1 : Int32) (z2 : Int32) (σ : CS) (q : Int32 × CS), r_checkTerm z1 z2 σ = some q → MV l D (cyT cy) (inC ad) yX4_checkTerm cX4_checkTerm 6 (some .int) (344 + d) (13700 + 40 * d) 0 0 [.ref (ad 43), .int z1, .int z2] (wc cy ad σ) (some (.int q.1)) (wc cy ad q.2)) (hr_readPair : ∀ (z1 : Int32) (z2 : Int32) (σ : CS) (q : Int32 × CS), r_readPair z1 z2 σ = some q → MV l D (cyT cy) (inC ad) yX4_readPair cX4_readPair 7 (some .int) (344 + d) (13700 + 40 * d) 0 0 [.ref (ad 43), .int z1, .int z2] (wc cy ad σ) (some (.int q.1)) (wc cy ad q.2)) (hr_readFunction : ∀ (z1 : Int32) (z2 : Int32) (σ : CS) (q : Int32 × CS), r_readFunction z1 z2 σ = some q → MV l D (cyT cy) (inC ad) yX4_readFunction cX4_readFunction 6 (some .int) (344 + d) (13700 + 40 * d) 0 0 [.ref (ad 43), .int z1, .int z2] (wc cy ad σ) (some (.int q.1)) (wc cy ad q.2)) (hr_inferTerm : ∀ (z1 : Int32) (σ : CS) (q : Int32 × CS), r_inferTerm z1 σ = some q → MV l D (cyT cy) (inC ad) yX4_inferTerm cX4_inferTerm 7 (some .int) (344 + d) (13700 + 40 * d) 0 0 [.ref (ad 43), .int z1] (wc cy ad σ) (some (.int q.1)) (wc cy ad q.2)) (hr_readAnnotated : ∀ (z1 : Int32) (σ : CS) (q : Int32 × CS), r_readAnnotated z1 σ = some q → MV l D (cyT cy) (inC ad) yX4_readAnnotated cX4_readAnnotated 5 (some .boolean) (344 + d) (13700 + 40 * d) 0 0 [.ref (ad 43), .int z1] (wc cy ad σ) (some (.int q.1)) (wc cy ad q.2)) (hr_readApplied : ∀ (z1 : Int32) (σ : CS) (q : Int32 × CS), r_readApplied z1 σ = some q → MV l D (cyT cy) (inC ad) yX4_readApplied cX4_readApplied 8 (some .boolean) (344 + d) (13700 + 40 * d) 0 0 [.ref (ad 43), .int z1] (wc cy ad σ) (some (.int q.1)) (wc cy ad q.2)) (hr_readComponent : ∀ (z1 : Int32) (σ : CS) (q : Int32 × CS), r_readComponent z1 σ = some q → MV l D (cyT cy) (inC ad) yX4_readComponent cX4_readComponent 8 (some .boolean) (344 + d) (13700 + 40 * d) 0 0 [.ref (ad 43), .int z1] (wc cy ad σ) (some (.int q.1)) (wc cy ad q.2)) (hr_checkInferred : ∀ (z1 : Int32) (z2 : Int32) (σ : CS) (q : Int32 × CS), r_checkInferred z1 z2 σ = some q → MV l D (cyT cy) (inC ad) yX4_checkInferred cX4_checkInferred 9 (some .int) (344 + d) (13700 + 40 * d) 0 0 [.ref (ad 43), .int z1, .int z2] (wc cy ad σ) (some (.int q.1)) (wc cy ad q.2)) : ∀ (x3 : Int32) (x4 : Int32) (x5 : Int32) (x6 : Int32) (s0 : Int32) (σ : CS), B_Reader_checkInferred_90 r_readType r_readBinder r_checkTerm r_readPair r_readFunction r_inferTerm r_readAnnotated r_readApplied r_readComponent r_checkInferred x3 x4 x5 x6 s0 σ = some q → V p l e { frames := 344 + (d + 1), cells := 0, slots := 0, locals := 13700 + 40 * (d + 1) } s m args below meth c D (inC ad) 9 (MQ below (vQ D (inC ad) (some (.int q.1)) (wc cy ad q.2)) args s 0 0 (inC ad)) 0 0 (wc cy ad σ) 90 [(0, .ref (ad 43)), (3, .int x3), (4, .int x4), (5, .int x5), (6, .int x6)] [.int s0] := by
  intro x3 x4 x5 x6 s0 σ h
  rw [B_Reader_checkInferred_90] at h
  refine v_istore C [(8, .int s0), (0, .ref (ad 43)), (3, .int x3), (4, .int x4), (5, .int x5), (6, .int x6)] dX4_checkInferred_90 (by decide) rfl ?_
  refine v_aload_n C 1 dX4_checkInferred_92 rfl rfl ?_
  refine c_getS C 34 fl_4_25 rfl rfl (by decide) (okS _ 43 (by decide) rfl) dX4_checkInferred_93 ?_
  refine v_iload C 4 dX4_checkInferred_96 rfl ?_
  refine c_putIN C fl_4_163 fw_7_1 rfl (by decide) (okS _ 34 (by decide) rfl) dX4_checkInferred_98 ?_
  refine v_aload_n C 1 dX4_checkInferred_101 rfl rfl ?_
  refine c_getS C 38 fl_4_29 rfl rfl (by decide) (okS _ 43 (by decide) rfl) dX4_checkInferred_102 ?_
  refine v_iload C 5 dX4_checkInferred_105 rfl ?_
  obtain ⟨q1, hq1, h⟩ := bd_of h
  refine c_call C [.int x6] [] (c_Values_release hA _ _ hq1) hY_Values_release rfl (by decide) (okS _ 38 (by decide) rfl) ml_4_55 ⟨(by omega : 0 + 1 ≤ 344 + (d + 1)), (by omega : 8 + (2 + 11) + 0 ≤ 13700 + 40 * (d + 1))⟩ ⟨Nat.zero_le _, Nat.zero_le _⟩ rfl rfl (Nat.le_of_ble_eq_true rfl) dX4_checkInferred_107 (wc_D hA cy _) ?_
  refine v_iload C 0 dX4_checkInferred_110 rfl ?_
  refine v_if_eq C 120 dX4_checkInferred_112 (by decide) (fun c1 => ?_) (fun c1 => ?_)
  · rw [if_pos c1] at h
    refine v_aload_n C 1 dX4_checkInferred_120 rfl rfl ?_
    refine v_iload_n C 2 dX4_checkInferred_121 rfl rfl ?_
    obtain ⟨q2, hq2, h⟩ := bd_of h
    refine c_call C [.int x3] [] (c_Reader_refuse hA _ _ hq2) hY_Reader_refuse rfl (by decide) (okS _ 43 (by decide) rfl) ml_4_124 ⟨(by omega : 0 + 1 ≤ 344 + (d + 1)), (by omega : 8 + (2 + 11) + 0 ≤ 13700 + 40 * (d + 1))⟩ ⟨Nat.zero_le _, Nat.zero_le _⟩ rfl rfl (Nat.le_of_ble_eq_true rfl) dX4_checkInferred_122 (wc_D hA cy _) ?_
    exact v_sub [1] rfl ((b_Reader_checkInferred_125 C hA hr_readType hr_readBinder hr_checkTerm hr_readPair hr_readFunction hr_inferTerm hr_readAnnotated hr_readApplied hr_readComponent hr_checkInferred) _ _ h)
  · rw [if_neg c1] at h
    refine v_iload C 3 dX4_checkInferred_115 rfl ?_
    refine v_goto C 125 dX4_checkInferred_117 (by decide) ?_
    exact v_sub [1] rfl ((b_Reader_checkInferred_125 C hA hr_readType hr_readBinder hr_checkTerm hr_readPair hr_readFunction hr_inferTerm hr_readAnnotated hr_readApplied hr_readComponent hr_checkInferred) _ _ h)
set_option maxHeartbeats 4000000 in
set_option maxRecDepth 20000 in
theorem b_Reader_checkInferred_89 {p : Program} {l : Launch} {e : Env} {s : State} {m : MethodId} {args : Array Value} {below : List Frame} {meth : Method} {c : Code} {D : va_G} {cy : Nat → ClassId} {ad : Nat → Nat} {q : Int32 × CS}  {r_readType : Int32 → CS → Option (Int32 × CS)} {r_readBinder : Int32 → Int32 → Int32 → CS → Option (Int32 × CS)} {r_checkTerm : Int32 → Int32 → CS → Option (Int32 × CS)} {r_readPair : Int32 → Int32 → CS → Option (Int32 × CS)} {r_readFunction : Int32 → Int32 → CS → Option (Int32 × CS)} {r_inferTerm : Int32 → CS → Option (Int32 × CS)} {r_readAnnotated : Int32 → CS → Option (Int32 × CS)} {r_readApplied : Int32 → CS → Option (Int32 × CS)} {r_readComponent : Int32 → CS → Option (Int32 × CS)} {r_checkInferred : Int32 → Int32 → CS → Option (Int32 × CS)} {d : Nat} (C : vC p s m args meth c cX4_checkInferred 9 (some .int) RX4 D (cyT cy)) (hA : adOK ad) (hr_readType : ∀ (z1 : Int32) (σ : CS) (q : Int32 × CS), r_readType z1 σ = some q → MV l D (cyT cy) (inC ad) yX4_readType cX4_readType 7 (some .int) (344 + d) (13700 + 40 * d) 0 0 [.ref (ad 43), .int z1] (wc cy ad σ) (some (.int q.1)) (wc cy ad q.2)) (hr_readBinder : ∀ (z1 : Int32) (z2 : Int32) (z3 : Int32) (σ : CS) (q : Int32 × CS), r_readBinder z1 z2 z3 σ = some q → MV l D (cyT cy) (inC ad) yX4_readBinder cX4_readBinder 7 (some .int) (344 + d) (13700 + 40 * d) 0 0 [.ref (ad 43), .int z1, .int z2, .int z3] (wc cy ad σ) (some (.int q.1)) (wc cy ad q.2)) (hr_checkTerm : ∀ (z1 : Int32) (z2 : Int32) (σ : CS) (q : Int32 × CS), r_checkTerm z1 z2 σ = some q → MV l D (cyT cy) (inC ad) yX4_checkTerm cX4_checkTerm 6 (some .int) (344 + d) (13700 + 40 * d) 0 0 [.ref (ad 43), .int z1, .int z2] (wc cy ad σ) (some (.int q.1)) (wc cy ad q.2)) (hr_readPair : ∀ (z1 : Int32) (z2 : Int32) (σ : CS) (q : Int32 × CS), r_readPair z1 z2 σ = some q → MV l D (cyT cy) (inC ad) yX4_readPair cX4_readPair 7 (some .int) (344 + d) (13700 + 40 * d) 0 0 [.ref (ad 43), .int z1, .int z2] (wc cy ad σ) (some (.int q.1)) (wc cy ad q.2)) (hr_readFunction : ∀ (z1 : Int32) (z2 : Int32) (σ : CS) (q : Int32 × CS), r_readFunction z1 z2 σ = some q → MV l D (cyT cy) (inC ad) yX4_readFunction cX4_readFunction 6 (some .int) (344 + d) (13700 + 40 * d) 0 0 [.ref (ad 43), .int z1, .int z2] (wc cy ad σ) (some (.int q.1)) (wc cy ad q.2)) (hr_inferTerm : ∀ (z1 : Int32) (σ : CS) (q : Int32 × CS), r_inferTerm z1 σ = some q → MV l D (cyT cy) (inC ad) yX4_inferTerm cX4_inferTerm 7 (some .int) (344 + d) (13700 + 40 * d) 0 0 [.ref (ad 43), .int z1] (wc cy ad σ) (some (.int q.1)) (wc cy ad q.2)) (hr_readAnnotated : ∀ (z1 : Int32) (σ : CS) (q : Int32 × CS), r_readAnnotated z1 σ = some q → MV l D (cyT cy) (inC ad) yX4_readAnnotated cX4_readAnnotated 5 (some .boolean) (344 + d) (13700 + 40 * d) 0 0 [.ref (ad 43), .int z1] (wc cy ad σ) (some (.int q.1)) (wc cy ad q.2)) (hr_readApplied : ∀ (z1 : Int32) (σ : CS) (q : Int32 × CS), r_readApplied z1 σ = some q → MV l D (cyT cy) (inC ad) yX4_readApplied cX4_readApplied 8 (some .boolean) (344 + d) (13700 + 40 * d) 0 0 [.ref (ad 43), .int z1] (wc cy ad σ) (some (.int q.1)) (wc cy ad q.2)) (hr_readComponent : ∀ (z1 : Int32) (σ : CS) (q : Int32 × CS), r_readComponent z1 σ = some q → MV l D (cyT cy) (inC ad) yX4_readComponent cX4_readComponent 8 (some .boolean) (344 + d) (13700 + 40 * d) 0 0 [.ref (ad 43), .int z1] (wc cy ad σ) (some (.int q.1)) (wc cy ad q.2)) (hr_checkInferred : ∀ (z1 : Int32) (z2 : Int32) (σ : CS) (q : Int32 × CS), r_checkInferred z1 z2 σ = some q → MV l D (cyT cy) (inC ad) yX4_checkInferred cX4_checkInferred 9 (some .int) (344 + d) (13700 + 40 * d) 0 0 [.ref (ad 43), .int z1, .int z2] (wc cy ad σ) (some (.int q.1)) (wc cy ad q.2)) {k90 : Int32 → Int32 → Int32 → Int32 → Int32 → CS → Option (Int32 × CS)} (hk90 : ∀ (x3 : Int32) (x4 : Int32) (x5 : Int32) (x6 : Int32) (s0 : Int32) (σ : CS), k90 x3 x4 x5 x6 s0 σ = some q → V p l e { frames := 344 + (d + 1), cells := 0, slots := 0, locals := 13700 + 40 * (d + 1) } s m args below meth c D (inC ad) 9 (MQ below (vQ D (inC ad) (some (.int q.1)) (wc cy ad q.2)) args s 0 0 (inC ad)) 0 0 (wc cy ad σ) 90 [(0, .ref (ad 43)), (3, .int x3), (4, .int x4), (5, .int x5), (6, .int x6)] [.int s0]) : ∀ (x3 : Int32) (x4 : Int32) (x5 : Int32) (x6 : Int32) (σ : CS), B_Reader_checkInferred_89 r_readType r_readBinder r_checkTerm r_readPair r_readFunction r_inferTerm r_readAnnotated r_readApplied r_readComponent r_checkInferred k90 x3 x4 x5 x6 σ = some q → V p l e { frames := 344 + (d + 1), cells := 0, slots := 0, locals := 13700 + 40 * (d + 1) } s m args below meth c D (inC ad) 9 (MQ below (vQ D (inC ad) (some (.int q.1)) (wc cy ad q.2)) args s 0 0 (inC ad)) 0 0 (wc cy ad σ) 89 [(0, .ref (ad 43)), (3, .int x3), (4, .int x4), (5, .int x5), (6, .int x6)] [] := by
  intro x3 x4 x5 x6 σ h
  rw [B_Reader_checkInferred_89] at h
  refine v_iconst C 0 dX4_checkInferred_89 (by decide) ?_
  exact v_sub [0, 1, 2, 3, 4] rfl (hk90 _ _ _ _ _ _ h)
set_option maxHeartbeats 4000000 in
set_option maxRecDepth 20000 in
theorem w_Reader_checkInferred {l : Launch} {D : va_G} {cy : Nat → ClassId} {ad : Nat → Nat} {q : Int32 × CS} {r_readType : Int32 → CS → Option (Int32 × CS)} {r_readBinder : Int32 → Int32 → Int32 → CS → Option (Int32 × CS)} {r_checkTerm : Int32 → Int32 → CS → Option (Int32 × CS)} {r_readPair : Int32 → Int32 → CS → Option (Int32 × CS)} {r_readFunction : Int32 → Int32 → CS → Option (Int32 × CS)} {r_inferTerm : Int32 → CS → Option (Int32 × CS)} {r_readAnnotated : Int32 → CS → Option (Int32 × CS)} {r_readApplied : Int32 → CS → Option (Int32 × CS)} {r_readComponent : Int32 → CS → Option (Int32 × CS)} {r_checkInferred : Int32 → Int32 → CS → Option (Int32 × CS)} {d : Nat} (hA : adOK ad) (hr_readType : ∀ (z1 : Int32) (σ : CS) (q : Int32 × CS), r_readType z1 σ = some q → MV l D (cyT cy) (inC ad) yX4_readType cX4_readType 7 (some .int) (344 + d) (13700 + 40 * d) 0 0 [.ref (ad 43), .int z1] (wc cy ad σ) (some (.int q.1)) (wc cy ad q.2)) (hr_readBinder : ∀ (z1 : Int32) (z2 : Int32) (z3 : Int32) (σ : CS) (q : Int32 × CS), r_readBinder z1 z2 z3 σ = some q → MV l D (cyT cy) (inC ad) yX4_readBinder cX4_readBinder 7 (some .int) (344 + d) (13700 + 40 * d) 0 0 [.ref (ad 43), .int z1, .int z2, .int z3] (wc cy ad σ) (some (.int q.1)) (wc cy ad q.2)) (hr_checkTerm : ∀ (z1 : Int32) (z2 : Int32) (σ : CS) (q : Int32 × CS), r_checkTerm z1 z2 σ = some q → MV l D (cyT cy) (inC ad) yX4_checkTerm cX4_checkTerm 6 (some .int) (344 + d) (13700 + 40 * d) 0 0 [.ref (ad 43), .int z1, .int z2] (wc cy ad σ) (some (.int q.1)) (wc cy ad q.2)) (hr_readPair : ∀ (z1 : Int32) (z2 : Int32) (σ : CS) (q : Int32 × CS), r_readPair z1 z2 σ = some q → MV l D (cyT cy) (inC ad) yX4_readPair cX4_readPair 7 (some .int) (344 + d) (13700 + 40 * d) 0 0 [.ref (ad 43), .int z1, .int z2] (wc cy ad σ) (some (.int q.1)) (wc cy ad q.2)) (hr_readFunction : ∀ (z1 : Int32) (z2 : Int32) (σ : CS) (q : Int32 × CS), r_readFunction z1 z2 σ = some q → MV l D (cyT cy) (inC ad) yX4_readFunction cX4_readFunction 6 (some .int) (344 + d) (13700 + 40 * d) 0 0 [.ref (ad 43), .int z1, .int z2] (wc cy ad σ) (some (.int q.1)) (wc cy ad q.2)) (hr_inferTerm : ∀ (z1 : Int32) (σ : CS) (q : Int32 × CS), r_inferTerm z1 σ = some q → MV l D (cyT cy) (inC ad) yX4_inferTerm cX4_inferTerm 7 (some .int) (344 + d) (13700 + 40 * d) 0 0 [.ref (ad 43), .int z1] (wc cy ad σ) (some (.int q.1)) (wc cy ad q.2)) (hr_readAnnotated : ∀ (z1 : Int32) (σ : CS) (q : Int32 × CS), r_readAnnotated z1 σ = some q → MV l D (cyT cy) (inC ad) yX4_readAnnotated cX4_readAnnotated 5 (some .boolean) (344 + d) (13700 + 40 * d) 0 0 [.ref (ad 43), .int z1] (wc cy ad σ) (some (.int q.1)) (wc cy ad q.2)) (hr_readApplied : ∀ (z1 : Int32) (σ : CS) (q : Int32 × CS), r_readApplied z1 σ = some q → MV l D (cyT cy) (inC ad) yX4_readApplied cX4_readApplied 8 (some .boolean) (344 + d) (13700 + 40 * d) 0 0 [.ref (ad 43), .int z1] (wc cy ad σ) (some (.int q.1)) (wc cy ad q.2)) (hr_readComponent : ∀ (z1 : Int32) (σ : CS) (q : Int32 × CS), r_readComponent z1 σ = some q → MV l D (cyT cy) (inC ad) yX4_readComponent cX4_readComponent 8 (some .boolean) (344 + d) (13700 + 40 * d) 0 0 [.ref (ad 43), .int z1] (wc cy ad σ) (some (.int q.1)) (wc cy ad q.2)) (hr_checkInferred : ∀ (z1 : Int32) (z2 : Int32) (σ : CS) (q : Int32 × CS), r_checkInferred z1 z2 σ = some q → MV l D (cyT cy) (inC ad) yX4_checkInferred cX4_checkInferred 9 (some .int) (344 + d) (13700 + 40 * d) 0 0 [.ref (ad 43), .int z1, .int z2] (wc cy ad σ) (some (.int q.1)) (wc cy ad q.2)) (x1 : Int32) (x2 : Int32) (σ : CS) (h : F_Reader_checkInferred r_readType r_readBinder r_checkTerm r_readPair r_readFunction r_inferTerm r_readAnnotated r_readApplied r_readComponent r_checkInferred x1 x2 σ = some q) : MV l D (cyT cy) (inC ad) yX4_checkInferred cX4_checkInferred 9 (some .int) (344 + (d + 1)) (13700 + 40 * (d + 1)) 0 0 [.ref (ad 43), .int x1, .int x2] (wc cy ad σ) (some (.int q.1)) (wc cy ad q.2) := by
  refine MV.of (by decide) (wc_D hA cy σ) (Nat.le_of_ble_eq_true rfl) [(0, .ref (ad 43)), (1, .int x1), (2, .int x2)] rfl ?_
  intro p e s m args below meth c C
  rw [F_Reader_checkInferred] at h
  refine v_aload_n C 0 dX4_checkInferred_0 rfl rfl ?_
  refine c_getI C fl_4_41 rfl (okS _ 43 (by decide) rfl) dX4_checkInferred_1 ?_
  refine v_istore_n C [(3, .int (σ.1 43 7)), (0, .ref (ad 43)), (1, .int x1), (2, .int x2)] dX4_checkInferred_4 rfl (by decide) rfl ?_
  refine v_aload_n C 1 dX4_checkInferred_5 rfl rfl ?_
  refine v_iload_n C 3 dX4_checkInferred_6 rfl rfl ?_
  obtain ⟨q1, hq1, h⟩ := bd_of h
  refine c_call C [.int x2] [] (hr_inferTerm _ _ _ hq1) hY_Reader_inferTerm rfl (by decide) (okS _ 43 (by decide) rfl) ml_4_83 ⟨(by omega : (344 + d) + 1 ≤ 344 + (d + 1)), (by omega : 8 + (7 + 11) + (13700 + 40 * d) ≤ 13700 + 40 * (d + 1))⟩ ⟨Nat.zero_le _, Nat.zero_le _⟩ rfl rfl (Nat.le_of_ble_eq_true rfl) dX4_checkInferred_7 (wc_D hA cy _) ?_
  refine v_istore C [(4, .int q1.1), (3, .int (σ.1 43 7)), (0, .ref (ad 43)), (1, .int x1), (2, .int x2)] dX4_checkInferred_10 (by decide) rfl ?_
  refine v_iload C 0 dX4_checkInferred_12 rfl ?_
  refine v_iconst C (-1) dX4_checkInferred_14 (by decide) ?_
  refine v_icmp_ne C 20 dX4_checkInferred_15 (by decide) (fun c1 => ?_) (fun c1 => ?_)
  · rw [if_neg c1] at h
    refine v_aload_n C 2 dX4_checkInferred_20 rfl rfl ?_
    refine c_getS C 34 fl_4_25 rfl rfl (by decide) (okS _ 43 (by decide) rfl) dX4_checkInferred_21 ?_
    refine c_getIN C fl_4_163 rfl (okS _ 34 (by decide) rfl) dX4_checkInferred_24 ?_
    refine v_istore C [(5, .int (q1.2.1 34 1)), (4, .int q1.1), (3, .int (σ.1 43 7)), (0, .ref (ad 43)), (1, .int x1), (2, .int x2)] dX4_checkInferred_27 (by decide) rfl ?_
    refine v_aload_n C 3 dX4_checkInferred_29 rfl rfl ?_
    refine c_getS C 38 fl_4_29 rfl rfl (by decide) (okS _ 43 (by decide) rfl) dX4_checkInferred_30 ?_
    refine c_getIN C fl_4_166 rfl (okS _ 38 (by decide) rfl) dX4_checkInferred_33 ?_
    refine v_istore C [(6, .int (q1.2.1 38 4)), (5, .int (q1.2.1 34 1)), (4, .int q1.1), (3, .int (σ.1 43 7)), (0, .ref (ad 43)), (1, .int x1), (2, .int x2)] dX4_checkInferred_36 (by decide) rfl ?_
    refine v_aload_n C 4 dX4_checkInferred_38 rfl rfl ?_
    refine c_getS C 44 fl_4_33 rfl rfl (by decide) (okS _ 43 (by decide) rfl) dX4_checkInferred_39 ?_
    obtain ⟨q2, hq2, h⟩ := bd_of h
    refine c_call C [] [] (c_Writer_begin hA _ hq2) hY_Writer_begin rfl (by decide) (okS _ 44 (by decide) rfl) ml_4_167 ⟨(by omega : 0 + 1 ≤ 344 + (d + 1)), (by omega : 8 + (1 + 11) + 0 ≤ 13700 + 40 * (d + 1))⟩ ⟨Nat.zero_le _, Nat.zero_le _⟩ rfl rfl (Nat.le_of_ble_eq_true rfl) dX4_checkInferred_42 (wc_D hA cy _) ?_
    refine v_aload_n C 4 dX4_checkInferred_45 rfl rfl ?_
    refine c_getS C 44 fl_4_33 rfl rfl (by decide) (okS _ 43 (by decide) rfl) dX4_checkInferred_46 ?_
    refine v_iload_n C 5 dX4_checkInferred_49 rfl rfl ?_
    refine v_iload_n C 6 dX4_checkInferred_50 rfl rfl ?_
    obtain ⟨q3, hq3, h⟩ := bd_of h
    refine c_callN C [.int x1, .int x2] [] (c_Writer_putType hA _ _ _ hq3) hY_Writer_putType rfl (by decide) (okS _ 44 (by decide) rfl) ml_4_169 ⟨(by omega : 343 + 1 ≤ 344 + (d + 1)), (by omega : 8 + (7 + 11) + 13674 ≤ 13700 + 40 * (d + 1))⟩ ⟨Nat.zero_le _, Nat.zero_le _⟩ rfl rfl (Nat.le_of_ble_eq_true rfl) dX4_checkInferred_51 (wc_D hA cy _) ?_
    refine v_aload_n C 4 dX4_checkInferred_54 rfl rfl ?_
    refine c_getS C 44 fl_4_33 rfl rfl (by decide) (okS _ 43 (by decide) rfl) dX4_checkInferred_55 ?_
    obtain ⟨q4, hq4, h⟩ := bd_of h
    refine c_call C [] [] (c_Writer_written hA _ hq4) hY_Writer_written rfl (by decide) (okS _ 44 (by decide) rfl) ml_4_173 ⟨(by omega : 0 + 1 ≤ 344 + (d + 1)), (by omega : 8 + (1 + 11) + 0 ≤ 13700 + 40 * (d + 1))⟩ ⟨Nat.zero_le _, Nat.zero_le _⟩ rfl rfl (Nat.le_of_ble_eq_true rfl) dX4_checkInferred_58 (wc_D hA cy _) ?_
    refine v_istore C [(7, .int q4.1), (6, .int (q1.2.1 38 4)), (5, .int (q1.2.1 34 1)), (4, .int q1.1), (3, .int (σ.1 43 7)), (0, .ref (ad 43)), (1, .int x1), (2, .int x2)] dX4_checkInferred_61 (by decide) rfl ?_
    refine v_iload C 0 dX4_checkInferred_63 rfl ?_
    refine v_iconst C (-1) dX4_checkInferred_65 (by decide) ?_
    refine v_icmp_eq C 89 dX4_checkInferred_66 (by decide) (fun c2 => ?_) (fun c2 => ?_)
    · rw [if_pos c2] at h
      exact v_sub [5, 4, 3, 2, 1] rfl ((b_Reader_checkInferred_89 C hA hr_readType hr_readBinder hr_checkTerm hr_readPair hr_readFunction hr_inferTerm hr_readAnnotated hr_readApplied hr_readComponent hr_checkInferred (b_Reader_checkInferred_90 C hA hr_readType hr_readBinder hr_checkTerm hr_readPair hr_readFunction hr_inferTerm hr_readAnnotated hr_readApplied hr_readComponent hr_checkInferred)) _ _ _ _ _ h)
    · rw [if_neg c2] at h
      refine v_aload_n C 5 dX4_checkInferred_69 rfl rfl ?_
      refine c_getS C 34 fl_4_25 rfl rfl (by decide) (okS _ 43 (by decide) rfl) dX4_checkInferred_70 ?_
      refine v_aload_n C 5 dX4_checkInferred_73 rfl rfl ?_
      refine c_getI C fl_4_176 rfl (okS _ 43 (by decide) rfl) dX4_checkInferred_74 ?_
      refine v_iload C 0 dX4_checkInferred_77 rfl ?_
      obtain ⟨q5, hq5, h⟩ := bd_of h
      refine c_call C [.int (q4.2.1 43 9), .int q4.1] [] (c_Signs_equal hA _ _ _ hq5) hY_Signs_equal rfl (by decide) (okS _ 34 (by decide) rfl) ml_4_179 ⟨(by omega : 2 + 1 ≤ 344 + (d + 1)), (by omega : 8 + (5 + 11) + 45 ≤ 13700 + 40 * (d + 1))⟩ ⟨Nat.zero_le _, Nat.zero_le _⟩ rfl rfl (Nat.le_of_ble_eq_true rfl) dX4_checkInferred_79 (wc_D hA cy _) ?_
      refine v_if_eq C 89 dX4_checkInferred_82 (by decide) (fun c3 => ?_) (fun c3 => ?_)
      · rw [if_pos c3] at h
        exact v_sub [5, 4, 3, 2, 1] rfl ((b_Reader_checkInferred_89 C hA hr_readType hr_readBinder hr_checkTerm hr_readPair hr_readFunction hr_inferTerm hr_readAnnotated hr_readApplied hr_readComponent hr_checkInferred (b_Reader_checkInferred_90 C hA hr_readType hr_readBinder hr_checkTerm hr_readPair hr_readFunction hr_inferTerm hr_readAnnotated hr_readApplied hr_readComponent hr_checkInferred)) _ _ _ _ _ h)
      · rw [if_neg c3] at h
        refine v_iconst C 1 dX4_checkInferred_85 (by decide) ?_
        refine v_goto C 90 dX4_checkInferred_86 (by decide) ?_
        exact v_sub [5, 4, 3, 2, 1] rfl ((b_Reader_checkInferred_90 C hA hr_readType hr_readBinder hr_checkTerm hr_readPair hr_readFunction hr_inferTerm hr_readAnnotated hr_readApplied hr_readComponent hr_checkInferred) _ _ _ _ _ _ h)
  · rw [if_pos c1] at h
    refine v_iconst C (-1) dX4_checkInferred_18 (by decide) ?_
    obtain rfl := Option.some.inj h
    exact v_iret C dX4_checkInferred_19
set_option maxHeartbeats 4000000 in
set_option maxRecDepth 20000 in
theorem g_Reader {l : Launch} {D : va_G} {cy : Nat → ClassId} {ad : Nat → Nat} (hA : adOK ad) : ∀ d : Nat, (∀ (z1 : Int32) (σ : CS) (q : Int32 × CS), f_Reader_readType d z1 σ = some q → MV l D (cyT cy) (inC ad) yX4_readType cX4_readType 7 (some .int) (344 + d) (13700 + 40 * d) 0 0 [.ref (ad 43), .int z1] (wc cy ad σ) (some (.int q.1)) (wc cy ad q.2)) ∧ (∀ (z1 : Int32) (z2 : Int32) (z3 : Int32) (σ : CS) (q : Int32 × CS), f_Reader_readBinder d z1 z2 z3 σ = some q → MV l D (cyT cy) (inC ad) yX4_readBinder cX4_readBinder 7 (some .int) (344 + d) (13700 + 40 * d) 0 0 [.ref (ad 43), .int z1, .int z2, .int z3] (wc cy ad σ) (some (.int q.1)) (wc cy ad q.2)) ∧ (∀ (z1 : Int32) (z2 : Int32) (σ : CS) (q : Int32 × CS), f_Reader_checkTerm d z1 z2 σ = some q → MV l D (cyT cy) (inC ad) yX4_checkTerm cX4_checkTerm 6 (some .int) (344 + d) (13700 + 40 * d) 0 0 [.ref (ad 43), .int z1, .int z2] (wc cy ad σ) (some (.int q.1)) (wc cy ad q.2)) ∧ (∀ (z1 : Int32) (z2 : Int32) (σ : CS) (q : Int32 × CS), f_Reader_readPair d z1 z2 σ = some q → MV l D (cyT cy) (inC ad) yX4_readPair cX4_readPair 7 (some .int) (344 + d) (13700 + 40 * d) 0 0 [.ref (ad 43), .int z1, .int z2] (wc cy ad σ) (some (.int q.1)) (wc cy ad q.2)) ∧ (∀ (z1 : Int32) (z2 : Int32) (σ : CS) (q : Int32 × CS), f_Reader_readFunction d z1 z2 σ = some q → MV l D (cyT cy) (inC ad) yX4_readFunction cX4_readFunction 6 (some .int) (344 + d) (13700 + 40 * d) 0 0 [.ref (ad 43), .int z1, .int z2] (wc cy ad σ) (some (.int q.1)) (wc cy ad q.2)) ∧ (∀ (z1 : Int32) (σ : CS) (q : Int32 × CS), f_Reader_inferTerm d z1 σ = some q → MV l D (cyT cy) (inC ad) yX4_inferTerm cX4_inferTerm 7 (some .int) (344 + d) (13700 + 40 * d) 0 0 [.ref (ad 43), .int z1] (wc cy ad σ) (some (.int q.1)) (wc cy ad q.2)) ∧ (∀ (z1 : Int32) (σ : CS) (q : Int32 × CS), f_Reader_readAnnotated d z1 σ = some q → MV l D (cyT cy) (inC ad) yX4_readAnnotated cX4_readAnnotated 5 (some .boolean) (344 + d) (13700 + 40 * d) 0 0 [.ref (ad 43), .int z1] (wc cy ad σ) (some (.int q.1)) (wc cy ad q.2)) ∧ (∀ (z1 : Int32) (σ : CS) (q : Int32 × CS), f_Reader_readApplied d z1 σ = some q → MV l D (cyT cy) (inC ad) yX4_readApplied cX4_readApplied 8 (some .boolean) (344 + d) (13700 + 40 * d) 0 0 [.ref (ad 43), .int z1] (wc cy ad σ) (some (.int q.1)) (wc cy ad q.2)) ∧ (∀ (z1 : Int32) (σ : CS) (q : Int32 × CS), f_Reader_readComponent d z1 σ = some q → MV l D (cyT cy) (inC ad) yX4_readComponent cX4_readComponent 8 (some .boolean) (344 + d) (13700 + 40 * d) 0 0 [.ref (ad 43), .int z1] (wc cy ad σ) (some (.int q.1)) (wc cy ad q.2)) ∧ (∀ (z1 : Int32) (z2 : Int32) (σ : CS) (q : Int32 × CS), f_Reader_checkInferred d z1 z2 σ = some q → MV l D (cyT cy) (inC ad) yX4_checkInferred cX4_checkInferred 9 (some .int) (344 + d) (13700 + 40 * d) 0 0 [.ref (ad 43), .int z1, .int z2] (wc cy ad σ) (some (.int q.1)) (wc cy ad q.2)) := by
  intro d
  induction d with
  | zero => exact ⟨(fun _ _ _ h => absurd (show (none : Option (Int32 × CS)) = some _ from h) (by simp)), (fun _ _ _ _ _ h => absurd (show (none : Option (Int32 × CS)) = some _ from h) (by simp)), (fun _ _ _ _ h => absurd (show (none : Option (Int32 × CS)) = some _ from h) (by simp)), (fun _ _ _ _ h => absurd (show (none : Option (Int32 × CS)) = some _ from h) (by simp)), (fun _ _ _ _ h => absurd (show (none : Option (Int32 × CS)) = some _ from h) (by simp)), (fun _ _ _ h => absurd (show (none : Option (Int32 × CS)) = some _ from h) (by simp)), (fun _ _ _ h => absurd (show (none : Option (Int32 × CS)) = some _ from h) (by simp)), (fun _ _ _ h => absurd (show (none : Option (Int32 × CS)) = some _ from h) (by simp)), (fun _ _ _ h => absurd (show (none : Option (Int32 × CS)) = some _ from h) (by simp)), (fun _ _ _ _ h => absurd (show (none : Option (Int32 × CS)) = some _ from h) (by simp))⟩
  | succ d ih =>
    obtain ⟨h0, h1, h2, h3, h4, h5, h6, h7, h8, h9⟩ := ih
    exact ⟨(fun _ _ _ h => w_Reader_readType hA h0 h1 h2 h3 h4 h5 h6 h7 h8 h9 _ _ h), (fun _ _ _ _ _ h => w_Reader_readBinder hA h0 h1 h2 h3 h4 h5 h6 h7 h8 h9 _ _ _ _ h), (fun _ _ _ _ h => w_Reader_checkTerm hA h0 h1 h2 h3 h4 h5 h6 h7 h8 h9 _ _ _ h), (fun _ _ _ _ h => w_Reader_readPair hA h0 h1 h2 h3 h4 h5 h6 h7 h8 h9 _ _ _ h), (fun _ _ _ _ h => w_Reader_readFunction hA h0 h1 h2 h3 h4 h5 h6 h7 h8 h9 _ _ _ h), (fun _ _ _ h => w_Reader_inferTerm hA h0 h1 h2 h3 h4 h5 h6 h7 h8 h9 _ _ h), (fun _ _ _ h => w_Reader_readAnnotated hA h0 h1 h2 h3 h4 h5 h6 h7 h8 h9 _ _ h), (fun _ _ _ h => w_Reader_readApplied hA h0 h1 h2 h3 h4 h5 h6 h7 h8 h9 _ _ h), (fun _ _ _ h => w_Reader_readComponent hA h0 h1 h2 h3 h4 h5 h6 h7 h8 h9 _ _ h), (fun _ _ _ _ h => w_Reader_checkInferred hA h0 h1 h2 h3 h4 h5 h6 h7 h8 h9 _ _ _ h)⟩
set_option maxHeartbeats 4000000 in
set_option maxRecDepth 20000 in
theorem c_Reader_readType {l : Launch} {D : va_G} {cy : Nat → ClassId} {ad : Nat → Nat} {q : Int32 × CS} (hA : adOK ad) (z1 : Int32) (σ : CS) (h : f_Reader_readType 140 z1 σ = some q) : MV l D (cyT cy) (inC ad) yX4_readType cX4_readType 7 (some .int) 484 19300 0 0 [.ref (ad 43), .int z1] (wc cy ad σ) (some (.int q.1)) (wc cy ad q.2) := (g_Reader hA 140).1 _ _ _ h
set_option maxHeartbeats 4000000 in
set_option maxRecDepth 20000 in
theorem c_Reader_readBinder {l : Launch} {D : va_G} {cy : Nat → ClassId} {ad : Nat → Nat} {q : Int32 × CS} (hA : adOK ad) (z1 : Int32) (z2 : Int32) (z3 : Int32) (σ : CS) (h : f_Reader_readBinder 140 z1 z2 z3 σ = some q) : MV l D (cyT cy) (inC ad) yX4_readBinder cX4_readBinder 7 (some .int) 484 19300 0 0 [.ref (ad 43), .int z1, .int z2, .int z3] (wc cy ad σ) (some (.int q.1)) (wc cy ad q.2) := (g_Reader hA 140).2.1 _ _ _ _ _ h
set_option maxHeartbeats 4000000 in
set_option maxRecDepth 20000 in
theorem c_Reader_checkTerm {l : Launch} {D : va_G} {cy : Nat → ClassId} {ad : Nat → Nat} {q : Int32 × CS} (hA : adOK ad) (z1 : Int32) (z2 : Int32) (σ : CS) (h : f_Reader_checkTerm 140 z1 z2 σ = some q) : MV l D (cyT cy) (inC ad) yX4_checkTerm cX4_checkTerm 6 (some .int) 484 19300 0 0 [.ref (ad 43), .int z1, .int z2] (wc cy ad σ) (some (.int q.1)) (wc cy ad q.2) := (g_Reader hA 140).2.2.1 _ _ _ _ h
set_option maxHeartbeats 4000000 in
set_option maxRecDepth 20000 in
theorem c_Reader_readPair {l : Launch} {D : va_G} {cy : Nat → ClassId} {ad : Nat → Nat} {q : Int32 × CS} (hA : adOK ad) (z1 : Int32) (z2 : Int32) (σ : CS) (h : f_Reader_readPair 140 z1 z2 σ = some q) : MV l D (cyT cy) (inC ad) yX4_readPair cX4_readPair 7 (some .int) 484 19300 0 0 [.ref (ad 43), .int z1, .int z2] (wc cy ad σ) (some (.int q.1)) (wc cy ad q.2) := (g_Reader hA 140).2.2.2.1 _ _ _ _ h
set_option maxHeartbeats 4000000 in
set_option maxRecDepth 20000 in
theorem c_Reader_readFunction {l : Launch} {D : va_G} {cy : Nat → ClassId} {ad : Nat → Nat} {q : Int32 × CS} (hA : adOK ad) (z1 : Int32) (z2 : Int32) (σ : CS) (h : f_Reader_readFunction 140 z1 z2 σ = some q) : MV l D (cyT cy) (inC ad) yX4_readFunction cX4_readFunction 6 (some .int) 484 19300 0 0 [.ref (ad 43), .int z1, .int z2] (wc cy ad σ) (some (.int q.1)) (wc cy ad q.2) := (g_Reader hA 140).2.2.2.2.1 _ _ _ _ h
set_option maxHeartbeats 4000000 in
set_option maxRecDepth 20000 in
theorem c_Reader_inferTerm {l : Launch} {D : va_G} {cy : Nat → ClassId} {ad : Nat → Nat} {q : Int32 × CS} (hA : adOK ad) (z1 : Int32) (σ : CS) (h : f_Reader_inferTerm 140 z1 σ = some q) : MV l D (cyT cy) (inC ad) yX4_inferTerm cX4_inferTerm 7 (some .int) 484 19300 0 0 [.ref (ad 43), .int z1] (wc cy ad σ) (some (.int q.1)) (wc cy ad q.2) := (g_Reader hA 140).2.2.2.2.2.1 _ _ _ h
set_option maxHeartbeats 4000000 in
set_option maxRecDepth 20000 in
theorem c_Reader_readAnnotated {l : Launch} {D : va_G} {cy : Nat → ClassId} {ad : Nat → Nat} {q : Int32 × CS} (hA : adOK ad) (z1 : Int32) (σ : CS) (h : f_Reader_readAnnotated 140 z1 σ = some q) : MV l D (cyT cy) (inC ad) yX4_readAnnotated cX4_readAnnotated 5 (some .boolean) 484 19300 0 0 [.ref (ad 43), .int z1] (wc cy ad σ) (some (.int q.1)) (wc cy ad q.2) := (g_Reader hA 140).2.2.2.2.2.2.1 _ _ _ h
set_option maxHeartbeats 4000000 in
set_option maxRecDepth 20000 in
theorem c_Reader_readApplied {l : Launch} {D : va_G} {cy : Nat → ClassId} {ad : Nat → Nat} {q : Int32 × CS} (hA : adOK ad) (z1 : Int32) (σ : CS) (h : f_Reader_readApplied 140 z1 σ = some q) : MV l D (cyT cy) (inC ad) yX4_readApplied cX4_readApplied 8 (some .boolean) 484 19300 0 0 [.ref (ad 43), .int z1] (wc cy ad σ) (some (.int q.1)) (wc cy ad q.2) := (g_Reader hA 140).2.2.2.2.2.2.2.1 _ _ _ h
set_option maxHeartbeats 4000000 in
set_option maxRecDepth 20000 in
theorem c_Reader_readComponent {l : Launch} {D : va_G} {cy : Nat → ClassId} {ad : Nat → Nat} {q : Int32 × CS} (hA : adOK ad) (z1 : Int32) (σ : CS) (h : f_Reader_readComponent 140 z1 σ = some q) : MV l D (cyT cy) (inC ad) yX4_readComponent cX4_readComponent 8 (some .boolean) 484 19300 0 0 [.ref (ad 43), .int z1] (wc cy ad σ) (some (.int q.1)) (wc cy ad q.2) := (g_Reader hA 140).2.2.2.2.2.2.2.2.1 _ _ _ h
set_option maxHeartbeats 4000000 in
set_option maxRecDepth 20000 in
theorem c_Reader_checkInferred {l : Launch} {D : va_G} {cy : Nat → ClassId} {ad : Nat → Nat} {q : Int32 × CS} (hA : adOK ad) (z1 : Int32) (z2 : Int32) (σ : CS) (h : f_Reader_checkInferred 140 z1 z2 σ = some q) : MV l D (cyT cy) (inC ad) yX4_checkInferred cX4_checkInferred 9 (some .int) 484 19300 0 0 [.ref (ad 43), .int z1, .int z2] (wc cy ad σ) (some (.int q.1)) (wc cy ad q.2) := (g_Reader hA 140).2.2.2.2.2.2.2.2.2 _ _ _ _ h
