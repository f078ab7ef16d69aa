theorem dX4_readType_0 : decode cX4_readType 0 = .ok (.aload_n 0, 1) := by decide +kernel
theorem dX4_readType_1 : decode cX4_readType 1 = .ok (.invokevirtual 98, 3) := by decide +kernel
theorem dX4_readType_4 : decode cX4_readType 4 = .ok (.istore_n 2, 1) := by decide +kernel
theorem dX4_readType_5 : decode cX4_readType 5 = .ok (.iload_n 2, 1) := by decide +kernel
theorem dX4_readType_6 : decode cX4_readType 6 = .ok (.bipush 83, 2) := by decide +kernel
theorem dX4_readType_8 : decode cX4_readType 8 = .ok (.if_icmp .eq 9, 3) := by decide +kernel
theorem dX4_readType_11 : decode cX4_readType 11 = .ok (.iload_n 2, 1) := by decide +kernel
theorem dX4_readType_12 : decode cX4_readType 12 = .ok (.bipush 80, 2) := by decide +kernel
theorem dX4_readType_14 : decode cX4_readType 14 = .ok (.if_icmp .ne 13, 3) := by decide +kernel
theorem dX4_readType_17 : decode cX4_readType 17 = .ok (.iload_n 1, 1) := by decide +kernel
theorem dX4_readType_18 : decode cX4_readType 18 = .ok (.bipush 10, 2) := by decide +kernel
theorem dX4_readType_20 : decode cX4_readType 20 = .ok (.if_icmp .ge 7, 3) := by decide +kernel
theorem dX4_readType_23 : decode cX4_readType 23 = .ok (.iconst 1, 1) := by decide +kernel
theorem dX4_readType_24 : decode cX4_readType 24 = .ok (.goto 4, 3) := by decide +kernel
theorem dX4_readType_27 : decode cX4_readType 27 = .ok (.iconst 0, 1) := by decide +kernel
theorem dX4_readType_28 : decode cX4_readType 28 = .ok (.istore_n 3, 1) := by decide +kernel
theorem dX4_readType_29 : decode cX4_readType 29 = .ok (.iload_n 2, 1) := by decide +kernel
theorem dX4_readType_30 : decode cX4_readType 30 = .ok (.bipush 49, 2) := by decide +kernel
theorem dX4_readType_32 : decode cX4_readType 32 = .ok (.if_icmp .eq 27, 3) := by decide +kernel
theorem dX4_readType_35 : decode cX4_readType 35 = .ok (.iload_n 3, 1) := by decide +kernel
theorem dX4_readType_36 : decode cX4_readType 36 = .ok (.ifCond .ne 23, 3) := by decide +kernel
theorem dX4_readType_39 : decode cX4_readType 39 = .ok (.aload_n 0, 1) := by decide +kernel
theorem dX4_readType_40 : decode cX4_readType 40 = .ok (.getfield 25, 3) := by decide +kernel
theorem dX4_readType_43 : decode cX4_readType 43 = .ok (.iload_n 2, 1) := by decide +kernel
theorem dX4_readType_44 : decode cX4_readType 44 = .ok (.invokevirtual 130, 3) := by decide +kernel
theorem dX4_readType_47 : decode cX4_readType 47 = .ok (.ifCond .ne 12, 3) := by decide +kernel
theorem dX4_readType_50 : decode cX4_readType 50 = .ok (.aload_n 0, 1) := by decide +kernel
theorem dX4_readType_51 : decode cX4_readType 51 = .ok (.aload_n 0, 1) := by decide +kernel
theorem dX4_readType_52 : decode cX4_readType 52 = .ok (.getfield 41, 3) := by decide +kernel
theorem dX4_readType_55 : decode cX4_readType 55 = .ok (.invokevirtual 95, 3) := by decide +kernel
theorem dX4_readType_58 : decode cX4_readType 58 = .ok (.ireturn, 1) := by decide +kernel
theorem dX4_readType_59 : decode cX4_readType 59 = .ok (.aload_n 0, 1) := by decide +kernel
theorem dX4_readType_60 : decode cX4_readType 60 = .ok (.getfield 41, 3) := by decide +kernel
theorem dX4_readType_63 : decode cX4_readType 63 = .ok (.istore 4, 2) := by decide +kernel
theorem dX4_readType_65 : decode cX4_readType 65 = .ok (.aload_n 0, 1) := by decide +kernel
theorem dX4_readType_66 : decode cX4_readType 66 = .ok (.dup, 1) := by decide +kernel
theorem dX4_readType_67 : decode cX4_readType 67 = .ok (.getfield 41, 3) := by decide +kernel
theorem dX4_readType_70 : decode cX4_readType 70 = .ok (.iconst 1, 1) := by decide +kernel
theorem dX4_readType_71 : decode cX4_readType 71 = .ok (.iadd, 1) := by decide +kernel
theorem dX4_readType_72 : decode cX4_readType 72 = .ok (.putfield 41, 3) := by decide +kernel
theorem dX4_readType_75 : decode cX4_readType 75 = .ok (.iload_n 3, 1) := by decide +kernel
theorem dX4_readType_76 : decode cX4_readType 76 = .ok (.ifCond .eq 12, 3) := by decide +kernel
theorem dX4_readType_79 : decode cX4_readType 79 = .ok (.aload_n 0, 1) := by decide +kernel
theorem dX4_readType_80 : decode cX4_readType 80 = .ok (.iload_n 2, 1) := by decide +kernel
theorem dX4_readType_81 : decode cX4_readType 81 = .ok (.iload 4, 2) := by decide +kernel
theorem dX4_readType_83 : decode cX4_readType 83 = .ok (.iload_n 1, 1) := by decide +kernel
theorem dX4_readType_84 : decode cX4_readType 84 = .ok (.invokevirtual 133, 3) := by decide +kernel
theorem dX4_readType_87 : decode cX4_readType 87 = .ok (.ireturn, 1) := by decide +kernel
theorem dX4_readType_88 : decode cX4_readType 88 = .ok (.aload_n 0, 1) := by decide +kernel
theorem dX4_readType_89 : decode cX4_readType 89 = .ok (.getfield 25, 3) := by decide +kernel
theorem dX4_readType_92 : decode cX4_readType 92 = .ok (.iload_n 2, 1) := by decide +kernel
theorem dX4_readType_93 : decode cX4_readType 93 = .ok (.invokevirtual 136, 3) := by decide +kernel
theorem dX4_readType_96 : decode cX4_readType 96 = .ok (.istore 5, 2) := by decide +kernel
theorem dX4_readType_98 : decode cX4_readType 98 = .ok (.iload 5, 2) := by decide +kernel
theorem dX4_readType_100 : decode cX4_readType 100 = .ok (.iconst (-1), 1) := by decide +kernel
theorem dX4_readType_101 : decode cX4_readType 101 = .ok (.if_icmp .ne 13, 3) := by decide +kernel
theorem dX4_readType_104 : decode cX4_readType 104 = .ok (.aload_n 0, 1) := by decide +kernel
theorem dX4_readType_105 : decode cX4_readType 105 = .ok (.iload_n 2, 1) := by decide +kernel
theorem dX4_readType_106 : decode cX4_readType 106 = .ok (.iconst (-1), 1) := by decide +kernel
theorem dX4_readType_107 : decode cX4_readType 107 = .ok (.iconst (-1), 1) := by decide +kernel
theorem dX4_readType_108 : decode cX4_readType 108 = .ok (.iload 4, 2) := by decide +kernel
theorem dX4_readType_110 : decode cX4_readType 110 = .ok (.invokevirtual 139, 3) := by decide +kernel
theorem dX4_readType_113 : decode cX4_readType 113 = .ok (.ireturn, 1) := by decide +kernel
theorem dX4_readType_114 : decode cX4_readType 114 = .ok (.aload_n 0, 1) := by decide +kernel
theorem dX4_readType_115 : decode cX4_readType 115 = .ok (.aload_n 0, 1) := by decide +kernel
theorem dX4_readType_116 : decode cX4_readType 116 = .ok (.getfield 29, 3) := by decide +kernel
theorem dX4_readType_119 : decode cX4_readType 119 = .ok (.iload 5, 2) := by decide +kernel
theorem dX4_readType_121 : decode cX4_readType 121 = .ok (.iconst 0, 1) := by decide +kernel
theorem dX4_readType_122 : decode cX4_readType 122 = .ok (.invokevirtual 66, 3) := by decide +kernel
theorem dX4_readType_125 : decode cX4_readType 125 = .ok (.iload_n 1, 1) := by decide +kernel
theorem dX4_readType_126 : decode cX4_readType 126 = .ok (.invokevirtual 70, 3) := by decide +kernel
theorem dX4_readType_129 : decode cX4_readType 129 = .ok (.istore 6, 2) := by decide +kernel
theorem dX4_readType_131 : decode cX4_readType 131 = .ok (.iload 6, 2) := by decide +kernel
theorem dX4_readType_133 : decode cX4_readType 133 = .ok (.iconst (-1), 1) := by decide +kernel
theorem dX4_readType_134 : decode cX4_readType 134 = .ok (.if_icmp .ne 7, 3) := by decide +kernel
theorem dX4_readType_137 : decode cX4_readType 137 = .ok (.iconst (-1), 1) := by decide +kernel
theorem dX4_readType_138 : decode cX4_readType 138 = .ok (.goto 13, 3) := by decide +kernel
theorem dX4_readType_141 : decode cX4_readType 141 = .ok (.aload_n 0, 1) := by decide +kernel
theorem dX4_readType_142 : decode cX4_readType 142 = .ok (.iload_n 2, 1) := by decide +kernel
theorem dX4_readType_143 : decode cX4_readType 143 = .ok (.iload 6, 2) := by decide +kernel
theorem dX4_readType_145 : decode cX4_readType 145 = .ok (.iconst (-1), 1) := by decide +kernel
theorem dX4_readType_146 : decode cX4_readType 146 = .ok (.iload 4, 2) := by decide +kernel
theorem dX4_readType_148 : decode cX4_readType 148 = .ok (.invokevirtual 139, 3) := by decide +kernel
theorem dX4_readType_151 : decode cX4_readType 151 = .ok (.ireturn, 1) := by decide +kernel
theorem dX4_readBinder_0 : decode cX4_readBinder 0 = .ok (.aload_n 0, 1) := by decide +kernel
theorem dX4_readBinder_1 : decode cX4_readBinder 1 = .ok (.getfield 41, 3) := by decide +kernel
theorem dX4_readBinder_4 : decode cX4_readBinder 4 = .ok (.istore 4, 2) := by decide +kernel
theorem dX4_readBinder_6 : decode cX4_readBinder 6 = .ok (.aload_n 0, 1) := by decide +kernel
theorem dX4_readBinder_7 : decode cX4_readBinder 7 = .ok (.iload_n 3, 1) := by decide +kernel
theorem dX4_readBinder_8 : decode cX4_readBinder 8 = .ok (.invokevirtual 59, 3) := by decide +kernel
theorem dX4_readBinder_11 : decode cX4_readBinder 11 = .ok (.istore 5, 2) := by decide +kernel
theorem dX4_readBinder_13 : decode cX4_readBinder 13 = .ok (.iload 5, 2) := by decide +kernel
theorem dX4_readBinder_15 : decode cX4_readBinder 15 = .ok (.iconst (-1), 1) := by decide +kernel
theorem dX4_readBinder_16 : decode cX4_readBinder 16 = .ok (.if_icmp .ne 5, 3) := by decide +kernel
theorem dX4_readBinder_19 : decode cX4_readBinder 19 = .ok (.iconst (-1), 1) := by decide +kernel
theorem dX4_readBinder_20 : decode cX4_readBinder 20 = .ok (.ireturn, 1) := by decide +kernel
theorem dX4_readBinder_21 : decode cX4_readBinder 21 = .ok (.iload_n 1, 1) := by decide +kernel
theorem dX4_readBinder_22 : decode cX4_readBinder 22 = .ok (.bipush 80, 2) := by decide +kernel
theorem dX4_readBinder_24 : decode cX4_readBinder 24 = .ok (.if_icmp .ne 22, 3) := by decide +kernel
theorem dX4_readBinder_27 : decode cX4_readBinder 27 = .ok (.aload_n 0, 1) := by decide +kernel
theorem dX4_readBinder_28 : decode cX4_readBinder 28 = .ok (.getfield 25, 3) := by decide +kernel
theorem dX4_readBinder_31 : decode cX4_readBinder 31 = .ok (.iload 5, 2) := by decide +kernel
theorem dX4_readBinder_33 : decode cX4_readBinder 33 = .ok (.invokevirtual 108, 3) := by decide +kernel
theorem dX4_readBinder_36 : decode cX4_readBinder 36 = .ok (.ifCond .ne 10, 3) := by decide +kernel
theorem dX4_readBinder_39 : decode cX4_readBinder 39 = .ok (.aload_n 0, 1) := by decide +kernel
theorem dX4_readBinder_40 : decode cX4_readBinder 40 = .ok (.iload 4, 2) := by decide +kernel
theorem dX4_readBinder_42 : decode cX4_readBinder 42 = .ok (.invokevirtual 95, 3) := by decide +kernel
theorem dX4_readBinder_45 : decode cX4_readBinder 45 = .ok (.ireturn, 1) := by decide +kernel
theorem dX4_readBinder_46 : decode cX4_readBinder 46 = .ok (.aload_n 0, 1) := by decide +kernel
theorem dX4_readBinder_47 : decode cX4_readBinder 47 = .ok (.aload_n 0, 1) := by decide +kernel
theorem dX4_readBinder_48 : decode cX4_readBinder 48 = .ok (.getfield 29, 3) := by decide +kernel
theorem dX4_readBinder_51 : decode cX4_readBinder 51 = .ok (.iload 5, 2) := by decide +kernel
theorem dX4_readBinder_53 : decode cX4_readBinder 53 = .ok (.aload_n 0, 1) := by decide +kernel
theorem dX4_readBinder_54 : decode cX4_readBinder 54 = .ok (.iload_n 3, 1) := by decide +kernel
theorem dX4_readBinder_55 : decode cX4_readBinder 55 = .ok (.invokevirtual 142, 3) := by decide +kernel
theorem dX4_readBinder_58 : decode cX4_readBinder 58 = .ok (.invokevirtual 66, 3) := by decide +kernel
theorem dX4_readBinder_61 : decode cX4_readBinder 61 = .ok (.iload_n 3, 1) := by decide +kernel
theorem dX4_readBinder_62 : decode cX4_readBinder 62 = .ok (.invokevirtual 145, 3) := by decide +kernel
theorem dX4_readBinder_65 : decode cX4_readBinder 65 = .ok (.pop, 1) := by decide +kernel
theorem dX4_readBinder_66 : decode cX4_readBinder 66 = .ok (.aload_n 0, 1) := by decide +kernel
theorem dX4_readBinder_67 : decode cX4_readBinder 67 = .ok (.iload_n 3, 1) := by decide +kernel
theorem dX4_readBinder_68 : decode cX4_readBinder 68 = .ok (.iconst 1, 1) := by decide +kernel
theorem dX4_readBinder_69 : decode cX4_readBinder 69 = .ok (.iadd, 1) := by decide +kernel
theorem dX4_readBinder_70 : decode cX4_readBinder 70 = .ok (.invokevirtual 59, 3) := by decide +kernel
theorem dX4_readBinder_73 : decode cX4_readBinder 73 = .ok (.istore 6, 2) := by decide +kernel
theorem dX4_readBinder_75 : decode cX4_readBinder 75 = .ok (.iload 6, 2) := by decide +kernel
theorem dX4_readBinder_77 : decode cX4_readBinder 77 = .ok (.iconst (-1), 1) := by decide +kernel
theorem dX4_readBinder_78 : decode cX4_readBinder 78 = .ok (.if_icmp .ne 7, 3) := by decide +kernel
theorem dX4_readBinder_81 : decode cX4_readBinder 81 = .ok (.iconst (-1), 1) := by decide +kernel
theorem dX4_readBinder_82 : decode cX4_readBinder 82 = .ok (.goto 13, 3) := by decide +kernel
theorem dX4_readBinder_85 : decode cX4_readBinder 85 = .ok (.aload_n 0, 1) := by decide +kernel
theorem dX4_readBinder_86 : decode cX4_readBinder 86 = .ok (.iload_n 1, 1) := by decide +kernel
theorem dX4_readBinder_87 : decode cX4_readBinder 87 = .ok (.iload 5, 2) := by decide +kernel
theorem dX4_readBinder_89 : decode cX4_readBinder 89 = .ok (.iload 6, 2) := by decide +kernel
theorem dX4_readBinder_91 : decode cX4_readBinder 91 = .ok (.iload_n 2, 1) := by decide +kernel
theorem dX4_readBinder_92 : decode cX4_readBinder 92 = .ok (.invokevirtual 139, 3) := by decide +kernel
theorem dX4_readBinder_95 : decode cX4_readBinder 95 = .ok (.ireturn, 1) := by decide +kernel
theorem dX4_checkTerm_0 : decode cX4_checkTerm 0 = .ok (.aload_n 0, 1) := by decide +kernel
theorem dX4_checkTerm_1 : decode cX4_checkTerm 1 = .ok (.getfield 29, 3) := by decide +kernel
theorem dX4_checkTerm_4 : decode cX4_checkTerm 4 = .ok (.iload_n 1, 1) := by decide +kernel
theorem dX4_checkTerm_5 : decode cX4_checkTerm 5 = .ok (.invokevirtual 148, 3) := by decide +kernel
theorem dX4_checkTerm_8 : decode cX4_checkTerm 8 = .ok (.istore_n 3, 1) := by decide +kernel
theorem dX4_checkTerm_9 : decode cX4_checkTerm 9 = .ok (.aload_n 0, 1) := by decide +kernel
theorem dX4_checkTerm_10 : decode cX4_checkTerm 10 = .ok (.getfield 41, 3) := by decide +kernel
theorem dX4_checkTerm_13 : decode cX4_checkTerm 13 = .ok (.istore 4, 2) := by decide +kernel
theorem dX4_checkTerm_15 : decode cX4_checkTerm 15 = .ok (.aload_n 0, 1) := by decide +kernel
theorem dX4_checkTerm_16 : decode cX4_checkTerm 16 = .ok (.invokevirtual 98, 3) := by decide +kernel
theorem dX4_checkTerm_19 : decode cX4_checkTerm 19 = .ok (.lookupswitch 129 #[(42, 33), (44, 67), (92, 89)], 33) := by decide +kernel
theorem dX4_checkTerm_52 : decode cX4_checkTerm 52 = .ok (.iload_n 3, 1) := by decide +kernel
theorem dX4_checkTerm_53 : decode cX4_checkTerm 53 = .ok (.bipush 49, 2) := by decide +kernel
theorem dX4_checkTerm_55 : decode cX4_checkTerm 55 = .ok (.if_icmp .eq 10, 3) := by decide +kernel
theorem dX4_checkTerm_58 : decode cX4_checkTerm 58 = .ok (.aload_n 0, 1) := by decide +kernel
theorem dX4_checkTerm_59 : decode cX4_checkTerm 59 = .ok (.iload 4, 2) := by decide +kernel
theorem dX4_checkTerm_61 : decode cX4_checkTerm 61 = .ok (.invokevirtual 95, 3) := by decide +kernel
theorem dX4_checkTerm_64 : decode cX4_checkTerm 64 = .ok (.ireturn, 1) := by decide +kernel
theorem dX4_checkTerm_65 : decode cX4_checkTerm 65 = .ok (.aload_n 0, 1) := by decide +kernel
theorem dX4_checkTerm_66 : decode cX4_checkTerm 66 = .ok (.dup, 1) := by decide +kernel
theorem dX4_checkTerm_67 : decode cX4_checkTerm 67 = .ok (.getfield 41, 3) := by decide +kernel
theorem dX4_checkTerm_70 : decode cX4_checkTerm 70 = .ok (.iconst 1, 1) := by decide +kernel
theorem dX4_checkTerm_71 : decode cX4_checkTerm 71 = .ok (.iadd, 1) := by decide +kernel
theorem dX4_checkTerm_72 : decode cX4_checkTerm 72 = .ok (.putfield 41, 3) := by decide +kernel
theorem dX4_checkTerm_75 : decode cX4_checkTerm 75 = .ok (.aload_n 0, 1) := by decide +kernel
theorem dX4_checkTerm_76 : decode cX4_checkTerm 76 = .ok (.bipush 42, 2) := by decide +kernel
theorem dX4_checkTerm_78 : decode cX4_checkTerm 78 = .ok (.iconst (-1), 1) := by decide +kernel
theorem dX4_checkTerm_79 : decode cX4_checkTerm 79 = .ok (.iconst (-1), 1) := by decide +kernel
theorem dX4_checkTerm_80 : decode cX4_checkTerm 80 = .ok (.iload 4, 2) := by decide +kernel
theorem dX4_checkTerm_82 : decode cX4_checkTerm 82 = .ok (.invokevirtual 139, 3) := by decide +kernel
theorem dX4_checkTerm_85 : decode cX4_checkTerm 85 = .ok (.ireturn, 1) := by decide +kernel
theorem dX4_checkTerm_86 : decode cX4_checkTerm 86 = .ok (.iload_n 3, 1) := by decide +kernel
theorem dX4_checkTerm_87 : decode cX4_checkTerm 87 = .ok (.bipush 83, 2) := by decide +kernel
theorem dX4_checkTerm_89 : decode cX4_checkTerm 89 = .ok (.if_icmp .ne 12, 3) := by decide +kernel
theorem dX4_checkTerm_92 : decode cX4_checkTerm 92 = .ok (.aload_n 0, 1) := by decide +kernel
theorem dX4_checkTerm_93 : decode cX4_checkTerm 93 = .ok (.iload_n 1, 1) := by decide +kernel
theorem dX4_checkTerm_94 : decode cX4_checkTerm 94 = .ok (.iload_n 2, 1) := by decide +kernel
theorem dX4_checkTerm_95 : decode cX4_checkTerm 95 = .ok (.invokevirtual 151, 3) := by decide +kernel
theorem dX4_checkTerm_98 : decode cX4_checkTerm 98 = .ok (.goto 9, 3) := by decide +kernel
theorem dX4_checkTerm_101 : decode cX4_checkTerm 101 = .ok (.aload_n 0, 1) := by decide +kernel
theorem dX4_checkTerm_102 : decode cX4_checkTerm 102 = .ok (.iload 4, 2) := by decide +kernel
theorem dX4_checkTerm_104 : decode cX4_checkTerm 104 = .ok (.invokevirtual 95, 3) := by decide +kernel
theorem dX4_checkTerm_107 : decode cX4_checkTerm 107 = .ok (.ireturn, 1) := by decide +kernel
theorem dX4_checkTerm_108 : decode cX4_checkTerm 108 = .ok (.iload_n 3, 1) := by decide +kernel
theorem dX4_checkTerm_109 : decode cX4_checkTerm 109 = .ok (.bipush 80, 2) := by decide +kernel
theorem dX4_checkTerm_111 : decode cX4_checkTerm 111 = .ok (.if_icmp .ne 13, 3) := by decide +kernel
theorem dX4_checkTerm_114 : decode cX4_checkTerm 114 = .ok (.iload_n 2, 1) := by decide +kernel
theorem dX4_checkTerm_115 : decode cX4_checkTerm 115 = .ok (.bipush 10, 2) := by decide +kernel
theorem dX4_checkTerm_117 : decode cX4_checkTerm 117 = .ok (.if_icmp .ge 7, 3) := by decide +kernel
theorem dX4_checkTerm_120 : decode cX4_checkTerm 120 = .ok (.iconst 1, 1) := by decide +kernel
theorem dX4_checkTerm_121 : decode cX4_checkTerm 121 = .ok (.goto 4, 3) := by decide +kernel
theorem dX4_checkTerm_124 : decode cX4_checkTerm 124 = .ok (.iconst 0, 1) := by decide +kernel
theorem dX4_checkTerm_125 : decode cX4_checkTerm 125 = .ok (.istore 5, 2) := by decide +kernel
theorem dX4_checkTerm_127 : decode cX4_checkTerm 127 = .ok (.iload 5, 2) := by decide +kernel
theorem dX4_checkTerm_129 : decode cX4_checkTerm 129 = .ok (.ifCond .eq 12, 3) := by decide +kernel
theorem dX4_checkTerm_132 : decode cX4_checkTerm 132 = .ok (.aload_n 0, 1) := by decide +kernel
theorem dX4_checkTerm_133 : decode cX4_checkTerm 133 = .ok (.iload_n 1, 1) := by decide +kernel
theorem dX4_checkTerm_134 : decode cX4_checkTerm 134 = .ok (.iload_n 2, 1) := by decide +kernel
theorem dX4_checkTerm_135 : decode cX4_checkTerm 135 = .ok (.invokevirtual 154, 3) := by decide +kernel
theorem dX4_checkTerm_138 : decode cX4_checkTerm 138 = .ok (.goto 9, 3) := by decide +kernel
theorem dX4_checkTerm_141 : decode cX4_checkTerm 141 = .ok (.aload_n 0, 1) := by decide +kernel
theorem dX4_checkTerm_142 : decode cX4_checkTerm 142 = .ok (.iload 4, 2) := by decide +kernel
theorem dX4_checkTerm_144 : decode cX4_checkTerm 144 = .ok (.invokevirtual 95, 3) := by decide +kernel
theorem dX4_checkTerm_147 : decode cX4_checkTerm 147 = .ok (.ireturn, 1) := by decide +kernel
theorem dX4_checkTerm_148 : decode cX4_checkTerm 148 = .ok (.aload_n 0, 1) := by decide +kernel
theorem dX4_checkTerm_149 : decode cX4_checkTerm 149 = .ok (.iload_n 2, 1) := by decide +kernel
theorem dX4_checkTerm_150 : decode cX4_checkTerm 150 = .ok (.invokevirtual 83, 3) := by decide +kernel
theorem dX4_checkTerm_153 : decode cX4_checkTerm 153 = .ok (.istore 6, 2) := by decide +kernel
theorem dX4_checkTerm_155 : decode cX4_checkTerm 155 = .ok (.iload 6, 2) := by decide +kernel
theorem dX4_checkTerm_157 : decode cX4_checkTerm 157 = .ok (.iconst (-1), 1) := by decide +kernel
theorem dX4_checkTerm_158 : decode cX4_checkTerm 158 = .ok (.if_icmp .ne 5, 3) := by decide +kernel
theorem dX4_checkTerm_161 : decode cX4_checkTerm 161 = .ok (.iconst (-1), 1) := by decide +kernel
theorem dX4_checkTerm_162 : decode cX4_checkTerm 162 = .ok (.ireturn, 1) := by decide +kernel
theorem dX4_checkTerm_163 : decode cX4_checkTerm 163 = .ok (.aload_n 0, 1) := by decide +kernel
theorem dX4_checkTerm_164 : decode cX4_checkTerm 164 = .ok (.aload_n 0, 1) := by decide +kernel
theorem dX4_checkTerm_165 : decode cX4_checkTerm 165 = .ok (.getfield 157, 3) := by decide +kernel
theorem dX4_checkTerm_168 : decode cX4_checkTerm 168 = .ok (.iload_n 1, 1) := by decide +kernel
theorem dX4_checkTerm_169 : decode cX4_checkTerm 169 = .ok (.iload_n 2, 1) := by decide +kernel
theorem dX4_checkTerm_170 : decode cX4_checkTerm 170 = .ok (.invokevirtual 160, 3) := by decide +kernel
theorem dX4_checkTerm_173 : decode cX4_checkTerm 173 = .ok (.ifCond .eq 8, 3) := by decide +kernel
theorem dX4_checkTerm_176 : decode cX4_checkTerm 176 = .ok (.iload 6, 2) := by decide +kernel
theorem dX4_checkTerm_178 : decode cX4_checkTerm 178 = .ok (.goto 9, 3) := by decide +kernel
theorem dX4_checkTerm_181 : decode cX4_checkTerm 181 = .ok (.aload_n 0, 1) := by decide +kernel
theorem dX4_checkTerm_182 : decode cX4_checkTerm 182 = .ok (.iload 4, 2) := by decide +kernel
theorem dX4_checkTerm_184 : decode cX4_checkTerm 184 = .ok (.invokevirtual 95, 3) := by decide +kernel
theorem dX4_checkTerm_187 : decode cX4_checkTerm 187 = .ok (.ireturn, 1) := by decide +kernel
theorem dX4_readPair_0 : decode cX4_readPair 0 = .ok (.aload_n 0, 1) := by decide +kernel
theorem dX4_readPair_1 : decode cX4_readPair 1 = .ok (.getfield 41, 3) := by decide +kernel
theorem dX4_readPair_4 : decode cX4_readPair 4 = .ok (.istore_n 3, 1) := by decide +kernel
theorem dX4_readPair_5 : decode cX4_readPair 5 = .ok (.aload_n 0, 1) := by decide +kernel
theorem dX4_readPair_6 : decode cX4_readPair 6 = .ok (.dup, 1) := by decide +kernel
theorem dX4_readPair_7 : decode cX4_readPair 7 = .ok (.getfield 41, 3) := by decide +kernel
theorem dX4_readPair_10 : decode cX4_readPair 10 = .ok (.iconst 1, 1) := by decide +kernel
theorem dX4_readPair_11 : decode cX4_readPair 11 = .ok (.iadd, 1) := by decide +kernel
theorem dX4_readPair_12 : decode cX4_readPair 12 = .ok (.putfield 41, 3) := by decide +kernel
theorem dX4_readPair_15 : decode cX4_readPair 15 = .ok (.aload_n 0, 1) := by decide +kernel
theorem dX4_readPair_16 : decode cX4_readPair 16 = .ok (.aload_n 0, 1) := by decide +kernel
theorem dX4_readPair_17 : decode cX4_readPair 17 = .ok (.getfield 29, 3) := by decide +kernel
theorem dX4_readPair_20 : decode cX4_readPair 20 = .ok (.iload_n 1, 1) := by decide +kernel
theorem dX4_readPair_21 : decode cX4_readPair 21 = .ok (.invokevirtual 181, 3) := by decide +kernel
theorem dX4_readPair_24 : decode cX4_readPair 24 = .ok (.iload_n 2, 1) := by decide +kernel
theorem dX4_readPair_25 : decode cX4_readPair 25 = .ok (.invokevirtual 70, 3) := by decide +kernel
theorem dX4_readPair_28 : decode cX4_readPair 28 = .ok (.istore 4, 2) := by decide +kernel
theorem dX4_readPair_30 : decode cX4_readPair 30 = .ok (.iload 4, 2) := by decide +kernel
theorem dX4_readPair_32 : decode cX4_readPair 32 = .ok (.iconst (-1), 1) := by decide +kernel
theorem dX4_readPair_33 : decode cX4_readPair 33 = .ok (.if_icmp .ne 5, 3) := by decide +kernel
theorem dX4_readPair_36 : decode cX4_readPair 36 = .ok (.iconst (-1), 1) := by decide +kernel
theorem dX4_readPair_37 : decode cX4_readPair 37 = .ok (.ireturn, 1) := by decide +kernel
theorem dX4_readPair_38 : decode cX4_readPair 38 = .ok (.aload_n 0, 1) := by decide +kernel
theorem dX4_readPair_39 : decode cX4_readPair 39 = .ok (.getfield 29, 3) := by decide +kernel
theorem dX4_readPair_42 : decode cX4_readPair 42 = .ok (.iload 4, 2) := by decide +kernel
theorem dX4_readPair_44 : decode cX4_readPair 44 = .ok (.aload_n 0, 1) := by decide +kernel
theorem dX4_readPair_45 : decode cX4_readPair 45 = .ok (.iload_n 2, 1) := by decide +kernel
theorem dX4_readPair_46 : decode cX4_readPair 46 = .ok (.invokevirtual 142, 3) := by decide +kernel
theorem dX4_readPair_49 : decode cX4_readPair 49 = .ok (.bipush 104, 2) := by decide +kernel
theorem dX4_readPair_51 : decode cX4_readPair 51 = .ok (.invokevirtual 184, 3) := by decide +kernel
theorem dX4_readPair_54 : decode cX4_readPair 54 = .ok (.istore 5, 2) := by decide +kernel
theorem dX4_readPair_56 : decode cX4_readPair 56 = .ok (.aload_n 0, 1) := by decide +kernel
theorem dX4_readPair_57 : decode cX4_readPair 57 = .ok (.aload_n 0, 1) := by decide +kernel
theorem dX4_readPair_58 : decode cX4_readPair 58 = .ok (.getfield 29, 3) := by decide +kernel
theorem dX4_readPair_61 : decode cX4_readPair 61 = .ok (.iload_n 1, 1) := by decide +kernel
theorem dX4_readPair_62 : decode cX4_readPair 62 = .ok (.iload 5, 2) := by decide +kernel
theorem dX4_readPair_64 : decode cX4_readPair 64 = .ok (.invokevirtual 187, 3) := by decide +kernel
theorem dX4_readPair_67 : decode cX4_readPair 67 = .ok (.iload_n 2, 1) := by decide +kernel
theorem dX4_readPair_68 : decode cX4_readPair 68 = .ok (.invokevirtual 70, 3) := by decide +kernel
theorem dX4_readPair_71 : decode cX4_readPair 71 = .ok (.istore 6, 2) := by decide +kernel
theorem dX4_readPair_73 : decode cX4_readPair 73 = .ok (.iload 6, 2) := by decide +kernel
theorem dX4_readPair_75 : decode cX4_readPair 75 = .ok (.iconst (-1), 1) := by decide +kernel
theorem dX4_readPair_76 : decode cX4_readPair 76 = .ok (.if_icmp .ne 7, 3) := by decide +kernel
theorem dX4_readPair_79 : decode cX4_readPair 79 = .ok (.iconst (-1), 1) := by decide +kernel
theorem dX4_readPair_80 : decode cX4_readPair 80 = .ok (.goto 14, 3) := by decide +kernel
theorem dX4_readPair_83 : decode cX4_readPair 83 = .ok (.aload_n 0, 1) := by decide +kernel
theorem dX4_readPair_84 : decode cX4_readPair 84 = .ok (.bipush 44, 2) := by decide +kernel
theorem dX4_readPair_86 : decode cX4_readPair 86 = .ok (.iload 4, 2) := by decide +kernel
theorem dX4_readPair_88 : decode cX4_readPair 88 = .ok (.iload 6, 2) := by decide +kernel
theorem dX4_readPair_90 : decode cX4_readPair 90 = .ok (.iload_n 3, 1) := by decide +kernel
theorem dX4_readPair_91 : decode cX4_readPair 91 = .ok (.invokevirtual 139, 3) := by decide +kernel
theorem dX4_readPair_94 : decode cX4_readPair 94 = .ok (.ireturn, 1) := by decide +kernel
theorem dX4_readFunction_0 : decode cX4_readFunction 0 = .ok (.aload_n 0, 1) := by decide +kernel
theorem dX4_readFunction_1 : decode cX4_readFunction 1 = .ok (.getfield 41, 3) := by decide +kernel
theorem dX4_readFunction_4 : decode cX4_readFunction 4 = .ok (.istore_n 3, 1) := by decide +kernel
theorem dX4_readFunction_5 : decode cX4_readFunction 5 = .ok (.aload_n 0, 1) := by decide +kernel
theorem dX4_readFunction_6 : decode cX4_readFunction 6 = .ok (.dup, 1) := by decide +kernel
theorem dX4_readFunction_7 : decode cX4_readFunction 7 = .ok (.getfield 41, 3) := by decide +kernel
theorem dX4_readFunction_10 : decode cX4_readFunction 10 = .ok (.iconst 1, 1) := by decide +kernel
theorem dX4_readFunction_11 : decode cX4_readFunction 11 = .ok (.iadd, 1) := by decide +kernel
theorem dX4_readFunction_12 : decode cX4_readFunction 12 = .ok (.putfield 41, 3) := by decide +kernel
theorem dX4_readFunction_15 : decode cX4_readFunction 15 = .ok (.aload_n 0, 1) := by decide +kernel
theorem dX4_readFunction_16 : decode cX4_readFunction 16 = .ok (.aload_n 0, 1) := by decide +kernel
theorem dX4_readFunction_17 : decode cX4_readFunction 17 = .ok (.getfield 29, 3) := by decide +kernel
theorem dX4_readFunction_20 : decode cX4_readFunction 20 = .ok (.iload_n 1, 1) := by decide +kernel
theorem dX4_readFunction_21 : decode cX4_readFunction 21 = .ok (.invokevirtual 181, 3) := by decide +kernel
theorem dX4_readFunction_24 : decode cX4_readFunction 24 = .ok (.iload_n 2, 1) := by decide +kernel
theorem dX4_readFunction_25 : decode cX4_readFunction 25 = .ok (.invokevirtual 145, 3) := by decide +kernel
theorem dX4_readFunction_28 : decode cX4_readFunction 28 = .ok (.istore 4, 2) := by decide +kernel
theorem dX4_readFunction_30 : decode cX4_readFunction 30 = .ok (.aload_n 0, 1) := by decide +kernel
theorem dX4_readFunction_31 : decode cX4_readFunction 31 = .ok (.aload_n 0, 1) := by decide +kernel
theorem dX4_readFunction_32 : decode cX4_readFunction 32 = .ok (.getfield 29, 3) := by decide +kernel
theorem dX4_readFunction_35 : decode cX4_readFunction 35 = .ok (.iload_n 1, 1) := by decide +kernel
theorem dX4_readFunction_36 : decode cX4_readFunction 36 = .ok (.iload 4, 2) := by decide +kernel
theorem dX4_readFunction_38 : decode cX4_readFunction 38 = .ok (.invokevirtual 187, 3) := by decide +kernel
theorem dX4_readFunction_41 : decode cX4_readFunction 41 = .ok (.iload_n 2, 1) := by decide +kernel
theorem dX4_readFunction_42 : decode cX4_readFunction 42 = .ok (.iconst 1, 1) := by decide +kernel
theorem dX4_readFunction_43 : decode cX4_readFunction 43 = .ok (.iadd, 1) := by decide +kernel
theorem dX4_readFunction_44 : decode cX4_readFunction 44 = .ok (.invokevirtual 70, 3) := by decide +kernel
theorem dX4_readFunction_47 : decode cX4_readFunction 47 = .ok (.istore 5, 2) := by decide +kernel
theorem dX4_readFunction_49 : decode cX4_readFunction 49 = .ok (.iload 5, 2) := by decide +kernel
theorem dX4_readFunction_51 : decode cX4_readFunction 51 = .ok (.iconst (-1), 1) := by decide +kernel
theorem dX4_readFunction_52 : decode cX4_readFunction 52 = .ok (.if_icmp .ne 7, 3) := by decide +kernel
theorem dX4_readFunction_55 : decode cX4_readFunction 55 = .ok (.iconst (-1), 1) := by decide +kernel
theorem dX4_readFunction_56 : decode cX4_readFunction 56 = .ok (.goto 13, 3) := by decide +kernel
theorem dX4_readFunction_59 : decode cX4_readFunction 59 = .ok (.aload_n 0, 1) := by decide +kernel
theorem dX4_readFunction_60 : decode cX4_readFunction 60 = .ok (.bipush 92, 2) := by decide +kernel
theorem dX4_readFunction_62 : decode cX4_readFunction 62 = .ok (.iload 5, 2) := by decide +kernel
theorem dX4_readFunction_64 : decode cX4_readFunction 64 = .ok (.iconst (-1), 1) := by decide +kernel
theorem dX4_readFunction_65 : decode cX4_readFunction 65 = .ok (.iload_n 3, 1) := by decide +kernel
theorem dX4_readFunction_66 : decode cX4_readFunction 66 = .ok (.invokevirtual 139, 3) := by decide +kernel
theorem dX4_readFunction_69 : decode cX4_readFunction 69 = .ok (.ireturn, 1) := by decide +kernel
theorem dX4_inferTerm_0 : decode cX4_inferTerm 0 = .ok (.aload_n 0, 1) := by decide +kernel
theorem dX4_inferTerm_1 : decode cX4_inferTerm 1 = .ok (.getfield 29, 3) := by decide +kernel
theorem dX4_inferTerm_4 : decode cX4_inferTerm 4 = .ok (.getfield 167, 3) := by decide +kernel
theorem dX4_inferTerm_7 : decode cX4_inferTerm 7 = .ok (.istore_n 2, 1) := by decide +kernel
theorem dX4_inferTerm_8 : decode cX4_inferTerm 8 = .ok (.aload_n 0, 1) := by decide +kernel
theorem dX4_inferTerm_9 : decode cX4_inferTerm 9 = .ok (.invokevirtual 98, 3) := by decide +kernel
theorem dX4_inferTerm_12 : decode cX4_inferTerm 12 = .ok (.lookupswitch 88 #[(35, 52), (46, 70), (58, 61), (60, 79), (62, 79)], 52) := by decide +kernel
theorem dX4_inferTerm_64 : decode cX4_inferTerm 64 = .ok (.aload_n 0, 1) := by decide +kernel
theorem dX4_inferTerm_65 : decode cX4_inferTerm 65 = .ok (.iload_n 1, 1) := by decide +kernel
theorem dX4_inferTerm_66 : decode cX4_inferTerm 66 = .ok (.invokevirtual 190, 3) := by decide +kernel
theorem dX4_inferTerm_69 : decode cX4_inferTerm 69 = .ok (.istore_n 3, 1) := by decide +kernel
theorem dX4_inferTerm_70 : decode cX4_inferTerm 70 = .ok (.goto 36, 3) := by decide +kernel
theorem dX4_inferTerm_73 : decode cX4_inferTerm 73 = .ok (.aload_n 0, 1) := by decide +kernel
theorem dX4_inferTerm_74 : decode cX4_inferTerm 74 = .ok (.iload_n 1, 1) := by decide +kernel
theorem dX4_inferTerm_75 : decode cX4_inferTerm 75 = .ok (.invokevirtual 193, 3) := by decide +kernel
theorem dX4_inferTerm_78 : decode cX4_inferTerm 78 = .ok (.istore_n 3, 1) := by decide +kernel
theorem dX4_inferTerm_79 : decode cX4_inferTerm 79 = .ok (.goto 27, 3) := by decide +kernel
theorem dX4_inferTerm_82 : decode cX4_inferTerm 82 = .ok (.aload_n 0, 1) := by decide +kernel
theorem dX4_inferTerm_83 : decode cX4_inferTerm 83 = .ok (.iload_n 1, 1) := by decide +kernel
theorem dX4_inferTerm_84 : decode cX4_inferTerm 84 = .ok (.invokevirtual 196, 3) := by decide +kernel
theorem dX4_inferTerm_87 : decode cX4_inferTerm 87 = .ok (.istore_n 3, 1) := by decide +kernel
theorem dX4_inferTerm_88 : decode cX4_inferTerm 88 = .ok (.goto 18, 3) := by decide +kernel
theorem dX4_inferTerm_91 : decode cX4_inferTerm 91 = .ok (.aload_n 0, 1) := by decide +kernel
theorem dX4_inferTerm_92 : decode cX4_inferTerm 92 = .ok (.iload_n 1, 1) := by decide +kernel
theorem dX4_inferTerm_93 : decode cX4_inferTerm 93 = .ok (.invokevirtual 199, 3) := by decide +kernel
theorem dX4_inferTerm_96 : decode cX4_inferTerm 96 = .ok (.istore_n 3, 1) := by decide +kernel
theorem dX4_inferTerm_97 : decode cX4_inferTerm 97 = .ok (.goto 9, 3) := by decide +kernel
theorem dX4_inferTerm_100 : decode cX4_inferTerm 100 = .ok (.aload_n 0, 1) := by decide +kernel
theorem dX4_inferTerm_101 : decode cX4_inferTerm 101 = .ok (.iload_n 1, 1) := by decide +kernel
theorem dX4_inferTerm_102 : decode cX4_inferTerm 102 = .ok (.invokevirtual 202, 3) := by decide +kernel
theorem dX4_inferTerm_105 : decode cX4_inferTerm 105 = .ok (.istore_n 3, 1) := by decide +kernel
theorem dX4_inferTerm_106 : decode cX4_inferTerm 106 = .ok (.aload_n 0, 1) := by decide +kernel
theorem dX4_inferTerm_107 : decode cX4_inferTerm 107 = .ok (.getfield 29, 3) := by decide +kernel
theorem dX4_inferTerm_110 : decode cX4_inferTerm 110 = .ok (.iload_n 2, 1) := by decide +kernel
theorem dX4_inferTerm_111 : decode cX4_inferTerm 111 = .ok (.invokevirtual 55, 3) := by decide +kernel
theorem dX4_inferTerm_114 : decode cX4_inferTerm 114 = .ok (.iload_n 3, 1) := by decide +kernel
theorem dX4_inferTerm_115 : decode cX4_inferTerm 115 = .ok (.ireturn, 1) := by decide +kernel
theorem dX4_readAnnotated_0 : decode cX4_readAnnotated 0 = .ok (.aload_n 0, 1) := by decide +kernel
theorem dX4_readAnnotated_1 : decode cX4_readAnnotated 1 = .ok (.dup, 1) := by decide +kernel
theorem dX4_readAnnotated_2 : decode cX4_readAnnotated 2 = .ok (.getfield 41, 3) := by decide +kernel
theorem dX4_readAnnotated_5 : decode cX4_readAnnotated 5 = .ok (.iconst 1, 1) := by decide +kernel
theorem dX4_readAnnotated_6 : decode cX4_readAnnotated 6 = .ok (.iadd, 1) := by decide +kernel
theorem dX4_readAnnotated_7 : decode cX4_readAnnotated 7 = .ok (.putfield 41, 3) := by decide +kernel
theorem dX4_readAnnotated_10 : decode cX4_readAnnotated 10 = .ok (.aload_n 0, 1) := by decide +kernel
theorem dX4_readAnnotated_11 : decode cX4_readAnnotated 11 = .ok (.iload_n 1, 1) := by decide +kernel
theorem dX4_readAnnotated_12 : decode cX4_readAnnotated 12 = .ok (.invokevirtual 59, 3) := by decide +kernel
theorem dX4_readAnnotated_15 : decode cX4_readAnnotated 15 = .ok (.istore_n 2, 1) := by decide +kernel
theorem dX4_readAnnotated_16 : decode cX4_readAnnotated 16 = .ok (.iload_n 2, 1) := by decide +kernel
theorem dX4_readAnnotated_17 : decode cX4_readAnnotated 17 = .ok (.iconst (-1), 1) := by decide +kernel
theorem dX4_readAnnotated_18 : decode cX4_readAnnotated 18 = .ok (.if_icmp .ne 5, 3) := by decide +kernel
theorem dX4_readAnnotated_21 : decode cX4_readAnnotated 21 = .ok (.iconst (-1), 1) := by decide +kernel
theorem dX4_readAnnotated_22 : decode cX4_readAnnotated 22 = .ok (.ireturn, 1) := by decide +kernel
theorem dX4_readAnnotated_23 : decode cX4_readAnnotated 23 = .ok (.aload_n 0, 1) := by decide +kernel
theorem dX4_readAnnotated_24 : decode cX4_readAnnotated 24 = .ok (.aload_n 0, 1) := by decide +kernel
theorem dX4_readAnnotated_25 : decode cX4_readAnnotated 25 = .ok (.getfield 29, 3) := by decide +kernel
theorem dX4_readAnnotated_28 : decode cX4_readAnnotated 28 = .ok (.iload_n 2, 1) := by decide +kernel
theorem dX4_readAnnotated_29 : decode cX4_readAnnotated 29 = .ok (.aload_n 0, 1) := by decide +kernel
theorem dX4_readAnnotated_30 : decode cX4_readAnnotated 30 = .ok (.iload_n 1, 1) := by decide +kernel
theorem dX4_readAnnotated_31 : decode cX4_readAnnotated 31 = .ok (.invokevirtual 142, 3) := by decide +kernel
theorem dX4_readAnnotated_34 : decode cX4_readAnnotated 34 = .ok (.invokevirtual 66, 3) := by decide +kernel
theorem dX4_readAnnotated_37 : decode cX4_readAnnotated 37 = .ok (.iload_n 1, 1) := by decide +kernel
theorem dX4_readAnnotated_38 : decode cX4_readAnnotated 38 = .ok (.invokevirtual 70, 3) := by decide +kernel
theorem dX4_readAnnotated_41 : decode cX4_readAnnotated 41 = .ok (.istore_n 3, 1) := by decide +kernel
theorem dX4_readAnnotated_42 : decode cX4_readAnnotated 42 = .ok (.aload_n 0, 1) := by decide +kernel
theorem dX4_readAnnotated_43 : decode cX4_readAnnotated 43 = .ok (.iload_n 2, 1) := by decide +kernel
theorem dX4_readAnnotated_44 : decode cX4_readAnnotated 44 = .ok (.putfield 157, 3) := by decide +kernel
theorem dX4_readAnnotated_47 : decode cX4_readAnnotated 47 = .ok (.iload_n 3, 1) := by decide +kernel
theorem dX4_readAnnotated_48 : decode cX4_readAnnotated 48 = .ok (.ireturn, 1) := by decide +kernel
theorem dX4_readApplied_0 : decode cX4_readApplied 0 = .ok (.aload_n 0, 1) := by decide +kernel
theorem dX4_readApplied_1 : decode cX4_readApplied 1 = .ok (.getfield 41, 3) := by decide +kernel
theorem dX4_readApplied_4 : decode cX4_readApplied 4 = .ok (.istore_n 2, 1) := by decide +kernel
theorem dX4_readApplied_5 : decode cX4_readApplied 5 = .ok (.aload_n 0, 1) := by decide +kernel
theorem dX4_readApplied_6 : decode cX4_readApplied 6 = .ok (.dup, 1) := by decide +kernel
theorem dX4_readApplied_7 : decode cX4_readApplied 7 = .ok (.getfield 41, 3) := by decide +kernel
theorem dX4_readApplied_10 : decode cX4_readApplied 10 = .ok (.iconst 1, 1) := by decide +kernel
theorem dX4_readApplied_11 : decode cX4_readApplied 11 = .ok (.iadd, 1) := by decide +kernel
theorem dX4_readApplied_12 : decode cX4_readApplied 12 = .ok (.putfield 41, 3) := by decide +kernel
theorem dX4_readApplied_15 : decode cX4_readApplied 15 = .ok (.aload_n 0, 1) := by decide +kernel
theorem dX4_readApplied_16 : decode cX4_readApplied 16 = .ok (.getfield 41, 3) := by decide +kernel
theorem dX4_readApplied_19 : decode cX4_readApplied 19 = .ok (.istore_n 3, 1) := by decide +kernel
theorem dX4_readApplied_20 : decode cX4_readApplied 20 = .ok (.aload_n 0, 1) := by decide +kernel
theorem dX4_readApplied_21 : decode cX4_readApplied 21 = .ok (.iload_n 1, 1) := by decide +kernel
theorem dX4_readApplied_22 : decode cX4_readApplied 22 = .ok (.invokevirtual 83, 3) := by decide +kernel
theorem dX4_readApplied_25 : decode cX4_readApplied 25 = .ok (.istore 4, 2) := by decide +kernel
theorem dX4_readApplied_27 : decode cX4_readApplied 27 = .ok (.iload 4, 2) := by decide +kernel
theorem dX4_readApplied_29 : decode cX4_readApplied 29 = .ok (.iconst (-1), 1) := by decide +kernel
theorem dX4_readApplied_30 : decode cX4_readApplied 30 = .ok (.if_icmp .ne 5, 3) := by decide +kernel
theorem dX4_readApplied_33 : decode cX4_readApplied 33 = .ok (.iconst (-1), 1) := by decide +kernel
theorem dX4_readApplied_34 : decode cX4_readApplied 34 = .ok (.ireturn, 1) := by decide +kernel
theorem dX4_readApplied_35 : decode cX4_readApplied 35 = .ok (.aload_n 0, 1) := by decide +kernel
theorem dX4_readApplied_36 : decode cX4_readApplied 36 = .ok (.getfield 29, 3) := by decide +kernel
theorem dX4_readApplied_39 : decode cX4_readApplied 39 = .ok (.aload_n 0, 1) := by decide +kernel
theorem dX4_readApplied_40 : decode cX4_readApplied 40 = .ok (.getfield 157, 3) := by decide +kernel
theorem dX4_readApplied_43 : decode cX4_readApplied 43 = .ok (.aload_n 0, 1) := by decide +kernel
theorem dX4_readApplied_44 : decode cX4_readApplied 44 = .ok (.iload_n 1, 1) := by decide +kernel
theorem dX4_readApplied_45 : decode cX4_readApplied 45 = .ok (.invokevirtual 142, 3) := by decide +kernel
theorem dX4_readApplied_48 : decode cX4_readApplied 48 = .ok (.invokevirtual 66, 3) := by decide +kernel
theorem dX4_readApplied_51 : decode cX4_readApplied 51 = .ok (.istore 5, 2) := by decide +kernel
theorem dX4_readApplied_53 : decode cX4_readApplied 53 = .ok (.aload_n 0, 1) := by decide +kernel
theorem dX4_readApplied_54 : decode cX4_readApplied 54 = .ok (.getfield 29, 3) := by decide +kernel
theorem dX4_readApplied_57 : decode cX4_readApplied 57 = .ok (.iload 5, 2) := by decide +kernel
theorem dX4_readApplied_59 : decode cX4_readApplied 59 = .ok (.invokevirtual 148, 3) := by decide +kernel
theorem dX4_readApplied_62 : decode cX4_readApplied 62 = .ok (.bipush 80, 2) := by decide +kernel
theorem dX4_readApplied_64 : decode cX4_readApplied 64 = .ok (.if_icmp .eq 9, 3) := by decide +kernel
theorem dX4_readApplied_67 : decode cX4_readApplied 67 = .ok (.aload_n 0, 1) := by decide +kernel
theorem dX4_readApplied_68 : decode cX4_readApplied 68 = .ok (.iload_n 3, 1) := by decide +kernel
theorem dX4_readApplied_69 : decode cX4_readApplied 69 = .ok (.invokevirtual 95, 3) := by decide +kernel
theorem dX4_readApplied_72 : decode cX4_readApplied 72 = .ok (.ireturn, 1) := by decide +kernel
theorem dX4_readApplied_73 : decode cX4_readApplied 73 = .ok (.aload_n 0, 1) := by decide +kernel
theorem dX4_readApplied_74 : decode cX4_readApplied 74 = .ok (.aload_n 0, 1) := by decide +kernel
theorem dX4_readApplied_75 : decode cX4_readApplied 75 = .ok (.getfield 29, 3) := by decide +kernel
theorem dX4_readApplied_78 : decode cX4_readApplied 78 = .ok (.iload 5, 2) := by decide +kernel
theorem dX4_readApplied_80 : decode cX4_readApplied 80 = .ok (.invokevirtual 181, 3) := by decide +kernel
theorem dX4_readApplied_83 : decode cX4_readApplied 83 = .ok (.iload_n 1, 1) := by decide +kernel
theorem dX4_readApplied_84 : decode cX4_readApplied 84 = .ok (.invokevirtual 70, 3) := by decide +kernel
theorem dX4_readApplied_87 : decode cX4_readApplied 87 = .ok (.istore 6, 2) := by decide +kernel
theorem dX4_readApplied_89 : decode cX4_readApplied 89 = .ok (.iload 6, 2) := by decide +kernel
theorem dX4_readApplied_91 : decode cX4_readApplied 91 = .ok (.iconst (-1), 1) := by decide +kernel
theorem dX4_readApplied_92 : decode cX4_readApplied 92 = .ok (.if_icmp .ne 5, 3) := by decide +kernel
theorem dX4_readApplied_95 : decode cX4_readApplied 95 = .ok (.iconst (-1), 1) := by decide +kernel
theorem dX4_readApplied_96 : decode cX4_readApplied 96 = .ok (.ireturn, 1) := by decide +kernel
theorem dX4_readApplied_97 : decode cX4_readApplied 97 = .ok (.aload_n 0, 1) := by decide +kernel
theorem dX4_readApplied_98 : decode cX4_readApplied 98 = .ok (.getfield 29, 3) := by decide +kernel
theorem dX4_readApplied_101 : decode cX4_readApplied 101 = .ok (.iload 6, 2) := by decide +kernel
theorem dX4_readApplied_103 : decode cX4_readApplied 103 = .ok (.aload_n 0, 1) := by decide +kernel
theorem dX4_readApplied_104 : decode cX4_readApplied 104 = .ok (.iload_n 1, 1) := by decide +kernel
theorem dX4_readApplied_105 : decode cX4_readApplied 105 = .ok (.invokevirtual 142, 3) := by decide +kernel
theorem dX4_readApplied_108 : decode cX4_readApplied 108 = .ok (.bipush 104, 2) := by decide +kernel
theorem dX4_readApplied_110 : decode cX4_readApplied 110 = .ok (.invokevirtual 184, 3) := by decide +kernel
theorem dX4_readApplied_113 : decode cX4_readApplied 113 = .ok (.istore 7, 2) := by decide +kernel
theorem dX4_readApplied_115 : decode cX4_readApplied 115 = .ok (.aload_n 0, 1) := by decide +kernel
theorem dX4_readApplied_116 : decode cX4_readApplied 116 = .ok (.getfield 29, 3) := by decide +kernel
theorem dX4_readApplied_119 : decode cX4_readApplied 119 = .ok (.iload 4, 2) := by decide +kernel
theorem dX4_readApplied_121 : decode cX4_readApplied 121 = .ok (.aload_n 0, 1) := by decide +kernel
theorem dX4_readApplied_122 : decode cX4_readApplied 122 = .ok (.iload_n 1, 1) := by decide +kernel
theorem dX4_readApplied_123 : decode cX4_readApplied 123 = .ok (.invokevirtual 142, 3) := by decide +kernel
theorem dX4_readApplied_126 : decode cX4_readApplied 126 = .ok (.bipush 104, 2) := by decide +kernel
theorem dX4_readApplied_128 : decode cX4_readApplied 128 = .ok (.invokevirtual 184, 3) := by decide +kernel
theorem dX4_readApplied_131 : decode cX4_readApplied 131 = .ok (.istore 8, 2) := by decide +kernel
theorem dX4_readApplied_133 : decode cX4_readApplied 133 = .ok (.aload_n 0, 1) := by decide +kernel
theorem dX4_readApplied_134 : decode cX4_readApplied 134 = .ok (.getfield 29, 3) := by decide +kernel
theorem dX4_readApplied_137 : decode cX4_readApplied 137 = .ok (.iload 8, 2) := by decide +kernel
theorem dX4_readApplied_139 : decode cX4_readApplied 139 = .ok (.iload 7, 2) := by decide +kernel
theorem dX4_readApplied_141 : decode cX4_readApplied 141 = .ok (.bipush 104, 2) := by decide +kernel
theorem dX4_readApplied_143 : decode cX4_readApplied 143 = .ok (.invokevirtual 242, 3) := by decide +kernel
theorem dX4_readApplied_146 : decode cX4_readApplied 146 = .ok (.istore 9, 2) := by decide +kernel
theorem dX4_readApplied_148 : decode cX4_readApplied 148 = .ok (.aload_n 0, 1) := by decide +kernel
theorem dX4_readApplied_149 : decode cX4_readApplied 149 = .ok (.aload_n 0, 1) := by decide +kernel
theorem dX4_readApplied_150 : decode cX4_readApplied 150 = .ok (.getfield 29, 3) := by decide +kernel
theorem dX4_readApplied_153 : decode cX4_readApplied 153 = .ok (.iload 5, 2) := by decide +kernel
theorem dX4_readApplied_155 : decode cX4_readApplied 155 = .ok (.iload 7, 2) := by decide +kernel
theorem dX4_readApplied_157 : decode cX4_readApplied 157 = .ok (.invokevirtual 187, 3) := by decide +kernel
theorem dX4_readApplied_160 : decode cX4_readApplied 160 = .ok (.iload 9, 2) := by decide +kernel
theorem dX4_readApplied_162 : decode cX4_readApplied 162 = .ok (.iload_n 1, 1) := by decide +kernel
theorem dX4_readApplied_163 : decode cX4_readApplied 163 = .ok (.iload_n 2, 1) := by decide +kernel
theorem dX4_readApplied_164 : decode cX4_readApplied 164 = .ok (.invokevirtual 215, 3) := by decide +kernel
theorem dX4_readApplied_167 : decode cX4_readApplied 167 = .ok (.ireturn, 1) := by decide +kernel
theorem dX4_readComponent_0 : decode cX4_readComponent 0 = .ok (.aload_n 0, 1) := by decide +kernel
theorem dX4_readComponent_1 : decode cX4_readComponent 1 = .ok (.getfield 41, 3) := by decide +kernel
theorem dX4_readComponent_4 : decode cX4_readComponent 4 = .ok (.istore_n 2, 1) := by decide +kernel
theorem dX4_readComponent_5 : decode cX4_readComponent 5 = .ok (.aload_n 0, 1) := by decide +kernel
theorem dX4_readComponent_6 : decode cX4_readComponent 6 = .ok (.invokevirtual 98, 3) := by decide +kernel
theorem dX4_readComponent_9 : decode cX4_readComponent 9 = .ok (.bipush 60, 2) := by decide +kernel
theorem dX4_readComponent_11 : decode cX4_readComponent 11 = .ok (.if_icmp .ne 7, 3) := by decide +kernel
theorem dX4_readComponent_14 : decode cX4_readComponent 14 = .ok (.iconst 1, 1) := by decide +kernel
theorem dX4_readComponent_15 : decode cX4_readComponent 15 = .ok (.goto 4, 3) := by decide +kernel
theorem dX4_readComponent_18 : decode cX4_readComponent 18 = .ok (.iconst 0, 1) := by decide +kernel
theorem dX4_readComponent_19 : decode cX4_readComponent 19 = .ok (.istore_n 3, 1) := by decide +kernel
theorem dX4_readComponent_20 : decode cX4_readComponent 20 = .ok (.aload_n 0, 1) := by decide +kernel
theorem dX4_readComponent_21 : decode cX4_readComponent 21 = .ok (.dup, 1) := by decide +kernel
theorem dX4_readComponent_22 : decode cX4_readComponent 22 = .ok (.getfield 41, 3) := by decide +kernel
theorem dX4_readComponent_25 : decode cX4_readComponent 25 = .ok (.iconst 1, 1) := by decide +kernel
theorem dX4_readComponent_26 : decode cX4_readComponent 26 = .ok (.iadd, 1) := by decide +kernel
theorem dX4_readComponent_27 : decode cX4_readComponent 27 = .ok (.putfield 41, 3) := by decide +kernel
theorem dX4_readComponent_30 : decode cX4_readComponent 30 = .ok (.aload_n 0, 1) := by decide +kernel
theorem dX4_readComponent_31 : decode cX4_readComponent 31 = .ok (.getfield 41, 3) := by decide +kernel
theorem dX4_readComponent_34 : decode cX4_readComponent 34 = .ok (.istore 4, 2) := by decide +kernel
theorem dX4_readComponent_36 : decode cX4_readComponent 36 = .ok (.aload_n 0, 1) := by decide +kernel
theorem dX4_readComponent_37 : decode cX4_readComponent 37 = .ok (.iload_n 1, 1) := by decide +kernel
theorem dX4_readComponent_38 : decode cX4_readComponent 38 = .ok (.invokevirtual 83, 3) := by decide +kernel
theorem dX4_readComponent_41 : decode cX4_readComponent 41 = .ok (.istore 5, 2) := by decide +kernel
theorem dX4_readComponent_43 : decode cX4_readComponent 43 = .ok (.iload 5, 2) := by decide +kernel
theorem dX4_readComponent_45 : decode cX4_readComponent 45 = .ok (.iconst (-1), 1) := by decide +kernel
theorem dX4_readComponent_46 : decode cX4_readComponent 46 = .ok (.if_icmp .ne 5, 3) := by decide +kernel
theorem dX4_readComponent_49 : decode cX4_readComponent 49 = .ok (.iconst (-1), 1) := by decide +kernel
theorem dX4_readComponent_50 : decode cX4_readComponent 50 = .ok (.ireturn, 1) := by decide +kernel
theorem dX4_readComponent_51 : decode cX4_readComponent 51 = .ok (.aload_n 0, 1) := by decide +kernel
theorem dX4_readComponent_52 : decode cX4_readComponent 52 = .ok (.getfield 29, 3) := by decide +kernel
theorem dX4_readComponent_55 : decode cX4_readComponent 55 = .ok (.aload_n 0, 1) := by decide +kernel
theorem dX4_readComponent_56 : decode cX4_readComponent 56 = .ok (.getfield 157, 3) := by decide +kernel
theorem dX4_readComponent_59 : decode cX4_readComponent 59 = .ok (.aload_n 0, 1) := by decide +kernel
theorem dX4_readComponent_60 : decode cX4_readComponent 60 = .ok (.iload_n 1, 1) := by decide +kernel
theorem dX4_readComponent_61 : decode cX4_readComponent 61 = .ok (.invokevirtual 142, 3) := by decide +kernel
theorem dX4_readComponent_64 : decode cX4_readComponent 64 = .ok (.invokevirtual 66, 3) := by decide +kernel
theorem dX4_readComponent_67 : decode cX4_readComponent 67 = .ok (.istore 6, 2) := by decide +kernel
theorem dX4_readComponent_69 : decode cX4_readComponent 69 = .ok (.aload_n 0, 1) := by decide +kernel
theorem dX4_readComponent_70 : decode cX4_readComponent 70 = .ok (.getfield 29, 3) := by decide +kernel
theorem dX4_readComponent_73 : decode cX4_readComponent 73 = .ok (.iload 6, 2) := by decide +kernel
theorem dX4_readComponent_75 : decode cX4_readComponent 75 = .ok (.invokevirtual 148, 3) := by decide +kernel
theorem dX4_readComponent_78 : decode cX4_readComponent 78 = .ok (.bipush 83, 2) := by decide +kernel
theorem dX4_readComponent_80 : decode cX4_readComponent 80 = .ok (.if_icmp .eq 10, 3) := by decide +kernel
theorem dX4_readComponent_83 : decode cX4_readComponent 83 = .ok (.aload_n 0, 1) := by decide +kernel
theorem dX4_readComponent_84 : decode cX4_readComponent 84 = .ok (.iload 4, 2) := by decide +kernel
theorem dX4_readComponent_86 : decode cX4_readComponent 86 = .ok (.invokevirtual 95, 3) := by decide +kernel
theorem dX4_readComponent_89 : decode cX4_readComponent 89 = .ok (.ireturn, 1) := by decide +kernel
theorem dX4_readComponent_90 : decode cX4_readComponent 90 = .ok (.aload_n 0, 1) := by decide +kernel
theorem dX4_readComponent_91 : decode cX4_readComponent 91 = .ok (.getfield 29, 3) := by decide +kernel
theorem dX4_readComponent_94 : decode cX4_readComponent 94 = .ok (.iload 5, 2) := by decide +kernel
theorem dX4_readComponent_96 : decode cX4_readComponent 96 = .ok (.aload_n 0, 1) := by decide +kernel
theorem dX4_readComponent_97 : decode cX4_readComponent 97 = .ok (.iload_n 1, 1) := by decide +kernel
theorem dX4_readComponent_98 : decode cX4_readComponent 98 = .ok (.invokevirtual 142, 3) := by decide +kernel
theorem dX4_readComponent_101 : decode cX4_readComponent 101 = .ok (.bipush 104, 2) := by decide +kernel
theorem dX4_readComponent_103 : decode cX4_readComponent 103 = .ok (.invokevirtual 184, 3) := by decide +kernel
theorem dX4_readComponent_106 : decode cX4_readComponent 106 = .ok (.istore 7, 2) := by decide +kernel
theorem dX4_readComponent_108 : decode cX4_readComponent 108 = .ok (.aload_n 0, 1) := by decide +kernel
theorem dX4_readComponent_109 : decode cX4_readComponent 109 = .ok (.getfield 29, 3) := by decide +kernel
theorem dX4_readComponent_112 : decode cX4_readComponent 112 = .ok (.iload 7, 2) := by decide +kernel
theorem dX4_readComponent_114 : decode cX4_readComponent 114 = .ok (.invokevirtual 245, 3) := by decide +kernel
theorem dX4_readComponent_117 : decode cX4_readComponent 117 = .ok (.istore 8, 2) := by decide +kernel
theorem dX4_readComponent_119 : decode cX4_readComponent 119 = .ok (.iload_n 3, 1) := by decide +kernel
theorem dX4_readComponent_120 : decode cX4_readComponent 120 = .ok (.ifCond .eq 21, 3) := by decide +kernel
theorem dX4_readComponent_123 : decode cX4_readComponent 123 = .ok (.aload_n 0, 1) := by decide +kernel
theorem dX4_readComponent_124 : decode cX4_readComponent 124 = .ok (.aload_n 0, 1) := by decide +kernel
theorem dX4_readComponent_125 : decode cX4_readComponent 125 = .ok (.getfield 29, 3) := by decide +kernel
theorem dX4_readComponent_128 : decode cX4_readComponent 128 = .ok (.iload 6, 2) := by decide +kernel
theorem dX4_readComponent_130 : decode cX4_readComponent 130 = .ok (.invokevirtual 181, 3) := by decide +kernel
theorem dX4_readComponent_133 : decode cX4_readComponent 133 = .ok (.iload 8, 2) := by decide +kernel
theorem dX4_readComponent_135 : decode cX4_readComponent 135 = .ok (.iload_n 1, 1) := by decide +kernel
theorem dX4_readComponent_136 : decode cX4_readComponent 136 = .ok (.iload_n 2, 1) := by decide +kernel
theorem dX4_readComponent_137 : decode cX4_readComponent 137 = .ok (.invokevirtual 215, 3) := by decide +kernel
theorem dX4_readComponent_140 : decode cX4_readComponent 140 = .ok (.ireturn, 1) := by decide +kernel
theorem dX4_readComponent_141 : decode cX4_readComponent 141 = .ok (.aload_n 0, 1) := by decide +kernel
theorem dX4_readComponent_142 : decode cX4_readComponent 142 = .ok (.aload_n 0, 1) := by decide +kernel
theorem dX4_readComponent_143 : decode cX4_readComponent 143 = .ok (.getfield 29, 3) := by decide +kernel
theorem dX4_readComponent_146 : decode cX4_readComponent 146 = .ok (.iload 6, 2) := by decide +kernel
theorem dX4_readComponent_148 : decode cX4_readComponent 148 = .ok (.iload 8, 2) := by decide +kernel
theorem dX4_readComponent_150 : decode cX4_readComponent 150 = .ok (.invokevirtual 187, 3) := by decide +kernel
theorem dX4_readComponent_153 : decode cX4_readComponent 153 = .ok (.aload_n 0, 1) := by decide +kernel
theorem dX4_readComponent_154 : decode cX4_readComponent 154 = .ok (.getfield 29, 3) := by decide +kernel
theorem dX4_readComponent_157 : decode cX4_readComponent 157 = .ok (.iload 7, 2) := by decide +kernel
theorem dX4_readComponent_159 : decode cX4_readComponent 159 = .ok (.invokevirtual 248, 3) := by decide +kernel
theorem dX4_readComponent_162 : decode cX4_readComponent 162 = .ok (.iload_n 1, 1) := by decide +kernel
theorem dX4_readComponent_163 : decode cX4_readComponent 163 = .ok (.iload_n 2, 1) := by decide +kernel
theorem dX4_readComponent_164 : decode cX4_readComponent 164 = .ok (.invokevirtual 215, 3) := by decide +kernel
theorem dX4_readComponent_167 : decode cX4_readComponent 167 = .ok (.ireturn, 1) := by decide +kernel
set_option maxHeartbeats 4000000 in
set_option maxRecDepth 20000 in
theorem b_Reader_readType_151 {p : Program} {l : Launch} {e : Env} {s : State} {m : MethodId} {args : Array Value} {below : List Frame} {meth : Method} {c : Code} {D : va_G} {cy : Nat → ClassId} {ad : Nat → Nat} {q : Int32 × CS}  {r_readType : Int32 → CS → Option (Int32 × CS)} {r_readBinder : Int32 → Int32 → Int32 → CS → Option (Int32 × CS)} {r_checkTerm : Int32 → Int32 → CS → Option (Int32 × CS)} {r_readPair : Int32 → Int32 → CS → Option (Int32 × CS)} {r_readFunction : Int32 → Int32 → CS → Option (Int32 × CS)} {r_inferTerm : Int32 → CS → Option (Int32 × CS)} {r_readAnnotated : Int32 → CS → Option (Int32 × CS)} {r_readApplied : Int32 → CS → Option (Int32 × CS)} {r_readComponent : Int32 → CS → Option (Int32 × CS)} {d : Nat} (C : vC p s m args meth c cX4_readType 7 (some .int) RX4 D (cyT cy)) (hA : adOK ad) (hr_readType : ∀ (z1 : Int32) (σ : CS) (q : Int32 × CS), r_readType z1 σ = some q → MV l D (cyT cy) (inC ad) yX4_readType cX4_readType 7 (some .int) (346 + d) (13752 + 40 * d) 0 0 [.ref (ad 43), .int z1] (wc cy ad σ) (some (.int q.1)) (wc cy ad q.2)) (hr_readBinder : ∀ (z1 : Int32) (z2 : Int32) (z3 : Int32) (σ : CS) (q : Int32 × CS), r_readBinder z1 z2 z3 σ = some q → MV l D (cyT cy) (inC ad) yX4_readBinder cX4_readBinder 7 (some .int) (346 + d) (13752 + 40 * d) 0 0 [.ref (ad 43), .int z1, .int z2, .int z3] (wc cy ad σ) (some (.int q.1)) (wc cy ad q.2)) (hr_checkTerm : ∀ (z1 : Int32) (z2 : Int32) (σ : CS) (q : Int32 × CS), r_checkTerm z1 z2 σ = some q → MV l D (cyT cy) (inC ad) yX4_checkTerm cX4_checkTerm 7 (some .int) (346 + d) (13752 + 40 * d) 0 0 [.ref (ad 43), .int z1, .int z2] (wc cy ad σ) (some (.int q.1)) (wc cy ad q.2)) (hr_readPair : ∀ (z1 : Int32) (z2 : Int32) (σ : CS) (q : Int32 × CS), r_readPair z1 z2 σ = some q → MV l D (cyT cy) (inC ad) yX4_readPair cX4_readPair 7 (some .int) (346 + d) (13752 + 40 * d) 0 0 [.ref (ad 43), .int z1, .int z2] (wc cy ad σ) (some (.int q.1)) (wc cy ad q.2)) (hr_readFunction : ∀ (z1 : Int32) (z2 : Int32) (σ : CS) (q : Int32 × CS), r_readFunction z1 z2 σ = some q → MV l D (cyT cy) (inC ad) yX4_readFunction cX4_readFunction 6 (some .int) (346 + d) (13752 + 40 * d) 0 0 [.ref (ad 43), .int z1, .int z2] (wc cy ad σ) (some (.int q.1)) (wc cy ad q.2)) (hr_inferTerm : ∀ (z1 : Int32) (σ : CS) (q : Int32 × CS), r_inferTerm z1 σ = some q → MV l D (cyT cy) (inC ad) yX4_inferTerm cX4_inferTerm 4 (some .int) (346 + d) (13752 + 40 * d) 0 0 [.ref (ad 43), .int z1] (wc cy ad σ) (some (.int q.1)) (wc cy ad q.2)) (hr_readAnnotated : ∀ (z1 : Int32) (σ : CS) (q : Int32 × CS), r_readAnnotated z1 σ = some q → MV l D (cyT cy) (inC ad) yX4_readAnnotated cX4_readAnnotated 4 (some .int) (346 + d) (13752 + 40 * d) 0 0 [.ref (ad 43), .int z1] (wc cy ad σ) (some (.int q.1)) (wc cy ad q.2)) (hr_readApplied : ∀ (z1 : Int32) (σ : CS) (q : Int32 × CS), r_readApplied z1 σ = some q → MV l D (cyT cy) (inC ad) yX4_readApplied cX4_readApplied 10 (some .int) (346 + d) (13752 + 40 * d) 0 0 [.ref (ad 43), .int z1] (wc cy ad σ) (some (.int q.1)) (wc cy ad q.2)) (hr_readComponent : ∀ (z1 : Int32) (σ : CS) (q : Int32 × CS), r_readComponent z1 σ = some q → MV l D (cyT cy) (inC ad) yX4_readComponent cX4_readComponent 9 (some .int) (346 + d) (13752 + 40 * d) 0 0 [.ref (ad 43), .int z1] (wc cy ad σ) (some (.int q.1)) (wc cy ad q.2)) : ∀ (s0 : Int32) (σ : CS), B_Reader_readType_151 r_readType r_readBinder r_checkTerm r_readPair r_readFunction r_inferTerm r_readAnnotated r_readApplied r_readComponent s0 σ = some q → V p l e { frames := 346 + (d + 1), cells := 0, slots := 0, locals := 13752 + 40 * (d + 1) } s m args below meth c D (inC ad) 7 (MQ below (vQ D (inC ad) (some (.int q.1)) (wc cy ad q.2)) args s 0 0 (inC ad)) 0 0 (wc cy ad σ) 151 [(0, .ref (ad 43))] [.int s0] := by
  intro s0 σ h
  rw [B_Reader_readType_151] at h
  obtain rfl := Option.some.inj h
  exact v_iret C dX4_readType_151
set_option maxHeartbeats 4000000 in
set_option maxRecDepth 20000 in
theorem b_Reader_readType_59 {p : Program} {l : Launch} {e : Env} {s : State} {m : MethodId} {args : Array Value} {below : List Frame} {meth : Method} {c : Code} {D : va_G} {cy : Nat → ClassId} {ad : Nat → Nat} {q : Int32 × CS}  {r_readType : Int32 → CS → Option (Int32 × CS)} {r_readBinder : Int32 → Int32 → Int32 → CS → Option (Int32 × CS)} {r_checkTerm : Int32 → Int32 → CS → Option (Int32 × CS)} {r_readPair : Int32 → Int32 → CS → Option (Int32 × CS)} {r_readFunction : Int32 → Int32 → CS → Option (Int32 × CS)} {r_inferTerm : Int32 → CS → Option (Int32 × CS)} {r_readAnnotated : Int32 → CS → Option (Int32 × CS)} {r_readApplied : Int32 → CS → Option (Int32 × CS)} {r_readComponent : Int32 → CS → Option (Int32 × CS)} {d : Nat} (C : vC p s m args meth c cX4_readType 7 (some .int) RX4 D (cyT cy)) (hA : adOK ad) (hr_readType : ∀ (z1 : Int32) (σ : CS) (q : Int32 × CS), r_readType z1 σ = some q → MV l D (cyT cy) (inC ad) yX4_readType cX4_readType 7 (some .int) (346 + d) (13752 + 40 * d) 0 0 [.ref (ad 43), .int z1] (wc cy ad σ) (some (.int q.1)) (wc cy ad q.2)) (hr_readBinder : ∀ (z1 : Int32) (z2 : Int32) (z3 : Int32) (σ : CS) (q : Int32 × CS), r_readBinder z1 z2 z3 σ = some q → MV l D (cyT cy) (inC ad) yX4_readBinder cX4_readBinder 7 (some .int) (346 + d) (13752 + 40 * d) 0 0 [.ref (ad 43), .int z1, .int z2, .int z3] (wc cy ad σ) (some (.int q.1)) (wc cy ad q.2)) (hr_checkTerm : ∀ (z1 : Int32) (z2 : Int32) (σ : CS) (q : Int32 × CS), r_checkTerm z1 z2 σ = some q → MV l D (cyT cy) (inC ad) yX4_checkTerm cX4_checkTerm 7 (some .int) (346 + d) (13752 + 40 * d) 0 0 [.ref (ad 43), .int z1, .int z2] (wc cy ad σ) (some (.int q.1)) (wc cy ad q.2)) (hr_readPair : ∀ (z1 : Int32) (z2 : Int32) (σ : CS) (q : Int32 × CS), r_readPair z1 z2 σ = some q → MV l D (cyT cy) (inC ad) yX4_readPair cX4_readPair 7 (some .int) (346 + d) (13752 + 40 * d) 0 0 [.ref (ad 43), .int z1, .int z2] (wc cy ad σ) (some (.int q.1)) (wc cy ad q.2)) (hr_readFunction : ∀ (z1 : Int32) (z2 : Int32) (σ : CS) (q : Int32 × CS), r_readFunction z1 z2 σ = some q → MV l D (cyT cy) (inC ad) yX4_readFunction cX4_readFunction 6 (some .int) (346 + d) (13752 + 40 * d) 0 0 [.ref (ad 43), .int z1, .int z2] (wc cy ad σ) (some (.int q.1)) (wc cy ad q.2)) (hr_inferTerm : ∀ (z1 : Int32) (σ : CS) (q : Int32 × CS), r_inferTerm z1 σ = some q → MV l D (cyT cy) (inC ad) yX4_inferTerm cX4_inferTerm 4 (some .int) (346 + d) (13752 + 40 * d) 0 0 [.ref (ad 43), .int z1] (wc cy ad σ) (some (.int q.1)) (wc cy ad q.2)) (hr_readAnnotated : ∀ (z1 : Int32) (σ : CS) (q : Int32 × CS), r_readAnnotated z1 σ = some q → MV l D (cyT cy) (inC ad) yX4_readAnnotated cX4_readAnnotated 4 (some .int) (346 + d) (13752 + 40 * d) 0 0 [.ref (ad 43), .int z1] (wc cy ad σ) (some (.int q.1)) (wc cy ad q.2)) (hr_readApplied : ∀ (z1 : Int32) (σ : CS) (q : Int32 × CS), r_readApplied z1 σ = some q → MV l D (cyT cy) (inC ad) yX4_readApplied cX4_readApplied 10 (some .int) (346 + d) (13752 + 40 * d) 0 0 [.ref (ad 43), .int z1] (wc cy ad σ) (some (.int q.1)) (wc cy ad q.2)) (hr_readComponent : ∀ (z1 : Int32) (σ : CS) (q : Int32 × CS), r_readComponent z1 σ = some q → MV l D (cyT cy) (inC ad) yX4_readComponent cX4_readComponent 9 (some .int) (346 + d) (13752 + 40 * d) 0 0 [.ref (ad 43), .int z1] (wc cy ad σ) (some (.int q.1)) (wc cy ad q.2)) : ∀ (x1 : Int32) (x2 : Int32) (x3 : Int32) (σ : CS), B_Reader_readType_59 r_readType r_readBinder r_checkTerm r_readPair r_readFunction r_inferTerm r_readAnnotated r_readApplied r_readComponent x1 x2 x3 σ = some q → V p l e { frames := 346 + (d + 1), cells := 0, slots := 0, locals := 13752 + 40 * (d + 1) } s m args below meth c D (inC ad) 7 (MQ below (vQ D (inC ad) (some (.int q.1)) (wc cy ad q.2)) args s 0 0 (inC ad)) 0 0 (wc cy ad σ) 59 [(0, .ref (ad 43)), (1, .int x1), (2, .int x2), (3, .int x3)] [] := by
  intro x1 x2 x3 σ h
  rw [B_Reader_readType_59] at h
  refine v_aload_n C 0 dX4_readType_59 rfl rfl ?_
  refine c_getI C fl_4_41 rfl (okS _ 43 (by decide) rfl) dX4_readType_60 ?_
  refine v_istore C [(4, .int (σ.1 43 7)), (0, .ref (ad 43)), (1, .int x1), (2, .int x2), (3, .int x3)] dX4_readType_63 (by decide) rfl ?_
  refine v_aload_n C 1 dX4_readType_65 rfl rfl ?_
  refine v_dup C dX4_readType_66 rfl ?_
  refine c_getI C fl_4_41 rfl (okS _ 43 (by decide) rfl) dX4_readType_67 ?_
  refine v_iconst C 1 dX4_readType_70 (by decide) ?_
  refine v_iadd C dX4_readType_71 ?_
  refine c_putI C fl_4_41 fw_4_7 rfl (by decide) (okS _ 43 (by decide) rfl) dX4_readType_72 ?_
  refine v_iload_n C 4 dX4_readType_75 rfl rfl ?_
  refine v_if_eq C 88 dX4_readType_76 (by decide) (fun c1 => ?_) (fun c1 => ?_)
  · rw [if_pos c1] at h
    refine v_aload_n C 1 dX4_readType_88 rfl rfl ?_
    refine c_getS C 34 fl_4_25 rfl rfl (by decide) (okS _ 43 (by decide) rfl) dX4_readType_89 ?_
    refine v_iload_n C 3 dX4_readType_92 rfl rfl ?_
    obtain ⟨q1, hq1, h⟩ := bd_of h
    refine c_call C [.int x2] [] (c_Signs_indexTypeOf hA _ _ hq1) hY_Signs_indexTypeOf rfl (by decide) (okS _ 34 (by decide) rfl) ml_4_136 ⟨(by omega : 0 + 1 ≤ 346 + (d + 1)), (by omega : 8 + (3 + 11) + 0 ≤ 13752 + 40 * (d + 1))⟩ ⟨Nat.zero_le _, Nat.zero_le _⟩ rfl rfl (Nat.le_of_ble_eq_true rfl) dX4_readType_93 (wc_D hA cy _) ?_
    refine v_istore C [(5, .int q1.1), (4, .int (σ.1 43 7)), (0, .ref (ad 43)), (1, .int x1), (2, .int x2), (3, .int x3)] dX4_readType_96 (by decide) rfl ?_
    refine v_iload C 0 dX4_readType_98 rfl ?_
    refine v_iconst C (-1) dX4_readType_100 (by decide) ?_
    refine v_icmp_ne C 114 dX4_readType_101 (by decide) (fun c2 => ?_) (fun c2 => ?_)
    · rw [if_neg c2] at h
      refine v_aload_n C 2 dX4_readType_114 rfl rfl ?_
      refine v_aload_n C 2 dX4_readType_115 rfl rfl ?_
      refine c_getS C 38 fl_4_29 rfl rfl (by decide) (okS _ 43 (by decide) rfl) dX4_readType_116 ?_
      refine v_iload C 0 dX4_readType_119 rfl ?_
      refine v_iconst C 0 dX4_readType_121 (by decide) ?_
      obtain ⟨q2, hq2, h⟩ := bd_of h
      refine c_call C [.int q1.1, .int 0] [.ref (ad 43)] (c_Values_typeAt hA _ _ _ hq2) hY_Values_typeAt rfl (by decide) (okS _ 38 (by decide) rfl) ml_4_66 ⟨(by omega : 1 + 1 ≤ 346 + (d + 1)), (by omega : 8 + (3 + 11) + 23 ≤ 13752 + 40 * (d + 1))⟩ ⟨Nat.zero_le _, Nat.zero_le _⟩ rfl rfl (Nat.le_of_ble_eq_true rfl) dX4_readType_122 (wc_D hA cy _) ?_
      refine v_iload_n C 3 dX4_readType_125 rfl rfl ?_
      obtain ⟨q3, hq3, h⟩ := bd_of h
      refine c_call C [.int q2.1, .int x1] [] (hr_checkTerm _ _ _ _ hq3) hY_Reader_checkTerm rfl (by decide) (okS _ 43 (by decide) rfl) ml_4_70 ⟨(by omega : (346 + d) + 1 ≤ 346 + (d + 1)), (by omega : 8 + (7 + 11) + (13752 + 40 * d) ≤ 13752 + 40 * (d + 1))⟩ ⟨Nat.zero_le _, Nat.zero_le _⟩ rfl rfl (Nat.le_of_ble_eq_true rfl) dX4_readType_126 (wc_D hA cy _) ?_
      refine v_istore C [(6, .int q3.1), (5, .int q1.1), (4, .int (σ.1 43 7)), (0, .ref (ad 43)), (1, .int x1), (2, .int x2), (3, .int x3)] dX4_readType_129 (by decide) rfl ?_
      refine v_iload C 0 dX4_readType_131 rfl ?_
      refine v_iconst C (-1) dX4_readType_133 (by decide) ?_
      refine v_icmp_ne C 141 dX4_readType_134 (by decide) (fun c3 => ?_) (fun c3 => ?_)
      · rw [if_neg c3] at h
        refine v_aload_n C 3 dX4_readType_141 rfl rfl ?_
        refine v_iload_n C 5 dX4_readType_142 rfl rfl ?_
        refine v_iload C 0 dX4_readType_143 rfl ?_
        refine v_iconst C (-1) dX4_readType_145 (by decide) ?_
        refine v_iload C 2 dX4_readType_146 rfl ?_
        obtain ⟨q4, hq4, h⟩ := bd_of h
        refine c_call C [.int x2, .int q3.1, .int (-1), .int (σ.1 43 7)] [] (c_Reader_join hA _ _ _ _ _ hq4) hY_Reader_join rfl (by decide) (okS _ 43 (by decide) rfl) ml_4_139 ⟨(by omega : 4 + 1 ≤ 346 + (d + 1)), (by omega : 8 + (6 + 11) + 91 ≤ 13752 + 40 * (d + 1))⟩ ⟨Nat.zero_le _, Nat.zero_le _⟩ rfl rfl (Nat.le_of_ble_eq_true rfl) dX4_readType_148 (wc_D hA cy _) ?_
        exact v_sub [3] rfl ((b_Reader_readType_151 C hA hr_readType hr_readBinder hr_checkTerm hr_readPair hr_readFunction hr_inferTerm hr_readAnnotated hr_readApplied hr_readComponent) _ _ h)
      · rw [if_pos c3] at h
        refine v_iconst C (-1) dX4_readType_137 (by decide) ?_
        refine v_goto C 151 dX4_readType_138 (by decide) ?_
        exact v_sub [3] rfl ((b_Reader_readType_151 C hA hr_readType hr_readBinder hr_checkTerm hr_readPair hr_readFunction hr_inferTerm hr_readAnnotated hr_readApplied hr_readComponent) _ _ h)
    · rw [if_pos c2] at h
      refine v_aload_n C 2 dX4_readType_104 rfl rfl ?_
      refine v_iload_n C 4 dX4_readType_105 rfl rfl ?_
      refine v_iconst C (-1) dX4_readType_106 (by decide) ?_
      refine v_iconst C (-1) dX4_readType_107 (by decide) ?_
      refine v_iload C 1 dX4_readType_108 rfl ?_
      obtain ⟨q5, hq5, h⟩ := bd_of h
      refine c_call C [.int x2, .int (-1), .int (-1), .int (σ.1 43 7)] [] (c_Reader_join hA _ _ _ _ _ hq5) hY_Reader_join rfl (by decide) (okS _ 43 (by decide) rfl) ml_4_139 ⟨(by omega : 4 + 1 ≤ 346 + (d + 1)), (by omega : 8 + (6 + 11) + 91 ≤ 13752 + 40 * (d + 1))⟩ ⟨Nat.zero_le _, Nat.zero_le _⟩ rfl rfl (Nat.le_of_ble_eq_true rfl) dX4_readType_110 (wc_D hA cy _) ?_
      obtain rfl := Option.some.inj h
      exact v_iret C dX4_readType_113
  · rw [if_neg c1] at h
    refine v_aload_n C 1 dX4_readType_79 rfl rfl ?_
    refine v_iload_n C 3 dX4_readType_80 rfl rfl ?_
    refine v_iload C 0 dX4_readType_81 rfl ?_
    refine v_iload_n C 2 dX4_readType_83 rfl rfl ?_
    obtain ⟨q6, hq6, h⟩ := bd_of h
    refine c_call C [.int x2, .int (σ.1 43 7), .int x1] [] (hr_readBinder _ _ _ _ _ hq6) hY_Reader_readBinder rfl (by decide) (okS _ 43 (by decide) rfl) ml_4_133 ⟨(by omega : (346 + d) + 1 ≤ 346 + (d + 1)), (by omega : 8 + (7 + 11) + (13752 + 40 * d) ≤ 13752 + 40 * (d + 1))⟩ ⟨Nat.zero_le _, Nat.zero_le _⟩ rfl rfl (Nat.le_of_ble_eq_true rfl) dX4_readType_84 (wc_D hA cy _) ?_
    obtain rfl := Option.some.inj h
    exact v_iret C dX4_readType_87
set_option maxHeartbeats 4000000 in
set_option maxRecDepth 20000 in
theorem b_Reader_readType_28 {p : Program} {l : Launch} {e : Env} {s : State} {m : MethodId} {args : Array Value} {below : List Frame} {meth : Method} {c : Code} {D : va_G} {cy : Nat → ClassId} {ad : Nat → Nat} {q : Int32 × CS}  {r_readType : Int32 → CS → Option (Int32 × CS)} {r_readBinder : Int32 → Int32 → Int32 → CS → Option (Int32 × CS)} {r_checkTerm : Int32 → Int32 → CS → Option (Int32 × CS)} {r_readPair : Int32 → Int32 → CS → Option (Int32 × CS)} {r_readFunction : Int32 → Int32 → CS → Option (Int32 × CS)} {r_inferTerm : Int32 → CS → Option (Int32 × CS)} {r_readAnnotated : Int32 → CS → Option (Int32 × CS)} {r_readApplied : Int32 → CS → Option (Int32 × CS)} {r_readComponent : Int32 → CS → Option (Int32 × CS)} {d : Nat} (C : vC p s m args meth c cX4_readType 7 (some .int) RX4 D (cyT cy)) (hA : adOK ad) (hr_readType : ∀ (z1 : Int32) (σ : CS) (q : Int32 × CS), r_readType z1 σ = some q → MV l D (cyT cy) (inC ad) yX4_readType cX4_readType 7 (some .int) (346 + d) (13752 + 40 * d) 0 0 [.ref (ad 43), .int z1] (wc cy ad σ) (some (.int q.1)) (wc cy ad q.2)) (hr_readBinder : ∀ (z1 : Int32) (z2 : Int32) (z3 : Int32) (σ : CS) (q : Int32 × CS), r_readBinder z1 z2 z3 σ = some q → MV l D (cyT cy) (inC ad) yX4_readBinder cX4_readBinder 7 (some .int) (346 + d) (13752 + 40 * d) 0 0 [.ref (ad 43), .int z1, .int z2, .int z3] (wc cy ad σ) (some (.int q.1)) (wc cy ad q.2)) (hr_checkTerm : ∀ (z1 : Int32) (z2 : Int32) (σ : CS) (q : Int32 × CS), r_checkTerm z1 z2 σ = some q → MV l D (cyT cy) (inC ad) yX4_checkTerm cX4_checkTerm 7 (some .int) (346 + d) (13752 + 40 * d) 0 0 [.ref (ad 43), .int z1, .int z2] (wc cy ad σ) (some (.int q.1)) (wc cy ad q.2)) (hr_readPair : ∀ (z1 : Int32) (z2 : Int32) (σ : CS) (q : Int32 × CS), r_readPair z1 z2 σ = some q → MV l D (cyT cy) (inC ad) yX4_readPair cX4_readPair 7 (some .int) (346 + d) (13752 + 40 * d) 0 0 [.ref (ad 43), .int z1, .int z2] (wc cy ad σ) (some (.int q.1)) (wc cy ad q.2)) (hr_readFunction : ∀ (z1 : Int32) (z2 : Int32) (σ : CS) (q : Int32 × CS), r_readFunction z1 z2 σ = some q → MV l D (cyT cy) (inC ad) yX4_readFunction cX4_readFunction 6 (some .int) (346 + d) (13752 + 40 * d) 0 0 [.ref (ad 43), .int z1, .int z2] (wc cy ad σ) (some (.int q.1)) (wc cy ad q.2)) (hr_inferTerm : ∀ (z1 : Int32) (σ : CS) (q : Int32 × CS), r_inferTerm z1 σ = some q → MV l D (cyT cy) (inC ad) yX4_inferTerm cX4_inferTerm 4 (some .int) (346 + d) (13752 + 40 * d) 0 0 [.ref (ad 43), .int z1] (wc cy ad σ) (some (.int q.1)) (wc cy ad q.2)) (hr_readAnnotated : ∀ (z1 : Int32) (σ : CS) (q : Int32 × CS), r_readAnnotated z1 σ = some q → MV l D (cyT cy) (inC ad) yX4_readAnnotated cX4_readAnnotated 4 (some .int) (346 + d) (13752 + 40 * d) 0 0 [.ref (ad 43), .int z1] (wc cy ad σ) (some (.int q.1)) (wc cy ad q.2)) (hr_readApplied : ∀ (z1 : Int32) (σ : CS) (q : Int32 × CS), r_readApplied z1 σ = some q → MV l D (cyT cy) (inC ad) yX4_readApplied cX4_readApplied 10 (some .int) (346 + d) (13752 + 40 * d) 0 0 [.ref (ad 43), .int z1] (wc cy ad σ) (some (.int q.1)) (wc cy ad q.2)) (hr_readComponent : ∀ (z1 : Int32) (σ : CS) (q : Int32 × CS), r_readComponent z1 σ = some q → MV l D (cyT cy) (inC ad) yX4_readComponent cX4_readComponent 9 (some .int) (346 + d) (13752 + 40 * d) 0 0 [.ref (ad 43), .int z1] (wc cy ad σ) (some (.int q.1)) (wc cy ad q.2)) : ∀ (x1 : Int32) (x2 : Int32) (s0 : Int32) (σ : CS), B_Reader_readType_28 r_readType r_readBinder r_checkTerm r_readPair r_readFunction r_inferTerm r_readAnnotated r_readApplied r_readComponent x1 x2 s0 σ = some q → V p l e { frames := 346 + (d + 1), cells := 0, slots := 0, locals := 13752 + 40 * (d + 1) } s m args below meth c D (inC ad) 7 (MQ below (vQ D (inC ad) (some (.int q.1)) (wc cy ad q.2)) args s 0 0 (inC ad)) 0 0 (wc cy ad σ) 28 [(0, .ref (ad 43)), (1, .int x1), (2, .int x2)] [.int s0] := by
  intro x1 x2 s0 σ h
  rw [B_Reader_readType_28] at h
  refine v_istore_n C [(3, .int s0), (0, .ref (ad 43)), (1, .int x1), (2, .int x2)] dX4_readType_28 rfl (by decide) rfl ?_
  refine v_iload_n C 3 dX4_readType_29 rfl rfl ?_
  refine v_bipush C 49 dX4_readType_30 (by decide) ?_
  refine v_icmp_eq C 59 dX4_readType_32 (by decide) (fun c1 => ?_) (fun c1 => ?_)
  · rw [if_pos c1] at h
    exact v_sub [1, 2, 3, 0] rfl ((b_Reader_readType_59 C hA hr_readType hr_readBinder hr_checkTerm hr_readPair hr_readFunction hr_inferTerm hr_readAnnotated hr_readApplied hr_readComponent) _ _ _ _ h)
  · rw [if_neg c1] at h
    refine v_iload_n C 0 dX4_readType_35 rfl rfl ?_
    refine v_if_ne C 59 dX4_readType_36 (by decide) (fun c2 => ?_) (fun c2 => ?_)
    · rw [if_neg c2] at h
      exact v_sub [1, 2, 3, 0] rfl ((b_Reader_readType_59 C hA hr_readType hr_readBinder hr_checkTerm hr_readPair hr_readFunction hr_inferTerm hr_readAnnotated hr_readApplied hr_readComponent) _ _ _ _ h)
    · rw [if_pos c2] at h
      refine v_aload_n C 1 dX4_readType_39 rfl rfl ?_
      refine c_getS C 34 fl_4_25 rfl rfl (by decide) (okS _ 43 (by decide) rfl) dX4_readType_40 ?_
      refine v_iload_n C 3 dX4_readType_43 rfl rfl ?_
      obtain ⟨q1, hq1, h⟩ := bd_of h
      refine c_call C [.int x2] [] (c_Signs_isFamily hA _ _ hq1) hY_Signs_isFamily rfl (by decide) (okS _ 34 (by decide) rfl) ml_4_130 ⟨(by omega : 0 + 1 ≤ 346 + (d + 1)), (by omega : 8 + (2 + 11) + 0 ≤ 13752 + 40 * (d + 1))⟩ ⟨Nat.zero_le _, Nat.zero_le _⟩ rfl rfl (Nat.le_of_ble_eq_true rfl) dX4_readType_44 (wc_D hA cy _) ?_
      refine v_if_ne C 59 dX4_readType_47 (by decide) (fun c3 => ?_) (fun c3 => ?_)
      · rw [if_neg c3] at h
        exact v_sub [1, 2, 3, 0] rfl ((b_Reader_readType_59 C hA hr_readType hr_readBinder hr_checkTerm hr_readPair hr_readFunction hr_inferTerm hr_readAnnotated hr_readApplied hr_readComponent) _ _ _ _ h)
      · rw [if_pos c3] at h
        refine v_aload_n C 1 dX4_readType_50 rfl rfl ?_
        refine v_aload_n C 1 dX4_readType_51 rfl rfl ?_
        refine c_getI C fl_4_41 rfl (okS _ 43 (by decide) rfl) dX4_readType_52 ?_
        obtain ⟨q2, hq2, h⟩ := bd_of h
        refine c_call C [.int (q1.2.1 43 7)] [] (c_Reader_refuse hA _ _ hq2) hY_Reader_refuse rfl (by decide) (okS _ 43 (by decide) rfl) ml_4_95 ⟨(by omega : 0 + 1 ≤ 346 + (d + 1)), (by omega : 8 + (2 + 11) + 0 ≤ 13752 + 40 * (d + 1))⟩ ⟨Nat.zero_le _, Nat.zero_le _⟩ rfl rfl (Nat.le_of_ble_eq_true rfl) dX4_readType_55 (wc_D hA cy _) ?_
        obtain rfl := Option.some.inj h
        exact v_iret C dX4_readType_58
set_option maxHeartbeats 4000000 in
set_option maxRecDepth 20000 in
theorem b_Reader_readType_27 {p : Program} {l : Launch} {e : Env} {s : State} {m : MethodId} {args : Array Value} {below : List Frame} {meth : Method} {c : Code} {D : va_G} {cy : Nat → ClassId} {ad : Nat → Nat} {q : Int32 × CS}  {r_readType : Int32 → CS → Option (Int32 × CS)} {r_readBinder : Int32 → Int32 → Int32 → CS → Option (Int32 × CS)} {r_checkTerm : Int32 → Int32 → CS → Option (Int32 × CS)} {r_readPair : Int32 → Int32 → CS → Option (Int32 × CS)} {r_readFunction : Int32 → Int32 → CS → Option (Int32 × CS)} {r_inferTerm : Int32 → CS → Option (Int32 × CS)} {r_readAnnotated : Int32 → CS → Option (Int32 × CS)} {r_readApplied : Int32 → CS → Option (Int32 × CS)} {r_readComponent : Int32 → CS → Option (Int32 × CS)} {d : Nat} (C : vC p s m args meth c cX4_readType 7 (some .int) RX4 D (cyT cy)) (hA : adOK ad) (hr_readType : ∀ (z1 : Int32) (σ : CS) (q : Int32 × CS), r_readType z1 σ = some q → MV l D (cyT cy) (inC ad) yX4_readType cX4_readType 7 (some .int) (346 + d) (13752 + 40 * d) 0 0 [.ref (ad 43), .int z1] (wc cy ad σ) (some (.int q.1)) (wc cy ad q.2)) (hr_readBinder : ∀ (z1 : Int32) (z2 : Int32) (z3 : Int32) (σ : CS) (q : Int32 × CS), r_readBinder z1 z2 z3 σ = some q → MV l D (cyT cy) (inC ad) yX4_readBinder cX4_readBinder 7 (some .int) (346 + d) (13752 + 40 * d) 0 0 [.ref (ad 43), .int z1, .int z2, .int z3] (wc cy ad σ) (some (.int q.1)) (wc cy ad q.2)) (hr_checkTerm : ∀ (z1 : Int32) (z2 : Int32) (σ : CS) (q : Int32 × CS), r_checkTerm z1 z2 σ = some q → MV l D (cyT cy) (inC ad) yX4_checkTerm cX4_checkTerm 7 (some .int) (346 + d) (13752 + 40 * d) 0 0 [.ref (ad 43), .int z1, .int z2] (wc cy ad σ) (some (.int q.1)) (wc cy ad q.2)) (hr_readPair : ∀ (z1 : Int32) (z2 : Int32) (σ : CS) (q : Int32 × CS), r_readPair z1 z2 σ = some q → MV l D (cyT cy) (inC ad) yX4_readPair cX4_readPair 7 (some .int) (346 + d) (13752 + 40 * d) 0 0 [.ref (ad 43), .int z1, .int z2] (wc cy ad σ) (some (.int q.1)) (wc cy ad q.2)) (hr_readFunction : ∀ (z1 : Int32) (z2 : Int32) (σ : CS) (q : Int32 × CS), r_readFunction z1 z2 σ = some q → MV l D (cyT cy) (inC ad) yX4_readFunction cX4_readFunction 6 (some .int) (346 + d) (13752 + 40 * d) 0 0 [.ref (ad 43), .int z1, .int z2] (wc cy ad σ) (some (.int q.1)) (wc cy ad q.2)) (hr_inferTerm : ∀ (z1 : Int32) (σ : CS) (q : Int32 × CS), r_inferTerm z1 σ = some q → MV l D (cyT cy) (inC ad) yX4_inferTerm cX4_inferTerm 4 (some .int) (346 + d) (13752 + 40 * d) 0 0 [.ref (ad 43), .int z1] (wc cy ad σ) (some (.int q.1)) (wc cy ad q.2)) (hr_readAnnotated : ∀ (z1 : Int32) (σ : CS) (q : Int32 × CS), r_readAnnotated z1 σ = some q → MV l D (cyT cy) (inC ad) yX4_readAnnotated cX4_readAnnotated 4 (some .int) (346 + d) (13752 + 40 * d) 0 0 [.ref (ad 43), .int z1] (wc cy ad σ) (some (.int q.1)) (wc cy ad q.2)) (hr_readApplied : ∀ (z1 : Int32) (σ : CS) (q : Int32 × CS), r_readApplied z1 σ = some q → MV l D (cyT cy) (inC ad) yX4_readApplied cX4_readApplied 10 (some .int) (346 + d) (13752 + 40 * d) 0 0 [.ref (ad 43), .int z1] (wc cy ad σ) (some (.int q.1)) (wc cy ad q.2)) (hr_readComponent : ∀ (z1 : Int32) (σ : CS) (q : Int32 × CS), r_readComponent z1 σ = some q → MV l D (cyT cy) (inC ad) yX4_readComponent cX4_readComponent 9 (some .int) (346 + d) (13752 + 40 * d) 0 0 [.ref (ad 43), .int z1] (wc cy ad σ) (some (.int q.1)) (wc cy ad q.2)) {k28 : Int32 → Int32 → Int32 → CS → Option (Int32 × CS)} (hk28 : ∀ (x1 : Int32) (x2 : Int32) (s0 : Int32) (σ : CS), k28 x1 x2 s0 σ = some q → V p l e { frames := 346 + (d + 1), cells := 0, slots := 0, locals := 13752 + 40 * (d + 1) } s m args below meth c D (inC ad) 7 (MQ below (vQ D (inC ad) (some (.int q.1)) (wc cy ad q.2)) args s 0 0 (inC ad)) 0 0 (wc cy ad σ) 28 [(0, .ref (ad 43)), (1, .int x1), (2, .int x2)] [.int s0]) : ∀ (x1 : Int32) (x2 : Int32) (σ : CS), B_Reader_readType_27 r_readType r_readBinder r_checkTerm r_readPair r_readFunction r_inferTerm r_readAnnotated r_readApplied r_readComponent k28 x1 x2 σ = some q → V p l e { frames := 346 + (d + 1), cells := 0, slots := 0, locals := 13752 + 40 * (d + 1) } s m args below meth c D (inC ad) 7 (MQ below (vQ D (inC ad) (some (.int q.1)) (wc cy ad q.2)) args s 0 0 (inC ad)) 0 0 (wc cy ad σ) 27 [(0, .ref (ad 43)), (1, .int x1), (2, .int x2)] [] := by
  intro x1 x2 σ h
  rw [B_Reader_readType_27] at h
  refine v_iconst C 0 dX4_readType_27 (by decide) ?_
  exact v_sub [0, 1, 2] rfl (hk28 _ _ _ _ h)
set_option maxHeartbeats 4000000 in
set_option maxRecDepth 20000 in
theorem b_Reader_readType_17 {p : Program} {l : Launch} {e : Env} {s : State} {m : MethodId} {args : Array Value} {below : List Frame} {meth : Method} {c : Code} {D : va_G} {cy : Nat → ClassId} {ad : Nat → Nat} {q : Int32 × CS}  {r_readType : Int32 → CS → Option (Int32 × CS)} {r_readBinder : Int32 → Int32 → Int32 → CS → Option (Int32 × CS)} {r_checkTerm : Int32 → Int32 → CS → Option (Int32 × CS)} {r_readPair : Int32 → Int32 → CS → Option (Int32 × CS)} {r_readFunction : Int32 → Int32 → CS → Option (Int32 × CS)} {r_inferTerm : Int32 → CS → Option (Int32 × CS)} {r_readAnnotated : Int32 → CS → Option (Int32 × CS)} {r_readApplied : Int32 → CS → Option (Int32 × CS)} {r_readComponent : Int32 → CS → Option (Int32 × CS)} {d : Nat} (C : vC p s m args meth c cX4_readType 7 (some .int) RX4 D (cyT cy)) (hA : adOK ad) (hr_readType : ∀ (z1 : Int32) (σ : CS) (q : Int32 × CS), r_readType z1 σ = some q → MV l D (cyT cy) (inC ad) yX4_readType cX4_readType 7 (some .int) (346 + d) (13752 + 40 * d) 0 0 [.ref (ad 43), .int z1] (wc cy ad σ) (some (.int q.1)) (wc cy ad q.2)) (hr_readBinder : ∀ (z1 : Int32) (z2 : Int32) (z3 : Int32) (σ : CS) (q : Int32 × CS), r_readBinder z1 z2 z3 σ = some q → MV l D (cyT cy) (inC ad) yX4_readBinder cX4_readBinder 7 (some .int) (346 + d) (13752 + 40 * d) 0 0 [.ref (ad 43), .int z1, .int z2, .int z3] (wc cy ad σ) (some (.int q.1)) (wc cy ad q.2)) (hr_checkTerm : ∀ (z1 : Int32) (z2 : Int32) (σ : CS) (q : Int32 × CS), r_checkTerm z1 z2 σ = some q → MV l D (cyT cy) (inC ad) yX4_checkTerm cX4_checkTerm 7 (some .int) (346 + d) (13752 + 40 * d) 0 0 [.ref (ad 43), .int z1, .int z2] (wc cy ad σ) (some (.int q.1)) (wc cy ad q.2)) (hr_readPair : ∀ (z1 : Int32) (z2 : Int32) (σ : CS) (q : Int32 × CS), r_readPair z1 z2 σ = some q → MV l D (cyT cy) (inC ad) yX4_readPair cX4_readPair 7 (some .int) (346 + d) (13752 + 40 * d) 0 0 [.ref (ad 43), .int z1, .int z2] (wc cy ad σ) (some (.int q.1)) (wc cy ad q.2)) (hr_readFunction : ∀ (z1 : Int32) (z2 : Int32) (σ : CS) (q : Int32 × CS), r_readFunction z1 z2 σ = some q → MV l D (cyT cy) (inC ad) yX4_readFunction cX4_readFunction 6 (some .int) (346 + d) (13752 + 40 * d) 0 0 [.ref (ad 43), .int z1, .int z2] (wc cy ad σ) (some (.int q.1)) (wc cy ad q.2)) (hr_inferTerm : ∀ (z1 : Int32) (σ : CS) (q : Int32 × CS), r_inferTerm z1 σ = some q → MV l D (cyT cy) (inC ad) yX4_inferTerm cX4_inferTerm 4 (some .int) (346 + d) (13752 + 40 * d) 0 0 [.ref (ad 43), .int z1] (wc cy ad σ) (some (.int q.1)) (wc cy ad q.2)) (hr_readAnnotated : ∀ (z1 : Int32) (σ : CS) (q : Int32 × CS), r_readAnnotated z1 σ = some q → MV l D (cyT cy) (inC ad) yX4_readAnnotated cX4_readAnnotated 4 (some .int) (346 + d) (13752 + 40 * d) 0 0 [.ref (ad 43), .int z1] (wc cy ad σ) (some (.int q.1)) (wc cy ad q.2)) (hr_readApplied : ∀ (z1 : Int32) (σ : CS) (q : Int32 × CS), r_readApplied z1 σ = some q → MV l D (cyT cy) (inC ad) yX4_readApplied cX4_readApplied 10 (some .int) (346 + d) (13752 + 40 * d) 0 0 [.ref (ad 43), .int z1] (wc cy ad σ) (some (.int q.1)) (wc cy ad q.2)) (hr_readComponent : ∀ (z1 : Int32) (σ : CS) (q : Int32 × CS), r_readComponent z1 σ = some q → MV l D (cyT cy) (inC ad) yX4_readComponent cX4_readComponent 9 (some .int) (346 + d) (13752 + 40 * d) 0 0 [.ref (ad 43), .int z1] (wc cy ad σ) (some (.int q.1)) (wc cy ad q.2)) {k27 : Int32 → Int32 → CS → Option (Int32 × CS)} {k28 : Int32 → Int32 → Int32 → CS → Option (Int32 × CS)} (hk27 : ∀ (x1 : Int32) (x2 : Int32) (σ : CS), k27 x1 x2 σ = some q → V p l e { frames := 346 + (d + 1), cells := 0, slots := 0, locals := 13752 + 40 * (d + 1) } s m args below meth c D (inC ad) 7 (MQ below (vQ D (inC ad) (some (.int q.1)) (wc cy ad q.2)) args s 0 0 (inC ad)) 0 0 (wc cy ad σ) 27 [(0, .ref (ad 43)), (1, .int x1), (2, .int x2)] []) (hk28 : ∀ (x1 : Int32) (x2 : Int32) (s0 : Int32) (σ : CS), k28 x1 x2 s0 σ = some q → V p l e { frames := 346 + (d + 1), cells := 0, slots := 0, locals := 13752 + 40 * (d + 1) } s m args below meth c D (inC ad) 7 (MQ below (vQ D (inC ad) (some (.int q.1)) (wc cy ad q.2)) args s 0 0 (inC ad)) 0 0 (wc cy ad σ) 28 [(0, .ref (ad 43)), (1, .int x1), (2, .int x2)] [.int s0]) : ∀ (x1 : Int32) (x2 : Int32) (σ : CS), B_Reader_readType_17 r_readType r_readBinder r_checkTerm r_readPair r_readFunction r_inferTerm r_readAnnotated r_readApplied r_readComponent k27 k28 x1 x2 σ = some q → V p l e { frames := 346 + (d + 1), cells := 0, slots := 0, locals := 13752 + 40 * (d + 1) } s m args below meth c D (inC ad) 7 (MQ below (vQ D (inC ad) (some (.int q.1)) (wc cy ad q.2)) args s 0 0 (inC ad)) 0 0 (wc cy ad σ) 17 [(0, .ref (ad 43)), (1, .int x1), (2, .int x2)] [] := by
  intro x1 x2 σ h
  rw [B_Reader_readType_17] at h
  refine v_iload_n C 1 dX4_readType_17 rfl rfl ?_
  refine v_bipush C 10 dX4_readType_18 (by decide) ?_
  refine v_icmp_ge C 27 dX4_readType_20 (by decide) (fun c1 => ?_) (fun c1 => ?_)
  · rw [if_pos c1] at h
    exact v_sub [0, 1, 2] rfl (hk27 _ _ _ h)
  · rw [if_neg c1] at h
    refine v_iconst C 1 dX4_readType_23 (by decide) ?_
    refine v_goto C 28 dX4_readType_24 (by decide) ?_
    exact v_sub [0, 1, 2] rfl (hk28 _ _ _ _ h)
set_option maxHeartbeats 4000000 in
set_option maxRecDepth 20000 in
theorem w_Reader_readType {l : Launch} {D : va_G} {cy : Nat → ClassId} {ad : Nat → Nat} {q : Int32 × CS} {r_readType : Int32 → CS → Option (Int32 × CS)} {r_readBinder : Int32 → Int32 → Int32 → CS → Option (Int32 × CS)} {r_checkTerm : Int32 → Int32 → CS → Option (Int32 × CS)} {r_readPair : Int32 → Int32 → CS → Option (Int32 × CS)} {r_readFunction : Int32 → Int32 → CS → Option (Int32 × CS)} {r_inferTerm : Int32 → CS → Option (Int32 × CS)} {r_readAnnotated : Int32 → CS → Option (Int32 × CS)} {r_readApplied : Int32 → CS → Option (Int32 × CS)} {r_readComponent : Int32 → CS → Option (Int32 × CS)} {d : Nat} (hA : adOK ad) (hr_readType : ∀ (z1 : Int32) (σ : CS) (q : Int32 × CS), r_readType z1 σ = some q → MV l D (cyT cy) (inC ad) yX4_readType cX4_readType 7 (some .int) (346 + d) (13752 + 40 * d) 0 0 [.ref (ad 43), .int z1] (wc cy ad σ) (some (.int q.1)) (wc cy ad q.2)) (hr_readBinder : ∀ (z1 : Int32) (z2 : Int32) (z3 : Int32) (σ : CS) (q : Int32 × CS), r_readBinder z1 z2 z3 σ = some q → MV l D (cyT cy) (inC ad) yX4_readBinder cX4_readBinder 7 (some .int) (346 + d) (13752 + 40 * d) 0 0 [.ref (ad 43), .int z1, .int z2, .int z3] (wc cy ad σ) (some (.int q.1)) (wc cy ad q.2)) (hr_checkTerm : ∀ (z1 : Int32) (z2 : Int32) (σ : CS) (q : Int32 × CS), r_checkTerm z1 z2 σ = some q → MV l D (cyT cy) (inC ad) yX4_checkTerm cX4_checkTerm 7 (some .int) (346 + d) (13752 + 40 * d) 0 0 [.ref (ad 43), .int z1, .int z2] (wc cy ad σ) (some (.int q.1)) (wc cy ad q.2)) (hr_readPair : ∀ (z1 : Int32) (z2 : Int32) (σ : CS) (q : Int32 × CS), r_readPair z1 z2 σ = some q → MV l D (cyT cy) (inC ad) yX4_readPair cX4_readPair 7 (some .int) (346 + d) (13752 + 40 * d) 0 0 [.ref (ad 43), .int z1, .int z2] (wc cy ad σ) (some (.int q.1)) (wc cy ad q.2)) (hr_readFunction : ∀ (z1 : Int32) (z2 : Int32) (σ : CS) (q : Int32 × CS), r_readFunction z1 z2 σ = some q → MV l D (cyT cy) (inC ad) yX4_readFunction cX4_readFunction 6 (some .int) (346 + d) (13752 + 40 * d) 0 0 [.ref (ad 43), .int z1, .int z2] (wc cy ad σ) (some (.int q.1)) (wc cy ad q.2)) (hr_inferTerm : ∀ (z1 : Int32) (σ : CS) (q : Int32 × CS), r_inferTerm z1 σ = some q → MV l D (cyT cy) (inC ad) yX4_inferTerm cX4_inferTerm 4 (some .int) (346 + d) (13752 + 40 * d) 0 0 [.ref (ad 43), .int z1] (wc cy ad σ) (some (.int q.1)) (wc cy ad q.2)) (hr_readAnnotated : ∀ (z1 : Int32) (σ : CS) (q : Int32 × CS), r_readAnnotated z1 σ = some q → MV l D (cyT cy) (inC ad) yX4_readAnnotated cX4_readAnnotated 4 (some .int) (346 + d) (13752 + 40 * d) 0 0 [.ref (ad 43), .int z1] (wc cy ad σ) (some (.int q.1)) (wc cy ad q.2)) (hr_readApplied : ∀ (z1 : Int32) (σ : CS) (q : Int32 × CS), r_readApplied z1 σ = some q → MV l D (cyT cy) (inC ad) yX4_readApplied cX4_readApplied 10 (some .int) (346 + d) (13752 + 40 * d) 0 0 [.ref (ad 43), .int z1] (wc cy ad σ) (some (.int q.1)) (wc cy ad q.2)) (hr_readComponent : ∀ (z1 : Int32) (σ : CS) (q : Int32 × CS), r_readComponent z1 σ = some q → MV l D (cyT cy) (inC ad) yX4_readComponent cX4_readComponent 9 (some .int) (346 + d) (13752 + 40 * d) 0 0 [.ref (ad 43), .int z1] (wc cy ad σ) (some (.int q.1)) (wc cy ad q.2)) (x1 : Int32) (σ : CS) (h : F_Reader_readType r_readType r_readBinder r_checkTerm r_readPair r_readFunction r_inferTerm r_readAnnotated r_readApplied r_readComponent x1 σ = some q) : MV l D (cyT cy) (inC ad) yX4_readType cX4_readType 7 (some .int) (346 + (d + 1)) (13752 + 40 * (d + 1)) 0 0 [.ref (ad 43), .int x1] (wc cy ad σ) (some (.int q.1)) (wc cy ad q.2) := by
  refine MV.of (by decide) (wc_D hA cy σ) (Nat.le_of_ble_eq_true rfl) [(0, .ref (ad 43)), (1, .int x1)] rfl ?_
  intro p e s m args below meth c C
  rw [F_Reader_readType] at h
  refine v_aload_n C 0 dX4_readType_0 rfl rfl ?_
  obtain ⟨q1, hq1, h⟩ := bd_of h
  refine c_call C [] [] (c_Reader_peek hA _ hq1) hY_Reader_peek rfl (by decide) (okS _ 43 (by decide) rfl) ml_4_98 ⟨(by omega : 0 + 1 ≤ 346 + (d + 1)), (by omega : 8 + (1 + 11) + 0 ≤ 13752 + 40 * (d + 1))⟩ ⟨Nat.zero_le _, Nat.zero_le _⟩ rfl rfl (Nat.le_of_ble_eq_true rfl) dX4_readType_1 (wc_D hA cy _) ?_
  refine v_istore_n C [(2, .int q1.1), (0, .ref (ad 43)), (1, .int x1)] dX4_readType_4 rfl (by decide) rfl ?_
  refine v_iload_n C 0 dX4_readType_5 rfl rfl ?_
  refine v_bipush C 83 dX4_readType_6 (by decide) ?_
  refine v_icmp_eq C 17 dX4_readType_8 (by decide) (fun c1 => ?_) (fun c1 => ?_)
  · rw [if_pos c1] at h
    exact v_sub [1, 2, 0] rfl ((b_Reader_readType_17 C hA hr_readType hr_readBinder hr_checkTerm hr_readPair hr_readFunction hr_inferTerm hr_readAnnotated hr_readApplied hr_readComponent (b_Reader_readType_27 C hA hr_readType hr_readBinder hr_checkTerm hr_readPair hr_readFunction hr_inferTerm hr_readAnnotated hr_readApplied hr_readComponent (b_Reader_readType_28 C hA hr_readType hr_readBinder hr_checkTerm hr_readPair hr_readFunction hr_inferTerm hr_readAnnotated hr_readApplied hr_readComponent)) (b_Reader_readType_28 C hA hr_readType hr_readBinder hr_checkTerm hr_readPair hr_readFunction hr_inferTerm hr_readAnnotated hr_readApplied hr_readComponent)) _ _ _ h)
  · rw [if_neg c1] at h
    refine v_iload_n C 0 dX4_readType_11 rfl rfl ?_
    refine v_bipush C 80 dX4_readType_12 (by decide) ?_
    refine v_icmp_ne C 27 dX4_readType_14 (by decide) (fun c2 => ?_) (fun c2 => ?_)
    · rw [if_neg c2] at h
      exact v_sub [1, 2, 0] rfl ((b_Reader_readType_27 C hA hr_readType hr_readBinder hr_checkTerm hr_readPair hr_readFunction hr_inferTerm hr_readAnnotated hr_readApplied hr_readComponent (b_Reader_readType_28 C hA hr_readType hr_readBinder hr_checkTerm hr_readPair hr_readFunction hr_inferTerm hr_readAnnotated hr_readApplied hr_readComponent)) _ _ _ h)
    · rw [if_pos c2] at h
      exact v_sub [1, 2, 0] rfl ((b_Reader_readType_17 C hA hr_readType hr_readBinder hr_checkTerm hr_readPair hr_readFunction hr_inferTerm hr_readAnnotated hr_readApplied hr_readComponent (b_Reader_readType_27 C hA hr_readType hr_readBinder hr_checkTerm hr_readPair hr_readFunction hr_inferTerm hr_readAnnotated hr_readApplied hr_readComponent (b_Reader_readType_28 C hA hr_readType hr_readBinder hr_checkTerm hr_readPair hr_readFunction hr_inferTerm hr_readAnnotated hr_readApplied hr_readComponent)) (b_Reader_readType_28 C hA hr_readType hr_readBinder hr_checkTerm hr_readPair hr_readFunction hr_inferTerm hr_readAnnotated hr_readApplied hr_readComponent)) _ _ _ h)
set_option maxHeartbeats 4000000 in
set_option maxRecDepth 20000 in
theorem b_Reader_readBinder_95 {p : Program} {l : Launch} {e : Env} {s : State} {m : MethodId} {args : Array Value} {below : List Frame} {meth : Method} {c : Code} {D : va_G} {cy : Nat → ClassId} {ad : Nat → Nat} {q : Int32 × CS}  {r_readType : Int32 → CS → Option (Int32 × CS)} {r_readBinder : Int32 → Int32 → Int32 → CS → Option (Int32 × CS)} {r_checkTerm : Int32 → Int32 → CS → Option (Int32 × CS)} {r_readPair : Int32 → Int32 → CS → Option (Int32 × CS)} {r_readFunction : Int32 → Int32 → CS → Option (Int32 × CS)} {r_inferTerm : Int32 → CS → Option (Int32 × CS)} {r_readAnnotated : Int32 → CS → Option (Int32 × CS)} {r_readApplied : Int32 → CS → Option (Int32 × CS)} {r_readComponent : Int32 → CS → Option (Int32 × CS)} {d : Nat} (C : vC p s m args meth c cX4_readBinder 7 (some .int) RX4 D (cyT cy)) (hA : adOK ad) (hr_readType : ∀ (z1 : Int32) (σ : CS) (q : Int32 × CS), r_readType z1 σ = some q → MV l D (cyT cy) (inC ad) yX4_readType cX4_readType 7 (some .int) (346 + d) (13752 + 40 * d) 0 0 [.ref (ad 43), .int z1] (wc cy ad σ) (some (.int q.1)) (wc cy ad q.2)) (hr_readBinder : ∀ (z1 : Int32) (z2 : Int32) (z3 : Int32) (σ : CS) (q : Int32 × CS), r_readBinder z1 z2 z3 σ = some q → MV l D (cyT cy) (inC ad) yX4_readBinder cX4_readBinder 7 (some .int) (346 + d) (13752 + 40 * d) 0 0 [.ref (ad 43), .int z1, .int z2, .int z3] (wc cy ad σ) (some (.int q.1)) (wc cy ad q.2)) (hr_checkTerm : ∀ (z1 : Int32) (z2 : Int32) (σ : CS) (q : Int32 × CS), r_checkTerm z1 z2 σ = some q → MV l D (cyT cy) (inC ad) yX4_checkTerm cX4_checkTerm 7 (some .int) (346 + d) (13752 + 40 * d) 0 0 [.ref (ad 43), .int z1, .int z2] (wc cy ad σ) (some (.int q.1)) (wc cy ad q.2)) (hr_readPair : ∀ (z1 : Int32) (z2 : Int32) (σ : CS) (q : Int32 × CS), r_readPair z1 z2 σ = some q → MV l D (cyT cy) (inC ad) yX4_readPair cX4_readPair 7 (some .int) (346 + d) (13752 + 40 * d) 0 0 [.ref (ad 43), .int z1, .int z2] (wc cy ad σ) (some (.int q.1)) (wc cy ad q.2)) (hr_readFunction : ∀ (z1 : Int32) (z2 : Int32) (σ : CS) (q : Int32 × CS), r_readFunction z1 z2 σ = some q → MV l D (cyT cy) (inC ad) yX4_readFunction cX4_readFunction 6 (some .int) (346 + d) (13752 + 40 * d) 0 0 [.ref (ad 43), .int z1, .int z2] (wc cy ad σ) (some (.int q.1)) (wc cy ad q.2)) (hr_inferTerm : ∀ (z1 : Int32) (σ : CS) (q : Int32 × CS), r_inferTerm z1 σ = some q → MV l D (cyT cy) (inC ad) yX4_inferTerm cX4_inferTerm 4 (some .int) (346 + d) (13752 + 40 * d) 0 0 [.ref (ad 43), .int z1] (wc cy ad σ) (some (.int q.1)) (wc cy ad q.2)) (hr_readAnnotated : ∀ (z1 : Int32) (σ : CS) (q : Int32 × CS), r_readAnnotated z1 σ = some q → MV l D (cyT cy) (inC ad) yX4_readAnnotated cX4_readAnnotated 4 (some .int) (346 + d) (13752 + 40 * d) 0 0 [.ref (ad 43), .int z1] (wc cy ad σ) (some (.int q.1)) (wc cy ad q.2)) (hr_readApplied : ∀ (z1 : Int32) (σ : CS) (q : Int32 × CS), r_readApplied z1 σ = some q → MV l D (cyT cy) (inC ad) yX4_readApplied cX4_readApplied 10 (some .int) (346 + d) (13752 + 40 * d) 0 0 [.ref (ad 43), .int z1] (wc cy ad σ) (some (.int q.1)) (wc cy ad q.2)) (hr_readComponent : ∀ (z1 : Int32) (σ : CS) (q : Int32 × CS), r_readComponent z1 σ = some q → MV l D (cyT cy) (inC ad) yX4_readComponent cX4_readComponent 9 (some .int) (346 + d) (13752 + 40 * d) 0 0 [.ref (ad 43), .int z1] (wc cy ad σ) (some (.int q.1)) (wc cy ad q.2)) : ∀ (s0 : Int32) (σ : CS), B_Reader_readBinder_95 r_readType r_readBinder r_checkTerm r_readPair r_readFunction r_inferTerm r_readAnnotated r_readApplied r_readComponent s0 σ = some q → V p l e { frames := 346 + (d + 1), cells := 0, slots := 0, locals := 13752 + 40 * (d + 1) } s m args below meth c D (inC ad) 7 (MQ below (vQ D (inC ad) (some (.int q.1)) (wc cy ad q.2)) args s 0 0 (inC ad)) 0 0 (wc cy ad σ) 95 [(0, .ref (ad 43))] [.int s0] := by
  intro s0 σ h
  rw [B_Reader_readBinder_95] at h
  obtain rfl := Option.some.inj h
  exact v_iret C dX4_readBinder_95
set_option maxHeartbeats 4000000 in
set_option maxRecDepth 20000 in
theorem b_Reader_readBinder_46 {p : Program} {l : Launch} {e : Env} {s : State} {m : MethodId} {args : Array Value} {below : List Frame} {meth : Method} {c : Code} {D : va_G} {cy : Nat → ClassId} {ad : Nat → Nat} {q : Int32 × CS}  {r_readType : Int32 → CS → Option (Int32 × CS)} {r_readBinder : Int32 → Int32 → Int32 → CS → Option (Int32 × CS)} {r_checkTerm : Int32 → Int32 → CS → Option (Int32 × CS)} {r_readPair : Int32 → Int32 → CS → Option (Int32 × CS)} {r_readFunction : Int32 → Int32 → CS → Option (Int32 × CS)} {r_inferTerm : Int32 → CS → Option (Int32 × CS)} {r_readAnnotated : Int32 → CS → Option (Int32 × CS)} {r_readApplied : Int32 → CS → Option (Int32 × CS)} {r_readComponent : Int32 → CS → Option (Int32 × CS)} {d : Nat} (C : vC p s m args meth c cX4_readBinder 7 (some .int) RX4 D (cyT cy)) (hA : adOK ad) (hr_readType : ∀ (z1 : Int32) (σ : CS) (q : Int32 × CS), r_readType z1 σ = some q → MV l D (cyT cy) (inC ad) yX4_readType cX4_readType 7 (some .int) (346 + d) (13752 + 40 * d) 0 0 [.ref (ad 43), .int z1] (wc cy ad σ) (some (.int q.1)) (wc cy ad q.2)) (hr_readBinder : ∀ (z1 : Int32) (z2 : Int32) (z3 : Int32) (σ : CS) (q : Int32 × CS), r_readBinder z1 z2 z3 σ = some q → MV l D (cyT cy) (inC ad) yX4_readBinder cX4_readBinder 7 (some .int) (346 + d) (13752 + 40 * d) 0 0 [.ref (ad 43), .int z1, .int z2, .int z3] (wc cy ad σ) (some (.int q.1)) (wc cy ad q.2)) (hr_checkTerm : ∀ (z1 : Int32) (z2 : Int32) (σ : CS) (q : Int32 × CS), r_checkTerm z1 z2 σ = some q → MV l D (cyT cy) (inC ad) yX4_checkTerm cX4_checkTerm 7 (some .int) (346 + d) (13752 + 40 * d) 0 0 [.ref (ad 43), .int z1, .int z2] (wc cy ad σ) (some (.int q.1)) (wc cy ad q.2)) (hr_readPair : ∀ (z1 : Int32) (z2 : Int32) (σ : CS) (q : Int32 × CS), r_readPair z1 z2 σ = some q → MV l D (cyT cy) (inC ad) yX4_readPair cX4_readPair 7 (some .int) (346 + d) (13752 + 40 * d) 0 0 [.ref (ad 43), .int z1, .int z2] (wc cy ad σ) (some (.int q.1)) (wc cy ad q.2)) (hr_readFunction : ∀ (z1 : Int32) (z2 : Int32) (σ : CS) (q : Int32 × CS), r_readFunction z1 z2 σ = some q → MV l D (cyT cy) (inC ad) yX4_readFunction cX4_readFunction 6 (some .int) (346 + d) (13752 + 40 * d) 0 0 [.ref (ad 43), .int z1, .int z2] (wc cy ad σ) (some (.int q.1)) (wc cy ad q.2)) (hr_inferTerm : ∀ (z1 : Int32) (σ : CS) (q : Int32 × CS), r_inferTerm z1 σ = some q → MV l D (cyT cy) (inC ad) yX4_inferTerm cX4_inferTerm 4 (some .int) (346 + d) (13752 + 40 * d) 0 0 [.ref (ad 43), .int z1] (wc cy ad σ) (some (.int q.1)) (wc cy ad q.2)) (hr_readAnnotated : ∀ (z1 : Int32) (σ : CS) (q : Int32 × CS), r_readAnnotated z1 σ = some q → MV l D (cyT cy) (inC ad) yX4_readAnnotated cX4_readAnnotated 4 (some .int) (346 + d) (13752 + 40 * d) 0 0 [.ref (ad 43), .int z1] (wc cy ad σ) (some (.int q.1)) (wc cy ad q.2)) (hr_readApplied : ∀ (z1 : Int32) (σ : CS) (q : Int32 × CS), r_readApplied z1 σ = some q → MV l D (cyT cy) (inC ad) yX4_readApplied cX4_readApplied 10 (some .int) (346 + d) (13752 + 40 * d) 0 0 [.ref (ad 43), .int z1] (wc cy ad σ) (some (.int q.1)) (wc cy ad q.2)) (hr_readComponent : ∀ (z1 : Int32) (σ : CS) (q : Int32 × CS), r_readComponent z1 σ = some q → MV l D (cyT cy) (inC ad) yX4_readComponent cX4_readComponent 9 (some .int) (346 + d) (13752 + 40 * d) 0 0 [.ref (ad 43), .int z1] (wc cy ad σ) (some (.int q.1)) (wc cy ad q.2)) : ∀ (x1 : Int32) (x2 : Int32) (x3 : Int32) (x5 : Int32) (σ : CS), B_Reader_readBinder_46 r_readType r_readBinder r_checkTerm r_readPair r_readFunction r_inferTerm r_readAnnotated r_readApplied r_readComponent x1 x2 x3 x5 σ = some q → V p l e { frames := 346 + (d + 1), cells := 0, slots := 0, locals := 13752 + 40 * (d + 1) } s m args below meth c D (inC ad) 7 (MQ below (vQ D (inC ad) (some (.int q.1)) (wc cy ad q.2)) args s 0 0 (inC ad)) 0 0 (wc cy ad σ) 46 [(0, .ref (ad 43)), (1, .int x1), (2, .int x2), (3, .int x3), (5, .int x5)] [] := by
  intro x1 x2 x3 x5 σ h
  rw [B_Reader_readBinder_46] at h
  refine v_aload_n C 0 dX4_readBinder_46 rfl rfl ?_
  refine v_aload_n C 0 dX4_readBinder_47 rfl rfl ?_
  refine c_getS C 38 fl_4_29 rfl rfl (by decide) (okS _ 43 (by decide) rfl) dX4_readBinder_48 ?_
  refine v_iload C 4 dX4_readBinder_51 rfl ?_
  refine v_aload_n C 0 dX4_readBinder_53 rfl rfl ?_
  refine v_iload_n C 3 dX4_readBinder_54 rfl rfl ?_
  obtain ⟨q1, hq1, h⟩ := bd_of h
  refine c_call C [.int x3] [.int x5, .ref (ad 38), .ref (ad 43)] (c_Reader_scope hA _ _ hq1) hY_Reader_scope rfl (by decide) (okS _ 43 (by decide) rfl) ml_4_142 ⟨(by omega : 0 + 1 ≤ 346 + (d + 1)), (by omega : 8 + (2 + 11) + 0 ≤ 13752 + 40 * (d + 1))⟩ ⟨Nat.zero_le _, Nat.zero_le _⟩ rfl rfl (Nat.le_of_ble_eq_true rfl) dX4_readBinder_55 (wc_D hA cy _) ?_
  obtain ⟨q2, hq2, h⟩ := bd_of h
  refine c_call C [.int x5, .int q1.1] [.ref (ad 43)] (c_Values_typeAt hA _ _ _ hq2) hY_Values_typeAt rfl (by decide) (okS _ 38 (by decide) rfl) ml_4_66 ⟨(by omega : 1 + 1 ≤ 346 + (d + 1)), (by omega : 8 + (3 + 11) + 23 ≤ 13752 + 40 * (d + 1))⟩ ⟨Nat.zero_le _, Nat.zero_le _⟩ rfl rfl (Nat.le_of_ble_eq_true rfl) dX4_readBinder_58 (wc_D hA cy _) ?_
  refine v_iload_n C 3 dX4_readBinder_61 rfl rfl ?_
  obtain ⟨q3, hq3, h⟩ := bd_of h
  refine c_call C [.int q2.1, .int x3] [] (c_Reader_bind hA _ _ _ hq3) hY_Reader_bind rfl (by decide) (okS _ 43 (by decide) rfl) ml_4_145 ⟨(by omega : 2 + 1 ≤ 346 + (d + 1)), (by omega : 8 + (4 + 11) + 45 ≤ 13752 + 40 * (d + 1))⟩ ⟨Nat.zero_le _, Nat.zero_le _⟩ rfl rfl (Nat.le_of_ble_eq_true rfl) dX4_readBinder_62 (wc_D hA cy _) ?_
  refine v_pop C dX4_readBinder_65 rfl ?_
  refine v_aload_n C 0 dX4_readBinder_66 rfl rfl ?_
  refine v_iload_n C 3 dX4_readBinder_67 rfl rfl ?_
  refine v_iconst C 1 dX4_readBinder_68 (by decide) ?_
  refine v_iadd C dX4_readBinder_69 ?_
  obtain ⟨q4, hq4, h⟩ := bd_of h
  refine c_call C [.int (x3 + 1)] [] (hr_readType _ _ _ hq4) hY_Reader_readType rfl (by decide) (okS _ 43 (by decide) rfl) ml_4_59 ⟨(by omega : (346 + d) + 1 ≤ 346 + (d + 1)), (by omega : 8 + (7 + 11) + (13752 + 40 * d) ≤ 13752 + 40 * (d + 1))⟩ ⟨Nat.zero_le _, Nat.zero_le _⟩ rfl rfl (Nat.le_of_ble_eq_true rfl) dX4_readBinder_70 (wc_D hA cy _) ?_
  refine v_istore C [(6, .int q4.1), (0, .ref (ad 43)), (1, .int x1), (2, .int x2), (3, .int x3), (5, .int x5)] dX4_readBinder_73 (by decide) rfl ?_
  refine v_iload C 0 dX4_readBinder_75 rfl ?_
  refine v_iconst C (-1) dX4_readBinder_77 (by decide) ?_
  refine v_icmp_ne C 85 dX4_readBinder_78 (by decide) (fun c1 => ?_) (fun c1 => ?_)
  · rw [if_neg c1] at h
    refine v_aload_n C 1 dX4_readBinder_85 rfl rfl ?_
    refine v_iload_n C 2 dX4_readBinder_86 rfl rfl ?_
    refine v_iload C 5 dX4_readBinder_87 rfl ?_
    refine v_iload C 0 dX4_readBinder_89 rfl ?_
    refine v_iload_n C 3 dX4_readBinder_91 rfl rfl ?_
    obtain ⟨q5, hq5, h⟩ := bd_of h
    refine c_call C [.int x1, .int x5, .int q4.1, .int x2] [] (c_Reader_join hA _ _ _ _ _ hq5) hY_Reader_join rfl (by decide) (okS _ 43 (by decide) rfl) ml_4_139 ⟨(by omega : 4 + 1 ≤ 346 + (d + 1)), (by omega : 8 + (6 + 11) + 91 ≤ 13752 + 40 * (d + 1))⟩ ⟨Nat.zero_le _, Nat.zero_le _⟩ rfl rfl (Nat.le_of_ble_eq_true rfl) dX4_readBinder_92 (wc_D hA cy _) ?_
    exact v_sub [1] rfl ((b_Reader_readBinder_95 C hA hr_readType hr_readBinder hr_checkTerm hr_readPair hr_readFunction hr_inferTerm hr_readAnnotated hr_readApplied hr_readComponent) _ _ h)
  · rw [if_pos c1] at h
    refine v_iconst C (-1) dX4_readBinder_81 (by decide) ?_
    refine v_goto C 95 dX4_readBinder_82 (by decide) ?_
    exact v_sub [1] rfl ((b_Reader_readBinder_95 C hA hr_readType hr_readBinder hr_checkTerm hr_readPair hr_readFunction hr_inferTerm hr_readAnnotated hr_readApplied hr_readComponent) _ _ h)
set_option maxHeartbeats 4000000 in
set_option maxRecDepth 20000 in
theorem w_Reader_readBinder {l : Launch} {D : va_G} {cy : Nat → ClassId} {ad : Nat → Nat} {q : Int32 × CS} {r_readType : Int32 → CS → Option (Int32 × CS)} {r_readBinder : Int32 → Int32 → Int32 → CS → Option (Int32 × CS)} {r_checkTerm : Int32 → Int32 → CS → Option (Int32 × CS)} {r_readPair : Int32 → Int32 → CS → Option (Int32 × CS)} {r_readFunction : Int32 → Int32 → CS → Option (Int32 × CS)} {r_inferTerm : Int32 → CS → Option (Int32 × CS)} {r_readAnnotated : Int32 → CS → Option (Int32 × CS)} {r_readApplied : Int32 → CS → Option (Int32 × CS)} {r_readComponent : Int32 → CS → Option (Int32 × CS)} {d : Nat} (hA : adOK ad) (hr_readType : ∀ (z1 : Int32) (σ : CS) (q : Int32 × CS), r_readType z1 σ = some q → MV l D (cyT cy) (inC ad) yX4_readType cX4_readType 7 (some .int) (346 + d) (13752 + 40 * d) 0 0 [.ref (ad 43), .int z1] (wc cy ad σ) (some (.int q.1)) (wc cy ad q.2)) (hr_readBinder : ∀ (z1 : Int32) (z2 : Int32) (z3 : Int32) (σ : CS) (q : Int32 × CS), r_readBinder z1 z2 z3 σ = some q → MV l D (cyT cy) (inC ad) yX4_readBinder cX4_readBinder 7 (some .int) (346 + d) (13752 + 40 * d) 0 0 [.ref (ad 43), .int z1, .int z2, .int z3] (wc cy ad σ) (some (.int q.1)) (wc cy ad q.2)) (hr_checkTerm : ∀ (z1 : Int32) (z2 : Int32) (σ : CS) (q : Int32 × CS), r_checkTerm z1 z2 σ = some q → MV l D (cyT cy) (inC ad) yX4_checkTerm cX4_checkTerm 7 (some .int) (346 + d) (13752 + 40 * d) 0 0 [.ref (ad 43), .int z1, .int z2] (wc cy ad σ) (some (.int q.1)) (wc cy ad q.2)) (hr_readPair : ∀ (z1 : Int32) (z2 : Int32) (σ : CS) (q : Int32 × CS), r_readPair z1 z2 σ = some q → MV l D (cyT cy) (inC ad) yX4_readPair cX4_readPair 7 (some .int) (346 + d) (13752 + 40 * d) 0 0 [.ref (ad 43), .int z1, .int z2] (wc cy ad σ) (some (.int q.1)) (wc cy ad q.2)) (hr_readFunction : ∀ (z1 : Int32) (z2 : Int32) (σ : CS) (q : Int32 × CS), r_readFunction z1 z2 σ = some q → MV l D (cyT cy) (inC ad) yX4_readFunction cX4_readFunction 6 (some .int) (346 + d) (13752 + 40 * d) 0 0 [.ref (ad 43), .int z1, .int z2] (wc cy ad σ) (some (.int q.1)) (wc cy ad q.2)) (hr_inferTerm : ∀ (z1 : Int32) (σ : CS) (q : Int32 × CS), r_inferTerm z1 σ = some q → MV l D (cyT cy) (inC ad) yX4_inferTerm cX4_inferTerm 4 (some .int) (346 + d) (13752 + 40 * d) 0 0 [.ref (ad 43), .int z1] (wc cy ad σ) (some (.int q.1)) (wc cy ad q.2)) (hr_readAnnotated : ∀ (z1 : Int32) (σ : CS) (q : Int32 × CS), r_readAnnotated z1 σ = some q → MV l D (cyT cy) (inC ad) yX4_readAnnotated cX4_readAnnotated 4 (some .int) (346 + d) (13752 + 40 * d) 0 0 [.ref (ad 43), .int z1] (wc cy ad σ) (some (.int q.1)) (wc cy ad q.2)) (hr_readApplied : ∀ (z1 : Int32) (σ : CS) (q : Int32 × CS), r_readApplied z1 σ = some q → MV l D (cyT cy) (inC ad) yX4_readApplied cX4_readApplied 10 (some .int) (346 + d) (13752 + 40 * d) 0 0 [.ref (ad 43), .int z1] (wc cy ad σ) (some (.int q.1)) (wc cy ad q.2)) (hr_readComponent : ∀ (z1 : Int32) (σ : CS) (q : Int32 × CS), r_readComponent z1 σ = some q → MV l D (cyT cy) (inC ad) yX4_readComponent cX4_readComponent 9 (some .int) (346 + d) (13752 + 40 * d) 0 0 [.ref (ad 43), .int z1] (wc cy ad σ) (some (.int q.1)) (wc cy ad q.2)) (x1 : Int32) (x2 : Int32) (x3 : Int32) (σ : CS) (h : F_Reader_readBinder r_readType r_readBinder r_checkTerm r_readPair r_readFunction r_inferTerm r_readAnnotated r_readApplied r_readComponent x1 x2 x3 σ = some q) : MV l D (cyT cy) (inC ad) yX4_readBinder cX4_readBinder 7 (some .int) (346 + (d + 1)) (13752 + 40 * (d + 1)) 0 0 [.ref (ad 43), .int x1, .int x2, .int x3] (wc cy ad σ) (some (.int q.1)) (wc cy ad q.2) := by
  refine MV.of (by decide) (wc_D hA cy σ) (Nat.le_of_ble_eq_true rfl) [(0, .ref (ad 43)), (1, .int x1), (2, .int x2), (3, .int x3)] rfl ?_
  intro p e s m args below meth c C
  rw [F_Reader_readBinder] at h
  refine v_aload_n C 0 dX4_readBinder_0 rfl rfl ?_
  refine c_getI C fl_4_41 rfl (okS _ 43 (by decide) rfl) dX4_readBinder_1 ?_
  refine v_istore C [(4, .int (σ.1 43 7)), (0, .ref (ad 43)), (1, .int x1), (2, .int x2), (3, .int x3)] dX4_readBinder_4 (by decide) rfl ?_
  refine v_aload_n C 1 dX4_readBinder_6 rfl rfl ?_
  refine v_iload_n C 4 dX4_readBinder_7 rfl rfl ?_
  obtain ⟨q1, hq1, h⟩ := bd_of h
  refine c_call C [.int x3] [] (hr_readType _ _ _ hq1) hY_Reader_readType rfl (by decide) (okS _ 43 (by decide) rfl) ml_4_59 ⟨(by omega : (346 + d) + 1 ≤ 346 + (d + 1)), (by omega : 8 + (7 + 11) + (13752 + 40 * d) ≤ 13752 + 40 * (d + 1))⟩ ⟨Nat.zero_le _, Nat.zero_le _⟩ rfl rfl (Nat.le_of_ble_eq_true rfl) dX4_readBinder_8 (wc_D hA cy _) ?_
  refine v_istore C [(5, .int q1.1), (4, .int (σ.1 43 7)), (0, .ref (ad 43)), (1, .int x1), (2, .int x2), (3, .int x3)] dX4_readBinder_11 (by decide) rfl ?_
  refine v_iload C 0 dX4_readBinder_13 rfl ?_
  refine v_iconst C (-1) dX4_readBinder_15 (by decide) ?_
  refine v_icmp_ne C 21 dX4_readBinder_16 (by decide) (fun c1 => ?_) (fun c1 => ?_)
  · rw [if_neg c1] at h
    refine v_iload_n C 3 dX4_readBinder_21 rfl rfl ?_
    refine v_bipush C 80 dX4_readBinder_22 (by decide) ?_
    refine v_icmp_ne C 46 dX4_readBinder_24 (by decide) (fun c2 => ?_) (fun c2 => ?_)
    · rw [if_neg c2] at h
      exact v_sub [2, 3, 4, 5, 0] rfl ((b_Reader_readBinder_46 C hA hr_readType hr_readBinder hr_checkTerm hr_readPair hr_readFunction hr_inferTerm hr_readAnnotated hr_readApplied hr_readComponent) _ _ _ _ _ h)
    · rw [if_pos c2] at h
      refine v_aload_n C 2 dX4_readBinder_27 rfl rfl ?_
      refine c_getS C 34 fl_4_25 rfl rfl (by decide) (okS _ 43 (by decide) rfl) dX4_readBinder_28 ?_
      refine v_iload C 0 dX4_readBinder_31 rfl ?_
      obtain ⟨q2, hq2, h⟩ := bd_of h
      refine c_call C [.int q1.1] [] (c_Signs_isData hA _ _ hq2) hY_Signs_isData rfl (by decide) (okS _ 34 (by decide) rfl) ml_4_108 ⟨(by omega : 2 + 1 ≤ 346 + (d + 1)), (by omega : 8 + (4 + 11) + 45 ≤ 13752 + 40 * (d + 1))⟩ ⟨Nat.zero_le _, Nat.zero_le _⟩ rfl rfl (Nat.le_of_ble_eq_true rfl) dX4_readBinder_33 (wc_D hA cy _) ?_
      refine v_if_ne C 46 dX4_readBinder_36 (by decide) (fun c3 => ?_) (fun c3 => ?_)
      · rw [if_neg c3] at h
        exact v_sub [2, 3, 4, 5, 0] rfl ((b_Reader_readBinder_46 C hA hr_readType hr_readBinder hr_checkTerm hr_readPair hr_readFunction hr_inferTerm hr_readAnnotated hr_readApplied hr_readComponent) _ _ _ _ _ h)
      · rw [if_pos c3] at h
        refine v_aload_n C 2 dX4_readBinder_39 rfl rfl ?_
        refine v_iload C 1 dX4_readBinder_40 rfl ?_
        obtain ⟨q3, hq3, h⟩ := bd_of h
        refine c_call C [.int (σ.1 43 7)] [] (c_Reader_refuse hA _ _ hq3) hY_Reader_refuse rfl (by decide) (okS _ 43 (by decide) rfl) ml_4_95 ⟨(by omega : 0 + 1 ≤ 346 + (d + 1)), (by omega : 8 + (2 + 11) + 0 ≤ 13752 + 40 * (d + 1))⟩ ⟨Nat.zero_le _, Nat.zero_le _⟩ rfl rfl (Nat.le_of_ble_eq_true rfl) dX4_readBinder_42 (wc_D hA cy _) ?_
        obtain rfl := Option.some.inj h
        exact v_iret C dX4_readBinder_45
  · rw [if_pos c1] at h
    refine v_iconst C (-1) dX4_readBinder_19 (by decide) ?_
    obtain rfl := Option.some.inj h
    exact v_iret C dX4_readBinder_20
set_option maxHeartbeats 4000000 in
set_option maxRecDepth 20000 in
theorem b_Reader_checkTerm_187 {p : Program} {l : Launch} {e : Env} {s : State} {m : MethodId} {args : Array Value} {below : List Frame} {meth : Method} {c : Code} {D : va_G} {cy : Nat → ClassId} {ad : Nat → Nat} {q : Int32 × CS}  {r_readType : Int32 → CS → Option (Int32 × CS)} {r_readBinder : Int32 → Int32 → Int32 → CS → Option (Int32 × CS)} {r_checkTerm : Int32 → Int32 → CS → Option (Int32 × CS)} {r_readPair : Int32 → Int32 → CS → Option (Int32 × CS)} {r_readFunction : Int32 → Int32 → CS → Option (Int32 × CS)} {r_inferTerm : Int32 → CS → Option (Int32 × CS)} {r_readAnnotated : Int32 → CS → Option (Int32 × CS)} {r_readApplied : Int32 → CS → Option (Int32 × CS)} {r_readComponent : Int32 → CS → Option (Int32 × CS)} {d : Nat} (C : vC p s m args meth c cX4_checkTerm 7 (some .int) RX4 D (cyT cy)) (hA : adOK ad) (hr_readType : ∀ (z1 : Int32) (σ : CS) (q : Int32 × CS), r_readType z1 σ = some q → MV l D (cyT cy) (inC ad) yX4_readType cX4_readType 7 (some .int) (346 + d) (13752 + 40 * d) 0 0 [.ref (ad 43), .int z1] (wc cy ad σ) (some (.int q.1)) (wc cy ad q.2)) (hr_readBinder : ∀ (z1 : Int32) (z2 : Int32) (z3 : Int32) (σ : CS) (q : Int32 × CS), r_readBinder z1 z2 z3 σ = some q → MV l D (cyT cy) (inC ad) yX4_readBinder cX4_readBinder 7 (some .int) (346 + d) (13752 + 40 * d) 0 0 [.ref (ad 43), .int z1, .int z2, .int z3] (wc cy ad σ) (some (.int q.1)) (wc cy ad q.2)) (hr_checkTerm : ∀ (z1 : Int32) (z2 : Int32) (σ : CS) (q : Int32 × CS), r_checkTerm z1 z2 σ = some q → MV l D (cyT cy) (inC ad) yX4_checkTerm cX4_checkTerm 7 (some .int) (346 + d) (13752 + 40 * d) 0 0 [.ref (ad 43), .int z1, .int z2] (wc cy ad σ) (some (.int q.1)) (wc cy ad q.2)) (hr_readPair : ∀ (z1 : Int32) (z2 : Int32) (σ : CS) (q : Int32 × CS), r_readPair z1 z2 σ = some q → MV l D (cyT cy) (inC ad) yX4_readPair cX4_readPair 7 (some .int) (346 + d) (13752 + 40 * d) 0 0 [.ref (ad 43), .int z1, .int z2] (wc cy ad σ) (some (.int q.1)) (wc cy ad q.2)) (hr_readFunction : ∀ (z1 : Int32) (z2 : Int32) (σ : CS) (q : Int32 × CS), r_readFunction z1 z2 σ = some q → MV l D (cyT cy) (inC ad) yX4_readFunction cX4_readFunction 6 (some .int) (346 + d) (13752 + 40 * d) 0 0 [.ref (ad 43), .int z1, .int z2] (wc cy ad σ) (some (.int q.1)) (wc cy ad q.2)) (hr_inferTerm : ∀ (z1 : Int32) (σ : CS) (q : Int32 × CS), r_inferTerm z1 σ = some q → MV l D (cyT cy) (inC ad) yX4_inferTerm cX4_inferTerm 4 (some .int) (346 + d) (13752 + 40 * d) 0 0 [.ref (ad 43), .int z1] (wc cy ad σ) (some (.int q.1)) (wc cy ad q.2)) (hr_readAnnotated : ∀ (z1 : Int32) (σ : CS) (q : Int32 × CS), r_readAnnotated z1 σ = some q → MV l D (cyT cy) (inC ad) yX4_readAnnotated cX4_readAnnotated 4 (some .int) (346 + d) (13752 + 40 * d) 0 0 [.ref (ad 43), .int z1] (wc cy ad σ) (some (.int q.1)) (wc cy ad q.2)) (hr_readApplied : ∀ (z1 : Int32) (σ : CS) (q : Int32 × CS), r_readApplied z1 σ = some q → MV l D (cyT cy) (inC ad) yX4_readApplied cX4_readApplied 10 (some .int) (346 + d) (13752 + 40 * d) 0 0 [.ref (ad 43), .int z1] (wc cy ad σ) (some (.int q.1)) (wc cy ad q.2)) (hr_readComponent : ∀ (z1 : Int32) (σ : CS) (q : Int32 × CS), r_readComponent z1 σ = some q → MV l D (cyT cy) (inC ad) yX4_readComponent cX4_readComponent 9 (some .int) (346 + d) (13752 + 40 * d) 0 0 [.ref (ad 43), .int z1] (wc cy ad σ) (some (.int q.1)) (wc cy ad q.2)) : ∀ (s0 : Int32) (σ : CS), B_Reader_checkTerm_187 r_readType r_readBinder r_checkTerm r_readPair r_readFunction r_inferTerm r_readAnnotated r_readApplied r_readComponent s0 σ = some q → V p l e { frames := 346 + (d + 1), cells := 0, slots := 0, locals := 13752 + 40 * (d + 1) } s m args below meth c D (inC ad) 7 (MQ below (vQ D (inC ad) (some (.int q.1)) (wc cy ad q.2)) args s 0 0 (inC ad)) 0 0 (wc cy ad σ) 187 [(0, .ref (ad 43))] [.int s0] := by
  intro s0 σ h
  rw [B_Reader_checkTerm_187] at h
  obtain rfl := Option.some.inj h
  exact v_iret C dX4_checkTerm_187
set_option maxHeartbeats 4000000 in
set_option maxRecDepth 20000 in
theorem b_Reader_checkTerm_147 {p : Program} {l : Launch} {e : Env} {s : State} {m : MethodId} {args : Array Value} {below : List Frame} {meth : Method} {c : Code} {D : va_G} {cy : Nat → ClassId} {ad : Nat → Nat} {q : Int32 × CS}  {r_readType : Int32 → CS → Option (Int32 × CS)} {r_readBinder : Int32 → Int32 → Int32 → CS → Option (Int32 × CS)} {r_checkTerm : Int32 → Int32 → CS → Option (Int32 × CS)} {r_readPair : Int32 → Int32 → CS → Option (Int32 × CS)} {r_readFunction : Int32 → Int32 → CS → Option (Int32 × CS)} {r_inferTerm : Int32 → CS → Option (Int32 × CS)} {r_readAnnotated : Int32 → CS → Option (Int32 × CS)} {r_readApplied : Int32 → CS → Option (Int32 × CS)} {r_readComponent : Int32 → CS → Option (Int32 × CS)} {d : Nat} (C : vC p s m args meth c cX4_checkTerm 7 (some .int) RX4 D (cyT cy)) (hA : adOK ad) (hr_readType : ∀ (z1 : Int32) (σ : CS) (q : Int32 × CS), r_readType z1 σ = some q → MV l D (cyT cy) (inC ad) yX4_readType cX4_readType 7 (some .int) (346 + d) (13752 + 40 * d) 0 0 [.ref (ad 43), .int z1] (wc cy ad σ) (some (.int q.1)) (wc cy ad q.2)) (hr_readBinder : ∀ (z1 : Int32) (z2 : Int32) (z3 : Int32) (σ : CS) (q : Int32 × CS), r_readBinder z1 z2 z3 σ = some q → MV l D (cyT cy) (inC ad) yX4_readBinder cX4_readBinder 7 (some .int) (346 + d) (13752 + 40 * d) 0 0 [.ref (ad 43), .int z1, .int z2, .int z3] (wc cy ad σ) (some (.int q.1)) (wc cy ad q.2)) (hr_checkTerm : ∀ (z1 : Int32) (z2 : Int32) (σ : CS) (q : Int32 × CS), r_checkTerm z1 z2 σ = some q → MV l D (cyT cy) (inC ad) yX4_checkTerm cX4_checkTerm 7 (some .int) (346 + d) (13752 + 40 * d) 0 0 [.ref (ad 43), .int z1, .int z2] (wc cy ad σ) (some (.int q.1)) (wc cy ad q.2)) (hr_readPair : ∀ (z1 : Int32) (z2 : Int32) (σ : CS) (q : Int32 × CS), r_readPair z1 z2 σ = some q → MV l D (cyT cy) (inC ad) yX4_readPair cX4_readPair 7 (some .int) (346 + d) (13752 + 40 * d) 0 0 [.ref (ad 43), .int z1, .int z2] (wc cy ad σ) (some (.int q.1)) (wc cy ad q.2)) (hr_readFunction : ∀ (z1 : Int32) (z2 : Int32) (σ : CS) (q : Int32 × CS), r_readFunction z1 z2 σ = some q → MV l D (cyT cy) (inC ad) yX4_readFunction cX4_readFunction 6 (some .int) (346 + d) (13752 + 40 * d) 0 0 [.ref (ad 43), .int z1, .int z2] (wc cy ad σ) (some (.int q.1)) (wc cy ad q.2)) (hr_inferTerm : ∀ (z1 : Int32) (σ : CS) (q : Int32 × CS), r_inferTerm z1 σ = some q → MV l D (cyT cy) (inC ad) yX4_inferTerm cX4_inferTerm 4 (some .int) (346 + d) (13752 + 40 * d) 0 0 [.ref (ad 43), .int z1] (wc cy ad σ) (some (.int q.1)) (wc cy ad q.2)) (hr_readAnnotated : ∀ (z1 : Int32) (σ : CS) (q : Int32 × CS), r_readAnnotated z1 σ = some q → MV l D (cyT cy) (inC ad) yX4_readAnnotated cX4_readAnnotated 4 (some .int) (346 + d) (13752 + 40 * d) 0 0 [.ref (ad 43), .int z1] (wc cy ad σ) (some (.int q.1)) (wc cy ad q.2)) (hr_readApplied : ∀ (z1 : Int32) (σ : CS) (q : Int32 × CS), r_readApplied z1 σ = some q → MV l D (cyT cy) (inC ad) yX4_readApplied cX4_readApplied 10 (some .int) (346 + d) (13752 + 40 * d) 0 0 [.ref (ad 43), .int z1] (wc cy ad σ) (some (.int q.1)) (wc cy ad q.2)) (hr_readComponent : ∀ (z1 : Int32) (σ : CS) (q : Int32 × CS), r_readComponent z1 σ = some q → MV l D (cyT cy) (inC ad) yX4_readComponent cX4_readComponent 9 (some .int) (346 + d) (13752 + 40 * d) 0 0 [.ref (ad 43), .int z1] (wc cy ad σ) (some (.int q.1)) (wc cy ad q.2)) : ∀ (s0 : Int32) (σ : CS), B_Reader_checkTerm_147 r_readType r_readBinder r_checkTerm r_readPair r_readFunction r_inferTerm r_readAnnotated r_readApplied r_readComponent s0 σ = some q → V p l e { frames := 346 + (d + 1), cells := 0, slots := 0, locals := 13752 + 40 * (d + 1) } s m args below meth c D (inC ad) 7 (MQ below (vQ D (inC ad) (some (.int q.1)) (wc cy ad q.2)) args s 0 0 (inC ad)) 0 0 (wc cy ad σ) 147 [(0, .ref (ad 43))] [.int s0] := by
  intro s0 σ h
  rw [B_Reader_checkTerm_147] at h
  obtain rfl := Option.some.inj h
  exact v_iret C dX4_checkTerm_147
set_option maxHeartbeats 4000000 in
set_option maxRecDepth 20000 in
theorem b_Reader_checkTerm_107 {p : Program} {l : Launch} {e : Env} {s : State} {m : MethodId} {args : Array Value} {below : List Frame} {meth : Method} {c : Code} {D : va_G} {cy : Nat → ClassId} {ad : Nat → Nat} {q : Int32 × CS}  {r_readType : Int32 → CS → Option (Int32 × CS)} {r_readBinder : Int32 → Int32 → Int32 → CS → Option (Int32 × CS)} {r_checkTerm : Int32 → Int32 → CS → Option (Int32 × CS)} {r_readPair : Int32 → Int32 → CS → Option (Int32 × CS)} {r_readFunction : Int32 → Int32 → CS → Option (Int32 × CS)} {r_inferTerm : Int32 → CS → Option (Int32 × CS)} {r_readAnnotated : Int32 → CS → Option (Int32 × CS)} {r_readApplied : Int32 → CS → Option (Int32 × CS)} {r_readComponent : Int32 → CS → Option (Int32 × CS)} {d : Nat} (C : vC p s m args meth c cX4_checkTerm 7 (some .int) RX4 D (cyT cy)) (hA : adOK ad) (hr_readType : ∀ (z1 : Int32) (σ : CS) (q : Int32 × CS), r_readType z1 σ = some q → MV l D (cyT cy) (inC ad) yX4_readType cX4_readType 7 (some .int) (346 + d) (13752 + 40 * d) 0 0 [.ref (ad 43), .int z1] (wc cy ad σ) (some (.int q.1)) (wc cy ad q.2)) (hr_readBinder : ∀ (z1 : Int32) (z2 : Int32) (z3 : Int32) (σ : CS) (q : Int32 × CS), r_readBinder z1 z2 z3 σ = some q → MV l D (cyT cy) (inC ad) yX4_readBinder cX4_readBinder 7 (some .int) (346 + d) (13752 + 40 * d) 0 0 [.ref (ad 43), .int z1, .int z2, .int z3] (wc cy ad σ) (some (.int q.1)) (wc cy ad q.2)) (hr_checkTerm : ∀ (z1 : Int32) (z2 : Int32) (σ : CS) (q : Int32 × CS), r_checkTerm z1 z2 σ = some q → MV l D (cyT cy) (inC ad) yX4_checkTerm cX4_checkTerm 7 (some .int) (346 + d) (13752 + 40 * d) 0 0 [.ref (ad 43), .int z1, .int z2] (wc cy ad σ) (some (.int q.1)) (wc cy ad q.2)) (hr_readPair : ∀ (z1 : Int32) (z2 : Int32) (σ : CS) (q : Int32 × CS), r_readPair z1 z2 σ = some q → MV l D (cyT cy) (inC ad) yX4_readPair cX4_readPair 7 (some .int) (346 + d) (13752 + 40 * d) 0 0 [.ref (ad 43), .int z1, .int z2] (wc cy ad σ) (some (.int q.1)) (wc cy ad q.2)) (hr_readFunction : ∀ (z1 : Int32) (z2 : Int32) (σ : CS) (q : Int32 × CS), r_readFunction z1 z2 σ = some q → MV l D (cyT cy) (inC ad) yX4_readFunction cX4_readFunction 6 (some .int) (346 + d) (13752 + 40 * d) 0 0 [.ref (ad 43), .int z1, .int z2] (wc cy ad σ) (some (.int q.1)) (wc cy ad q.2)) (hr_inferTerm : ∀ (z1 : Int32) (σ : CS) (q : Int32 × CS), r_inferTerm z1 σ = some q → MV l D (cyT cy) (inC ad) yX4_inferTerm cX4_inferTerm 4 (some .int) (346 + d) (13752 + 40 * d) 0 0 [.ref (ad 43), .int z1] (wc cy ad σ) (some (.int q.1)) (wc cy ad q.2)) (hr_readAnnotated : ∀ (z1 : Int32) (σ : CS) (q : Int32 × CS), r_readAnnotated z1 σ = some q → MV l D (cyT cy) (inC ad) yX4_readAnnotated cX4_readAnnotated 4 (some .int) (346 + d) (13752 + 40 * d) 0 0 [.ref (ad 43), .int z1] (wc cy ad σ) (some (.int q.1)) (wc cy ad q.2)) (hr_readApplied : ∀ (z1 : Int32) (σ : CS) (q : Int32 × CS), r_readApplied z1 σ = some q → MV l D (cyT cy) (inC ad) yX4_readApplied cX4_readApplied 10 (some .int) (346 + d) (13752 + 40 * d) 0 0 [.ref (ad 43), .int z1] (wc cy ad σ) (some (.int q.1)) (wc cy ad q.2)) (hr_readComponent : ∀ (z1 : Int32) (σ : CS) (q : Int32 × CS), r_readComponent z1 σ = some q → MV l D (cyT cy) (inC ad) yX4_readComponent cX4_readComponent 9 (some .int) (346 + d) (13752 + 40 * d) 0 0 [.ref (ad 43), .int z1] (wc cy ad σ) (some (.int q.1)) (wc cy ad q.2)) : ∀ (s0 : Int32) (σ : CS), B_Reader_checkTerm_107 r_readType r_readBinder r_checkTerm r_readPair r_readFunction r_inferTerm r_readAnnotated r_readApplied r_readComponent s0 σ = some q → V p l e { frames := 346 + (d + 1), cells := 0, slots := 0, locals := 13752 + 40 * (d + 1) } s m args below meth c D (inC ad) 7 (MQ below (vQ D (inC ad) (some (.int q.1)) (wc cy ad q.2)) args s 0 0 (inC ad)) 0 0 (wc cy ad σ) 107 [(0, .ref (ad 43))] [.int s0] := by
  intro s0 σ h
  rw [B_Reader_checkTerm_107] at h
  obtain rfl := Option.some.inj h
  exact v_iret C dX4_checkTerm_107
set_option maxHeartbeats 4000000 in
set_option maxRecDepth 20000 in
theorem b_Reader_checkTerm_125 {p : Program} {l : Launch} {e : Env} {s : State} {m : MethodId} {args : Array Value} {below : List Frame} {meth : Method} {c : Code} {D : va_G} {cy : Nat → ClassId} {ad : Nat → Nat} {q : Int32 × CS}  {r_readType : Int32 → CS → Option (Int32 × CS)} {r_readBinder : Int32 → Int32 → Int32 → CS → Option (Int32 × CS)} {r_checkTerm : Int32 → Int32 → CS → Option (Int32 × CS)} {r_readPair : Int32 → Int32 → CS → Option (Int32 × CS)} {r_readFunction : Int32 → Int32 → CS → Option (Int32 × CS)} {r_inferTerm : Int32 → CS → Option (Int32 × CS)} {r_readAnnotated : Int32 → CS → Option (Int32 × CS)} {r_readApplied : Int32 → CS → Option (Int32 × CS)} {r_readComponent : Int32 → CS → Option (Int32 × CS)} {d : Nat} (C : vC p s m args meth c cX4_checkTerm 7 (some .int) RX4 D (cyT cy)) (hA : adOK ad) (hr_readType : ∀ (z1 : Int32) (σ : CS) (q : Int32 × CS), r_readType z1 σ = some q → MV l D (cyT cy) (inC ad) yX4_readType cX4_readType 7 (some .int) (346 + d) (13752 + 40 * d) 0 0 [.ref (ad 43), .int z1] (wc cy ad σ) (some (.int q.1)) (wc cy ad q.2)) (hr_readBinder : ∀ (z1 : Int32) (z2 : Int32) (z3 : Int32) (σ : CS) (q : Int32 × CS), r_readBinder z1 z2 z3 σ = some q → MV l D (cyT cy) (inC ad) yX4_readBinder cX4_readBinder 7 (some .int) (346 + d) (13752 + 40 * d) 0 0 [.ref (ad 43), .int z1, .int z2, .int z3] (wc cy ad σ) (some (.int q.1)) (wc cy ad q.2)) (hr_checkTerm : ∀ (z1 : Int32) (z2 : Int32) (σ : CS) (q : Int32 × CS), r_checkTerm z1 z2 σ = some q → MV l D (cyT cy) (inC ad) yX4_checkTerm cX4_checkTerm 7 (some .int) (346 + d) (13752 + 40 * d) 0 0 [.ref (ad 43), .int z1, .int z2] (wc cy ad σ) (some (.int q.1)) (wc cy ad q.2)) (hr_readPair : ∀ (z1 : Int32) (z2 : Int32) (σ : CS) (q : Int32 × CS), r_readPair z1 z2 σ = some q → MV l D (cyT cy) (inC ad) yX4_readPair cX4_readPair 7 (some .int) (346 + d) (13752 + 40 * d) 0 0 [.ref (ad 43), .int z1, .int z2] (wc cy ad σ) (some (.int q.1)) (wc cy ad q.2)) (hr_readFunction : ∀ (z1 : Int32) (z2 : Int32) (σ : CS) (q : Int32 × CS), r_readFunction z1 z2 σ = some q → MV l D (cyT cy) (inC ad) yX4_readFunction cX4_readFunction 6 (some .int) (346 + d) (13752 + 40 * d) 0 0 [.ref (ad 43), .int z1, .int z2] (wc cy ad σ) (some (.int q.1)) (wc cy ad q.2)) (hr_inferTerm : ∀ (z1 : Int32) (σ : CS) (q : Int32 × CS), r_inferTerm z1 σ = some q → MV l D (cyT cy) (inC ad) yX4_inferTerm cX4_inferTerm 4 (some .int) (346 + d) (13752 + 40 * d) 0 0 [.ref (ad 43), .int z1] (wc cy ad σ) (some (.int q.1)) (wc cy ad q.2)) (hr_readAnnotated : ∀ (z1 : Int32) (σ : CS) (q : Int32 × CS), r_readAnnotated z1 σ = some q → MV l D (cyT cy) (inC ad) yX4_readAnnotated cX4_readAnnotated 4 (some .int) (346 + d) (13752 + 40 * d) 0 0 [.ref (ad 43), .int z1] (wc cy ad σ) (some (.int q.1)) (wc cy ad q.2)) (hr_readApplied : ∀ (z1 : Int32) (σ : CS) (q : Int32 × CS), r_readApplied z1 σ = some q → MV l D (cyT cy) (inC ad) yX4_readApplied cX4_readApplied 10 (some .int) (346 + d) (13752 + 40 * d) 0 0 [.ref (ad 43), .int z1] (wc cy ad σ) (some (.int q.1)) (wc cy ad q.2)) (hr_readComponent : ∀ (z1 : Int32) (σ : CS) (q : Int32 × CS), r_readComponent z1 σ = some q → MV l D (cyT cy) (inC ad) yX4_readComponent cX4_readComponent 9 (some .int) (346 + d) (13752 + 40 * d) 0 0 [.ref (ad 43), .int z1] (wc cy ad σ) (some (.int q.1)) (wc cy ad q.2)) : ∀ (x1 : Int32) (x2 : Int32) (x4 : Int32) (s0 : Int32) (σ : CS), B_Reader_checkTerm_125 r_readType r_readBinder r_checkTerm r_readPair r_readFunction r_inferTerm r_readAnnotated r_readApplied r_readComponent x1 x2 x4 s0 σ = some q → V p l e { frames := 346 + (d + 1), cells := 0, slots := 0, locals := 13752 + 40 * (d + 1) } s m args below meth c D (inC ad) 7 (MQ below (vQ D (inC ad) (some (.int q.1)) (wc cy ad q.2)) args s 0 0 (inC ad)) 0 0 (wc cy ad σ) 125 [(0, .ref (ad 43)), (1, .int x1), (2, .int x2), (4, .int x4)] [.int s0] := by
  intro x1 x2 x4 s0 σ h
  rw [B_Reader_checkTerm_125] at h
  refine v_istore C [(5, .int s0), (0, .ref (ad 43)), (1, .int x1), (2, .int x2), (4, .int x4)] dX4_checkTerm_125 (by decide) rfl ?_
  refine v_iload C 0 dX4_checkTerm_127 rfl ?_
  refine v_if_eq C 141 dX4_checkTerm_129 (by decide) (fun c1 => ?_) (fun c1 => ?_)
  · rw [if_pos c1] at h
    refine v_aload_n C 1 dX4_checkTerm_141 rfl rfl ?_
    refine v_iload C 4 dX4_checkTerm_142 rfl ?_
    obtain ⟨q1, hq1, h⟩ := bd_of h
    refine c_call C [.int x4] [] (c_Reader_refuse hA _ _ hq1) hY_Reader_refuse rfl (by decide) (okS _ 43 (by decide) rfl) ml_4_95 ⟨(by omega : 0 + 1 ≤ 346 + (d + 1)), (by omega : 8 + (2 + 11) + 0 ≤ 13752 + 40 * (d + 1))⟩ ⟨Nat.zero_le _, Nat.zero_le _⟩ rfl rfl (Nat.le_of_ble_eq_true rfl) dX4_checkTerm_144 (wc_D hA cy _) ?_
    exact v_sub [1] rfl ((b_Reader_checkTerm_147 C hA hr_readType hr_readBinder hr_checkTerm hr_readPair hr_readFunction hr_inferTerm hr_readAnnotated hr_readApplied hr_readComponent) _ _ h)
  · rw [if_neg c1] at h
    refine v_aload_n C 1 dX4_checkTerm_132 rfl rfl ?_
    refine v_iload_n C 2 dX4_checkTerm_133 rfl rfl ?_
    refine v_iload_n C 3 dX4_checkTerm_134 rfl rfl ?_
    obtain ⟨q2, hq2, h⟩ := bd_of h
    refine c_call C [.int x1, .int x2] [] (hr_readFunction _ _ _ _ hq2) hY_Reader_readFunction rfl (by decide) (okS _ 43 (by decide) rfl) ml_4_154 ⟨(by omega : (346 + d) + 1 ≤ 346 + (d + 1)), (by omega : 8 + (6 + 11) + (13752 + 40 * d) ≤ 13752 + 40 * (d + 1))⟩ ⟨Nat.zero_le _, Nat.zero_le _⟩ rfl rfl (Nat.le_of_ble_eq_true rfl) dX4_checkTerm_135 (wc_D hA cy _) ?_
    refine v_goto C 147 dX4_checkTerm_138 (by decide) ?_
    exact v_sub [1] rfl ((b_Reader_checkTerm_147 C hA hr_readType hr_readBinder hr_checkTerm hr_readPair hr_readFunction hr_inferTerm hr_readAnnotated hr_readApplied hr_readComponent) _ _ h)
set_option maxHeartbeats 4000000 in
set_option maxRecDepth 20000 in
theorem b_Reader_checkTerm_124 {p : Program} {l : Launch} {e : Env} {s : State} {m : MethodId} {args : Array Value} {below : List Frame} {meth : Method} {c : Code} {D : va_G} {cy : Nat → ClassId} {ad : Nat → Nat} {q : Int32 × CS}  {r_readType : Int32 → CS → Option (Int32 × CS)} {r_readBinder : Int32 → Int32 → Int32 → CS → Option (Int32 × CS)} {r_checkTerm : Int32 → Int32 → CS → Option (Int32 × CS)} {r_readPair : Int32 → Int32 → CS → Option (Int32 × CS)} {r_readFunction : Int32 → Int32 → CS → Option (Int32 × CS)} {r_inferTerm : Int32 → CS → Option (Int32 × CS)} {r_readAnnotated : Int32 → CS → Option (Int32 × CS)} {r_readApplied : Int32 → CS → Option (Int32 × CS)} {r_readComponent : Int32 → CS → Option (Int32 × CS)} {d : Nat} (C : vC p s m args meth c cX4_checkTerm 7 (some .int) RX4 D (cyT cy)) (hA : adOK ad) (hr_readType : ∀ (z1 : Int32) (σ : CS) (q : Int32 × CS), r_readType z1 σ = some q → MV l D (cyT cy) (inC ad) yX4_readType cX4_readType 7 (some .int) (346 + d) (13752 + 40 * d) 0 0 [.ref (ad 43), .int z1] (wc cy ad σ) (some (.int q.1)) (wc cy ad q.2)) (hr_readBinder : ∀ (z1 : Int32) (z2 : Int32) (z3 : Int32) (σ : CS) (q : Int32 × CS), r_readBinder z1 z2 z3 σ = some q → MV l D (cyT cy) (inC ad) yX4_readBinder cX4_readBinder 7 (some .int) (346 + d) (13752 + 40 * d) 0 0 [.ref (ad 43), .int z1, .int z2, .int z3] (wc cy ad σ) (some (.int q.1)) (wc cy ad q.2)) (hr_checkTerm : ∀ (z1 : Int32) (z2 : Int32) (σ : CS) (q : Int32 × CS), r_checkTerm z1 z2 σ = some q → MV l D (cyT cy) (inC ad) yX4_checkTerm cX4_checkTerm 7 (some .int) (346 + d) (13752 + 40 * d) 0 0 [.ref (ad 43), .int z1, .int z2] (wc cy ad σ) (some (.int q.1)) (wc cy ad q.2)) (hr_readPair : ∀ (z1 : Int32) (z2 : Int32) (σ : CS) (q : Int32 × CS), r_readPair z1 z2 σ = some q → MV l D (cyT cy) (inC ad) yX4_readPair cX4_readPair 7 (some .int) (346 + d) (13752 + 40 * d) 0 0 [.ref (ad 43), .int z1, .int z2] (wc cy ad σ) (some (.int q.1)) (wc cy ad q.2)) (hr_readFunction : ∀ (z1 : Int32) (z2 : Int32) (σ : CS) (q : Int32 × CS), r_readFunction z1 z2 σ = some q → MV l D (cyT cy) (inC ad) yX4_readFunction cX4_readFunction 6 (some .int) (346 + d) (13752 + 40 * d) 0 0 [.ref (ad 43), .int z1, .int z2] (wc cy ad σ) (some (.int q.1)) (wc cy ad q.2)) (hr_inferTerm : ∀ (z1 : Int32) (σ : CS) (q : Int32 × CS), r_inferTerm z1 σ = some q → MV l D (cyT cy) (inC ad) yX4_inferTerm cX4_inferTerm 4 (some .int) (346 + d) (13752 + 40 * d) 0 0 [.ref (ad 43), .int z1] (wc cy ad σ) (some (.int q.1)) (wc cy ad q.2)) (hr_readAnnotated : ∀ (z1 : Int32) (σ : CS) (q : Int32 × CS), r_readAnnotated z1 σ = some q → MV l D (cyT cy) (inC ad) yX4_readAnnotated cX4_readAnnotated 4 (some .int) (346 + d) (13752 + 40 * d) 0 0 [.ref (ad 43), .int z1] (wc cy ad σ) (some (.int q.1)) (wc cy ad q.2)) (hr_readApplied : ∀ (z1 : Int32) (σ : CS) (q : Int32 × CS), r_readApplied z1 σ = some q → MV l D (cyT cy) (inC ad) yX4_readApplied cX4_readApplied 10 (some .int) (346 + d) (13752 + 40 * d) 0 0 [.ref (ad 43), .int z1] (wc cy ad σ) (some (.int q.1)) (wc cy ad q.2)) (hr_readComponent : ∀ (z1 : Int32) (σ : CS) (q : Int32 × CS), r_readComponent z1 σ = some q → MV l D (cyT cy) (inC ad) yX4_readComponent cX4_readComponent 9 (some .int) (346 + d) (13752 + 40 * d) 0 0 [.ref (ad 43), .int z1] (wc cy ad σ) (some (.int q.1)) (wc cy ad q.2)) {k125 : Int32 → Int32 → Int32 → Int32 → CS → Option (Int32 × CS)} (hk125 : ∀ (x1 : Int32) (x2 : Int32) (x4 : Int32) (s0 : Int32) (σ : CS), k125 x1 x2 x4 s0 σ = some q → V p l e { frames := 346 + (d + 1), cells := 0, slots := 0, locals := 13752 + 40 * (d + 1) } s m args below meth c D (inC ad) 7 (MQ below (vQ D (inC ad) (some (.int q.1)) (wc cy ad q.2)) args s 0 0 (inC ad)) 0 0 (wc cy ad σ) 125 [(0, .ref (ad 43)), (1, .int x1), (2, .int x2), (4, .int x4)] [.int s0]) : ∀ (x1 : Int32) (x2 : Int32) (x4 : Int32) (σ : CS), B_Reader_checkTerm_124 r_readType r_readBinder r_checkTerm r_readPair r_readFunction r_inferTerm r_readAnnotated r_readApplied r_readComponent k125 x1 x2 x4 σ = some q → V p l e { frames := 346 + (d + 1), cells := 0, slots := 0, locals := 13752 + 40 * (d + 1) } s m args below meth c D (inC ad) 7 (MQ below (vQ D (inC ad) (some (.int q.1)) (wc cy ad q.2)) args s 0 0 (inC ad)) 0 0 (wc cy ad σ) 124 [(0, .ref (ad 43)), (1, .int x1), (2, .int x2), (4, .int x4)] [] := by
  intro x1 x2 x4 σ h
  rw [B_Reader_checkTerm_124] at h
  refine v_iconst C 0 dX4_checkTerm_124 (by decide) ?_
  exact v_sub [0, 1, 2, 3] rfl (hk125 _ _ _ _ _ h)
set_option maxHeartbeats 4000000 in
set_option maxRecDepth 20000 in
theorem w_Reader_checkTerm {l : Launch} {D : va_G} {cy : Nat → ClassId} {ad : Nat → Nat} {q : Int32 × CS} {r_readType : Int32 → CS → Option (Int32 × CS)} {r_readBinder : Int32 → Int32 → Int32 → CS → Option (Int32 × CS)} {r_checkTerm : Int32 → Int32 → CS → Option (Int32 × CS)} {r_readPair : Int32 → Int32 → CS → Option (Int32 × CS)} {r_readFunction : Int32 → Int32 → CS → Option (Int32 × CS)} {r_inferTerm : Int32 → CS → Option (Int32 × CS)} {r_readAnnotated : Int32 → CS → Option (Int32 × CS)} {r_readApplied : Int32 → CS → Option (Int32 × CS)} {r_readComponent : Int32 → CS → Option (Int32 × CS)} {d : Nat} (hA : adOK ad) (hr_readType : ∀ (z1 : Int32) (σ : CS) (q : Int32 × CS), r_readType z1 σ = some q → MV l D (cyT cy) (inC ad) yX4_readType cX4_readType 7 (some .int) (346 + d) (13752 + 40 * d) 0 0 [.ref (ad 43), .int z1] (wc cy ad σ) (some (.int q.1)) (wc cy ad q.2)) (hr_readBinder : ∀ (z1 : Int32) (z2 : Int32) (z3 : Int32) (σ : CS) (q : Int32 × CS), r_readBinder z1 z2 z3 σ = some q → MV l D (cyT cy) (inC ad) yX4_readBinder cX4_readBinder 7 (some .int) (346 + d) (13752 + 40 * d) 0 0 [.ref (ad 43), .int z1, .int z2, .int z3] (wc cy ad σ) (some (.int q.1)) (wc cy ad q.2)) (hr_checkTerm : ∀ (z1 : Int32) (z2 : Int32) (σ : CS) (q : Int32 × CS), r_checkTerm z1 z2 σ = some q → MV l D (cyT cy) (inC ad) yX4_checkTerm cX4_checkTerm 7 (some .int) (346 + d) (13752 + 40 * d) 0 0 [.ref (ad 43), .int z1, .int z2] (wc cy ad σ) (some (.int q.1)) (wc cy ad q.2)) (hr_readPair : ∀ (z1 : Int32) (z2 : Int32) (σ : CS) (q : Int32 × CS), r_readPair z1 z2 σ = some q → MV l D (cyT cy) (inC ad) yX4_readPair cX4_readPair 7 (some .int) (346 + d) (13752 + 40 * d) 0 0 [.ref (ad 43), .int z1, .int z2] (wc cy ad σ) (some (.int q.1)) (wc cy ad q.2)) (hr_readFunction : ∀ (z1 : Int32) (z2 : Int32) (σ : CS) (q : Int32 × CS), r_readFunction z1 z2 σ = some q → MV l D (cyT cy) (inC ad) yX4_readFunction cX4_readFunction 6 (some .int) (346 + d) (13752 + 40 * d) 0 0 [.ref (ad 43), .int z1, .int z2] (wc cy ad σ) (some (.int q.1)) (wc cy ad q.2)) (hr_inferTerm : ∀ (z1 : Int32) (σ : CS) (q : Int32 × CS), r_inferTerm z1 σ = some q → MV l D (cyT cy) (inC ad) yX4_inferTerm cX4_inferTerm 4 (some .int) (346 + d) (13752 + 40 * d) 0 0 [.ref (ad 43), .int z1] (wc cy ad σ) (some (.int q.1)) (wc cy ad q.2)) (hr_readAnnotated : ∀ (z1 : Int32) (σ : CS) (q : Int32 × CS), r_readAnnotated z1 σ = some q → MV l D (cyT cy) (inC ad) yX4_readAnnotated cX4_readAnnotated 4 (some .int) (346 + d) (13752 + 40 * d) 0 0 [.ref (ad 43), .int z1] (wc cy ad σ) (some (.int q.1)) (wc cy ad q.2)) (hr_readApplied : ∀ (z1 : Int32) (σ : CS) (q : Int32 × CS), r_readApplied z1 σ = some q → MV l D (cyT cy) (inC ad) yX4_readApplied cX4_readApplied 10 (some .int) (346 + d) (13752 + 40 * d) 0 0 [.ref (ad 43), .int z1] (wc cy ad σ) (some (.int q.1)) (wc cy ad q.2)) (hr_readComponent : ∀ (z1 : Int32) (σ : CS) (q : Int32 × CS), r_readComponent z1 σ = some q → MV l D (cyT cy) (inC ad) yX4_readComponent cX4_readComponent 9 (some .int) (346 + d) (13752 + 40 * d) 0 0 [.ref (ad 43), .int z1] (wc cy ad σ) (some (.int q.1)) (wc cy ad q.2)) (x1 : Int32) (x2 : Int32) (σ : CS) (h : F_Reader_checkTerm r_readType r_readBinder r_checkTerm r_readPair r_readFunction r_inferTerm r_readAnnotated r_readApplied r_readComponent x1 x2 σ = some q) : MV l D (cyT cy) (inC ad) yX4_checkTerm cX4_checkTerm 7 (some .int) (346 + (d + 1)) (13752 + 40 * (d + 1)) 0 0 [.ref (ad 43), .int x1, .int x2] (wc cy ad σ) (some (.int q.1)) (wc cy ad q.2) := by
  refine MV.of (by decide) (wc_D hA cy σ) (Nat.le_of_ble_eq_true rfl) [(0, .ref (ad 43)), (1, .int x1), (2, .int x2)] rfl ?_
  intro p e s m args below meth c C
  rw [F_Reader_checkTerm] at h
  refine v_aload_n C 0 dX4_checkTerm_0 rfl rfl ?_
  refine c_getS C 38 fl_4_29 rfl rfl (by decide) (okS _ 43 (by decide) rfl) dX4_checkTerm_1 ?_
  refine v_iload_n C 1 dX4_checkTerm_4 rfl rfl ?_
  obtain ⟨q1, hq1, h⟩ := bd_of h
  refine c_call C [.int x1] [] (c_Values_formOf hA _ _ hq1) hY_Values_formOf rfl (by decide) (okS _ 38 (by decide) rfl) ml_4_148 ⟨(by omega : 1 + 1 ≤ 346 + (d + 1)), (by omega : 8 + (2 + 11) + 21 ≤ 13752 + 40 * (d + 1))⟩ ⟨Nat.zero_le _, Nat.zero_le _⟩ rfl rfl (Nat.le_of_ble_eq_true rfl) dX4_checkTerm_5 (wc_D hA cy _) ?_
  refine v_istore_n C [(3, .int q1.1), (0, .ref (ad 43)), (1, .int x1), (2, .int x2)] dX4_checkTerm_8 rfl (by decide) rfl ?_
  refine v_aload_n C 1 dX4_checkTerm_9 rfl rfl ?_
  refine c_getI C fl_4_41 rfl (okS _ 43 (by decide) rfl) dX4_checkTerm_10 ?_
  refine v_istore C [(4, .int (q1.2.1 43 7)), (3, .int q1.1), (0, .ref (ad 43)), (1, .int x1), (2, .int x2)] dX4_checkTerm_13 (by decide) rfl ?_
  refine v_aload_n C 2 dX4_checkTerm_15 rfl rfl ?_
  obtain ⟨q2, hq2, h⟩ := bd_of h
  refine c_call C [] [] (c_Reader_peek hA _ hq2) hY_Reader_peek rfl (by decide) (okS _ 43 (by decide) rfl) ml_4_98 ⟨(by omega : 0 + 1 ≤ 346 + (d + 1)), (by omega : 8 + (1 + 11) + 0 ≤ 13752 + 40 * (d + 1))⟩ ⟨Nat.zero_le _, Nat.zero_le _⟩ rfl rfl (Nat.le_of_ble_eq_true rfl) dX4_checkTerm_16 (wc_D hA cy _) ?_
  by_cases c1 : q2.1 = 42
  · rw [if_pos c1] at h
    refine v_lookup C 52 dX4_checkTerm_19 (by decide) (by rw [c1]; try rfl) (by decide) ?_
    refine v_iload_n C 1 dX4_checkTerm_52 rfl rfl ?_
    refine v_bipush C 49 dX4_checkTerm_53 (by decide) ?_
    refine v_icmp_eq C 65 dX4_checkTerm_55 (by decide) (fun c2 => ?_) (fun c2 => ?_)
    · rw [if_pos c2] at h
      refine v_aload_n C 2 dX4_checkTerm_65 rfl rfl ?_
      refine v_dup C dX4_checkTerm_66 rfl ?_
      refine c_getI C fl_4_41 rfl (okS _ 43 (by decide) rfl) dX4_checkTerm_67 ?_
      refine v_iconst C 1 dX4_checkTerm_70 (by decide) ?_
      refine v_iadd C dX4_checkTerm_71 ?_
      refine c_putI C fl_4_41 fw_4_7 rfl (by decide) (okS _ 43 (by decide) rfl) dX4_checkTerm_72 ?_
      refine v_aload_n C 2 dX4_checkTerm_75 rfl rfl ?_
      refine v_bipush C 42 dX4_checkTerm_76 (by decide) ?_
      refine v_iconst C (-1) dX4_checkTerm_78 (by decide) ?_
      refine v_iconst C (-1) dX4_checkTerm_79 (by decide) ?_
      refine v_iload C 0 dX4_checkTerm_80 rfl ?_
      obtain ⟨q3, hq3, h⟩ := bd_of h
      refine c_call C [.int 42, .int (-1), .int (-1), .int (q1.2.1 43 7)] [] (c_Reader_join hA _ _ _ _ _ hq3) hY_Reader_join rfl (by decide) (okS _ 43 (by decide) rfl) ml_4_139 ⟨(by omega : 4 + 1 ≤ 346 + (d + 1)), (by omega : 8 + (6 + 11) + 91 ≤ 13752 + 40 * (d + 1))⟩ ⟨Nat.zero_le _, Nat.zero_le _⟩ rfl rfl (Nat.le_of_ble_eq_true rfl) dX4_checkTerm_82 (wc_D hA cy _) ?_
      obtain rfl := Option.some.inj h
      exact v_iret C dX4_checkTerm_85
    · rw [if_neg c2] at h
      refine v_aload_n C 2 dX4_checkTerm_58 rfl rfl ?_
      refine v_iload C 0 dX4_checkTerm_59 rfl ?_
      obtain ⟨q4, hq4, h⟩ := bd_of h
      refine c_call C [.int (q1.2.1 43 7)] [] (c_Reader_refuse hA _ _ hq4) hY_Reader_refuse rfl (by decide) (okS _ 43 (by decide) rfl) ml_4_95 ⟨(by omega : 0 + 1 ≤ 346 + (d + 1)), (by omega : 8 + (2 + 11) + 0 ≤ 13752 + 40 * (d + 1))⟩ ⟨Nat.zero_le _, Nat.zero_le _⟩ rfl rfl (Nat.le_of_ble_eq_true rfl) dX4_checkTerm_61 (wc_D hA cy _) ?_
      obtain rfl := Option.some.inj h
      exact v_iret C dX4_checkTerm_64
  rw [if_neg c1] at h
  by_cases c3 : q2.1 = 44
  · rw [if_pos c3] at h
    refine v_lookup C 86 dX4_checkTerm_19 (by decide) (by rw [c3]; try rfl) (by decide) ?_
    refine v_iload_n C 1 dX4_checkTerm_86 rfl rfl ?_
    refine v_bipush C 83 dX4_checkTerm_87 (by decide) ?_
    refine v_icmp_ne C 101 dX4_checkTerm_89 (by decide) (fun c4 => ?_) (fun c4 => ?_)
    · rw [if_neg c4] at h
      refine v_aload_n C 2 dX4_checkTerm_101 rfl rfl ?_
      refine v_iload C 0 dX4_checkTerm_102 rfl ?_
      obtain ⟨q5, hq5, h⟩ := bd_of h
      refine c_call C [.int (q1.2.1 43 7)] [] (c_Reader_refuse hA _ _ hq5) hY_Reader_refuse rfl (by decide) (okS _ 43 (by decide) rfl) ml_4_95 ⟨(by omega : 0 + 1 ≤ 346 + (d + 1)), (by omega : 8 + (2 + 11) + 0 ≤ 13752 + 40 * (d + 1))⟩ ⟨Nat.zero_le _, Nat.zero_le _⟩ rfl rfl (Nat.le_of_ble_eq_true rfl) dX4_checkTerm_104 (wc_D hA cy _) ?_
      exact v_sub [2] rfl ((b_Reader_checkTerm_107 C hA hr_readType hr_readBinder hr_checkTerm hr_readPair hr_readFunction hr_inferTerm hr_readAnnotated hr_readApplied hr_readComponent) _ _ h)
    · rw [if_pos c4] at h
      refine v_aload_n C 2 dX4_checkTerm_92 rfl rfl ?_
      refine v_iload_n C 3 dX4_checkTerm_93 rfl rfl ?_
      refine v_iload_n C 4 dX4_checkTerm_94 rfl rfl ?_
      obtain ⟨q6, hq6, h⟩ := bd_of h
      refine c_call C [.int x1, .int x2] [] (hr_readPair _ _ _ _ hq6) hY_Reader_readPair rfl (by decide) (okS _ 43 (by decide) rfl) ml_4_151 ⟨(by omega : (346 + d) + 1 ≤ 346 + (d + 1)), (by omega : 8 + (7 + 11) + (13752 + 40 * d) ≤ 13752 + 40 * (d + 1))⟩ ⟨Nat.zero_le _, Nat.zero_le _⟩ rfl rfl (Nat.le_of_ble_eq_true rfl) dX4_checkTerm_95 (wc_D hA cy _) ?_
      refine v_goto C 107 dX4_checkTerm_98 (by decide) ?_
      exact v_sub [2] rfl ((b_Reader_checkTerm_107 C hA hr_readType hr_readBinder hr_checkTerm hr_readPair hr_readFunction hr_inferTerm hr_readAnnotated hr_readApplied hr_readComponent) _ _ h)
  rw [if_neg c3] at h
  by_cases c5 : q2.1 = 92
  · rw [if_pos c5] at h
    refine v_lookup C 108 dX4_checkTerm_19 (by decide) (by rw [c5]; try rfl) (by decide) ?_
    refine v_iload_n C 1 dX4_checkTerm_108 rfl rfl ?_
    refine v_bipush C 80 dX4_checkTerm_109 (by decide) ?_
    refine v_icmp_ne C 124 dX4_checkTerm_111 (by decide) (fun c6 => ?_) (fun c6 => ?_)
    · rw [if_neg c6] at h
      exact v_sub [2, 3, 4, 0] rfl ((b_Reader_checkTerm_124 C hA hr_readType hr_readBinder hr_checkTerm hr_readPair hr_readFunction hr_inferTerm hr_readAnnotated hr_readApplied hr_readComponent (b_Reader_checkTerm_125 C hA hr_readType hr_readBinder hr_checkTerm hr_readPair hr_readFunction hr_inferTerm hr_readAnnotated hr_readApplied hr_readComponent)) _ _ _ _ h)
    · rw [if_pos c6] at h
      refine v_iload_n C 4 dX4_checkTerm_114 rfl rfl ?_
      refine v_bipush C 10 dX4_checkTerm_115 (by decide) ?_
      refine v_icmp_ge C 124 dX4_checkTerm_117 (by decide) (fun c7 => ?_) (fun c7 => ?_)
      · rw [if_pos c7] at h
        exact v_sub [2, 3, 4, 0] rfl ((b_Reader_checkTerm_124 C hA hr_readType hr_readBinder hr_checkTerm hr_readPair hr_readFunction hr_inferTerm hr_readAnnotated hr_readApplied hr_readComponent (b_Reader_checkTerm_125 C hA hr_readType hr_readBinder hr_checkTerm hr_readPair hr_readFunction hr_inferTerm hr_readAnnotated hr_readApplied hr_readComponent)) _ _ _ _ h)
      · rw [if_neg c7] at h
        refine v_iconst C 1 dX4_checkTerm_120 (by decide) ?_
        refine v_goto C 125 dX4_checkTerm_121 (by decide) ?_
        exact v_sub [2, 3, 4, 0] rfl ((b_Reader_checkTerm_125 C hA hr_readType hr_readBinder hr_checkTerm hr_readPair hr_readFunction hr_inferTerm hr_readAnnotated hr_readApplied hr_readComponent) _ _ _ _ _ h)
  rw [if_neg c5] at h
  refine v_lookup C 148 dX4_checkTerm_19 (by decide) (show Op.lookupswitch.offset [(42, 33), (44, 67), (92, 89)] 129 (q2.1 : Int32).toInt = 129 from by rw [lv_osw (a := 42) c1 (by decide), lv_osw (a := 44) c3 (by decide), lv_osw (a := 92) c5 (by decide)]; try rfl) (by decide) ?_
  refine v_aload_n C 2 dX4_checkTerm_148 rfl rfl ?_
  refine v_iload_n C 4 dX4_checkTerm_149 rfl rfl ?_
  obtain ⟨q7, hq7, h⟩ := bd_of h
  refine c_call C [.int x2] [] (hr_inferTerm _ _ _ hq7) hY_Reader_inferTerm rfl (by decide) (okS _ 43 (by decide) rfl) ml_4_83 ⟨(by omega : (346 + d) + 1 ≤ 346 + (d + 1)), (by omega : 8 + (4 + 11) + (13752 + 40 * d) ≤ 13752 + 40 * (d + 1))⟩ ⟨Nat.zero_le _, Nat.zero_le _⟩ rfl rfl (Nat.le_of_ble_eq_true rfl) dX4_checkTerm_150 (wc_D hA cy _) ?_
  refine v_istore C [(6, .int q7.1), (4, .int (q1.2.1 43 7)), (3, .int q1.1), (0, .ref (ad 43)), (1, .int x1), (2, .int x2)] dX4_checkTerm_153 (by decide) rfl ?_
  refine v_iload C 0 dX4_checkTerm_155 rfl ?_
  refine v_iconst C (-1) dX4_checkTerm_157 (by decide) ?_
  refine v_icmp_ne C 163 dX4_checkTerm_158 (by decide) (fun c8 => ?_) (fun c8 => ?_)
  · rw [if_neg c8] at h
    refine v_aload_n C 3 dX4_checkTerm_163 rfl rfl ?_
    refine v_aload_n C 3 dX4_checkTerm_164 rfl rfl ?_
    refine c_getI C fl_4_157 rfl (okS _ 43 (by decide) rfl) dX4_checkTerm_165 ?_
    refine v_iload_n C 4 dX4_checkTerm_168 rfl rfl ?_
    refine v_iload_n C 5 dX4_checkTerm_169 rfl rfl ?_
    obtain ⟨q8, hq8, h⟩ := bd_of h
    refine c_call C [.int (q7.2.1 43 9), .int x1, .int x2] [] (c_Reader_isRequired hA _ _ _ _ hq8) hY_Reader_isRequired rfl (by decide) (okS _ 43 (by decide) rfl) ml_4_160 ⟨(by omega : 344 + 1 ≤ 346 + (d + 1)), (by omega : 8 + (8 + 11) + 13700 ≤ 13752 + 40 * (d + 1))⟩ ⟨Nat.zero_le _, Nat.zero_le _⟩ rfl rfl (Nat.le_of_ble_eq_true rfl) dX4_checkTerm_170 (wc_D hA cy _) ?_
    refine v_if_eq C 181 dX4_checkTerm_173 (by decide) (fun c9 => ?_) (fun c9 => ?_)
    · rw [if_pos c9] at h
      refine v_aload_n C 3 dX4_checkTerm_181 rfl rfl ?_
      refine v_iload C 1 dX4_checkTerm_182 rfl ?_
      obtain ⟨q9, hq9, h⟩ := bd_of h
      refine c_call C [.int (q1.2.1 43 7)] [] (c_Reader_refuse hA _ _ hq9) hY_Reader_refuse rfl (by decide) (okS _ 43 (by decide) rfl) ml_4_95 ⟨(by omega : 0 + 1 ≤ 346 + (d + 1)), (by omega : 8 + (2 + 11) + 0 ≤ 13752 + 40 * (d + 1))⟩ ⟨Nat.zero_le _, Nat.zero_le _⟩ rfl rfl (Nat.le_of_ble_eq_true rfl) dX4_checkTerm_184 (wc_D hA cy _) ?_
      exact v_sub [3] rfl ((b_Reader_checkTerm_187 C hA hr_readType hr_readBinder hr_checkTerm hr_readPair hr_readFunction hr_inferTerm hr_readAnnotated hr_readApplied hr_readComponent) _ _ h)
    · rw [if_neg c9] at h
      refine v_iload C 0 dX4_checkTerm_176 rfl ?_
      refine v_goto C 187 dX4_checkTerm_178 (by decide) ?_
      exact v_sub [3] rfl ((b_Reader_checkTerm_187 C hA hr_readType hr_readBinder hr_checkTerm hr_readPair hr_readFunction hr_inferTerm hr_readAnnotated hr_readApplied hr_readComponent) _ _ h)
  · rw [if_pos c8] at h
    refine v_iconst C (-1) dX4_checkTerm_161 (by decide) ?_
    obtain rfl := Option.some.inj h
    exact v_iret C dX4_checkTerm_162
set_option maxHeartbeats 4000000 in
set_option maxRecDepth 20000 in
theorem b_Reader_readPair_94 {p : Program} {l : Launch} {e : Env} {s : State} {m : MethodId} {args : Array Value} {below : List Frame} {meth : Method} {c : Code} {D : va_G} {cy : Nat → ClassId} {ad : Nat → Nat} {q : Int32 × CS}  {r_readType : Int32 → CS → Option (Int32 × CS)} {r_readBinder : Int32 → Int32 → Int32 → CS → Option (Int32 × CS)} {r_checkTerm : Int32 → Int32 → CS → Option (Int32 × CS)} {r_readPair : Int32 → Int32 → CS → Option (Int32 × CS)} {r_readFunction : Int32 → Int32 → CS → Option (Int32 × CS)} {r_inferTerm : Int32 → CS → Option (Int32 × CS)} {r_readAnnotated : Int32 → CS → Option (Int32 × CS)} {r_readApplied : Int32 → CS → Option (Int32 × CS)} {r_readComponent : Int32 → CS → Option (Int32 × CS)} {d : Nat} (C : vC p s m args meth c cX4_readPair 7 (some .int) RX4 D (cyT cy)) (hA : adOK ad) (hr_readType : ∀ (z1 : Int32) (σ : CS) (q : Int32 × CS), r_readType z1 σ = some q → MV l D (cyT cy) (inC ad) yX4_readType cX4_readType 7 (some .int) (346 + d) (13752 + 40 * d) 0 0 [.ref (ad 43), .int z1] (wc cy ad σ) (some (.int q.1)) (wc cy ad q.2)) (hr_readBinder : ∀ (z1 : Int32) (z2 : Int32) (z3 : Int32) (σ : CS) (q : Int32 × CS), r_readBinder z1 z2 z3 σ = some q → MV l D (cyT cy) (inC ad) yX4_readBinder cX4_readBinder 7 (some .int) (346 + d) (13752 + 40 * d) 0 0 [.ref (ad 43), .int z1, .int z2, .int z3] (wc cy ad σ) (some (.int q.1)) (wc cy ad q.2)) (hr_checkTerm : ∀ (z1 : Int32) (z2 : Int32) (σ : CS) (q : Int32 × CS), r_checkTerm z1 z2 σ = some q → MV l D (cyT cy) (inC ad) yX4_checkTerm cX4_checkTerm 7 (some .int) (346 + d) (13752 + 40 * d) 0 0 [.ref (ad 43), .int z1, .int z2] (wc cy ad σ) (some (.int q.1)) (wc cy ad q.2)) (hr_readPair : ∀ (z1 : Int32) (z2 : Int32) (σ : CS) (q : Int32 × CS), r_readPair z1 z2 σ = some q → MV l D (cyT cy) (inC ad) yX4_readPair cX4_readPair 7 (some .int) (346 + d) (13752 + 40 * d) 0 0 [.ref (ad 43), .int z1, .int z2] (wc cy ad σ) (some (.int q.1)) (wc cy ad q.2)) (hr_readFunction : ∀ (z1 : Int32) (z2 : Int32) (σ : CS) (q : Int32 × CS), r_readFunction z1 z2 σ = some q → MV l D (cyT cy) (inC ad) yX4_readFunction cX4_readFunction 6 (some .int) (346 + d) (13752 + 40 * d) 0 0 [.ref (ad 43), .int z1, .int z2] (wc cy ad σ) (some (.int q.1)) (wc cy ad q.2)) (hr_inferTerm : ∀ (z1 : Int32) (σ : CS) (q : Int32 × CS), r_inferTerm z1 σ = some q → MV l D (cyT cy) (inC ad) yX4_inferTerm cX4_inferTerm 4 (some .int) (346 + d) (13752 + 40 * d) 0 0 [.ref (ad 43), .int z1] (wc cy ad σ) (some (.int q.1)) (wc cy ad q.2)) (hr_readAnnotated : ∀ (z1 : Int32) (σ : CS) (q : Int32 × CS), r_readAnnotated z1 σ = some q → MV l D (cyT cy) (inC ad) yX4_readAnnotated cX4_readAnnotated 4 (some .int) (346 + d) (13752 + 40 * d) 0 0 [.ref (ad 43), .int z1] (wc cy ad σ) (some (.int q.1)) (wc cy ad q.2)) (hr_readApplied : ∀ (z1 : Int32) (σ : CS) (q : Int32 × CS), r_readApplied z1 σ = some q → MV l D (cyT cy) (inC ad) yX4_readApplied cX4_readApplied 10 (some .int) (346 + d) (13752 + 40 * d) 0 0 [.ref (ad 43), .int z1] (wc cy ad σ) (some (.int q.1)) (wc cy ad q.2)) (hr_readComponent : ∀ (z1 : Int32) (σ : CS) (q : Int32 × CS), r_readComponent z1 σ = some q → MV l D (cyT cy) (inC ad) yX4_readComponent cX4_readComponent 9 (some .int) (346 + d) (13752 + 40 * d) 0 0 [.ref (ad 43), .int z1] (wc cy ad σ) (some (.int q.1)) (wc cy ad q.2)) : ∀ (s0 : Int32) (σ : CS), B_Reader_readPair_94 r_readType r_readBinder r_checkTerm r_readPair r_readFunction r_inferTerm r_readAnnotated r_readApplied r_readComponent s0 σ = some q → V p l e { frames := 346 + (d + 1), cells := 0, slots := 0, locals := 13752 + 40 * (d + 1) } s m args below meth c D (inC ad) 7 (MQ below (vQ D (inC ad) (some (.int q.1)) (wc cy ad q.2)) args s 0 0 (inC ad)) 0 0 (wc cy ad σ) 94 [(0, .ref (ad 43))] [.int s0] := by
  intro s0 σ h
  rw [B_Reader_readPair_94] at h
  obtain rfl := Option.some.inj h
  exact v_iret C dX4_readPair_94
set_option maxHeartbeats 4000000 in
set_option maxRecDepth 20000 in
theorem w_Reader_readPair {l : Launch} {D : va_G} {cy : Nat → ClassId} {ad : Nat → Nat} {q : Int32 × CS} {r_readType : Int32 → CS → Option (Int32 × CS)} {r_readBinder : Int32 → Int32 → Int32 → CS → Option (Int32 × CS)} {r_checkTerm : Int32 → Int32 → CS → Option (Int32 × CS)} {r_readPair : Int32 → Int32 → CS → Option (Int32 × CS)} {r_readFunction : Int32 → Int32 → CS → Option (Int32 × CS)} {r_inferTerm : Int32 → CS → Option (Int32 × CS)} {r_readAnnotated : Int32 → CS → Option (Int32 × CS)} {r_readApplied : Int32 → CS → Option (Int32 × CS)} {r_readComponent : Int32 → CS → Option (Int32 × CS)} {d : Nat} (hA : adOK ad) (hr_readType : ∀ (z1 : Int32) (σ : CS) (q : Int32 × CS), r_readType z1 σ = some q → MV l D (cyT cy) (inC ad) yX4_readType cX4_readType 7 (some .int) (346 + d) (13752 + 40 * d) 0 0 [.ref (ad 43), .int z1] (wc cy ad σ) (some (.int q.1)) (wc cy ad q.2)) (hr_readBinder : ∀ (z1 : Int32) (z2 : Int32) (z3 : Int32) (σ : CS) (q : Int32 × CS), r_readBinder z1 z2 z3 σ = some q → MV l D (cyT cy) (inC ad) yX4_readBinder cX4_readBinder 7 (some .int) (346 + d) (13752 + 40 * d) 0 0 [.ref (ad 43), .int z1, .int z2, .int z3] (wc cy ad σ) (some (.int q.1)) (wc cy ad q.2)) (hr_checkTerm : ∀ (z1 : Int32) (z2 : Int32) (σ : CS) (q : Int32 × CS), r_checkTerm z1 z2 σ = some q → MV l D (cyT cy) (inC ad) yX4_checkTerm cX4_checkTerm 7 (some .int) (346 + d) (13752 + 40 * d) 0 0 [.ref (ad 43), .int z1, .int z2] (wc cy ad σ) (some (.int q.1)) (wc cy ad q.2)) (hr_readPair : ∀ (z1 : Int32) (z2 : Int32) (σ : CS) (q : Int32 × CS), r_readPair z1 z2 σ = some q → MV l D (cyT cy) (inC ad) yX4_readPair cX4_readPair 7 (some .int) (346 + d) (13752 + 40 * d) 0 0 [.ref (ad 43), .int z1, .int z2] (wc cy ad σ) (some (.int q.1)) (wc cy ad q.2)) (hr_readFunction : ∀ (z1 : Int32) (z2 : Int32) (σ : CS) (q : Int32 × CS), r_readFunction z1 z2 σ = some q → MV l D (cyT cy) (inC ad) yX4_readFunction cX4_readFunction 6 (some .int) (346 + d) (13752 + 40 * d) 0 0 [.ref (ad 43), .int z1, .int z2] (wc cy ad σ) (some (.int q.1)) (wc cy ad q.2)) (hr_inferTerm : ∀ (z1 : Int32) (σ : CS) (q : Int32 × CS), r_inferTerm z1 σ = some q → MV l D (cyT cy) (inC ad) yX4_inferTerm cX4_inferTerm 4 (some .int) (346 + d) (13752 + 40 * d) 0 0 [.ref (ad 43), .int z1] (wc cy ad σ) (some (.int q.1)) (wc cy ad q.2)) (hr_readAnnotated : ∀ (z1 : Int32) (σ : CS) (q : Int32 × CS), r_readAnnotated z1 σ = some q → MV l D (cyT cy) (inC ad) yX4_readAnnotated cX4_readAnnotated 4 (some .int) (346 + d) (13752 + 40 * d) 0 0 [.ref (ad 43), .int z1] (wc cy ad σ) (some (.int q.1)) (wc cy ad q.2)) (hr_readApplied : ∀ (z1 : Int32) (σ : CS) (q : Int32 × CS), r_readApplied z1 σ = some q → MV l D (cyT cy) (inC ad) yX4_readApplied cX4_readApplied 10 (some .int) (346 + d) (13752 + 40 * d) 0 0 [.ref (ad 43), .int z1] (wc cy ad σ) (some (.int q.1)) (wc cy ad q.2)) (hr_readComponent : ∀ (z1 : Int32) (σ : CS) (q : Int32 × CS), r_readComponent z1 σ = some q → MV l D (cyT cy) (inC ad) yX4_readComponent cX4_readComponent 9 (some .int) (346 + d) (13752 + 40 * d) 0 0 [.ref (ad 43), .int z1] (wc cy ad σ) (some (.int q.1)) (wc cy ad q.2)) (x1 : Int32) (x2 : Int32) (σ : CS) (h : F_Reader_readPair r_readType r_readBinder r_checkTerm r_readPair r_readFunction r_inferTerm r_readAnnotated r_readApplied r_readComponent x1 x2 σ = some q) : MV l D (cyT cy) (inC ad) yX4_readPair cX4_readPair 7 (some .int) (346 + (d + 1)) (13752 + 40 * (d + 1)) 0 0 [.ref (ad 43), .int x1, .int x2] (wc cy ad σ) (some (.int q.1)) (wc cy ad q.2) := by
  refine MV.of (by decide) (wc_D hA cy σ) (Nat.le_of_ble_eq_true rfl) [(0, .ref (ad 43)), (1, .int x1), (2, .int x2)] rfl ?_
  intro p e s m args below meth c C
  rw [F_Reader_readPair] at h
  refine v_aload_n C 0 dX4_readPair_0 rfl rfl ?_
  refine c_getI C fl_4_41 rfl (okS _ 43 (by decide) rfl) dX4_readPair_1 ?_
  refine v_istore_n C [(3, .int (σ.1 43 7)), (0, .ref (ad 43)), (1, .int x1), (2, .int x2)] dX4_readPair_4 rfl (by decide) rfl ?_
  refine v_aload_n C 1 dX4_readPair_5 rfl rfl ?_
  refine v_dup C dX4_readPair_6 rfl ?_
  refine c_getI C fl_4_41 rfl (okS _ 43 (by decide) rfl) dX4_readPair_7 ?_
  refine v_iconst C 1 dX4_readPair_10 (by decide) ?_
  refine v_iadd C dX4_readPair_11 ?_
  refine c_putI C fl_4_41 fw_4_7 rfl (by decide) (okS _ 43 (by decide) rfl) dX4_readPair_12 ?_
  refine v_aload_n C 1 dX4_readPair_15 rfl rfl ?_
  refine v_aload_n C 1 dX4_readPair_16 rfl rfl ?_
  refine c_getS C 38 fl_4_29 rfl rfl (by decide) (okS _ 43 (by decide) rfl) dX4_readPair_17 ?_
  refine v_iload_n C 2 dX4_readPair_20 rfl rfl ?_
  obtain ⟨q1, hq1, h⟩ := bd_of h
  refine c_call C [.int x1] [.ref (ad 43)] (c_Values_firstType hA _ _ hq1) hY_Values_firstType rfl (by decide) (okS _ 38 (by decide) rfl) ml_4_181 ⟨(by omega : 2 + 1 ≤ 346 + (d + 1)), (by omega : 8 + (2 + 11) + 45 ≤ 13752 + 40 * (d + 1))⟩ ⟨Nat.zero_le _, Nat.zero_le _⟩ rfl rfl (Nat.le_of_ble_eq_true rfl) dX4_readPair_21 (wc_D hA cy _) ?_
  refine v_iload_n C 3 dX4_readPair_24 rfl rfl ?_
  obtain ⟨q2, hq2, h⟩ := bd_of h
  refine c_call C [.int q1.1, .int x2] [] (hr_checkTerm _ _ _ _ hq2) hY_Reader_checkTerm rfl (by decide) (okS _ 43 (by decide) rfl) ml_4_70 ⟨(by omega : (346 + d) + 1 ≤ 346 + (d + 1)), (by omega : 8 + (7 + 11) + (13752 + 40 * d) ≤ 13752 + 40 * (d + 1))⟩ ⟨Nat.zero_le _, Nat.zero_le _⟩ rfl rfl (Nat.le_of_ble_eq_true rfl) dX4_readPair_25 (wc_D hA cy _) ?_
  refine v_istore C [(4, .int q2.1), (3, .int (σ.1 43 7)), (0, .ref (ad 43)), (1, .int x1), (2, .int x2)] dX4_readPair_28 (by decide) rfl ?_
  refine v_iload C 0 dX4_readPair_30 rfl ?_
  refine v_iconst C (-1) dX4_readPair_32 (by decide) ?_
  refine v_icmp_ne C 38 dX4_readPair_33 (by decide) (fun c1 => ?_) (fun c1 => ?_)
  · rw [if_neg c1] at h
    refine v_aload_n C 2 dX4_readPair_38 rfl rfl ?_
    refine c_getS C 38 fl_4_29 rfl rfl (by decide) (okS _ 43 (by decide) rfl) dX4_readPair_39 ?_
    refine v_iload C 0 dX4_readPair_42 rfl ?_
    refine v_aload_n C 2 dX4_readPair_44 rfl rfl ?_
    refine v_iload_n C 4 dX4_readPair_45 rfl rfl ?_
    obtain ⟨q3, hq3, h⟩ := bd_of h
    refine c_call C [.int x2] [.int q2.1, .ref (ad 38)] (c_Reader_scope hA _ _ hq3) hY_Reader_scope rfl (by decide) (okS _ 43 (by decide) rfl) ml_4_142 ⟨(by omega : 0 + 1 ≤ 346 + (d + 1)), (by omega : 8 + (2 + 11) + 0 ≤ 13752 + 40 * (d + 1))⟩ ⟨Nat.zero_le _, Nat.zero_le _⟩ rfl rfl (Nat.le_of_ble_eq_true rfl) dX4_readPair_46 (wc_D hA cy _) ?_
    refine v_bipush C 104 dX4_readPair_49 (by decide) ?_
    obtain ⟨q4, hq4, h⟩ := bd_of h
    refine c_callN C [.int q2.1, .int q3.1, .int 104] [] (c_Values_evaluate hA _ _ _ _ hq4) hY_Values_evaluate rfl (by decide) (okS _ 38 (by decide) rfl) ml_4_184 ⟨(by omega : 222 + 1 ≤ 346 + (d + 1)), (by omega : 8 + (9 + 11) + 8846 ≤ 13752 + 40 * (d + 1))⟩ ⟨Nat.zero_le _, Nat.zero_le _⟩ rfl rfl (Nat.le_of_ble_eq_true rfl) dX4_readPair_51 (wc_D hA cy _) ?_
    refine v_istore C [(5, .int q4.1), (4, .int q2.1), (3, .int (σ.1 43 7)), (0, .ref (ad 43)), (1, .int x1), (2, .int x2)] dX4_readPair_54 (by decide) rfl ?_
    refine v_aload_n C 3 dX4_readPair_56 rfl rfl ?_
    refine v_aload_n C 3 dX4_readPair_57 rfl rfl ?_
    refine c_getS C 38 fl_4_29 rfl rfl (by decide) (okS _ 43 (by decide) rfl) dX4_readPair_58 ?_
    refine v_iload_n C 4 dX4_readPair_61 rfl rfl ?_
    refine v_iload C 0 dX4_readPair_62 rfl ?_
    obtain ⟨q5, hq5, h⟩ := bd_of h
    refine c_call C [.int x1, .int q4.1] [.ref (ad 43)] (c_Values_secondType hA _ _ _ hq5) hY_Values_secondType rfl (by decide) (okS _ 38 (by decide) rfl) ml_4_187 ⟨(by omega : 2 + 1 ≤ 346 + (d + 1)), (by omega : 8 + (4 + 11) + 45 ≤ 13752 + 40 * (d + 1))⟩ ⟨Nat.zero_le _, Nat.zero_le _⟩ rfl rfl (Nat.le_of_ble_eq_true rfl) dX4_readPair_64 (wc_D hA cy _) ?_
    refine v_iload_n C 5 dX4_readPair_67 rfl rfl ?_
    obtain ⟨q6, hq6, h⟩ := bd_of h
    refine c_call C [.int q5.1, .int x2] [] (hr_checkTerm _ _ _ _ hq6) hY_Reader_checkTerm rfl (by decide) (okS _ 43 (by decide) rfl) ml_4_70 ⟨(by omega : (346 + d) + 1 ≤ 346 + (d + 1)), (by omega : 8 + (7 + 11) + (13752 + 40 * d) ≤ 13752 + 40 * (d + 1))⟩ ⟨Nat.zero_le _, Nat.zero_le _⟩ rfl rfl (Nat.le_of_ble_eq_true rfl) dX4_readPair_68 (wc_D hA cy _) ?_
    refine v_istore C [(6, .int q6.1), (5, .int q4.1), (4, .int q2.1), (3, .int (σ.1 43 7)), (0, .ref (ad 43)), (1, .int x1), (2, .int x2)] dX4_readPair_71 (by decide) rfl ?_
    refine v_iload C 0 dX4_readPair_73 rfl ?_
    refine v_iconst C (-1) dX4_readPair_75 (by decide) ?_
    refine v_icmp_ne C 83 dX4_readPair_76 (by decide) (fun c2 => ?_) (fun c2 => ?_)
    · rw [if_neg c2] at h
      refine v_aload_n C 4 dX4_readPair_83 rfl rfl ?_
      refine v_bipush C 44 dX4_readPair_84 (by decide) ?_
      refine v_iload C 2 dX4_readPair_86 rfl ?_
      refine v_iload C 0 dX4_readPair_88 rfl ?_
      refine v_iload_n C 3 dX4_readPair_90 rfl rfl ?_
      obtain ⟨q7, hq7, h⟩ := bd_of h
      refine c_call C [.int 44, .int q2.1, .int q6.1, .int (σ.1 43 7)] [] (c_Reader_join hA _ _ _ _ _ hq7) hY_Reader_join rfl (by decide) (okS _ 43 (by decide) rfl) ml_4_139 ⟨(by omega : 4 + 1 ≤ 346 + (d + 1)), (by omega : 8 + (6 + 11) + 91 ≤ 13752 + 40 * (d + 1))⟩ ⟨Nat.zero_le _, Nat.zero_le _⟩ rfl rfl (Nat.le_of_ble_eq_true rfl) dX4_readPair_91 (wc_D hA cy _) ?_
      exact v_sub [4] rfl ((b_Reader_readPair_94 C hA hr_readType hr_readBinder hr_checkTerm hr_readPair hr_readFunction hr_inferTerm hr_readAnnotated hr_readApplied hr_readComponent) _ _ h)
    · rw [if_pos c2] at h
      refine v_iconst C (-1) dX4_readPair_79 (by decide) ?_
      refine v_goto C 94 dX4_readPair_80 (by decide) ?_
      exact v_sub [4] rfl ((b_Reader_readPair_94 C hA hr_readType hr_readBinder hr_checkTerm hr_readPair hr_readFunction hr_inferTerm hr_readAnnotated hr_readApplied hr_readComponent) _ _ h)
  · rw [if_pos c1] at h
    refine v_iconst C (-1) dX4_readPair_36 (by decide) ?_
    obtain rfl := Option.some.inj h
    exact v_iret C dX4_readPair_37
set_option maxHeartbeats 4000000 in
set_option maxRecDepth 20000 in
theorem b_Reader_readFunction_69 {p : Program} {l : Launch} {e : Env} {s : State} {m : MethodId} {args : Array Value} {below : List Frame} {meth : Method} {c : Code} {D : va_G} {cy : Nat → ClassId} {ad : Nat → Nat} {q : Int32 × CS}  {r_readType : Int32 → CS → Option (Int32 × CS)} {r_readBinder : Int32 → Int32 → Int32 → CS → Option (Int32 × CS)} {r_checkTerm : Int32 → Int32 → CS → Option (Int32 × CS)} {r_readPair : Int32 → Int32 → CS → Option (Int32 × CS)} {r_readFunction : Int32 → Int32 → CS → Option (Int32 × CS)} {r_inferTerm : Int32 → CS → Option (Int32 × CS)} {r_readAnnotated : Int32 → CS → Option (Int32 × CS)} {r_readApplied : Int32 → CS → Option (Int32 × CS)} {r_readComponent : Int32 → CS → Option (Int32 × CS)} {d : Nat} (C : vC p s m args meth c cX4_readFunction 6 (some .int) RX4 D (cyT cy)) (hA : adOK ad) (hr_readType : ∀ (z1 : Int32) (σ : CS) (q : Int32 × CS), r_readType z1 σ = some q → MV l D (cyT cy) (inC ad) yX4_readType cX4_readType 7 (some .int) (346 + d) (13752 + 40 * d) 0 0 [.ref (ad 43), .int z1] (wc cy ad σ) (some (.int q.1)) (wc cy ad q.2)) (hr_readBinder : ∀ (z1 : Int32) (z2 : Int32) (z3 : Int32) (σ : CS) (q : Int32 × CS), r_readBinder z1 z2 z3 σ = some q → MV l D (cyT cy) (inC ad) yX4_readBinder cX4_readBinder 7 (some .int) (346 + d) (13752 + 40 * d) 0 0 [.ref (ad 43), .int z1, .int z2, .int z3] (wc cy ad σ) (some (.int q.1)) (wc cy ad q.2)) (hr_checkTerm : ∀ (z1 : Int32) (z2 : Int32) (σ : CS) (q : Int32 × CS), r_checkTerm z1 z2 σ = some q → MV l D (cyT cy) (inC ad) yX4_checkTerm cX4_checkTerm 7 (some .int) (346 + d) (13752 + 40 * d) 0 0 [.ref (ad 43), .int z1, .int z2] (wc cy ad σ) (some (.int q.1)) (wc cy ad q.2)) (hr_readPair : ∀ (z1 : Int32) (z2 : Int32) (σ : CS) (q : Int32 × CS), r_readPair z1 z2 σ = some q → MV l D (cyT cy) (inC ad) yX4_readPair cX4_readPair 7 (some .int) (346 + d) (13752 + 40 * d) 0 0 [.ref (ad 43), .int z1, .int z2] (wc cy ad σ) (some (.int q.1)) (wc cy ad q.2)) (hr_readFunction : ∀ (z1 : Int32) (z2 : Int32) (σ : CS) (q : Int32 × CS), r_readFunction z1 z2 σ = some q → MV l D (cyT cy) (inC ad) yX4_readFunction cX4_readFunction 6 (some .int) (346 + d) (13752 + 40 * d) 0 0 [.ref (ad 43), .int z1, .int z2] (wc cy ad σ) (some (.int q.1)) (wc cy ad q.2)) (hr_inferTerm : ∀ (z1 : Int32) (σ : CS) (q : Int32 × CS), r_inferTerm z1 σ = some q → MV l D (cyT cy) (inC ad) yX4_inferTerm cX4_inferTerm 4 (some .int) (346 + d) (13752 + 40 * d) 0 0 [.ref (ad 43), .int z1] (wc cy ad σ) (some (.int q.1)) (wc cy ad q.2)) (hr_readAnnotated : ∀ (z1 : Int32) (σ : CS) (q : Int32 × CS), r_readAnnotated z1 σ = some q → MV l D (cyT cy) (inC ad) yX4_readAnnotated cX4_readAnnotated 4 (some .int) (346 + d) (13752 + 40 * d) 0 0 [.ref (ad 43), .int z1] (wc cy ad σ) (some (.int q.1)) (wc cy ad q.2)) (hr_readApplied : ∀ (z1 : Int32) (σ : CS) (q : Int32 × CS), r_readApplied z1 σ = some q → MV l D (cyT cy) (inC ad) yX4_readApplied cX4_readApplied 10 (some .int) (346 + d) (13752 + 40 * d) 0 0 [.ref (ad 43), .int z1] (wc cy ad σ) (some (.int q.1)) (wc cy ad q.2)) (hr_readComponent : ∀ (z1 : Int32) (σ : CS) (q : Int32 × CS), r_readComponent z1 σ = some q → MV l D (cyT cy) (inC ad) yX4_readComponent cX4_readComponent 9 (some .int) (346 + d) (13752 + 40 * d) 0 0 [.ref (ad 43), .int z1] (wc cy ad σ) (some (.int q.1)) (wc cy ad q.2)) : ∀ (s0 : Int32) (σ : CS), B_Reader_readFunction_69 r_readType r_readBinder r_checkTerm r_readPair r_readFunction r_inferTerm r_readAnnotated r_readApplied r_readComponent s0 σ = some q → V p l e { frames := 346 + (d + 1), cells := 0, slots := 0, locals := 13752 + 40 * (d + 1) } s m args below meth c D (inC ad) 6 (MQ below (vQ D (inC ad) (some (.int q.1)) (wc cy ad q.2)) args s 0 0 (inC ad)) 0 0 (wc cy ad σ) 69 [(0, .ref (ad 43))] [.int s0] := by
  intro s0 σ h
  rw [B_Reader_readFunction_69] at h
  obtain rfl := Option.some.inj h
  exact v_iret C dX4_readFunction_69
set_option maxHeartbeats 4000000 in
set_option maxRecDepth 20000 in
theorem w_Reader_readFunction {l : Launch} {D : va_G} {cy : Nat → ClassId} {ad : Nat → Nat} {q : Int32 × CS} {r_readType : Int32 → CS → Option (Int32 × CS)} {r_readBinder : Int32 → Int32 → Int32 → CS → Option (Int32 × CS)} {r_checkTerm : Int32 → Int32 → CS → Option (Int32 × CS)} {r_readPair : Int32 → Int32 → CS → Option (Int32 × CS)} {r_readFunction : Int32 → Int32 → CS → Option (Int32 × CS)} {r_inferTerm : Int32 → CS → Option (Int32 × CS)} {r_readAnnotated : Int32 → CS → Option (Int32 × CS)} {r_readApplied : Int32 → CS → Option (Int32 × CS)} {r_readComponent : Int32 → CS → Option (Int32 × CS)} {d : Nat} (hA : adOK ad) (hr_readType : ∀ (z1 : Int32) (σ : CS) (q : Int32 × CS), r_readType z1 σ = some q → MV l D (cyT cy) (inC ad) yX4_readType cX4_readType 7 (some .int) (346 + d) (13752 + 40 * d) 0 0 [.ref (ad 43), .int z1] (wc cy ad σ) (some (.int q.1)) (wc cy ad q.2)) (hr_readBinder : ∀ (z1 : Int32) (z2 : Int32) (z3 : Int32) (σ : CS) (q : Int32 × CS), r_readBinder z1 z2 z3 σ = some q → MV l D (cyT cy) (inC ad) yX4_readBinder cX4_readBinder 7 (some .int) (346 + d) (13752 + 40 * d) 0 0 [.ref (ad 43), .int z1, .int z2, .int z3] (wc cy ad σ) (some (.int q.1)) (wc cy ad q.2)) (hr_checkTerm : ∀ (z1 : Int32) (z2 : Int32) (σ : CS) (q : Int32 × CS), r_checkTerm z1 z2 σ = some q → MV l D (cyT cy) (inC ad) yX4_checkTerm cX4_checkTerm 7 (some .int) (346 + d) (13752 + 40 * d) 0 0 [.ref (ad 43), .int z1, .int z2] (wc cy ad σ) (some (.int q.1)) (wc cy ad q.2)) (hr_readPair : ∀ (z1 : Int32) (z2 : Int32) (σ : CS) (q : Int32 × CS), r_readPair z1 z2 σ = some q → MV l D (cyT cy) (inC ad) yX4_readPair cX4_readPair 7 (some .int) (346 + d) (13752 + 40 * d) 0 0 [.ref (ad 43), .int z1, .int z2] (wc cy ad σ) (some (.int q.1)) (wc cy ad q.2)) (hr_readFunction : ∀ (z1 : Int32) (z2 : Int32) (σ : CS) (q : Int32 × CS), r_readFunction z1 z2 σ = some q → MV l D (cyT cy) (inC ad) yX4_readFunction cX4_readFunction 6 (some .int) (346 + d) (13752 + 40 * d) 0 0 [.ref (ad 43), .int z1, .int z2] (wc cy ad σ) (some (.int q.1)) (wc cy ad q.2)) (hr_inferTerm : ∀ (z1 : Int32) (σ : CS) (q : Int32 × CS), r_inferTerm z1 σ = some q → MV l D (cyT cy) (inC ad) yX4_inferTerm cX4_inferTerm 4 (some .int) (346 + d) (13752 + 40 * d) 0 0 [.ref (ad 43), .int z1] (wc cy ad σ) (some (.int q.1)) (wc cy ad q.2)) (hr_readAnnotated : ∀ (z1 : Int32) (σ : CS) (q : Int32 × CS), r_readAnnotated z1 σ = some q → MV l D (cyT cy) (inC ad) yX4_readAnnotated cX4_readAnnotated 4 (some .int) (346 + d) (13752 + 40 * d) 0 0 [.ref (ad 43), .int z1] (wc cy ad σ) (some (.int q.1)) (wc cy ad q.2)) (hr_readApplied : ∀ (z1 : Int32) (σ : CS) (q : Int32 × CS), r_readApplied z1 σ = some q → MV l D (cyT cy) (inC ad) yX4_readApplied cX4_readApplied 10 (some .int) (346 + d) (13752 + 40 * d) 0 0 [.ref (ad 43), .int z1] (wc cy ad σ) (some (.int q.1)) (wc cy ad q.2)) (hr_readComponent : ∀ (z1 : Int32) (σ : CS) (q : Int32 × CS), r_readComponent z1 σ = some q → MV l D (cyT cy) (inC ad) yX4_readComponent cX4_readComponent 9 (some .int) (346 + d) (13752 + 40 * d) 0 0 [.ref (ad 43), .int z1] (wc cy ad σ) (some (.int q.1)) (wc cy ad q.2)) (x1 : Int32) (x2 : Int32) (σ : CS) (h : F_Reader_readFunction r_readType r_readBinder r_checkTerm r_readPair r_readFunction r_inferTerm r_readAnnotated r_readApplied r_readComponent x1 x2 σ = some q) : MV l D (cyT cy) (inC ad) yX4_readFunction cX4_readFunction 6 (some .int) (346 + (d + 1)) (13752 + 40 * (d + 1)) 0 0 [.ref (ad 43), .int x1, .int x2] (wc cy ad σ) (some (.int q.1)) (wc cy ad q.2) := by
  refine MV.of (by decide) (wc_D hA cy σ) (Nat.le_of_ble_eq_true rfl) [(0, .ref (ad 43)), (1, .int x1), (2, .int x2)] rfl ?_
  intro p e s m args below meth c C
  rw [F_Reader_readFunction] at h
  refine v_aload_n C 0 dX4_readFunction_0 rfl rfl ?_
  refine c_getI C fl_4_41 rfl (okS _ 43 (by decide) rfl) dX4_readFunction_1 ?_
  refine v_istore_n C [(3, .int (σ.1 43 7)), (0, .ref (ad 43)), (1, .int x1), (2, .int x2)] dX4_readFunction_4 rfl (by decide) rfl ?_
  refine v_aload_n C 1 dX4_readFunction_5 rfl rfl ?_
  refine v_dup C dX4_readFunction_6 rfl ?_
  refine c_getI C fl_4_41 rfl (okS _ 43 (by decide) rfl) dX4_readFunction_7 ?_
  refine v_iconst C 1 dX4_readFunction_10 (by decide) ?_
  refine v_iadd C dX4_readFunction_11 ?_
  refine c_putI C fl_4_41 fw_4_7 rfl (by decide) (okS _ 43 (by decide) rfl) dX4_readFunction_12 ?_
  refine v_aload_n C 1 dX4_readFunction_15 rfl rfl ?_
  refine v_aload_n C 1 dX4_readFunction_16 rfl rfl ?_
  refine c_getS C 38 fl_4_29 rfl rfl (by decide) (okS _ 43 (by decide) rfl) dX4_readFunction_17 ?_
  refine v_iload_n C 2 dX4_readFunction_20 rfl rfl ?_
  obtain ⟨q1, hq1, h⟩ := bd_of h
  refine c_call C [.int x1] [.ref (ad 43)] (c_Values_firstType hA _ _ hq1) hY_Values_firstType rfl (by decide) (okS _ 38 (by decide) rfl) ml_4_181 ⟨(by omega : 2 + 1 ≤ 346 + (d + 1)), (by omega : 8 + (2 + 11) + 45 ≤ 13752 + 40 * (d + 1))⟩ ⟨Nat.zero_le _, Nat.zero_le _⟩ rfl rfl (Nat.le_of_ble_eq_true rfl) dX4_readFunction_21 (wc_D hA cy _) ?_
  refine v_iload_n C 3 dX4_readFunction_24 rfl rfl ?_
  obtain ⟨q2, hq2, h⟩ := bd_of h
  refine c_call C [.int q1.1, .int x2] [] (c_Reader_bind hA _ _ _ hq2) hY_Reader_bind rfl (by decide) (okS _ 43 (by decide) rfl) ml_4_145 ⟨(by omega : 2 + 1 ≤ 346 + (d + 1)), (by omega : 8 + (4 + 11) + 45 ≤ 13752 + 40 * (d + 1))⟩ ⟨Nat.zero_le _, Nat.zero_le _⟩ rfl rfl (Nat.le_of_ble_eq_true rfl) dX4_readFunction_25 (wc_D hA cy _) ?_
  refine v_istore C [(4, .int q2.1), (3, .int (σ.1 43 7)), (0, .ref (ad 43)), (1, .int x1), (2, .int x2)] dX4_readFunction_28 (by decide) rfl ?_
  refine v_aload_n C 2 dX4_readFunction_30 rfl rfl ?_
  refine v_aload_n C 2 dX4_readFunction_31 rfl rfl ?_
  refine c_getS C 38 fl_4_29 rfl rfl (by decide) (okS _ 43 (by decide) rfl) dX4_readFunction_32 ?_
  refine v_iload_n C 3 dX4_readFunction_35 rfl rfl ?_
  refine v_iload C 0 dX4_readFunction_36 rfl ?_
  obtain ⟨q3, hq3, h⟩ := bd_of h
  refine c_call C [.int x1, .int q2.1] [.ref (ad 43)] (c_Values_secondType hA _ _ _ hq3) hY_Values_secondType rfl (by decide) (okS _ 38 (by decide) rfl) ml_4_187 ⟨(by omega : 2 + 1 ≤ 346 + (d + 1)), (by omega : 8 + (4 + 11) + 45 ≤ 13752 + 40 * (d + 1))⟩ ⟨Nat.zero_le _, Nat.zero_le _⟩ rfl rfl (Nat.le_of_ble_eq_true rfl) dX4_readFunction_38 (wc_D hA cy _) ?_
  refine v_iload_n C 4 dX4_readFunction_41 rfl rfl ?_
  refine v_iconst C 1 dX4_readFunction_42 (by decide) ?_
  refine v_iadd C dX4_readFunction_43 ?_
  obtain ⟨q4, hq4, h⟩ := bd_of h
  refine c_call C [.int q3.1, .int (x2 + 1)] [] (hr_checkTerm _ _ _ _ hq4) hY_Reader_checkTerm rfl (by decide) (okS _ 43 (by decide) rfl) ml_4_70 ⟨(by omega : (346 + d) + 1 ≤ 346 + (d + 1)), (by omega : 8 + (7 + 11) + (13752 + 40 * d) ≤ 13752 + 40 * (d + 1))⟩ ⟨Nat.zero_le _, Nat.zero_le _⟩ rfl rfl (Nat.le_of_ble_eq_true rfl) dX4_readFunction_44 (wc_D hA cy _) ?_
  refine v_istore C [(5, .int q4.1), (4, .int q2.1), (3, .int (σ.1 43 7)), (0, .ref (ad 43)), (1, .int x1), (2, .int x2)] dX4_readFunction_47 (by decide) rfl ?_
  refine v_iload C 0 dX4_readFunction_49 rfl ?_
  refine v_iconst C (-1) dX4_readFunction_51 (by decide) ?_
  refine v_icmp_ne C 59 dX4_readFunction_52 (by decide) (fun c1 => ?_) (fun c1 => ?_)
  · rw [if_neg c1] at h
    refine v_aload_n C 3 dX4_readFunction_59 rfl rfl ?_
    refine v_bipush C 92 dX4_readFunction_60 (by decide) ?_
    refine v_iload C 0 dX4_readFunction_62 rfl ?_
    refine v_iconst C (-1) dX4_readFunction_64 (by decide) ?_
    refine v_iload_n C 2 dX4_readFunction_65 rfl rfl ?_
    obtain ⟨q5, hq5, h⟩ := bd_of h
    refine c_call C [.int 92, .int q4.1, .int (-1), .int (σ.1 43 7)] [] (c_Reader_join hA _ _ _ _ _ hq5) hY_Reader_join rfl (by decide) (okS _ 43 (by decide) rfl) ml_4_139 ⟨(by omega : 4 + 1 ≤ 346 + (d + 1)), (by omega : 8 + (6 + 11) + 91 ≤ 13752 + 40 * (d + 1))⟩ ⟨Nat.zero_le _, Nat.zero_le _⟩ rfl rfl (Nat.le_of_ble_eq_true rfl) dX4_readFunction_66 (wc_D hA cy _) ?_
    exact v_sub [3] rfl ((b_Reader_readFunction_69 C hA hr_readType hr_readBinder hr_checkTerm hr_readPair hr_readFunction hr_inferTerm hr_readAnnotated hr_readApplied hr_readComponent) _ _ h)
  · rw [if_pos c1] at h
    refine v_iconst C (-1) dX4_readFunction_55 (by decide) ?_
    refine v_goto C 69 dX4_readFunction_56 (by decide) ?_
    exact v_sub [3] rfl ((b_Reader_readFunction_69 C hA hr_readType hr_readBinder hr_checkTerm hr_readPair hr_readFunction hr_inferTerm hr_readAnnotated hr_readApplied hr_readComponent) _ _ h)
set_option maxHeartbeats 4000000 in
set_option maxRecDepth 20000 in
theorem b_Reader_inferTerm_106 {p : Program} {l : Launch} {e : Env} {s : State} {m : MethodId} {args : Array Value} {below : List Frame} {meth : Method} {c : Code} {D : va_G} {cy : Nat → ClassId} {ad : Nat → Nat} {q : Int32 × CS}  {r_readType : Int32 → CS → Option (Int32 × CS)} {r_readBinder : Int32 → Int32 → Int32 → CS → Option (Int32 × CS)} {r_checkTerm : Int32 → Int32 → CS → Option (Int32 × CS)} {r_readPair : Int32 → Int32 → CS → Option (Int32 × CS)} {r_readFunction : Int32 → Int32 → CS → Option (Int32 × CS)} {r_inferTerm : Int32 → CS → Option (Int32 × CS)} {r_readAnnotated : Int32 → CS → Option (Int32 × CS)} {r_readApplied : Int32 → CS → Option (Int32 × CS)} {r_readComponent : Int32 → CS → Option (Int32 × CS)} {d : Nat} (C : vC p s m args meth c cX4_inferTerm 4 (some .int) RX4 D (cyT cy)) (hA : adOK ad) (hr_readType : ∀ (z1 : Int32) (σ : CS) (q : Int32 × CS), r_readType z1 σ = some q → MV l D (cyT cy) (inC ad) yX4_readType cX4_readType 7 (some .int) (346 + d) (13752 + 40 * d) 0 0 [.ref (ad 43), .int z1] (wc cy ad σ) (some (.int q.1)) (wc cy ad q.2)) (hr_readBinder : ∀ (z1 : Int32) (z2 : Int32) (z3 : Int32) (σ : CS) (q : Int32 × CS), r_readBinder z1 z2 z3 σ = some q → MV l D (cyT cy) (inC ad) yX4_readBinder cX4_readBinder 7 (some .int) (346 + d) (13752 + 40 * d) 0 0 [.ref (ad 43), .int z1, .int z2, .int z3] (wc cy ad σ) (some (.int q.1)) (wc cy ad q.2)) (hr_checkTerm : ∀ (z1 : Int32) (z2 : Int32) (σ : CS) (q : Int32 × CS), r_checkTerm z1 z2 σ = some q → MV l D (cyT cy) (inC ad) yX4_checkTerm cX4_checkTerm 7 (some .int) (346 + d) (13752 + 40 * d) 0 0 [.ref (ad 43), .int z1, .int z2] (wc cy ad σ) (some (.int q.1)) (wc cy ad q.2)) (hr_readPair : ∀ (z1 : Int32) (z2 : Int32) (σ : CS) (q : Int32 × CS), r_readPair z1 z2 σ = some q → MV l D (cyT cy) (inC ad) yX4_readPair cX4_readPair 7 (some .int) (346 + d) (13752 + 40 * d) 0 0 [.ref (ad 43), .int z1, .int z2] (wc cy ad σ) (some (.int q.1)) (wc cy ad q.2)) (hr_readFunction : ∀ (z1 : Int32) (z2 : Int32) (σ : CS) (q : Int32 × CS), r_readFunction z1 z2 σ = some q → MV l D (cyT cy) (inC ad) yX4_readFunction cX4_readFunction 6 (some .int) (346 + d) (13752 + 40 * d) 0 0 [.ref (ad 43), .int z1, .int z2] (wc cy ad σ) (some (.int q.1)) (wc cy ad q.2)) (hr_inferTerm : ∀ (z1 : Int32) (σ : CS) (q : Int32 × CS), r_inferTerm z1 σ = some q → MV l D (cyT cy) (inC ad) yX4_inferTerm cX4_inferTerm 4 (some .int) (346 + d) (13752 + 40 * d) 0 0 [.ref (ad 43), .int z1] (wc cy ad σ) (some (.int q.1)) (wc cy ad q.2)) (hr_readAnnotated : ∀ (z1 : Int32) (σ : CS) (q : Int32 × CS), r_readAnnotated z1 σ = some q → MV l D (cyT cy) (inC ad) yX4_readAnnotated cX4_readAnnotated 4 (some .int) (346 + d) (13752 + 40 * d) 0 0 [.ref (ad 43), .int z1] (wc cy ad σ) (some (.int q.1)) (wc cy ad q.2)) (hr_readApplied : ∀ (z1 : Int32) (σ : CS) (q : Int32 × CS), r_readApplied z1 σ = some q → MV l D (cyT cy) (inC ad) yX4_readApplied cX4_readApplied 10 (some .int) (346 + d) (13752 + 40 * d) 0 0 [.ref (ad 43), .int z1] (wc cy ad σ) (some (.int q.1)) (wc cy ad q.2)) (hr_readComponent : ∀ (z1 : Int32) (σ : CS) (q : Int32 × CS), r_readComponent z1 σ = some q → MV l D (cyT cy) (inC ad) yX4_readComponent cX4_readComponent 9 (some .int) (346 + d) (13752 + 40 * d) 0 0 [.ref (ad 43), .int z1] (wc cy ad σ) (some (.int q.1)) (wc cy ad q.2)) : ∀ (x2 : Int32) (x3 : Int32) (σ : CS), B_Reader_inferTerm_106 r_readType r_readBinder r_checkTerm r_readPair r_readFunction r_inferTerm r_readAnnotated r_readApplied r_readComponent x2 x3 σ = some q → V p l e { frames := 346 + (d + 1), cells := 0, slots := 0, locals := 13752 + 40 * (d + 1) } s m args below meth c D (inC ad) 4 (MQ below (vQ D (inC ad) (some (.int q.1)) (wc cy ad q.2)) args s 0 0 (inC ad)) 0 0 (wc cy ad σ) 106 [(0, .ref (ad 43)), (2, .int x2), (3, .int x3)] [] := by
  intro x2 x3 σ h
  rw [B_Reader_inferTerm_106] at h
  refine v_aload_n C 0 dX4_inferTerm_106 rfl rfl ?_
  refine c_getS C 38 fl_4_29 rfl rfl (by decide) (okS _ 43 (by decide) rfl) dX4_inferTerm_107 ?_
  refine v_iload_n C 1 dX4_inferTerm_110 rfl rfl ?_
  obtain ⟨q1, hq1, h⟩ := bd_of h
  refine c_call C [.int x2] [] (c_Values_release hA _ _ hq1) hY_Values_release rfl (by decide) (okS _ 38 (by decide) rfl) ml_4_55 ⟨(by omega : 0 + 1 ≤ 346 + (d + 1)), (by omega : 8 + (2 + 11) + 0 ≤ 13752 + 40 * (d + 1))⟩ ⟨Nat.zero_le _, Nat.zero_le _⟩ rfl rfl (Nat.le_of_ble_eq_true rfl) dX4_inferTerm_111 (wc_D hA cy _) ?_
  refine v_iload_n C 2 dX4_inferTerm_114 rfl rfl ?_
  obtain rfl := Option.some.inj h
  exact v_iret C dX4_inferTerm_115
set_option maxHeartbeats 4000000 in
set_option maxRecDepth 20000 in
theorem w_Reader_inferTerm {l : Launch} {D : va_G} {cy : Nat → ClassId} {ad : Nat → Nat} {q : Int32 × CS} {r_readType : Int32 → CS → Option (Int32 × CS)} {r_readBinder : Int32 → Int32 → Int32 → CS → Option (Int32 × CS)} {r_checkTerm : Int32 → Int32 → CS → Option (Int32 × CS)} {r_readPair : Int32 → Int32 → CS → Option (Int32 × CS)} {r_readFunction : Int32 → Int32 → CS → Option (Int32 × CS)} {r_inferTerm : Int32 → CS → Option (Int32 × CS)} {r_readAnnotated : Int32 → CS → Option (Int32 × CS)} {r_readApplied : Int32 → CS → Option (Int32 × CS)} {r_readComponent : Int32 → CS → Option (Int32 × CS)} {d : Nat} (hA : adOK ad) (hr_readType : ∀ (z1 : Int32) (σ : CS) (q : Int32 × CS), r_readType z1 σ = some q → MV l D (cyT cy) (inC ad) yX4_readType cX4_readType 7 (some .int) (346 + d) (13752 + 40 * d) 0 0 [.ref (ad 43), .int z1] (wc cy ad σ) (some (.int q.1)) (wc cy ad q.2)) (hr_readBinder : ∀ (z1 : Int32) (z2 : Int32) (z3 : Int32) (σ : CS) (q : Int32 × CS), r_readBinder z1 z2 z3 σ = some q → MV l D (cyT cy) (inC ad) yX4_readBinder cX4_readBinder 7 (some .int) (346 + d) (13752 + 40 * d) 0 0 [.ref (ad 43), .int z1, .int z2, .int z3] (wc cy ad σ) (some (.int q.1)) (wc cy ad q.2)) (hr_checkTerm : ∀ (z1 : Int32) (z2 : Int32) (σ : CS) (q : Int32 × CS), r_checkTerm z1 z2 σ = some q → MV l D (cyT cy) (inC ad) yX4_checkTerm cX4_checkTerm 7 (some .int) (346 + d) (13752 + 40 * d) 0 0 [.ref (ad 43), .int z1, .int z2] (wc cy ad σ) (some (.int q.1)) (wc cy ad q.2)) (hr_readPair : ∀ (z1 : Int32) (z2 : Int32) (σ : CS) (q : Int32 × CS), r_readPair z1 z2 σ = some q → MV l D (cyT cy) (inC ad) yX4_readPair cX4_readPair 7 (some .int) (346 + d) (13752 + 40 * d) 0 0 [.ref (ad 43), .int z1, .int z2] (wc cy ad σ) (some (.int q.1)) (wc cy ad q.2)) (hr_readFunction : ∀ (z1 : Int32) (z2 : Int32) (σ : CS) (q : Int32 × CS), r_readFunction z1 z2 σ = some q → MV l D (cyT cy) (inC ad) yX4_readFunction cX4_readFunction 6 (some .int) (346 + d) (13752 + 40 * d) 0 0 [.ref (ad 43), .int z1, .int z2] (wc cy ad σ) (some (.int q.1)) (wc cy ad q.2)) (hr_inferTerm : ∀ (z1 : Int32) (σ : CS) (q : Int32 × CS), r_inferTerm z1 σ = some q → MV l D (cyT cy) (inC ad) yX4_inferTerm cX4_inferTerm 4 (some .int) (346 + d) (13752 + 40 * d) 0 0 [.ref (ad 43), .int z1] (wc cy ad σ) (some (.int q.1)) (wc cy ad q.2)) (hr_readAnnotated : ∀ (z1 : Int32) (σ : CS) (q : Int32 × CS), r_readAnnotated z1 σ = some q → MV l D (cyT cy) (inC ad) yX4_readAnnotated cX4_readAnnotated 4 (some .int) (346 + d) (13752 + 40 * d) 0 0 [.ref (ad 43), .int z1] (wc cy ad σ) (some (.int q.1)) (wc cy ad q.2)) (hr_readApplied : ∀ (z1 : Int32) (σ : CS) (q : Int32 × CS), r_readApplied z1 σ = some q → MV l D (cyT cy) (inC ad) yX4_readApplied cX4_readApplied 10 (some .int) (346 + d) (13752 + 40 * d) 0 0 [.ref (ad 43), .int z1] (wc cy ad σ) (some (.int q.1)) (wc cy ad q.2)) (hr_readComponent : ∀ (z1 : Int32) (σ : CS) (q : Int32 × CS), r_readComponent z1 σ = some q → MV l D (cyT cy) (inC ad) yX4_readComponent cX4_readComponent 9 (some .int) (346 + d) (13752 + 40 * d) 0 0 [.ref (ad 43), .int z1] (wc cy ad σ) (some (.int q.1)) (wc cy ad q.2)) (x1 : Int32) (σ : CS) (h : F_Reader_inferTerm r_readType r_readBinder r_checkTerm r_readPair r_readFunction r_inferTerm r_readAnnotated r_readApplied r_readComponent x1 σ = some q) : MV l D (cyT cy) (inC ad) yX4_inferTerm cX4_inferTerm 4 (some .int) (346 + (d + 1)) (13752 + 40 * (d + 1)) 0 0 [.ref (ad 43), .int x1] (wc cy ad σ) (some (.int q.1)) (wc cy ad q.2) := by
  refine MV.of (by decide) (wc_D hA cy σ) (Nat.le_of_ble_eq_true rfl) [(0, .ref (ad 43)), (1, .int x1)] rfl ?_
  intro p e s m args below meth c C
  rw [F_Reader_inferTerm] at h
  refine v_aload_n C 0 dX4_inferTerm_0 rfl rfl ?_
  refine c_getS C 38 fl_4_29 rfl rfl (by decide) (okS _ 43 (by decide) rfl) dX4_inferTerm_1 ?_
  refine c_getIN C fl_4_167 rfl (okS _ 38 (by decide) rfl) dX4_inferTerm_4 ?_
  refine v_istore_n C [(2, .int (σ.1 38 4)), (0, .ref (ad 43)), (1, .int x1)] dX4_inferTerm_7 rfl (by decide) rfl ?_
  refine v_aload_n C 1 dX4_inferTerm_8 rfl rfl ?_
  obtain ⟨q1, hq1, h⟩ := bd_of h
  refine c_call C [] [] (c_Reader_peek hA _ hq1) hY_Reader_peek rfl (by decide) (okS _ 43 (by decide) rfl) ml_4_98 ⟨(by omega : 0 + 1 ≤ 346 + (d + 1)), (by omega : 8 + (1 + 11) + 0 ≤ 13752 + 40 * (d + 1))⟩ ⟨Nat.zero_le _, Nat.zero_le _⟩ rfl rfl (Nat.le_of_ble_eq_true rfl) dX4_inferTerm_9 (wc_D hA cy _) ?_
  by_cases c1 : q1.1 = 35
  · rw [if_pos c1] at h
    refine v_lookup C 64 dX4_inferTerm_12 (by decide) (by rw [c1]; try rfl) (by decide) ?_
    refine v_aload_n C 1 dX4_inferTerm_64 rfl rfl ?_
    refine v_iload_n C 2 dX4_inferTerm_65 rfl rfl ?_
    obtain ⟨q2, hq2, h⟩ := bd_of h
    refine c_call C [.int x1] [] (c_Reader_readEntry hA _ _ hq2) hY_Reader_readEntry rfl (by decide) (okS _ 43 (by decide) rfl) ml_4_190 ⟨(by omega : 345 + 1 ≤ 346 + (d + 1)), (by omega : 8 + (7 + 11) + 13726 ≤ 13752 + 40 * (d + 1))⟩ ⟨Nat.zero_le _, Nat.zero_le _⟩ rfl rfl (Nat.le_of_ble_eq_true rfl) dX4_inferTerm_66 (wc_D hA cy _) ?_
    refine v_istore_n C [(3, .int q2.1), (2, .int (σ.1 38 4)), (0, .ref (ad 43)), (1, .int x1)] dX4_inferTerm_69 rfl (by decide) rfl ?_
    refine v_goto C 106 dX4_inferTerm_70 (by decide) ?_
    exact v_sub [2, 1, 0] rfl ((b_Reader_inferTerm_106 C hA hr_readType hr_readBinder hr_checkTerm hr_readPair hr_readFunction hr_inferTerm hr_readAnnotated hr_readApplied hr_readComponent) _ _ _ h)
  rw [if_neg c1] at h
  by_cases c2 : q1.1 = 46
  · rw [if_pos c2] at h
    refine v_lookup C 82 dX4_inferTerm_12 (by decide) (by rw [c2]; try rfl) (by decide) ?_
    refine v_aload_n C 1 dX4_inferTerm_82 rfl rfl ?_
    refine v_iload_n C 2 dX4_inferTerm_83 rfl rfl ?_
    obtain ⟨q3, hq3, h⟩ := bd_of h
    refine c_call C [.int x1] [] (hr_readApplied _ _ _ hq3) hY_Reader_readApplied rfl (by decide) (okS _ 43 (by decide) rfl) ml_4_196 ⟨(by omega : (346 + d) + 1 ≤ 346 + (d + 1)), (by omega : 8 + (10 + 11) + (13752 + 40 * d) ≤ 13752 + 40 * (d + 1))⟩ ⟨Nat.zero_le _, Nat.zero_le _⟩ rfl rfl (Nat.le_of_ble_eq_true rfl) dX4_inferTerm_84 (wc_D hA cy _) ?_
    refine v_istore_n C [(3, .int q3.1), (2, .int (σ.1 38 4)), (0, .ref (ad 43)), (1, .int x1)] dX4_inferTerm_87 rfl (by decide) rfl ?_
    refine v_goto C 106 dX4_inferTerm_88 (by decide) ?_
    exact v_sub [2, 1, 0] rfl ((b_Reader_inferTerm_106 C hA hr_readType hr_readBinder hr_checkTerm hr_readPair hr_readFunction hr_inferTerm hr_readAnnotated hr_readApplied hr_readComponent) _ _ _ h)
  rw [if_neg c2] at h
  by_cases c3 : q1.1 = 58
  · rw [if_pos c3] at h
    refine v_lookup C 73 dX4_inferTerm_12 (by decide) (by rw [c3]; try rfl) (by decide) ?_
    refine v_aload_n C 1 dX4_inferTerm_73 rfl rfl ?_
    refine v_iload_n C 2 dX4_inferTerm_74 rfl rfl ?_
    obtain ⟨q4, hq4, h⟩ := bd_of h
    refine c_call C [.int x1] [] (hr_readAnnotated _ _ _ hq4) hY_Reader_readAnnotated rfl (by decide) (okS _ 43 (by decide) rfl) ml_4_193 ⟨(by omega : (346 + d) + 1 ≤ 346 + (d + 1)), (by omega : 8 + (4 + 11) + (13752 + 40 * d) ≤ 13752 + 40 * (d + 1))⟩ ⟨Nat.zero_le _, Nat.zero_le _⟩ rfl rfl (Nat.le_of_ble_eq_true rfl) dX4_inferTerm_75 (wc_D hA cy _) ?_
    refine v_istore_n C [(3, .int q4.1), (2, .int (σ.1 38 4)), (0, .ref (ad 43)), (1, .int x1)] dX4_inferTerm_78 rfl (by decide) rfl ?_
    refine v_goto C 106 dX4_inferTerm_79 (by decide) ?_
    exact v_sub [2, 1, 0] rfl ((b_Reader_inferTerm_106 C hA hr_readType hr_readBinder hr_checkTerm hr_readPair hr_readFunction hr_inferTerm hr_readAnnotated hr_readApplied hr_readComponent) _ _ _ h)
  rw [if_neg c3] at h
  by_cases c4 : q1.1 = 60
  · rw [if_pos c4] at h
    refine v_lookup C 91 dX4_inferTerm_12 (by decide) (by rw [c4]; try rfl) (by decide) ?_
    refine v_aload_n C 1 dX4_inferTerm_91 rfl rfl ?_
    refine v_iload_n C 2 dX4_inferTerm_92 rfl rfl ?_
    obtain ⟨q5, hq5, h⟩ := bd_of h
    refine c_call C [.int x1] [] (hr_readComponent _ _ _ hq5) hY_Reader_readComponent rfl (by decide) (okS _ 43 (by decide) rfl) ml_4_199 ⟨(by omega : (346 + d) + 1 ≤ 346 + (d + 1)), (by omega : 8 + (9 + 11) + (13752 + 40 * d) ≤ 13752 + 40 * (d + 1))⟩ ⟨Nat.zero_le _, Nat.zero_le _⟩ rfl rfl (Nat.le_of_ble_eq_true rfl) dX4_inferTerm_93 (wc_D hA cy _) ?_
    refine v_istore_n C [(3, .int q5.1), (2, .int (σ.1 38 4)), (0, .ref (ad 43)), (1, .int x1)] dX4_inferTerm_96 rfl (by decide) rfl ?_
    refine v_goto C 106 dX4_inferTerm_97 (by decide) ?_
    exact v_sub [2, 1, 0] rfl ((b_Reader_inferTerm_106 C hA hr_readType hr_readBinder hr_checkTerm hr_readPair hr_readFunction hr_inferTerm hr_readAnnotated hr_readApplied hr_readComponent) _ _ _ h)
  rw [if_neg c4] at h
  by_cases c5 : q1.1 = 62
  · rw [if_pos c5] at h
    refine v_lookup C 91 dX4_inferTerm_12 (by decide) (by rw [c5]; try rfl) (by decide) ?_
    refine v_aload_n C 1 dX4_inferTerm_91 rfl rfl ?_
    refine v_iload_n C 2 dX4_inferTerm_92 rfl rfl ?_
    obtain ⟨q6, hq6, h⟩ := bd_of h
    refine c_call C [.int x1] [] (hr_readComponent _ _ _ hq6) hY_Reader_readComponent rfl (by decide) (okS _ 43 (by decide) rfl) ml_4_199 ⟨(by omega : (346 + d) + 1 ≤ 346 + (d + 1)), (by omega : 8 + (9 + 11) + (13752 + 40 * d) ≤ 13752 + 40 * (d + 1))⟩ ⟨Nat.zero_le _, Nat.zero_le _⟩ rfl rfl (Nat.le_of_ble_eq_true rfl) dX4_inferTerm_93 (wc_D hA cy _) ?_
    refine v_istore_n C [(3, .int q6.1), (2, .int (σ.1 38 4)), (0, .ref (ad 43)), (1, .int x1)] dX4_inferTerm_96 rfl (by decide) rfl ?_
    refine v_goto C 106 dX4_inferTerm_97 (by decide) ?_
    exact v_sub [2, 1, 0] rfl ((b_Reader_inferTerm_106 C hA hr_readType hr_readBinder hr_checkTerm hr_readPair hr_readFunction hr_inferTerm hr_readAnnotated hr_readApplied hr_readComponent) _ _ _ h)
  rw [if_neg c5] at h
  refine v_lookup C 100 dX4_inferTerm_12 (by decide) (show Op.lookupswitch.offset [(35, 52), (46, 70), (58, 61), (60, 79), (62, 79)] 88 (q1.1 : Int32).toInt = 88 from by rw [lv_osw (a := 35) c1 (by decide), lv_osw (a := 46) c2 (by decide), lv_osw (a := 58) c3 (by decide), lv_osw (a := 60) c4 (by decide), lv_osw (a := 62) c5 (by decide)]; try rfl) (by decide) ?_
  refine v_aload_n C 1 dX4_inferTerm_100 rfl rfl ?_
  refine v_iload_n C 2 dX4_inferTerm_101 rfl rfl ?_
  obtain ⟨q7, hq7, h⟩ := bd_of h
  refine c_call C [.int x1] [] (c_Reader_readName hA _ _ hq7) hY_Reader_readName rfl (by decide) (okS _ 43 (by decide) rfl) ml_4_202 ⟨(by omega : 345 + 1 ≤ 346 + (d + 1)), (by omega : 8 + (6 + 11) + 13726 ≤ 13752 + 40 * (d + 1))⟩ ⟨Nat.zero_le _, Nat.zero_le _⟩ rfl rfl (Nat.le_of_ble_eq_true rfl) dX4_inferTerm_102 (wc_D hA cy _) ?_
  refine v_istore_n C [(3, .int q7.1), (2, .int (σ.1 38 4)), (0, .ref (ad 43)), (1, .int x1)] dX4_inferTerm_105 rfl (by decide) rfl ?_
  exact v_sub [2, 1, 0] rfl ((b_Reader_inferTerm_106 C hA hr_readType hr_readBinder hr_checkTerm hr_readPair hr_readFunction hr_inferTerm hr_readAnnotated hr_readApplied hr_readComponent) _ _ _ h)
set_option maxHeartbeats 4000000 in
set_option maxRecDepth 20000 in
theorem w_Reader_readAnnotated {l : Launch} {D : va_G} {cy : Nat → ClassId} {ad : Nat → Nat} {q : Int32 × CS} {r_readType : Int32 → CS → Option (Int32 × CS)} {r_readBinder : Int32 → Int32 → Int32 → CS → Option (Int32 × CS)} {r_checkTerm : Int32 → Int32 → CS → Option (Int32 × CS)} {r_readPair : Int32 → Int32 → CS → Option (Int32 × CS)} {r_readFunction : Int32 → Int32 → CS → Option (Int32 × CS)} {r_inferTerm : Int32 → CS → Option (Int32 × CS)} {r_readAnnotated : Int32 → CS → Option (Int32 × CS)} {r_readApplied : Int32 → CS → Option (Int32 × CS)} {r_readComponent : Int32 → CS → Option (Int32 × CS)} {d : Nat} (hA : adOK ad) (hr_readType : ∀ (z1 : Int32) (σ : CS) (q : Int32 × CS), r_readType z1 σ = some q → MV l D (cyT cy) (inC ad) yX4_readType cX4_readType 7 (some .int) (346 + d) (13752 + 40 * d) 0 0 [.ref (ad 43), .int z1] (wc cy ad σ) (some (.int q.1)) (wc cy ad q.2)) (hr_readBinder : ∀ (z1 : Int32) (z2 : Int32) (z3 : Int32) (σ : CS) (q : Int32 × CS), r_readBinder z1 z2 z3 σ = some q → MV l D (cyT cy) (inC ad) yX4_readBinder cX4_readBinder 7 (some .int) (346 + d) (13752 + 40 * d) 0 0 [.ref (ad 43), .int z1, .int z2, .int z3] (wc cy ad σ) (some (.int q.1)) (wc cy ad q.2)) (hr_checkTerm : ∀ (z1 : Int32) (z2 : Int32) (σ : CS) (q : Int32 × CS), r_checkTerm z1 z2 σ = some q → MV l D (cyT cy) (inC ad) yX4_checkTerm cX4_checkTerm 7 (some .int) (346 + d) (13752 + 40 * d) 0 0 [.ref (ad 43), .int z1, .int z2] (wc cy ad σ) (some (.int q.1)) (wc cy ad q.2)) (hr_readPair : ∀ (z1 : Int32) (z2 : Int32) (σ : CS) (q : Int32 × CS), r_readPair z1 z2 σ = some q → MV l D (cyT cy) (inC ad) yX4_readPair cX4_readPair 7 (some .int) (346 + d) (13752 + 40 * d) 0 0 [.ref (ad 43), .int z1, .int z2] (wc cy ad σ) (some (.int q.1)) (wc cy ad q.2)) (hr_readFunction : ∀ (z1 : Int32) (z2 : Int32) (σ : CS) (q : Int32 × CS), r_readFunction z1 z2 σ = some q → MV l D (cyT cy) (inC ad) yX4_readFunction cX4_readFunction 6 (some .int) (346 + d) (13752 + 40 * d) 0 0 [.ref (ad 43), .int z1, .int z2] (wc cy ad σ) (some (.int q.1)) (wc cy ad q.2)) (hr_inferTerm : ∀ (z1 : Int32) (σ : CS) (q : Int32 × CS), r_inferTerm z1 σ = some q → MV l D (cyT cy) (inC ad) yX4_inferTerm cX4_inferTerm 4 (some .int) (346 + d) (13752 + 40 * d) 0 0 [.ref (ad 43), .int z1] (wc cy ad σ) (some (.int q.1)) (wc cy ad q.2)) (hr_readAnnotated : ∀ (z1 : Int32) (σ : CS) (q : Int32 × CS), r_readAnnotated z1 σ = some q → MV l D (cyT cy) (inC ad) yX4_readAnnotated cX4_readAnnotated 4 (some .int) (346 + d) (13752 + 40 * d) 0 0 [.ref (ad 43), .int z1] (wc cy ad σ) (some (.int q.1)) (wc cy ad q.2)) (hr_readApplied : ∀ (z1 : Int32) (σ : CS) (q : Int32 × CS), r_readApplied z1 σ = some q → MV l D (cyT cy) (inC ad) yX4_readApplied cX4_readApplied 10 (some .int) (346 + d) (13752 + 40 * d) 0 0 [.ref (ad 43), .int z1] (wc cy ad σ) (some (.int q.1)) (wc cy ad q.2)) (hr_readComponent : ∀ (z1 : Int32) (σ : CS) (q : Int32 × CS), r_readComponent z1 σ = some q → MV l D (cyT cy) (inC ad) yX4_readComponent cX4_readComponent 9 (some .int) (346 + d) (13752 + 40 * d) 0 0 [.ref (ad 43), .int z1] (wc cy ad σ) (some (.int q.1)) (wc cy ad q.2)) (x1 : Int32) (σ : CS) (h : F_Reader_readAnnotated r_readType r_readBinder r_checkTerm r_readPair r_readFunction r_inferTerm r_readAnnotated r_readApplied r_readComponent x1 σ = some q) : MV l D (cyT cy) (inC ad) yX4_readAnnotated cX4_readAnnotated 4 (some .int) (346 + (d + 1)) (13752 + 40 * (d + 1)) 0 0 [.ref (ad 43), .int x1] (wc cy ad σ) (some (.int q.1)) (wc cy ad q.2) := by
  refine MV.of (by decide) (wc_D hA cy σ) (Nat.le_of_ble_eq_true rfl) [(0, .ref (ad 43)), (1, .int x1)] rfl ?_
  intro p e s m args below meth c C
  rw [F_Reader_readAnnotated] at h
  refine v_aload_n C 0 dX4_readAnnotated_0 rfl rfl ?_
  refine v_dup C dX4_readAnnotated_1 rfl ?_
  refine c_getI C fl_4_41 rfl (okS _ 43 (by decide) rfl) dX4_readAnnotated_2 ?_
  refine v_iconst C 1 dX4_readAnnotated_5 (by decide) ?_
  refine v_iadd C dX4_readAnnotated_6 ?_
  refine c_putI C fl_4_41 fw_4_7 rfl (by decide) (okS _ 43 (by decide) rfl) dX4_readAnnotated_7 ?_
  refine v_aload_n C 0 dX4_readAnnotated_10 rfl rfl ?_
  refine v_iload_n C 1 dX4_readAnnotated_11 rfl rfl ?_
  obtain ⟨q1, hq1, h⟩ := bd_of h
  refine c_call C [.int x1] [] (hr_readType _ _ _ hq1) hY_Reader_readType rfl (by decide) (okS _ 43 (by decide) rfl) ml_4_59 ⟨(by omega : (346 + d) + 1 ≤ 346 + (d + 1)), (by omega : 8 + (7 + 11) + (13752 + 40 * d) ≤ 13752 + 40 * (d + 1))⟩ ⟨Nat.zero_le _, Nat.zero_le _⟩ rfl rfl (Nat.le_of_ble_eq_true rfl) dX4_readAnnotated_12 (wc_D hA cy _) ?_
  refine v_istore_n C [(2, .int q1.1), (0, .ref (ad 43)), (1, .int x1)] dX4_readAnnotated_15 rfl (by decide) rfl ?_
  refine v_iload_n C 0 dX4_readAnnotated_16 rfl rfl ?_
  refine v_iconst C (-1) dX4_readAnnotated_17 (by decide) ?_
  refine v_icmp_ne C 23 dX4_readAnnotated_18 (by decide) (fun c1 => ?_) (fun c1 => ?_)
  · rw [if_neg c1] at h
    refine v_aload_n C 1 dX4_readAnnotated_23 rfl rfl ?_
    refine v_aload_n C 1 dX4_readAnnotated_24 rfl rfl ?_
    refine c_getS C 38 fl_4_29 rfl rfl (by decide) (okS _ 43 (by decide) rfl) dX4_readAnnotated_25 ?_
    refine v_iload_n C 0 dX4_readAnnotated_28 rfl rfl ?_
    refine v_aload_n C 1 dX4_readAnnotated_29 rfl rfl ?_
    refine v_iload_n C 2 dX4_readAnnotated_30 rfl rfl ?_
    obtain ⟨q2, hq2, h⟩ := bd_of h
    refine c_call C [.int x1] [.int q1.1, .ref (ad 38), .ref (ad 43)] (c_Reader_scope hA _ _ hq2) hY_Reader_scope rfl (by decide) (okS _ 43 (by decide) rfl) ml_4_142 ⟨(by omega : 0 + 1 ≤ 346 + (d + 1)), (by omega : 8 + (2 + 11) + 0 ≤ 13752 + 40 * (d + 1))⟩ ⟨Nat.zero_le _, Nat.zero_le _⟩ rfl rfl (Nat.le_of_ble_eq_true rfl) dX4_readAnnotated_31 (wc_D hA cy _) ?_
    obtain ⟨q3, hq3, h⟩ := bd_of h
    refine c_call C [.int q1.1, .int q2.1] [.ref (ad 43)] (c_Values_typeAt hA _ _ _ hq3) hY_Values_typeAt rfl (by decide) (okS _ 38 (by decide) rfl) ml_4_66 ⟨(by omega : 1 + 1 ≤ 346 + (d + 1)), (by omega : 8 + (3 + 11) + 23 ≤ 13752 + 40 * (d + 1))⟩ ⟨Nat.zero_le _, Nat.zero_le _⟩ rfl rfl (Nat.le_of_ble_eq_true rfl) dX4_readAnnotated_34 (wc_D hA cy _) ?_
    refine v_iload_n C 2 dX4_readAnnotated_37 rfl rfl ?_
    obtain ⟨q4, hq4, h⟩ := bd_of h
    refine c_call C [.int q3.1, .int x1] [] (hr_checkTerm _ _ _ _ hq4) hY_Reader_checkTerm rfl (by decide) (okS _ 43 (by decide) rfl) ml_4_70 ⟨(by omega : (346 + d) + 1 ≤ 346 + (d + 1)), (by omega : 8 + (7 + 11) + (13752 + 40 * d) ≤ 13752 + 40 * (d + 1))⟩ ⟨Nat.zero_le _, Nat.zero_le _⟩ rfl rfl (Nat.le_of_ble_eq_true rfl) dX4_readAnnotated_38 (wc_D hA cy _) ?_
    refine v_istore_n C [(3, .int q4.1), (2, .int q1.1), (0, .ref (ad 43)), (1, .int x1)] dX4_readAnnotated_41 rfl (by decide) rfl ?_
    refine v_aload_n C 2 dX4_readAnnotated_42 rfl rfl ?_
    refine v_iload_n C 1 dX4_readAnnotated_43 rfl rfl ?_
    refine c_putI C fl_4_157 fw_4_9 rfl (by decide) (okS _ 43 (by decide) rfl) dX4_readAnnotated_44 ?_
    refine v_iload_n C 0 dX4_readAnnotated_47 rfl rfl ?_
    obtain rfl := Option.some.inj h
    exact v_iret C dX4_readAnnotated_48
  · rw [if_pos c1] at h
    refine v_iconst C (-1) dX4_readAnnotated_21 (by decide) ?_
    obtain rfl := Option.some.inj h
    exact v_iret C dX4_readAnnotated_22
set_option maxHeartbeats 4000000 in
set_option maxRecDepth 20000 in
theorem w_Reader_readApplied {l : Launch} {D : va_G} {cy : Nat → ClassId} {ad : Nat → Nat} {q : Int32 × CS} {r_readType : Int32 → CS → Option (Int32 × CS)} {r_readBinder : Int32 → Int32 → Int32 → CS → Option (Int32 × CS)} {r_checkTerm : Int32 → Int32 → CS → Option (Int32 × CS)} {r_readPair : Int32 → Int32 → CS → Option (Int32 × CS)} {r_readFunction : Int32 → Int32 → CS → Option (Int32 × CS)} {r_inferTerm : Int32 → CS → Option (Int32 × CS)} {r_readAnnotated : Int32 → CS → Option (Int32 × CS)} {r_readApplied : Int32 → CS → Option (Int32 × CS)} {r_readComponent : Int32 → CS → Option (Int32 × CS)} {d : Nat} (hA : adOK ad) (hr_readType : ∀ (z1 : Int32) (σ : CS) (q : Int32 × CS), r_readType z1 σ = some q → MV l D (cyT cy) (inC ad) yX4_readType cX4_readType 7 (some .int) (346 + d) (13752 + 40 * d) 0 0 [.ref (ad 43), .int z1] (wc cy ad σ) (some (.int q.1)) (wc cy ad q.2)) (hr_readBinder : ∀ (z1 : Int32) (z2 : Int32) (z3 : Int32) (σ : CS) (q : Int32 × CS), r_readBinder z1 z2 z3 σ = some q → MV l D (cyT cy) (inC ad) yX4_readBinder cX4_readBinder 7 (some .int) (346 + d) (13752 + 40 * d) 0 0 [.ref (ad 43), .int z1, .int z2, .int z3] (wc cy ad σ) (some (.int q.1)) (wc cy ad q.2)) (hr_checkTerm : ∀ (z1 : Int32) (z2 : Int32) (σ : CS) (q : Int32 × CS), r_checkTerm z1 z2 σ = some q → MV l D (cyT cy) (inC ad) yX4_checkTerm cX4_checkTerm 7 (some .int) (346 + d) (13752 + 40 * d) 0 0 [.ref (ad 43), .int z1, .int z2] (wc cy ad σ) (some (.int q.1)) (wc cy ad q.2)) (hr_readPair : ∀ (z1 : Int32) (z2 : Int32) (σ : CS) (q : Int32 × CS), r_readPair z1 z2 σ = some q → MV l D (cyT cy) (inC ad) yX4_readPair cX4_readPair 7 (some .int) (346 + d) (13752 + 40 * d) 0 0 [.ref (ad 43), .int z1, .int z2] (wc cy ad σ) (some (.int q.1)) (wc cy ad q.2)) (hr_readFunction : ∀ (z1 : Int32) (z2 : Int32) (σ : CS) (q : Int32 × CS), r_readFunction z1 z2 σ = some q → MV l D (cyT cy) (inC ad) yX4_readFunction cX4_readFunction 6 (some .int) (346 + d) (13752 + 40 * d) 0 0 [.ref (ad 43), .int z1, .int z2] (wc cy ad σ) (some (.int q.1)) (wc cy ad q.2)) (hr_inferTerm : ∀ (z1 : Int32) (σ : CS) (q : Int32 × CS), r_inferTerm z1 σ = some q → MV l D (cyT cy) (inC ad) yX4_inferTerm cX4_inferTerm 4 (some .int) (346 + d) (13752 + 40 * d) 0 0 [.ref (ad 43), .int z1] (wc cy ad σ) (some (.int q.1)) (wc cy ad q.2)) (hr_readAnnotated : ∀ (z1 : Int32) (σ : CS) (q : Int32 × CS), r_readAnnotated z1 σ = some q → MV l D (cyT cy) (inC ad) yX4_readAnnotated cX4_readAnnotated 4 (some .int) (346 + d) (13752 + 40 * d) 0 0 [.ref (ad 43), .int z1] (wc cy ad σ) (some (.int q.1)) (wc cy ad q.2)) (hr_readApplied : ∀ (z1 : Int32) (σ : CS) (q : Int32 × CS), r_readApplied z1 σ = some q → MV l D (cyT cy) (inC ad) yX4_readApplied cX4_readApplied 10 (some .int) (346 + d) (13752 + 40 * d) 0 0 [.ref (ad 43), .int z1] (wc cy ad σ) (some (.int q.1)) (wc cy ad q.2)) (hr_readComponent : ∀ (z1 : Int32) (σ : CS) (q : Int32 × CS), r_readComponent z1 σ = some q → MV l D (cyT cy) (inC ad) yX4_readComponent cX4_readComponent 9 (some .int) (346 + d) (13752 + 40 * d) 0 0 [.ref (ad 43), .int z1] (wc cy ad σ) (some (.int q.1)) (wc cy ad q.2)) (x1 : Int32) (σ : CS) (h : F_Reader_readApplied r_readType r_readBinder r_checkTerm r_readPair r_readFunction r_inferTerm r_readAnnotated r_readApplied r_readComponent x1 σ = some q) : MV l D (cyT cy) (inC ad) yX4_readApplied cX4_readApplied 10 (some .int) (346 + (d + 1)) (13752 + 40 * (d + 1)) 0 0 [.ref (ad 43), .int x1] (wc cy ad σ) (some (.int q.1)) (wc cy ad q.2) := by
  refine MV.of (by decide) (wc_D hA cy σ) (Nat.le_of_ble_eq_true rfl) [(0, .ref (ad 43)), (1, .int x1)] rfl ?_
  intro p e s m args below meth c C
  rw [F_Reader_readApplied] at h
  refine v_aload_n C 0 dX4_readApplied_0 rfl rfl ?_
  refine c_getI C fl_4_41 rfl (okS _ 43 (by decide) rfl) dX4_readApplied_1 ?_
  refine v_istore_n C [(2, .int (σ.1 43 7)), (0, .ref (ad 43)), (1, .int x1)] dX4_readApplied_4 rfl (by decide) rfl ?_
  refine v_aload_n C 1 dX4_readApplied_5 rfl rfl ?_
  refine v_dup C dX4_readApplied_6 rfl ?_
  refine c_getI C fl_4_41 rfl (okS _ 43 (by decide) rfl) dX4_readApplied_7 ?_
  refine v_iconst C 1 dX4_readApplied_10 (by decide) ?_
  refine v_iadd C dX4_readApplied_11 ?_
  refine c_putI C fl_4_41 fw_4_7 rfl (by decide) (okS _ 43 (by decide) rfl) dX4_readApplied_12 ?_
  refine v_aload_n C 1 dX4_readApplied_15 rfl rfl ?_
  refine c_getI C fl_4_41 rfl (okS _ 43 (by decide) rfl) dX4_readApplied_16 ?_
  refine v_istore_n C [(3, .int ((sI σ 43 7 ((σ.1 43 7) + 1)).1 43 7)), (2, .int (σ.1 43 7)), (0, .ref (ad 43)), (1, .int x1)] dX4_readApplied_19 rfl (by decide) rfl ?_
  refine v_aload_n C 2 dX4_readApplied_20 rfl rfl ?_
  refine v_iload_n C 3 dX4_readApplied_21 rfl rfl ?_
  obtain ⟨q1, hq1, h⟩ := bd_of h
  refine c_call C [.int x1] [] (hr_inferTerm _ _ _ hq1) hY_Reader_inferTerm rfl (by decide) (okS _ 43 (by decide) rfl) ml_4_83 ⟨(by omega : (346 + d) + 1 ≤ 346 + (d + 1)), (by omega : 8 + (4 + 11) + (13752 + 40 * d) ≤ 13752 + 40 * (d + 1))⟩ ⟨Nat.zero_le _, Nat.zero_le _⟩ rfl rfl (Nat.le_of_ble_eq_true rfl) dX4_readApplied_22 (wc_D hA cy _) ?_
  refine v_istore C [(4, .int q1.1), (3, .int ((sI σ 43 7 ((σ.1 43 7) + 1)).1 43 7)), (2, .int (σ.1 43 7)), (0, .ref (ad 43)), (1, .int x1)] dX4_readApplied_25 (by decide) rfl ?_
  refine v_iload C 0 dX4_readApplied_27 rfl ?_
  refine v_iconst C (-1) dX4_readApplied_29 (by decide) ?_
  refine v_icmp_ne C 35 dX4_readApplied_30 (by decide) (fun c1 => ?_) (fun c1 => ?_)
  · rw [if_neg c1] at h
    refine v_aload_n C 3 dX4_readApplied_35 rfl rfl ?_
    refine c_getS C 38 fl_4_29 rfl rfl (by decide) (okS _ 43 (by decide) rfl) dX4_readApplied_36 ?_
    refine v_aload_n C 3 dX4_readApplied_39 rfl rfl ?_
    refine c_getI C fl_4_157 rfl (okS _ 43 (by decide) rfl) dX4_readApplied_40 ?_
    refine v_aload_n C 3 dX4_readApplied_43 rfl rfl ?_
    refine v_iload_n C 4 dX4_readApplied_44 rfl rfl ?_
    obtain ⟨q2, hq2, h⟩ := bd_of h
    refine c_call C [.int x1] [.int (q1.2.1 43 9), .ref (ad 38)] (c_Reader_scope hA _ _ hq2) hY_Reader_scope rfl (by decide) (okS _ 43 (by decide) rfl) ml_4_142 ⟨(by omega : 0 + 1 ≤ 346 + (d + 1)), (by omega : 8 + (2 + 11) + 0 ≤ 13752 + 40 * (d + 1))⟩ ⟨Nat.zero_le _, Nat.zero_le _⟩ rfl rfl (Nat.le_of_ble_eq_true rfl) dX4_readApplied_45 (wc_D hA cy _) ?_
    obtain ⟨q3, hq3, h⟩ := bd_of h
    refine c_call C [.int (q1.2.1 43 9), .int q2.1] [] (c_Values_typeAt hA _ _ _ hq3) hY_Values_typeAt rfl (by decide) (okS _ 38 (by decide) rfl) ml_4_66 ⟨(by omega : 1 + 1 ≤ 346 + (d + 1)), (by omega : 8 + (3 + 11) + 23 ≤ 13752 + 40 * (d + 1))⟩ ⟨Nat.zero_le _, Nat.zero_le _⟩ rfl rfl (Nat.le_of_ble_eq_true rfl) dX4_readApplied_48 (wc_D hA cy _) ?_
    refine v_istore C [(5, .int q3.1), (4, .int q1.1), (3, .int ((sI σ 43 7 ((σ.1 43 7) + 1)).1 43 7)), (2, .int (σ.1 43 7)), (0, .ref (ad 43)), (1, .int x1)] dX4_readApplied_51 (by decide) rfl ?_
    refine v_aload_n C 4 dX4_readApplied_53 rfl rfl ?_
    refine c_getS C 38 fl_4_29 rfl rfl (by decide) (okS _ 43 (by decide) rfl) dX4_readApplied_54 ?_
    refine v_iload C 0 dX4_readApplied_57 rfl ?_
    obtain ⟨q4, hq4, h⟩ := bd_of h
    refine c_call C [.int q3.1] [] (c_Values_formOf hA _ _ hq4) hY_Values_formOf rfl (by decide) (okS _ 38 (by decide) rfl) ml_4_148 ⟨(by omega : 1 + 1 ≤ 346 + (d + 1)), (by omega : 8 + (2 + 11) + 21 ≤ 13752 + 40 * (d + 1))⟩ ⟨Nat.zero_le _, Nat.zero_le _⟩ rfl rfl (Nat.le_of_ble_eq_true rfl) dX4_readApplied_59 (wc_D hA cy _) ?_
    refine v_bipush C 80 dX4_readApplied_62 (by decide) ?_
    refine v_icmp_eq C 73 dX4_readApplied_64 (by decide) (fun c2 => ?_) (fun c2 => ?_)
    · rw [if_pos c2] at h
      refine v_aload_n C 4 dX4_readApplied_73 rfl rfl ?_
      refine v_aload_n C 4 dX4_readApplied_74 rfl rfl ?_
      refine c_getS C 38 fl_4_29 rfl rfl (by decide) (okS _ 43 (by decide) rfl) dX4_readApplied_75 ?_
      refine v_iload C 0 dX4_readApplied_78 rfl ?_
      obtain ⟨q5, hq5, h⟩ := bd_of h
      refine c_call C [.int q3.1] [.ref (ad 43)] (c_Values_firstType hA _ _ hq5) hY_Values_firstType rfl (by decide) (okS _ 38 (by decide) rfl) ml_4_181 ⟨(by omega : 2 + 1 ≤ 346 + (d + 1)), (by omega : 8 + (2 + 11) + 45 ≤ 13752 + 40 * (d + 1))⟩ ⟨Nat.zero_le _, Nat.zero_le _⟩ rfl rfl (Nat.le_of_ble_eq_true rfl) dX4_readApplied_80 (wc_D hA cy _) ?_
      refine v_iload_n C 5 dX4_readApplied_83 rfl rfl ?_
      obtain ⟨q6, hq6, h⟩ := bd_of h
      refine c_call C [.int q5.1, .int x1] [] (hr_checkTerm _ _ _ _ hq6) hY_Reader_checkTerm rfl (by decide) (okS _ 43 (by decide) rfl) ml_4_70 ⟨(by omega : (346 + d) + 1 ≤ 346 + (d + 1)), (by omega : 8 + (7 + 11) + (13752 + 40 * d) ≤ 13752 + 40 * (d + 1))⟩ ⟨Nat.zero_le _, Nat.zero_le _⟩ rfl rfl (Nat.le_of_ble_eq_true rfl) dX4_readApplied_84 (wc_D hA cy _) ?_
      refine v_istore C [(6, .int q6.1), (5, .int q3.1), (4, .int q1.1), (3, .int ((sI σ 43 7 ((σ.1 43 7) + 1)).1 43 7)), (2, .int (σ.1 43 7)), (0, .ref (ad 43)), (1, .int x1)] dX4_readApplied_87 (by decide) rfl ?_
      refine v_iload C 0 dX4_readApplied_89 rfl ?_
      refine v_iconst C (-1) dX4_readApplied_91 (by decide) ?_
      refine v_icmp_ne C 97 dX4_readApplied_92 (by decide) (fun c3 => ?_) (fun c3 => ?_)
      · rw [if_neg c3] at h
        refine v_aload_n C 5 dX4_readApplied_97 rfl rfl ?_
        refine c_getS C 38 fl_4_29 rfl rfl (by decide) (okS _ 43 (by decide) rfl) dX4_readApplied_98 ?_
        refine v_iload C 0 dX4_readApplied_101 rfl ?_
        refine v_aload_n C 5 dX4_readApplied_103 rfl rfl ?_
        refine v_iload_n C 6 dX4_readApplied_104 rfl rfl ?_
        obtain ⟨q7, hq7, h⟩ := bd_of h
        refine c_call C [.int x1] [.int q6.1, .ref (ad 38)] (c_Reader_scope hA _ _ hq7) hY_Reader_scope rfl (by decide) (okS _ 43 (by decide) rfl) ml_4_142 ⟨(by omega : 0 + 1 ≤ 346 + (d + 1)), (by omega : 8 + (2 + 11) + 0 ≤ 13752 + 40 * (d + 1))⟩ ⟨Nat.zero_le _, Nat.zero_le _⟩ rfl rfl (Nat.le_of_ble_eq_true rfl) dX4_readApplied_105 (wc_D hA cy _) ?_
        refine v_bipush C 104 dX4_readApplied_108 (by decide) ?_
        obtain ⟨q8, hq8, h⟩ := bd_of h
        refine c_callN C [.int q6.1, .int q7.1, .int 104] [] (c_Values_evaluate hA _ _ _ _ hq8) hY_Values_evaluate rfl (by decide) (okS _ 38 (by decide) rfl) ml_4_184 ⟨(by omega : 222 + 1 ≤ 346 + (d + 1)), (by omega : 8 + (9 + 11) + 8846 ≤ 13752 + 40 * (d + 1))⟩ ⟨Nat.zero_le _, Nat.zero_le _⟩ rfl rfl (Nat.le_of_ble_eq_true rfl) dX4_readApplied_110 (wc_D hA cy _) ?_
        refine v_istore C [(7, .int q8.1), (6, .int q6.1), (5, .int q3.1), (4, .int q1.1), (3, .int ((sI σ 43 7 ((σ.1 43 7) + 1)).1 43 7)), (2, .int (σ.1 43 7)), (0, .ref (ad 43)), (1, .int x1)] dX4_readApplied_113 (by decide) rfl ?_
        refine v_aload_n C 6 dX4_readApplied_115 rfl rfl ?_
        refine c_getS C 38 fl_4_29 rfl rfl (by decide) (okS _ 43 (by decide) rfl) dX4_readApplied_116 ?_
        refine v_iload C 3 dX4_readApplied_119 rfl ?_
        refine v_aload_n C 6 dX4_readApplied_121 rfl rfl ?_
        refine v_iload_n C 7 dX4_readApplied_122 rfl rfl ?_
        obtain ⟨q9, hq9, h⟩ := bd_of h
        refine c_call C [.int x1] [.int q1.1, .ref (ad 38)] (c_Reader_scope hA _ _ hq9) hY_Reader_scope rfl (by decide) (okS _ 43 (by decide) rfl) ml_4_142 ⟨(by omega : 0 + 1 ≤ 346 + (d + 1)), (by omega : 8 + (2 + 11) + 0 ≤ 13752 + 40 * (d + 1))⟩ ⟨Nat.zero_le _, Nat.zero_le _⟩ rfl rfl (Nat.le_of_ble_eq_true rfl) dX4_readApplied_123 (wc_D hA cy _) ?_
        refine v_bipush C 104 dX4_readApplied_126 (by decide) ?_
        obtain ⟨q10, hq10, h⟩ := bd_of h
        refine c_callN C [.int q1.1, .int q9.1, .int 104] [] (c_Values_evaluate hA _ _ _ _ hq10) hY_Values_evaluate rfl (by decide) (okS _ 38 (by decide) rfl) ml_4_184 ⟨(by omega : 222 + 1 ≤ 346 + (d + 1)), (by omega : 8 + (9 + 11) + 8846 ≤ 13752 + 40 * (d + 1))⟩ ⟨Nat.zero_le _, Nat.zero_le _⟩ rfl rfl (Nat.le_of_ble_eq_true rfl) dX4_readApplied_128 (wc_D hA cy _) ?_
        refine v_istore C [(8, .int q10.1), (7, .int q8.1), (6, .int q6.1), (5, .int q3.1), (4, .int q1.1), (3, .int ((sI σ 43 7 ((σ.1 43 7) + 1)).1 43 7)), (2, .int (σ.1 43 7)), (0, .ref (ad 43)), (1, .int x1)] dX4_readApplied_131 (by decide) rfl ?_
        refine v_aload_n C 7 dX4_readApplied_133 rfl rfl ?_
        refine c_getS C 38 fl_4_29 rfl rfl (by decide) (okS _ 43 (by decide) rfl) dX4_readApplied_134 ?_
        refine v_iload C 0 dX4_readApplied_137 rfl ?_
        refine v_iload C 1 dX4_readApplied_139 rfl ?_
        refine v_bipush C 104 dX4_readApplied_141 (by decide) ?_
        obtain ⟨q11, hq11, h⟩ := bd_of h
        refine c_callN C [.int q10.1, .int q8.1, .int 104] [] (c_Values_apply hA _ _ _ _ hq11) hY_Values_apply rfl (by decide) (okS _ 38 (by decide) rfl) ml_4_242 ⟨(by omega : 222 + 1 ≤ 346 + (d + 1)), (by omega : 8 + (4 + 11) + 8846 ≤ 13752 + 40 * (d + 1))⟩ ⟨Nat.zero_le _, Nat.zero_le _⟩ rfl rfl (Nat.le_of_ble_eq_true rfl) dX4_readApplied_143 (wc_D hA cy _) ?_
        refine v_istore C [(9, .int q11.1), (8, .int q10.1), (7, .int q8.1), (6, .int q6.1), (5, .int q3.1), (4, .int q1.1), (3, .int ((sI σ 43 7 ((σ.1 43 7) + 1)).1 43 7)), (2, .int (σ.1 43 7)), (0, .ref (ad 43)), (1, .int x1)] dX4_readApplied_146 (by decide) rfl ?_
        refine v_aload_n C 8 dX4_readApplied_148 rfl rfl ?_
        refine v_aload_n C 8 dX4_readApplied_149 rfl rfl ?_
        refine c_getS C 38 fl_4_29 rfl rfl (by decide) (okS _ 43 (by decide) rfl) dX4_readApplied_150 ?_
        refine v_iload C 4 dX4_readApplied_153 rfl ?_
        refine v_iload C 2 dX4_readApplied_155 rfl ?_
        obtain ⟨q12, hq12, h⟩ := bd_of h
        refine c_call C [.int q3.1, .int q8.1] [.ref (ad 43)] (c_Values_secondType hA _ _ _ hq12) hY_Values_secondType rfl (by decide) (okS _ 38 (by decide) rfl) ml_4_187 ⟨(by omega : 2 + 1 ≤ 346 + (d + 1)), (by omega : 8 + (4 + 11) + 45 ≤ 13752 + 40 * (d + 1))⟩ ⟨Nat.zero_le _, Nat.zero_le _⟩ rfl rfl (Nat.le_of_ble_eq_true rfl) dX4_readApplied_157 (wc_D hA cy _) ?_
        refine v_iload C 0 dX4_readApplied_160 rfl ?_
        refine v_iload_n C 9 dX4_readApplied_162 rfl rfl ?_
        refine v_iload_n C 7 dX4_readApplied_163 rfl rfl ?_
        obtain ⟨q13, hq13, h⟩ := bd_of h
        refine c_call C [.int q12.1, .int q11.1, .int x1, .int (σ.1 43 7)] [] (c_Reader_settle hA _ _ _ _ _ hq13) hY_Reader_settle rfl (by decide) (okS _ 43 (by decide) rfl) ml_4_215 ⟨(by omega : 344 + 1 ≤ 346 + (d + 1)), (by omega : 8 + (7 + 11) + 13700 ≤ 13752 + 40 * (d + 1))⟩ ⟨Nat.zero_le _, Nat.zero_le _⟩ rfl rfl (Nat.le_of_ble_eq_true rfl) dX4_readApplied_164 (wc_D hA cy _) ?_
        obtain rfl := Option.some.inj h
        exact v_iret C dX4_readApplied_167
      · rw [if_pos c3] at h
        refine v_iconst C (-1) dX4_readApplied_95 (by decide) ?_
        obtain rfl := Option.some.inj h
        exact v_iret C dX4_readApplied_96
    · rw [if_neg c2] at h
      refine v_aload_n C 4 dX4_readApplied_67 rfl rfl ?_
      refine v_iload_n C 2 dX4_readApplied_68 rfl rfl ?_
      obtain ⟨q14, hq14, h⟩ := bd_of h
      refine c_call C [.int ((sI σ 43 7 ((σ.1 43 7) + 1)).1 43 7)] [] (c_Reader_refuse hA _ _ hq14) hY_Reader_refuse rfl (by decide) (okS _ 43 (by decide) rfl) ml_4_95 ⟨(by omega : 0 + 1 ≤ 346 + (d + 1)), (by omega : 8 + (2 + 11) + 0 ≤ 13752 + 40 * (d + 1))⟩ ⟨Nat.zero_le _, Nat.zero_le _⟩ rfl rfl (Nat.le_of_ble_eq_true rfl) dX4_readApplied_69 (wc_D hA cy _) ?_
      obtain rfl := Option.some.inj h
      exact v_iret C dX4_readApplied_72
  · rw [if_pos c1] at h
    refine v_iconst C (-1) dX4_readApplied_33 (by decide) ?_
    obtain rfl := Option.some.inj h
    exact v_iret C dX4_readApplied_34
set_option maxHeartbeats 4000000 in
set_option maxRecDepth 20000 in
theorem b_Reader_readComponent_19 {p : Program} {l : Launch} {e : Env} {s : State} {m : MethodId} {args : Array Value} {below : List Frame} {meth : Method} {c : Code} {D : va_G} {cy : Nat → ClassId} {ad : Nat → Nat} {q : Int32 × CS}  {r_readType : Int32 → CS → Option (Int32 × CS)} {r_readBinder : Int32 → Int32 → Int32 → CS → Option (Int32 × CS)} {r_checkTerm : Int32 → Int32 → CS → Option (Int32 × CS)} {r_readPair : Int32 → Int32 → CS → Option (Int32 × CS)} {r_readFunction : Int32 → Int32 → CS → Option (Int32 × CS)} {r_inferTerm : Int32 → CS → Option (Int32 × CS)} {r_readAnnotated : Int32 → CS → Option (Int32 × CS)} {r_readApplied : Int32 → CS → Option (Int32 × CS)} {r_readComponent : Int32 → CS → Option (Int32 × CS)} {d : Nat} (C : vC p s m args meth c cX4_readComponent 9 (some .int) RX4 D (cyT cy)) (hA : adOK ad) (hr_readType : ∀ (z1 : Int32) (σ : CS) (q : Int32 × CS), r_readType z1 σ = some q → MV l D (cyT cy) (inC ad) yX4_readType cX4_readType 7 (some .int) (346 + d) (13752 + 40 * d) 0 0 [.ref (ad 43), .int z1] (wc cy ad σ) (some (.int q.1)) (wc cy ad q.2)) (hr_readBinder : ∀ (z1 : Int32) (z2 : Int32) (z3 : Int32) (σ : CS) (q : Int32 × CS), r_readBinder z1 z2 z3 σ = some q → MV l D (cyT cy) (inC ad) yX4_readBinder cX4_readBinder 7 (some .int) (346 + d) (13752 + 40 * d) 0 0 [.ref (ad 43), .int z1, .int z2, .int z3] (wc cy ad σ) (some (.int q.1)) (wc cy ad q.2)) (hr_checkTerm : ∀ (z1 : Int32) (z2 : Int32) (σ : CS) (q : Int32 × CS), r_checkTerm z1 z2 σ = some q → MV l D (cyT cy) (inC ad) yX4_checkTerm cX4_checkTerm 7 (some .int) (346 + d) (13752 + 40 * d) 0 0 [.ref (ad 43), .int z1, .int z2] (wc cy ad σ) (some (.int q.1)) (wc cy ad q.2)) (hr_readPair : ∀ (z1 : Int32) (z2 : Int32) (σ : CS) (q : Int32 × CS), r_readPair z1 z2 σ = some q → MV l D (cyT cy) (inC ad) yX4_readPair cX4_readPair 7 (some .int) (346 + d) (13752 + 40 * d) 0 0 [.ref (ad 43), .int z1, .int z2] (wc cy ad σ) (some (.int q.1)) (wc cy ad q.2)) (hr_readFunction : ∀ (z1 : Int32) (z2 : Int32) (σ : CS) (q : Int32 × CS), r_readFunction z1 z2 σ = some q → MV l D (cyT cy) (inC ad) yX4_readFunction cX4_readFunction 6 (some .int) (346 + d) (13752 + 40 * d) 0 0 [.ref (ad 43), .int z1, .int z2] (wc cy ad σ) (some (.int q.1)) (wc cy ad q.2)) (hr_inferTerm : ∀ (z1 : Int32) (σ : CS) (q : Int32 × CS), r_inferTerm z1 σ = some q → MV l D (cyT cy) (inC ad) yX4_inferTerm cX4_inferTerm 4 (some .int) (346 + d) (13752 + 40 * d) 0 0 [.ref (ad 43), .int z1] (wc cy ad σ) (some (.int q.1)) (wc cy ad q.2)) (hr_readAnnotated : ∀ (z1 : Int32) (σ : CS) (q : Int32 × CS), r_readAnnotated z1 σ = some q → MV l D (cyT cy) (inC ad) yX4_readAnnotated cX4_readAnnotated 4 (some .int) (346 + d) (13752 + 40 * d) 0 0 [.ref (ad 43), .int z1] (wc cy ad σ) (some (.int q.1)) (wc cy ad q.2)) (hr_readApplied : ∀ (z1 : Int32) (σ : CS) (q : Int32 × CS), r_readApplied z1 σ = some q → MV l D (cyT cy) (inC ad) yX4_readApplied cX4_readApplied 10 (some .int) (346 + d) (13752 + 40 * d) 0 0 [.ref (ad 43), .int z1] (wc cy ad σ) (some (.int q.1)) (wc cy ad q.2)) (hr_readComponent : ∀ (z1 : Int32) (σ : CS) (q : Int32 × CS), r_readComponent z1 σ = some q → MV l D (cyT cy) (inC ad) yX4_readComponent cX4_readComponent 9 (some .int) (346 + d) (13752 + 40 * d) 0 0 [.ref (ad 43), .int z1] (wc cy ad σ) (some (.int q.1)) (wc cy ad q.2)) : ∀ (x1 : Int32) (x2 : Int32) (s0 : Int32) (σ : CS), B_Reader_readComponent_19 r_readType r_readBinder r_checkTerm r_readPair r_readFunction r_inferTerm r_readAnnotated r_readApplied r_readComponent x1 x2 s0 σ = some q → V p l e { frames := 346 + (d + 1), cells := 0, slots := 0, locals := 13752 + 40 * (d + 1) } s m args below meth c D (inC ad) 9 (MQ below (vQ D (inC ad) (some (.int q.1)) (wc cy ad q.2)) args s 0 0 (inC ad)) 0 0 (wc cy ad σ) 19 [(0, .ref (ad 43)), (1, .int x1), (2, .int x2)] [.int s0] := by
  intro x1 x2 s0 σ h
  rw [B_Reader_readComponent_19] at h
  refine v_istore_n C [(3, .int s0), (0, .ref (ad 43)), (1, .int x1), (2, .int x2)] dX4_readComponent_19 rfl (by decide) rfl ?_
  refine v_aload_n C 1 dX4_readComponent_20 rfl rfl ?_
  refine v_dup C dX4_readComponent_21 rfl ?_
  refine c_getI C fl_4_41 rfl (okS _ 43 (by decide) rfl) dX4_readComponent_22 ?_
  refine v_iconst C 1 dX4_readComponent_25 (by decide) ?_
  refine v_iadd C dX4_readComponent_26 ?_
  refine c_putI C fl_4_41 fw_4_7 rfl (by decide) (okS _ 43 (by decide) rfl) dX4_readComponent_27 ?_
  refine v_aload_n C 1 dX4_readComponent_30 rfl rfl ?_
  refine c_getI C fl_4_41 rfl (okS _ 43 (by decide) rfl) dX4_readComponent_31 ?_
  refine v_istore C [(4, .int ((sI σ 43 7 ((σ.1 43 7) + 1)).1 43 7)), (3, .int s0), (0, .ref (ad 43)), (1, .int x1), (2, .int x2)] dX4_readComponent_34 (by decide) rfl ?_
  refine v_aload_n C 2 dX4_readComponent_36 rfl rfl ?_
  refine v_iload_n C 3 dX4_readComponent_37 rfl rfl ?_
  obtain ⟨q1, hq1, h⟩ := bd_of h
  refine c_call C [.int x1] [] (hr_inferTerm _ _ _ hq1) hY_Reader_inferTerm rfl (by decide) (okS _ 43 (by decide) rfl) ml_4_83 ⟨(by omega : (346 + d) + 1 ≤ 346 + (d + 1)), (by omega : 8 + (4 + 11) + (13752 + 40 * d) ≤ 13752 + 40 * (d + 1))⟩ ⟨Nat.zero_le _, Nat.zero_le _⟩ rfl rfl (Nat.le_of_ble_eq_true rfl) dX4_readComponent_38 (wc_D hA cy _) ?_
  refine v_istore C [(5, .int q1.1), (4, .int ((sI σ 43 7 ((σ.1 43 7) + 1)).1 43 7)), (3, .int s0), (0, .ref (ad 43)), (1, .int x1), (2, .int x2)] dX4_readComponent_41 (by decide) rfl ?_
  refine v_iload C 0 dX4_readComponent_43 rfl ?_
  refine v_iconst C (-1) dX4_readComponent_45 (by decide) ?_
  refine v_icmp_ne C 51 dX4_readComponent_46 (by decide) (fun c1 => ?_) (fun c1 => ?_)
  · rw [if_neg c1] at h
    refine v_aload_n C 3 dX4_readComponent_51 rfl rfl ?_
    refine c_getS C 38 fl_4_29 rfl rfl (by decide) (okS _ 43 (by decide) rfl) dX4_readComponent_52 ?_
    refine v_aload_n C 3 dX4_readComponent_55 rfl rfl ?_
    refine c_getI C fl_4_157 rfl (okS _ 43 (by decide) rfl) dX4_readComponent_56 ?_
    refine v_aload_n C 3 dX4_readComponent_59 rfl rfl ?_
    refine v_iload_n C 4 dX4_readComponent_60 rfl rfl ?_
    obtain ⟨q2, hq2, h⟩ := bd_of h
    refine c_call C [.int x1] [.int (q1.2.1 43 9), .ref (ad 38)] (c_Reader_scope hA _ _ hq2) hY_Reader_scope rfl (by decide) (okS _ 43 (by decide) rfl) ml_4_142 ⟨(by omega : 0 + 1 ≤ 346 + (d + 1)), (by omega : 8 + (2 + 11) + 0 ≤ 13752 + 40 * (d + 1))⟩ ⟨Nat.zero_le _, Nat.zero_le _⟩ rfl rfl (Nat.le_of_ble_eq_true rfl) dX4_readComponent_61 (wc_D hA cy _) ?_
    obtain ⟨q3, hq3, h⟩ := bd_of h
    refine c_call C [.int (q1.2.1 43 9), .int q2.1] [] (c_Values_typeAt hA _ _ _ hq3) hY_Values_typeAt rfl (by decide) (okS _ 38 (by decide) rfl) ml_4_66 ⟨(by omega : 1 + 1 ≤ 346 + (d + 1)), (by omega : 8 + (3 + 11) + 23 ≤ 13752 + 40 * (d + 1))⟩ ⟨Nat.zero_le _, Nat.zero_le _⟩ rfl rfl (Nat.le_of_ble_eq_true rfl) dX4_readComponent_64 (wc_D hA cy _) ?_
    refine v_istore C [(6, .int q3.1), (5, .int q1.1), (4, .int ((sI σ 43 7 ((σ.1 43 7) + 1)).1 43 7)), (3, .int s0), (0, .ref (ad 43)), (1, .int x1), (2, .int x2)] dX4_readComponent_67 (by decide) rfl ?_
    refine v_aload_n C 4 dX4_readComponent_69 rfl rfl ?_
    refine c_getS C 38 fl_4_29 rfl rfl (by decide) (okS _ 43 (by decide) rfl) dX4_readComponent_70 ?_
    refine v_iload C 0 dX4_readComponent_73 rfl ?_
    obtain ⟨q4, hq4, h⟩ := bd_of h
    refine c_call C [.int q3.1] [] (c_Values_formOf hA _ _ hq4) hY_Values_formOf rfl (by decide) (okS _ 38 (by decide) rfl) ml_4_148 ⟨(by omega : 1 + 1 ≤ 346 + (d + 1)), (by omega : 8 + (2 + 11) + 21 ≤ 13752 + 40 * (d + 1))⟩ ⟨Nat.zero_le _, Nat.zero_le _⟩ rfl rfl (Nat.le_of_ble_eq_true rfl) dX4_readComponent_75 (wc_D hA cy _) ?_
    refine v_bipush C 83 dX4_readComponent_78 (by decide) ?_
    refine v_icmp_eq C 90 dX4_readComponent_80 (by decide) (fun c2 => ?_) (fun c2 => ?_)
    · rw [if_pos c2] at h
      refine v_aload_n C 4 dX4_readComponent_90 rfl rfl ?_
      refine c_getS C 38 fl_4_29 rfl rfl (by decide) (okS _ 43 (by decide) rfl) dX4_readComponent_91 ?_
      refine v_iload C 1 dX4_readComponent_94 rfl ?_
      refine v_aload_n C 4 dX4_readComponent_96 rfl rfl ?_
      refine v_iload_n C 5 dX4_readComponent_97 rfl rfl ?_
      obtain ⟨q5, hq5, h⟩ := bd_of h
      refine c_call C [.int x1] [.int q1.1, .ref (ad 38)] (c_Reader_scope hA _ _ hq5) hY_Reader_scope rfl (by decide) (okS _ 43 (by decide) rfl) ml_4_142 ⟨(by omega : 0 + 1 ≤ 346 + (d + 1)), (by omega : 8 + (2 + 11) + 0 ≤ 13752 + 40 * (d + 1))⟩ ⟨Nat.zero_le _, Nat.zero_le _⟩ rfl rfl (Nat.le_of_ble_eq_true rfl) dX4_readComponent_98 (wc_D hA cy _) ?_
      refine v_bipush C 104 dX4_readComponent_101 (by decide) ?_
      obtain ⟨q6, hq6, h⟩ := bd_of h
      refine c_callN C [.int q1.1, .int q5.1, .int 104] [] (c_Values_evaluate hA _ _ _ _ hq6) hY_Values_evaluate rfl (by decide) (okS _ 38 (by decide) rfl) ml_4_184 ⟨(by omega : 222 + 1 ≤ 346 + (d + 1)), (by omega : 8 + (9 + 11) + 8846 ≤ 13752 + 40 * (d + 1))⟩ ⟨Nat.zero_le _, Nat.zero_le _⟩ rfl rfl (Nat.le_of_ble_eq_true rfl) dX4_readComponent_103 (wc_D hA cy _) ?_
      refine v_istore C [(7, .int q6.1), (6, .int q3.1), (5, .int q1.1), (4, .int ((sI σ 43 7 ((σ.1 43 7) + 1)).1 43 7)), (3, .int s0), (0, .ref (ad 43)), (1, .int x1), (2, .int x2)] dX4_readComponent_106 (by decide) rfl ?_
      refine v_aload_n C 5 dX4_readComponent_108 rfl rfl ?_
      refine c_getS C 38 fl_4_29 rfl rfl (by decide) (okS _ 43 (by decide) rfl) dX4_readComponent_109 ?_
      refine v_iload C 0 dX4_readComponent_112 rfl ?_
      obtain ⟨q7, hq7, h⟩ := bd_of h
      refine c_call C [.int q6.1] [] (c_Values_firstOf hA _ _ hq7) hY_Values_firstOf rfl (by decide) (okS _ 38 (by decide) rfl) ml_4_245 ⟨(by omega : 1 + 1 ≤ 346 + (d + 1)), (by omega : 8 + (2 + 11) + 23 ≤ 13752 + 40 * (d + 1))⟩ ⟨Nat.zero_le _, Nat.zero_le _⟩ rfl rfl (Nat.le_of_ble_eq_true rfl) dX4_readComponent_114 (wc_D hA cy _) ?_
      refine v_istore C [(8, .int q7.1), (7, .int q6.1), (6, .int q3.1), (5, .int q1.1), (4, .int ((sI σ 43 7 ((σ.1 43 7) + 1)).1 43 7)), (3, .int s0), (0, .ref (ad 43)), (1, .int x1), (2, .int x2)] dX4_readComponent_117 (by decide) rfl ?_
      refine v_iload_n C 5 dX4_readComponent_119 rfl rfl ?_
      refine v_if_eq C 141 dX4_readComponent_120 (by decide) (fun c3 => ?_) (fun c3 => ?_)
      · rw [if_pos c3] at h
        refine v_aload_n C 6 dX4_readComponent_141 rfl rfl ?_
        refine v_aload_n C 6 dX4_readComponent_142 rfl rfl ?_
        refine c_getS C 38 fl_4_29 rfl rfl (by decide) (okS _ 43 (by decide) rfl) dX4_readComponent_143 ?_
        refine v_iload C 2 dX4_readComponent_146 rfl ?_
        refine v_iload C 0 dX4_readComponent_148 rfl ?_
        obtain ⟨q8, hq8, h⟩ := bd_of h
        refine c_call C [.int q3.1, .int q7.1] [.ref (ad 43)] (c_Values_secondType hA _ _ _ hq8) hY_Values_secondType rfl (by decide) (okS _ 38 (by decide) rfl) ml_4_187 ⟨(by omega : 2 + 1 ≤ 346 + (d + 1)), (by omega : 8 + (4 + 11) + 45 ≤ 13752 + 40 * (d + 1))⟩ ⟨Nat.zero_le _, Nat.zero_le _⟩ rfl rfl (Nat.le_of_ble_eq_true rfl) dX4_readComponent_150 (wc_D hA cy _) ?_
        refine v_aload_n C 6 dX4_readComponent_153 rfl rfl ?_
        refine c_getS C 38 fl_4_29 rfl rfl (by decide) (okS _ 43 (by decide) rfl) dX4_readComponent_154 ?_
        refine v_iload C 1 dX4_readComponent_157 rfl ?_
        obtain ⟨q9, hq9, h⟩ := bd_of h
        refine c_call C [.int q6.1] [.int q8.1, .ref (ad 43)] (c_Values_secondOf hA _ _ hq9) hY_Values_secondOf rfl (by decide) (okS _ 38 (by decide) rfl) ml_4_248 ⟨(by omega : 1 + 1 ≤ 346 + (d + 1)), (by omega : 8 + (2 + 11) + 23 ≤ 13752 + 40 * (d + 1))⟩ ⟨Nat.zero_le _, Nat.zero_le _⟩ rfl rfl (Nat.le_of_ble_eq_true rfl) dX4_readComponent_159 (wc_D hA cy _) ?_
        refine v_iload_n C 7 dX4_readComponent_162 rfl rfl ?_
        refine v_iload_n C 8 dX4_readComponent_163 rfl rfl ?_
        obtain ⟨q10, hq10, h⟩ := bd_of h
        refine c_call C [.int q8.1, .int q9.1, .int x1, .int x2] [] (c_Reader_settle hA _ _ _ _ _ hq10) hY_Reader_settle rfl (by decide) (okS _ 43 (by decide) rfl) ml_4_215 ⟨(by omega : 344 + 1 ≤ 346 + (d + 1)), (by omega : 8 + (7 + 11) + 13700 ≤ 13752 + 40 * (d + 1))⟩ ⟨Nat.zero_le _, Nat.zero_le _⟩ rfl rfl (Nat.le_of_ble_eq_true rfl) dX4_readComponent_164 (wc_D hA cy _) ?_
        obtain rfl := Option.some.inj h
        exact v_iret C dX4_readComponent_167
      · rw [if_neg c3] at h
        refine v_aload_n C 6 dX4_readComponent_123 rfl rfl ?_
        refine v_aload_n C 6 dX4_readComponent_124 rfl rfl ?_
        refine c_getS C 38 fl_4_29 rfl rfl (by decide) (okS _ 43 (by decide) rfl) dX4_readComponent_125 ?_
        refine v_iload C 2 dX4_readComponent_128 rfl ?_
        obtain ⟨q11, hq11, h⟩ := bd_of h
        refine c_call C [.int q3.1] [.ref (ad 43)] (c_Values_firstType hA _ _ hq11) hY_Values_firstType rfl (by decide) (okS _ 38 (by decide) rfl) ml_4_181 ⟨(by omega : 2 + 1 ≤ 346 + (d + 1)), (by omega : 8 + (2 + 11) + 45 ≤ 13752 + 40 * (d + 1))⟩ ⟨Nat.zero_le _, Nat.zero_le _⟩ rfl rfl (Nat.le_of_ble_eq_true rfl) dX4_readComponent_130 (wc_D hA cy _) ?_
        refine v_iload C 0 dX4_readComponent_133 rfl ?_
        refine v_iload_n C 7 dX4_readComponent_135 rfl rfl ?_
        refine v_iload_n C 8 dX4_readComponent_136 rfl rfl ?_
        obtain ⟨q12, hq12, h⟩ := bd_of h
        refine c_call C [.int q11.1, .int q7.1, .int x1, .int x2] [] (c_Reader_settle hA _ _ _ _ _ hq12) hY_Reader_settle rfl (by decide) (okS _ 43 (by decide) rfl) ml_4_215 ⟨(by omega : 344 + 1 ≤ 346 + (d + 1)), (by omega : 8 + (7 + 11) + 13700 ≤ 13752 + 40 * (d + 1))⟩ ⟨Nat.zero_le _, Nat.zero_le _⟩ rfl rfl (Nat.le_of_ble_eq_true rfl) dX4_readComponent_137 (wc_D hA cy _) ?_
        obtain rfl := Option.some.inj h
        exact v_iret C dX4_readComponent_140
    · rw [if_neg c2] at h
      refine v_aload_n C 4 dX4_readComponent_83 rfl rfl ?_
      refine v_iload C 2 dX4_readComponent_84 rfl ?_
      obtain ⟨q13, hq13, h⟩ := bd_of h
      refine c_call C [.int ((sI σ 43 7 ((σ.1 43 7) + 1)).1 43 7)] [] (c_Reader_refuse hA _ _ hq13) hY_Reader_refuse rfl (by decide) (okS _ 43 (by decide) rfl) ml_4_95 ⟨(by omega : 0 + 1 ≤ 346 + (d + 1)), (by omega : 8 + (2 + 11) + 0 ≤ 13752 + 40 * (d + 1))⟩ ⟨Nat.zero_le _, Nat.zero_le _⟩ rfl rfl (Nat.le_of_ble_eq_true rfl) dX4_readComponent_86 (wc_D hA cy _) ?_
      obtain rfl := Option.some.inj h
      exact v_iret C dX4_readComponent_89
  · rw [if_pos c1] at h
    refine v_iconst C (-1) dX4_readComponent_49 (by decide) ?_
    obtain rfl := Option.some.inj h
    exact v_iret C dX4_readComponent_50
set_option maxHeartbeats 4000000 in
set_option maxRecDepth 20000 in
theorem w_Reader_readComponent {l : Launch} {D : va_G} {cy : Nat → ClassId} {ad : Nat → Nat} {q : Int32 × CS} {r_readType : Int32 → CS → Option (Int32 × CS)} {r_readBinder : Int32 → Int32 → Int32 → CS → Option (Int32 × CS)} {r_checkTerm : Int32 → Int32 → CS → Option (Int32 × CS)} {r_readPair : Int32 → Int32 → CS → Option (Int32 × CS)} {r_readFunction : Int32 → Int32 → CS → Option (Int32 × CS)} {r_inferTerm : Int32 → CS → Option (Int32 × CS)} {r_readAnnotated : Int32 → CS → Option (Int32 × CS)} {r_readApplied : Int32 → CS → Option (Int32 × CS)} {r_readComponent : Int32 → CS → Option (Int32 × CS)} {d : Nat} (hA : adOK ad) (hr_readType : ∀ (z1 : Int32) (σ : CS) (q : Int32 × CS), r_readType z1 σ = some q → MV l D (cyT cy) (inC ad) yX4_readType cX4_readType 7 (some .int) (346 + d) (13752 + 40 * d) 0 0 [.ref (ad 43), .int z1] (wc cy ad σ) (some (.int q.1)) (wc cy ad q.2)) (hr_readBinder : ∀ (z1 : Int32) (z2 : Int32) (z3 : Int32) (σ : CS) (q : Int32 × CS), r_readBinder z1 z2 z3 σ = some q → MV l D (cyT cy) (inC ad) yX4_readBinder cX4_readBinder 7 (some .int) (346 + d) (13752 + 40 * d) 0 0 [.ref (ad 43), .int z1, .int z2, .int z3] (wc cy ad σ) (some (.int q.1)) (wc cy ad q.2)) (hr_checkTerm : ∀ (z1 : Int32) (z2 : Int32) (σ : CS) (q : Int32 × CS), r_checkTerm z1 z2 σ = some q → MV l D (cyT cy) (inC ad) yX4_checkTerm cX4_checkTerm 7 (some .int) (346 + d) (13752 + 40 * d) 0 0 [.ref (ad 43), .int z1, .int z2] (wc cy ad σ) (some (.int q.1)) (wc cy ad q.2)) (hr_readPair : ∀ (z1 : Int32) (z2 : Int32) (σ : CS) (q : Int32 × CS), r_readPair z1 z2 σ = some q → MV l D (cyT cy) (inC ad) yX4_readPair cX4_readPair 7 (some .int) (346 + d) (13752 + 40 * d) 0 0 [.ref (ad 43), .int z1, .int z2] (wc cy ad σ) (some (.int q.1)) (wc cy ad q.2)) (hr_readFunction : ∀ (z1 : Int32) (z2 : Int32) (σ : CS) (q : Int32 × CS), r_readFunction z1 z2 σ = some q → MV l D (cyT cy) (inC ad) yX4_readFunction cX4_readFunction 6 (some .int) (346 + d) (13752 + 40 * d) 0 0 [.ref (ad 43), .int z1, .int z2] (wc cy ad σ) (some (.int q.1)) (wc cy ad q.2)) (hr_inferTerm : ∀ (z1 : Int32) (σ : CS) (q : Int32 × CS), r_inferTerm z1 σ = some q → MV l D (cyT cy) (inC ad) yX4_inferTerm cX4_inferTerm 4 (some .int) (346 + d) (13752 + 40 * d) 0 0 [.ref (ad 43), .int z1] (wc cy ad σ) (some (.int q.1)) (wc cy ad q.2)) (hr_readAnnotated : ∀ (z1 : Int32) (σ : CS) (q : Int32 × CS), r_readAnnotated z1 σ = some q → MV l D (cyT cy) (inC ad) yX4_readAnnotated cX4_readAnnotated 4 (some .int) (346 + d) (13752 + 40 * d) 0 0 [.ref (ad 43), .int z1] (wc cy ad σ) (some (.int q.1)) (wc cy ad q.2)) (hr_readApplied : ∀ (z1 : Int32) (σ : CS) (q : Int32 × CS), r_readApplied z1 σ = some q → MV l D (cyT cy) (inC ad) yX4_readApplied cX4_readApplied 10 (some .int) (346 + d) (13752 + 40 * d) 0 0 [.ref (ad 43), .int z1] (wc cy ad σ) (some (.int q.1)) (wc cy ad q.2)) (hr_readComponent : ∀ (z1 : Int32) (σ : CS) (q : Int32 × CS), r_readComponent z1 σ = some q → MV l D (cyT cy) (inC ad) yX4_readComponent cX4_readComponent 9 (some .int) (346 + d) (13752 + 40 * d) 0 0 [.ref (ad 43), .int z1] (wc cy ad σ) (some (.int q.1)) (wc cy ad q.2)) (x1 : Int32) (σ : CS) (h : F_Reader_readComponent r_readType r_readBinder r_checkTerm r_readPair r_readFunction r_inferTerm r_readAnnotated r_readApplied r_readComponent x1 σ = some q) : MV l D (cyT cy) (inC ad) yX4_readComponent cX4_readComponent 9 (some .int) (346 + (d + 1)) (13752 + 40 * (d + 1)) 0 0 [.ref (ad 43), .int x1] (wc cy ad σ) (some (.int q.1)) (wc cy ad q.2) := by
  refine MV.of (by decide) (wc_D hA cy σ) (Nat.le_of_ble_eq_true rfl) [(0, .ref (ad 43)), (1, .int x1)] rfl ?_
  intro p e s m args below meth c C
  rw [F_Reader_readComponent] at h
  refine v_aload_n C 0 dX4_readComponent_0 rfl rfl ?_
  refine c_getI C fl_4_41 rfl (okS _ 43 (by decide) rfl) dX4_readComponent_1 ?_
  refine v_istore_n C [(2, .int (σ.1 43 7)), (0, .ref (ad 43)), (1, .int x1)] dX4_readComponent_4 rfl (by decide) rfl ?_
  refine v_aload_n C 1 dX4_readComponent_5 rfl rfl ?_
  obtain ⟨q1, hq1, h⟩ := bd_of h
  refine c_call C [] [] (c_Reader_peek hA _ hq1) hY_Reader_peek rfl (by decide) (okS _ 43 (by decide) rfl) ml_4_98 ⟨(by omega : 0 + 1 ≤ 346 + (d + 1)), (by omega : 8 + (1 + 11) + 0 ≤ 13752 + 40 * (d + 1))⟩ ⟨Nat.zero_le _, Nat.zero_le _⟩ rfl rfl (Nat.le_of_ble_eq_true rfl) dX4_readComponent_6 (wc_D hA cy _) ?_
  refine v_bipush C 60 dX4_readComponent_9 (by decide) ?_
  refine v_icmp_ne C 18 dX4_readComponent_11 (by decide) (fun c1 => ?_) (fun c1 => ?_)
  · rw [if_neg c1] at h
    refine v_iconst C 0 dX4_readComponent_18 (by decide) ?_
    exact v_sub [1, 2, 0] rfl ((b_Reader_readComponent_19 C hA hr_readType hr_readBinder hr_checkTerm hr_readPair hr_readFunction hr_inferTerm hr_readAnnotated hr_readApplied hr_readComponent) _ _ _ _ h)
  · rw [if_pos c1] at h
    refine v_iconst C 1 dX4_readComponent_14 (by decide) ?_
    refine v_goto C 19 dX4_readComponent_15 (by decide) ?_
    exact v_sub [1, 2, 0] rfl ((b_Reader_readComponent_19 C hA hr_readType hr_readBinder hr_checkTerm hr_readPair hr_readFunction hr_inferTerm hr_readAnnotated hr_readApplied hr_readComponent) _ _ _ _ h)
set_option maxHeartbeats 4000000 in
set_option maxRecDepth 20000 in
theorem g_Reader {l : Launch} {D : va_G} {cy : Nat → ClassId} {ad : Nat → Nat} (hA : adOK ad) : ∀ d : Nat, (∀ (z1 : Int32) (σ : CS) (q : Int32 × CS), f_Reader_readType d z1 σ = some q → MV l D (cyT cy) (inC ad) yX4_readType cX4_readType 7 (some .int) (346 + d) (13752 + 40 * d) 0 0 [.ref (ad 43), .int z1] (wc cy ad σ) (some (.int q.1)) (wc cy ad q.2)) ∧ (∀ (z1 : Int32) (z2 : Int32) (z3 : Int32) (σ : CS) (q : Int32 × CS), f_Reader_readBinder d z1 z2 z3 σ = some q → MV l D (cyT cy) (inC ad) yX4_readBinder cX4_readBinder 7 (some .int) (346 + d) (13752 + 40 * d) 0 0 [.ref (ad 43), .int z1, .int z2, .int z3] (wc cy ad σ) (some (.int q.1)) (wc cy ad q.2)) ∧ (∀ (z1 : Int32) (z2 : Int32) (σ : CS) (q : Int32 × CS), f_Reader_checkTerm d z1 z2 σ = some q → MV l D (cyT cy) (inC ad) yX4_checkTerm cX4_checkTerm 7 (some .int) (346 + d) (13752 + 40 * d) 0 0 [.ref (ad 43), .int z1, .int z2] (wc cy ad σ) (some (.int q.1)) (wc cy ad q.2)) ∧ (∀ (z1 : Int32) (z2 : Int32) (σ : CS) (q : Int32 × CS), f_Reader_readPair d z1 z2 σ = some q → MV l D (cyT cy) (inC ad) yX4_readPair cX4_readPair 7 (some .int) (346 + d) (13752 + 40 * d) 0 0 [.ref (ad 43), .int z1, .int z2] (wc cy ad σ) (some (.int q.1)) (wc cy ad q.2)) ∧ (∀ (z1 : Int32) (z2 : Int32) (σ : CS) (q : Int32 × CS), f_Reader_readFunction d z1 z2 σ = some q → MV l D (cyT cy) (inC ad) yX4_readFunction cX4_readFunction 6 (some .int) (346 + d) (13752 + 40 * d) 0 0 [.ref (ad 43), .int z1, .int z2] (wc cy ad σ) (some (.int q.1)) (wc cy ad q.2)) ∧ (∀ (z1 : Int32) (σ : CS) (q : Int32 × CS), f_Reader_inferTerm d z1 σ = some q → MV l D (cyT cy) (inC ad) yX4_inferTerm cX4_inferTerm 4 (some .int) (346 + d) (13752 + 40 * d) 0 0 [.ref (ad 43), .int z1] (wc cy ad σ) (some (.int q.1)) (wc cy ad q.2)) ∧ (∀ (z1 : Int32) (σ : CS) (q : Int32 × CS), f_Reader_readAnnotated d z1 σ = some q → MV l D (cyT cy) (inC ad) yX4_readAnnotated cX4_readAnnotated 4 (some .int) (346 + d) (13752 + 40 * d) 0 0 [.ref (ad 43), .int z1] (wc cy ad σ) (some (.int q.1)) (wc cy ad q.2)) ∧ (∀ (z1 : Int32) (σ : CS) (q : Int32 × CS), f_Reader_readApplied d z1 σ = some q → MV l D (cyT cy) (inC ad) yX4_readApplied cX4_readApplied 10 (some .int) (346 + d) (13752 + 40 * d) 0 0 [.ref (ad 43), .int z1] (wc cy ad σ) (some (.int q.1)) (wc cy ad q.2)) ∧ (∀ (z1 : Int32) (σ : CS) (q : Int32 × CS), f_Reader_readComponent d z1 σ = some q → MV l D (cyT cy) (inC ad) yX4_readComponent cX4_readComponent 9 (some .int) (346 + d) (13752 + 40 * d) 0 0 [.ref (ad 43), .int z1] (wc cy ad σ) (some (.int q.1)) (wc cy ad q.2)) := by
  intro d
  induction d with
  | zero => exact ⟨(fun _ _ _ h => absurd (show (none : Option (Int32 × CS)) = some _ from h) (by simp)), (fun _ _ _ _ _ h => absurd (show (none : Option (Int32 × CS)) = some _ from h) (by simp)), (fun _ _ _ _ h => absurd (show (none : Option (Int32 × CS)) = some _ from h) (by simp)), (fun _ _ _ _ h => absurd (show (none : Option (Int32 × CS)) = some _ from h) (by simp)), (fun _ _ _ _ h => absurd (show (none : Option (Int32 × CS)) = some _ from h) (by simp)), (fun _ _ _ h => absurd (show (none : Option (Int32 × CS)) = some _ from h) (by simp)), (fun _ _ _ h => absurd (show (none : Option (Int32 × CS)) = some _ from h) (by simp)), (fun _ _ _ h => absurd (show (none : Option (Int32 × CS)) = some _ from h) (by simp)), (fun _ _ _ h => absurd (show (none : Option (Int32 × CS)) = some _ from h) (by simp))⟩
  | succ d ih =>
    obtain ⟨h0, h1, h2, h3, h4, h5, h6, h7, h8⟩ := ih
    exact ⟨(fun _ _ _ h => w_Reader_readType hA h0 h1 h2 h3 h4 h5 h6 h7 h8 _ _ h), (fun _ _ _ _ _ h => w_Reader_readBinder hA h0 h1 h2 h3 h4 h5 h6 h7 h8 _ _ _ _ h), (fun _ _ _ _ h => w_Reader_checkTerm hA h0 h1 h2 h3 h4 h5 h6 h7 h8 _ _ _ h), (fun _ _ _ _ h => w_Reader_readPair hA h0 h1 h2 h3 h4 h5 h6 h7 h8 _ _ _ h), (fun _ _ _ _ h => w_Reader_readFunction hA h0 h1 h2 h3 h4 h5 h6 h7 h8 _ _ _ h), (fun _ _ _ h => w_Reader_inferTerm hA h0 h1 h2 h3 h4 h5 h6 h7 h8 _ _ h), (fun _ _ _ h => w_Reader_readAnnotated hA h0 h1 h2 h3 h4 h5 h6 h7 h8 _ _ h), (fun _ _ _ h => w_Reader_readApplied hA h0 h1 h2 h3 h4 h5 h6 h7 h8 _ _ h), (fun _ _ _ h => w_Reader_readComponent hA h0 h1 h2 h3 h4 h5 h6 h7 h8 _ _ h)⟩
set_option maxHeartbeats 4000000 in
set_option maxRecDepth 20000 in
theorem c_Reader_readType {l : Launch} {D : va_G} {cy : Nat → ClassId} {ad : Nat → Nat} {q : Int32 × CS} (hA : adOK ad) (z1 : Int32) (σ : CS) (h : f_Reader_readType 140 z1 σ = some q) : MV l D (cyT cy) (inC ad) yX4_readType cX4_readType 7 (some .int) 486 19352 0 0 [.ref (ad 43), .int z1] (wc cy ad σ) (some (.int q.1)) (wc cy ad q.2) := (g_Reader hA 140).1 _ _ _ h
set_option maxHeartbeats 4000000 in
set_option maxRecDepth 20000 in
theorem c_Reader_readBinder {l : Launch} {D : va_G} {cy : Nat → ClassId} {ad : Nat → Nat} {q : Int32 × CS} (hA : adOK ad) (z1 : Int32) (z2 : Int32) (z3 : Int32) (σ : CS) (h : f_Reader_readBinder 140 z1 z2 z3 σ = some q) : MV l D (cyT cy) (inC ad) yX4_readBinder cX4_readBinder 7 (some .int) 486 19352 0 0 [.ref (ad 43), .int z1, .int z2, .int z3] (wc cy ad σ) (some (.int q.1)) (wc cy ad q.2) := (g_Reader hA 140).2.1 _ _ _ _ _ h
set_option maxHeartbeats 4000000 in
set_option maxRecDepth 20000 in
theorem c_Reader_checkTerm {l : Launch} {D : va_G} {cy : Nat → ClassId} {ad : Nat → Nat} {q : Int32 × CS} (hA : adOK ad) (z1 : Int32) (z2 : Int32) (σ : CS) (h : f_Reader_checkTerm 140 z1 z2 σ = some q) : MV l D (cyT cy) (inC ad) yX4_checkTerm cX4_checkTerm 7 (some .int) 486 19352 0 0 [.ref (ad 43), .int z1, .int z2] (wc cy ad σ) (some (.int q.1)) (wc cy ad q.2) := (g_Reader hA 140).2.2.1 _ _ _ _ h
set_option maxHeartbeats 4000000 in
set_option maxRecDepth 20000 in
theorem c_Reader_readPair {l : Launch} {D : va_G} {cy : Nat → ClassId} {ad : Nat → Nat} {q : Int32 × CS} (hA : adOK ad) (z1 : Int32) (z2 : Int32) (σ : CS) (h : f_Reader_readPair 140 z1 z2 σ = some q) : MV l D (cyT cy) (inC ad) yX4_readPair cX4_readPair 7 (some .int) 486 19352 0 0 [.ref (ad 43), .int z1, .int z2] (wc cy ad σ) (some (.int q.1)) (wc cy ad q.2) := (g_Reader hA 140).2.2.2.1 _ _ _ _ h
set_option maxHeartbeats 4000000 in
set_option maxRecDepth 20000 in
theorem c_Reader_readFunction {l : Launch} {D : va_G} {cy : Nat → ClassId} {ad : Nat → Nat} {q : Int32 × CS} (hA : adOK ad) (z1 : Int32) (z2 : Int32) (σ : CS) (h : f_Reader_readFunction 140 z1 z2 σ = some q) : MV l D (cyT cy) (inC ad) yX4_readFunction cX4_readFunction 6 (some .int) 486 19352 0 0 [.ref (ad 43), .int z1, .int z2] (wc cy ad σ) (some (.int q.1)) (wc cy ad q.2) := (g_Reader hA 140).2.2.2.2.1 _ _ _ _ h
set_option maxHeartbeats 4000000 in
set_option maxRecDepth 20000 in
theorem c_Reader_inferTerm {l : Launch} {D : va_G} {cy : Nat → ClassId} {ad : Nat → Nat} {q : Int32 × CS} (hA : adOK ad) (z1 : Int32) (σ : CS) (h : f_Reader_inferTerm 140 z1 σ = some q) : MV l D (cyT cy) (inC ad) yX4_inferTerm cX4_inferTerm 4 (some .int) 486 19352 0 0 [.ref (ad 43), .int z1] (wc cy ad σ) (some (.int q.1)) (wc cy ad q.2) := (g_Reader hA 140).2.2.2.2.2.1 _ _ _ h
set_option maxHeartbeats 4000000 in
set_option maxRecDepth 20000 in
theorem c_Reader_readAnnotated {l : Launch} {D : va_G} {cy : Nat → ClassId} {ad : Nat → Nat} {q : Int32 × CS} (hA : adOK ad) (z1 : Int32) (σ : CS) (h : f_Reader_readAnnotated 140 z1 σ = some q) : MV l D (cyT cy) (inC ad) yX4_readAnnotated cX4_readAnnotated 4 (some .int) 486 19352 0 0 [.ref (ad 43), .int z1] (wc cy ad σ) (some (.int q.1)) (wc cy ad q.2) := (g_Reader hA 140).2.2.2.2.2.2.1 _ _ _ h
set_option maxHeartbeats 4000000 in
set_option maxRecDepth 20000 in
theorem c_Reader_readApplied {l : Launch} {D : va_G} {cy : Nat → ClassId} {ad : Nat → Nat} {q : Int32 × CS} (hA : adOK ad) (z1 : Int32) (σ : CS) (h : f_Reader_readApplied 140 z1 σ = some q) : MV l D (cyT cy) (inC ad) yX4_readApplied cX4_readApplied 10 (some .int) 486 19352 0 0 [.ref (ad 43), .int z1] (wc cy ad σ) (some (.int q.1)) (wc cy ad q.2) := (g_Reader hA 140).2.2.2.2.2.2.2.1 _ _ _ h
set_option maxHeartbeats 4000000 in
set_option maxRecDepth 20000 in
theorem c_Reader_readComponent {l : Launch} {D : va_G} {cy : Nat → ClassId} {ad : Nat → Nat} {q : Int32 × CS} (hA : adOK ad) (z1 : Int32) (σ : CS) (h : f_Reader_readComponent 140 z1 σ = some q) : MV l D (cyT cy) (inC ad) yX4_readComponent cX4_readComponent 9 (some .int) 486 19352 0 0 [.ref (ad 43), .int z1] (wc cy ad σ) (some (.int q.1)) (wc cy ad q.2) := (g_Reader hA 140).2.2.2.2.2.2.2.2 _ _ _ h
