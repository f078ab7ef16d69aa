theorem dX11_nextConstant_0 : decode cX11_nextConstant 0 = .ok (.aload_n 0, 1) := by decide +kernel
theorem dX11_nextConstant_1 : decode cX11_nextConstant 1 = .ok (.getfield 313, 3) := by decide +kernel
theorem dX11_nextConstant_4 : decode cX11_nextConstant 4 = .ok (.iconst 4, 1) := by decide +kernel
theorem dX11_nextConstant_5 : decode cX11_nextConstant 5 = .ok (.if_icmp .ne 12, 3) := by decide +kernel
theorem dX11_nextConstant_8 : decode cX11_nextConstant 8 = .ok (.aload_n 0, 1) := by decide +kernel
theorem dX11_nextConstant_9 : decode cX11_nextConstant 9 = .ok (.aload_n 0, 1) := by decide +kernel
theorem dX11_nextConstant_10 : decode cX11_nextConstant 10 = .ok (.getfield 213, 3) := by decide +kernel
theorem dX11_nextConstant_13 : decode cX11_nextConstant 13 = .ok (.invokevirtual 240, 3) := by decide +kernel
theorem dX11_nextConstant_16 : decode cX11_nextConstant 16 = .ok (.return_, 1) := by decide +kernel
theorem dX11_nextConstant_17 : decode cX11_nextConstant 17 = .ok (.aload_n 0, 1) := by decide +kernel
theorem dX11_nextConstant_18 : decode cX11_nextConstant 18 = .ok (.dup, 1) := by decide +kernel
theorem dX11_nextConstant_19 : decode cX11_nextConstant 19 = .ok (.getfield 213, 3) := by decide +kernel
theorem dX11_nextConstant_22 : decode cX11_nextConstant 22 = .ok (.iconst 1, 1) := by decide +kernel
theorem dX11_nextConstant_23 : decode cX11_nextConstant 23 = .ok (.iadd, 1) := by decide +kernel
theorem dX11_nextConstant_24 : decode cX11_nextConstant 24 = .ok (.putfield 213, 3) := by decide +kernel
theorem dX11_nextConstant_27 : decode cX11_nextConstant 27 = .ok (.aload_n 0, 1) := by decide +kernel
theorem dX11_nextConstant_28 : decode cX11_nextConstant 28 = .ok (.invokevirtual 373, 3) := by decide +kernel
theorem dX11_nextConstant_31 : decode cX11_nextConstant 31 = .ok (.istore_n 1, 1) := by decide +kernel
theorem dX11_nextConstant_32 : decode cX11_nextConstant 32 = .ok (.aload_n 0, 1) := by decide +kernel
theorem dX11_nextConstant_33 : decode cX11_nextConstant 33 = .ok (.getfield 210, 3) := by decide +kernel
theorem dX11_nextConstant_36 : decode cX11_nextConstant 36 = .ok (.ifCond .ge 21, 3) := by decide +kernel
theorem dX11_nextConstant_39 : decode cX11_nextConstant 39 = .ok (.aload_n 0, 1) := by decide +kernel
theorem dX11_nextConstant_40 : decode cX11_nextConstant 40 = .ok (.iload_n 1, 1) := by decide +kernel
theorem dX11_nextConstant_41 : decode cX11_nextConstant 41 = .ok (.sipush 969, 3) := by decide +kernel
theorem dX11_nextConstant_44 : decode cX11_nextConstant 44 = .ok (.bipush 51, 2) := by decide +kernel
theorem dX11_nextConstant_46 : decode cX11_nextConstant 46 = .ok (.iconst 3, 1) := by decide +kernel
theorem dX11_nextConstant_47 : decode cX11_nextConstant 47 = .ok (.aload_n 0, 1) := by decide +kernel
theorem dX11_nextConstant_48 : decode cX11_nextConstant 48 = .ok (.getfield 313, 3) := by decide +kernel
theorem dX11_nextConstant_51 : decode cX11_nextConstant 51 = .ok (.iadd, 1) := by decide +kernel
theorem dX11_nextConstant_52 : decode cX11_nextConstant 52 = .ok (.imul, 1) := by decide +kernel
theorem dX11_nextConstant_53 : decode cX11_nextConstant 53 = .ok (.iadd, 1) := by decide +kernel
theorem dX11_nextConstant_54 : decode cX11_nextConstant 54 = .ok (.invokevirtual 392, 3) := by decide +kernel
theorem dX11_nextConstant_57 : decode cX11_nextConstant 57 = .ok (.aload_n 0, 1) := by decide +kernel
theorem dX11_nextConstant_58 : decode cX11_nextConstant 58 = .ok (.dup, 1) := by decide +kernel
theorem dX11_nextConstant_59 : decode cX11_nextConstant 59 = .ok (.getfield 313, 3) := by decide +kernel
theorem dX11_nextConstant_62 : decode cX11_nextConstant 62 = .ok (.iconst 1, 1) := by decide +kernel
theorem dX11_nextConstant_63 : decode cX11_nextConstant 63 = .ok (.iadd, 1) := by decide +kernel
theorem dX11_nextConstant_64 : decode cX11_nextConstant 64 = .ok (.putfield 313, 3) := by decide +kernel
theorem dX11_nextConstant_67 : decode cX11_nextConstant 67 = .ok (.return_, 1) := by decide +kernel
theorem dX11_readsLaws_0 : decode cX11_readsLaws 0 = .ok (.iconst 0, 1) := by decide +kernel
theorem dX11_readsLaws_1 : decode cX11_readsLaws 1 = .ok (.istore_n 1, 1) := by decide +kernel
theorem dX11_readsLaws_2 : decode cX11_readsLaws 2 = .ok (.aload_n 0, 1) := by decide +kernel
theorem dX11_readsLaws_3 : decode cX11_readsLaws 3 = .ok (.invokevirtual 370, 3) := by decide +kernel
theorem dX11_readsLaws_6 : decode cX11_readsLaws 6 = .ok (.aload_n 0, 1) := by decide +kernel
theorem dX11_readsLaws_7 : decode cX11_readsLaws 7 = .ok (.iconst 0, 1) := by decide +kernel
theorem dX11_readsLaws_8 : decode cX11_readsLaws 8 = .ok (.putfield 294, 3) := by decide +kernel
theorem dX11_readsLaws_11 : decode cX11_readsLaws 11 = .ok (.aload_n 0, 1) := by decide +kernel
theorem dX11_readsLaws_12 : decode cX11_readsLaws 12 = .ok (.iconst 0, 1) := by decide +kernel
theorem dX11_readsLaws_13 : decode cX11_readsLaws 13 = .ok (.putfield 268, 3) := by decide +kernel
theorem dX11_readsLaws_16 : decode cX11_readsLaws 16 = .ok (.aload_n 0, 1) := by decide +kernel
theorem dX11_readsLaws_17 : decode cX11_readsLaws 17 = .ok (.iconst 0, 1) := by decide +kernel
theorem dX11_readsLaws_18 : decode cX11_readsLaws 18 = .ok (.putfield 313, 3) := by decide +kernel
theorem dX11_readsLaws_21 : decode cX11_readsLaws 21 = .ok (.aload_n 0, 1) := by decide +kernel
theorem dX11_readsLaws_22 : decode cX11_readsLaws 22 = .ok (.sipush 969, 3) := by decide +kernel
theorem dX11_readsLaws_25 : decode cX11_readsLaws 25 = .ok (.putfield 271, 3) := by decide +kernel
theorem dX11_readsLaws_28 : decode cX11_readsLaws 28 = .ok (.aload_n 0, 1) := by decide +kernel
theorem dX11_readsLaws_29 : decode cX11_readsLaws 29 = .ok (.getfield 210, 3) := by decide +kernel
theorem dX11_readsLaws_32 : decode cX11_readsLaws 32 = .ok (.ifCond .ge 112, 3) := by decide +kernel
theorem dX11_readsLaws_35 : decode cX11_readsLaws 35 = .ok (.aload_n 0, 1) := by decide +kernel
theorem dX11_readsLaws_36 : decode cX11_readsLaws 36 = .ok (.getfield 213, 3) := by decide +kernel
theorem dX11_readsLaws_39 : decode cX11_readsLaws 39 = .ok (.aload_n 0, 1) := by decide +kernel
theorem dX11_readsLaws_40 : decode cX11_readsLaws 40 = .ok (.getfield 216, 3) := by decide +kernel
theorem dX11_readsLaws_43 : decode cX11_readsLaws 43 = .ok (.if_icmp .ge 101, 3) := by decide +kernel
theorem dX11_readsLaws_46 : decode cX11_readsLaws 46 = .ok (.aload_n 0, 1) := by decide +kernel
theorem dX11_readsLaws_47 : decode cX11_readsLaws 47 = .ok (.invokevirtual 290, 3) := by decide +kernel
theorem dX11_readsLaws_50 : decode cX11_readsLaws 50 = .ok (.istore_n 2, 1) := by decide +kernel
theorem dX11_readsLaws_51 : decode cX11_readsLaws 51 = .ok (.iload_n 2, 1) := by decide +kernel
theorem dX11_readsLaws_52 : decode cX11_readsLaws 52 = .ok (.bipush 102, 2) := by decide +kernel
theorem dX11_readsLaws_54 : decode cX11_readsLaws 54 = .ok (.if_icmp .ne 10, 3) := by decide +kernel
theorem dX11_readsLaws_57 : decode cX11_readsLaws 57 = .ok (.aload_n 0, 1) := by decide +kernel
theorem dX11_readsLaws_58 : decode cX11_readsLaws 58 = .ok (.invokevirtual 395, 3) := by decide +kernel
theorem dX11_readsLaws_61 : decode cX11_readsLaws 61 = .ok (.goto 24, 3) := by decide +kernel
theorem dX11_readsLaws_64 : decode cX11_readsLaws 64 = .ok (.iload_n 2, 1) := by decide +kernel
theorem dX11_readsLaws_65 : decode cX11_readsLaws 65 = .ok (.bipush 107, 2) := by decide +kernel
theorem dX11_readsLaws_67 : decode cX11_readsLaws 67 = .ok (.if_icmp .ne 10, 3) := by decide +kernel
theorem dX11_readsLaws_70 : decode cX11_readsLaws 70 = .ok (.aload_n 0, 1) := by decide +kernel
theorem dX11_readsLaws_71 : decode cX11_readsLaws 71 = .ok (.invokevirtual 398, 3) := by decide +kernel
theorem dX11_readsLaws_74 : decode cX11_readsLaws 74 = .ok (.goto 11, 3) := by decide +kernel
theorem dX11_readsLaws_77 : decode cX11_readsLaws 77 = .ok (.aload_n 0, 1) := by decide +kernel
theorem dX11_readsLaws_78 : decode cX11_readsLaws 78 = .ok (.aload_n 0, 1) := by decide +kernel
theorem dX11_readsLaws_79 : decode cX11_readsLaws 79 = .ok (.getfield 213, 3) := by decide +kernel
theorem dX11_readsLaws_82 : decode cX11_readsLaws 82 = .ok (.invokevirtual 240, 3) := by decide +kernel
theorem dX11_readsLaws_85 : decode cX11_readsLaws 85 = .ok (.aload_n 0, 1) := by decide +kernel
theorem dX11_readsLaws_86 : decode cX11_readsLaws 86 = .ok (.getfield 210, 3) := by decide +kernel
theorem dX11_readsLaws_89 : decode cX11_readsLaws 89 = .ok (.ifCond .ge 34, 3) := by decide +kernel
theorem dX11_readsLaws_92 : decode cX11_readsLaws 92 = .ok (.aload_n 0, 1) := by decide +kernel
theorem dX11_readsLaws_93 : decode cX11_readsLaws 93 = .ok (.aload_n 0, 1) := by decide +kernel
theorem dX11_readsLaws_94 : decode cX11_readsLaws 94 = .ok (.invokevirtual 290, 3) := by decide +kernel
theorem dX11_readsLaws_97 : decode cX11_readsLaws 97 = .ok (.bipush 59, 2) := by decide +kernel
theorem dX11_readsLaws_99 : decode cX11_readsLaws 99 = .ok (.if_icmp .ne 7, 3) := by decide +kernel
theorem dX11_readsLaws_102 : decode cX11_readsLaws 102 = .ok (.iconst 1, 1) := by decide +kernel
theorem dX11_readsLaws_103 : decode cX11_readsLaws 103 = .ok (.goto 4, 3) := by decide +kernel
theorem dX11_readsLaws_106 : decode cX11_readsLaws 106 = .ok (.iconst 0, 1) := by decide +kernel
theorem dX11_readsLaws_107 : decode cX11_readsLaws 107 = .ok (.invokevirtual 388, 3) := by decide +kernel
theorem dX11_readsLaws_110 : decode cX11_readsLaws 110 = .ok (.aload_n 0, 1) := by decide +kernel
theorem dX11_readsLaws_111 : decode cX11_readsLaws 111 = .ok (.dup, 1) := by decide +kernel
theorem dX11_readsLaws_112 : decode cX11_readsLaws 112 = .ok (.getfield 213, 3) := by decide +kernel
theorem dX11_readsLaws_115 : decode cX11_readsLaws 115 = .ok (.iconst 1, 1) := by decide +kernel
theorem dX11_readsLaws_116 : decode cX11_readsLaws 116 = .ok (.iadd, 1) := by decide +kernel
theorem dX11_readsLaws_117 : decode cX11_readsLaws 117 = .ok (.putfield 213, 3) := by decide +kernel
theorem dX11_readsLaws_120 : decode cX11_readsLaws 120 = .ok (.iinc 1 1, 3) := by decide +kernel
theorem dX11_readsLaws_123 : decode cX11_readsLaws 123 = .ok (.aload_n 0, 1) := by decide +kernel
theorem dX11_readsLaws_124 : decode cX11_readsLaws 124 = .ok (.sipush 1734, 3) := by decide +kernel
theorem dX11_readsLaws_127 : decode cX11_readsLaws 127 = .ok (.putfield 133, 3) := by decide +kernel
theorem dX11_readsLaws_130 : decode cX11_readsLaws 130 = .ok (.aload_n 0, 1) := by decide +kernel
theorem dX11_readsLaws_131 : decode cX11_readsLaws 131 = .ok (.bipush 20, 2) := by decide +kernel
theorem dX11_readsLaws_133 : decode cX11_readsLaws 133 = .ok (.putfield 140, 3) := by decide +kernel
theorem dX11_readsLaws_136 : decode cX11_readsLaws 136 = .ok (.aload_n 0, 1) := by decide +kernel
theorem dX11_readsLaws_137 : decode cX11_readsLaws 137 = .ok (.iconst 1, 1) := by decide +kernel
theorem dX11_readsLaws_138 : decode cX11_readsLaws 138 = .ok (.putfield 45, 3) := by decide +kernel
theorem dX11_readsLaws_141 : decode cX11_readsLaws 141 = .ok (.goto (-113), 3) := by decide +kernel
theorem dX11_readsLaws_144 : decode cX11_readsLaws 144 = .ok (.aload_n 0, 1) := by decide +kernel
theorem dX11_readsLaws_145 : decode cX11_readsLaws 145 = .ok (.iconst 0, 1) := by decide +kernel
theorem dX11_readsLaws_146 : decode cX11_readsLaws 146 = .ok (.putfield 271, 3) := by decide +kernel
theorem dX11_readsLaws_149 : decode cX11_readsLaws 149 = .ok (.iload_n 1, 1) := by decide +kernel
theorem dX11_readsLaws_150 : decode cX11_readsLaws 150 = .ok (.ireturn, 1) := by decide +kernel
theorem dX11_laws_0 : decode cX11_laws 0 = .ok (.aload_n 0, 1) := by decide +kernel
theorem dX11_laws_1 : decode cX11_laws 1 = .ok (.getfield 268, 3) := by decide +kernel
theorem dX11_laws_4 : decode cX11_laws 4 = .ok (.istore_n 1, 1) := by decide +kernel
theorem dX11_laws_5 : decode cX11_laws 5 = .ok (.aload_n 0, 1) := by decide +kernel
theorem dX11_laws_6 : decode cX11_laws 6 = .ok (.getfield 313, 3) := by decide +kernel
theorem dX11_laws_9 : decode cX11_laws 9 = .ok (.istore_n 2, 1) := by decide +kernel
theorem dX11_laws_10 : decode cX11_laws 10 = .ok (.iconst 0, 1) := by decide +kernel
theorem dX11_laws_11 : decode cX11_laws 11 = .ok (.istore_n 3, 1) := by decide +kernel
theorem dX11_laws_12 : decode cX11_laws 12 = .ok (.iload_n 3, 1) := by decide +kernel
theorem dX11_laws_13 : decode cX11_laws 13 = .ok (.iconst 3, 1) := by decide +kernel
theorem dX11_laws_14 : decode cX11_laws 14 = .ok (.if_icmp .ge 21, 3) := by decide +kernel
theorem dX11_laws_17 : decode cX11_laws 17 = .ok (.aload_n 0, 1) := by decide +kernel
theorem dX11_laws_18 : decode cX11_laws 18 = .ok (.getfield 112, 3) := by decide +kernel
theorem dX11_laws_21 : decode cX11_laws 21 = .ok (.iload_n 3, 1) := by decide +kernel
theorem dX11_laws_22 : decode cX11_laws 22 = .ok (.aload_n 0, 1) := by decide +kernel
theorem dX11_laws_23 : decode cX11_laws 23 = .ok (.getfield 16, 3) := by decide +kernel
theorem dX11_laws_26 : decode cX11_laws 26 = .ok (.iload_n 3, 1) := by decide +kernel
theorem dX11_laws_27 : decode cX11_laws 27 = .ok (.baload, 1) := by decide +kernel
theorem dX11_laws_28 : decode cX11_laws 28 = .ok (.bastore, 1) := by decide +kernel
theorem dX11_laws_29 : decode cX11_laws 29 = .ok (.iinc 3 1, 3) := by decide +kernel
theorem dX11_laws_32 : decode cX11_laws 32 = .ok (.goto (-20), 3) := by decide +kernel
theorem dX11_laws_35 : decode cX11_laws 35 = .ok (.aload_n 0, 1) := by decide +kernel
theorem dX11_laws_36 : decode cX11_laws 36 = .ok (.invokevirtual 401, 3) := by decide +kernel
theorem dX11_laws_39 : decode cX11_laws 39 = .ok (.istore_n 3, 1) := by decide +kernel
theorem dX11_laws_40 : decode cX11_laws 40 = .ok (.aload_n 0, 1) := by decide +kernel
theorem dX11_laws_41 : decode cX11_laws 41 = .ok (.getfield 210, 3) := by decide +kernel
theorem dX11_laws_44 : decode cX11_laws 44 = .ok (.ifCond .lt 50, 3) := by decide +kernel
theorem dX11_laws_47 : decode cX11_laws 47 = .ok (.aload_n 0, 1) := by decide +kernel
theorem dX11_laws_48 : decode cX11_laws 48 = .ok (.iload_n 1, 1) := by decide +kernel
theorem dX11_laws_49 : decode cX11_laws 49 = .ok (.putfield 268, 3) := by decide +kernel
theorem dX11_laws_52 : decode cX11_laws 52 = .ok (.aload_n 0, 1) := by decide +kernel
theorem dX11_laws_53 : decode cX11_laws 53 = .ok (.iload_n 2, 1) := by decide +kernel
theorem dX11_laws_54 : decode cX11_laws 54 = .ok (.putfield 313, 3) := by decide +kernel
theorem dX11_laws_57 : decode cX11_laws 57 = .ok (.iconst 0, 1) := by decide +kernel
theorem dX11_laws_58 : decode cX11_laws 58 = .ok (.istore 4, 2) := by decide +kernel
theorem dX11_laws_60 : decode cX11_laws 60 = .ok (.iload 4, 2) := by decide +kernel
theorem dX11_laws_62 : decode cX11_laws 62 = .ok (.iconst 3, 1) := by decide +kernel
theorem dX11_laws_63 : decode cX11_laws 63 = .ok (.if_icmp .ge 23, 3) := by decide +kernel
theorem dX11_laws_66 : decode cX11_laws 66 = .ok (.aload_n 0, 1) := by decide +kernel
theorem dX11_laws_67 : decode cX11_laws 67 = .ok (.getfield 16, 3) := by decide +kernel
theorem dX11_laws_70 : decode cX11_laws 70 = .ok (.iload 4, 2) := by decide +kernel
theorem dX11_laws_72 : decode cX11_laws 72 = .ok (.aload_n 0, 1) := by decide +kernel
theorem dX11_laws_73 : decode cX11_laws 73 = .ok (.getfield 112, 3) := by decide +kernel
theorem dX11_laws_76 : decode cX11_laws 76 = .ok (.iload 4, 2) := by decide +kernel
theorem dX11_laws_78 : decode cX11_laws 78 = .ok (.baload, 1) := by decide +kernel
theorem dX11_laws_79 : decode cX11_laws 79 = .ok (.bastore, 1) := by decide +kernel
theorem dX11_laws_80 : decode cX11_laws 80 = .ok (.iinc 4 1, 3) := by decide +kernel
theorem dX11_laws_83 : decode cX11_laws 83 = .ok (.goto (-23), 3) := by decide +kernel
theorem dX11_laws_86 : decode cX11_laws 86 = .ok (.bipush (-10), 2) := by decide +kernel
theorem dX11_laws_88 : decode cX11_laws 88 = .ok (.aload_n 0, 1) := by decide +kernel
theorem dX11_laws_89 : decode cX11_laws 89 = .ok (.getfield 210, 3) := by decide +kernel
theorem dX11_laws_92 : decode cX11_laws 92 = .ok (.isub, 1) := by decide +kernel
theorem dX11_laws_93 : decode cX11_laws 93 = .ok (.ireturn, 1) := by decide +kernel
theorem dX11_laws_94 : decode cX11_laws 94 = .ok (.aload_n 0, 1) := by decide +kernel
theorem dX11_laws_95 : decode cX11_laws 95 = .ok (.getfield 7, 3) := by decide +kernel
theorem dX11_laws_98 : decode cX11_laws 98 = .ok (.sipush 969, 3) := by decide +kernel
theorem dX11_laws_101 : decode cX11_laws 101 = .ok (.aload_n 0, 1) := by decide +kernel
theorem dX11_laws_102 : decode cX11_laws 102 = .ok (.getfield 7, 3) := by decide +kernel
theorem dX11_laws_105 : decode cX11_laws 105 = .ok (.iconst 0, 1) := by decide +kernel
theorem dX11_laws_106 : decode cX11_laws 106 = .ok (.sipush 357, 3) := by decide +kernel
theorem dX11_laws_109 : decode cX11_laws 109 = .ok (.invokestatic 147, 3) := by decide +kernel
theorem dX11_laws_112 : decode cX11_laws 112 = .ok (.aload_n 0, 1) := by decide +kernel
theorem dX11_laws_113 : decode cX11_laws 113 = .ok (.iconst 0, 1) := by decide +kernel
theorem dX11_laws_114 : decode cX11_laws 114 = .ok (.putfield 216, 3) := by decide +kernel
theorem dX11_laws_117 : decode cX11_laws 117 = .ok (.aload_n 0, 1) := by decide +kernel
theorem dX11_laws_118 : decode cX11_laws 118 = .ok (.iconst 0, 1) := by decide +kernel
theorem dX11_laws_119 : decode cX11_laws 119 = .ok (.putfield 364, 3) := by decide +kernel
theorem dX11_laws_122 : decode cX11_laws 122 = .ok (.aload_n 0, 1) := by decide +kernel
theorem dX11_laws_123 : decode cX11_laws 123 = .ok (.iconst 0, 1) := by decide +kernel
theorem dX11_laws_124 : decode cX11_laws 124 = .ok (.putfield 404, 3) := by decide +kernel
theorem dX11_laws_127 : decode cX11_laws 127 = .ok (.aload_n 0, 1) := by decide +kernel
theorem dX11_laws_128 : decode cX11_laws 128 = .ok (.iconst 0, 1) := by decide +kernel
theorem dX11_laws_129 : decode cX11_laws 129 = .ok (.putfield 407, 3) := by decide +kernel
theorem dX11_laws_132 : decode cX11_laws 132 = .ok (.aload_n 0, 1) := by decide +kernel
theorem dX11_laws_133 : decode cX11_laws 133 = .ok (.getfield 35, 3) := by decide +kernel
theorem dX11_laws_136 : decode cX11_laws 136 = .ok (.iconst 0, 1) := by decide +kernel
theorem dX11_laws_137 : decode cX11_laws 137 = .ok (.bipush (-9), 2) := by decide +kernel
theorem dX11_laws_139 : decode cX11_laws 139 = .ok (.iastore, 1) := by decide +kernel
theorem dX11_laws_140 : decode cX11_laws 140 = .ok (.aload_n 0, 1) := by decide +kernel
theorem dX11_laws_141 : decode cX11_laws 141 = .ok (.getfield 35, 3) := by decide +kernel
theorem dX11_laws_144 : decode cX11_laws 144 = .ok (.iconst 1, 1) := by decide +kernel
theorem dX11_laws_145 : decode cX11_laws 145 = .ok (.bipush (-9), 2) := by decide +kernel
theorem dX11_laws_147 : decode cX11_laws 147 = .ok (.iastore, 1) := by decide +kernel
theorem dX11_laws_148 : decode cX11_laws 148 = .ok (.iload_n 3, 1) := by decide +kernel
theorem dX11_laws_149 : decode cX11_laws 149 = .ok (.ireturn, 1) := by decide +kernel
theorem dX11_signAt_0 : decode cX11_signAt 0 = .ok (.iload_n 2, 1) := by decide +kernel
theorem dX11_signAt_1 : decode cX11_signAt 1 = .ok (.aload_n 0, 1) := by decide +kernel
theorem dX11_signAt_2 : decode cX11_signAt 2 = .ok (.iload_n 1, 1) := by decide +kernel
theorem dX11_signAt_3 : decode cX11_signAt 3 = .ok (.invokevirtual 130, 3) := by decide +kernel
theorem dX11_signAt_6 : decode cX11_signAt 6 = .ok (.if_icmp .ge 14, 3) := by decide +kernel
theorem dX11_signAt_9 : decode cX11_signAt 9 = .ok (.aload_n 0, 1) := by decide +kernel
theorem dX11_signAt_10 : decode cX11_signAt 10 = .ok (.getfield 7, 3) := by decide +kernel
theorem dX11_signAt_13 : decode cX11_signAt 13 = .ok (.iload_n 1, 1) := by decide +kernel
theorem dX11_signAt_14 : decode cX11_signAt 14 = .ok (.iload_n 2, 1) := by decide +kernel
theorem dX11_signAt_15 : decode cX11_signAt 15 = .ok (.iadd, 1) := by decide +kernel
theorem dX11_signAt_16 : decode cX11_signAt 16 = .ok (.iaload, 1) := by decide +kernel
theorem dX11_signAt_17 : decode cX11_signAt 17 = .ok (.goto 5, 3) := by decide +kernel
theorem dX11_signAt_20 : decode cX11_signAt 20 = .ok (.bipush (-9), 2) := by decide +kernel
theorem dX11_signAt_22 : decode cX11_signAt 22 = .ok (.ireturn, 1) := by decide +kernel
theorem dX11_law_0 : decode cX11_law 0 = .ok (.iload_n 1, 1) := by decide +kernel
theorem dX11_law_1 : decode cX11_law 1 = .ok (.iconst 0, 1) := by decide +kernel
theorem dX11_law_2 : decode cX11_law 2 = .ok (.iconst 1, 1) := by decide +kernel
theorem dX11_law_3 : decode cX11_law 3 = .ok (.invokestatic 297, 3) := by decide +kernel
theorem dX11_law_6 : decode cX11_law 6 = .ok (.ifCond .eq 32, 3) := by decide +kernel
theorem dX11_law_9 : decode cX11_law 9 = .ok (.iload_n 2, 1) := by decide +kernel
theorem dX11_law_10 : decode cX11_law 10 = .ok (.iconst 0, 1) := by decide +kernel
theorem dX11_law_11 : decode cX11_law 11 = .ok (.iload_n 1, 1) := by decide +kernel
theorem dX11_law_12 : decode cX11_law 12 = .ok (.ifCond .ne 10, 3) := by decide +kernel
theorem dX11_law_15 : decode cX11_law 15 = .ok (.aload_n 0, 1) := by decide +kernel
theorem dX11_law_16 : decode cX11_law 16 = .ok (.getfield 268, 3) := by decide +kernel
theorem dX11_law_19 : decode cX11_law 19 = .ok (.goto 7, 3) := by decide +kernel
theorem dX11_law_22 : decode cX11_law 22 = .ok (.aload_n 0, 1) := by decide +kernel
theorem dX11_law_23 : decode cX11_law 23 = .ok (.getfield 313, 3) := by decide +kernel
theorem dX11_law_26 : decode cX11_law 26 = .ok (.iconst 1, 1) := by decide +kernel
theorem dX11_law_27 : decode cX11_law 27 = .ok (.isub, 1) := by decide +kernel
theorem dX11_law_28 : decode cX11_law 28 = .ok (.invokestatic 297, 3) := by decide +kernel
theorem dX11_law_31 : decode cX11_law 31 = .ok (.ifCond .eq 7, 3) := by decide +kernel
theorem dX11_law_34 : decode cX11_law 34 = .ok (.iload_n 3, 1) := by decide +kernel
theorem dX11_law_35 : decode cX11_law 35 = .ok (.ifCond .ge 5, 3) := by decide +kernel
theorem dX11_law_38 : decode cX11_law 38 = .ok (.iconst (-1), 1) := by decide +kernel
theorem dX11_law_39 : decode cX11_law 39 = .ok (.ireturn, 1) := by decide +kernel
theorem dX11_law_40 : decode cX11_law 40 = .ok (.iload_n 1, 1) := by decide +kernel
theorem dX11_law_41 : decode cX11_law 41 = .ok (.ifCond .ne 27, 3) := by decide +kernel
theorem dX11_law_44 : decode cX11_law 44 = .ok (.aload_n 0, 1) := by decide +kernel
theorem dX11_law_45 : decode cX11_law 45 = .ok (.getfield 16, 3) := by decide +kernel
theorem dX11_law_48 : decode cX11_law 48 = .ok (.iload_n 2, 1) := by decide +kernel
theorem dX11_law_49 : decode cX11_law 49 = .ok (.baload, 1) := by decide +kernel
theorem dX11_law_50 : decode cX11_law 50 = .ok (.ifCond .eq 15, 3) := by decide +kernel
theorem dX11_law_53 : decode cX11_law 53 = .ok (.aload_n 0, 1) := by decide +kernel
theorem dX11_law_54 : decode cX11_law 54 = .ok (.bipush 51, 2) := by decide +kernel
theorem dX11_law_56 : decode cX11_law 56 = .ok (.iload_n 2, 1) := by decide +kernel
theorem dX11_law_57 : decode cX11_law 57 = .ok (.imul, 1) := by decide +kernel
theorem dX11_law_58 : decode cX11_law 58 = .ok (.iload_n 3, 1) := by decide +kernel
theorem dX11_law_59 : decode cX11_law 59 = .ok (.invokevirtual 410, 3) := by decide +kernel
theorem dX11_law_62 : decode cX11_law 62 = .ok (.goto 5, 3) := by decide +kernel
theorem dX11_law_65 : decode cX11_law 65 = .ok (.bipush (-9), 2) := by decide +kernel
theorem dX11_law_67 : decode cX11_law 67 = .ok (.ireturn, 1) := by decide +kernel
theorem dX11_law_68 : decode cX11_law 68 = .ok (.aload_n 0, 1) := by decide +kernel
theorem dX11_law_69 : decode cX11_law 69 = .ok (.bipush 51, 2) := by decide +kernel
theorem dX11_law_71 : decode cX11_law 71 = .ok (.iconst 3, 1) := by decide +kernel
theorem dX11_law_72 : decode cX11_law 72 = .ok (.iload_n 2, 1) := by decide +kernel
theorem dX11_law_73 : decode cX11_law 73 = .ok (.iadd, 1) := by decide +kernel
theorem dX11_law_74 : decode cX11_law 74 = .ok (.imul, 1) := by decide +kernel
theorem dX11_law_75 : decode cX11_law 75 = .ok (.iload_n 3, 1) := by decide +kernel
theorem dX11_law_76 : decode cX11_law 76 = .ok (.invokevirtual 410, 3) := by decide +kernel
theorem dX11_law_79 : decode cX11_law 79 = .ok (.ireturn, 1) := by decide +kernel
theorem dX11_signOrMany_0 : decode cX11_signOrMany 0 = .ok (.iload_n 2, 1) := by decide +kernel
theorem dX11_signOrMany_1 : decode cX11_signOrMany 1 = .ok (.ifCond .ge 11, 3) := by decide +kernel
theorem dX11_signOrMany_4 : decode cX11_signOrMany 4 = .ok (.aload_n 0, 1) := by decide +kernel
theorem dX11_signOrMany_5 : decode cX11_signOrMany 5 = .ok (.iload_n 1, 1) := by decide +kernel
theorem dX11_signOrMany_6 : decode cX11_signOrMany 6 = .ok (.invokevirtual 130, 3) := by decide +kernel
theorem dX11_signOrMany_9 : decode cX11_signOrMany 9 = .ok (.goto 9, 3) := by decide +kernel
theorem dX11_signOrMany_12 : decode cX11_signOrMany 12 = .ok (.aload_n 0, 1) := by decide +kernel
theorem dX11_signOrMany_13 : decode cX11_signOrMany 13 = .ok (.iload_n 1, 1) := by decide +kernel
theorem dX11_signOrMany_14 : decode cX11_signOrMany 14 = .ok (.iload_n 2, 1) := by decide +kernel
theorem dX11_signOrMany_15 : decode cX11_signOrMany 15 = .ok (.invokevirtual 410, 3) := by decide +kernel
theorem dX11_signOrMany_18 : decode cX11_signOrMany 18 = .ok (.ireturn, 1) := by decide +kernel
theorem dX11_given_0 : decode cX11_given 0 = .ok (.iload_n 1, 1) := by decide +kernel
theorem dX11_given_1 : decode cX11_given 1 = .ok (.iconst (-1), 1) := by decide +kernel
theorem dX11_given_2 : decode cX11_given 2 = .ok (.if_icmp .ge 5, 3) := by decide +kernel
theorem dX11_given_5 : decode cX11_given 5 = .ok (.iconst (-1), 1) := by decide +kernel
theorem dX11_given_6 : decode cX11_given 6 = .ok (.ireturn, 1) := by decide +kernel
theorem dX11_given_7 : decode cX11_given 7 = .ok (.aload_n 0, 1) := by decide +kernel
theorem dX11_given_8 : decode cX11_given 8 = .ok (.iconst 1, 1) := by decide +kernel
theorem dX11_given_9 : decode cX11_given 9 = .ok (.invokevirtual 413, 3) := by decide +kernel
theorem dX11_given_12 : decode cX11_given 12 = .ok (.aload_n 0, 1) := by decide +kernel
theorem dX11_given_13 : decode cX11_given 13 = .ok (.getfield 210, 3) := by decide +kernel
theorem dX11_given_16 : decode cX11_given 16 = .ok (.ifCond .lt 13, 3) := by decide +kernel
theorem dX11_given_19 : decode cX11_given 19 = .ok (.bipush (-10), 2) := by decide +kernel
theorem dX11_given_21 : decode cX11_given 21 = .ok (.aload_n 0, 1) := by decide +kernel
theorem dX11_given_22 : decode cX11_given 22 = .ok (.getfield 210, 3) := by decide +kernel
theorem dX11_given_25 : decode cX11_given 25 = .ok (.isub, 1) := by decide +kernel
theorem dX11_given_26 : decode cX11_given 26 = .ok (.goto 12, 3) := by decide +kernel
theorem dX11_given_29 : decode cX11_given 29 = .ok (.aload_n 0, 1) := by decide +kernel
theorem dX11_given_30 : decode cX11_given 30 = .ok (.aload_n 0, 1) := by decide +kernel
theorem dX11_given_31 : decode cX11_given 31 = .ok (.getfield 382, 3) := by decide +kernel
theorem dX11_given_34 : decode cX11_given 34 = .ok (.iload_n 1, 1) := by decide +kernel
theorem dX11_given_35 : decode cX11_given 35 = .ok (.invokevirtual 416, 3) := by decide +kernel
theorem dX11_given_38 : decode cX11_given 38 = .ok (.ireturn, 1) := by decide +kernel
theorem dX11_found_0 : decode cX11_found 0 = .ok (.iload_n 1, 1) := by decide +kernel
theorem dX11_found_1 : decode cX11_found 1 = .ok (.iconst (-1), 1) := by decide +kernel
theorem dX11_found_2 : decode cX11_found 2 = .ok (.if_icmp .ge 5, 3) := by decide +kernel
theorem dX11_found_5 : decode cX11_found 5 = .ok (.iconst (-1), 1) := by decide +kernel
theorem dX11_found_6 : decode cX11_found 6 = .ok (.ireturn, 1) := by decide +kernel
theorem dX11_found_7 : decode cX11_found 7 = .ok (.aload_n 0, 1) := by decide +kernel
theorem dX11_found_8 : decode cX11_found 8 = .ok (.invokevirtual 370, 3) := by decide +kernel
theorem dX11_found_11 : decode cX11_found 11 = .ok (.aload_n 0, 1) := by decide +kernel
theorem dX11_found_12 : decode cX11_found 12 = .ok (.iconst 0, 1) := by decide +kernel
theorem dX11_found_13 : decode cX11_found 13 = .ok (.iconst 0, 1) := by decide +kernel
theorem dX11_found_14 : decode cX11_found 14 = .ok (.iconst 0, 1) := by decide +kernel
theorem dX11_found_15 : decode cX11_found 15 = .ok (.iconst 0, 1) := by decide +kernel
theorem dX11_found_16 : decode cX11_found 16 = .ok (.invokevirtual 274, 3) := by decide +kernel
theorem dX11_found_19 : decode cX11_found 19 = .ok (.aload_n 0, 1) := by decide +kernel
theorem dX11_found_20 : decode cX11_found 20 = .ok (.invokevirtual 367, 3) := by decide +kernel
theorem dX11_found_23 : decode cX11_found 23 = .ok (.aload_n 0, 1) := by decide +kernel
theorem dX11_found_24 : decode cX11_found 24 = .ok (.getfield 210, 3) := by decide +kernel
theorem dX11_found_27 : decode cX11_found 27 = .ok (.ifCond .ge 23, 3) := by decide +kernel
theorem dX11_found_30 : decode cX11_found 30 = .ok (.aload_n 0, 1) := by decide +kernel
theorem dX11_found_31 : decode cX11_found 31 = .ok (.aload_n 0, 1) := by decide +kernel
theorem dX11_found_32 : decode cX11_found 32 = .ok (.getfield 213, 3) := by decide +kernel
theorem dX11_found_35 : decode cX11_found 35 = .ok (.aload_n 0, 1) := by decide +kernel
theorem dX11_found_36 : decode cX11_found 36 = .ok (.getfield 216, 3) := by decide +kernel
theorem dX11_found_39 : decode cX11_found 39 = .ok (.if_icmp .ne 7, 3) := by decide +kernel
theorem dX11_found_42 : decode cX11_found 42 = .ok (.iconst 1, 1) := by decide +kernel
theorem dX11_found_43 : decode cX11_found 43 = .ok (.goto 4, 3) := by decide +kernel
theorem dX11_found_46 : decode cX11_found 46 = .ok (.iconst 0, 1) := by decide +kernel
theorem dX11_found_47 : decode cX11_found 47 = .ok (.invokevirtual 388, 3) := by decide +kernel
theorem dX11_found_50 : decode cX11_found 50 = .ok (.aload_n 0, 1) := by decide +kernel
theorem dX11_found_51 : decode cX11_found 51 = .ok (.getfield 210, 3) := by decide +kernel
theorem dX11_found_54 : decode cX11_found 54 = .ok (.ifCond .lt 13, 3) := by decide +kernel
theorem dX11_found_57 : decode cX11_found 57 = .ok (.bipush (-10), 2) := by decide +kernel
theorem dX11_found_59 : decode cX11_found 59 = .ok (.aload_n 0, 1) := by decide +kernel
theorem dX11_found_60 : decode cX11_found 60 = .ok (.getfield 210, 3) := by decide +kernel
theorem dX11_found_63 : decode cX11_found 63 = .ok (.isub, 1) := by decide +kernel
theorem dX11_found_64 : decode cX11_found 64 = .ok (.goto 12, 3) := by decide +kernel
theorem dX11_found_67 : decode cX11_found 67 = .ok (.aload_n 0, 1) := by decide +kernel
theorem dX11_found_68 : decode cX11_found 68 = .ok (.aload_n 0, 1) := by decide +kernel
theorem dX11_found_69 : decode cX11_found 69 = .ok (.getfield 252, 3) := by decide +kernel
theorem dX11_found_72 : decode cX11_found 72 = .ok (.iload_n 1, 1) := by decide +kernel
theorem dX11_found_73 : decode cX11_found 73 = .ok (.invokevirtual 416, 3) := by decide +kernel
theorem dX11_found_76 : decode cX11_found 76 = .ok (.ireturn, 1) := by decide +kernel
theorem dX11_same_0 : decode cX11_same 0 = .ok (.aload_n 0, 1) := by decide +kernel
theorem dX11_same_1 : decode cX11_same 1 = .ok (.iconst 2, 1) := by decide +kernel
theorem dX11_same_2 : decode cX11_same 2 = .ok (.invokevirtual 413, 3) := by decide +kernel
theorem dX11_same_5 : decode cX11_same 5 = .ok (.aload_n 0, 1) := by decide +kernel
theorem dX11_same_6 : decode cX11_same 6 = .ok (.getfield 210, 3) := by decide +kernel
theorem dX11_same_9 : decode cX11_same 9 = .ok (.ifCond .lt 13, 3) := by decide +kernel
theorem dX11_same_12 : decode cX11_same 12 = .ok (.bipush (-10), 2) := by decide +kernel
theorem dX11_same_14 : decode cX11_same 14 = .ok (.aload_n 0, 1) := by decide +kernel
theorem dX11_same_15 : decode cX11_same 15 = .ok (.getfield 210, 3) := by decide +kernel
theorem dX11_same_18 : decode cX11_same 18 = .ok (.isub, 1) := by decide +kernel
theorem dX11_same_19 : decode cX11_same 19 = .ok (.goto 23, 3) := by decide +kernel
theorem dX11_same_22 : decode cX11_same 22 = .ok (.aload_n 0, 1) := by decide +kernel
theorem dX11_same_23 : decode cX11_same 23 = .ok (.aload_n 0, 1) := by decide +kernel
theorem dX11_same_24 : decode cX11_same 24 = .ok (.getfield 382, 3) := by decide +kernel
theorem dX11_same_27 : decode cX11_same 27 = .ok (.aload_n 0, 1) := by decide +kernel
theorem dX11_same_28 : decode cX11_same 28 = .ok (.getfield 385, 3) := by decide +kernel
theorem dX11_same_31 : decode cX11_same 31 = .ok (.invokevirtual 258, 3) := by decide +kernel
theorem dX11_same_34 : decode cX11_same 34 = .ok (.ifCond .eq 7, 3) := by decide +kernel
theorem dX11_same_37 : decode cX11_same 37 = .ok (.iconst 1, 1) := by decide +kernel
theorem dX11_same_38 : decode cX11_same 38 = .ok (.goto 4, 3) := by decide +kernel
theorem dX11_same_41 : decode cX11_same 41 = .ok (.iconst 0, 1) := by decide +kernel
theorem dX11_same_42 : decode cX11_same 42 = .ok (.ireturn, 1) := by decide +kernel
theorem dX11_notes_0 : decode cX11_notes 0 = .ok (.aload_n 0, 1) := by decide +kernel
theorem dX11_notes_1 : decode cX11_notes 1 = .ok (.getfield 407, 3) := by decide +kernel
theorem dX11_notes_4 : decode cX11_notes 4 = .ok (.bipush 8, 2) := by decide +kernel
theorem dX11_notes_6 : decode cX11_notes 6 = .ok (.if_icmp .ne 60, 3) := by decide +kernel
theorem dX11_notes_9 : decode cX11_notes 9 = .ok (.aload_n 0, 1) := by decide +kernel
theorem dX11_notes_10 : decode cX11_notes 10 = .ok (.getfield 23, 3) := by decide +kernel
theorem dX11_notes_13 : decode cX11_notes 13 = .ok (.iconst 1, 1) := by decide +kernel
theorem dX11_notes_14 : decode cX11_notes 14 = .ok (.aload_n 0, 1) := by decide +kernel
theorem dX11_notes_15 : decode cX11_notes 15 = .ok (.getfield 23, 3) := by decide +kernel
theorem dX11_notes_18 : decode cX11_notes 18 = .ok (.iconst 0, 1) := by decide +kernel
theorem dX11_notes_19 : decode cX11_notes 19 = .ok (.bipush 7, 2) := by decide +kernel
theorem dX11_notes_21 : decode cX11_notes 21 = .ok (.invokestatic 147, 3) := by decide +kernel
theorem dX11_notes_24 : decode cX11_notes 24 = .ok (.aload_n 0, 1) := by decide +kernel
theorem dX11_notes_25 : decode cX11_notes 25 = .ok (.getfield 26, 3) := by decide +kernel
theorem dX11_notes_28 : decode cX11_notes 28 = .ok (.iconst 1, 1) := by decide +kernel
theorem dX11_notes_29 : decode cX11_notes 29 = .ok (.aload_n 0, 1) := by decide +kernel
theorem dX11_notes_30 : decode cX11_notes 30 = .ok (.getfield 26, 3) := by decide +kernel
theorem dX11_notes_33 : decode cX11_notes 33 = .ok (.iconst 0, 1) := by decide +kernel
theorem dX11_notes_34 : decode cX11_notes 34 = .ok (.bipush 7, 2) := by decide +kernel
theorem dX11_notes_36 : decode cX11_notes 36 = .ok (.invokestatic 147, 3) := by decide +kernel
theorem dX11_notes_39 : decode cX11_notes 39 = .ok (.aload_n 0, 1) := by decide +kernel
theorem dX11_notes_40 : decode cX11_notes 40 = .ok (.getfield 29, 3) := by decide +kernel
theorem dX11_notes_43 : decode cX11_notes 43 = .ok (.bipush 102, 2) := by decide +kernel
theorem dX11_notes_45 : decode cX11_notes 45 = .ok (.aload_n 0, 1) := by decide +kernel
theorem dX11_notes_46 : decode cX11_notes 46 = .ok (.getfield 29, 3) := by decide +kernel
theorem dX11_notes_49 : decode cX11_notes 49 = .ok (.iconst 0, 1) := by decide +kernel
theorem dX11_notes_50 : decode cX11_notes 50 = .ok (.sipush 714, 3) := by decide +kernel
theorem dX11_notes_53 : decode cX11_notes 53 = .ok (.invokestatic 147, 3) := by decide +kernel
theorem dX11_notes_56 : decode cX11_notes 56 = .ok (.aload_n 0, 1) := by decide +kernel
theorem dX11_notes_57 : decode cX11_notes 57 = .ok (.dup, 1) := by decide +kernel
theorem dX11_notes_58 : decode cX11_notes 58 = .ok (.getfield 407, 3) := by decide +kernel
theorem dX11_notes_61 : decode cX11_notes 61 = .ok (.iconst 1, 1) := by decide +kernel
theorem dX11_notes_62 : decode cX11_notes 62 = .ok (.isub, 1) := by decide +kernel
theorem dX11_notes_63 : decode cX11_notes 63 = .ok (.putfield 407, 3) := by decide +kernel
theorem dX11_notes_66 : decode cX11_notes 66 = .ok (.aload_n 0, 1) := by decide +kernel
theorem dX11_notes_67 : decode cX11_notes 67 = .ok (.getfield 23, 3) := by decide +kernel
theorem dX11_notes_70 : decode cX11_notes 70 = .ok (.aload_n 0, 1) := by decide +kernel
theorem dX11_notes_71 : decode cX11_notes 71 = .ok (.getfield 407, 3) := by decide +kernel
theorem dX11_notes_74 : decode cX11_notes 74 = .ok (.iload_n 1, 1) := by decide +kernel
theorem dX11_notes_75 : decode cX11_notes 75 = .ok (.iastore, 1) := by decide +kernel
theorem dX11_notes_76 : decode cX11_notes 76 = .ok (.aload_n 0, 1) := by decide +kernel
theorem dX11_notes_77 : decode cX11_notes 77 = .ok (.getfield 26, 3) := by decide +kernel
theorem dX11_notes_80 : decode cX11_notes 80 = .ok (.aload_n 0, 1) := by decide +kernel
theorem dX11_notes_81 : decode cX11_notes 81 = .ok (.getfield 407, 3) := by decide +kernel
theorem dX11_notes_84 : decode cX11_notes 84 = .ok (.iload_n 2, 1) := by decide +kernel
theorem dX11_notes_85 : decode cX11_notes 85 = .ok (.iastore, 1) := by decide +kernel
theorem dX11_notes_86 : decode cX11_notes 86 = .ok (.aload_n 0, 1) := by decide +kernel
theorem dX11_notes_87 : decode cX11_notes 87 = .ok (.getfield 7, 3) := by decide +kernel
theorem dX11_notes_90 : decode cX11_notes 90 = .ok (.sipush 357, 3) := by decide +kernel
theorem dX11_notes_93 : decode cX11_notes 93 = .ok (.bipush 102, 2) := by decide +kernel
theorem dX11_notes_95 : decode cX11_notes 95 = .ok (.iload_n 2, 1) := by decide +kernel
theorem dX11_notes_96 : decode cX11_notes 96 = .ok (.imul, 1) := by decide +kernel
theorem dX11_notes_97 : decode cX11_notes 97 = .ok (.iadd, 1) := by decide +kernel
theorem dX11_notes_98 : decode cX11_notes 98 = .ok (.aload_n 0, 1) := by decide +kernel
theorem dX11_notes_99 : decode cX11_notes 99 = .ok (.getfield 29, 3) := by decide +kernel
theorem dX11_notes_102 : decode cX11_notes 102 = .ok (.bipush 102, 2) := by decide +kernel
theorem dX11_notes_104 : decode cX11_notes 104 = .ok (.aload_n 0, 1) := by decide +kernel
theorem dX11_notes_105 : decode cX11_notes 105 = .ok (.getfield 407, 3) := by decide +kernel
theorem dX11_notes_108 : decode cX11_notes 108 = .ok (.imul, 1) := by decide +kernel
theorem dX11_notes_109 : decode cX11_notes 109 = .ok (.bipush 102, 2) := by decide +kernel
theorem dX11_notes_111 : decode cX11_notes 111 = .ok (.invokestatic 147, 3) := by decide +kernel
theorem dX11_notes_114 : decode cX11_notes 114 = .ok (.aload_n 0, 1) := by decide +kernel
theorem dX11_notes_115 : decode cX11_notes 115 = .ok (.dup, 1) := by decide +kernel
theorem dX11_notes_116 : decode cX11_notes 116 = .ok (.getfield 407, 3) := by decide +kernel
theorem dX11_notes_119 : decode cX11_notes 119 = .ok (.iconst 1, 1) := by decide +kernel
theorem dX11_notes_120 : decode cX11_notes 120 = .ok (.iadd, 1) := by decide +kernel
theorem dX11_notes_121 : decode cX11_notes 121 = .ok (.putfield 407, 3) := by decide +kernel
theorem dX11_notes_124 : decode cX11_notes 124 = .ok (.return_, 1) := by decide +kernel
theorem dX11_isEntry_0 : decode cX11_isEntry 0 = .ok (.iload_n 1, 1) := by decide +kernel
theorem dX11_isEntry_1 : decode cX11_isEntry 1 = .ok (.iconst 0, 1) := by decide +kernel
theorem dX11_isEntry_2 : decode cX11_isEntry 2 = .ok (.aload_n 0, 1) := by decide +kernel
theorem dX11_isEntry_3 : decode cX11_isEntry 3 = .ok (.getfield 364, 3) := by decide +kernel
theorem dX11_isEntry_6 : decode cX11_isEntry 6 = .ok (.iconst 1, 1) := by decide +kernel
theorem dX11_isEntry_7 : decode cX11_isEntry 7 = .ok (.isub, 1) := by decide +kernel
theorem dX11_isEntry_8 : decode cX11_isEntry 8 = .ok (.invokestatic 297, 3) := by decide +kernel
theorem dX11_isEntry_11 : decode cX11_isEntry 11 = .ok (.ireturn, 1) := by decide +kernel
set_option maxHeartbeats 4000000 in
set_option maxRecDepth 20000 in
theorem b_nextConstant_57 {p : Program} {l : Launch} {e : Env} {s : State} {m : MethodId} {args : Array Value} {below : List Frame} {meth : Method} {c : Code} {D : va_G} {cy : Nat → ClassId} {ad : Nat → Nat} {q : Int32 × MS} (C : vC p s m args meth c cX11_nextConstant 2 none RX11 D (cyT cy)) (hi : ∀ i j, i < 34 → j < 34 → ad i = ad j → i = j) : ∀ (σ : MS), B_nextConstant_57 σ = some q → V p l e { frames := 14, cells := 0, slots := 0, locals := 334 } s m args below meth c D (inAd ad) 2 (MQ below (vQ D (inAd ad) none (wm cy ad q.2)) args s 0 0 (inAd ad)) 0 0 (wm cy ad σ) 57 [(0, .ref (ad 0))] [] := by
  intro σ h
  rw [B_nextConstant_57] at h
  refine v_aload_n C 0 dX11_nextConstant_57 rfl rfl ?_
  refine v_dup C dX11_nextConstant_58 rfl ?_
  refine n_getI C fl_313 dX11_nextConstant_59 ?_
  refine v_iconst C 1 dX11_nextConstant_62 (by decide) ?_
  refine v_iadd C dX11_nextConstant_63 ?_
  refine n_putI C fl_313 dX11_nextConstant_64 ?_
  obtain rfl := Option.some.inj h
  exact v_vret C dX11_nextConstant_67
set_option maxHeartbeats 4000000 in
set_option maxRecDepth 20000 in
theorem c_nextConstant {l : Launch} {D : va_G} {cy : Nat → ClassId} {ad : Nat → Nat} {q : Int32 × MS} (hi : ∀ i j, i < 34 → j < 34 → ad i = ad j → i = j) (σ : MS) (h : f_nextConstant σ = some q) : MV l D (cyT cy) (inAd ad) yX11_nextConstant cX11_nextConstant 2 none 14 334 0 0 [.ref (ad 0)] (wm cy ad σ) none (wm cy ad q.2) := by
  refine MV.of (by decide) (wm_inj hi cy σ) (Nat.le_of_ble_eq_true rfl) [(0, .ref (ad 0))] rfl ?_
  intro p e s m args below meth c C
  rw [f_nextConstant] at h
  refine v_aload_n C 0 dX11_nextConstant_0 rfl rfl ?_
  refine n_getI C fl_313 dX11_nextConstant_1 ?_
  refine v_iconst C 4 dX11_nextConstant_4 (by decide) ?_
  refine v_icmp_ne C 17 dX11_nextConstant_5 (by decide) (fun c1 => ?_) (fun c1 => ?_)
  · rw [if_neg c1] at h
    refine v_aload_n C 0 dX11_nextConstant_17 rfl rfl ?_
    refine v_dup C dX11_nextConstant_18 rfl ?_
    refine n_getI C fl_213 dX11_nextConstant_19 ?_
    refine v_iconst C 1 dX11_nextConstant_22 (by decide) ?_
    refine v_iadd C dX11_nextConstant_23 ?_
    refine n_putI C fl_213 dX11_nextConstant_24 ?_
    refine v_aload_n C 0 dX11_nextConstant_27 rfl rfl ?_
    obtain ⟨q1, hq1, h⟩ := bd_of h
    refine vm_call C [] [] (c_wholeType hi _ hq1) hY_wholeType ml_373 ⟨Nat.le_of_ble_eq_true rfl, Nat.le_of_ble_eq_true rfl⟩ ⟨Nat.zero_le _, Nat.zero_le _⟩ rfl rfl (Nat.le_of_ble_eq_true rfl) dX11_nextConstant_28 (wm_inj hi cy _) ?_
    refine v_istore_n C [(1, .int q1.1), (0, .ref (ad 0))] dX11_nextConstant_31 rfl (by decide) rfl ?_
    refine v_aload_n C 1 dX11_nextConstant_32 rfl rfl ?_
    refine n_getI C fl_210 dX11_nextConstant_33 ?_
    refine v_if_ge C 57 dX11_nextConstant_36 (by decide) (fun c2 => ?_) (fun c2 => ?_)
    · rw [if_pos c2] at h
      exact v_sub [1] rfl ((b_nextConstant_57 C hi) _ h)
    · rw [if_neg c2] at h
      refine v_aload_n C 1 dX11_nextConstant_39 rfl rfl ?_
      refine v_iload_n C 0 dX11_nextConstant_40 rfl rfl ?_
      refine v_sipush C 969 dX11_nextConstant_41 (by decide) ?_
      refine v_bipush C 51 dX11_nextConstant_44 (by decide) ?_
      refine v_iconst C 3 dX11_nextConstant_46 (by decide) ?_
      refine v_aload_n C 1 dX11_nextConstant_47 rfl rfl ?_
      refine n_getI C fl_313 dX11_nextConstant_48 ?_
      refine v_iadd C dX11_nextConstant_51 ?_
      refine v_imul C dX11_nextConstant_52 ?_
      refine v_iadd C dX11_nextConstant_53 ?_
      obtain ⟨q2, hq2, h⟩ := bd_of h
      refine vm_call C [.int q1.1, .int (969 + (51 * (3 + (q1.2.1 5))))] [] (c_toSlot hi _ _ _ hq2) hY_toSlot ml_392 ⟨Nat.le_of_ble_eq_true rfl, Nat.le_of_ble_eq_true rfl⟩ ⟨Nat.zero_le _, Nat.zero_le _⟩ rfl rfl (Nat.le_of_ble_eq_true rfl) dX11_nextConstant_54 (wm_inj hi cy _) ?_
      exact v_sub [1] rfl ((b_nextConstant_57 C hi) _ h)
  · rw [if_pos c1] at h
    refine v_aload_n C 0 dX11_nextConstant_8 rfl rfl ?_
    refine v_aload_n C 0 dX11_nextConstant_9 rfl rfl ?_
    refine n_getI C fl_213 dX11_nextConstant_10 ?_
    obtain ⟨q3, hq3, h⟩ := bd_of h
    refine vm_call C [.int (σ.1 56)] [] (c_fails hi _ _ hq3) hY_fails ml_240 ⟨Nat.le_of_ble_eq_true rfl, Nat.le_of_ble_eq_true rfl⟩ ⟨Nat.zero_le _, Nat.zero_le _⟩ rfl rfl (Nat.le_of_ble_eq_true rfl) dX11_nextConstant_13 (wm_inj hi cy _) ?_
    obtain rfl := Option.some.inj h
    exact v_vret C dX11_nextConstant_16
set_option maxHeartbeats 4000000 in
set_option maxRecDepth 20000 in
theorem b_readsLaws_107 {p : Program} {l : Launch} {e : Env} {s : State} {m : MethodId} {args : Array Value} {below : List Frame} {meth : Method} {c : Code} {D : va_G} {cy : Nat → ClassId} {ad : Nat → Nat} {q : Int32 × MS} (C : vC p s m args meth c cX11_readsLaws 3 (some .int) RX11 D (cyT cy)) (hi : ∀ i j, i < 34 → j < 34 → ad i = ad j → i = j) {k123 : Int32 → MS → Option (Int32 × MS)} (hk123 : ∀ (x1 : Int32)  (σ : MS), k123 x1 σ = some q → V p l e { frames := 15, cells := 0, slots := 0, locals := 356 } s m args below meth c D (inAd ad) 3 (MQ below (vQ D (inAd ad) (some (.int q.1)) (wm cy ad q.2)) args s 0 0 (inAd ad)) 0 0 (wm cy ad σ) 123 [(0, .ref (ad 0)), (1, .int x1)] []) : ∀ (x1 : Int32) (s0 : Int32) (σ : MS), B_readsLaws_107 k123 x1 s0 σ = some q → V p l e { frames := 15, cells := 0, slots := 0, locals := 356 } s m args below meth c D (inAd ad) 3 (MQ below (vQ D (inAd ad) (some (.int q.1)) (wm cy ad q.2)) args s 0 0 (inAd ad)) 0 0 (wm cy ad σ) 107 [(0, .ref (ad 0)), (1, .int x1)] [.int s0, .ref (ad 0)] := by
  intro x1 s0 σ h
  rw [B_readsLaws_107] at h
  obtain ⟨q1, hq1, h⟩ := bd_of h
  refine vm_call C [.int s0] [] (c_wants hi _ _ hq1) hY_wants ml_388 ⟨Nat.le_of_ble_eq_true rfl, Nat.le_of_ble_eq_true rfl⟩ ⟨Nat.zero_le _, Nat.zero_le _⟩ rfl rfl (Nat.le_of_ble_eq_true rfl) dX11_readsLaws_107 (wm_inj hi cy _) ?_
  refine v_aload_n C 0 dX11_readsLaws_110 rfl rfl ?_
  refine v_dup C dX11_readsLaws_111 rfl ?_
  refine n_getI C fl_213 dX11_readsLaws_112 ?_
  refine v_iconst C 1 dX11_readsLaws_115 (by decide) ?_
  refine v_iadd C dX11_readsLaws_116 ?_
  refine n_putI C fl_213 dX11_readsLaws_117 ?_
  refine v_iinc C (x1 + 1) 1 [(1, .int (x1 + 1)), (0, .ref (ad 0))] dX11_readsLaws_120 rfl rfl (by decide) rfl ?_
  exact v_sub [1, 0] rfl (hk123 _ _ h)
set_option maxHeartbeats 4000000 in
set_option maxRecDepth 20000 in
theorem b_readsLaws_123 {p : Program} {l : Launch} {e : Env} {s : State} {m : MethodId} {args : Array Value} {below : List Frame} {meth : Method} {c : Code} {D : va_G} {cy : Nat → ClassId} {ad : Nat → Nat} {q : Int32 × MS} (C : vC p s m args meth c cX11_readsLaws 3 (some .int) RX11 D (cyT cy)) (hi : ∀ i j, i < 34 → j < 34 → ad i = ad j → i = j) {k28 : Int32 → MS → Option (Int32 × MS)} (hk28 : ∀ (x1 : Int32)  (σ : MS), k28 x1 σ = some q → V p l e { frames := 15, cells := 0, slots := 0, locals := 356 } s m args below meth c D (inAd ad) 3 (MQ below (vQ D (inAd ad) (some (.int q.1)) (wm cy ad q.2)) args s 0 0 (inAd ad)) 0 0 (wm cy ad σ) 28 [(0, .ref (ad 0)), (1, .int x1)] []) : ∀ (x1 : Int32) (σ : MS), B_readsLaws_123 k28 x1 σ = some q → V p l e { frames := 15, cells := 0, slots := 0, locals := 356 } s m args below meth c D (inAd ad) 3 (MQ below (vQ D (inAd ad) (some (.int q.1)) (wm cy ad q.2)) args s 0 0 (inAd ad)) 0 0 (wm cy ad σ) 123 [(0, .ref (ad 0)), (1, .int x1)] [] := by
  intro x1 σ h
  rw [B_readsLaws_123] at h
  refine v_aload_n C 0 dX11_readsLaws_123 rfl rfl ?_
  refine v_sipush C 1734 dX11_readsLaws_124 (by decide) ?_
  refine n_putI C fl_133 dX11_readsLaws_127 ?_
  refine v_aload_n C 0 dX11_readsLaws_130 rfl rfl ?_
  refine v_bipush C 20 dX11_readsLaws_131 (by decide) ?_
  refine n_putI C fl_140 dX11_readsLaws_133 ?_
  refine v_aload_n C 0 dX11_readsLaws_136 rfl rfl ?_
  refine v_iconst C 1 dX11_readsLaws_137 (by decide) ?_
  refine n_putI C fl_45 dX11_readsLaws_138 ?_
  refine v_goto C 28 dX11_readsLaws_141 (by decide) ?_
  exact v_sub [0, 1] rfl (hk28 _ _ h)
set_option maxHeartbeats 4000000 in
set_option maxRecDepth 20000 in
theorem b_readsLaws_85 {p : Program} {l : Launch} {e : Env} {s : State} {m : MethodId} {args : Array Value} {below : List Frame} {meth : Method} {c : Code} {D : va_G} {cy : Nat → ClassId} {ad : Nat → Nat} {q : Int32 × MS} (C : vC p s m args meth c cX11_readsLaws 3 (some .int) RX11 D (cyT cy)) (hi : ∀ i j, i < 34 → j < 34 → ad i = ad j → i = j) {k28 : Int32 → MS → Option (Int32 × MS)} (hk28 : ∀ (x1 : Int32)  (σ : MS), k28 x1 σ = some q → V p l e { frames := 15, cells := 0, slots := 0, locals := 356 } s m args below meth c D (inAd ad) 3 (MQ below (vQ D (inAd ad) (some (.int q.1)) (wm cy ad q.2)) args s 0 0 (inAd ad)) 0 0 (wm cy ad σ) 28 [(0, .ref (ad 0)), (1, .int x1)] []) : ∀ (x1 : Int32) (σ : MS), B_readsLaws_85 k28 x1 σ = some q → V p l e { frames := 15, cells := 0, slots := 0, locals := 356 } s m args below meth c D (inAd ad) 3 (MQ below (vQ D (inAd ad) (some (.int q.1)) (wm cy ad q.2)) args s 0 0 (inAd ad)) 0 0 (wm cy ad σ) 85 [(0, .ref (ad 0)), (1, .int x1)] [] := by
  intro x1 σ h
  rw [B_readsLaws_85] at h
  refine v_aload_n C 0 dX11_readsLaws_85 rfl rfl ?_
  refine n_getI C fl_210 dX11_readsLaws_86 ?_
  refine v_if_ge C 123 dX11_readsLaws_89 (by decide) (fun c1 => ?_) (fun c1 => ?_)
  · rw [if_pos c1] at h
    exact v_sub [0, 1] rfl ((b_readsLaws_123 C hi hk28) _ _ h)
  · rw [if_neg c1] at h
    refine v_aload_n C 0 dX11_readsLaws_92 rfl rfl ?_
    refine v_aload_n C 0 dX11_readsLaws_93 rfl rfl ?_
    obtain ⟨q1, hq1, h⟩ := bd_of h
    refine vm_call C [] [.ref (ad 0)] (c_here hi _ hq1) hY_here ml_290 ⟨Nat.le_of_ble_eq_true rfl, Nat.le_of_ble_eq_true rfl⟩ ⟨Nat.zero_le _, Nat.zero_le _⟩ rfl rfl (Nat.le_of_ble_eq_true rfl) dX11_readsLaws_94 (wm_inj hi cy _) ?_
    refine v_bipush C 59 dX11_readsLaws_97 (by decide) ?_
    refine v_icmp_ne C 106 dX11_readsLaws_99 (by decide) (fun c2 => ?_) (fun c2 => ?_)
    · rw [if_neg c2] at h
      refine v_iconst C 0 dX11_readsLaws_106 (by decide) ?_
      exact v_sub [0, 1] rfl ((b_readsLaws_107 C hi (b_readsLaws_123 C hi hk28)) _ _ _ h)
    · rw [if_pos c2] at h
      refine v_iconst C 1 dX11_readsLaws_102 (by decide) ?_
      refine v_goto C 107 dX11_readsLaws_103 (by decide) ?_
      exact v_sub [0, 1] rfl ((b_readsLaws_107 C hi (b_readsLaws_123 C hi hk28)) _ _ _ h)
set_option maxHeartbeats 4000000 in
set_option maxRecDepth 20000 in
theorem b_readsLaws_144 {p : Program} {l : Launch} {e : Env} {s : State} {m : MethodId} {args : Array Value} {below : List Frame} {meth : Method} {c : Code} {D : va_G} {cy : Nat → ClassId} {ad : Nat → Nat} {q : Int32 × MS} (C : vC p s m args meth c cX11_readsLaws 3 (some .int) RX11 D (cyT cy)) (hi : ∀ i j, i < 34 → j < 34 → ad i = ad j → i = j) : ∀ (x1 : Int32) (σ : MS), B_readsLaws_144 x1 σ = some q → V p l e { frames := 15, cells := 0, slots := 0, locals := 356 } s m args below meth c D (inAd ad) 3 (MQ below (vQ D (inAd ad) (some (.int q.1)) (wm cy ad q.2)) args s 0 0 (inAd ad)) 0 0 (wm cy ad σ) 144 [(0, .ref (ad 0)), (1, .int x1)] [] := by
  intro x1 σ h
  rw [B_readsLaws_144] at h
  refine v_aload_n C 0 dX11_readsLaws_144 rfl rfl ?_
  refine v_iconst C 0 dX11_readsLaws_145 (by decide) ?_
  refine n_putI C fl_271 dX11_readsLaws_146 ?_
  refine v_iload_n C 1 dX11_readsLaws_149 rfl rfl ?_
  obtain rfl := Option.some.inj h
  exact v_iret C dX11_readsLaws_150
set_option maxHeartbeats 4000000 in
set_option maxRecDepth 20000 in
theorem l_readsLaws_28 {p : Program} {l : Launch} {e : Env} {s : State} {m : MethodId} {args : Array Value} {below : List Frame} {meth : Method} {c : Code} {D : va_G} {cy : Nat → ClassId} {ad : Nat → Nat} {q : Int32 × MS} (C : vC p s m args meth c cX11_readsLaws 3 (some .int) RX11 D (cyT cy)) (hi : ∀ i j, i < 34 → j < 34 → ad i = ad j → i = j) : ∀ (n : Nat) (x1 : Int32) (σ : MS), L_readsLaws_28 n x1 σ = some q → V p l e { frames := 15, cells := 0, slots := 0, locals := 356 } s m args below meth c D (inAd ad) 3 (MQ below (vQ D (inAd ad) (some (.int q.1)) (wm cy ad q.2)) args s 0 0 (inAd ad)) 0 0 (wm cy ad σ) 28 [(0, .ref (ad 0)), (1, .int x1)] [] := by
  intro n
  induction n with
  | zero =>
    intro x1 σ h
    rw [L_readsLaws_28.eq_1] at h
    cases h
  | succ n ih =>
    intro x1 σ h
    rw [L_readsLaws_28.eq_2] at h
    refine v_aload_n C 0 dX11_readsLaws_28 rfl rfl ?_
    refine n_getI C fl_210 dX11_readsLaws_29 ?_
    refine v_if_ge C 144 dX11_readsLaws_32 (by decide) (fun c1 => ?_) (fun c1 => ?_)
    · rw [if_pos c1] at h
      exact v_sub [0, 1] rfl ((b_readsLaws_144 C hi) _ _ h)
    · rw [if_neg c1] at h
      refine v_aload_n C 0 dX11_readsLaws_35 rfl rfl ?_
      refine n_getI C fl_213 dX11_readsLaws_36 ?_
      refine v_aload_n C 0 dX11_readsLaws_39 rfl rfl ?_
      refine n_getI C fl_216 dX11_readsLaws_40 ?_
      refine v_icmp_ge C 144 dX11_readsLaws_43 (by decide) (fun c2 => ?_) (fun c2 => ?_)
      · rw [if_pos c2] at h
        exact v_sub [0, 1] rfl ((b_readsLaws_144 C hi) _ _ h)
      · rw [if_neg c2] at h
        refine v_aload_n C 0 dX11_readsLaws_46 rfl rfl ?_
        obtain ⟨q1, hq1, h⟩ := bd_of h
        refine vm_call C [] [] (c_here hi _ hq1) hY_here ml_290 ⟨Nat.le_of_ble_eq_true rfl, Nat.le_of_ble_eq_true rfl⟩ ⟨Nat.zero_le _, Nat.zero_le _⟩ rfl rfl (Nat.le_of_ble_eq_true rfl) dX11_readsLaws_47 (wm_inj hi cy _) ?_
        refine v_istore_n C [(2, .int q1.1), (0, .ref (ad 0)), (1, .int x1)] dX11_readsLaws_50 rfl (by decide) rfl ?_
        refine v_iload_n C 0 dX11_readsLaws_51 rfl rfl ?_
        refine v_bipush C 102 dX11_readsLaws_52 (by decide) ?_
        refine v_icmp_ne C 64 dX11_readsLaws_54 (by decide) (fun c3 => ?_) (fun c3 => ?_)
        · rw [if_neg c3] at h
          refine v_iload_n C 0 dX11_readsLaws_64 rfl rfl ?_
          refine v_bipush C 107 dX11_readsLaws_65 (by decide) ?_
          refine v_icmp_ne C 77 dX11_readsLaws_67 (by decide) (fun c4 => ?_) (fun c4 => ?_)
          · rw [if_neg c4] at h
            refine v_aload_n C 1 dX11_readsLaws_77 rfl rfl ?_
            refine v_aload_n C 1 dX11_readsLaws_78 rfl rfl ?_
            refine n_getI C fl_213 dX11_readsLaws_79 ?_
            obtain ⟨q2, hq2, h⟩ := bd_of h
            refine vm_call C [.int (q1.2.1 56)] [] (c_fails hi _ _ hq2) hY_fails ml_240 ⟨Nat.le_of_ble_eq_true rfl, Nat.le_of_ble_eq_true rfl⟩ ⟨Nat.zero_le _, Nat.zero_le _⟩ rfl rfl (Nat.le_of_ble_eq_true rfl) dX11_readsLaws_82 (wm_inj hi cy _) ?_
            exact v_sub [1, 2] rfl ((b_readsLaws_85 C hi ih) _ _ h)
          · rw [if_pos c4] at h
            refine v_aload_n C 1 dX11_readsLaws_70 rfl rfl ?_
            obtain ⟨q3, hq3, h⟩ := bd_of h
            refine vm_call C [] [] (c_nextConstant hi _ hq3) hY_nextConstant ml_398 ⟨Nat.le_of_ble_eq_true rfl, Nat.le_of_ble_eq_true rfl⟩ ⟨Nat.zero_le _, Nat.zero_le _⟩ rfl rfl (Nat.le_of_ble_eq_true rfl) dX11_readsLaws_71 (wm_inj hi cy _) ?_
            refine v_goto C 85 dX11_readsLaws_74 (by decide) ?_
            exact v_sub [1, 2] rfl ((b_readsLaws_85 C hi ih) _ _ h)
        · rw [if_pos c3] at h
          refine v_aload_n C 1 dX11_readsLaws_57 rfl rfl ?_
          obtain ⟨q4, hq4, h⟩ := bd_of h
          refine vm_call C [] [] (c_nextFamily hi _ hq4) hY_nextFamily ml_395 ⟨Nat.le_of_ble_eq_true rfl, Nat.le_of_ble_eq_true rfl⟩ ⟨Nat.zero_le _, Nat.zero_le _⟩ rfl rfl (Nat.le_of_ble_eq_true rfl) dX11_readsLaws_58 (wm_inj hi cy _) ?_
          refine v_goto C 85 dX11_readsLaws_61 (by decide) ?_
          exact v_sub [1, 2] rfl ((b_readsLaws_85 C hi ih) _ _ h)
set_option maxHeartbeats 4000000 in
set_option maxRecDepth 20000 in
theorem c_readsLaws {l : Launch} {D : va_G} {cy : Nat → ClassId} {ad : Nat → Nat} {q : Int32 × MS} (hi : ∀ i j, i < 34 → j < 34 → ad i = ad j → i = j) (σ : MS) (h : f_readsLaws σ = some q) : MV l D (cyT cy) (inAd ad) yX11_readsLaws cX11_readsLaws 3 (some .int) 15 356 0 0 [.ref (ad 0)] (wm cy ad σ) (some (.int q.1)) (wm cy ad q.2) := by
  refine MV.of (by decide) (wm_inj hi cy σ) (Nat.le_of_ble_eq_true rfl) [(0, .ref (ad 0))] rfl ?_
  intro p e s m args below meth c C
  rw [f_readsLaws] at h
  refine v_iconst C 0 dX11_readsLaws_0 (by decide) ?_
  refine v_istore_n C [(1, .int 0), (0, .ref (ad 0))] dX11_readsLaws_1 rfl (by decide) rfl ?_
  refine v_aload_n C 1 dX11_readsLaws_2 rfl rfl ?_
  obtain ⟨q1, hq1, h⟩ := bd_of h
  refine vm_call C [] [] (c_starts hi _ hq1) hY_starts ml_370 ⟨Nat.le_of_ble_eq_true rfl, Nat.le_of_ble_eq_true rfl⟩ ⟨Nat.zero_le _, Nat.zero_le _⟩ rfl rfl (Nat.le_of_ble_eq_true rfl) dX11_readsLaws_3 (wm_inj hi cy _) ?_
  refine v_aload_n C 1 dX11_readsLaws_6 rfl rfl ?_
  refine v_iconst C 0 dX11_readsLaws_7 (by decide) ?_
  refine n_putI C fl_294 dX11_readsLaws_8 ?_
  refine v_aload_n C 1 dX11_readsLaws_11 rfl rfl ?_
  refine v_iconst C 0 dX11_readsLaws_12 (by decide) ?_
  refine n_putI C fl_268 dX11_readsLaws_13 ?_
  refine v_aload_n C 1 dX11_readsLaws_16 rfl rfl ?_
  refine v_iconst C 0 dX11_readsLaws_17 (by decide) ?_
  refine n_putI C fl_313 dX11_readsLaws_18 ?_
  refine v_aload_n C 1 dX11_readsLaws_21 rfl rfl ?_
  refine v_sipush C 969 dX11_readsLaws_22 (by decide) ?_
  refine n_putI C fl_271 dX11_readsLaws_25 ?_
  exact v_sub [1, 0] rfl ((l_readsLaws_28 C hi 10000) _ _ h)
set_option maxHeartbeats 4000000 in
set_option maxRecDepth 20000 in
theorem l_laws_60 {p : Program} {l : Launch} {e : Env} {s : State} {m : MethodId} {args : Array Value} {below : List Frame} {meth : Method} {c : Code} {D : va_G} {cy : Nat → ClassId} {ad : Nat → Nat} {q : Int32 × MS} (C : vC p s m args meth c cX11_laws 5 (some .int) RX11 D (cyT cy)) (hi : ∀ i j, i < 34 → j < 34 → ad i = ad j → i = j) : ∀ (n : Nat) (x4 : Int32) (σ : MS), L_laws_60 n x4 σ = some q → V p l e { frames := 16, cells := 0, slots := 0, locals := 378 } s m args below meth c D (inAd ad) 5 (MQ below (vQ D (inAd ad) (some (.int q.1)) (wm cy ad q.2)) args s 0 0 (inAd ad)) 0 0 (wm cy ad σ) 60 [(0, .ref (ad 0)), (4, .int x4)] [] := by
  intro n
  induction n with
  | zero =>
    intro x4 σ h
    rw [L_laws_60.eq_1] at h
    cases h
  | succ n ih =>
    intro x4 σ h
    rw [L_laws_60.eq_2] at h
    refine v_iload C 1 dX11_laws_60 rfl ?_
    refine v_iconst C 3 dX11_laws_62 (by decide) ?_
    refine v_icmp_ge C 86 dX11_laws_63 (by decide) (fun c1 => ?_) (fun c1 => ?_)
    · rw [if_pos c1] at h
      refine v_bipush C (-10) dX11_laws_86 (by decide) ?_
      refine v_aload_n C 0 dX11_laws_88 rfl rfl ?_
      refine n_getI C fl_210 dX11_laws_89 ?_
      refine v_isub C dX11_laws_92 ?_
      obtain rfl := Option.some.inj h
      exact v_iret C dX11_laws_93
    · rw [if_neg c1] at h
      refine v_aload_n C 0 dX11_laws_66 rfl rfl ?_
      refine n_getR C fl_16 dX11_laws_67 ?_
      refine v_iload C 1 dX11_laws_70 rfl ?_
      refine v_aload_n C 0 dX11_laws_72 rfl rfl ?_
      refine n_getR C fl_112 dX11_laws_73 ?_
      refine v_iload C 1 dX11_laws_76 rfl ?_
      obtain ⟨g1, h⟩ := gd_of h
      refine vm_zald C 33 (by decide) (by decide) rfl (ix_in g1) dX11_laws_78 ?_
      obtain ⟨g2, h⟩ := gd_of h
      obtain ⟨g3, h⟩ := gd_of h
      refine vm_zast C (bzb_in g3) 3 (by decide) (by decide) rfl (ix_in g2) dX11_laws_79 ?_
      refine v_iinc C (x4 + 1) 1 [(4, .int (x4 + 1)), (0, .ref (ad 0))] dX11_laws_80 rfl rfl (by decide) rfl ?_
      refine v_goto C 60 dX11_laws_83 (by decide) ?_
      exact v_sub [1, 0] rfl (ih _ _ h)
set_option maxHeartbeats 4000000 in
set_option maxRecDepth 20000 in
theorem l_laws_12 {p : Program} {l : Launch} {e : Env} {s : State} {m : MethodId} {args : Array Value} {below : List Frame} {meth : Method} {c : Code} {D : va_G} {cy : Nat → ClassId} {ad : Nat → Nat} {q : Int32 × MS} (C : vC p s m args meth c cX11_laws 5 (some .int) RX11 D (cyT cy)) (hi : ∀ i j, i < 34 → j < 34 → ad i = ad j → i = j) : ∀ (n : Nat) (x1 : Int32) (x2 : Int32) (x3 : Int32) (σ : MS), L_laws_12 n x1 x2 x3 σ = some q → V p l e { frames := 16, cells := 0, slots := 0, locals := 378 } s m args below meth c D (inAd ad) 5 (MQ below (vQ D (inAd ad) (some (.int q.1)) (wm cy ad q.2)) args s 0 0 (inAd ad)) 0 0 (wm cy ad σ) 12 [(0, .ref (ad 0)), (1, .int x1), (2, .int x2), (3, .int x3)] [] := by
  intro n
  induction n with
  | zero =>
    intro x1 x2 x3 σ h
    rw [L_laws_12.eq_1] at h
    cases h
  | succ n ih =>
    intro x1 x2 x3 σ h
    rw [L_laws_12.eq_2] at h
    refine v_iload_n C 3 dX11_laws_12 rfl rfl ?_
    refine v_iconst C 3 dX11_laws_13 (by decide) ?_
    refine v_icmp_ge C 35 dX11_laws_14 (by decide) (fun c1 => ?_) (fun c1 => ?_)
    · rw [if_pos c1] at h
      refine v_aload_n C 0 dX11_laws_35 rfl rfl ?_
      obtain ⟨q1, hq1, h⟩ := bd_of h
      refine vm_call C [] [] (c_readsLaws hi _ hq1) hY_readsLaws ml_401 ⟨Nat.le_of_ble_eq_true rfl, Nat.le_of_ble_eq_true rfl⟩ ⟨Nat.zero_le _, Nat.zero_le _⟩ rfl rfl (Nat.le_of_ble_eq_true rfl) dX11_laws_36 (wm_inj hi cy _) ?_
      refine v_istore_n C [(3, .int q1.1), (0, .ref (ad 0)), (1, .int x1), (2, .int x2)] dX11_laws_39 rfl (by decide) rfl ?_
      refine v_aload_n C 1 dX11_laws_40 rfl rfl ?_
      refine n_getI C fl_210 dX11_laws_41 ?_
      refine v_if_lt C 94 dX11_laws_44 (by decide) (fun c2 => ?_) (fun c2 => ?_)
      · rw [if_pos c2] at h
        refine v_aload_n C 1 dX11_laws_94 rfl rfl ?_
        refine n_getR C fl_7 dX11_laws_95 ?_
        refine v_sipush C 969 dX11_laws_98 (by decide) ?_
        refine v_aload_n C 1 dX11_laws_101 rfl rfl ?_
        refine n_getR C fl_7 dX11_laws_102 ?_
        refine v_iconst C 0 dX11_laws_105 (by decide) ?_
        refine v_sipush C 357 dX11_laws_106 (by decide) ?_
        obtain ⟨q2, hq2, h⟩ := bd_of h
        refine vm_callS C [.ref (ad 1), .int 969, .ref (ad 1), .int 0, .int 357] [] (c_bring hi iI_1 iI_1 _ _ _ _ hq2) hY_bring ml_147 ⟨Nat.le_of_ble_eq_true rfl, Nat.le_of_ble_eq_true rfl⟩ ⟨Nat.zero_le _, Nat.zero_le _⟩ rfl rfl (Nat.le_of_ble_eq_true rfl) dX11_laws_109 (wm_inj hi cy _) ?_
        refine v_aload_n C 1 dX11_laws_112 rfl rfl ?_
        refine v_iconst C 0 dX11_laws_113 (by decide) ?_
        refine n_putI C fl_216 dX11_laws_114 ?_
        refine v_aload_n C 1 dX11_laws_117 rfl rfl ?_
        refine v_iconst C 0 dX11_laws_118 (by decide) ?_
        refine n_putI C fl_364 dX11_laws_119 ?_
        refine v_aload_n C 1 dX11_laws_122 rfl rfl ?_
        refine v_iconst C 0 dX11_laws_123 (by decide) ?_
        refine n_putI C fl_404 dX11_laws_124 ?_
        refine v_aload_n C 1 dX11_laws_127 rfl rfl ?_
        refine v_iconst C 0 dX11_laws_128 (by decide) ?_
        refine n_putI C fl_407 dX11_laws_129 ?_
        refine v_aload_n C 1 dX11_laws_132 rfl rfl ?_
        refine n_getR C fl_35 dX11_laws_133 ?_
        refine v_iconst C 0 dX11_laws_136 (by decide) ?_
        refine v_bipush C (-9) dX11_laws_137 (by decide) ?_
        obtain ⟨g1, h⟩ := gd_of h
        refine vm_iast C 9 iI_9 (ix_in g1) dX11_laws_139 ?_
        refine v_aload_n C 1 dX11_laws_140 rfl rfl ?_
        refine n_getR C fl_35 dX11_laws_141 ?_
        refine v_iconst C 1 dX11_laws_144 (by decide) ?_
        refine v_bipush C (-9) dX11_laws_145 (by decide) ?_
        obtain ⟨g2, h⟩ := gd_of h
        refine vm_iast C 9 iI_9 (ix_in g2) dX11_laws_147 ?_
        refine v_iload_n C 0 dX11_laws_148 rfl rfl ?_
        obtain rfl := Option.some.inj h
        exact v_iret C dX11_laws_149
      · rw [if_neg c2] at h
        refine v_aload_n C 1 dX11_laws_47 rfl rfl ?_
        refine v_iload_n C 2 dX11_laws_48 rfl rfl ?_
        refine n_putI C fl_268 dX11_laws_49 ?_
        refine v_aload_n C 1 dX11_laws_52 rfl rfl ?_
        refine v_iload_n C 3 dX11_laws_53 rfl rfl ?_
        refine n_putI C fl_313 dX11_laws_54 ?_
        refine v_iconst C 0 dX11_laws_57 (by decide) ?_
        refine v_istore C [(4, .int 0), (3, .int q1.1), (0, .ref (ad 0)), (1, .int x1), (2, .int x2)] dX11_laws_58 (by decide) rfl ?_
        exact v_sub [2, 0] rfl ((l_laws_60 C hi 10000) _ _ h)
    · rw [if_neg c1] at h
      refine v_aload_n C 0 dX11_laws_17 rfl rfl ?_
      refine n_getR C fl_112 dX11_laws_18 ?_
      refine v_iload_n C 3 dX11_laws_21 rfl rfl ?_
      refine v_aload_n C 0 dX11_laws_22 rfl rfl ?_
      refine n_getR C fl_16 dX11_laws_23 ?_
      refine v_iload_n C 3 dX11_laws_26 rfl rfl ?_
      obtain ⟨g3, h⟩ := gd_of h
      refine vm_zald C 3 (by decide) (by decide) rfl (ix_in g3) dX11_laws_27 ?_
      obtain ⟨g4, h⟩ := gd_of h
      obtain ⟨g5, h⟩ := gd_of h
      refine vm_zast C (bzb_in g5) 33 (by decide) (by decide) rfl (ix_in g4) dX11_laws_28 ?_
      refine v_iinc C (x3 + 1) 3 [(3, .int (x3 + 1)), (0, .ref (ad 0)), (1, .int x1), (2, .int x2)] dX11_laws_29 rfl rfl (by decide) rfl ?_
      refine v_goto C 12 dX11_laws_32 (by decide) ?_
      exact v_sub [1, 2, 3, 0] rfl (ih _ _ _ _ h)
set_option maxHeartbeats 4000000 in
set_option maxRecDepth 20000 in
theorem c_laws {l : Launch} {D : va_G} {cy : Nat → ClassId} {ad : Nat → Nat} {q : Int32 × MS} (hi : ∀ i j, i < 34 → j < 34 → ad i = ad j → i = j) (σ : MS) (h : f_laws σ = some q) : MV l D (cyT cy) (inAd ad) yX11_laws cX11_laws 5 (some .int) 16 378 0 0 [.ref (ad 0)] (wm cy ad σ) (some (.int q.1)) (wm cy ad q.2) := by
  refine MV.of (by decide) (wm_inj hi cy σ) (Nat.le_of_ble_eq_true rfl) [(0, .ref (ad 0))] rfl ?_
  intro p e s m args below meth c C
  rw [f_laws] at h
  refine v_aload_n C 0 dX11_laws_0 rfl rfl ?_
  refine n_getI C fl_268 dX11_laws_1 ?_
  refine v_istore_n C [(1, .int (σ.1 4)), (0, .ref (ad 0))] dX11_laws_4 rfl (by decide) rfl ?_
  refine v_aload_n C 1 dX11_laws_5 rfl rfl ?_
  refine n_getI C fl_313 dX11_laws_6 ?_
  refine v_istore_n C [(2, .int (σ.1 5)), (1, .int (σ.1 4)), (0, .ref (ad 0))] dX11_laws_9 rfl (by decide) rfl ?_
  refine v_iconst C 0 dX11_laws_10 (by decide) ?_
  refine v_istore_n C [(3, .int 0), (2, .int (σ.1 5)), (1, .int (σ.1 4)), (0, .ref (ad 0))] dX11_laws_11 rfl (by decide) rfl ?_
  exact v_sub [3, 2, 1, 0] rfl ((l_laws_12 C hi 10000) _ _ _ _ h)
set_option maxHeartbeats 4000000 in
set_option maxRecDepth 20000 in
theorem b_signAt_22 {p : Program} {l : Launch} {e : Env} {s : State} {m : MethodId} {args : Array Value} {below : List Frame} {meth : Method} {c : Code} {D : va_G} {cy : Nat → ClassId} {ad : Nat → Nat} {q : Int32 × MS} (C : vC p s m args meth c cX11_signAt 3 (some .int) RX11 D (cyT cy)) (hi : ∀ i j, i < 34 → j < 34 → ad i = ad j → i = j) : ∀ (s0 : Int32) (σ : MS), B_signAt_22 s0 σ = some q → V p l e { frames := 4, cells := 0, slots := 0, locals := 85 } s m args below meth c D (inAd ad) 3 (MQ below (vQ D (inAd ad) (some (.int q.1)) (wm cy ad q.2)) args s 0 0 (inAd ad)) 0 0 (wm cy ad σ) 22 [(0, .ref (ad 0))] [.int s0] := by
  intro s0 σ h
  rw [B_signAt_22] at h
  obtain rfl := Option.some.inj h
  exact v_iret C dX11_signAt_22
set_option maxHeartbeats 4000000 in
set_option maxRecDepth 20000 in
theorem c_signAt {l : Launch} {D : va_G} {cy : Nat → ClassId} {ad : Nat → Nat} {q : Int32 × MS} (hi : ∀ i j, i < 34 → j < 34 → ad i = ad j → i = j) (x1 : Int32) (x2 : Int32) (σ : MS) (h : f_signAt x1 x2 σ = some q) : MV l D (cyT cy) (inAd ad) yX11_signAt cX11_signAt 3 (some .int) 4 85 0 0 [.ref (ad 0), .int x1, .int x2] (wm cy ad σ) (some (.int q.1)) (wm cy ad q.2) := by
  refine MV.of (by decide) (wm_inj hi cy σ) (Nat.le_of_ble_eq_true rfl) [(0, .ref (ad 0)), (1, .int x1), (2, .int x2)] rfl ?_
  intro p e s m args below meth c C
  rw [f_signAt] at h
  refine v_iload_n C 2 dX11_signAt_0 rfl rfl ?_
  refine v_aload_n C 0 dX11_signAt_1 rfl rfl ?_
  refine v_iload_n C 1 dX11_signAt_2 rfl rfl ?_
  obtain ⟨q1, hq1, h⟩ := bd_of h
  refine vm_call C [.int x1] [.int x2] (c_longOf hi _ _ hq1) hY_longOf ml_130 ⟨Nat.le_of_ble_eq_true rfl, Nat.le_of_ble_eq_true rfl⟩ ⟨Nat.zero_le _, Nat.zero_le _⟩ rfl rfl (Nat.le_of_ble_eq_true rfl) dX11_signAt_3 (wm_inj hi cy _) ?_
  refine v_icmp_ge C 20 dX11_signAt_6 (by decide) (fun c1 => ?_) (fun c1 => ?_)
  · rw [if_pos c1] at h
    refine v_bipush C (-9) dX11_signAt_20 (by decide) ?_
    exact v_sub [0] rfl ((b_signAt_22 C hi) _ _ h)
  · rw [if_neg c1] at h
    refine v_aload_n C 0 dX11_signAt_9 rfl rfl ?_
    refine n_getR C fl_7 dX11_signAt_10 ?_
    refine v_iload_n C 1 dX11_signAt_13 rfl rfl ?_
    refine v_iload_n C 2 dX11_signAt_14 rfl rfl ?_
    refine v_iadd C dX11_signAt_15 ?_
    obtain ⟨g1, h⟩ := gd_of h
    refine vm_iald C 1 iI_1 (ix_in g1) dX11_signAt_16 ?_
    refine v_goto C 22 dX11_signAt_17 (by decide) ?_
    exact v_sub [0] rfl ((b_signAt_22 C hi) _ _ h)
set_option maxHeartbeats 4000000 in
set_option maxRecDepth 20000 in
theorem b_law_67 {p : Program} {l : Launch} {e : Env} {s : State} {m : MethodId} {args : Array Value} {below : List Frame} {meth : Method} {c : Code} {D : va_G} {cy : Nat → ClassId} {ad : Nat → Nat} {q : Int32 × MS} (C : vC p s m args meth c cX11_law 4 (some .int) RX11 D (cyT cy)) (hi : ∀ i j, i < 34 → j < 34 → ad i = ad j → i = j) : ∀ (s0 : Int32) (σ : MS), B_law_67 s0 σ = some q → V p l e { frames := 5, cells := 0, slots := 0, locals := 107 } s m args below meth c D (inAd ad) 4 (MQ below (vQ D (inAd ad) (some (.int q.1)) (wm cy ad q.2)) args s 0 0 (inAd ad)) 0 0 (wm cy ad σ) 67 [(0, .ref (ad 0))] [.int s0] := by
  intro s0 σ h
  rw [B_law_67] at h
  obtain rfl := Option.some.inj h
  exact v_iret C dX11_law_67
set_option maxHeartbeats 4000000 in
set_option maxRecDepth 20000 in
theorem b_law_26 {p : Program} {l : Launch} {e : Env} {s : State} {m : MethodId} {args : Array Value} {below : List Frame} {meth : Method} {c : Code} {D : va_G} {cy : Nat → ClassId} {ad : Nat → Nat} {q : Int32 × MS} (C : vC p s m args meth c cX11_law 4 (some .int) RX11 D (cyT cy)) (hi : ∀ i j, i < 34 → j < 34 → ad i = ad j → i = j) {k38 : MS → Option (Int32 × MS)} (hk38 : ∀  (σ : MS), k38 σ = some q → V p l e { frames := 5, cells := 0, slots := 0, locals := 107 } s m args below meth c D (inAd ad) 4 (MQ below (vQ D (inAd ad) (some (.int q.1)) (wm cy ad q.2)) args s 0 0 (inAd ad)) 0 0 (wm cy ad σ) 38 [(0, .ref (ad 0))] []) : ∀ (x1 : Int32) (x2 : Int32) (x3 : Int32) (s0 : Int32) (s1 : Int32) (s2 : Int32) (σ : MS), B_law_26 k38 x1 x2 x3 s0 s1 s2 σ = some q → V p l e { frames := 5, cells := 0, slots := 0, locals := 107 } s m args below meth c D (inAd ad) 4 (MQ below (vQ D (inAd ad) (some (.int q.1)) (wm cy ad q.2)) args s 0 0 (inAd ad)) 0 0 (wm cy ad σ) 26 [(0, .ref (ad 0)), (1, .int x1), (2, .int x2), (3, .int x3)] [.int s0, .int s1, .int s2] := by
  intro x1 x2 x3 s0 s1 s2 σ h
  rw [B_law_26] at h
  refine v_iconst C 1 dX11_law_26 (by decide) ?_
  refine v_isub C dX11_law_27 ?_
  obtain ⟨q1, hq1, h⟩ := bd_of h
  refine vm_callS C [.int s2, .int s1, .int (s0 - 1)] [] (c_in hi _ _ _ _ hq1) hY_in ml_297 ⟨Nat.le_of_ble_eq_true rfl, Nat.le_of_ble_eq_true rfl⟩ ⟨Nat.zero_le _, Nat.zero_le _⟩ rfl rfl (Nat.le_of_ble_eq_true rfl) dX11_law_28 (wm_inj hi cy _) ?_
  refine v_if_eq C 38 dX11_law_31 (by decide) (fun c1 => ?_) (fun c1 => ?_)
  · rw [if_pos c1] at h
    exact v_sub [0] rfl (hk38 _ h)
  · rw [if_neg c1] at h
    refine v_iload_n C 3 dX11_law_34 rfl rfl ?_
    refine v_if_ge C 40 dX11_law_35 (by decide) (fun c2 => ?_) (fun c2 => ?_)
    · rw [if_pos c2] at h
      refine v_iload_n C 1 dX11_law_40 rfl rfl ?_
      refine v_if_ne C 68 dX11_law_41 (by decide) (fun c3 => ?_) (fun c3 => ?_)
      · rw [if_neg c3] at h
        refine v_aload_n C 0 dX11_law_68 rfl rfl ?_
        refine v_bipush C 51 dX11_law_69 (by decide) ?_
        refine v_iconst C 3 dX11_law_71 (by decide) ?_
        refine v_iload_n C 2 dX11_law_72 rfl rfl ?_
        refine v_iadd C dX11_law_73 ?_
        refine v_imul C dX11_law_74 ?_
        refine v_iload_n C 3 dX11_law_75 rfl rfl ?_
        obtain ⟨q2, hq2, h⟩ := bd_of h
        refine vm_call C [.int (51 * (3 + x2)), .int x3] [] (c_signAt hi _ _ _ hq2) hY_signAt ml_410 ⟨Nat.le_of_ble_eq_true rfl, Nat.le_of_ble_eq_true rfl⟩ ⟨Nat.zero_le _, Nat.zero_le _⟩ rfl rfl (Nat.le_of_ble_eq_true rfl) dX11_law_76 (wm_inj hi cy _) ?_
        obtain rfl := Option.some.inj h
        exact v_iret C dX11_law_79
      · rw [if_pos c3] at h
        refine v_aload_n C 0 dX11_law_44 rfl rfl ?_
        refine n_getR C fl_16 dX11_law_45 ?_
        refine v_iload_n C 2 dX11_law_48 rfl rfl ?_
        obtain ⟨g1, h⟩ := gd_of h
        refine vm_zald C 3 (by decide) (by decide) rfl (ix_in g1) dX11_law_49 ?_
        refine v_if_eq C 65 dX11_law_50 (by decide) (fun c4 => ?_) (fun c4 => ?_)
        · rw [if_pos c4] at h
          refine v_bipush C (-9) dX11_law_65 (by decide) ?_
          exact v_sub [0] rfl ((b_law_67 C hi) _ _ h)
        · rw [if_neg c4] at h
          refine v_aload_n C 0 dX11_law_53 rfl rfl ?_
          refine v_bipush C 51 dX11_law_54 (by decide) ?_
          refine v_iload_n C 2 dX11_law_56 rfl rfl ?_
          refine v_imul C dX11_law_57 ?_
          refine v_iload_n C 3 dX11_law_58 rfl rfl ?_
          obtain ⟨q3, hq3, h⟩ := bd_of h
          refine vm_call C [.int (51 * x2), .int x3] [] (c_signAt hi _ _ _ hq3) hY_signAt ml_410 ⟨Nat.le_of_ble_eq_true rfl, Nat.le_of_ble_eq_true rfl⟩ ⟨Nat.zero_le _, Nat.zero_le _⟩ rfl rfl (Nat.le_of_ble_eq_true rfl) dX11_law_59 (wm_inj hi cy _) ?_
          refine v_goto C 67 dX11_law_62 (by decide) ?_
          exact v_sub [0] rfl ((b_law_67 C hi) _ _ h)
    · rw [if_neg c2] at h
      exact v_sub [0] rfl (hk38 _ h)
set_option maxHeartbeats 4000000 in
set_option maxRecDepth 20000 in
theorem b_law_38 {p : Program} {l : Launch} {e : Env} {s : State} {m : MethodId} {args : Array Value} {below : List Frame} {meth : Method} {c : Code} {D : va_G} {cy : Nat → ClassId} {ad : Nat → Nat} {q : Int32 × MS} (C : vC p s m args meth c cX11_law 4 (some .int) RX11 D (cyT cy)) (hi : ∀ i j, i < 34 → j < 34 → ad i = ad j → i = j) : ∀ (σ : MS), B_law_38 σ = some q → V p l e { frames := 5, cells := 0, slots := 0, locals := 107 } s m args below meth c D (inAd ad) 4 (MQ below (vQ D (inAd ad) (some (.int q.1)) (wm cy ad q.2)) args s 0 0 (inAd ad)) 0 0 (wm cy ad σ) 38 [(0, .ref (ad 0))] [] := by
  intro σ h
  rw [B_law_38] at h
  refine v_iconst C (-1) dX11_law_38 (by decide) ?_
  obtain rfl := Option.some.inj h
  exact v_iret C dX11_law_39
set_option maxHeartbeats 4000000 in
set_option maxRecDepth 20000 in
theorem c_law {l : Launch} {D : va_G} {cy : Nat → ClassId} {ad : Nat → Nat} {q : Int32 × MS} (hi : ∀ i j, i < 34 → j < 34 → ad i = ad j → i = j) (x1 : Int32) (x2 : Int32) (x3 : Int32) (σ : MS) (h : f_law x1 x2 x3 σ = some q) : MV l D (cyT cy) (inAd ad) yX11_law cX11_law 4 (some .int) 5 107 0 0 [.ref (ad 0), .int x1, .int x2, .int x3] (wm cy ad σ) (some (.int q.1)) (wm cy ad q.2) := by
  refine MV.of (by decide) (wm_inj hi cy σ) (Nat.le_of_ble_eq_true rfl) [(0, .ref (ad 0)), (1, .int x1), (2, .int x2), (3, .int x3)] rfl ?_
  intro p e s m args below meth c C
  rw [f_law] at h
  refine v_iload_n C 1 dX11_law_0 rfl rfl ?_
  refine v_iconst C 0 dX11_law_1 (by decide) ?_
  refine v_iconst C 1 dX11_law_2 (by decide) ?_
  obtain ⟨q1, hq1, h⟩ := bd_of h
  refine vm_callS C [.int x1, .int 0, .int 1] [] (c_in hi _ _ _ _ hq1) hY_in ml_297 ⟨Nat.le_of_ble_eq_true rfl, Nat.le_of_ble_eq_true rfl⟩ ⟨Nat.zero_le _, Nat.zero_le _⟩ rfl rfl (Nat.le_of_ble_eq_true rfl) dX11_law_3 (wm_inj hi cy _) ?_
  refine v_if_eq C 38 dX11_law_6 (by decide) (fun c1 => ?_) (fun c1 => ?_)
  · rw [if_pos c1] at h
    exact v_sub [0] rfl ((b_law_38 C hi) _ h)
  · rw [if_neg c1] at h
    refine v_iload_n C 2 dX11_law_9 rfl rfl ?_
    refine v_iconst C 0 dX11_law_10 (by decide) ?_
    refine v_iload_n C 1 dX11_law_11 rfl rfl ?_
    refine v_if_ne C 22 dX11_law_12 (by decide) (fun c2 => ?_) (fun c2 => ?_)
    · rw [if_neg c2] at h
      refine v_aload_n C 0 dX11_law_22 rfl rfl ?_
      refine n_getI C fl_313 dX11_law_23 ?_
      exact v_sub [0, 1, 2, 3] rfl ((b_law_26 C hi (b_law_38 C hi)) _ _ _ _ _ _ _ h)
    · rw [if_pos c2] at h
      refine v_aload_n C 0 dX11_law_15 rfl rfl ?_
      refine n_getI C fl_268 dX11_law_16 ?_
      refine v_goto C 26 dX11_law_19 (by decide) ?_
      exact v_sub [0, 1, 2, 3] rfl ((b_law_26 C hi (b_law_38 C hi)) _ _ _ _ _ _ _ h)
set_option maxHeartbeats 4000000 in
set_option maxRecDepth 20000 in
theorem b_signOrMany_18 {p : Program} {l : Launch} {e : Env} {s : State} {m : MethodId} {args : Array Value} {below : List Frame} {meth : Method} {c : Code} {D : va_G} {cy : Nat → ClassId} {ad : Nat → Nat} {q : Int32 × MS} (C : vC p s m args meth c cX11_signOrMany 3 (some .int) RX11 D (cyT cy)) (hi : ∀ i j, i < 34 → j < 34 → ad i = ad j → i = j) : ∀ (s0 : Int32) (σ : MS), B_signOrMany_18 s0 σ = some q → V p l e { frames := 5, cells := 0, slots := 0, locals := 107 } s m args below meth c D (inAd ad) 3 (MQ below (vQ D (inAd ad) (some (.int q.1)) (wm cy ad q.2)) args s 0 0 (inAd ad)) 0 0 (wm cy ad σ) 18 [(0, .ref (ad 0))] [.int s0] := by
  intro s0 σ h
  rw [B_signOrMany_18] at h
  obtain rfl := Option.some.inj h
  exact v_iret C dX11_signOrMany_18
set_option maxHeartbeats 4000000 in
set_option maxRecDepth 20000 in
theorem c_signOrMany {l : Launch} {D : va_G} {cy : Nat → ClassId} {ad : Nat → Nat} {q : Int32 × MS} (hi : ∀ i j, i < 34 → j < 34 → ad i = ad j → i = j) (x1 : Int32) (x2 : Int32) (σ : MS) (h : f_signOrMany x1 x2 σ = some q) : MV l D (cyT cy) (inAd ad) yX11_signOrMany cX11_signOrMany 3 (some .int) 5 107 0 0 [.ref (ad 0), .int x1, .int x2] (wm cy ad σ) (some (.int q.1)) (wm cy ad q.2) := by
  refine MV.of (by decide) (wm_inj hi cy σ) (Nat.le_of_ble_eq_true rfl) [(0, .ref (ad 0)), (1, .int x1), (2, .int x2)] rfl ?_
  intro p e s m args below meth c C
  rw [f_signOrMany] at h
  refine v_iload_n C 2 dX11_signOrMany_0 rfl rfl ?_
  refine v_if_ge C 12 dX11_signOrMany_1 (by decide) (fun c1 => ?_) (fun c1 => ?_)
  · rw [if_pos c1] at h
    refine v_aload_n C 0 dX11_signOrMany_12 rfl rfl ?_
    refine v_iload_n C 1 dX11_signOrMany_13 rfl rfl ?_
    refine v_iload_n C 2 dX11_signOrMany_14 rfl rfl ?_
    obtain ⟨q1, hq1, h⟩ := bd_of h
    refine vm_call C [.int x1, .int x2] [] (c_signAt hi _ _ _ hq1) hY_signAt ml_410 ⟨Nat.le_of_ble_eq_true rfl, Nat.le_of_ble_eq_true rfl⟩ ⟨Nat.zero_le _, Nat.zero_le _⟩ rfl rfl (Nat.le_of_ble_eq_true rfl) dX11_signOrMany_15 (wm_inj hi cy _) ?_
    exact v_sub [0] rfl ((b_signOrMany_18 C hi) _ _ h)
  · rw [if_neg c1] at h
    refine v_aload_n C 0 dX11_signOrMany_4 rfl rfl ?_
    refine v_iload_n C 1 dX11_signOrMany_5 rfl rfl ?_
    obtain ⟨q2, hq2, h⟩ := bd_of h
    refine vm_call C [.int x1] [] (c_longOf hi _ _ hq2) hY_longOf ml_130 ⟨Nat.le_of_ble_eq_true rfl, Nat.le_of_ble_eq_true rfl⟩ ⟨Nat.zero_le _, Nat.zero_le _⟩ rfl rfl (Nat.le_of_ble_eq_true rfl) dX11_signOrMany_6 (wm_inj hi cy _) ?_
    refine v_goto C 18 dX11_signOrMany_9 (by decide) ?_
    exact v_sub [0] rfl ((b_signOrMany_18 C hi) _ _ h)
set_option maxHeartbeats 4000000 in
set_option maxRecDepth 20000 in
theorem b_given_38 {p : Program} {l : Launch} {e : Env} {s : State} {m : MethodId} {args : Array Value} {below : List Frame} {meth : Method} {c : Code} {D : va_G} {cy : Nat → ClassId} {ad : Nat → Nat} {q : Int32 × MS} (C : vC p s m args meth c cX11_given 2 (some .int) RX11 D (cyT cy)) (hi : ∀ i j, i < 34 → j < 34 → ad i = ad j → i = j) : ∀ (s0 : Int32) (σ : MS), B_given_38 s0 σ = some q → V p l e { frames := 15, cells := 0, slots := 0, locals := 356 } s m args below meth c D (inAd ad) 2 (MQ below (vQ D (inAd ad) (some (.int q.1)) (wm cy ad q.2)) args s 0 0 (inAd ad)) 0 0 (wm cy ad σ) 38 [(0, .ref (ad 0))] [.int s0] := by
  intro s0 σ h
  rw [B_given_38] at h
  obtain rfl := Option.some.inj h
  exact v_iret C dX11_given_38
set_option maxHeartbeats 4000000 in
set_option maxRecDepth 20000 in
theorem c_given {l : Launch} {D : va_G} {cy : Nat → ClassId} {ad : Nat → Nat} {q : Int32 × MS} (hi : ∀ i j, i < 34 → j < 34 → ad i = ad j → i = j) (x1 : Int32) (σ : MS) (h : f_given x1 σ = some q) : MV l D (cyT cy) (inAd ad) yX11_given cX11_given 2 (some .int) 15 356 0 0 [.ref (ad 0), .int x1] (wm cy ad σ) (some (.int q.1)) (wm cy ad q.2) := by
  refine MV.of (by decide) (wm_inj hi cy σ) (Nat.le_of_ble_eq_true rfl) [(0, .ref (ad 0)), (1, .int x1)] rfl ?_
  intro p e s m args below meth c C
  rw [f_given] at h
  refine v_iload_n C 1 dX11_given_0 rfl rfl ?_
  refine v_iconst C (-1) dX11_given_1 (by decide) ?_
  refine v_icmp_ge C 7 dX11_given_2 (by decide) (fun c1 => ?_) (fun c1 => ?_)
  · rw [if_pos c1] at h
    refine v_aload_n C 0 dX11_given_7 rfl rfl ?_
    refine v_iconst C 1 dX11_given_8 (by decide) ?_
    obtain ⟨q1, hq1, h⟩ := bd_of h
    refine vm_call C [.int 1] [] (c_readsTerms hi _ _ hq1) hY_readsTerms ml_413 ⟨Nat.le_of_ble_eq_true rfl, Nat.le_of_ble_eq_true rfl⟩ ⟨Nat.zero_le _, Nat.zero_le _⟩ rfl rfl (Nat.le_of_ble_eq_true rfl) dX11_given_9 (wm_inj hi cy _) ?_
    refine v_aload_n C 0 dX11_given_12 rfl rfl ?_
    refine n_getI C fl_210 dX11_given_13 ?_
    refine v_if_lt C 29 dX11_given_16 (by decide) (fun c2 => ?_) (fun c2 => ?_)
    · rw [if_pos c2] at h
      refine v_aload_n C 0 dX11_given_29 rfl rfl ?_
      refine v_aload_n C 0 dX11_given_30 rfl rfl ?_
      refine n_getI C fl_382 dX11_given_31 ?_
      refine v_iload_n C 1 dX11_given_34 rfl rfl ?_
      obtain ⟨q2, hq2, h⟩ := bd_of h
      refine vm_call C [.int (q1.2.1 59), .int x1] [] (c_signOrMany hi _ _ _ hq2) hY_signOrMany ml_416 ⟨Nat.le_of_ble_eq_true rfl, Nat.le_of_ble_eq_true rfl⟩ ⟨Nat.zero_le _, Nat.zero_le _⟩ rfl rfl (Nat.le_of_ble_eq_true rfl) dX11_given_35 (wm_inj hi cy _) ?_
      exact v_sub [0] rfl ((b_given_38 C hi) _ _ h)
    · rw [if_neg c2] at h
      refine v_bipush C (-10) dX11_given_19 (by decide) ?_
      refine v_aload_n C 0 dX11_given_21 rfl rfl ?_
      refine n_getI C fl_210 dX11_given_22 ?_
      refine v_isub C dX11_given_25 ?_
      refine v_goto C 38 dX11_given_26 (by decide) ?_
      exact v_sub [0] rfl ((b_given_38 C hi) _ _ h)
  · rw [if_neg c1] at h
    refine v_iconst C (-1) dX11_given_5 (by decide) ?_
    obtain rfl := Option.some.inj h
    exact v_iret C dX11_given_6
set_option maxHeartbeats 4000000 in
set_option maxRecDepth 20000 in
theorem b_found_47 {p : Program} {l : Launch} {e : Env} {s : State} {m : MethodId} {args : Array Value} {below : List Frame} {meth : Method} {c : Code} {D : va_G} {cy : Nat → ClassId} {ad : Nat → Nat} {q : Int32 × MS} (C : vC p s m args meth c cX11_found 2 (some .int) RX11 D (cyT cy)) (hi : ∀ i j, i < 34 → j < 34 → ad i = ad j → i = j) {k50 : Int32 → MS → Option (Int32 × MS)} (hk50 : ∀ (x1 : Int32)  (σ : MS), k50 x1 σ = some q → V p l e { frames := 13, cells := 0, slots := 0, locals := 314 } s m args below meth c D (inAd ad) 2 (MQ below (vQ D (inAd ad) (some (.int q.1)) (wm cy ad q.2)) args s 0 0 (inAd ad)) 0 0 (wm cy ad σ) 50 [(0, .ref (ad 0)), (1, .int x1)] []) : ∀ (x1 : Int32) (s0 : Int32) (σ : MS), B_found_47 k50 x1 s0 σ = some q → V p l e { frames := 13, cells := 0, slots := 0, locals := 314 } s m args below meth c D (inAd ad) 2 (MQ below (vQ D (inAd ad) (some (.int q.1)) (wm cy ad q.2)) args s 0 0 (inAd ad)) 0 0 (wm cy ad σ) 47 [(0, .ref (ad 0)), (1, .int x1)] [.int s0, .ref (ad 0)] := by
  intro x1 s0 σ h
  rw [B_found_47] at h
  obtain ⟨q1, hq1, h⟩ := bd_of h
  refine vm_call C [.int s0] [] (c_wants hi _ _ hq1) hY_wants ml_388 ⟨Nat.le_of_ble_eq_true rfl, Nat.le_of_ble_eq_true rfl⟩ ⟨Nat.zero_le _, Nat.zero_le _⟩ rfl rfl (Nat.le_of_ble_eq_true rfl) dX11_found_47 (wm_inj hi cy _) ?_
  exact v_sub [0, 1] rfl (hk50 _ _ h)
set_option maxHeartbeats 4000000 in
set_option maxRecDepth 20000 in
theorem b_found_76 {p : Program} {l : Launch} {e : Env} {s : State} {m : MethodId} {args : Array Value} {below : List Frame} {meth : Method} {c : Code} {D : va_G} {cy : Nat → ClassId} {ad : Nat → Nat} {q : Int32 × MS} (C : vC p s m args meth c cX11_found 2 (some .int) RX11 D (cyT cy)) (hi : ∀ i j, i < 34 → j < 34 → ad i = ad j → i = j) : ∀ (s0 : Int32) (σ : MS), B_found_76 s0 σ = some q → V p l e { frames := 13, cells := 0, slots := 0, locals := 314 } s m args below meth c D (inAd ad) 2 (MQ below (vQ D (inAd ad) (some (.int q.1)) (wm cy ad q.2)) args s 0 0 (inAd ad)) 0 0 (wm cy ad σ) 76 [(0, .ref (ad 0))] [.int s0] := by
  intro s0 σ h
  rw [B_found_76] at h
  obtain rfl := Option.some.inj h
  exact v_iret C dX11_found_76
set_option maxHeartbeats 4000000 in
set_option maxRecDepth 20000 in
theorem b_found_50 {p : Program} {l : Launch} {e : Env} {s : State} {m : MethodId} {args : Array Value} {below : List Frame} {meth : Method} {c : Code} {D : va_G} {cy : Nat → ClassId} {ad : Nat → Nat} {q : Int32 × MS} (C : vC p s m args meth c cX11_found 2 (some .int) RX11 D (cyT cy)) (hi : ∀ i j, i < 34 → j < 34 → ad i = ad j → i = j) : ∀ (x1 : Int32) (σ : MS), B_found_50 x1 σ = some q → V p l e { frames := 13, cells := 0, slots := 0, locals := 314 } s m args below meth c D (inAd ad) 2 (MQ below (vQ D (inAd ad) (some (.int q.1)) (wm cy ad q.2)) args s 0 0 (inAd ad)) 0 0 (wm cy ad σ) 50 [(0, .ref (ad 0)), (1, .int x1)] [] := by
  intro x1 σ h
  rw [B_found_50] at h
  refine v_aload_n C 0 dX11_found_50 rfl rfl ?_
  refine n_getI C fl_210 dX11_found_51 ?_
  refine v_if_lt C 67 dX11_found_54 (by decide) (fun c1 => ?_) (fun c1 => ?_)
  · rw [if_pos c1] at h
    refine v_aload_n C 0 dX11_found_67 rfl rfl ?_
    refine v_aload_n C 0 dX11_found_68 rfl rfl ?_
    refine n_getI C fl_252 dX11_found_69 ?_
    refine v_iload_n C 1 dX11_found_72 rfl rfl ?_
    obtain ⟨q1, hq1, h⟩ := bd_of h
    refine vm_call C [.int (σ.1 55), .int x1] [] (c_signOrMany hi _ _ _ hq1) hY_signOrMany ml_416 ⟨Nat.le_of_ble_eq_true rfl, Nat.le_of_ble_eq_true rfl⟩ ⟨Nat.zero_le _, Nat.zero_le _⟩ rfl rfl (Nat.le_of_ble_eq_true rfl) dX11_found_73 (wm_inj hi cy _) ?_
    exact v_sub [0] rfl ((b_found_76 C hi) _ _ h)
  · rw [if_neg c1] at h
    refine v_bipush C (-10) dX11_found_57 (by decide) ?_
    refine v_aload_n C 0 dX11_found_59 rfl rfl ?_
    refine n_getI C fl_210 dX11_found_60 ?_
    refine v_isub C dX11_found_63 ?_
    refine v_goto C 76 dX11_found_64 (by decide) ?_
    exact v_sub [0] rfl ((b_found_76 C hi) _ _ h)
set_option maxHeartbeats 4000000 in
set_option maxRecDepth 20000 in
theorem c_found {l : Launch} {D : va_G} {cy : Nat → ClassId} {ad : Nat → Nat} {q : Int32 × MS} (hi : ∀ i j, i < 34 → j < 34 → ad i = ad j → i = j) (x1 : Int32) (σ : MS) (h : f_found x1 σ = some q) : MV l D (cyT cy) (inAd ad) yX11_found cX11_found 2 (some .int) 13 314 0 0 [.ref (ad 0), .int x1] (wm cy ad σ) (some (.int q.1)) (wm cy ad q.2) := by
  refine MV.of (by decide) (wm_inj hi cy σ) (Nat.le_of_ble_eq_true rfl) [(0, .ref (ad 0)), (1, .int x1)] rfl ?_
  intro p e s m args below meth c C
  rw [f_found] at h
  refine v_iload_n C 1 dX11_found_0 rfl rfl ?_
  refine v_iconst C (-1) dX11_found_1 (by decide) ?_
  refine v_icmp_ge C 7 dX11_found_2 (by decide) (fun c1 => ?_) (fun c1 => ?_)
  · rw [if_pos c1] at h
    refine v_aload_n C 0 dX11_found_7 rfl rfl ?_
    obtain ⟨q1, hq1, h⟩ := bd_of h
    refine vm_call C [] [] (c_starts hi _ hq1) hY_starts ml_370 ⟨Nat.le_of_ble_eq_true rfl, Nat.le_of_ble_eq_true rfl⟩ ⟨Nat.zero_le _, Nat.zero_le _⟩ rfl rfl (Nat.le_of_ble_eq_true rfl) dX11_found_8 (wm_inj hi cy _) ?_
    refine v_aload_n C 0 dX11_found_11 rfl rfl ?_
    refine v_iconst C 0 dX11_found_12 (by decide) ?_
    refine v_iconst C 0 dX11_found_13 (by decide) ?_
    refine v_iconst C 0 dX11_found_14 (by decide) ?_
    refine v_iconst C 0 dX11_found_15 (by decide) ?_
    obtain ⟨q2, hq2, h⟩ := bd_of h
    refine vm_call C [.int 0, .int 0, .int 0, .int 0] [] (c_dueTerm hi _ _ _ _ _ hq2) hY_dueTerm ml_274 ⟨Nat.le_of_ble_eq_true rfl, Nat.le_of_ble_eq_true rfl⟩ ⟨Nat.zero_le _, Nat.zero_le _⟩ rfl rfl (Nat.le_of_ble_eq_true rfl) dX11_found_16 (wm_inj hi cy _) ?_
    refine v_aload_n C 0 dX11_found_19 rfl rfl ?_
    obtain ⟨q3, hq3, h⟩ := bd_of h
    refine vm_call C [] [] (c_readsWhole hi _ hq3) hY_readsWhole ml_367 ⟨Nat.le_of_ble_eq_true rfl, Nat.le_of_ble_eq_true rfl⟩ ⟨Nat.zero_le _, Nat.zero_le _⟩ rfl rfl (Nat.le_of_ble_eq_true rfl) dX11_found_20 (wm_inj hi cy _) ?_
    refine v_aload_n C 0 dX11_found_23 rfl rfl ?_
    refine n_getI C fl_210 dX11_found_24 ?_
    refine v_if_ge C 50 dX11_found_27 (by decide) (fun c2 => ?_) (fun c2 => ?_)
    · rw [if_pos c2] at h
      exact v_sub [0, 1] rfl ((b_found_50 C hi) _ _ h)
    · rw [if_neg c2] at h
      refine v_aload_n C 0 dX11_found_30 rfl rfl ?_
      refine v_aload_n C 0 dX11_found_31 rfl rfl ?_
      refine n_getI C fl_213 dX11_found_32 ?_
      refine v_aload_n C 0 dX11_found_35 rfl rfl ?_
      refine n_getI C fl_216 dX11_found_36 ?_
      refine v_icmp_ne C 46 dX11_found_39 (by decide) (fun c3 => ?_) (fun c3 => ?_)
      · rw [if_neg c3] at h
        refine v_iconst C 0 dX11_found_46 (by decide) ?_
        exact v_sub [0, 1] rfl ((b_found_47 C hi (b_found_50 C hi)) _ _ _ h)
      · rw [if_pos c3] at h
        refine v_iconst C 1 dX11_found_42 (by decide) ?_
        refine v_goto C 47 dX11_found_43 (by decide) ?_
        exact v_sub [0, 1] rfl ((b_found_47 C hi (b_found_50 C hi)) _ _ _ h)
  · rw [if_neg c1] at h
    refine v_iconst C (-1) dX11_found_5 (by decide) ?_
    obtain rfl := Option.some.inj h
    exact v_iret C dX11_found_6
set_option maxHeartbeats 4000000 in
set_option maxRecDepth 20000 in
theorem b_same_42 {p : Program} {l : Launch} {e : Env} {s : State} {m : MethodId} {args : Array Value} {below : List Frame} {meth : Method} {c : Code} {D : va_G} {cy : Nat → ClassId} {ad : Nat → Nat} {q : Int32 × MS} (C : vC p s m args meth c cX11_same 1 (some .int) RX11 D (cyT cy)) (hi : ∀ i j, i < 34 → j < 34 → ad i = ad j → i = j) : ∀ (s0 : Int32) (σ : MS), B_same_42 s0 σ = some q → V p l e { frames := 15, cells := 0, slots := 0, locals := 356 } s m args below meth c D (inAd ad) 1 (MQ below (vQ D (inAd ad) (some (.int q.1)) (wm cy ad q.2)) args s 0 0 (inAd ad)) 0 0 (wm cy ad σ) 42 [(0, .ref (ad 0))] [.int s0] := by
  intro s0 σ h
  rw [B_same_42] at h
  obtain rfl := Option.some.inj h
  exact v_iret C dX11_same_42
set_option maxHeartbeats 4000000 in
set_option maxRecDepth 20000 in
theorem c_same {l : Launch} {D : va_G} {cy : Nat → ClassId} {ad : Nat → Nat} {q : Int32 × MS} (hi : ∀ i j, i < 34 → j < 34 → ad i = ad j → i = j) (σ : MS) (h : f_same σ = some q) : MV l D (cyT cy) (inAd ad) yX11_same cX11_same 1 (some .int) 15 356 0 0 [.ref (ad 0)] (wm cy ad σ) (some (.int q.1)) (wm cy ad q.2) := by
  refine MV.of (by decide) (wm_inj hi cy σ) (Nat.le_of_ble_eq_true rfl) [(0, .ref (ad 0))] rfl ?_
  intro p e s m args below meth c C
  rw [f_same] at h
  refine v_aload_n C 0 dX11_same_0 rfl rfl ?_
  refine v_iconst C 2 dX11_same_1 (by decide) ?_
  obtain ⟨q1, hq1, h⟩ := bd_of h
  refine vm_call C [.int 2] [] (c_readsTerms hi _ _ hq1) hY_readsTerms ml_413 ⟨Nat.le_of_ble_eq_true rfl, Nat.le_of_ble_eq_true rfl⟩ ⟨Nat.zero_le _, Nat.zero_le _⟩ rfl rfl (Nat.le_of_ble_eq_true rfl) dX11_same_2 (wm_inj hi cy _) ?_
  refine v_aload_n C 0 dX11_same_5 rfl rfl ?_
  refine n_getI C fl_210 dX11_same_6 ?_
  refine v_if_lt C 22 dX11_same_9 (by decide) (fun c1 => ?_) (fun c1 => ?_)
  · rw [if_pos c1] at h
    refine v_aload_n C 0 dX11_same_22 rfl rfl ?_
    refine v_aload_n C 0 dX11_same_23 rfl rfl ?_
    refine n_getI C fl_382 dX11_same_24 ?_
    refine v_aload_n C 0 dX11_same_27 rfl rfl ?_
    refine n_getI C fl_385 dX11_same_28 ?_
    obtain ⟨q2, hq2, h⟩ := bd_of h
    refine vm_call C [.int (q1.2.1 59), .int (q1.2.1 60)] [] (c_isSame hi _ _ _ hq2) hY_isSame ml_258 ⟨Nat.le_of_ble_eq_true rfl, Nat.le_of_ble_eq_true rfl⟩ ⟨Nat.zero_le _, Nat.zero_le _⟩ rfl rfl (Nat.le_of_ble_eq_true rfl) dX11_same_31 (wm_inj hi cy _) ?_
    refine v_if_eq C 41 dX11_same_34 (by decide) (fun c2 => ?_) (fun c2 => ?_)
    · rw [if_pos c2] at h
      refine v_iconst C 0 dX11_same_41 (by decide) ?_
      exact v_sub [0] rfl ((b_same_42 C hi) _ _ h)
    · rw [if_neg c2] at h
      refine v_iconst C 1 dX11_same_37 (by decide) ?_
      refine v_goto C 42 dX11_same_38 (by decide) ?_
      exact v_sub [0] rfl ((b_same_42 C hi) _ _ h)
  · rw [if_neg c1] at h
    refine v_bipush C (-10) dX11_same_12 (by decide) ?_
    refine v_aload_n C 0 dX11_same_14 rfl rfl ?_
    refine n_getI C fl_210 dX11_same_15 ?_
    refine v_isub C dX11_same_18 ?_
    refine v_goto C 42 dX11_same_19 (by decide) ?_
    exact v_sub [0] rfl ((b_same_42 C hi) _ _ h)
set_option maxHeartbeats 4000000 in
set_option maxRecDepth 20000 in
theorem b_notes_66 {p : Program} {l : Launch} {e : Env} {s : State} {m : MethodId} {args : Array Value} {below : List Frame} {meth : Method} {c : Code} {D : va_G} {cy : Nat → ClassId} {ad : Nat → Nat} {q : Int32 × MS} (C : vC p s m args meth c cX11_notes 3 none RX11 D (cyT cy)) (hi : ∀ i j, i < 34 → j < 34 → ad i = ad j → i = j) : ∀ (x1 : Int32) (x2 : Int32) (σ : MS), B_notes_66 x1 x2 σ = some q → V p l e { frames := 1, cells := 0, slots := 0, locals := 25 } s m args below meth c D (inAd ad) 3 (MQ below (vQ D (inAd ad) none (wm cy ad q.2)) args s 0 0 (inAd ad)) 0 0 (wm cy ad σ) 66 [(0, .ref (ad 0)), (1, .int x1), (2, .int x2)] [] := by
  intro x1 x2 σ h
  rw [B_notes_66] at h
  refine v_aload_n C 0 dX11_notes_66 rfl rfl ?_
  refine n_getR C fl_23 dX11_notes_67 ?_
  refine v_aload_n C 0 dX11_notes_70 rfl rfl ?_
  refine n_getI C fl_407 dX11_notes_71 ?_
  refine v_iload_n C 1 dX11_notes_74 rfl rfl ?_
  obtain ⟨g1, h⟩ := gd_of h
  refine vm_iast C 5 iI_5 (ix_in g1) dX11_notes_75 ?_
  refine v_aload_n C 0 dX11_notes_76 rfl rfl ?_
  refine n_getR C fl_26 dX11_notes_77 ?_
  refine v_aload_n C 0 dX11_notes_80 rfl rfl ?_
  refine n_getI C fl_407 dX11_notes_81 ?_
  refine v_iload_n C 2 dX11_notes_84 rfl rfl ?_
  obtain ⟨g2, h⟩ := gd_of h
  refine vm_iast C 6 iI_6 (ix_in g2) dX11_notes_85 ?_
  refine v_aload_n C 0 dX11_notes_86 rfl rfl ?_
  refine n_getR C fl_7 dX11_notes_87 ?_
  refine v_sipush C 357 dX11_notes_90 (by decide) ?_
  refine v_bipush C 102 dX11_notes_93 (by decide) ?_
  refine v_iload_n C 2 dX11_notes_95 rfl rfl ?_
  refine v_imul C dX11_notes_96 ?_
  refine v_iadd C dX11_notes_97 ?_
  refine v_aload_n C 0 dX11_notes_98 rfl rfl ?_
  refine n_getR C fl_29 dX11_notes_99 ?_
  refine v_bipush C 102 dX11_notes_102 (by decide) ?_
  refine v_aload_n C 0 dX11_notes_104 rfl rfl ?_
  refine n_getI C fl_407 dX11_notes_105 ?_
  refine v_imul C dX11_notes_108 ?_
  refine v_bipush C 102 dX11_notes_109 (by decide) ?_
  obtain ⟨q1, hq1, h⟩ := bd_of h
  refine vm_callS C [.ref (ad 1), .int (357 + (102 * x2)), .ref (ad 7), .int (102 * ((setA (setA σ 5 ((σ.1 15) : Int32).toNatClampNeg x1) 6 (((setA σ 5 ((σ.1 15) : Int32).toNatClampNeg x1).1 15) : Int32).toNatClampNeg x2).1 15)), .int 102] [] (c_bring hi iI_1 iI_7 _ _ _ _ hq1) hY_bring ml_147 ⟨Nat.le_of_ble_eq_true rfl, Nat.le_of_ble_eq_true rfl⟩ ⟨Nat.zero_le _, Nat.zero_le _⟩ rfl rfl (Nat.le_of_ble_eq_true rfl) dX11_notes_111 (wm_inj hi cy _) ?_
  refine v_aload_n C 0 dX11_notes_114 rfl rfl ?_
  refine v_dup C dX11_notes_115 rfl ?_
  refine n_getI C fl_407 dX11_notes_116 ?_
  refine v_iconst C 1 dX11_notes_119 (by decide) ?_
  refine v_iadd C dX11_notes_120 ?_
  refine n_putI C fl_407 dX11_notes_121 ?_
  obtain rfl := Option.some.inj h
  exact v_vret C dX11_notes_124
set_option maxHeartbeats 4000000 in
set_option maxRecDepth 20000 in
theorem c_notes {l : Launch} {D : va_G} {cy : Nat → ClassId} {ad : Nat → Nat} {q : Int32 × MS} (hi : ∀ i j, i < 34 → j < 34 → ad i = ad j → i = j) (x1 : Int32) (x2 : Int32) (σ : MS) (h : f_notes x1 x2 σ = some q) : MV l D (cyT cy) (inAd ad) yX11_notes cX11_notes 3 none 1 25 0 0 [.ref (ad 0), .int x1, .int x2] (wm cy ad σ) none (wm cy ad q.2) := by
  refine MV.of (by decide) (wm_inj hi cy σ) (Nat.le_of_ble_eq_true rfl) [(0, .ref (ad 0)), (1, .int x1), (2, .int x2)] rfl ?_
  intro p e s m args below meth c C
  rw [f_notes] at h
  refine v_aload_n C 0 dX11_notes_0 rfl rfl ?_
  refine n_getI C fl_407 dX11_notes_1 ?_
  refine v_bipush C 8 dX11_notes_4 (by decide) ?_
  refine v_icmp_ne C 66 dX11_notes_6 (by decide) (fun c1 => ?_) (fun c1 => ?_)
  · rw [if_neg c1] at h
    exact v_sub [0, 1, 2] rfl ((b_notes_66 C hi) _ _ _ h)
  · rw [if_pos c1] at h
    refine v_aload_n C 0 dX11_notes_9 rfl rfl ?_
    refine n_getR C fl_23 dX11_notes_10 ?_
    refine v_iconst C 1 dX11_notes_13 (by decide) ?_
    refine v_aload_n C 0 dX11_notes_14 rfl rfl ?_
    refine n_getR C fl_23 dX11_notes_15 ?_
    refine v_iconst C 0 dX11_notes_18 (by decide) ?_
    refine v_bipush C 7 dX11_notes_19 (by decide) ?_
    obtain ⟨q1, hq1, h⟩ := bd_of h
    refine vm_callS C [.ref (ad 5), .int 1, .ref (ad 5), .int 0, .int 7] [] (c_bring hi iI_5 iI_5 _ _ _ _ hq1) hY_bring ml_147 ⟨Nat.le_of_ble_eq_true rfl, Nat.le_of_ble_eq_true rfl⟩ ⟨Nat.zero_le _, Nat.zero_le _⟩ rfl rfl (Nat.le_of_ble_eq_true rfl) dX11_notes_21 (wm_inj hi cy _) ?_
    refine v_aload_n C 0 dX11_notes_24 rfl rfl ?_
    refine n_getR C fl_26 dX11_notes_25 ?_
    refine v_iconst C 1 dX11_notes_28 (by decide) ?_
    refine v_aload_n C 0 dX11_notes_29 rfl rfl ?_
    refine n_getR C fl_26 dX11_notes_30 ?_
    refine v_iconst C 0 dX11_notes_33 (by decide) ?_
    refine v_bipush C 7 dX11_notes_34 (by decide) ?_
    obtain ⟨q2, hq2, h⟩ := bd_of h
    refine vm_callS C [.ref (ad 6), .int 1, .ref (ad 6), .int 0, .int 7] [] (c_bring hi iI_6 iI_6 _ _ _ _ hq2) hY_bring ml_147 ⟨Nat.le_of_ble_eq_true rfl, Nat.le_of_ble_eq_true rfl⟩ ⟨Nat.zero_le _, Nat.zero_le _⟩ rfl rfl (Nat.le_of_ble_eq_true rfl) dX11_notes_36 (wm_inj hi cy _) ?_
    refine v_aload_n C 0 dX11_notes_39 rfl rfl ?_
    refine n_getR C fl_29 dX11_notes_40 ?_
    refine v_bipush C 102 dX11_notes_43 (by decide) ?_
    refine v_aload_n C 0 dX11_notes_45 rfl rfl ?_
    refine n_getR C fl_29 dX11_notes_46 ?_
    refine v_iconst C 0 dX11_notes_49 (by decide) ?_
    refine v_sipush C 714 dX11_notes_50 (by decide) ?_
    obtain ⟨q3, hq3, h⟩ := bd_of h
    refine vm_callS C [.ref (ad 7), .int 102, .ref (ad 7), .int 0, .int 714] [] (c_bring hi iI_7 iI_7 _ _ _ _ hq3) hY_bring ml_147 ⟨Nat.le_of_ble_eq_true rfl, Nat.le_of_ble_eq_true rfl⟩ ⟨Nat.zero_le _, Nat.zero_le _⟩ rfl rfl (Nat.le_of_ble_eq_true rfl) dX11_notes_53 (wm_inj hi cy _) ?_
    refine v_aload_n C 0 dX11_notes_56 rfl rfl ?_
    refine v_dup C dX11_notes_57 rfl ?_
    refine n_getI C fl_407 dX11_notes_58 ?_
    refine v_iconst C 1 dX11_notes_61 (by decide) ?_
    refine v_isub C dX11_notes_62 ?_
    refine n_putI C fl_407 dX11_notes_63 ?_
    exact v_sub [0, 1, 2] rfl ((b_notes_66 C hi) _ _ _ h)
set_option maxHeartbeats 4000000 in
set_option maxRecDepth 20000 in
theorem c_isEntry {l : Launch} {D : va_G} {cy : Nat → ClassId} {ad : Nat → Nat} {q : Int32 × MS} (hi : ∀ i j, i < 34 → j < 34 → ad i = ad j → i = j) (x1 : Int32) (σ : MS) (h : f_isEntry x1 σ = some q) : MV l D (cyT cy) (inAd ad) yX11_isEntry cX11_isEntry 2 (some .boolean) 1 22 0 0 [.ref (ad 0), .int x1] (wm cy ad σ) (some (.int q.1)) (wm cy ad q.2) := by
  refine MV.of (by decide) (wm_inj hi cy σ) (Nat.le_of_ble_eq_true rfl) [(0, .ref (ad 0)), (1, .int x1)] rfl ?_
  intro p e s m args below meth c C
  rw [f_isEntry] at h
  refine v_iload_n C 1 dX11_isEntry_0 rfl rfl ?_
  refine v_iconst C 0 dX11_isEntry_1 (by decide) ?_
  refine v_aload_n C 0 dX11_isEntry_2 rfl rfl ?_
  refine n_getI C fl_364 dX11_isEntry_3 ?_
  refine v_iconst C 1 dX11_isEntry_6 (by decide) ?_
  refine v_isub C dX11_isEntry_7 ?_
  obtain ⟨q1, hq1, h⟩ := bd_of h
  refine vm_callS C [.int x1, .int 0, .int ((σ.1 8) - 1)] [] (c_in hi _ _ _ _ hq1) hY_in ml_297 ⟨Nat.le_of_ble_eq_true rfl, Nat.le_of_ble_eq_true rfl⟩ ⟨Nat.zero_le _, Nat.zero_le _⟩ rfl rfl (Nat.le_of_ble_eq_true rfl) dX11_isEntry_8 (wm_inj hi cy _) ?_
  obtain ⟨g1, h⟩ := gd_of h
  obtain rfl := Option.some.inj h
  exact v_zret C (bzb_in g1) dX11_isEntry_11
