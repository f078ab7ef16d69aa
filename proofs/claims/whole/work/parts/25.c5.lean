theorem dX4_readEnd_0 : decode cX4_readEnd 0 = .ok (.aload_n 0, 1) := by decide +kernel
theorem dX4_readEnd_1 : decode cX4_readEnd 1 = .ok (.getfield 41, 3) := by decide +kernel
theorem dX4_readEnd_4 : decode cX4_readEnd 4 = .ok (.aload_n 0, 1) := by decide +kernel
theorem dX4_readEnd_5 : decode cX4_readEnd 5 = .ok (.getfield 37, 3) := by decide +kernel
theorem dX4_readEnd_8 : decode cX4_readEnd 8 = .ok (.if_icmp .ge 14, 3) := by decide +kernel
theorem dX4_readEnd_11 : decode cX4_readEnd 11 = .ok (.aload_n 0, 1) := by decide +kernel
theorem dX4_readEnd_12 : decode cX4_readEnd 12 = .ok (.aload_n 0, 1) := by decide +kernel
theorem dX4_readEnd_13 : decode cX4_readEnd 13 = .ok (.getfield 41, 3) := by decide +kernel
theorem dX4_readEnd_16 : decode cX4_readEnd 16 = .ok (.invokevirtual 95, 3) := by decide +kernel
theorem dX4_readEnd_19 : decode cX4_readEnd 19 = .ok (.ifCond .eq 7, 3) := by decide +kernel
theorem dX4_readEnd_22 : decode cX4_readEnd 22 = .ok (.iconst 1, 1) := by decide +kernel
theorem dX4_readEnd_23 : decode cX4_readEnd 23 = .ok (.goto 4, 3) := by decide +kernel
theorem dX4_readEnd_26 : decode cX4_readEnd 26 = .ok (.iconst 0, 1) := by decide +kernel
theorem dX4_readEnd_27 : decode cX4_readEnd 27 = .ok (.ireturn, 1) := by decide +kernel
theorem dX4_readGiven_0 : decode cX4_readGiven 0 = .ok (.aload_n 0, 1) := by decide +kernel
theorem dX4_readGiven_1 : decode cX4_readGiven 1 = .ok (.aload_n 0, 1) := by decide +kernel
theorem dX4_readGiven_2 : decode cX4_readGiven 2 = .ok (.iconst 0, 1) := by decide +kernel
theorem dX4_readGiven_3 : decode cX4_readGiven 3 = .ok (.invokevirtual 59, 3) := by decide +kernel
theorem dX4_readGiven_6 : decode cX4_readGiven 6 = .ok (.putfield 63, 3) := by decide +kernel
theorem dX4_readGiven_9 : decode cX4_readGiven 9 = .ok (.aload_n 0, 1) := by decide +kernel
theorem dX4_readGiven_10 : decode cX4_readGiven 10 = .ok (.getfield 63, 3) := by decide +kernel
theorem dX4_readGiven_13 : decode cX4_readGiven 13 = .ok (.iconst (-1), 1) := by decide +kernel
theorem dX4_readGiven_14 : decode cX4_readGiven 14 = .ok (.if_icmp .ne 5, 3) := by decide +kernel
theorem dX4_readGiven_17 : decode cX4_readGiven 17 = .ok (.iconst 0, 1) := by decide +kernel
theorem dX4_readGiven_18 : decode cX4_readGiven 18 = .ok (.ireturn, 1) := by decide +kernel
theorem dX4_readGiven_19 : decode cX4_readGiven 19 = .ok (.aload_n 0, 1) := by decide +kernel
theorem dX4_readGiven_20 : decode cX4_readGiven 20 = .ok (.aload_n 0, 1) := by decide +kernel
theorem dX4_readGiven_21 : decode cX4_readGiven 21 = .ok (.aload_n 0, 1) := by decide +kernel
theorem dX4_readGiven_22 : decode cX4_readGiven 22 = .ok (.getfield 29, 3) := by decide +kernel
theorem dX4_readGiven_25 : decode cX4_readGiven 25 = .ok (.aload_n 0, 1) := by decide +kernel
theorem dX4_readGiven_26 : decode cX4_readGiven 26 = .ok (.getfield 63, 3) := by decide +kernel
theorem dX4_readGiven_29 : decode cX4_readGiven 29 = .ok (.iconst 0, 1) := by decide +kernel
theorem dX4_readGiven_30 : decode cX4_readGiven 30 = .ok (.invokevirtual 66, 3) := by decide +kernel
theorem dX4_readGiven_33 : decode cX4_readGiven 33 = .ok (.iconst 0, 1) := by decide +kernel
theorem dX4_readGiven_34 : decode cX4_readGiven 34 = .ok (.invokevirtual 70, 3) := by decide +kernel
theorem dX4_readGiven_37 : decode cX4_readGiven 37 = .ok (.putfield 73, 3) := by decide +kernel
theorem dX4_readGiven_40 : decode cX4_readGiven 40 = .ok (.aload_n 0, 1) := by decide +kernel
theorem dX4_readGiven_41 : decode cX4_readGiven 41 = .ok (.getfield 73, 3) := by decide +kernel
theorem dX4_readGiven_44 : decode cX4_readGiven 44 = .ok (.iconst (-1), 1) := by decide +kernel
theorem dX4_readGiven_45 : decode cX4_readGiven 45 = .ok (.if_icmp .eq 14, 3) := by decide +kernel
theorem dX4_readGiven_48 : decode cX4_readGiven 48 = .ok (.aload_n 0, 1) := by decide +kernel
theorem dX4_readGiven_49 : decode cX4_readGiven 49 = .ok (.invokevirtual 76, 3) := by decide +kernel
theorem dX4_readGiven_52 : decode cX4_readGiven 52 = .ok (.ifCond .eq 7, 3) := by decide +kernel
theorem dX4_readGiven_55 : decode cX4_readGiven 55 = .ok (.iconst 1, 1) := by decide +kernel
theorem dX4_readGiven_56 : decode cX4_readGiven 56 = .ok (.goto 4, 3) := by decide +kernel
theorem dX4_readGiven_59 : decode cX4_readGiven 59 = .ok (.iconst 0, 1) := by decide +kernel
theorem dX4_readGiven_60 : decode cX4_readGiven 60 = .ok (.ireturn, 1) := by decide +kernel
theorem dX4_readTwo_0 : decode cX4_readTwo 0 = .ok (.aload_n 0, 1) := by decide +kernel
theorem dX4_readTwo_1 : decode cX4_readTwo 1 = .ok (.aload_n 0, 1) := by decide +kernel
theorem dX4_readTwo_2 : decode cX4_readTwo 2 = .ok (.iconst 0, 1) := by decide +kernel
theorem dX4_readTwo_3 : decode cX4_readTwo 3 = .ok (.invokevirtual 59, 3) := by decide +kernel
theorem dX4_readTwo_6 : decode cX4_readTwo 6 = .ok (.putfield 63, 3) := by decide +kernel
theorem dX4_readTwo_9 : decode cX4_readTwo 9 = .ok (.aload_n 0, 1) := by decide +kernel
theorem dX4_readTwo_10 : decode cX4_readTwo 10 = .ok (.getfield 63, 3) := by decide +kernel
theorem dX4_readTwo_13 : decode cX4_readTwo 13 = .ok (.iconst (-1), 1) := by decide +kernel
theorem dX4_readTwo_14 : decode cX4_readTwo 14 = .ok (.if_icmp .ne 5, 3) := by decide +kernel
theorem dX4_readTwo_17 : decode cX4_readTwo 17 = .ok (.iconst 0, 1) := by decide +kernel
theorem dX4_readTwo_18 : decode cX4_readTwo 18 = .ok (.ireturn, 1) := by decide +kernel
theorem dX4_readTwo_19 : decode cX4_readTwo 19 = .ok (.aload_n 0, 1) := by decide +kernel
theorem dX4_readTwo_20 : decode cX4_readTwo 20 = .ok (.aload_n 0, 1) := by decide +kernel
theorem dX4_readTwo_21 : decode cX4_readTwo 21 = .ok (.aload_n 0, 1) := by decide +kernel
theorem dX4_readTwo_22 : decode cX4_readTwo 22 = .ok (.getfield 29, 3) := by decide +kernel
theorem dX4_readTwo_25 : decode cX4_readTwo 25 = .ok (.aload_n 0, 1) := by decide +kernel
theorem dX4_readTwo_26 : decode cX4_readTwo 26 = .ok (.getfield 63, 3) := by decide +kernel
theorem dX4_readTwo_29 : decode cX4_readTwo 29 = .ok (.iconst 0, 1) := by decide +kernel
theorem dX4_readTwo_30 : decode cX4_readTwo 30 = .ok (.invokevirtual 66, 3) := by decide +kernel
theorem dX4_readTwo_33 : decode cX4_readTwo 33 = .ok (.iconst 0, 1) := by decide +kernel
theorem dX4_readTwo_34 : decode cX4_readTwo 34 = .ok (.invokevirtual 70, 3) := by decide +kernel
theorem dX4_readTwo_37 : decode cX4_readTwo 37 = .ok (.putfield 73, 3) := by decide +kernel
theorem dX4_readTwo_40 : decode cX4_readTwo 40 = .ok (.aload_n 0, 1) := by decide +kernel
theorem dX4_readTwo_41 : decode cX4_readTwo 41 = .ok (.getfield 73, 3) := by decide +kernel
theorem dX4_readTwo_44 : decode cX4_readTwo 44 = .ok (.iconst (-1), 1) := by decide +kernel
theorem dX4_readTwo_45 : decode cX4_readTwo 45 = .ok (.if_icmp .ne 5, 3) := by decide +kernel
theorem dX4_readTwo_48 : decode cX4_readTwo 48 = .ok (.iconst 0, 1) := by decide +kernel
theorem dX4_readTwo_49 : decode cX4_readTwo 49 = .ok (.ireturn, 1) := by decide +kernel
theorem dX4_readTwo_50 : decode cX4_readTwo 50 = .ok (.aload_n 0, 1) := by decide +kernel
theorem dX4_readTwo_51 : decode cX4_readTwo 51 = .ok (.aload_n 0, 1) := by decide +kernel
theorem dX4_readTwo_52 : decode cX4_readTwo 52 = .ok (.aload_n 0, 1) := by decide +kernel
theorem dX4_readTwo_53 : decode cX4_readTwo 53 = .ok (.getfield 29, 3) := by decide +kernel
theorem dX4_readTwo_56 : decode cX4_readTwo 56 = .ok (.aload_n 0, 1) := by decide +kernel
theorem dX4_readTwo_57 : decode cX4_readTwo 57 = .ok (.getfield 63, 3) := by decide +kernel
theorem dX4_readTwo_60 : decode cX4_readTwo 60 = .ok (.iconst 0, 1) := by decide +kernel
theorem dX4_readTwo_61 : decode cX4_readTwo 61 = .ok (.invokevirtual 66, 3) := by decide +kernel
theorem dX4_readTwo_64 : decode cX4_readTwo 64 = .ok (.iconst 0, 1) := by decide +kernel
theorem dX4_readTwo_65 : decode cX4_readTwo 65 = .ok (.invokevirtual 70, 3) := by decide +kernel
theorem dX4_readTwo_68 : decode cX4_readTwo 68 = .ok (.putfield 80, 3) := by decide +kernel
theorem dX4_readTwo_71 : decode cX4_readTwo 71 = .ok (.aload_n 0, 1) := by decide +kernel
theorem dX4_readTwo_72 : decode cX4_readTwo 72 = .ok (.getfield 80, 3) := by decide +kernel
theorem dX4_readTwo_75 : decode cX4_readTwo 75 = .ok (.iconst (-1), 1) := by decide +kernel
theorem dX4_readTwo_76 : decode cX4_readTwo 76 = .ok (.if_icmp .eq 14, 3) := by decide +kernel
theorem dX4_readTwo_79 : decode cX4_readTwo 79 = .ok (.aload_n 0, 1) := by decide +kernel
theorem dX4_readTwo_80 : decode cX4_readTwo 80 = .ok (.invokevirtual 76, 3) := by decide +kernel
theorem dX4_readTwo_83 : decode cX4_readTwo 83 = .ok (.ifCond .eq 7, 3) := by decide +kernel
theorem dX4_readTwo_86 : decode cX4_readTwo 86 = .ok (.iconst 1, 1) := by decide +kernel
theorem dX4_readTwo_87 : decode cX4_readTwo 87 = .ok (.goto 4, 3) := by decide +kernel
theorem dX4_readTwo_90 : decode cX4_readTwo 90 = .ok (.iconst 0, 1) := by decide +kernel
theorem dX4_readTwo_91 : decode cX4_readTwo 91 = .ok (.ireturn, 1) := by decide +kernel
theorem dX4_readInferred_0 : decode cX4_readInferred 0 = .ok (.aload_n 0, 1) := by decide +kernel
theorem dX4_readInferred_1 : decode cX4_readInferred 1 = .ok (.aload_n 0, 1) := by decide +kernel
theorem dX4_readInferred_2 : decode cX4_readInferred 2 = .ok (.iconst 0, 1) := by decide +kernel
theorem dX4_readInferred_3 : decode cX4_readInferred 3 = .ok (.invokevirtual 83, 3) := by decide +kernel
theorem dX4_readInferred_6 : decode cX4_readInferred 6 = .ok (.putfield 73, 3) := by decide +kernel
theorem dX4_readInferred_9 : decode cX4_readInferred 9 = .ok (.aload_n 0, 1) := by decide +kernel
theorem dX4_readInferred_10 : decode cX4_readInferred 10 = .ok (.getfield 73, 3) := by decide +kernel
theorem dX4_readInferred_13 : decode cX4_readInferred 13 = .ok (.iconst (-1), 1) := by decide +kernel
theorem dX4_readInferred_14 : decode cX4_readInferred 14 = .ok (.if_icmp .eq 14, 3) := by decide +kernel
theorem dX4_readInferred_17 : decode cX4_readInferred 17 = .ok (.aload_n 0, 1) := by decide +kernel
theorem dX4_readInferred_18 : decode cX4_readInferred 18 = .ok (.invokevirtual 76, 3) := by decide +kernel
theorem dX4_readInferred_21 : decode cX4_readInferred 21 = .ok (.ifCond .eq 7, 3) := by decide +kernel
theorem dX4_readInferred_24 : decode cX4_readInferred 24 = .ok (.iconst 1, 1) := by decide +kernel
theorem dX4_readInferred_25 : decode cX4_readInferred 25 = .ok (.goto 4, 3) := by decide +kernel
theorem dX4_readInferred_28 : decode cX4_readInferred 28 = .ok (.iconst 0, 1) := by decide +kernel
theorem dX4_readInferred_29 : decode cX4_readInferred 29 = .ok (.ireturn, 1) := by decide +kernel
theorem dX4_hasMore_0 : decode cX4_hasMore 0 = .ok (.aload_n 0, 1) := by decide +kernel
theorem dX4_hasMore_1 : decode cX4_hasMore 1 = .ok (.getfield 41, 3) := by decide +kernel
theorem dX4_hasMore_4 : decode cX4_hasMore 4 = .ok (.aload_n 0, 1) := by decide +kernel
theorem dX4_hasMore_5 : decode cX4_hasMore 5 = .ok (.getfield 37, 3) := by decide +kernel
theorem dX4_hasMore_8 : decode cX4_hasMore 8 = .ok (.if_icmp .ge 7, 3) := by decide +kernel
theorem dX4_hasMore_11 : decode cX4_hasMore 11 = .ok (.iconst 1, 1) := by decide +kernel
theorem dX4_hasMore_12 : decode cX4_hasMore 12 = .ok (.goto 4, 3) := by decide +kernel
theorem dX4_hasMore_15 : decode cX4_hasMore 15 = .ok (.iconst 0, 1) := by decide +kernel
theorem dX4_hasMore_16 : decode cX4_hasMore 16 = .ok (.ireturn, 1) := by decide +kernel
theorem dX4_readItem_0 : decode cX4_readItem 0 = .ok (.aload_n 0, 1) := by decide +kernel
theorem dX4_readItem_1 : decode cX4_readItem 1 = .ok (.invokevirtual 99, 3) := by decide +kernel
theorem dX4_readItem_4 : decode cX4_readItem 4 = .ok (.bipush 102, 2) := by decide +kernel
theorem dX4_readItem_6 : decode cX4_readItem 6 = .ok (.if_icmp .ne 18, 3) := by decide +kernel
theorem dX4_readItem_9 : decode cX4_readItem 9 = .ok (.aload_n 0, 1) := by decide +kernel
theorem dX4_readItem_10 : decode cX4_readItem 10 = .ok (.getfield 25, 3) := by decide +kernel
theorem dX4_readItem_13 : decode cX4_readItem 13 = .ok (.getfield 103, 3) := by decide +kernel
theorem dX4_readItem_16 : decode cX4_readItem 16 = .ok (.iconst 3, 1) := by decide +kernel
theorem dX4_readItem_17 : decode cX4_readItem 17 = .ok (.if_icmp .ge 7, 3) := by decide +kernel
theorem dX4_readItem_20 : decode cX4_readItem 20 = .ok (.iconst 1, 1) := by decide +kernel
theorem dX4_readItem_21 : decode cX4_readItem 21 = .ok (.goto 4, 3) := by decide +kernel
theorem dX4_readItem_24 : decode cX4_readItem 24 = .ok (.iconst 0, 1) := by decide +kernel
theorem dX4_readItem_25 : decode cX4_readItem 25 = .ok (.istore_n 1, 1) := by decide +kernel
theorem dX4_readItem_26 : decode cX4_readItem 26 = .ok (.aload_n 0, 1) := by decide +kernel
theorem dX4_readItem_27 : decode cX4_readItem 27 = .ok (.invokevirtual 99, 3) := by decide +kernel
theorem dX4_readItem_30 : decode cX4_readItem 30 = .ok (.bipush 107, 2) := by decide +kernel
theorem dX4_readItem_32 : decode cX4_readItem 32 = .ok (.if_icmp .ne 18, 3) := by decide +kernel
theorem dX4_readItem_35 : decode cX4_readItem 35 = .ok (.aload_n 0, 1) := by decide +kernel
theorem dX4_readItem_36 : decode cX4_readItem 36 = .ok (.getfield 25, 3) := by decide +kernel
theorem dX4_readItem_39 : decode cX4_readItem 39 = .ok (.getfield 106, 3) := by decide +kernel
theorem dX4_readItem_42 : decode cX4_readItem 42 = .ok (.iconst 4, 1) := by decide +kernel
theorem dX4_readItem_43 : decode cX4_readItem 43 = .ok (.if_icmp .ge 7, 3) := by decide +kernel
theorem dX4_readItem_46 : decode cX4_readItem 46 = .ok (.iconst 1, 1) := by decide +kernel
theorem dX4_readItem_47 : decode cX4_readItem 47 = .ok (.goto 4, 3) := by decide +kernel
theorem dX4_readItem_50 : decode cX4_readItem 50 = .ok (.iconst 0, 1) := by decide +kernel
theorem dX4_readItem_51 : decode cX4_readItem 51 = .ok (.istore_n 2, 1) := by decide +kernel
theorem dX4_readItem_52 : decode cX4_readItem 52 = .ok (.iload_n 1, 1) := by decide +kernel
theorem dX4_readItem_53 : decode cX4_readItem 53 = .ok (.ifCond .ne 16, 3) := by decide +kernel
theorem dX4_readItem_56 : decode cX4_readItem 56 = .ok (.iload_n 2, 1) := by decide +kernel
theorem dX4_readItem_57 : decode cX4_readItem 57 = .ok (.ifCond .ne 12, 3) := by decide +kernel
theorem dX4_readItem_60 : decode cX4_readItem 60 = .ok (.aload_n 0, 1) := by decide +kernel
theorem dX4_readItem_61 : decode cX4_readItem 61 = .ok (.aload_n 0, 1) := by decide +kernel
theorem dX4_readItem_62 : decode cX4_readItem 62 = .ok (.getfield 41, 3) := by decide +kernel
theorem dX4_readItem_65 : decode cX4_readItem 65 = .ok (.invokevirtual 95, 3) := by decide +kernel
theorem dX4_readItem_68 : decode cX4_readItem 68 = .ok (.ireturn, 1) := by decide +kernel
theorem dX4_readItem_69 : decode cX4_readItem 69 = .ok (.aload_n 0, 1) := by decide +kernel
theorem dX4_readItem_70 : decode cX4_readItem 70 = .ok (.dup, 1) := by decide +kernel
theorem dX4_readItem_71 : decode cX4_readItem 71 = .ok (.getfield 41, 3) := by decide +kernel
theorem dX4_readItem_74 : decode cX4_readItem 74 = .ok (.iconst 1, 1) := by decide +kernel
theorem dX4_readItem_75 : decode cX4_readItem 75 = .ok (.iadd, 1) := by decide +kernel
theorem dX4_readItem_76 : decode cX4_readItem 76 = .ok (.putfield 41, 3) := by decide +kernel
theorem dX4_readItem_79 : decode cX4_readItem 79 = .ok (.aload_n 0, 1) := by decide +kernel
theorem dX4_readItem_80 : decode cX4_readItem 80 = .ok (.getfield 41, 3) := by decide +kernel
theorem dX4_readItem_83 : decode cX4_readItem 83 = .ok (.istore_n 3, 1) := by decide +kernel
theorem dX4_readItem_84 : decode cX4_readItem 84 = .ok (.iload_n 2, 1) := by decide +kernel
theorem dX4_readItem_85 : decode cX4_readItem 85 = .ok (.ifCond .ne 12, 3) := by decide +kernel
theorem dX4_readItem_88 : decode cX4_readItem 88 = .ok (.aload_n 0, 1) := by decide +kernel
theorem dX4_readItem_89 : decode cX4_readItem 89 = .ok (.invokevirtual 99, 3) := by decide +kernel
theorem dX4_readItem_92 : decode cX4_readItem 92 = .ok (.bipush 59, 2) := by decide +kernel
theorem dX4_readItem_94 : decode cX4_readItem 94 = .ok (.if_icmp .eq 7, 3) := by decide +kernel
theorem dX4_readItem_97 : decode cX4_readItem 97 = .ok (.iconst 1, 1) := by decide +kernel
theorem dX4_readItem_98 : decode cX4_readItem 98 = .ok (.goto 4, 3) := by decide +kernel
theorem dX4_readItem_101 : decode cX4_readItem 101 = .ok (.iconst 0, 1) := by decide +kernel
theorem dX4_readItem_102 : decode cX4_readItem 102 = .ok (.istore 4, 2) := by decide +kernel
theorem dX4_readItem_104 : decode cX4_readItem 104 = .ok (.iload 4, 2) := by decide +kernel
theorem dX4_readItem_106 : decode cX4_readItem 106 = .ok (.ifCond .eq 11, 3) := by decide +kernel
theorem dX4_readItem_109 : decode cX4_readItem 109 = .ok (.aload_n 0, 1) := by decide +kernel
theorem dX4_readItem_110 : decode cX4_readItem 110 = .ok (.iconst 0, 1) := by decide +kernel
theorem dX4_readItem_111 : decode cX4_readItem 111 = .ok (.invokevirtual 59, 3) := by decide +kernel
theorem dX4_readItem_114 : decode cX4_readItem 114 = .ok (.goto 4, 3) := by decide +kernel
theorem dX4_readItem_117 : decode cX4_readItem 117 = .ok (.iconst (-1), 1) := by decide +kernel
theorem dX4_readItem_118 : decode cX4_readItem 118 = .ok (.istore 5, 2) := by decide +kernel
theorem dX4_readItem_120 : decode cX4_readItem 120 = .ok (.iload 4, 2) := by decide +kernel
theorem dX4_readItem_122 : decode cX4_readItem 122 = .ok (.ifCond .eq 11, 3) := by decide +kernel
theorem dX4_readItem_125 : decode cX4_readItem 125 = .ok (.iload 5, 2) := by decide +kernel
theorem dX4_readItem_127 : decode cX4_readItem 127 = .ok (.iconst (-1), 1) := by decide +kernel
theorem dX4_readItem_128 : decode cX4_readItem 128 = .ok (.if_icmp .ne 5, 3) := by decide +kernel
theorem dX4_readItem_131 : decode cX4_readItem 131 = .ok (.iconst 0, 1) := by decide +kernel
theorem dX4_readItem_132 : decode cX4_readItem 132 = .ok (.ireturn, 1) := by decide +kernel
theorem dX4_readItem_133 : decode cX4_readItem 133 = .ok (.iload_n 1, 1) := by decide +kernel
theorem dX4_readItem_134 : decode cX4_readItem 134 = .ok (.ifCond .eq 26, 3) := by decide +kernel
theorem dX4_readItem_137 : decode cX4_readItem 137 = .ok (.iload 4, 2) := by decide +kernel
theorem dX4_readItem_139 : decode cX4_readItem 139 = .ok (.ifCond .eq 21, 3) := by decide +kernel
theorem dX4_readItem_142 : decode cX4_readItem 142 = .ok (.aload_n 0, 1) := by decide +kernel
theorem dX4_readItem_143 : decode cX4_readItem 143 = .ok (.getfield 25, 3) := by decide +kernel
theorem dX4_readItem_146 : decode cX4_readItem 146 = .ok (.iload 5, 2) := by decide +kernel
theorem dX4_readItem_148 : decode cX4_readItem 148 = .ok (.invokevirtual 109, 3) := by decide +kernel
theorem dX4_readItem_151 : decode cX4_readItem 151 = .ok (.ifCond .ne 9, 3) := by decide +kernel
theorem dX4_readItem_154 : decode cX4_readItem 154 = .ok (.aload_n 0, 1) := by decide +kernel
theorem dX4_readItem_155 : decode cX4_readItem 155 = .ok (.iload_n 3, 1) := by decide +kernel
theorem dX4_readItem_156 : decode cX4_readItem 156 = .ok (.invokevirtual 95, 3) := by decide +kernel
theorem dX4_readItem_159 : decode cX4_readItem 159 = .ok (.ireturn, 1) := by decide +kernel
theorem dX4_readItem_160 : decode cX4_readItem 160 = .ok (.aload_n 0, 1) := by decide +kernel
theorem dX4_readItem_161 : decode cX4_readItem 161 = .ok (.invokevirtual 99, 3) := by decide +kernel
theorem dX4_readItem_164 : decode cX4_readItem 164 = .ok (.bipush 59, 2) := by decide +kernel
theorem dX4_readItem_166 : decode cX4_readItem 166 = .ok (.if_icmp .eq 12, 3) := by decide +kernel
theorem dX4_readItem_169 : decode cX4_readItem 169 = .ok (.aload_n 0, 1) := by decide +kernel
theorem dX4_readItem_170 : decode cX4_readItem 170 = .ok (.aload_n 0, 1) := by decide +kernel
theorem dX4_readItem_171 : decode cX4_readItem 171 = .ok (.getfield 41, 3) := by decide +kernel
theorem dX4_readItem_174 : decode cX4_readItem 174 = .ok (.invokevirtual 95, 3) := by decide +kernel
theorem dX4_readItem_177 : decode cX4_readItem 177 = .ok (.ireturn, 1) := by decide +kernel
theorem dX4_readItem_178 : decode cX4_readItem 178 = .ok (.aload_n 0, 1) := by decide +kernel
theorem dX4_readItem_179 : decode cX4_readItem 179 = .ok (.dup, 1) := by decide +kernel
theorem dX4_readItem_180 : decode cX4_readItem 180 = .ok (.getfield 41, 3) := by decide +kernel
theorem dX4_readItem_183 : decode cX4_readItem 183 = .ok (.iconst 1, 1) := by decide +kernel
theorem dX4_readItem_184 : decode cX4_readItem 184 = .ok (.iadd, 1) := by decide +kernel
theorem dX4_readItem_185 : decode cX4_readItem 185 = .ok (.putfield 41, 3) := by decide +kernel
theorem dX4_readItem_188 : decode cX4_readItem 188 = .ok (.iload_n 1, 1) := by decide +kernel
theorem dX4_readItem_189 : decode cX4_readItem 189 = .ok (.ifCond .eq 15, 3) := by decide +kernel
theorem dX4_readItem_192 : decode cX4_readItem 192 = .ok (.aload_n 0, 1) := by decide +kernel
theorem dX4_readItem_193 : decode cX4_readItem 193 = .ok (.getfield 25, 3) := by decide +kernel
theorem dX4_readItem_196 : decode cX4_readItem 196 = .ok (.iload 5, 2) := by decide +kernel
theorem dX4_readItem_198 : decode cX4_readItem 198 = .ok (.invokevirtual 112, 3) := by decide +kernel
theorem dX4_readItem_201 : decode cX4_readItem 201 = .ok (.goto 12, 3) := by decide +kernel
theorem dX4_readItem_204 : decode cX4_readItem 204 = .ok (.aload_n 0, 1) := by decide +kernel
theorem dX4_readItem_205 : decode cX4_readItem 205 = .ok (.getfield 25, 3) := by decide +kernel
theorem dX4_readItem_208 : decode cX4_readItem 208 = .ok (.iload 5, 2) := by decide +kernel
theorem dX4_readItem_210 : decode cX4_readItem 210 = .ok (.invokevirtual 115, 3) := by decide +kernel
theorem dX4_readItem_213 : decode cX4_readItem 213 = .ok (.iconst 1, 1) := by decide +kernel
theorem dX4_readItem_214 : decode cX4_readItem 214 = .ok (.ireturn, 1) := by decide +kernel
theorem dX5_add_0 : decode cX5_add 0 = .ok (.aload_n 0, 1) := by decide +kernel
theorem dX5_add_1 : decode cX5_add 1 = .ok (.getfield 17, 3) := by decide +kernel
theorem dX5_add_4 : decode cX5_add 4 = .ok (.bipush 6, 2) := by decide +kernel
theorem dX5_add_6 : decode cX5_add 6 = .ok (.if_icmp .ge 23, 3) := by decide +kernel
theorem dX5_add_9 : decode cX5_add 9 = .ok (.aload_n 0, 1) := by decide +kernel
theorem dX5_add_10 : decode cX5_add 10 = .ok (.getfield 11, 3) := by decide +kernel
theorem dX5_add_13 : decode cX5_add 13 = .ok (.aload_n 0, 1) := by decide +kernel
theorem dX5_add_14 : decode cX5_add 14 = .ok (.getfield 17, 3) := by decide +kernel
theorem dX5_add_17 : decode cX5_add 17 = .ok (.aload_n 1, 1) := by decide +kernel
theorem dX5_add_18 : decode cX5_add 18 = .ok (.aastore, 1) := by decide +kernel
theorem dX5_add_19 : decode cX5_add 19 = .ok (.aload_n 0, 1) := by decide +kernel
theorem dX5_add_20 : decode cX5_add 20 = .ok (.dup, 1) := by decide +kernel
theorem dX5_add_21 : decode cX5_add 21 = .ok (.getfield 17, 3) := by decide +kernel
theorem dX5_add_24 : decode cX5_add 24 = .ok (.iconst 1, 1) := by decide +kernel
theorem dX5_add_25 : decode cX5_add 25 = .ok (.iadd, 1) := by decide +kernel
theorem dX5_add_26 : decode cX5_add 26 = .ok (.putfield 17, 3) := by decide +kernel
theorem dX5_add_29 : decode cX5_add 29 = .ok (.return_, 1) := by decide +kernel
theorem dX5_remove_0 : decode cX5_remove 0 = .ok (.iload_n 1, 1) := by decide +kernel
theorem dX5_remove_1 : decode cX5_remove 1 = .ok (.ifCond .lt 11, 3) := by decide +kernel
theorem dX5_remove_4 : decode cX5_remove 4 = .ok (.iload_n 1, 1) := by decide +kernel
theorem dX5_remove_5 : decode cX5_remove 5 = .ok (.aload_n 0, 1) := by decide +kernel
theorem dX5_remove_6 : decode cX5_remove 6 = .ok (.getfield 17, 3) := by decide +kernel
theorem dX5_remove_9 : decode cX5_remove 9 = .ok (.if_icmp .lt 4, 3) := by decide +kernel
theorem dX5_remove_12 : decode cX5_remove 12 = .ok (.return_, 1) := by decide +kernel
theorem dX5_remove_13 : decode cX5_remove 13 = .ok (.aload_n 0, 1) := by decide +kernel
theorem dX5_remove_14 : decode cX5_remove 14 = .ok (.dup, 1) := by decide +kernel
theorem dX5_remove_15 : decode cX5_remove 15 = .ok (.getfield 17, 3) := by decide +kernel
theorem dX5_remove_18 : decode cX5_remove 18 = .ok (.iconst 1, 1) := by decide +kernel
theorem dX5_remove_19 : decode cX5_remove 19 = .ok (.isub, 1) := by decide +kernel
theorem dX5_remove_20 : decode cX5_remove 20 = .ok (.putfield 17, 3) := by decide +kernel
theorem dX5_remove_23 : decode cX5_remove 23 = .ok (.iload_n 1, 1) := by decide +kernel
theorem dX5_remove_24 : decode cX5_remove 24 = .ok (.istore_n 2, 1) := by decide +kernel
theorem dX5_remove_25 : decode cX5_remove 25 = .ok (.iload_n 2, 1) := by decide +kernel
theorem dX5_remove_26 : decode cX5_remove 26 = .ok (.aload_n 0, 1) := by decide +kernel
theorem dX5_remove_27 : decode cX5_remove 27 = .ok (.getfield 17, 3) := by decide +kernel
theorem dX5_remove_30 : decode cX5_remove 30 = .ok (.if_icmp .ge 31, 3) := by decide +kernel
theorem dX5_remove_33 : decode cX5_remove 33 = .ok (.iload_n 2, 1) := by decide +kernel
theorem dX5_remove_34 : decode cX5_remove 34 = .ok (.iconst 1, 1) := by decide +kernel
theorem dX5_remove_35 : decode cX5_remove 35 = .ok (.iadd, 1) := by decide +kernel
theorem dX5_remove_36 : decode cX5_remove 36 = .ok (.bipush 6, 2) := by decide +kernel
theorem dX5_remove_38 : decode cX5_remove 38 = .ok (.if_icmp .ge 23, 3) := by decide +kernel
theorem dX5_remove_41 : decode cX5_remove 41 = .ok (.aload_n 0, 1) := by decide +kernel
theorem dX5_remove_42 : decode cX5_remove 42 = .ok (.getfield 11, 3) := by decide +kernel
theorem dX5_remove_45 : decode cX5_remove 45 = .ok (.iload_n 2, 1) := by decide +kernel
theorem dX5_remove_46 : decode cX5_remove 46 = .ok (.aload_n 0, 1) := by decide +kernel
theorem dX5_remove_47 : decode cX5_remove 47 = .ok (.getfield 11, 3) := by decide +kernel
theorem dX5_remove_50 : decode cX5_remove 50 = .ok (.iload_n 2, 1) := by decide +kernel
theorem dX5_remove_51 : decode cX5_remove 51 = .ok (.iconst 1, 1) := by decide +kernel
theorem dX5_remove_52 : decode cX5_remove 52 = .ok (.iadd, 1) := by decide +kernel
theorem dX5_remove_53 : decode cX5_remove 53 = .ok (.aaload, 1) := by decide +kernel
theorem dX5_remove_54 : decode cX5_remove 54 = .ok (.aastore, 1) := by decide +kernel
theorem dX5_remove_55 : decode cX5_remove 55 = .ok (.iinc 2 1, 3) := by decide +kernel
theorem dX5_remove_58 : decode cX5_remove 58 = .ok (.goto (-33), 3) := by decide +kernel
theorem dX5_remove_61 : decode cX5_remove 61 = .ok (.return_, 1) := by decide +kernel
theorem dX5_empty_0 : decode cX5_empty 0 = .ok (.aload_n 0, 1) := by decide +kernel
theorem dX5_empty_1 : decode cX5_empty 1 = .ok (.iconst 0, 1) := by decide +kernel
theorem dX5_empty_2 : decode cX5_empty 2 = .ok (.putfield 17, 3) := by decide +kernel
theorem dX5_empty_5 : decode cX5_empty 5 = .ok (.return_, 1) := by decide +kernel
theorem dX6_add_0 : decode cX6_add 0 = .ok (.aload_n 0, 1) := by decide +kernel
theorem dX6_add_1 : decode cX6_add 1 = .ok (.getfield 21, 3) := by decide +kernel
theorem dX6_add_4 : decode cX6_add 4 = .ok (.iconst 4, 1) := by decide +kernel
theorem dX6_add_5 : decode cX6_add 5 = .ok (.if_icmp .ge 33, 3) := by decide +kernel
theorem dX6_add_8 : decode cX6_add 8 = .ok (.aload_n 0, 1) := by decide +kernel
theorem dX6_add_9 : decode cX6_add 9 = .ok (.getfield 11, 3) := by decide +kernel
theorem dX6_add_12 : decode cX6_add 12 = .ok (.aload_n 0, 1) := by decide +kernel
theorem dX6_add_13 : decode cX6_add 13 = .ok (.getfield 21, 3) := by decide +kernel
theorem dX6_add_16 : decode cX6_add 16 = .ok (.aload_n 1, 1) := by decide +kernel
theorem dX6_add_17 : decode cX6_add 17 = .ok (.aastore, 1) := by decide +kernel
theorem dX6_add_18 : decode cX6_add 18 = .ok (.aload_n 0, 1) := by decide +kernel
theorem dX6_add_19 : decode cX6_add 19 = .ok (.getfield 17, 3) := by decide +kernel
theorem dX6_add_22 : decode cX6_add 22 = .ok (.aload_n 0, 1) := by decide +kernel
theorem dX6_add_23 : decode cX6_add 23 = .ok (.getfield 21, 3) := by decide +kernel
theorem dX6_add_26 : decode cX6_add 26 = .ok (.iload_n 2, 1) := by decide +kernel
theorem dX6_add_27 : decode cX6_add 27 = .ok (.iastore, 1) := by decide +kernel
theorem dX6_add_28 : decode cX6_add 28 = .ok (.aload_n 0, 1) := by decide +kernel
theorem dX6_add_29 : decode cX6_add 29 = .ok (.dup, 1) := by decide +kernel
theorem dX6_add_30 : decode cX6_add 30 = .ok (.getfield 21, 3) := by decide +kernel
theorem dX6_add_33 : decode cX6_add 33 = .ok (.iconst 1, 1) := by decide +kernel
theorem dX6_add_34 : decode cX6_add 34 = .ok (.iadd, 1) := by decide +kernel
theorem dX6_add_35 : decode cX6_add 35 = .ok (.putfield 21, 3) := by decide +kernel
theorem dX6_add_38 : decode cX6_add 38 = .ok (.return_, 1) := by decide +kernel
theorem dX6_agreeWith_0 : decode cX6_agreeWith 0 = .ok (.iconst 0, 1) := by decide +kernel
theorem dX6_agreeWith_1 : decode cX6_agreeWith 1 = .ok (.istore_n 2, 1) := by decide +kernel
theorem dX6_agreeWith_2 : decode cX6_agreeWith 2 = .ok (.iload_n 2, 1) := by decide +kernel
theorem dX6_agreeWith_3 : decode cX6_agreeWith 3 = .ok (.aload_n 0, 1) := by decide +kernel
theorem dX6_agreeWith_4 : decode cX6_agreeWith 4 = .ok (.getfield 21, 3) := by decide +kernel
theorem dX6_agreeWith_7 : decode cX6_agreeWith 7 = .ok (.if_icmp .ge 44, 3) := by decide +kernel
theorem dX6_agreeWith_10 : decode cX6_agreeWith 10 = .ok (.iload_n 2, 1) := by decide +kernel
theorem dX6_agreeWith_11 : decode cX6_agreeWith 11 = .ok (.iconst 4, 1) := by decide +kernel
theorem dX6_agreeWith_12 : decode cX6_agreeWith 12 = .ok (.if_icmp .ge 39, 3) := by decide +kernel
theorem dX6_agreeWith_15 : decode cX6_agreeWith 15 = .ok (.aload_n 0, 1) := by decide +kernel
theorem dX6_agreeWith_16 : decode cX6_agreeWith 16 = .ok (.getfield 11, 3) := by decide +kernel
theorem dX6_agreeWith_19 : decode cX6_agreeWith 19 = .ok (.iload_n 2, 1) := by decide +kernel
theorem dX6_agreeWith_20 : decode cX6_agreeWith 20 = .ok (.aaload, 1) := by decide +kernel
theorem dX6_agreeWith_21 : decode cX6_agreeWith 21 = .ok (.ifnull 22, 3) := by decide +kernel
theorem dX6_agreeWith_24 : decode cX6_agreeWith 24 = .ok (.aload_n 1, 1) := by decide +kernel
theorem dX6_agreeWith_25 : decode cX6_agreeWith 25 = .ok (.aload_n 0, 1) := by decide +kernel
theorem dX6_agreeWith_26 : decode cX6_agreeWith 26 = .ok (.getfield 11, 3) := by decide +kernel
theorem dX6_agreeWith_29 : decode cX6_agreeWith 29 = .ok (.iload_n 2, 1) := by decide +kernel
theorem dX6_agreeWith_30 : decode cX6_agreeWith 30 = .ok (.aaload, 1) := by decide +kernel
theorem dX6_agreeWith_31 : decode cX6_agreeWith 31 = .ok (.invokevirtual 25, 3) := by decide +kernel
theorem dX6_agreeWith_34 : decode cX6_agreeWith 34 = .ok (.aload_n 0, 1) := by decide +kernel
theorem dX6_agreeWith_35 : decode cX6_agreeWith 35 = .ok (.getfield 17, 3) := by decide +kernel
theorem dX6_agreeWith_38 : decode cX6_agreeWith 38 = .ok (.iload_n 2, 1) := by decide +kernel
theorem dX6_agreeWith_39 : decode cX6_agreeWith 39 = .ok (.iaload, 1) := by decide +kernel
theorem dX6_agreeWith_40 : decode cX6_agreeWith 40 = .ok (.if_icmp .eq 5, 3) := by decide +kernel
theorem dX6_agreeWith_43 : decode cX6_agreeWith 43 = .ok (.iconst 0, 1) := by decide +kernel
theorem dX6_agreeWith_44 : decode cX6_agreeWith 44 = .ok (.ireturn, 1) := by decide +kernel
theorem dX6_agreeWith_45 : decode cX6_agreeWith 45 = .ok (.iinc 2 1, 3) := by decide +kernel
theorem dX6_agreeWith_48 : decode cX6_agreeWith 48 = .ok (.goto (-46), 3) := by decide +kernel
theorem dX6_agreeWith_51 : decode cX6_agreeWith 51 = .ok (.iconst 1, 1) := by decide +kernel
theorem dX6_agreeWith_52 : decode cX6_agreeWith 52 = .ok (.ireturn, 1) := by decide +kernel
theorem dX6_empty_0 : decode cX6_empty 0 = .ok (.aload_n 0, 1) := by decide +kernel
theorem dX6_empty_1 : decode cX6_empty 1 = .ok (.iconst 0, 1) := by decide +kernel
theorem dX6_empty_2 : decode cX6_empty 2 = .ok (.putfield 21, 3) := by decide +kernel
theorem dX6_empty_5 : decode cX6_empty 5 = .ok (.return_, 1) := by decide +kernel
theorem dX7_answer_0 : decode cX7_answer 0 = .ok (.aload_n 0, 1) := by decide +kernel
theorem dX7_answer_1 : decode cX7_answer 1 = .ok (.iload_n 1, 1) := by decide +kernel
theorem dX7_answer_2 : decode cX7_answer 2 = .ok (.invokevirtual 69, 3) := by decide +kernel
theorem dX7_answer_5 : decode cX7_answer 5 = .ok (.iload_n 1, 1) := by decide +kernel
theorem dX7_answer_6 : decode cX7_answer 6 = .ok (.isub, 1) := by decide +kernel
theorem dX7_answer_7 : decode cX7_answer 7 = .ok (.istore_n 3, 1) := by decide +kernel
theorem dX7_answer_8 : decode cX7_answer 8 = .ok (.iload_n 2, 1) := by decide +kernel
theorem dX7_answer_9 : decode cX7_answer 9 = .ok (.iconst (-1), 1) := by decide +kernel
theorem dX7_answer_10 : decode cX7_answer 10 = .ok (.if_icmp .ne 5, 3) := by decide +kernel
theorem dX7_answer_13 : decode cX7_answer 13 = .ok (.iload_n 3, 1) := by decide +kernel
theorem dX7_answer_14 : decode cX7_answer 14 = .ok (.ireturn, 1) := by decide +kernel
theorem dX7_answer_15 : decode cX7_answer 15 = .ok (.iload_n 2, 1) := by decide +kernel
theorem dX7_answer_16 : decode cX7_answer 16 = .ok (.ifCond .lt 18, 3) := by decide +kernel
theorem dX7_answer_19 : decode cX7_answer 19 = .ok (.iload_n 2, 1) := by decide +kernel
theorem dX7_answer_20 : decode cX7_answer 20 = .ok (.iload_n 3, 1) := by decide +kernel
theorem dX7_answer_21 : decode cX7_answer 21 = .ok (.if_icmp .ge 13, 3) := by decide +kernel
theorem dX7_answer_24 : decode cX7_answer 24 = .ok (.aload_n 0, 1) := by decide +kernel
theorem dX7_answer_25 : decode cX7_answer 25 = .ok (.iload_n 1, 1) := by decide +kernel
theorem dX7_answer_26 : decode cX7_answer 26 = .ok (.iload_n 2, 1) := by decide +kernel
theorem dX7_answer_27 : decode cX7_answer 27 = .ok (.iadd, 1) := by decide +kernel
theorem dX7_answer_28 : decode cX7_answer 28 = .ok (.invokevirtual 62, 3) := by decide +kernel
theorem dX7_answer_31 : decode cX7_answer 31 = .ok (.goto 5, 3) := by decide +kernel
theorem dX7_answer_34 : decode cX7_answer 34 = .ok (.bipush (-9), 2) := by decide +kernel
theorem dX7_answer_36 : decode cX7_answer 36 = .ok (.ireturn, 1) := by decide +kernel
theorem dX10_type_0 : decode cX10_type 0 = .ok (.iload_n 1, 1) := by decide +kernel
theorem dX10_type_1 : decode cX10_type 1 = .ok (.ifCond .lt 10, 3) := by decide +kernel
theorem dX10_type_4 : decode cX10_type 4 = .ok (.iload_n 1, 1) := by decide +kernel
theorem dX10_type_5 : decode cX10_type 5 = .ok (.sipush 255, 3) := by decide +kernel
theorem dX10_type_8 : decode cX10_type 8 = .ok (.if_icmp .le 5, 3) := by decide +kernel
theorem dX10_type_11 : decode cX10_type 11 = .ok (.iconst (-1), 1) := by decide +kernel
theorem dX10_type_12 : decode cX10_type 12 = .ok (.ireturn, 1) := by decide +kernel
theorem dX10_type_13 : decode cX10_type 13 = .ok (.aload_n 0, 1) := by decide +kernel
theorem dX10_type_14 : decode cX10_type 14 = .ok (.getfield 71, 3) := by decide +kernel
theorem dX10_type_17 : decode cX10_type 17 = .ok (.bipush 32, 2) := by decide +kernel
theorem dX10_type_19 : decode cX10_type 19 = .ok (.if_icmp .lt 6, 3) := by decide +kernel
theorem dX10_type_22 : decode cX10_type 22 = .ok (.bipush (-3), 2) := by decide +kernel
theorem dX10_type_24 : decode cX10_type 24 = .ok (.ireturn, 1) := by decide +kernel
theorem dX10_type_25 : decode cX10_type 25 = .ok (.aload_n 0, 1) := by decide +kernel
theorem dX10_type_26 : decode cX10_type 26 = .ok (.getfield 9, 3) := by decide +kernel
theorem dX10_type_29 : decode cX10_type 29 = .ok (.aload_n 0, 1) := by decide +kernel
theorem dX10_type_30 : decode cX10_type 30 = .ok (.getfield 71, 3) := by decide +kernel
theorem dX10_type_33 : decode cX10_type 33 = .ok (.iload_n 1, 1) := by decide +kernel
theorem dX10_type_34 : decode cX10_type 34 = .ok (.iastore, 1) := by decide +kernel
theorem dX10_type_35 : decode cX10_type 35 = .ok (.aload_n 0, 1) := by decide +kernel
theorem dX10_type_36 : decode cX10_type 36 = .ok (.dup, 1) := by decide +kernel
theorem dX10_type_37 : decode cX10_type 37 = .ok (.getfield 71, 3) := by decide +kernel
theorem dX10_type_40 : decode cX10_type 40 = .ok (.iconst 1, 1) := by decide +kernel
theorem dX10_type_41 : decode cX10_type 41 = .ok (.iadd, 1) := by decide +kernel
theorem dX10_type_42 : decode cX10_type 42 = .ok (.putfield 71, 3) := by decide +kernel
theorem dX10_type_45 : decode cX10_type 45 = .ok (.aload_n 0, 1) := by decide +kernel
theorem dX10_type_46 : decode cX10_type 46 = .ok (.getfield 71, 3) := by decide +kernel
theorem dX10_type_49 : decode cX10_type 49 = .ok (.ireturn, 1) := by decide +kernel
theorem dX10_clear_0 : decode cX10_clear 0 = .ok (.aload_n 0, 1) := by decide +kernel
theorem dX10_clear_1 : decode cX10_clear 1 = .ok (.getfield 71, 3) := by decide +kernel
theorem dX10_clear_4 : decode cX10_clear 4 = .ok (.istore_n 1, 1) := by decide +kernel
theorem dX10_clear_5 : decode cX10_clear 5 = .ok (.aload_n 0, 1) := by decide +kernel
theorem dX10_clear_6 : decode cX10_clear 6 = .ok (.iconst 0, 1) := by decide +kernel
theorem dX10_clear_7 : decode cX10_clear 7 = .ok (.putfield 71, 3) := by decide +kernel
theorem dX10_clear_10 : decode cX10_clear 10 = .ok (.iload_n 1, 1) := by decide +kernel
theorem dX10_clear_11 : decode cX10_clear 11 = .ok (.ireturn, 1) := by decide +kernel
set_option maxHeartbeats 4000000 in
set_option maxRecDepth 20000 in
theorem b_Reader_readEnd_27 {p : Program} {l : Launch} {e : Env} {s : State} {m : MethodId} {args : Array Value} {below : List Frame} {meth : Method} {c : Code} {D : va_G} {cy : Nat → ClassId} {ad : Nat → Nat} {q : Int32 × CS}  (C : vC p s m args meth c cX4_readEnd 1 (some .boolean) RX4 D (cyT cy)) (hA : adOK ad) : ∀ (s0 : Int32) (σ : CS), B_Reader_readEnd_27 s0 σ = some q → V p l e { frames := 1, cells := 0, slots := 0, locals := 21 } s m args below meth c D (inC ad) 1 (MQ below (vQ D (inC ad) (some (.int q.1)) (wc cy ad q.2)) args s 0 0 (inC ad)) 0 0 (wc cy ad σ) 27 [(0, .ref (ad 43))] [.int s0] := by
  intro s0 σ h
  rw [B_Reader_readEnd_27] at h
  obtain ⟨g1, h⟩ := gd_of h
  obtain rfl := Option.some.inj h
  exact v_zret C (bzb_in g1) dX4_readEnd_27
set_option maxHeartbeats 4000000 in
set_option maxRecDepth 20000 in
theorem b_Reader_readEnd_22 {p : Program} {l : Launch} {e : Env} {s : State} {m : MethodId} {args : Array Value} {below : List Frame} {meth : Method} {c : Code} {D : va_G} {cy : Nat → ClassId} {ad : Nat → Nat} {q : Int32 × CS}  (C : vC p s m args meth c cX4_readEnd 1 (some .boolean) RX4 D (cyT cy)) (hA : adOK ad) {k27 : Int32 → CS → Option (Int32 × CS)} (hk27 : ∀ (s0 : Int32) (σ : CS), k27 s0 σ = some q → V p l e { frames := 1, cells := 0, slots := 0, locals := 21 } s m args below meth c D (inC ad) 1 (MQ below (vQ D (inC ad) (some (.int q.1)) (wc cy ad q.2)) args s 0 0 (inC ad)) 0 0 (wc cy ad σ) 27 [(0, .ref (ad 43))] [.int s0]) : ∀ (σ : CS), B_Reader_readEnd_22 k27 σ = some q → V p l e { frames := 1, cells := 0, slots := 0, locals := 21 } s m args below meth c D (inC ad) 1 (MQ below (vQ D (inC ad) (some (.int q.1)) (wc cy ad q.2)) args s 0 0 (inC ad)) 0 0 (wc cy ad σ) 22 [(0, .ref (ad 43))] [] := by
  intro σ h
  rw [B_Reader_readEnd_22] at h
  refine v_iconst C 1 dX4_readEnd_22 (by decide) ?_
  refine v_goto C 27 dX4_readEnd_23 (by decide) ?_
  exact v_sub [0] rfl (hk27 _ _ h)
set_option maxHeartbeats 4000000 in
set_option maxRecDepth 20000 in
theorem c_Reader_readEnd {l : Launch} {D : va_G} {cy : Nat → ClassId} {ad : Nat → Nat} {q : Int32 × CS} (hA : adOK ad) (σ : CS) (h : f_Reader_readEnd σ = some q) : MV l D (cyT cy) (inC ad) yX4_readEnd cX4_readEnd 1 (some .boolean) (1) (21) 0 0 [.ref (ad 43)] (wc cy ad σ) (some (.int q.1)) (wc cy ad q.2) := by
  refine MV.of (by decide) (wc_D hA cy σ) (Nat.le_of_ble_eq_true rfl) [(0, .ref (ad 43))] rfl ?_
  intro p e s m args below meth c C
  rw [f_Reader_readEnd] at h
  refine v_aload_n C 0 dX4_readEnd_0 rfl rfl ?_
  refine c_getI C fl_4_41 rfl (okS _ 43 (by decide) rfl) dX4_readEnd_1 ?_
  refine v_aload_n C 0 dX4_readEnd_4 rfl rfl ?_
  refine c_getI C fl_4_37 rfl (okS _ 43 (by decide) rfl) dX4_readEnd_5 ?_
  refine v_icmp_ge C 22 dX4_readEnd_8 (by decide) (fun c1 => ?_) (fun c1 => ?_)
  · rw [if_pos c1] at h
    exact v_sub [0] rfl ((b_Reader_readEnd_22 C hA (b_Reader_readEnd_27 C hA)) _ h)
  · rw [if_neg c1] at h
    refine v_aload_n C 0 dX4_readEnd_11 rfl rfl ?_
    refine v_aload_n C 0 dX4_readEnd_12 rfl rfl ?_
    refine c_getI C fl_4_41 rfl (okS _ 43 (by decide) rfl) dX4_readEnd_13 ?_
    obtain ⟨q1, hq1, h⟩ := bd_of h
    refine c_call C [.int (σ.1 43 7)] [] (c_Reader_fail hA _ _ hq1) hY_Reader_fail rfl (by decide) (okS _ 43 (by decide) rfl) ml_4_95 ⟨(by omega : 0 + 1 ≤ 1), (by omega : 8 + (2 + 11) + 0 ≤ 21)⟩ ⟨Nat.zero_le _, Nat.zero_le _⟩ rfl rfl (Nat.le_of_ble_eq_true rfl) dX4_readEnd_16 (wc_D hA cy _) ?_
    refine v_if_eq C 26 dX4_readEnd_19 (by decide) (fun c2 => ?_) (fun c2 => ?_)
    · rw [if_pos c2] at h
      refine v_iconst C 0 dX4_readEnd_26 (by decide) ?_
      exact v_sub [0] rfl ((b_Reader_readEnd_27 C hA) _ _ h)
    · rw [if_neg c2] at h
      exact v_sub [0] rfl ((b_Reader_readEnd_22 C hA (b_Reader_readEnd_27 C hA)) _ h)
set_option maxHeartbeats 4000000 in
set_option maxRecDepth 20000 in
theorem b_Reader_readGiven_60 {p : Program} {l : Launch} {e : Env} {s : State} {m : MethodId} {args : Array Value} {below : List Frame} {meth : Method} {c : Code} {D : va_G} {cy : Nat → ClassId} {ad : Nat → Nat} {q : Int32 × CS}  (C : vC p s m args meth c cX4_readGiven 1 (some .boolean) RX4 D (cyT cy)) (hA : adOK ad) : ∀ (s0 : Int32) (σ : CS), B_Reader_readGiven_60 s0 σ = some q → V p l e { frames := 485, cells := 0, slots := 0, locals := 19326 } s m args below meth c D (inC ad) 1 (MQ below (vQ D (inC ad) (some (.int q.1)) (wc cy ad q.2)) args s 0 0 (inC ad)) 0 0 (wc cy ad σ) 60 [(0, .ref (ad 43))] [.int s0] := by
  intro s0 σ h
  rw [B_Reader_readGiven_60] at h
  obtain ⟨g1, h⟩ := gd_of h
  obtain rfl := Option.some.inj h
  exact v_zret C (bzb_in g1) dX4_readGiven_60
set_option maxHeartbeats 4000000 in
set_option maxRecDepth 20000 in
theorem b_Reader_readGiven_59 {p : Program} {l : Launch} {e : Env} {s : State} {m : MethodId} {args : Array Value} {below : List Frame} {meth : Method} {c : Code} {D : va_G} {cy : Nat → ClassId} {ad : Nat → Nat} {q : Int32 × CS}  (C : vC p s m args meth c cX4_readGiven 1 (some .boolean) RX4 D (cyT cy)) (hA : adOK ad) {k60 : Int32 → CS → Option (Int32 × CS)} (hk60 : ∀ (s0 : Int32) (σ : CS), k60 s0 σ = some q → V p l e { frames := 485, cells := 0, slots := 0, locals := 19326 } s m args below meth c D (inC ad) 1 (MQ below (vQ D (inC ad) (some (.int q.1)) (wc cy ad q.2)) args s 0 0 (inC ad)) 0 0 (wc cy ad σ) 60 [(0, .ref (ad 43))] [.int s0]) : ∀ (σ : CS), B_Reader_readGiven_59 k60 σ = some q → V p l e { frames := 485, cells := 0, slots := 0, locals := 19326 } s m args below meth c D (inC ad) 1 (MQ below (vQ D (inC ad) (some (.int q.1)) (wc cy ad q.2)) args s 0 0 (inC ad)) 0 0 (wc cy ad σ) 59 [(0, .ref (ad 43))] [] := by
  intro σ h
  rw [B_Reader_readGiven_59] at h
  refine v_iconst C 0 dX4_readGiven_59 (by decide) ?_
  exact v_sub [0] rfl (hk60 _ _ h)
set_option maxHeartbeats 4000000 in
set_option maxRecDepth 20000 in
theorem c_Reader_readGiven {l : Launch} {D : va_G} {cy : Nat → ClassId} {ad : Nat → Nat} {q : Int32 × CS} (hA : adOK ad) (σ : CS) (h : f_Reader_readGiven σ = some q) : MV l D (cyT cy) (inC ad) yX4_readGiven cX4_readGiven 1 (some .boolean) (485) (19326) 0 0 [.ref (ad 43)] (wc cy ad σ) (some (.int q.1)) (wc cy ad q.2) := by
  refine MV.of (by decide) (wc_D hA cy σ) (Nat.le_of_ble_eq_true rfl) [(0, .ref (ad 43))] rfl ?_
  intro p e s m args below meth c C
  rw [f_Reader_readGiven] at h
  refine v_aload_n C 0 dX4_readGiven_0 rfl rfl ?_
  refine v_aload_n C 0 dX4_readGiven_1 rfl rfl ?_
  refine v_iconst C 0 dX4_readGiven_2 (by decide) ?_
  obtain ⟨q1, hq1, h⟩ := bd_of h
  refine c_call C [.int 0] [.ref (ad 43)] (c_Reader_readType hA _ _ hq1) hY_Reader_readType rfl (by decide) (okS _ 43 (by decide) rfl) ml_4_59 ⟨(by omega : 484 + 1 ≤ 485), (by omega : 8 + (7 + 11) + 19300 ≤ 19326)⟩ ⟨Nat.zero_le _, Nat.zero_le _⟩ rfl rfl (Nat.le_of_ble_eq_true rfl) dX4_readGiven_3 (wc_D hA cy _) ?_
  refine c_putI C fl_4_63 fw_4_12 rfl (by decide) (okS _ 43 (by decide) rfl) dX4_readGiven_6 ?_
  refine v_aload_n C 0 dX4_readGiven_9 rfl rfl ?_
  refine c_getI C fl_4_63 rfl (okS _ 43 (by decide) rfl) dX4_readGiven_10 ?_
  refine v_iconst C (-1) dX4_readGiven_13 (by decide) ?_
  refine v_icmp_ne C 19 dX4_readGiven_14 (by decide) (fun c1 => ?_) (fun c1 => ?_)
  · rw [if_neg c1] at h
    refine v_aload_n C 0 dX4_readGiven_19 rfl rfl ?_
    refine v_aload_n C 0 dX4_readGiven_20 rfl rfl ?_
    refine v_aload_n C 0 dX4_readGiven_21 rfl rfl ?_
    refine c_getS C 38 fl_4_29 rfl rfl (by decide) (okS _ 43 (by decide) rfl) dX4_readGiven_22 ?_
    refine v_aload_n C 0 dX4_readGiven_25 rfl rfl ?_
    refine c_getI C fl_4_63 rfl (okS _ 43 (by decide) rfl) dX4_readGiven_26 ?_
    refine v_iconst C 0 dX4_readGiven_29 (by decide) ?_
    obtain ⟨q2, hq2, h⟩ := bd_of h
    refine c_call C [.int ((sI q1.2 43 12 q1.1).1 43 12), .int 0] [.ref (ad 43), .ref (ad 43)] (c_Values_typeAt hA _ _ _ hq2) hY_Values_typeAt rfl (by decide) (okS _ 38 (by decide) rfl) ml_4_66 ⟨(by omega : 1 + 1 ≤ 485), (by omega : 8 + (3 + 11) + 23 ≤ 19326)⟩ ⟨Nat.zero_le _, Nat.zero_le _⟩ rfl rfl (Nat.le_of_ble_eq_true rfl) dX4_readGiven_30 (wc_D hA cy _) ?_
    refine v_iconst C 0 dX4_readGiven_33 (by decide) ?_
    obtain ⟨q3, hq3, h⟩ := bd_of h
    refine c_call C [.int q2.1, .int 0] [.ref (ad 43)] (c_Reader_checkTerm hA _ _ _ hq3) hY_Reader_checkTerm rfl (by decide) (okS _ 43 (by decide) rfl) ml_4_70 ⟨(by omega : 484 + 1 ≤ 485), (by omega : 8 + (6 + 11) + 19300 ≤ 19326)⟩ ⟨Nat.zero_le _, Nat.zero_le _⟩ rfl rfl (Nat.le_of_ble_eq_true rfl) dX4_readGiven_34 (wc_D hA cy _) ?_
    refine c_putI C fl_4_73 fw_4_13 rfl (by decide) (okS _ 43 (by decide) rfl) dX4_readGiven_37 ?_
    refine v_aload_n C 0 dX4_readGiven_40 rfl rfl ?_
    refine c_getI C fl_4_73 rfl (okS _ 43 (by decide) rfl) dX4_readGiven_41 ?_
    refine v_iconst C (-1) dX4_readGiven_44 (by decide) ?_
    refine v_icmp_eq C 59 dX4_readGiven_45 (by decide) (fun c2 => ?_) (fun c2 => ?_)
    · rw [if_pos c2] at h
      exact v_sub [0] rfl ((b_Reader_readGiven_59 C hA (b_Reader_readGiven_60 C hA)) _ h)
    · rw [if_neg c2] at h
      refine v_aload_n C 0 dX4_readGiven_48 rfl rfl ?_
      obtain ⟨q4, hq4, h⟩ := bd_of h
      refine c_call C [] [] (c_Reader_readEnd hA _ hq4) hY_Reader_readEnd rfl (by decide) (okS _ 43 (by decide) rfl) ml_4_76 ⟨(by omega : 1 + 1 ≤ 485), (by omega : 8 + (1 + 11) + 21 ≤ 19326)⟩ ⟨Nat.zero_le _, Nat.zero_le _⟩ rfl rfl (Nat.le_of_ble_eq_true rfl) dX4_readGiven_49 (wc_D hA cy _) ?_
      refine v_if_eq C 59 dX4_readGiven_52 (by decide) (fun c3 => ?_) (fun c3 => ?_)
      · rw [if_pos c3] at h
        exact v_sub [0] rfl ((b_Reader_readGiven_59 C hA (b_Reader_readGiven_60 C hA)) _ h)
      · rw [if_neg c3] at h
        refine v_iconst C 1 dX4_readGiven_55 (by decide) ?_
        refine v_goto C 60 dX4_readGiven_56 (by decide) ?_
        exact v_sub [0] rfl ((b_Reader_readGiven_60 C hA) _ _ h)
  · rw [if_pos c1] at h
    refine v_iconst C 0 dX4_readGiven_17 (by decide) ?_
    obtain rfl := Option.some.inj h
    exact v_zret C (Or.inl rfl) dX4_readGiven_18
set_option maxHeartbeats 4000000 in
set_option maxRecDepth 20000 in
theorem b_Reader_readTwo_91 {p : Program} {l : Launch} {e : Env} {s : State} {m : MethodId} {args : Array Value} {below : List Frame} {meth : Method} {c : Code} {D : va_G} {cy : Nat → ClassId} {ad : Nat → Nat} {q : Int32 × CS}  (C : vC p s m args meth c cX4_readTwo 1 (some .boolean) RX4 D (cyT cy)) (hA : adOK ad) : ∀ (s0 : Int32) (σ : CS), B_Reader_readTwo_91 s0 σ = some q → V p l e { frames := 485, cells := 0, slots := 0, locals := 19326 } s m args below meth c D (inC ad) 1 (MQ below (vQ D (inC ad) (some (.int q.1)) (wc cy ad q.2)) args s 0 0 (inC ad)) 0 0 (wc cy ad σ) 91 [(0, .ref (ad 43))] [.int s0] := by
  intro s0 σ h
  rw [B_Reader_readTwo_91] at h
  obtain ⟨g1, h⟩ := gd_of h
  obtain rfl := Option.some.inj h
  exact v_zret C (bzb_in g1) dX4_readTwo_91
set_option maxHeartbeats 4000000 in
set_option maxRecDepth 20000 in
theorem b_Reader_readTwo_90 {p : Program} {l : Launch} {e : Env} {s : State} {m : MethodId} {args : Array Value} {below : List Frame} {meth : Method} {c : Code} {D : va_G} {cy : Nat → ClassId} {ad : Nat → Nat} {q : Int32 × CS}  (C : vC p s m args meth c cX4_readTwo 1 (some .boolean) RX4 D (cyT cy)) (hA : adOK ad) {k91 : Int32 → CS → Option (Int32 × CS)} (hk91 : ∀ (s0 : Int32) (σ : CS), k91 s0 σ = some q → V p l e { frames := 485, cells := 0, slots := 0, locals := 19326 } s m args below meth c D (inC ad) 1 (MQ below (vQ D (inC ad) (some (.int q.1)) (wc cy ad q.2)) args s 0 0 (inC ad)) 0 0 (wc cy ad σ) 91 [(0, .ref (ad 43))] [.int s0]) : ∀ (σ : CS), B_Reader_readTwo_90 k91 σ = some q → V p l e { frames := 485, cells := 0, slots := 0, locals := 19326 } s m args below meth c D (inC ad) 1 (MQ below (vQ D (inC ad) (some (.int q.1)) (wc cy ad q.2)) args s 0 0 (inC ad)) 0 0 (wc cy ad σ) 90 [(0, .ref (ad 43))] [] := by
  intro σ h
  rw [B_Reader_readTwo_90] at h
  refine v_iconst C 0 dX4_readTwo_90 (by decide) ?_
  exact v_sub [0] rfl (hk91 _ _ h)
set_option maxHeartbeats 4000000 in
set_option maxRecDepth 20000 in
theorem c_Reader_readTwo {l : Launch} {D : va_G} {cy : Nat → ClassId} {ad : Nat → Nat} {q : Int32 × CS} (hA : adOK ad) (σ : CS) (h : f_Reader_readTwo σ = some q) : MV l D (cyT cy) (inC ad) yX4_readTwo cX4_readTwo 1 (some .boolean) (485) (19326) 0 0 [.ref (ad 43)] (wc cy ad σ) (some (.int q.1)) (wc cy ad q.2) := by
  refine MV.of (by decide) (wc_D hA cy σ) (Nat.le_of_ble_eq_true rfl) [(0, .ref (ad 43))] rfl ?_
  intro p e s m args below meth c C
  rw [f_Reader_readTwo] at h
  refine v_aload_n C 0 dX4_readTwo_0 rfl rfl ?_
  refine v_aload_n C 0 dX4_readTwo_1 rfl rfl ?_
  refine v_iconst C 0 dX4_readTwo_2 (by decide) ?_
  obtain ⟨q1, hq1, h⟩ := bd_of h
  refine c_call C [.int 0] [.ref (ad 43)] (c_Reader_readType hA _ _ hq1) hY_Reader_readType rfl (by decide) (okS _ 43 (by decide) rfl) ml_4_59 ⟨(by omega : 484 + 1 ≤ 485), (by omega : 8 + (7 + 11) + 19300 ≤ 19326)⟩ ⟨Nat.zero_le _, Nat.zero_le _⟩ rfl rfl (Nat.le_of_ble_eq_true rfl) dX4_readTwo_3 (wc_D hA cy _) ?_
  refine c_putI C fl_4_63 fw_4_12 rfl (by decide) (okS _ 43 (by decide) rfl) dX4_readTwo_6 ?_
  refine v_aload_n C 0 dX4_readTwo_9 rfl rfl ?_
  refine c_getI C fl_4_63 rfl (okS _ 43 (by decide) rfl) dX4_readTwo_10 ?_
  refine v_iconst C (-1) dX4_readTwo_13 (by decide) ?_
  refine v_icmp_ne C 19 dX4_readTwo_14 (by decide) (fun c1 => ?_) (fun c1 => ?_)
  · rw [if_neg c1] at h
    refine v_aload_n C 0 dX4_readTwo_19 rfl rfl ?_
    refine v_aload_n C 0 dX4_readTwo_20 rfl rfl ?_
    refine v_aload_n C 0 dX4_readTwo_21 rfl rfl ?_
    refine c_getS C 38 fl_4_29 rfl rfl (by decide) (okS _ 43 (by decide) rfl) dX4_readTwo_22 ?_
    refine v_aload_n C 0 dX4_readTwo_25 rfl rfl ?_
    refine c_getI C fl_4_63 rfl (okS _ 43 (by decide) rfl) dX4_readTwo_26 ?_
    refine v_iconst C 0 dX4_readTwo_29 (by decide) ?_
    obtain ⟨q2, hq2, h⟩ := bd_of h
    refine c_call C [.int ((sI q1.2 43 12 q1.1).1 43 12), .int 0] [.ref (ad 43), .ref (ad 43)] (c_Values_typeAt hA _ _ _ hq2) hY_Values_typeAt rfl (by decide) (okS _ 38 (by decide) rfl) ml_4_66 ⟨(by omega : 1 + 1 ≤ 485), (by omega : 8 + (3 + 11) + 23 ≤ 19326)⟩ ⟨Nat.zero_le _, Nat.zero_le _⟩ rfl rfl (Nat.le_of_ble_eq_true rfl) dX4_readTwo_30 (wc_D hA cy _) ?_
    refine v_iconst C 0 dX4_readTwo_33 (by decide) ?_
    obtain ⟨q3, hq3, h⟩ := bd_of h
    refine c_call C [.int q2.1, .int 0] [.ref (ad 43)] (c_Reader_checkTerm hA _ _ _ hq3) hY_Reader_checkTerm rfl (by decide) (okS _ 43 (by decide) rfl) ml_4_70 ⟨(by omega : 484 + 1 ≤ 485), (by omega : 8 + (6 + 11) + 19300 ≤ 19326)⟩ ⟨Nat.zero_le _, Nat.zero_le _⟩ rfl rfl (Nat.le_of_ble_eq_true rfl) dX4_readTwo_34 (wc_D hA cy _) ?_
    refine c_putI C fl_4_73 fw_4_13 rfl (by decide) (okS _ 43 (by decide) rfl) dX4_readTwo_37 ?_
    refine v_aload_n C 0 dX4_readTwo_40 rfl rfl ?_
    refine c_getI C fl_4_73 rfl (okS _ 43 (by decide) rfl) dX4_readTwo_41 ?_
    refine v_iconst C (-1) dX4_readTwo_44 (by decide) ?_
    refine v_icmp_ne C 50 dX4_readTwo_45 (by decide) (fun c2 => ?_) (fun c2 => ?_)
    · rw [if_neg c2] at h
      refine v_aload_n C 0 dX4_readTwo_50 rfl rfl ?_
      refine v_aload_n C 0 dX4_readTwo_51 rfl rfl ?_
      refine v_aload_n C 0 dX4_readTwo_52 rfl rfl ?_
      refine c_getS C 38 fl_4_29 rfl rfl (by decide) (okS _ 43 (by decide) rfl) dX4_readTwo_53 ?_
      refine v_aload_n C 0 dX4_readTwo_56 rfl rfl ?_
      refine c_getI C fl_4_63 rfl (okS _ 43 (by decide) rfl) dX4_readTwo_57 ?_
      refine v_iconst C 0 dX4_readTwo_60 (by decide) ?_
      obtain ⟨q4, hq4, h⟩ := bd_of h
      refine c_call C [.int ((sI q3.2 43 13 q3.1).1 43 12), .int 0] [.ref (ad 43), .ref (ad 43)] (c_Values_typeAt hA _ _ _ hq4) hY_Values_typeAt rfl (by decide) (okS _ 38 (by decide) rfl) ml_4_66 ⟨(by omega : 1 + 1 ≤ 485), (by omega : 8 + (3 + 11) + 23 ≤ 19326)⟩ ⟨Nat.zero_le _, Nat.zero_le _⟩ rfl rfl (Nat.le_of_ble_eq_true rfl) dX4_readTwo_61 (wc_D hA cy _) ?_
      refine v_iconst C 0 dX4_readTwo_64 (by decide) ?_
      obtain ⟨q5, hq5, h⟩ := bd_of h
      refine c_call C [.int q4.1, .int 0] [.ref (ad 43)] (c_Reader_checkTerm hA _ _ _ hq5) hY_Reader_checkTerm rfl (by decide) (okS _ 43 (by decide) rfl) ml_4_70 ⟨(by omega : 484 + 1 ≤ 485), (by omega : 8 + (6 + 11) + 19300 ≤ 19326)⟩ ⟨Nat.zero_le _, Nat.zero_le _⟩ rfl rfl (Nat.le_of_ble_eq_true rfl) dX4_readTwo_65 (wc_D hA cy _) ?_
      refine c_putI C fl_4_80 fw_4_14 rfl (by decide) (okS _ 43 (by decide) rfl) dX4_readTwo_68 ?_
      refine v_aload_n C 0 dX4_readTwo_71 rfl rfl ?_
      refine c_getI C fl_4_80 rfl (okS _ 43 (by decide) rfl) dX4_readTwo_72 ?_
      refine v_iconst C (-1) dX4_readTwo_75 (by decide) ?_
      refine v_icmp_eq C 90 dX4_readTwo_76 (by decide) (fun c3 => ?_) (fun c3 => ?_)
      · rw [if_pos c3] at h
        exact v_sub [0] rfl ((b_Reader_readTwo_90 C hA (b_Reader_readTwo_91 C hA)) _ h)
      · rw [if_neg c3] at h
        refine v_aload_n C 0 dX4_readTwo_79 rfl rfl ?_
        obtain ⟨q6, hq6, h⟩ := bd_of h
        refine c_call C [] [] (c_Reader_readEnd hA _ hq6) hY_Reader_readEnd rfl (by decide) (okS _ 43 (by decide) rfl) ml_4_76 ⟨(by omega : 1 + 1 ≤ 485), (by omega : 8 + (1 + 11) + 21 ≤ 19326)⟩ ⟨Nat.zero_le _, Nat.zero_le _⟩ rfl rfl (Nat.le_of_ble_eq_true rfl) dX4_readTwo_80 (wc_D hA cy _) ?_
        refine v_if_eq C 90 dX4_readTwo_83 (by decide) (fun c4 => ?_) (fun c4 => ?_)
        · rw [if_pos c4] at h
          exact v_sub [0] rfl ((b_Reader_readTwo_90 C hA (b_Reader_readTwo_91 C hA)) _ h)
        · rw [if_neg c4] at h
          refine v_iconst C 1 dX4_readTwo_86 (by decide) ?_
          refine v_goto C 91 dX4_readTwo_87 (by decide) ?_
          exact v_sub [0] rfl ((b_Reader_readTwo_91 C hA) _ _ h)
    · rw [if_pos c2] at h
      refine v_iconst C 0 dX4_readTwo_48 (by decide) ?_
      obtain rfl := Option.some.inj h
      exact v_zret C (Or.inl rfl) dX4_readTwo_49
  · rw [if_pos c1] at h
    refine v_iconst C 0 dX4_readTwo_17 (by decide) ?_
    obtain rfl := Option.some.inj h
    exact v_zret C (Or.inl rfl) dX4_readTwo_18
set_option maxHeartbeats 4000000 in
set_option maxRecDepth 20000 in
theorem b_Reader_readInferred_29 {p : Program} {l : Launch} {e : Env} {s : State} {m : MethodId} {args : Array Value} {below : List Frame} {meth : Method} {c : Code} {D : va_G} {cy : Nat → ClassId} {ad : Nat → Nat} {q : Int32 × CS}  (C : vC p s m args meth c cX4_readInferred 1 (some .boolean) RX4 D (cyT cy)) (hA : adOK ad) : ∀ (s0 : Int32) (σ : CS), B_Reader_readInferred_29 s0 σ = some q → V p l e { frames := 485, cells := 0, slots := 0, locals := 19326 } s m args below meth c D (inC ad) 1 (MQ below (vQ D (inC ad) (some (.int q.1)) (wc cy ad q.2)) args s 0 0 (inC ad)) 0 0 (wc cy ad σ) 29 [(0, .ref (ad 43))] [.int s0] := by
  intro s0 σ h
  rw [B_Reader_readInferred_29] at h
  obtain ⟨g1, h⟩ := gd_of h
  obtain rfl := Option.some.inj h
  exact v_zret C (bzb_in g1) dX4_readInferred_29
set_option maxHeartbeats 4000000 in
set_option maxRecDepth 20000 in
theorem b_Reader_readInferred_28 {p : Program} {l : Launch} {e : Env} {s : State} {m : MethodId} {args : Array Value} {below : List Frame} {meth : Method} {c : Code} {D : va_G} {cy : Nat → ClassId} {ad : Nat → Nat} {q : Int32 × CS}  (C : vC p s m args meth c cX4_readInferred 1 (some .boolean) RX4 D (cyT cy)) (hA : adOK ad) {k29 : Int32 → CS → Option (Int32 × CS)} (hk29 : ∀ (s0 : Int32) (σ : CS), k29 s0 σ = some q → V p l e { frames := 485, cells := 0, slots := 0, locals := 19326 } s m args below meth c D (inC ad) 1 (MQ below (vQ D (inC ad) (some (.int q.1)) (wc cy ad q.2)) args s 0 0 (inC ad)) 0 0 (wc cy ad σ) 29 [(0, .ref (ad 43))] [.int s0]) : ∀ (σ : CS), B_Reader_readInferred_28 k29 σ = some q → V p l e { frames := 485, cells := 0, slots := 0, locals := 19326 } s m args below meth c D (inC ad) 1 (MQ below (vQ D (inC ad) (some (.int q.1)) (wc cy ad q.2)) args s 0 0 (inC ad)) 0 0 (wc cy ad σ) 28 [(0, .ref (ad 43))] [] := by
  intro σ h
  rw [B_Reader_readInferred_28] at h
  refine v_iconst C 0 dX4_readInferred_28 (by decide) ?_
  exact v_sub [0] rfl (hk29 _ _ h)
set_option maxHeartbeats 4000000 in
set_option maxRecDepth 20000 in
theorem c_Reader_readInferred {l : Launch} {D : va_G} {cy : Nat → ClassId} {ad : Nat → Nat} {q : Int32 × CS} (hA : adOK ad) (σ : CS) (h : f_Reader_readInferred σ = some q) : MV l D (cyT cy) (inC ad) yX4_readInferred cX4_readInferred 1 (some .boolean) (485) (19326) 0 0 [.ref (ad 43)] (wc cy ad σ) (some (.int q.1)) (wc cy ad q.2) := by
  refine MV.of (by decide) (wc_D hA cy σ) (Nat.le_of_ble_eq_true rfl) [(0, .ref (ad 43))] rfl ?_
  intro p e s m args below meth c C
  rw [f_Reader_readInferred] at h
  refine v_aload_n C 0 dX4_readInferred_0 rfl rfl ?_
  refine v_aload_n C 0 dX4_readInferred_1 rfl rfl ?_
  refine v_iconst C 0 dX4_readInferred_2 (by decide) ?_
  obtain ⟨q1, hq1, h⟩ := bd_of h
  refine c_call C [.int 0] [.ref (ad 43)] (c_Reader_inferTerm hA _ _ hq1) hY_Reader_inferTerm rfl (by decide) (okS _ 43 (by decide) rfl) ml_4_83 ⟨(by omega : 484 + 1 ≤ 485), (by omega : 8 + (7 + 11) + 19300 ≤ 19326)⟩ ⟨Nat.zero_le _, Nat.zero_le _⟩ rfl rfl (Nat.le_of_ble_eq_true rfl) dX4_readInferred_3 (wc_D hA cy _) ?_
  refine c_putI C fl_4_73 fw_4_13 rfl (by decide) (okS _ 43 (by decide) rfl) dX4_readInferred_6 ?_
  refine v_aload_n C 0 dX4_readInferred_9 rfl rfl ?_
  refine c_getI C fl_4_73 rfl (okS _ 43 (by decide) rfl) dX4_readInferred_10 ?_
  refine v_iconst C (-1) dX4_readInferred_13 (by decide) ?_
  refine v_icmp_eq C 28 dX4_readInferred_14 (by decide) (fun c1 => ?_) (fun c1 => ?_)
  · rw [if_pos c1] at h
    exact v_sub [0] rfl ((b_Reader_readInferred_28 C hA (b_Reader_readInferred_29 C hA)) _ h)
  · rw [if_neg c1] at h
    refine v_aload_n C 0 dX4_readInferred_17 rfl rfl ?_
    obtain ⟨q2, hq2, h⟩ := bd_of h
    refine c_call C [] [] (c_Reader_readEnd hA _ hq2) hY_Reader_readEnd rfl (by decide) (okS _ 43 (by decide) rfl) ml_4_76 ⟨(by omega : 1 + 1 ≤ 485), (by omega : 8 + (1 + 11) + 21 ≤ 19326)⟩ ⟨Nat.zero_le _, Nat.zero_le _⟩ rfl rfl (Nat.le_of_ble_eq_true rfl) dX4_readInferred_18 (wc_D hA cy _) ?_
    refine v_if_eq C 28 dX4_readInferred_21 (by decide) (fun c2 => ?_) (fun c2 => ?_)
    · rw [if_pos c2] at h
      exact v_sub [0] rfl ((b_Reader_readInferred_28 C hA (b_Reader_readInferred_29 C hA)) _ h)
    · rw [if_neg c2] at h
      refine v_iconst C 1 dX4_readInferred_24 (by decide) ?_
      refine v_goto C 29 dX4_readInferred_25 (by decide) ?_
      exact v_sub [0] rfl ((b_Reader_readInferred_29 C hA) _ _ h)
set_option maxHeartbeats 4000000 in
set_option maxRecDepth 20000 in
theorem b_Reader_hasMore_16 {p : Program} {l : Launch} {e : Env} {s : State} {m : MethodId} {args : Array Value} {below : List Frame} {meth : Method} {c : Code} {D : va_G} {cy : Nat → ClassId} {ad : Nat → Nat} {q : Int32 × CS}  (C : vC p s m args meth c cX4_hasMore 1 (some .boolean) RX4 D (cyT cy)) (hA : adOK ad) : ∀ (s0 : Int32) (σ : CS), B_Reader_hasMore_16 s0 σ = some q → V p l e { frames := 0, cells := 0, slots := 0, locals := 0 } s m args below meth c D (inC ad) 1 (MQ below (vQ D (inC ad) (some (.int q.1)) (wc cy ad q.2)) args s 0 0 (inC ad)) 0 0 (wc cy ad σ) 16 [(0, .ref (ad 43))] [.int s0] := by
  intro s0 σ h
  rw [B_Reader_hasMore_16] at h
  obtain ⟨g1, h⟩ := gd_of h
  obtain rfl := Option.some.inj h
  exact v_zret C (bzb_in g1) dX4_hasMore_16
set_option maxHeartbeats 4000000 in
set_option maxRecDepth 20000 in
theorem c_Reader_hasMore {l : Launch} {D : va_G} {cy : Nat → ClassId} {ad : Nat → Nat} {q : Int32 × CS} (hA : adOK ad) (σ : CS) (h : f_Reader_hasMore σ = some q) : MV l D (cyT cy) (inC ad) yX4_hasMore cX4_hasMore 1 (some .boolean) (0) (0) 0 0 [.ref (ad 43)] (wc cy ad σ) (some (.int q.1)) (wc cy ad q.2) := by
  refine MV.of (by decide) (wc_D hA cy σ) (Nat.le_of_ble_eq_true rfl) [(0, .ref (ad 43))] rfl ?_
  intro p e s m args below meth c C
  rw [f_Reader_hasMore] at h
  refine v_aload_n C 0 dX4_hasMore_0 rfl rfl ?_
  refine c_getI C fl_4_41 rfl (okS _ 43 (by decide) rfl) dX4_hasMore_1 ?_
  refine v_aload_n C 0 dX4_hasMore_4 rfl rfl ?_
  refine c_getI C fl_4_37 rfl (okS _ 43 (by decide) rfl) dX4_hasMore_5 ?_
  refine v_icmp_ge C 15 dX4_hasMore_8 (by decide) (fun c1 => ?_) (fun c1 => ?_)
  · rw [if_pos c1] at h
    refine v_iconst C 0 dX4_hasMore_15 (by decide) ?_
    exact v_sub [0] rfl ((b_Reader_hasMore_16 C hA) _ _ h)
  · rw [if_neg c1] at h
    refine v_iconst C 1 dX4_hasMore_11 (by decide) ?_
    refine v_goto C 16 dX4_hasMore_12 (by decide) ?_
    exact v_sub [0] rfl ((b_Reader_hasMore_16 C hA) _ _ h)
set_option maxHeartbeats 4000000 in
set_option maxRecDepth 20000 in
theorem b_Reader_readItem_213 {p : Program} {l : Launch} {e : Env} {s : State} {m : MethodId} {args : Array Value} {below : List Frame} {meth : Method} {c : Code} {D : va_G} {cy : Nat → ClassId} {ad : Nat → Nat} {q : Int32 × CS}  (C : vC p s m args meth c cX4_readItem 6 (some .boolean) RX4 D (cyT cy)) (hA : adOK ad) : ∀ (σ : CS), B_Reader_readItem_213 σ = some q → V p l e { frames := 485, cells := 0, slots := 0, locals := 19326 } s m args below meth c D (inC ad) 6 (MQ below (vQ D (inC ad) (some (.int q.1)) (wc cy ad q.2)) args s 0 0 (inC ad)) 0 0 (wc cy ad σ) 213 [(0, .ref (ad 43))] [] := by
  intro σ h
  rw [B_Reader_readItem_213] at h
  refine v_iconst C 1 dX4_readItem_213 (by decide) ?_
  obtain rfl := Option.some.inj h
  exact v_zret C (Or.inr rfl) dX4_readItem_214
set_option maxHeartbeats 4000000 in
set_option maxRecDepth 20000 in
theorem b_Reader_readItem_160 {p : Program} {l : Launch} {e : Env} {s : State} {m : MethodId} {args : Array Value} {below : List Frame} {meth : Method} {c : Code} {D : va_G} {cy : Nat → ClassId} {ad : Nat → Nat} {q : Int32 × CS}  (C : vC p s m args meth c cX4_readItem 6 (some .boolean) RX4 D (cyT cy)) (hA : adOK ad) : ∀ (x1 : Int32) (x5 : Int32) (σ : CS), B_Reader_readItem_160 x1 x5 σ = some q → V p l e { frames := 485, cells := 0, slots := 0, locals := 19326 } s m args below meth c D (inC ad) 6 (MQ below (vQ D (inC ad) (some (.int q.1)) (wc cy ad q.2)) args s 0 0 (inC ad)) 0 0 (wc cy ad σ) 160 [(0, .ref (ad 43)), (1, .int x1), (5, .int x5)] [] := by
  intro x1 x5 σ h
  rw [B_Reader_readItem_160] at h
  refine v_aload_n C 0 dX4_readItem_160 rfl rfl ?_
  obtain ⟨q1, hq1, h⟩ := bd_of h
  refine c_call C [] [] (c_Reader_peek hA _ hq1) hY_Reader_peek rfl (by decide) (okS _ 43 (by decide) rfl) ml_4_99 ⟨(by omega : 0 + 1 ≤ 485), (by omega : 8 + (1 + 11) + 0 ≤ 19326)⟩ ⟨Nat.zero_le _, Nat.zero_le _⟩ rfl rfl (Nat.le_of_ble_eq_true rfl) dX4_readItem_161 (wc_D hA cy _) ?_
  refine v_bipush C 59 dX4_readItem_164 (by decide) ?_
  refine v_icmp_eq C 178 dX4_readItem_166 (by decide) (fun c1 => ?_) (fun c1 => ?_)
  · rw [if_pos c1] at h
    refine v_aload_n C 0 dX4_readItem_178 rfl rfl ?_
    refine v_dup C dX4_readItem_179 rfl ?_
    refine c_getI C fl_4_41 rfl (okS _ 43 (by decide) rfl) dX4_readItem_180 ?_
    refine v_iconst C 1 dX4_readItem_183 (by decide) ?_
    refine v_iadd C dX4_readItem_184 ?_
    refine c_putI C fl_4_41 fw_4_7 rfl (by decide) (okS _ 43 (by decide) rfl) dX4_readItem_185 ?_
    refine v_iload_n C 1 dX4_readItem_188 rfl rfl ?_
    refine v_if_eq C 204 dX4_readItem_189 (by decide) (fun c2 => ?_) (fun c2 => ?_)
    · rw [if_pos c2] at h
      refine v_aload_n C 0 dX4_readItem_204 rfl rfl ?_
      refine c_getS C 34 fl_4_25 rfl rfl (by decide) (okS _ 43 (by decide) rfl) dX4_readItem_205 ?_
      refine v_iload C 2 dX4_readItem_208 rfl ?_
      obtain ⟨q2, hq2, h⟩ := bd_of h
      refine c_call C [.int x5] [] (c_Signs_addConstant hA _ _ hq2) hY_Signs_addConstant rfl (by decide) (okS _ 34 (by decide) rfl) ml_4_115 ⟨(by omega : 0 + 1 ≤ 485), (by omega : 8 + (2 + 11) + 0 ≤ 19326)⟩ ⟨Nat.zero_le _, Nat.zero_le _⟩ rfl rfl (Nat.le_of_ble_eq_true rfl) dX4_readItem_210 (wc_D hA cy _) ?_
      exact v_sub [0] rfl ((b_Reader_readItem_213 C hA) _ h)
    · rw [if_neg c2] at h
      refine v_aload_n C 0 dX4_readItem_192 rfl rfl ?_
      refine c_getS C 34 fl_4_25 rfl rfl (by decide) (okS _ 43 (by decide) rfl) dX4_readItem_193 ?_
      refine v_iload C 2 dX4_readItem_196 rfl ?_
      obtain ⟨q3, hq3, h⟩ := bd_of h
      refine c_call C [.int x5] [] (c_Signs_addFamily hA _ _ hq3) hY_Signs_addFamily rfl (by decide) (okS _ 34 (by decide) rfl) ml_4_112 ⟨(by omega : 0 + 1 ≤ 485), (by omega : 8 + (2 + 11) + 0 ≤ 19326)⟩ ⟨Nat.zero_le _, Nat.zero_le _⟩ rfl rfl (Nat.le_of_ble_eq_true rfl) dX4_readItem_198 (wc_D hA cy _) ?_
      refine v_goto C 213 dX4_readItem_201 (by decide) ?_
      exact v_sub [0] rfl ((b_Reader_readItem_213 C hA) _ h)
  · rw [if_neg c1] at h
    refine v_aload_n C 0 dX4_readItem_169 rfl rfl ?_
    refine v_aload_n C 0 dX4_readItem_170 rfl rfl ?_
    refine c_getI C fl_4_41 rfl (okS _ 43 (by decide) rfl) dX4_readItem_171 ?_
    obtain ⟨q4, hq4, h⟩ := bd_of h
    refine c_call C [.int (q1.2.1 43 7)] [] (c_Reader_fail hA _ _ hq4) hY_Reader_fail rfl (by decide) (okS _ 43 (by decide) rfl) ml_4_95 ⟨(by omega : 0 + 1 ≤ 485), (by omega : 8 + (2 + 11) + 0 ≤ 19326)⟩ ⟨Nat.zero_le _, Nat.zero_le _⟩ rfl rfl (Nat.le_of_ble_eq_true rfl) dX4_readItem_174 (wc_D hA cy _) ?_
    obtain ⟨g1, h⟩ := gd_of h
    obtain rfl := Option.some.inj h
    exact v_zret C (bzb_in g1) dX4_readItem_177
set_option maxHeartbeats 4000000 in
set_option maxRecDepth 20000 in
theorem b_Reader_readItem_133 {p : Program} {l : Launch} {e : Env} {s : State} {m : MethodId} {args : Array Value} {below : List Frame} {meth : Method} {c : Code} {D : va_G} {cy : Nat → ClassId} {ad : Nat → Nat} {q : Int32 × CS}  (C : vC p s m args meth c cX4_readItem 6 (some .boolean) RX4 D (cyT cy)) (hA : adOK ad) : ∀ (x1 : Int32) (x3 : Int32) (x4 : Int32) (x5 : Int32) (σ : CS), B_Reader_readItem_133 x1 x3 x4 x5 σ = some q → V p l e { frames := 485, cells := 0, slots := 0, locals := 19326 } s m args below meth c D (inC ad) 6 (MQ below (vQ D (inC ad) (some (.int q.1)) (wc cy ad q.2)) args s 0 0 (inC ad)) 0 0 (wc cy ad σ) 133 [(0, .ref (ad 43)), (1, .int x1), (3, .int x3), (4, .int x4), (5, .int x5)] [] := by
  intro x1 x3 x4 x5 σ h
  rw [B_Reader_readItem_133] at h
  refine v_iload_n C 1 dX4_readItem_133 rfl rfl ?_
  refine v_if_eq C 160 dX4_readItem_134 (by decide) (fun c1 => ?_) (fun c1 => ?_)
  · rw [if_pos c1] at h
    exact v_sub [0, 1, 4] rfl ((b_Reader_readItem_160 C hA) _ _ _ h)
  · rw [if_neg c1] at h
    refine v_iload C 3 dX4_readItem_137 rfl ?_
    refine v_if_eq C 160 dX4_readItem_139 (by decide) (fun c2 => ?_) (fun c2 => ?_)
    · rw [if_pos c2] at h
      exact v_sub [0, 1, 4] rfl ((b_Reader_readItem_160 C hA) _ _ _ h)
    · rw [if_neg c2] at h
      refine v_aload_n C 0 dX4_readItem_142 rfl rfl ?_
      refine c_getS C 34 fl_4_25 rfl rfl (by decide) (okS _ 43 (by decide) rfl) dX4_readItem_143 ?_
      refine v_iload C 4 dX4_readItem_146 rfl ?_
      obtain ⟨q1, hq1, h⟩ := bd_of h
      refine c_call C [.int x5] [] (c_Signs_isData hA _ _ hq1) hY_Signs_isData rfl (by decide) (okS _ 34 (by decide) rfl) ml_4_109 ⟨(by omega : 2 + 1 ≤ 485), (by omega : 8 + (4 + 11) + 45 ≤ 19326)⟩ ⟨Nat.zero_le _, Nat.zero_le _⟩ rfl rfl (Nat.le_of_ble_eq_true rfl) dX4_readItem_148 (wc_D hA cy _) ?_
      refine v_if_ne C 160 dX4_readItem_151 (by decide) (fun c3 => ?_) (fun c3 => ?_)
      · rw [if_neg c3] at h
        exact v_sub [0, 1, 4] rfl ((b_Reader_readItem_160 C hA) _ _ _ h)
      · rw [if_pos c3] at h
        refine v_aload_n C 0 dX4_readItem_154 rfl rfl ?_
        refine v_iload_n C 2 dX4_readItem_155 rfl rfl ?_
        obtain ⟨q2, hq2, h⟩ := bd_of h
        refine c_call C [.int x3] [] (c_Reader_fail hA _ _ hq2) hY_Reader_fail rfl (by decide) (okS _ 43 (by decide) rfl) ml_4_95 ⟨(by omega : 0 + 1 ≤ 485), (by omega : 8 + (2 + 11) + 0 ≤ 19326)⟩ ⟨Nat.zero_le _, Nat.zero_le _⟩ rfl rfl (Nat.le_of_ble_eq_true rfl) dX4_readItem_156 (wc_D hA cy _) ?_
        obtain ⟨g1, h⟩ := gd_of h
        obtain rfl := Option.some.inj h
        exact v_zret C (bzb_in g1) dX4_readItem_159
set_option maxHeartbeats 4000000 in
set_option maxRecDepth 20000 in
theorem b_Reader_readItem_118 {p : Program} {l : Launch} {e : Env} {s : State} {m : MethodId} {args : Array Value} {below : List Frame} {meth : Method} {c : Code} {D : va_G} {cy : Nat → ClassId} {ad : Nat → Nat} {q : Int32 × CS}  (C : vC p s m args meth c cX4_readItem 6 (some .boolean) RX4 D (cyT cy)) (hA : adOK ad) : ∀ (x1 : Int32) (x3 : Int32) (x4 : Int32) (s0 : Int32) (σ : CS), B_Reader_readItem_118 x1 x3 x4 s0 σ = some q → V p l e { frames := 485, cells := 0, slots := 0, locals := 19326 } s m args below meth c D (inC ad) 6 (MQ below (vQ D (inC ad) (some (.int q.1)) (wc cy ad q.2)) args s 0 0 (inC ad)) 0 0 (wc cy ad σ) 118 [(0, .ref (ad 43)), (1, .int x1), (3, .int x3), (4, .int x4)] [.int s0] := by
  intro x1 x3 x4 s0 σ h
  rw [B_Reader_readItem_118] at h
  refine v_istore C [(5, .int s0), (0, .ref (ad 43)), (1, .int x1), (3, .int x3), (4, .int x4)] dX4_readItem_118 (by decide) rfl ?_
  refine v_iload C 4 dX4_readItem_120 rfl ?_
  refine v_if_eq C 133 dX4_readItem_122 (by decide) (fun c1 => ?_) (fun c1 => ?_)
  · rw [if_pos c1] at h
    exact v_sub [1, 2, 3, 4, 0] rfl ((b_Reader_readItem_133 C hA) _ _ _ _ _ h)
  · rw [if_neg c1] at h
    refine v_iload C 0 dX4_readItem_125 rfl ?_
    refine v_iconst C (-1) dX4_readItem_127 (by decide) ?_
    refine v_icmp_ne C 133 dX4_readItem_128 (by decide) (fun c2 => ?_) (fun c2 => ?_)
    · rw [if_neg c2] at h
      exact v_sub [1, 2, 3, 4, 0] rfl ((b_Reader_readItem_133 C hA) _ _ _ _ _ h)
    · rw [if_pos c2] at h
      refine v_iconst C 0 dX4_readItem_131 (by decide) ?_
      obtain rfl := Option.some.inj h
      exact v_zret C (Or.inl rfl) dX4_readItem_132
set_option maxHeartbeats 4000000 in
set_option maxRecDepth 20000 in
theorem b_Reader_readItem_102 {p : Program} {l : Launch} {e : Env} {s : State} {m : MethodId} {args : Array Value} {below : List Frame} {meth : Method} {c : Code} {D : va_G} {cy : Nat → ClassId} {ad : Nat → Nat} {q : Int32 × CS}  (C : vC p s m args meth c cX4_readItem 6 (some .boolean) RX4 D (cyT cy)) (hA : adOK ad) : ∀ (x1 : Int32) (x3 : Int32) (s0 : Int32) (σ : CS), B_Reader_readItem_102 x1 x3 s0 σ = some q → V p l e { frames := 485, cells := 0, slots := 0, locals := 19326 } s m args below meth c D (inC ad) 6 (MQ below (vQ D (inC ad) (some (.int q.1)) (wc cy ad q.2)) args s 0 0 (inC ad)) 0 0 (wc cy ad σ) 102 [(0, .ref (ad 43)), (1, .int x1), (3, .int x3)] [.int s0] := by
  intro x1 x3 s0 σ h
  rw [B_Reader_readItem_102] at h
  refine v_istore C [(4, .int s0), (0, .ref (ad 43)), (1, .int x1), (3, .int x3)] dX4_readItem_102 (by decide) rfl ?_
  refine v_iload C 0 dX4_readItem_104 rfl ?_
  refine v_if_eq C 117 dX4_readItem_106 (by decide) (fun c1 => ?_) (fun c1 => ?_)
  · rw [if_pos c1] at h
    refine v_iconst C (-1) dX4_readItem_117 (by decide) ?_
    exact v_sub [1, 2, 3, 0] rfl ((b_Reader_readItem_118 C hA) _ _ _ _ _ h)
  · rw [if_neg c1] at h
    refine v_aload_n C 1 dX4_readItem_109 rfl rfl ?_
    refine v_iconst C 0 dX4_readItem_110 (by decide) ?_
    obtain ⟨q1, hq1, h⟩ := bd_of h
    refine c_call C [.int 0] [] (c_Reader_readType hA _ _ hq1) hY_Reader_readType rfl (by decide) (okS _ 43 (by decide) rfl) ml_4_59 ⟨(by omega : 484 + 1 ≤ 485), (by omega : 8 + (7 + 11) + 19300 ≤ 19326)⟩ ⟨Nat.zero_le _, Nat.zero_le _⟩ rfl rfl (Nat.le_of_ble_eq_true rfl) dX4_readItem_111 (wc_D hA cy _) ?_
    refine v_goto C 118 dX4_readItem_114 (by decide) ?_
    exact v_sub [1, 2, 3, 0] rfl ((b_Reader_readItem_118 C hA) _ _ _ _ _ h)
set_option maxHeartbeats 4000000 in
set_option maxRecDepth 20000 in
theorem b_Reader_readItem_97 {p : Program} {l : Launch} {e : Env} {s : State} {m : MethodId} {args : Array Value} {below : List Frame} {meth : Method} {c : Code} {D : va_G} {cy : Nat → ClassId} {ad : Nat → Nat} {q : Int32 × CS}  (C : vC p s m args meth c cX4_readItem 6 (some .boolean) RX4 D (cyT cy)) (hA : adOK ad) {k102 : Int32 → Int32 → Int32 → CS → Option (Int32 × CS)} (hk102 : ∀ (x1 : Int32) (x3 : Int32) (s0 : Int32) (σ : CS), k102 x1 x3 s0 σ = some q → V p l e { frames := 485, cells := 0, slots := 0, locals := 19326 } s m args below meth c D (inC ad) 6 (MQ below (vQ D (inC ad) (some (.int q.1)) (wc cy ad q.2)) args s 0 0 (inC ad)) 0 0 (wc cy ad σ) 102 [(0, .ref (ad 43)), (1, .int x1), (3, .int x3)] [.int s0]) : ∀ (x1 : Int32) (x3 : Int32) (σ : CS), B_Reader_readItem_97 k102 x1 x3 σ = some q → V p l e { frames := 485, cells := 0, slots := 0, locals := 19326 } s m args below meth c D (inC ad) 6 (MQ below (vQ D (inC ad) (some (.int q.1)) (wc cy ad q.2)) args s 0 0 (inC ad)) 0 0 (wc cy ad σ) 97 [(0, .ref (ad 43)), (1, .int x1), (3, .int x3)] [] := by
  intro x1 x3 σ h
  rw [B_Reader_readItem_97] at h
  refine v_iconst C 1 dX4_readItem_97 (by decide) ?_
  refine v_goto C 102 dX4_readItem_98 (by decide) ?_
  exact v_sub [0, 1, 2] rfl (hk102 _ _ _ _ h)
set_option maxHeartbeats 4000000 in
set_option maxRecDepth 20000 in
theorem b_Reader_readItem_69 {p : Program} {l : Launch} {e : Env} {s : State} {m : MethodId} {args : Array Value} {below : List Frame} {meth : Method} {c : Code} {D : va_G} {cy : Nat → ClassId} {ad : Nat → Nat} {q : Int32 × CS}  (C : vC p s m args meth c cX4_readItem 6 (some .boolean) RX4 D (cyT cy)) (hA : adOK ad) : ∀ (x1 : Int32) (x2 : Int32) (σ : CS), B_Reader_readItem_69 x1 x2 σ = some q → V p l e { frames := 485, cells := 0, slots := 0, locals := 19326 } s m args below meth c D (inC ad) 6 (MQ below (vQ D (inC ad) (some (.int q.1)) (wc cy ad q.2)) args s 0 0 (inC ad)) 0 0 (wc cy ad σ) 69 [(0, .ref (ad 43)), (1, .int x1), (2, .int x2)] [] := by
  intro x1 x2 σ h
  rw [B_Reader_readItem_69] at h
  refine v_aload_n C 0 dX4_readItem_69 rfl rfl ?_
  refine v_dup C dX4_readItem_70 rfl ?_
  refine c_getI C fl_4_41 rfl (okS _ 43 (by decide) rfl) dX4_readItem_71 ?_
  refine v_iconst C 1 dX4_readItem_74 (by decide) ?_
  refine v_iadd C dX4_readItem_75 ?_
  refine c_putI C fl_4_41 fw_4_7 rfl (by decide) (okS _ 43 (by decide) rfl) dX4_readItem_76 ?_
  refine v_aload_n C 0 dX4_readItem_79 rfl rfl ?_
  refine c_getI C fl_4_41 rfl (okS _ 43 (by decide) rfl) dX4_readItem_80 ?_
  refine v_istore_n C [(3, .int ((sI σ 43 7 ((σ.1 43 7) + 1)).1 43 7)), (0, .ref (ad 43)), (1, .int x1), (2, .int x2)] dX4_readItem_83 rfl (by decide) rfl ?_
  refine v_iload_n C 3 dX4_readItem_84 rfl rfl ?_
  refine v_if_ne C 97 dX4_readItem_85 (by decide) (fun c1 => ?_) (fun c1 => ?_)
  · rw [if_neg c1] at h
    exact v_sub [1, 2, 0] rfl ((b_Reader_readItem_97 C hA (b_Reader_readItem_102 C hA)) _ _ _ h)
  · rw [if_pos c1] at h
    refine v_aload_n C 1 dX4_readItem_88 rfl rfl ?_
    obtain ⟨q1, hq1, h⟩ := bd_of h
    refine c_call C [] [] (c_Reader_peek hA _ hq1) hY_Reader_peek rfl (by decide) (okS _ 43 (by decide) rfl) ml_4_99 ⟨(by omega : 0 + 1 ≤ 485), (by omega : 8 + (1 + 11) + 0 ≤ 19326)⟩ ⟨Nat.zero_le _, Nat.zero_le _⟩ rfl rfl (Nat.le_of_ble_eq_true rfl) dX4_readItem_89 (wc_D hA cy _) ?_
    refine v_bipush C 59 dX4_readItem_92 (by decide) ?_
    refine v_icmp_eq C 101 dX4_readItem_94 (by decide) (fun c2 => ?_) (fun c2 => ?_)
    · rw [if_pos c2] at h
      refine v_iconst C 0 dX4_readItem_101 (by decide) ?_
      exact v_sub [1, 2, 0] rfl ((b_Reader_readItem_102 C hA) _ _ _ _ h)
    · rw [if_neg c2] at h
      exact v_sub [1, 2, 0] rfl ((b_Reader_readItem_97 C hA (b_Reader_readItem_102 C hA)) _ _ _ h)
set_option maxHeartbeats 4000000 in
set_option maxRecDepth 20000 in
theorem b_Reader_readItem_51 {p : Program} {l : Launch} {e : Env} {s : State} {m : MethodId} {args : Array Value} {below : List Frame} {meth : Method} {c : Code} {D : va_G} {cy : Nat → ClassId} {ad : Nat → Nat} {q : Int32 × CS}  (C : vC p s m args meth c cX4_readItem 6 (some .boolean) RX4 D (cyT cy)) (hA : adOK ad) : ∀ (x1 : Int32) (s0 : Int32) (σ : CS), B_Reader_readItem_51 x1 s0 σ = some q → V p l e { frames := 485, cells := 0, slots := 0, locals := 19326 } s m args below meth c D (inC ad) 6 (MQ below (vQ D (inC ad) (some (.int q.1)) (wc cy ad q.2)) args s 0 0 (inC ad)) 0 0 (wc cy ad σ) 51 [(0, .ref (ad 43)), (1, .int x1)] [.int s0] := by
  intro x1 s0 σ h
  rw [B_Reader_readItem_51] at h
  refine v_istore_n C [(2, .int s0), (0, .ref (ad 43)), (1, .int x1)] dX4_readItem_51 rfl (by decide) rfl ?_
  refine v_iload_n C 2 dX4_readItem_52 rfl rfl ?_
  refine v_if_ne C 69 dX4_readItem_53 (by decide) (fun c1 => ?_) (fun c1 => ?_)
  · rw [if_neg c1] at h
    exact v_sub [1, 2, 0] rfl ((b_Reader_readItem_69 C hA) _ _ _ h)
  · rw [if_pos c1] at h
    refine v_iload_n C 0 dX4_readItem_56 rfl rfl ?_
    refine v_if_ne C 69 dX4_readItem_57 (by decide) (fun c2 => ?_) (fun c2 => ?_)
    · rw [if_neg c2] at h
      exact v_sub [1, 2, 0] rfl ((b_Reader_readItem_69 C hA) _ _ _ h)
    · rw [if_pos c2] at h
      refine v_aload_n C 1 dX4_readItem_60 rfl rfl ?_
      refine v_aload_n C 1 dX4_readItem_61 rfl rfl ?_
      refine c_getI C fl_4_41 rfl (okS _ 43 (by decide) rfl) dX4_readItem_62 ?_
      obtain ⟨q1, hq1, h⟩ := bd_of h
      refine c_call C [.int (σ.1 43 7)] [] (c_Reader_fail hA _ _ hq1) hY_Reader_fail rfl (by decide) (okS _ 43 (by decide) rfl) ml_4_95 ⟨(by omega : 0 + 1 ≤ 485), (by omega : 8 + (2 + 11) + 0 ≤ 19326)⟩ ⟨Nat.zero_le _, Nat.zero_le _⟩ rfl rfl (Nat.le_of_ble_eq_true rfl) dX4_readItem_65 (wc_D hA cy _) ?_
      obtain ⟨g1, h⟩ := gd_of h
      obtain rfl := Option.some.inj h
      exact v_zret C (bzb_in g1) dX4_readItem_68
set_option maxHeartbeats 4000000 in
set_option maxRecDepth 20000 in
theorem b_Reader_readItem_50 {p : Program} {l : Launch} {e : Env} {s : State} {m : MethodId} {args : Array Value} {below : List Frame} {meth : Method} {c : Code} {D : va_G} {cy : Nat → ClassId} {ad : Nat → Nat} {q : Int32 × CS}  (C : vC p s m args meth c cX4_readItem 6 (some .boolean) RX4 D (cyT cy)) (hA : adOK ad) {k51 : Int32 → Int32 → CS → Option (Int32 × CS)} (hk51 : ∀ (x1 : Int32) (s0 : Int32) (σ : CS), k51 x1 s0 σ = some q → V p l e { frames := 485, cells := 0, slots := 0, locals := 19326 } s m args below meth c D (inC ad) 6 (MQ below (vQ D (inC ad) (some (.int q.1)) (wc cy ad q.2)) args s 0 0 (inC ad)) 0 0 (wc cy ad σ) 51 [(0, .ref (ad 43)), (1, .int x1)] [.int s0]) : ∀ (x1 : Int32) (σ : CS), B_Reader_readItem_50 k51 x1 σ = some q → V p l e { frames := 485, cells := 0, slots := 0, locals := 19326 } s m args below meth c D (inC ad) 6 (MQ below (vQ D (inC ad) (some (.int q.1)) (wc cy ad q.2)) args s 0 0 (inC ad)) 0 0 (wc cy ad σ) 50 [(0, .ref (ad 43)), (1, .int x1)] [] := by
  intro x1 σ h
  rw [B_Reader_readItem_50] at h
  refine v_iconst C 0 dX4_readItem_50 (by decide) ?_
  exact v_sub [0, 1] rfl (hk51 _ _ _ h)
set_option maxHeartbeats 4000000 in
set_option maxRecDepth 20000 in
theorem b_Reader_readItem_25 {p : Program} {l : Launch} {e : Env} {s : State} {m : MethodId} {args : Array Value} {below : List Frame} {meth : Method} {c : Code} {D : va_G} {cy : Nat → ClassId} {ad : Nat → Nat} {q : Int32 × CS}  (C : vC p s m args meth c cX4_readItem 6 (some .boolean) RX4 D (cyT cy)) (hA : adOK ad) : ∀ (s0 : Int32) (σ : CS), B_Reader_readItem_25 s0 σ = some q → V p l e { frames := 485, cells := 0, slots := 0, locals := 19326 } s m args below meth c D (inC ad) 6 (MQ below (vQ D (inC ad) (some (.int q.1)) (wc cy ad q.2)) args s 0 0 (inC ad)) 0 0 (wc cy ad σ) 25 [(0, .ref (ad 43))] [.int s0] := by
  intro s0 σ h
  rw [B_Reader_readItem_25] at h
  refine v_istore_n C [(1, .int s0), (0, .ref (ad 43))] dX4_readItem_25 rfl (by decide) rfl ?_
  refine v_aload_n C 1 dX4_readItem_26 rfl rfl ?_
  obtain ⟨q1, hq1, h⟩ := bd_of h
  refine c_call C [] [] (c_Reader_peek hA _ hq1) hY_Reader_peek rfl (by decide) (okS _ 43 (by decide) rfl) ml_4_99 ⟨(by omega : 0 + 1 ≤ 485), (by omega : 8 + (1 + 11) + 0 ≤ 19326)⟩ ⟨Nat.zero_le _, Nat.zero_le _⟩ rfl rfl (Nat.le_of_ble_eq_true rfl) dX4_readItem_27 (wc_D hA cy _) ?_
  refine v_bipush C 107 dX4_readItem_30 (by decide) ?_
  refine v_icmp_ne C 50 dX4_readItem_32 (by decide) (fun c1 => ?_) (fun c1 => ?_)
  · rw [if_neg c1] at h
    exact v_sub [1, 0] rfl ((b_Reader_readItem_50 C hA (b_Reader_readItem_51 C hA)) _ _ h)
  · rw [if_pos c1] at h
    refine v_aload_n C 1 dX4_readItem_35 rfl rfl ?_
    refine c_getS C 34 fl_4_25 rfl rfl (by decide) (okS _ 43 (by decide) rfl) dX4_readItem_36 ?_
    refine c_getIN C fl_4_106 rfl (okS _ 34 (by decide) rfl) dX4_readItem_39 ?_
    refine v_iconst C 4 dX4_readItem_42 (by decide) ?_
    refine v_icmp_ge C 50 dX4_readItem_43 (by decide) (fun c2 => ?_) (fun c2 => ?_)
    · rw [if_pos c2] at h
      exact v_sub [1, 0] rfl ((b_Reader_readItem_50 C hA (b_Reader_readItem_51 C hA)) _ _ h)
    · rw [if_neg c2] at h
      refine v_iconst C 1 dX4_readItem_46 (by decide) ?_
      refine v_goto C 51 dX4_readItem_47 (by decide) ?_
      exact v_sub [1, 0] rfl ((b_Reader_readItem_51 C hA) _ _ _ h)
set_option maxHeartbeats 4000000 in
set_option maxRecDepth 20000 in
theorem b_Reader_readItem_24 {p : Program} {l : Launch} {e : Env} {s : State} {m : MethodId} {args : Array Value} {below : List Frame} {meth : Method} {c : Code} {D : va_G} {cy : Nat → ClassId} {ad : Nat → Nat} {q : Int32 × CS}  (C : vC p s m args meth c cX4_readItem 6 (some .boolean) RX4 D (cyT cy)) (hA : adOK ad) {k25 : Int32 → CS → Option (Int32 × CS)} (hk25 : ∀ (s0 : Int32) (σ : CS), k25 s0 σ = some q → V p l e { frames := 485, cells := 0, slots := 0, locals := 19326 } s m args below meth c D (inC ad) 6 (MQ below (vQ D (inC ad) (some (.int q.1)) (wc cy ad q.2)) args s 0 0 (inC ad)) 0 0 (wc cy ad σ) 25 [(0, .ref (ad 43))] [.int s0]) : ∀ (σ : CS), B_Reader_readItem_24 k25 σ = some q → V p l e { frames := 485, cells := 0, slots := 0, locals := 19326 } s m args below meth c D (inC ad) 6 (MQ below (vQ D (inC ad) (some (.int q.1)) (wc cy ad q.2)) args s 0 0 (inC ad)) 0 0 (wc cy ad σ) 24 [(0, .ref (ad 43))] [] := by
  intro σ h
  rw [B_Reader_readItem_24] at h
  refine v_iconst C 0 dX4_readItem_24 (by decide) ?_
  exact v_sub [0] rfl (hk25 _ _ h)
set_option maxHeartbeats 4000000 in
set_option maxRecDepth 20000 in
theorem c_Reader_readItem {l : Launch} {D : va_G} {cy : Nat → ClassId} {ad : Nat → Nat} {q : Int32 × CS} (hA : adOK ad) (σ : CS) (h : f_Reader_readItem σ = some q) : MV l D (cyT cy) (inC ad) yX4_readItem cX4_readItem 6 (some .boolean) (485) (19326) 0 0 [.ref (ad 43)] (wc cy ad σ) (some (.int q.1)) (wc cy ad q.2) := by
  refine MV.of (by decide) (wc_D hA cy σ) (Nat.le_of_ble_eq_true rfl) [(0, .ref (ad 43))] rfl ?_
  intro p e s m args below meth c C
  rw [f_Reader_readItem] at h
  refine v_aload_n C 0 dX4_readItem_0 rfl rfl ?_
  obtain ⟨q1, hq1, h⟩ := bd_of h
  refine c_call C [] [] (c_Reader_peek hA _ hq1) hY_Reader_peek rfl (by decide) (okS _ 43 (by decide) rfl) ml_4_99 ⟨(by omega : 0 + 1 ≤ 485), (by omega : 8 + (1 + 11) + 0 ≤ 19326)⟩ ⟨Nat.zero_le _, Nat.zero_le _⟩ rfl rfl (Nat.le_of_ble_eq_true rfl) dX4_readItem_1 (wc_D hA cy _) ?_
  refine v_bipush C 102 dX4_readItem_4 (by decide) ?_
  refine v_icmp_ne C 24 dX4_readItem_6 (by decide) (fun c1 => ?_) (fun c1 => ?_)
  · rw [if_neg c1] at h
    exact v_sub [0] rfl ((b_Reader_readItem_24 C hA (b_Reader_readItem_25 C hA)) _ h)
  · rw [if_pos c1] at h
    refine v_aload_n C 0 dX4_readItem_9 rfl rfl ?_
    refine c_getS C 34 fl_4_25 rfl rfl (by decide) (okS _ 43 (by decide) rfl) dX4_readItem_10 ?_
    refine c_getIN C fl_4_103 rfl (okS _ 34 (by decide) rfl) dX4_readItem_13 ?_
    refine v_iconst C 3 dX4_readItem_16 (by decide) ?_
    refine v_icmp_ge C 24 dX4_readItem_17 (by decide) (fun c2 => ?_) (fun c2 => ?_)
    · rw [if_pos c2] at h
      exact v_sub [0] rfl ((b_Reader_readItem_24 C hA (b_Reader_readItem_25 C hA)) _ h)
    · rw [if_neg c2] at h
      refine v_iconst C 1 dX4_readItem_20 (by decide) ?_
      refine v_goto C 25 dX4_readItem_21 (by decide) ?_
      exact v_sub [0] rfl ((b_Reader_readItem_25 C hA) _ _ h)
set_option maxHeartbeats 4000000 in
set_option maxRecDepth 20000 in
theorem b_Shelf_add_29 {p : Program} {l : Launch} {e : Env} {s : State} {m : MethodId} {args : Array Value} {below : List Frame} {meth : Method} {c : Code} {D : va_G} {cy : Nat → ClassId} {ad : Nat → Nat} {q : Int32 × CS} {t : Nat}  (C : vC p s m args meth c cX5_add 2 none RX5 D (cyT cy)) (hA : adOK ad) : ∀ (σ : CS), B_Shelf_add_29 t σ = some q → V p l e { frames := 0, cells := 0, slots := 0, locals := 0 } s m args below meth c D (inC ad) 2 (MQ below (vQ D (inC ad) none (wc cy ad q.2)) args s 0 0 (inC ad)) 0 0 (wc cy ad σ) 29 [(0, .ref (ad t))] [] := by
  intro σ h
  rw [B_Shelf_add_29] at h
  obtain rfl := Option.some.inj h
  exact v_vret C dX5_add_29
set_option maxHeartbeats 4000000 in
set_option maxRecDepth 20000 in
theorem c_Shelf_add {l : Launch} {D : va_G} {cy : Nat → ClassId} {ad : Nat → Nat} {q : Int32 × CS} (hA : adOK ad) (t : Nat) (x1 : Option Nat) (σ : CS) (h : f_Shelf_add t x1 σ = some q) : MV l D (cyT cy) (inC ad) yX5_add cX5_add 2 none (0) (0) 0 0 [.ref (ad t), va_rf (Option.map ad x1)] (wc cy ad σ) none (wc cy ad q.2) := by
  refine MV.of (by decide) (wc_D hA cy σ) (by cases x1 <;> exact Nat.le_of_ble_eq_true rfl) [(0, .ref (ad t)), (1, va_rf (Option.map ad x1))] (by cases x1 <;> rfl) ?_
  intro p e s m args below meth c C
  rw [f_Shelf_add] at h
  refine v_aload_n C 0 dX5_add_0 rfl rfl ?_
  obtain ⟨g1, h⟩ := gd_of h
  refine c_getI C fl_5_17 rfl g1 dX5_add_1 ?_
  refine v_bipush C 6 dX5_add_4 (by decide) ?_
  refine v_icmp_ge C 29 dX5_add_6 (by decide) (fun c1 => ?_) (fun c1 => ?_)
  · rw [if_pos c1] at h
    exact v_sub [0] rfl ((b_Shelf_add_29 C hA) _ h)
  · rw [if_neg c1] at h
    refine v_aload_n C 0 dX5_add_9 rfl rfl ?_
    obtain ⟨g2, h⟩ := gd_of h
    refine c_getR C fl_5_11 rfl g2 dX5_add_10 ?_
    refine v_aload_n C 0 dX5_add_13 rfl rfl ?_
    obtain ⟨g3, h⟩ := gd_of h
    refine c_getI C fl_5_17 rfl g3 dX5_add_14 ?_
    refine c_aload_n C x1 1 dX5_add_17 rfl rfl ?_
    obtain ⟨a1, ha1, h⟩ := bd_of h
    rw [ha1]
    obtain ⟨g4, h⟩ := gd_of h
    obtain ⟨g5, h⟩ := gd_of h
    obtain ⟨g6, h⟩ := gd_of h
    refine c_aast C (q := (RX0, TX0, 2)) (ci := 0) x1 g4 (by decide) rfl rfl (by decide) (srf_E (σ := σ) g4) (okr_at g6) (ix_in g5) dX5_add_18 ?_
    refine v_aload_n C 0 dX5_add_19 rfl rfl ?_
    refine v_dup C dX5_add_20 rfl ?_
    obtain ⟨g7, h⟩ := gd_of h
    refine c_getI C fl_5_17 rfl g7 dX5_add_21 ?_
    refine v_iconst C 1 dX5_add_24 (by decide) ?_
    refine v_iadd C dX5_add_25 ?_
    obtain ⟨g8, h⟩ := gd_of h
    refine c_putI C fl_5_17 fw_5_1 rfl (by decide) g8 dX5_add_26 ?_
    exact v_sub [0] rfl ((b_Shelf_add_29 C hA) _ h)
set_option maxHeartbeats 4000000 in
set_option maxRecDepth 20000 in
theorem b_Shelf_remove_61 {p : Program} {l : Launch} {e : Env} {s : State} {m : MethodId} {args : Array Value} {below : List Frame} {meth : Method} {c : Code} {D : va_G} {cy : Nat → ClassId} {ad : Nat → Nat} {q : Int32 × CS} {t : Nat}  (C : vC p s m args meth c cX5_remove 3 none RX5 D (cyT cy)) (hA : adOK ad) : ∀ (σ : CS), B_Shelf_remove_61 t σ = some q → V p l e { frames := 0, cells := 0, slots := 0, locals := 0 } s m args below meth c D (inC ad) 3 (MQ below (vQ D (inC ad) none (wc cy ad q.2)) args s 0 0 (inC ad)) 0 0 (wc cy ad σ) 61 [(0, .ref (ad t))] [] := by
  intro σ h
  rw [B_Shelf_remove_61] at h
  obtain rfl := Option.some.inj h
  exact v_vret C dX5_remove_61
set_option maxHeartbeats 4000000 in
set_option maxRecDepth 20000 in
theorem l_Shelf_remove_25 {p : Program} {l : Launch} {e : Env} {s : State} {m : MethodId} {args : Array Value} {below : List Frame} {meth : Method} {c : Code} {D : va_G} {cy : Nat → ClassId} {ad : Nat → Nat} {q : Int32 × CS} {t : Nat}  (C : vC p s m args meth c cX5_remove 3 none RX5 D (cyT cy)) (hA : adOK ad) : ∀ (n : Nat) (x2 : Int32) (σ : CS), L_Shelf_remove_25 t n x2 σ = some q → V p l e { frames := 0, cells := 0, slots := 0, locals := 0 } s m args below meth c D (inC ad) 3 (MQ below (vQ D (inC ad) none (wc cy ad q.2)) args s 0 0 (inC ad)) 0 0 (wc cy ad σ) 25 [(0, .ref (ad t)), (2, .int x2)] [] := by
  intro n
  induction n with
  | zero =>
    intro x2 σ h
    rw [L_Shelf_remove_25.eq_1] at h
    cases h
  | succ n ih =>
    intro x2 σ h
    rw [L_Shelf_remove_25.eq_2] at h
    refine v_iload_n C 1 dX5_remove_25 rfl rfl ?_
    refine v_aload_n C 0 dX5_remove_26 rfl rfl ?_
    obtain ⟨g1, h⟩ := gd_of h
    refine c_getI C fl_5_17 rfl g1 dX5_remove_27 ?_
    refine v_icmp_ge C 61 dX5_remove_30 (by decide) (fun c1 => ?_) (fun c1 => ?_)
    · rw [if_pos c1] at h
      exact v_sub [0] rfl ((b_Shelf_remove_61 C hA) _ h)
    · rw [if_neg c1] at h
      refine v_iload_n C 1 dX5_remove_33 rfl rfl ?_
      refine v_iconst C 1 dX5_remove_34 (by decide) ?_
      refine v_iadd C dX5_remove_35 ?_
      refine v_bipush C 6 dX5_remove_36 (by decide) ?_
      refine v_icmp_ge C 61 dX5_remove_38 (by decide) (fun c2 => ?_) (fun c2 => ?_)
      · rw [if_pos c2] at h
        exact v_sub [0] rfl ((b_Shelf_remove_61 C hA) _ h)
      · rw [if_neg c2] at h
        refine v_aload_n C 0 dX5_remove_41 rfl rfl ?_
        obtain ⟨g2, h⟩ := gd_of h
        refine c_getR C fl_5_11 rfl g2 dX5_remove_42 ?_
        refine v_iload_n C 1 dX5_remove_45 rfl rfl ?_
        refine v_aload_n C 0 dX5_remove_46 rfl rfl ?_
        obtain ⟨g3, h⟩ := gd_of h
        refine c_getR C fl_5_11 rfl g3 dX5_remove_47 ?_
        refine v_iload_n C 1 dX5_remove_50 rfl rfl ?_
        refine v_iconst C 1 dX5_remove_51 (by decide) ?_
        refine v_iadd C dX5_remove_52 ?_
        obtain ⟨a1, ha1, h⟩ := bd_of h
        rw [ha1]
        obtain ⟨g4, h⟩ := gd_of h
        obtain ⟨g5, h⟩ := gd_of h
        refine c_aald C g4 (by decide) rfl (ix_in g5) dX5_remove_53 ?_
        obtain ⟨g6, h⟩ := gd_of h
        obtain ⟨g7, h⟩ := gd_of h
        obtain ⟨g8, h⟩ := gd_of h
        refine c_aast C (q := (RX0, TX0, 2)) (ci := 0) (rfv σ a1 ((x2 + 1) : Int32).toNatClampNeg) g6 (by decide) rfl rfl (by decide) (srf_E (σ := σ) g6) (okr_at g8) (ix_in g7) dX5_remove_54 ?_
        refine v_iinc C (x2 + 1) 1 [(2, .int (x2 + 1)), (0, .ref (ad t))] dX5_remove_55 rfl rfl (by decide) rfl ?_
        refine v_goto C 25 dX5_remove_58 (by decide) ?_
        exact v_sub [1, 0] rfl (ih _ _ h)
set_option maxHeartbeats 4000000 in
set_option maxRecDepth 20000 in
theorem b_Shelf_remove_12 {p : Program} {l : Launch} {e : Env} {s : State} {m : MethodId} {args : Array Value} {below : List Frame} {meth : Method} {c : Code} {D : va_G} {cy : Nat → ClassId} {ad : Nat → Nat} {q : Int32 × CS} {t : Nat}  (C : vC p s m args meth c cX5_remove 3 none RX5 D (cyT cy)) (hA : adOK ad) : ∀ (σ : CS), B_Shelf_remove_12 t σ = some q → V p l e { frames := 0, cells := 0, slots := 0, locals := 0 } s m args below meth c D (inC ad) 3 (MQ below (vQ D (inC ad) none (wc cy ad q.2)) args s 0 0 (inC ad)) 0 0 (wc cy ad σ) 12 [(0, .ref (ad t))] [] := by
  intro σ h
  rw [B_Shelf_remove_12] at h
  obtain rfl := Option.some.inj h
  exact v_vret C dX5_remove_12
set_option maxHeartbeats 4000000 in
set_option maxRecDepth 20000 in
theorem c_Shelf_remove {l : Launch} {D : va_G} {cy : Nat → ClassId} {ad : Nat → Nat} {q : Int32 × CS} (hA : adOK ad) (t : Nat) (x1 : Int32) (σ : CS) (h : f_Shelf_remove t x1 σ = some q) : MV l D (cyT cy) (inC ad) yX5_remove cX5_remove 3 none (0) (0) 0 0 [.ref (ad t), .int x1] (wc cy ad σ) none (wc cy ad q.2) := by
  refine MV.of (by decide) (wc_D hA cy σ) (Nat.le_of_ble_eq_true rfl) [(0, .ref (ad t)), (1, .int x1)] rfl ?_
  intro p e s m args below meth c C
  rw [f_Shelf_remove] at h
  refine v_iload_n C 1 dX5_remove_0 rfl rfl ?_
  refine v_if_lt C 12 dX5_remove_1 (by decide) (fun c1 => ?_) (fun c1 => ?_)
  · rw [if_pos c1] at h
    exact v_sub [0] rfl ((b_Shelf_remove_12 C hA) _ h)
  · rw [if_neg c1] at h
    refine v_iload_n C 1 dX5_remove_4 rfl rfl ?_
    refine v_aload_n C 0 dX5_remove_5 rfl rfl ?_
    obtain ⟨g1, h⟩ := gd_of h
    refine c_getI C fl_5_17 rfl g1 dX5_remove_6 ?_
    refine v_icmp_lt C 13 dX5_remove_9 (by decide) (fun c2 => ?_) (fun c2 => ?_)
    · rw [if_pos c2] at h
      refine v_aload_n C 0 dX5_remove_13 rfl rfl ?_
      refine v_dup C dX5_remove_14 rfl ?_
      obtain ⟨g2, h⟩ := gd_of h
      refine c_getI C fl_5_17 rfl g2 dX5_remove_15 ?_
      refine v_iconst C 1 dX5_remove_18 (by decide) ?_
      refine v_isub C dX5_remove_19 ?_
      obtain ⟨g3, h⟩ := gd_of h
      refine c_putI C fl_5_17 fw_5_1 rfl (by decide) g3 dX5_remove_20 ?_
      refine v_iload_n C 1 dX5_remove_23 rfl rfl ?_
      refine v_istore_n C [(2, .int x1), (0, .ref (ad t)), (1, .int x1)] dX5_remove_24 rfl (by decide) rfl ?_
      exact v_sub [1, 0] rfl ((l_Shelf_remove_25 C hA 10000) _ _ h)
    · rw [if_neg c2] at h
      exact v_sub [0] rfl ((b_Shelf_remove_12 C hA) _ h)
set_option maxHeartbeats 4000000 in
set_option maxRecDepth 20000 in
theorem c_Shelf_empty {l : Launch} {D : va_G} {cy : Nat → ClassId} {ad : Nat → Nat} {q : Int32 × CS} (hA : adOK ad) (t : Nat) (σ : CS) (h : f_Shelf_empty t σ = some q) : MV l D (cyT cy) (inC ad) yX5_empty cX5_empty 1 none (0) (0) 0 0 [.ref (ad t)] (wc cy ad σ) none (wc cy ad q.2) := by
  refine MV.of (by decide) (wc_D hA cy σ) (Nat.le_of_ble_eq_true rfl) [(0, .ref (ad t))] rfl ?_
  intro p e s m args below meth c C
  rw [f_Shelf_empty] at h
  refine v_aload_n C 0 dX5_empty_0 rfl rfl ?_
  refine v_iconst C 0 dX5_empty_1 (by decide) ?_
  obtain ⟨g1, h⟩ := gd_of h
  refine c_putI C fl_5_17 fw_5_1 rfl (by decide) g1 dX5_empty_2 ?_
  obtain rfl := Option.some.inj h
  exact v_vret C dX5_empty_5
set_option maxHeartbeats 4000000 in
set_option maxRecDepth 20000 in
theorem b_Sights_add_38 {p : Program} {l : Launch} {e : Env} {s : State} {m : MethodId} {args : Array Value} {below : List Frame} {meth : Method} {c : Code} {D : va_G} {cy : Nat → ClassId} {ad : Nat → Nat} {q : Int32 × CS}  (C : vC p s m args meth c cX6_add 3 none RX6 D (cyT cy)) (hA : adOK ad) : ∀ (σ : CS), B_Sights_add_38 σ = some q → V p l e { frames := 0, cells := 0, slots := 0, locals := 0 } s m args below meth c D (inC ad) 3 (MQ below (vQ D (inC ad) none (wc cy ad q.2)) args s 0 0 (inC ad)) 0 0 (wc cy ad σ) 38 [(0, .ref (ad 25))] [] := by
  intro σ h
  rw [B_Sights_add_38] at h
  obtain rfl := Option.some.inj h
  exact v_vret C dX6_add_38
set_option maxHeartbeats 4000000 in
set_option maxRecDepth 20000 in
theorem c_Sights_add {l : Launch} {D : va_G} {cy : Nat → ClassId} {ad : Nat → Nat} {q : Int32 × CS} (hA : adOK ad) (x1 : Option Nat) (x2 : Int32) (σ : CS) (h : f_Sights_add x1 x2 σ = some q) : MV l D (cyT cy) (inC ad) yX6_add cX6_add 3 none (0) (0) 0 0 [.ref (ad 25), va_rf (Option.map ad x1), .int x2] (wc cy ad σ) none (wc cy ad q.2) := by
  refine MV.of (by decide) (wc_D hA cy σ) (by cases x1 <;> exact Nat.le_of_ble_eq_true rfl) [(0, .ref (ad 25)), (1, va_rf (Option.map ad x1)), (2, .int x2)] (by cases x1 <;> rfl) ?_
  intro p e s m args below meth c C
  rw [f_Sights_add] at h
  refine v_aload_n C 0 dX6_add_0 rfl rfl ?_
  refine c_getI C fl_6_21 rfl (okS _ 25 (by decide) rfl) dX6_add_1 ?_
  refine v_iconst C 4 dX6_add_4 (by decide) ?_
  refine v_icmp_ge C 38 dX6_add_5 (by decide) (fun c1 => ?_) (fun c1 => ?_)
  · rw [if_pos c1] at h
    exact v_sub [0] rfl ((b_Sights_add_38 C hA) _ h)
  · rw [if_neg c1] at h
    refine v_aload_n C 0 dX6_add_8 rfl rfl ?_
    refine c_getS C 26 fl_6_11 rfl rfl (by decide) (okS _ 25 (by decide) rfl) dX6_add_9 ?_
    refine v_aload_n C 0 dX6_add_12 rfl rfl ?_
    refine c_getI C fl_6_21 rfl (okS _ 25 (by decide) rfl) dX6_add_13 ?_
    refine c_aload_n C x1 1 dX6_add_16 rfl rfl ?_
    obtain ⟨g1, h⟩ := gd_of h
    obtain ⟨g2, h⟩ := gd_of h
    refine c_aast C (q := (RX0, TX0, 2)) (ci := 0) x1 (okS _ 26 (by decide) rfl) (by decide) rfl rfl (by decide) (srf_E (σ := σ) (okS _ 26 (by decide) rfl)) (okr_at g2) (ix_in g1) dX6_add_17 ?_
    refine v_aload_n C 0 dX6_add_18 rfl rfl ?_
    refine c_getS C 27 fl_6_17 rfl rfl (by decide) (okS _ 25 (by decide) rfl) dX6_add_19 ?_
    refine v_aload_n C 0 dX6_add_22 rfl rfl ?_
    refine c_getI C fl_6_21 rfl (okS _ 25 (by decide) rfl) dX6_add_23 ?_
    refine v_iload_n C 2 dX6_add_26 rfl rfl ?_
    obtain ⟨g3, h⟩ := gd_of h
    refine c_iast C (okS _ 27 (by decide) rfl) (ix_in g3) dX6_add_27 ?_
    refine v_aload_n C 0 dX6_add_28 rfl rfl ?_
    refine v_dup C dX6_add_29 rfl ?_
    refine c_getI C fl_6_21 rfl (okS _ 25 (by decide) rfl) dX6_add_30 ?_
    refine v_iconst C 1 dX6_add_33 (by decide) ?_
    refine v_iadd C dX6_add_34 ?_
    refine c_putI C fl_6_21 fw_6_2 rfl (by decide) (okS _ 25 (by decide) rfl) dX6_add_35 ?_
    exact v_sub [0] rfl ((b_Sights_add_38 C hA) _ h)
set_option maxHeartbeats 4000000 in
set_option maxRecDepth 20000 in
theorem b_Sights_agreeWith_43 {p : Program} {l : Launch} {e : Env} {s : State} {m : MethodId} {args : Array Value} {below : List Frame} {meth : Method} {c : Code} {D : va_G} {cy : Nat → ClassId} {ad : Nat → Nat} {q : Int32 × CS}  (C : vC p s m args meth c cX6_agreeWith 3 (some .boolean) RX6 D (cyT cy)) (hA : adOK ad) : ∀ (σ : CS), B_Sights_agreeWith_43 σ = some q → V p l e { frames := 3, cells := 0, slots := 0, locals := 64 } s m args below meth c D (inC ad) 3 (MQ below (vQ D (inC ad) (some (.int q.1)) (wc cy ad q.2)) args s 0 0 (inC ad)) 0 0 (wc cy ad σ) 43 [(0, .ref (ad 25))] [] := by
  intro σ h
  rw [B_Sights_agreeWith_43] at h
  refine v_iconst C 0 dX6_agreeWith_43 (by decide) ?_
  obtain rfl := Option.some.inj h
  exact v_zret C (Or.inl rfl) dX6_agreeWith_44
set_option maxHeartbeats 4000000 in
set_option maxRecDepth 20000 in
theorem b_Sights_agreeWith_51 {p : Program} {l : Launch} {e : Env} {s : State} {m : MethodId} {args : Array Value} {below : List Frame} {meth : Method} {c : Code} {D : va_G} {cy : Nat → ClassId} {ad : Nat → Nat} {q : Int32 × CS}  (C : vC p s m args meth c cX6_agreeWith 3 (some .boolean) RX6 D (cyT cy)) (hA : adOK ad) : ∀ (σ : CS), B_Sights_agreeWith_51 σ = some q → V p l e { frames := 3, cells := 0, slots := 0, locals := 64 } s m args below meth c D (inC ad) 3 (MQ below (vQ D (inC ad) (some (.int q.1)) (wc cy ad q.2)) args s 0 0 (inC ad)) 0 0 (wc cy ad σ) 51 [(0, .ref (ad 25))] [] := by
  intro σ h
  rw [B_Sights_agreeWith_51] at h
  refine v_iconst C 1 dX6_agreeWith_51 (by decide) ?_
  obtain rfl := Option.some.inj h
  exact v_zret C (Or.inr rfl) dX6_agreeWith_52
set_option maxHeartbeats 4000000 in
set_option maxRecDepth 20000 in
theorem l_Sights_agreeWith_2 {p : Program} {l : Launch} {e : Env} {s : State} {m : MethodId} {args : Array Value} {below : List Frame} {meth : Method} {c : Code} {D : va_G} {cy : Nat → ClassId} {ad : Nat → Nat} {q : Int32 × CS}  (C : vC p s m args meth c cX6_agreeWith 3 (some .boolean) RX6 D (cyT cy)) (hA : adOK ad) : ∀ (n : Nat) (x1 : Option Nat) (x2 : Int32) (σ : CS), L_Sights_agreeWith_2 n x1 x2 σ = some q → V p l e { frames := 3, cells := 0, slots := 0, locals := 64 } s m args below meth c D (inC ad) 3 (MQ below (vQ D (inC ad) (some (.int q.1)) (wc cy ad q.2)) args s 0 0 (inC ad)) 0 0 (wc cy ad σ) 2 [(0, .ref (ad 25)), (1, va_rf (Option.map ad x1)), (2, .int x2)] [] := by
  intro n
  induction n with
  | zero =>
    intro x1 x2 σ h
    rw [L_Sights_agreeWith_2.eq_1] at h
    cases h
  | succ n ih =>
    intro x1 x2 σ h
    rw [L_Sights_agreeWith_2.eq_2] at h
    refine v_iload_n C 2 dX6_agreeWith_2 rfl rfl ?_
    refine v_aload_n C 0 dX6_agreeWith_3 rfl rfl ?_
    refine c_getI C fl_6_21 rfl (okS _ 25 (by decide) rfl) dX6_agreeWith_4 ?_
    refine v_icmp_ge C 51 dX6_agreeWith_7 (by decide) (fun c1 => ?_) (fun c1 => ?_)
    · rw [if_pos c1] at h
      exact v_sub [0] rfl ((b_Sights_agreeWith_51 C hA) _ h)
    · rw [if_neg c1] at h
      refine v_iload_n C 2 dX6_agreeWith_10 rfl rfl ?_
      refine v_iconst C 4 dX6_agreeWith_11 (by decide) ?_
      refine v_icmp_ge C 51 dX6_agreeWith_12 (by decide) (fun c2 => ?_) (fun c2 => ?_)
      · rw [if_pos c2] at h
        exact v_sub [0] rfl ((b_Sights_agreeWith_51 C hA) _ h)
      · rw [if_neg c2] at h
        refine v_aload_n C 0 dX6_agreeWith_15 rfl rfl ?_
        refine c_getS C 26 fl_6_11 rfl rfl (by decide) (okS _ 25 (by decide) rfl) dX6_agreeWith_16 ?_
        refine v_iload_n C 2 dX6_agreeWith_19 rfl rfl ?_
        obtain ⟨g1, h⟩ := gd_of h
        refine c_aald C (okS _ 26 (by decide) rfl) (by decide) rfl (ix_in g1) dX6_agreeWith_20 ?_
        refine c_ifnull C 43 dX6_agreeWith_21 (by decide) (fun c3 => ?_) (fun a1 c3 => ?_)
        · try rw [c3]
          replace h := el_n c3 h
          exact v_sub [0] rfl ((b_Sights_agreeWith_43 C hA) _ h)
        · try rw [c3]
          replace h := el_s c3 h
          refine c_aload_n C x1 1 dX6_agreeWith_24 rfl rfl ?_
          refine v_aload_n C 0 dX6_agreeWith_25 rfl rfl ?_
          refine c_getS C 26 fl_6_11 rfl rfl (by decide) (okS _ 25 (by decide) rfl) dX6_agreeWith_26 ?_
          refine v_iload_n C 2 dX6_agreeWith_29 rfl rfl ?_
          obtain ⟨g2, h⟩ := gd_of h
          refine c_aald C (okS _ 26 (by decide) rfl) (by decide) rfl (ix_in g2) dX6_agreeWith_30 ?_
          obtain ⟨a2, ha2, h⟩ := bd_of h
          rw [ha2]
          obtain ⟨g3, h⟩ := gd_of h
          obtain ⟨q1, hq1, h⟩ := bd_of h
          refine c_call C [va_rf (Option.map ad (rfv σ 26 (x2 : Int32).toNatClampNeg))] [] (c_Entry_likeness hA _ _ _ hq1) hY_Entry_likeness rfl (by decide) g3 ml_6_25 ⟨(by omega : 2 + 1 ≤ 3), (by omega : 8 + (2 + 11) + 43 ≤ 64)⟩ ⟨Nat.zero_le _, Nat.zero_le _⟩ rfl rfl (Nat.le_of_ble_eq_true rfl) dX6_agreeWith_31 (wc_D hA cy _) ?_
          refine v_aload_n C 0 dX6_agreeWith_34 rfl rfl ?_
          refine c_getS C 27 fl_6_17 rfl rfl (by decide) (okS _ 25 (by decide) rfl) dX6_agreeWith_35 ?_
          refine v_iload_n C 2 dX6_agreeWith_38 rfl rfl ?_
          obtain ⟨g4, h⟩ := gd_of h
          refine c_iald C (okS _ 27 (by decide) rfl) (ix_in g4) dX6_agreeWith_39 ?_
          refine v_icmp_eq C 45 dX6_agreeWith_40 (by decide) (fun c4 => ?_) (fun c4 => ?_)
          · rw [if_pos c4] at h
            refine v_iinc C (x2 + 1) 2 [(2, .int (x2 + 1)), (0, .ref (ad 25)), (1, .ref (ad a2))] dX6_agreeWith_45 rfl rfl (by decide) rfl ?_
            refine v_goto C 2 dX6_agreeWith_48 (by decide) ?_
            exact v_sub [1, 2, 0] rfl (ih _ _ _ h)
          · rw [if_neg c4] at h
            exact v_sub [0] rfl ((b_Sights_agreeWith_43 C hA) _ h)
set_option maxHeartbeats 4000000 in
set_option maxRecDepth 20000 in
theorem c_Sights_agreeWith {l : Launch} {D : va_G} {cy : Nat → ClassId} {ad : Nat → Nat} {q : Int32 × CS} (hA : adOK ad) (x1 : Option Nat) (σ : CS) (h : f_Sights_agreeWith x1 σ = some q) : MV l D (cyT cy) (inC ad) yX6_agreeWith cX6_agreeWith 3 (some .boolean) (3) (64) 0 0 [.ref (ad 25), va_rf (Option.map ad x1)] (wc cy ad σ) (some (.int q.1)) (wc cy ad q.2) := by
  refine MV.of (by decide) (wc_D hA cy σ) (by cases x1 <;> exact Nat.le_of_ble_eq_true rfl) [(0, .ref (ad 25)), (1, va_rf (Option.map ad x1))] (by cases x1 <;> rfl) ?_
  intro p e s m args below meth c C
  rw [f_Sights_agreeWith] at h
  refine v_iconst C 0 dX6_agreeWith_0 (by decide) ?_
  refine v_istore_n C [(2, .int 0), (0, .ref (ad 25)), (1, va_rf (Option.map ad x1))] dX6_agreeWith_1 rfl (by decide) (by simp [List.filter, cat_rf]) ?_
  exact v_sub [1, 2, 0] rfl ((l_Sights_agreeWith_2 C hA 10000) _ _ _ h)
set_option maxHeartbeats 4000000 in
set_option maxRecDepth 20000 in
theorem c_Sights_empty {l : Launch} {D : va_G} {cy : Nat → ClassId} {ad : Nat → Nat} {q : Int32 × CS} (hA : adOK ad) (σ : CS) (h : f_Sights_empty σ = some q) : MV l D (cyT cy) (inC ad) yX6_empty cX6_empty 1 none (0) (0) 0 0 [.ref (ad 25)] (wc cy ad σ) none (wc cy ad q.2) := by
  refine MV.of (by decide) (wc_D hA cy σ) (Nat.le_of_ble_eq_true rfl) [(0, .ref (ad 25))] rfl ?_
  intro p e s m args below meth c C
  rw [f_Sights_empty] at h
  refine v_aload_n C 0 dX6_empty_0 rfl rfl ?_
  refine v_iconst C 0 dX6_empty_1 (by decide) ?_
  refine c_putI C fl_6_21 fw_6_2 rfl (by decide) (okS _ 25 (by decide) rfl) dX6_empty_2 ?_
  obtain rfl := Option.some.inj h
  exact v_vret C dX6_empty_5
set_option maxHeartbeats 4000000 in
set_option maxRecDepth 20000 in
theorem b_Signs_answer_36 {p : Program} {l : Launch} {e : Env} {s : State} {m : MethodId} {args : Array Value} {below : List Frame} {meth : Method} {c : Code} {D : va_G} {cy : Nat → ClassId} {ad : Nat → Nat} {q : Int32 × CS}  (C : vC p s m args meth c cX7_answer 4 (some .int) RX7 D (cyT cy)) (hA : adOK ad) : ∀ (s0 : Int32) (σ : CS), B_Signs_answer_36 s0 σ = some q → V p l e { frames := 2, cells := 0, slots := 0, locals := 45 } s m args below meth c D (inC ad) 4 (MQ below (vQ D (inC ad) (some (.int q.1)) (wc cy ad q.2)) args s 0 0 (inC ad)) 0 0 (wc cy ad σ) 36 [(0, .ref (ad 34))] [.int s0] := by
  intro s0 σ h
  rw [B_Signs_answer_36] at h
  obtain rfl := Option.some.inj h
  exact v_iret C dX7_answer_36
set_option maxHeartbeats 4000000 in
set_option maxRecDepth 20000 in
theorem b_Signs_answer_34 {p : Program} {l : Launch} {e : Env} {s : State} {m : MethodId} {args : Array Value} {below : List Frame} {meth : Method} {c : Code} {D : va_G} {cy : Nat → ClassId} {ad : Nat → Nat} {q : Int32 × CS}  (C : vC p s m args meth c cX7_answer 4 (some .int) RX7 D (cyT cy)) (hA : adOK ad) {k36 : Int32 → CS → Option (Int32 × CS)} (hk36 : ∀ (s0 : Int32) (σ : CS), k36 s0 σ = some q → V p l e { frames := 2, cells := 0, slots := 0, locals := 45 } s m args below meth c D (inC ad) 4 (MQ below (vQ D (inC ad) (some (.int q.1)) (wc cy ad q.2)) args s 0 0 (inC ad)) 0 0 (wc cy ad σ) 36 [(0, .ref (ad 34))] [.int s0]) : ∀ (σ : CS), B_Signs_answer_34 k36 σ = some q → V p l e { frames := 2, cells := 0, slots := 0, locals := 45 } s m args below meth c D (inC ad) 4 (MQ below (vQ D (inC ad) (some (.int q.1)) (wc cy ad q.2)) args s 0 0 (inC ad)) 0 0 (wc cy ad σ) 34 [(0, .ref (ad 34))] [] := by
  intro σ h
  rw [B_Signs_answer_34] at h
  refine v_bipush C (-9) dX7_answer_34 (by decide) ?_
  exact v_sub [0] rfl (hk36 _ _ h)
set_option maxHeartbeats 4000000 in
set_option maxRecDepth 20000 in
theorem c_Signs_answer {l : Launch} {D : va_G} {cy : Nat → ClassId} {ad : Nat → Nat} {q : Int32 × CS} (hA : adOK ad) (x1 : Int32) (x2 : Int32) (σ : CS) (h : f_Signs_answer x1 x2 σ = some q) : MV l D (cyT cy) (inC ad) yX7_answer cX7_answer 4 (some .int) (2) (45) 0 0 [.ref (ad 34), .int x1, .int x2] (wc cy ad σ) (some (.int q.1)) (wc cy ad q.2) := by
  refine MV.of (by decide) (wc_D hA cy σ) (Nat.le_of_ble_eq_true rfl) [(0, .ref (ad 34)), (1, .int x1), (2, .int x2)] rfl ?_
  intro p e s m args below meth c C
  rw [f_Signs_answer] at h
  refine v_aload_n C 0 dX7_answer_0 rfl rfl ?_
  refine v_iload_n C 1 dX7_answer_1 rfl rfl ?_
  obtain ⟨q1, hq1, h⟩ := bd_of h
  refine c_call C [.int x1] [] (c_Signs_behind hA _ _ hq1) hY_Signs_behind rfl (by decide) (okS _ 34 (by decide) rfl) ml_7_69 ⟨(by omega : 1 + 1 ≤ 2), (by omega : 8 + (4 + 11) + 22 ≤ 45)⟩ ⟨Nat.zero_le _, Nat.zero_le _⟩ rfl rfl (Nat.le_of_ble_eq_true rfl) dX7_answer_2 (wc_D hA cy _) ?_
  refine v_iload_n C 1 dX7_answer_5 rfl rfl ?_
  refine v_isub C dX7_answer_6 ?_
  refine v_istore_n C [(3, .int (q1.1 - x1)), (0, .ref (ad 34)), (1, .int x1), (2, .int x2)] dX7_answer_7 rfl (by decide) rfl ?_
  refine v_iload_n C 3 dX7_answer_8 rfl rfl ?_
  refine v_iconst C (-1) dX7_answer_9 (by decide) ?_
  refine v_icmp_ne C 15 dX7_answer_10 (by decide) (fun c1 => ?_) (fun c1 => ?_)
  · rw [if_neg c1] at h
    refine v_iload_n C 3 dX7_answer_15 rfl rfl ?_
    refine v_if_lt C 34 dX7_answer_16 (by decide) (fun c2 => ?_) (fun c2 => ?_)
    · rw [if_pos c2] at h
      exact v_sub [1] rfl ((b_Signs_answer_34 C hA (b_Signs_answer_36 C hA)) _ h)
    · rw [if_neg c2] at h
      refine v_iload_n C 3 dX7_answer_19 rfl rfl ?_
      refine v_iload_n C 0 dX7_answer_20 rfl rfl ?_
      refine v_icmp_ge C 34 dX7_answer_21 (by decide) (fun c3 => ?_) (fun c3 => ?_)
      · rw [if_pos c3] at h
        exact v_sub [1] rfl ((b_Signs_answer_34 C hA (b_Signs_answer_36 C hA)) _ h)
      · rw [if_neg c3] at h
        refine v_aload_n C 1 dX7_answer_24 rfl rfl ?_
        refine v_iload_n C 2 dX7_answer_25 rfl rfl ?_
        refine v_iload_n C 3 dX7_answer_26 rfl rfl ?_
        refine v_iadd C dX7_answer_27 ?_
        obtain ⟨q2, hq2, h⟩ := bd_of h
        refine c_call C [.int (x1 + x2)] [] (c_Signs_at hA _ _ hq2) hY_Signs_at rfl (by decide) (okS _ 34 (by decide) rfl) ml_7_62 ⟨(by omega : 0 + 1 ≤ 2), (by omega : 8 + (2 + 11) + 0 ≤ 45)⟩ ⟨Nat.zero_le _, Nat.zero_le _⟩ rfl rfl (Nat.le_of_ble_eq_true rfl) dX7_answer_28 (wc_D hA cy _) ?_
        refine v_goto C 36 dX7_answer_31 (by decide) ?_
        exact v_sub [1] rfl ((b_Signs_answer_36 C hA) _ _ h)
  · rw [if_pos c1] at h
    refine v_iload_n C 0 dX7_answer_13 rfl rfl ?_
    obtain rfl := Option.some.inj h
    exact v_iret C dX7_answer_14
set_option maxHeartbeats 4000000 in
set_option maxRecDepth 20000 in
theorem b_J_type_11 {p : Program} {l : Launch} {e : Env} {s : State} {m : MethodId} {args : Array Value} {below : List Frame} {meth : Method} {c : Code} {D : va_G} {cy : Nat → ClassId} {ad : Nat → Nat} {q : Int32 × CS}  (C : vC p s m args meth c cX10_type 2 (some .int) RX10 D (cyT cy)) (hA : adOK ad) : ∀ (σ : CS), B_J_type_11 σ = some q → V p l e { frames := 0, cells := 0, slots := 0, locals := 0 } s m args below meth c D (inC ad) 2 (MQ below (vQ D (inC ad) (some (.int q.1)) (wc cy ad q.2)) args s 0 0 (inC ad)) 0 0 (wc cy ad σ) 11 [(0, .ref (ad 0))] [] := by
  intro σ h
  rw [B_J_type_11] at h
  refine v_iconst C (-1) dX10_type_11 (by decide) ?_
  obtain rfl := Option.some.inj h
  exact v_iret C dX10_type_12
set_option maxHeartbeats 4000000 in
set_option maxRecDepth 20000 in
theorem c_J_type {l : Launch} {D : va_G} {cy : Nat → ClassId} {ad : Nat → Nat} {q : Int32 × CS} (hA : adOK ad) (x1 : Int32) (σ : CS) (h : f_J_type x1 σ = some q) : MV l D (cyT cy) (inC ad) yX10_type cX10_type 2 (some .int) (0) (0) 0 0 [.ref (ad 0), .int x1] (wc cy ad σ) (some (.int q.1)) (wc cy ad q.2) := by
  refine MV.of (by decide) (wc_D hA cy σ) (Nat.le_of_ble_eq_true rfl) [(0, .ref (ad 0)), (1, .int x1)] rfl ?_
  intro p e s m args below meth c C
  rw [f_J_type] at h
  refine v_iload_n C 1 dX10_type_0 rfl rfl ?_
  refine v_if_lt C 11 dX10_type_1 (by decide) (fun c1 => ?_) (fun c1 => ?_)
  · rw [if_pos c1] at h
    exact v_sub [0] rfl ((b_J_type_11 C hA) _ h)
  · rw [if_neg c1] at h
    refine v_iload_n C 1 dX10_type_4 rfl rfl ?_
    refine v_sipush C 255 dX10_type_5 (by decide) ?_
    refine v_icmp_le C 13 dX10_type_8 (by decide) (fun c2 => ?_) (fun c2 => ?_)
    · rw [if_pos c2] at h
      refine v_aload_n C 0 dX10_type_13 rfl rfl ?_
      refine c_getI C fl_10_71 rfl (okS _ 0 (by decide) rfl) dX10_type_14 ?_
      refine v_bipush C 32 dX10_type_17 (by decide) ?_
      refine v_icmp_lt C 25 dX10_type_19 (by decide) (fun c3 => ?_) (fun c3 => ?_)
      · rw [if_pos c3] at h
        refine v_aload_n C 0 dX10_type_25 rfl rfl ?_
        refine c_getS C 1 fl_10_9 rfl rfl (by decide) (okS _ 0 (by decide) rfl) dX10_type_26 ?_
        refine v_aload_n C 0 dX10_type_29 rfl rfl ?_
        refine c_getI C fl_10_71 rfl (okS _ 0 (by decide) rfl) dX10_type_30 ?_
        refine v_iload_n C 1 dX10_type_33 rfl rfl ?_
        obtain ⟨g1, h⟩ := gd_of h
        refine c_iast C (okS _ 1 (by decide) rfl) (ix_in g1) dX10_type_34 ?_
        refine v_aload_n C 0 dX10_type_35 rfl rfl ?_
        refine v_dup C dX10_type_36 rfl ?_
        refine c_getI C fl_10_71 rfl (okS _ 0 (by decide) rfl) dX10_type_37 ?_
        refine v_iconst C 1 dX10_type_40 (by decide) ?_
        refine v_iadd C dX10_type_41 ?_
        refine c_putI C fl_10_71 fw_10_1 rfl (by decide) (okS _ 0 (by decide) rfl) dX10_type_42 ?_
        refine v_aload_n C 0 dX10_type_45 rfl rfl ?_
        refine c_getI C fl_10_71 rfl (okS _ 0 (by decide) rfl) dX10_type_46 ?_
        obtain rfl := Option.some.inj h
        exact v_iret C dX10_type_49
      · rw [if_neg c3] at h
        refine v_bipush C (-3) dX10_type_22 (by decide) ?_
        obtain rfl := Option.some.inj h
        exact v_iret C dX10_type_24
    · rw [if_neg c2] at h
      exact v_sub [0] rfl ((b_J_type_11 C hA) _ h)
set_option maxHeartbeats 4000000 in
set_option maxRecDepth 20000 in
theorem c_J_clear {l : Launch} {D : va_G} {cy : Nat → ClassId} {ad : Nat → Nat} {q : Int32 × CS} (hA : adOK ad) (σ : CS) (h : f_J_clear σ = some q) : MV l D (cyT cy) (inC ad) yX10_clear cX10_clear 2 (some .int) (0) (0) 0 0 [.ref (ad 0)] (wc cy ad σ) (some (.int q.1)) (wc cy ad q.2) := by
  refine MV.of (by decide) (wc_D hA cy σ) (Nat.le_of_ble_eq_true rfl) [(0, .ref (ad 0))] rfl ?_
  intro p e s m args below meth c C
  rw [f_J_clear] at h
  refine v_aload_n C 0 dX10_clear_0 rfl rfl ?_
  refine c_getI C fl_10_71 rfl (okS _ 0 (by decide) rfl) dX10_clear_1 ?_
  refine v_istore_n C [(1, .int (σ.1 0 1)), (0, .ref (ad 0))] dX10_clear_4 rfl (by decide) rfl ?_
  refine v_aload_n C 1 dX10_clear_5 rfl rfl ?_
  refine v_iconst C 0 dX10_clear_6 (by decide) ?_
  refine c_putI C fl_10_71 fw_10_1 rfl (by decide) (okS _ 0 (by decide) rfl) dX10_clear_7 ?_
  refine v_iload_n C 0 dX10_clear_10 rfl rfl ?_
  obtain rfl := Option.some.inj h
  exact v_iret C dX10_clear_11
