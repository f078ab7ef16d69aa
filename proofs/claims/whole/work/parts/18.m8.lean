theorem dX11_enters_0 : decode cX11_enters 0 = .ok (.aload_n 0, 1) := by decide +kernel
theorem dX11_enters_1 : decode cX11_enters 1 = .ok (.getfield 364, 3) := by decide +kernel
theorem dX11_enters_4 : decode cX11_enters 4 = .ok (.bipush 6, 2) := by decide +kernel
theorem dX11_enters_6 : decode cX11_enters 6 = .ok (.if_icmp .ne 6, 3) := by decide +kernel
theorem dX11_enters_9 : decode cX11_enters 9 = .ok (.bipush (-3), 2) := by decide +kernel
theorem dX11_enters_11 : decode cX11_enters 11 = .ok (.ireturn, 1) := by decide +kernel
theorem dX11_enters_12 : decode cX11_enters 12 = .ok (.aload_n 0, 1) := by decide +kernel
theorem dX11_enters_13 : decode cX11_enters 13 = .ok (.iconst 1, 1) := by decide +kernel
theorem dX11_enters_14 : decode cX11_enters 14 = .ok (.invokevirtual 413, 3) := by decide +kernel
theorem dX11_enters_17 : decode cX11_enters 17 = .ok (.aload_n 0, 1) := by decide +kernel
theorem dX11_enters_18 : decode cX11_enters 18 = .ok (.getfield 210, 3) := by decide +kernel
theorem dX11_enters_21 : decode cX11_enters 21 = .ok (.ifCond .lt 11, 3) := by decide +kernel
theorem dX11_enters_24 : decode cX11_enters 24 = .ok (.bipush (-10), 2) := by decide +kernel
theorem dX11_enters_26 : decode cX11_enters 26 = .ok (.aload_n 0, 1) := by decide +kernel
theorem dX11_enters_27 : decode cX11_enters 27 = .ok (.getfield 210, 3) := by decide +kernel
theorem dX11_enters_30 : decode cX11_enters 30 = .ok (.isub, 1) := by decide +kernel
theorem dX11_enters_31 : decode cX11_enters 31 = .ok (.ireturn, 1) := by decide +kernel
theorem dX11_enters_32 : decode cX11_enters 32 = .ok (.aload_n 0, 1) := by decide +kernel
theorem dX11_enters_33 : decode cX11_enters 33 = .ok (.aload_n 0, 1) := by decide +kernel
theorem dX11_enters_34 : decode cX11_enters 34 = .ok (.getfield 376, 3) := by decide +kernel
theorem dX11_enters_37 : decode cX11_enters 37 = .ok (.sipush 357, 3) := by decide +kernel
theorem dX11_enters_40 : decode cX11_enters 40 = .ok (.bipush 102, 2) := by decide +kernel
theorem dX11_enters_42 : decode cX11_enters 42 = .ok (.aload_n 0, 1) := by decide +kernel
theorem dX11_enters_43 : decode cX11_enters 43 = .ok (.getfield 364, 3) := by decide +kernel
theorem dX11_enters_46 : decode cX11_enters 46 = .ok (.imul, 1) := by decide +kernel
theorem dX11_enters_47 : decode cX11_enters 47 = .ok (.iadd, 1) := by decide +kernel
theorem dX11_enters_48 : decode cX11_enters 48 = .ok (.invokevirtual 392, 3) := by decide +kernel
theorem dX11_enters_51 : decode cX11_enters 51 = .ok (.aload_n 0, 1) := by decide +kernel
theorem dX11_enters_52 : decode cX11_enters 52 = .ok (.aload_n 0, 1) := by decide +kernel
theorem dX11_enters_53 : decode cX11_enters 53 = .ok (.getfield 382, 3) := by decide +kernel
theorem dX11_enters_56 : decode cX11_enters 56 = .ok (.sipush 357, 3) := by decide +kernel
theorem dX11_enters_59 : decode cX11_enters 59 = .ok (.bipush 102, 2) := by decide +kernel
theorem dX11_enters_61 : decode cX11_enters 61 = .ok (.aload_n 0, 1) := by decide +kernel
theorem dX11_enters_62 : decode cX11_enters 62 = .ok (.getfield 364, 3) := by decide +kernel
theorem dX11_enters_65 : decode cX11_enters 65 = .ok (.imul, 1) := by decide +kernel
theorem dX11_enters_66 : decode cX11_enters 66 = .ok (.iadd, 1) := by decide +kernel
theorem dX11_enters_67 : decode cX11_enters 67 = .ok (.bipush 51, 2) := by decide +kernel
theorem dX11_enters_69 : decode cX11_enters 69 = .ok (.iadd, 1) := by decide +kernel
theorem dX11_enters_70 : decode cX11_enters 70 = .ok (.invokevirtual 392, 3) := by decide +kernel
theorem dX11_enters_73 : decode cX11_enters 73 = .ok (.aload_n 0, 1) := by decide +kernel
theorem dX11_enters_74 : decode cX11_enters 74 = .ok (.iconst 0, 1) := by decide +kernel
theorem dX11_enters_75 : decode cX11_enters 75 = .ok (.aload_n 0, 1) := by decide +kernel
theorem dX11_enters_76 : decode cX11_enters 76 = .ok (.getfield 364, 3) := by decide +kernel
theorem dX11_enters_79 : decode cX11_enters 79 = .ok (.invokevirtual 419, 3) := by decide +kernel
theorem dX11_enters_82 : decode cX11_enters 82 = .ok (.aload_n 0, 1) := by decide +kernel
theorem dX11_enters_83 : decode cX11_enters 83 = .ok (.dup, 1) := by decide +kernel
theorem dX11_enters_84 : decode cX11_enters 84 = .ok (.getfield 364, 3) := by decide +kernel
theorem dX11_enters_87 : decode cX11_enters 87 = .ok (.iconst 1, 1) := by decide +kernel
theorem dX11_enters_88 : decode cX11_enters 88 = .ok (.iadd, 1) := by decide +kernel
theorem dX11_enters_89 : decode cX11_enters 89 = .ok (.putfield 364, 3) := by decide +kernel
theorem dX11_enters_92 : decode cX11_enters 92 = .ok (.aload_n 0, 1) := by decide +kernel
theorem dX11_enters_93 : decode cX11_enters 93 = .ok (.iconst 0, 1) := by decide +kernel
theorem dX11_enters_94 : decode cX11_enters 94 = .ok (.putfield 216, 3) := by decide +kernel
theorem dX11_enters_97 : decode cX11_enters 97 = .ok (.aload_n 0, 1) := by decide +kernel
theorem dX11_enters_98 : decode cX11_enters 98 = .ok (.getfield 364, 3) := by decide +kernel
theorem dX11_enters_101 : decode cX11_enters 101 = .ok (.ireturn, 1) := by decide +kernel
theorem dX11_goes_0 : decode cX11_goes 0 = .ok (.aload_n 0, 1) := by decide +kernel
theorem dX11_goes_1 : decode cX11_goes 1 = .ok (.getfield 7, 3) := by decide +kernel
theorem dX11_goes_4 : decode cX11_goes 4 = .ok (.sipush 357, 3) := by decide +kernel
theorem dX11_goes_7 : decode cX11_goes 7 = .ok (.bipush 102, 2) := by decide +kernel
theorem dX11_goes_9 : decode cX11_goes 9 = .ok (.iload_n 1, 1) := by decide +kernel
theorem dX11_goes_10 : decode cX11_goes 10 = .ok (.iconst 1, 1) := by decide +kernel
theorem dX11_goes_11 : decode cX11_goes 11 = .ok (.iadd, 1) := by decide +kernel
theorem dX11_goes_12 : decode cX11_goes 12 = .ok (.imul, 1) := by decide +kernel
theorem dX11_goes_13 : decode cX11_goes 13 = .ok (.iadd, 1) := by decide +kernel
theorem dX11_goes_14 : decode cX11_goes 14 = .ok (.aload_n 0, 1) := by decide +kernel
theorem dX11_goes_15 : decode cX11_goes 15 = .ok (.getfield 7, 3) := by decide +kernel
theorem dX11_goes_18 : decode cX11_goes 18 = .ok (.sipush 357, 3) := by decide +kernel
theorem dX11_goes_21 : decode cX11_goes 21 = .ok (.bipush 102, 2) := by decide +kernel
theorem dX11_goes_23 : decode cX11_goes 23 = .ok (.iload_n 1, 1) := by decide +kernel
theorem dX11_goes_24 : decode cX11_goes 24 = .ok (.imul, 1) := by decide +kernel
theorem dX11_goes_25 : decode cX11_goes 25 = .ok (.iadd, 1) := by decide +kernel
theorem dX11_goes_26 : decode cX11_goes 26 = .ok (.bipush 102, 2) := by decide +kernel
theorem dX11_goes_28 : decode cX11_goes 28 = .ok (.aload_n 0, 1) := by decide +kernel
theorem dX11_goes_29 : decode cX11_goes 29 = .ok (.getfield 364, 3) := by decide +kernel
theorem dX11_goes_32 : decode cX11_goes 32 = .ok (.iconst 1, 1) := by decide +kernel
theorem dX11_goes_33 : decode cX11_goes 33 = .ok (.isub, 1) := by decide +kernel
theorem dX11_goes_34 : decode cX11_goes 34 = .ok (.iload_n 1, 1) := by decide +kernel
theorem dX11_goes_35 : decode cX11_goes 35 = .ok (.isub, 1) := by decide +kernel
theorem dX11_goes_36 : decode cX11_goes 36 = .ok (.imul, 1) := by decide +kernel
theorem dX11_goes_37 : decode cX11_goes 37 = .ok (.invokestatic 147, 3) := by decide +kernel
theorem dX11_goes_40 : decode cX11_goes 40 = .ok (.aload_n 0, 1) := by decide +kernel
theorem dX11_goes_41 : decode cX11_goes 41 = .ok (.dup, 1) := by decide +kernel
theorem dX11_goes_42 : decode cX11_goes 42 = .ok (.getfield 364, 3) := by decide +kernel
theorem dX11_goes_45 : decode cX11_goes 45 = .ok (.iconst 1, 1) := by decide +kernel
theorem dX11_goes_46 : decode cX11_goes 46 = .ok (.isub, 1) := by decide +kernel
theorem dX11_goes_47 : decode cX11_goes 47 = .ok (.putfield 364, 3) := by decide +kernel
theorem dX11_goes_50 : decode cX11_goes 50 = .ok (.return_, 1) := by decide +kernel
theorem dX11_drops_0 : decode cX11_drops 0 = .ok (.aload_n 0, 1) := by decide +kernel
theorem dX11_drops_1 : decode cX11_drops 1 = .ok (.iload_n 1, 1) := by decide +kernel
theorem dX11_drops_2 : decode cX11_drops 2 = .ok (.invokevirtual 422, 3) := by decide +kernel
theorem dX11_drops_5 : decode cX11_drops 5 = .ok (.ifCond .ne 5, 3) := by decide +kernel
theorem dX11_drops_8 : decode cX11_drops 8 = .ok (.iconst (-1), 1) := by decide +kernel
theorem dX11_drops_9 : decode cX11_drops 9 = .ok (.ireturn, 1) := by decide +kernel
theorem dX11_drops_10 : decode cX11_drops 10 = .ok (.aload_n 0, 1) := by decide +kernel
theorem dX11_drops_11 : decode cX11_drops 11 = .ok (.iconst 1, 1) := by decide +kernel
theorem dX11_drops_12 : decode cX11_drops 12 = .ok (.iload_n 1, 1) := by decide +kernel
theorem dX11_drops_13 : decode cX11_drops 13 = .ok (.invokevirtual 419, 3) := by decide +kernel
theorem dX11_drops_16 : decode cX11_drops 16 = .ok (.aload_n 0, 1) := by decide +kernel
theorem dX11_drops_17 : decode cX11_drops 17 = .ok (.iload_n 1, 1) := by decide +kernel
theorem dX11_drops_18 : decode cX11_drops 18 = .ok (.invokevirtual 425, 3) := by decide +kernel
theorem dX11_drops_21 : decode cX11_drops 21 = .ok (.aload_n 0, 1) := by decide +kernel
theorem dX11_drops_22 : decode cX11_drops 22 = .ok (.getfield 364, 3) := by decide +kernel
theorem dX11_drops_25 : decode cX11_drops 25 = .ok (.ireturn, 1) := by decide +kernel
theorem dX11_undo_0 : decode cX11_undo 0 = .ok (.aload_n 0, 1) := by decide +kernel
theorem dX11_undo_1 : decode cX11_undo 1 = .ok (.getfield 407, 3) := by decide +kernel
theorem dX11_undo_4 : decode cX11_undo 4 = .ok (.ifCond .ne 6, 3) := by decide +kernel
theorem dX11_undo_7 : decode cX11_undo 7 = .ok (.bipush (-2), 2) := by decide +kernel
theorem dX11_undo_9 : decode cX11_undo 9 = .ok (.ireturn, 1) := by decide +kernel
theorem dX11_undo_10 : decode cX11_undo 10 = .ok (.aload_n 0, 1) := by decide +kernel
theorem dX11_undo_11 : decode cX11_undo 11 = .ok (.dup, 1) := by decide +kernel
theorem dX11_undo_12 : decode cX11_undo 12 = .ok (.getfield 407, 3) := by decide +kernel
theorem dX11_undo_15 : decode cX11_undo 15 = .ok (.iconst 1, 1) := by decide +kernel
theorem dX11_undo_16 : decode cX11_undo 16 = .ok (.isub, 1) := by decide +kernel
theorem dX11_undo_17 : decode cX11_undo 17 = .ok (.putfield 407, 3) := by decide +kernel
theorem dX11_undo_20 : decode cX11_undo 20 = .ok (.aload_n 0, 1) := by decide +kernel
theorem dX11_undo_21 : decode cX11_undo 21 = .ok (.getfield 26, 3) := by decide +kernel
theorem dX11_undo_24 : decode cX11_undo 24 = .ok (.aload_n 0, 1) := by decide +kernel
theorem dX11_undo_25 : decode cX11_undo 25 = .ok (.getfield 407, 3) := by decide +kernel
theorem dX11_undo_28 : decode cX11_undo 28 = .ok (.iaload, 1) := by decide +kernel
theorem dX11_undo_29 : decode cX11_undo 29 = .ok (.istore_n 1, 1) := by decide +kernel
theorem dX11_undo_30 : decode cX11_undo 30 = .ok (.aload_n 0, 1) := by decide +kernel
theorem dX11_undo_31 : decode cX11_undo 31 = .ok (.getfield 23, 3) := by decide +kernel
theorem dX11_undo_34 : decode cX11_undo 34 = .ok (.aload_n 0, 1) := by decide +kernel
theorem dX11_undo_35 : decode cX11_undo 35 = .ok (.getfield 407, 3) := by decide +kernel
theorem dX11_undo_38 : decode cX11_undo 38 = .ok (.iaload, 1) := by decide +kernel
theorem dX11_undo_39 : decode cX11_undo 39 = .ok (.ifCond .ne 13, 3) := by decide +kernel
theorem dX11_undo_42 : decode cX11_undo 42 = .ok (.aload_n 0, 1) := by decide +kernel
theorem dX11_undo_43 : decode cX11_undo 43 = .ok (.iload_n 1, 1) := by decide +kernel
theorem dX11_undo_44 : decode cX11_undo 44 = .ok (.invokevirtual 425, 3) := by decide +kernel
theorem dX11_undo_47 : decode cX11_undo 47 = .ok (.aload_n 0, 1) := by decide +kernel
theorem dX11_undo_48 : decode cX11_undo 48 = .ok (.getfield 407, 3) := by decide +kernel
theorem dX11_undo_51 : decode cX11_undo 51 = .ok (.ireturn, 1) := by decide +kernel
theorem dX11_undo_52 : decode cX11_undo 52 = .ok (.aload_n 0, 1) := by decide +kernel
theorem dX11_undo_53 : decode cX11_undo 53 = .ok (.getfield 364, 3) := by decide +kernel
theorem dX11_undo_56 : decode cX11_undo 56 = .ok (.istore_n 2, 1) := by decide +kernel
theorem dX11_undo_57 : decode cX11_undo 57 = .ok (.iload_n 2, 1) := by decide +kernel
theorem dX11_undo_58 : decode cX11_undo 58 = .ok (.iload_n 1, 1) := by decide +kernel
theorem dX11_undo_59 : decode cX11_undo 59 = .ok (.if_icmp .le 40, 3) := by decide +kernel
theorem dX11_undo_62 : decode cX11_undo 62 = .ok (.aload_n 0, 1) := by decide +kernel
theorem dX11_undo_63 : decode cX11_undo 63 = .ok (.getfield 7, 3) := by decide +kernel
theorem dX11_undo_66 : decode cX11_undo 66 = .ok (.sipush 357, 3) := by decide +kernel
theorem dX11_undo_69 : decode cX11_undo 69 = .ok (.bipush 102, 2) := by decide +kernel
theorem dX11_undo_71 : decode cX11_undo 71 = .ok (.iload_n 2, 1) := by decide +kernel
theorem dX11_undo_72 : decode cX11_undo 72 = .ok (.iconst 1, 1) := by decide +kernel
theorem dX11_undo_73 : decode cX11_undo 73 = .ok (.isub, 1) := by decide +kernel
theorem dX11_undo_74 : decode cX11_undo 74 = .ok (.imul, 1) := by decide +kernel
theorem dX11_undo_75 : decode cX11_undo 75 = .ok (.iadd, 1) := by decide +kernel
theorem dX11_undo_76 : decode cX11_undo 76 = .ok (.aload_n 0, 1) := by decide +kernel
theorem dX11_undo_77 : decode cX11_undo 77 = .ok (.getfield 7, 3) := by decide +kernel
theorem dX11_undo_80 : decode cX11_undo 80 = .ok (.sipush 357, 3) := by decide +kernel
theorem dX11_undo_83 : decode cX11_undo 83 = .ok (.bipush 102, 2) := by decide +kernel
theorem dX11_undo_85 : decode cX11_undo 85 = .ok (.iload_n 2, 1) := by decide +kernel
theorem dX11_undo_86 : decode cX11_undo 86 = .ok (.imul, 1) := by decide +kernel
theorem dX11_undo_87 : decode cX11_undo 87 = .ok (.iadd, 1) := by decide +kernel
theorem dX11_undo_88 : decode cX11_undo 88 = .ok (.bipush 102, 2) := by decide +kernel
theorem dX11_undo_90 : decode cX11_undo 90 = .ok (.invokestatic 147, 3) := by decide +kernel
theorem dX11_undo_93 : decode cX11_undo 93 = .ok (.iinc 2 (-1), 3) := by decide +kernel
theorem dX11_undo_96 : decode cX11_undo 96 = .ok (.goto (-39), 3) := by decide +kernel
theorem dX11_undo_99 : decode cX11_undo 99 = .ok (.aload_n 0, 1) := by decide +kernel
theorem dX11_undo_100 : decode cX11_undo 100 = .ok (.getfield 29, 3) := by decide +kernel
theorem dX11_undo_103 : decode cX11_undo 103 = .ok (.bipush 102, 2) := by decide +kernel
theorem dX11_undo_105 : decode cX11_undo 105 = .ok (.aload_n 0, 1) := by decide +kernel
theorem dX11_undo_106 : decode cX11_undo 106 = .ok (.getfield 407, 3) := by decide +kernel
theorem dX11_undo_109 : decode cX11_undo 109 = .ok (.imul, 1) := by decide +kernel
theorem dX11_undo_110 : decode cX11_undo 110 = .ok (.aload_n 0, 1) := by decide +kernel
theorem dX11_undo_111 : decode cX11_undo 111 = .ok (.getfield 7, 3) := by decide +kernel
theorem dX11_undo_114 : decode cX11_undo 114 = .ok (.sipush 357, 3) := by decide +kernel
theorem dX11_undo_117 : decode cX11_undo 117 = .ok (.bipush 102, 2) := by decide +kernel
theorem dX11_undo_119 : decode cX11_undo 119 = .ok (.iload_n 1, 1) := by decide +kernel
theorem dX11_undo_120 : decode cX11_undo 120 = .ok (.imul, 1) := by decide +kernel
theorem dX11_undo_121 : decode cX11_undo 121 = .ok (.iadd, 1) := by decide +kernel
theorem dX11_undo_122 : decode cX11_undo 122 = .ok (.bipush 102, 2) := by decide +kernel
theorem dX11_undo_124 : decode cX11_undo 124 = .ok (.invokestatic 147, 3) := by decide +kernel
theorem dX11_undo_127 : decode cX11_undo 127 = .ok (.aload_n 0, 1) := by decide +kernel
theorem dX11_undo_128 : decode cX11_undo 128 = .ok (.dup, 1) := by decide +kernel
theorem dX11_undo_129 : decode cX11_undo 129 = .ok (.getfield 364, 3) := by decide +kernel
theorem dX11_undo_132 : decode cX11_undo 132 = .ok (.iconst 1, 1) := by decide +kernel
theorem dX11_undo_133 : decode cX11_undo 133 = .ok (.iadd, 1) := by decide +kernel
theorem dX11_undo_134 : decode cX11_undo 134 = .ok (.putfield 364, 3) := by decide +kernel
theorem dX11_undo_137 : decode cX11_undo 137 = .ok (.aload_n 0, 1) := by decide +kernel
theorem dX11_undo_138 : decode cX11_undo 138 = .ok (.getfield 407, 3) := by decide +kernel
theorem dX11_undo_141 : decode cX11_undo 141 = .ok (.ireturn, 1) := by decide +kernel
theorem dX11_entry_0 : decode cX11_entry 0 = .ok (.aload_n 0, 1) := by decide +kernel
theorem dX11_entry_1 : decode cX11_entry 1 = .ok (.iload_n 1, 1) := by decide +kernel
theorem dX11_entry_2 : decode cX11_entry 2 = .ok (.invokevirtual 422, 3) := by decide +kernel
theorem dX11_entry_5 : decode cX11_entry 5 = .ok (.ifCond .eq 16, 3) := by decide +kernel
theorem dX11_entry_8 : decode cX11_entry 8 = .ok (.iload_n 2, 1) := by decide +kernel
theorem dX11_entry_9 : decode cX11_entry 9 = .ok (.iconst 0, 1) := by decide +kernel
theorem dX11_entry_10 : decode cX11_entry 10 = .ok (.iconst 1, 1) := by decide +kernel
theorem dX11_entry_11 : decode cX11_entry 11 = .ok (.invokestatic 297, 3) := by decide +kernel
theorem dX11_entry_14 : decode cX11_entry 14 = .ok (.ifCond .eq 7, 3) := by decide +kernel
theorem dX11_entry_17 : decode cX11_entry 17 = .ok (.iload_n 3, 1) := by decide +kernel
theorem dX11_entry_18 : decode cX11_entry 18 = .ok (.ifCond .ge 5, 3) := by decide +kernel
theorem dX11_entry_21 : decode cX11_entry 21 = .ok (.iconst (-1), 1) := by decide +kernel
theorem dX11_entry_22 : decode cX11_entry 22 = .ok (.ireturn, 1) := by decide +kernel
theorem dX11_entry_23 : decode cX11_entry 23 = .ok (.aload_n 0, 1) := by decide +kernel
theorem dX11_entry_24 : decode cX11_entry 24 = .ok (.sipush 357, 3) := by decide +kernel
theorem dX11_entry_27 : decode cX11_entry 27 = .ok (.bipush 102, 2) := by decide +kernel
theorem dX11_entry_29 : decode cX11_entry 29 = .ok (.iload_n 1, 1) := by decide +kernel
theorem dX11_entry_30 : decode cX11_entry 30 = .ok (.imul, 1) := by decide +kernel
theorem dX11_entry_31 : decode cX11_entry 31 = .ok (.iadd, 1) := by decide +kernel
theorem dX11_entry_32 : decode cX11_entry 32 = .ok (.bipush 51, 2) := by decide +kernel
theorem dX11_entry_34 : decode cX11_entry 34 = .ok (.iload_n 2, 1) := by decide +kernel
theorem dX11_entry_35 : decode cX11_entry 35 = .ok (.imul, 1) := by decide +kernel
theorem dX11_entry_36 : decode cX11_entry 36 = .ok (.iadd, 1) := by decide +kernel
theorem dX11_entry_37 : decode cX11_entry 37 = .ok (.iload_n 3, 1) := by decide +kernel
theorem dX11_entry_38 : decode cX11_entry 38 = .ok (.invokevirtual 410, 3) := by decide +kernel
theorem dX11_entry_41 : decode cX11_entry 41 = .ok (.ireturn, 1) := by decide +kernel
theorem dX11_likeOf_0 : decode cX11_likeOf 0 = .ok (.aload_n 0, 1) := by decide +kernel
theorem dX11_likeOf_1 : decode cX11_likeOf 1 = .ok (.iload_n 1, 1) := by decide +kernel
theorem dX11_likeOf_2 : decode cX11_likeOf 2 = .ok (.iload_n 2, 1) := by decide +kernel
theorem dX11_likeOf_3 : decode cX11_likeOf 3 = .ok (.invokevirtual 258, 3) := by decide +kernel
theorem dX11_likeOf_6 : decode cX11_likeOf 6 = .ok (.ifCond .ne 7, 3) := by decide +kernel
theorem dX11_likeOf_9 : decode cX11_likeOf 9 = .ok (.iconst 0, 1) := by decide +kernel
theorem dX11_likeOf_10 : decode cX11_likeOf 10 = .ok (.goto 23, 3) := by decide +kernel
theorem dX11_likeOf_13 : decode cX11_likeOf 13 = .ok (.aload_n 0, 1) := by decide +kernel
theorem dX11_likeOf_14 : decode cX11_likeOf 14 = .ok (.iload_n 1, 1) := by decide +kernel
theorem dX11_likeOf_15 : decode cX11_likeOf 15 = .ok (.bipush 51, 2) := by decide +kernel
theorem dX11_likeOf_17 : decode cX11_likeOf 17 = .ok (.iadd, 1) := by decide +kernel
theorem dX11_likeOf_18 : decode cX11_likeOf 18 = .ok (.iload_n 2, 1) := by decide +kernel
theorem dX11_likeOf_19 : decode cX11_likeOf 19 = .ok (.bipush 51, 2) := by decide +kernel
theorem dX11_likeOf_21 : decode cX11_likeOf 21 = .ok (.iadd, 1) := by decide +kernel
theorem dX11_likeOf_22 : decode cX11_likeOf 22 = .ok (.invokevirtual 258, 3) := by decide +kernel
theorem dX11_likeOf_25 : decode cX11_likeOf 25 = .ok (.ifCond .eq 7, 3) := by decide +kernel
theorem dX11_likeOf_28 : decode cX11_likeOf 28 = .ok (.iconst 2, 1) := by decide +kernel
theorem dX11_likeOf_29 : decode cX11_likeOf 29 = .ok (.goto 4, 3) := by decide +kernel
theorem dX11_likeOf_32 : decode cX11_likeOf 32 = .ok (.iconst 1, 1) := by decide +kernel
theorem dX11_likeOf_33 : decode cX11_likeOf 33 = .ok (.ireturn, 1) := by decide +kernel
theorem dX11_like_0 : decode cX11_like 0 = .ok (.aload_n 0, 1) := by decide +kernel
theorem dX11_like_1 : decode cX11_like 1 = .ok (.iload_n 1, 1) := by decide +kernel
theorem dX11_like_2 : decode cX11_like 2 = .ok (.invokevirtual 422, 3) := by decide +kernel
theorem dX11_like_5 : decode cX11_like 5 = .ok (.ifCond .eq 34, 3) := by decide +kernel
theorem dX11_like_8 : decode cX11_like 8 = .ok (.aload_n 0, 1) := by decide +kernel
theorem dX11_like_9 : decode cX11_like 9 = .ok (.iload_n 2, 1) := by decide +kernel
theorem dX11_like_10 : decode cX11_like 10 = .ok (.invokevirtual 422, 3) := by decide +kernel
theorem dX11_like_13 : decode cX11_like 13 = .ok (.ifCond .eq 26, 3) := by decide +kernel
theorem dX11_like_16 : decode cX11_like 16 = .ok (.aload_n 0, 1) := by decide +kernel
theorem dX11_like_17 : decode cX11_like 17 = .ok (.sipush 357, 3) := by decide +kernel
theorem dX11_like_20 : decode cX11_like 20 = .ok (.bipush 102, 2) := by decide +kernel
theorem dX11_like_22 : decode cX11_like 22 = .ok (.iload_n 1, 1) := by decide +kernel
theorem dX11_like_23 : decode cX11_like 23 = .ok (.imul, 1) := by decide +kernel
theorem dX11_like_24 : decode cX11_like 24 = .ok (.iadd, 1) := by decide +kernel
theorem dX11_like_25 : decode cX11_like 25 = .ok (.sipush 357, 3) := by decide +kernel
theorem dX11_like_28 : decode cX11_like 28 = .ok (.bipush 102, 2) := by decide +kernel
theorem dX11_like_30 : decode cX11_like 30 = .ok (.iload_n 2, 1) := by decide +kernel
theorem dX11_like_31 : decode cX11_like 31 = .ok (.imul, 1) := by decide +kernel
theorem dX11_like_32 : decode cX11_like 32 = .ok (.iadd, 1) := by decide +kernel
theorem dX11_like_33 : decode cX11_like 33 = .ok (.invokevirtual 428, 3) := by decide +kernel
theorem dX11_like_36 : decode cX11_like 36 = .ok (.goto 4, 3) := by decide +kernel
theorem dX11_like_39 : decode cX11_like 39 = .ok (.iconst (-1), 1) := by decide +kernel
theorem dX11_like_40 : decode cX11_like 40 = .ok (.ireturn, 1) := by decide +kernel
theorem dX11_sees_0 : decode cX11_sees 0 = .ok (.iload_n 1, 1) := by decide +kernel
theorem dX11_sees_1 : decode cX11_sees 1 = .ok (.iconst 0, 1) := by decide +kernel
theorem dX11_sees_2 : decode cX11_sees 2 = .ok (.iconst 2, 1) := by decide +kernel
theorem dX11_sees_3 : decode cX11_sees 3 = .ok (.invokestatic 297, 3) := by decide +kernel
theorem dX11_sees_6 : decode cX11_sees 6 = .ok (.ifCond .ne 5, 3) := by decide +kernel
theorem dX11_sees_9 : decode cX11_sees 9 = .ok (.iconst (-1), 1) := by decide +kernel
theorem dX11_sees_10 : decode cX11_sees 10 = .ok (.ireturn, 1) := by decide +kernel
theorem dX11_sees_11 : decode cX11_sees 11 = .ok (.aload_n 0, 1) := by decide +kernel
theorem dX11_sees_12 : decode cX11_sees 12 = .ok (.getfield 404, 3) := by decide +kernel
theorem dX11_sees_15 : decode cX11_sees 15 = .ok (.iconst 4, 1) := by decide +kernel
theorem dX11_sees_16 : decode cX11_sees 16 = .ok (.if_icmp .ne 6, 3) := by decide +kernel
theorem dX11_sees_19 : decode cX11_sees 19 = .ok (.bipush (-3), 2) := by decide +kernel
theorem dX11_sees_21 : decode cX11_sees 21 = .ok (.ireturn, 1) := by decide +kernel
theorem dX11_sees_22 : decode cX11_sees 22 = .ok (.aload_n 0, 1) := by decide +kernel
theorem dX11_sees_23 : decode cX11_sees 23 = .ok (.iconst 1, 1) := by decide +kernel
theorem dX11_sees_24 : decode cX11_sees 24 = .ok (.invokevirtual 413, 3) := by decide +kernel
theorem dX11_sees_27 : decode cX11_sees 27 = .ok (.aload_n 0, 1) := by decide +kernel
theorem dX11_sees_28 : decode cX11_sees 28 = .ok (.getfield 210, 3) := by decide +kernel
theorem dX11_sees_31 : decode cX11_sees 31 = .ok (.ifCond .lt 11, 3) := by decide +kernel
theorem dX11_sees_34 : decode cX11_sees 34 = .ok (.bipush (-10), 2) := by decide +kernel
theorem dX11_sees_36 : decode cX11_sees 36 = .ok (.aload_n 0, 1) := by decide +kernel
theorem dX11_sees_37 : decode cX11_sees 37 = .ok (.getfield 210, 3) := by decide +kernel
theorem dX11_sees_40 : decode cX11_sees 40 = .ok (.isub, 1) := by decide +kernel
theorem dX11_sees_41 : decode cX11_sees 41 = .ok (.ireturn, 1) := by decide +kernel
theorem dX11_sees_42 : decode cX11_sees 42 = .ok (.aload_n 0, 1) := by decide +kernel
theorem dX11_sees_43 : decode cX11_sees 43 = .ok (.aload_n 0, 1) := by decide +kernel
theorem dX11_sees_44 : decode cX11_sees 44 = .ok (.getfield 376, 3) := by decide +kernel
theorem dX11_sees_47 : decode cX11_sees 47 = .ok (.sipush 1326, 3) := by decide +kernel
theorem dX11_sees_50 : decode cX11_sees 50 = .ok (.bipush 102, 2) := by decide +kernel
theorem dX11_sees_52 : decode cX11_sees 52 = .ok (.aload_n 0, 1) := by decide +kernel
theorem dX11_sees_53 : decode cX11_sees 53 = .ok (.getfield 404, 3) := by decide +kernel
theorem dX11_sees_56 : decode cX11_sees 56 = .ok (.imul, 1) := by decide +kernel
theorem dX11_sees_57 : decode cX11_sees 57 = .ok (.iadd, 1) := by decide +kernel
theorem dX11_sees_58 : decode cX11_sees 58 = .ok (.invokevirtual 392, 3) := by decide +kernel
theorem dX11_sees_61 : decode cX11_sees 61 = .ok (.aload_n 0, 1) := by decide +kernel
theorem dX11_sees_62 : decode cX11_sees 62 = .ok (.aload_n 0, 1) := by decide +kernel
theorem dX11_sees_63 : decode cX11_sees 63 = .ok (.getfield 382, 3) := by decide +kernel
theorem dX11_sees_66 : decode cX11_sees 66 = .ok (.sipush 1326, 3) := by decide +kernel
theorem dX11_sees_69 : decode cX11_sees 69 = .ok (.bipush 102, 2) := by decide +kernel
theorem dX11_sees_71 : decode cX11_sees 71 = .ok (.aload_n 0, 1) := by decide +kernel
theorem dX11_sees_72 : decode cX11_sees 72 = .ok (.getfield 404, 3) := by decide +kernel
theorem dX11_sees_75 : decode cX11_sees 75 = .ok (.imul, 1) := by decide +kernel
theorem dX11_sees_76 : decode cX11_sees 76 = .ok (.iadd, 1) := by decide +kernel
theorem dX11_sees_77 : decode cX11_sees 77 = .ok (.bipush 51, 2) := by decide +kernel
theorem dX11_sees_79 : decode cX11_sees 79 = .ok (.iadd, 1) := by decide +kernel
theorem dX11_sees_80 : decode cX11_sees 80 = .ok (.invokevirtual 392, 3) := by decide +kernel
theorem dX11_sees_83 : decode cX11_sees 83 = .ok (.aload_n 0, 1) := by decide +kernel
theorem dX11_sees_84 : decode cX11_sees 84 = .ok (.getfield 20, 3) := by decide +kernel
theorem dX11_sees_87 : decode cX11_sees 87 = .ok (.aload_n 0, 1) := by decide +kernel
theorem dX11_sees_88 : decode cX11_sees 88 = .ok (.getfield 404, 3) := by decide +kernel
theorem dX11_sees_91 : decode cX11_sees 91 = .ok (.iload_n 1, 1) := by decide +kernel
theorem dX11_sees_92 : decode cX11_sees 92 = .ok (.iastore, 1) := by decide +kernel
theorem dX11_sees_93 : decode cX11_sees 93 = .ok (.aload_n 0, 1) := by decide +kernel
theorem dX11_sees_94 : decode cX11_sees 94 = .ok (.dup, 1) := by decide +kernel
theorem dX11_sees_95 : decode cX11_sees 95 = .ok (.getfield 404, 3) := by decide +kernel
theorem dX11_sees_98 : decode cX11_sees 98 = .ok (.iconst 1, 1) := by decide +kernel
theorem dX11_sees_99 : decode cX11_sees 99 = .ok (.iadd, 1) := by decide +kernel
theorem dX11_sees_100 : decode cX11_sees 100 = .ok (.putfield 404, 3) := by decide +kernel
theorem dX11_sees_103 : decode cX11_sees 103 = .ok (.aload_n 0, 1) := by decide +kernel
theorem dX11_sees_104 : decode cX11_sees 104 = .ok (.iconst 0, 1) := by decide +kernel
theorem dX11_sees_105 : decode cX11_sees 105 = .ok (.putfield 216, 3) := by decide +kernel
theorem dX11_sees_108 : decode cX11_sees 108 = .ok (.aload_n 0, 1) := by decide +kernel
theorem dX11_sees_109 : decode cX11_sees 109 = .ok (.getfield 404, 3) := by decide +kernel
theorem dX11_sees_112 : decode cX11_sees 112 = .ok (.ireturn, 1) := by decide +kernel
theorem dX11_forget_0 : decode cX11_forget 0 = .ok (.aload_n 0, 1) := by decide +kernel
theorem dX11_forget_1 : decode cX11_forget 1 = .ok (.getfield 404, 3) := by decide +kernel
theorem dX11_forget_4 : decode cX11_forget 4 = .ok (.istore_n 1, 1) := by decide +kernel
theorem dX11_forget_5 : decode cX11_forget 5 = .ok (.aload_n 0, 1) := by decide +kernel
theorem dX11_forget_6 : decode cX11_forget 6 = .ok (.iconst 0, 1) := by decide +kernel
theorem dX11_forget_7 : decode cX11_forget 7 = .ok (.putfield 404, 3) := by decide +kernel
theorem dX11_forget_10 : decode cX11_forget 10 = .ok (.iload_n 1, 1) := by decide +kernel
theorem dX11_forget_11 : decode cX11_forget 11 = .ok (.ireturn, 1) := by decide +kernel
theorem dX11_unseen_0 : decode cX11_unseen 0 = .ok (.iconst 0, 1) := by decide +kernel
theorem dX11_unseen_1 : decode cX11_unseen 1 = .ok (.istore_n 1, 1) := by decide +kernel
theorem dX11_unseen_2 : decode cX11_unseen 2 = .ok (.iconst 0, 1) := by decide +kernel
theorem dX11_unseen_3 : decode cX11_unseen 3 = .ok (.istore_n 2, 1) := by decide +kernel
theorem dX11_unseen_4 : decode cX11_unseen 4 = .ok (.iload_n 2, 1) := by decide +kernel
theorem dX11_unseen_5 : decode cX11_unseen 5 = .ok (.aload_n 0, 1) := by decide +kernel
theorem dX11_unseen_6 : decode cX11_unseen 6 = .ok (.getfield 364, 3) := by decide +kernel
theorem dX11_unseen_9 : decode cX11_unseen 9 = .ok (.if_icmp .ge 84, 3) := by decide +kernel
theorem dX11_unseen_12 : decode cX11_unseen 12 = .ok (.iconst 1, 1) := by decide +kernel
theorem dX11_unseen_13 : decode cX11_unseen 13 = .ok (.istore_n 3, 1) := by decide +kernel
theorem dX11_unseen_14 : decode cX11_unseen 14 = .ok (.iconst 0, 1) := by decide +kernel
theorem dX11_unseen_15 : decode cX11_unseen 15 = .ok (.istore 4, 2) := by decide +kernel
theorem dX11_unseen_17 : decode cX11_unseen 17 = .ok (.iload 4, 2) := by decide +kernel
theorem dX11_unseen_19 : decode cX11_unseen 19 = .ok (.aload_n 0, 1) := by decide +kernel
theorem dX11_unseen_20 : decode cX11_unseen 20 = .ok (.getfield 404, 3) := by decide +kernel
theorem dX11_unseen_23 : decode cX11_unseen 23 = .ok (.if_icmp .ge 50, 3) := by decide +kernel
theorem dX11_unseen_26 : decode cX11_unseen 26 = .ok (.iload_n 3, 1) := by decide +kernel
theorem dX11_unseen_27 : decode cX11_unseen 27 = .ok (.ifCond .eq 38, 3) := by decide +kernel
theorem dX11_unseen_30 : decode cX11_unseen 30 = .ok (.aload_n 0, 1) := by decide +kernel
theorem dX11_unseen_31 : decode cX11_unseen 31 = .ok (.sipush 357, 3) := by decide +kernel
theorem dX11_unseen_34 : decode cX11_unseen 34 = .ok (.bipush 102, 2) := by decide +kernel
theorem dX11_unseen_36 : decode cX11_unseen 36 = .ok (.iload_n 2, 1) := by decide +kernel
theorem dX11_unseen_37 : decode cX11_unseen 37 = .ok (.imul, 1) := by decide +kernel
theorem dX11_unseen_38 : decode cX11_unseen 38 = .ok (.iadd, 1) := by decide +kernel
theorem dX11_unseen_39 : decode cX11_unseen 39 = .ok (.sipush 1326, 3) := by decide +kernel
theorem dX11_unseen_42 : decode cX11_unseen 42 = .ok (.bipush 102, 2) := by decide +kernel
theorem dX11_unseen_44 : decode cX11_unseen 44 = .ok (.iload 4, 2) := by decide +kernel
theorem dX11_unseen_46 : decode cX11_unseen 46 = .ok (.imul, 1) := by decide +kernel
theorem dX11_unseen_47 : decode cX11_unseen 47 = .ok (.iadd, 1) := by decide +kernel
theorem dX11_unseen_48 : decode cX11_unseen 48 = .ok (.invokevirtual 428, 3) := by decide +kernel
theorem dX11_unseen_51 : decode cX11_unseen 51 = .ok (.aload_n 0, 1) := by decide +kernel
theorem dX11_unseen_52 : decode cX11_unseen 52 = .ok (.getfield 20, 3) := by decide +kernel
theorem dX11_unseen_55 : decode cX11_unseen 55 = .ok (.iload 4, 2) := by decide +kernel
theorem dX11_unseen_57 : decode cX11_unseen 57 = .ok (.iaload, 1) := by decide +kernel
theorem dX11_unseen_58 : decode cX11_unseen 58 = .ok (.if_icmp .ne 7, 3) := by decide +kernel
theorem dX11_unseen_61 : decode cX11_unseen 61 = .ok (.iconst 1, 1) := by decide +kernel
theorem dX11_unseen_62 : decode cX11_unseen 62 = .ok (.goto 4, 3) := by decide +kernel
theorem dX11_unseen_65 : decode cX11_unseen 65 = .ok (.iconst 0, 1) := by decide +kernel
theorem dX11_unseen_66 : decode cX11_unseen 66 = .ok (.istore_n 3, 1) := by decide +kernel
theorem dX11_unseen_67 : decode cX11_unseen 67 = .ok (.iinc 4 1, 3) := by decide +kernel
theorem dX11_unseen_70 : decode cX11_unseen 70 = .ok (.goto (-53), 3) := by decide +kernel
theorem dX11_unseen_73 : decode cX11_unseen 73 = .ok (.iload_n 1, 1) := by decide +kernel
theorem dX11_unseen_74 : decode cX11_unseen 74 = .ok (.iload_n 3, 1) := by decide +kernel
theorem dX11_unseen_75 : decode cX11_unseen 75 = .ok (.ifCond .eq 9, 3) := by decide +kernel
theorem dX11_unseen_78 : decode cX11_unseen 78 = .ok (.iconst 1, 1) := by decide +kernel
theorem dX11_unseen_79 : decode cX11_unseen 79 = .ok (.iload_n 2, 1) := by decide +kernel
theorem dX11_unseen_80 : decode cX11_unseen 80 = .ok (.ishl, 1) := by decide +kernel
theorem dX11_unseen_81 : decode cX11_unseen 81 = .ok (.goto 4, 3) := by decide +kernel
theorem dX11_unseen_84 : decode cX11_unseen 84 = .ok (.iconst 0, 1) := by decide +kernel
theorem dX11_unseen_85 : decode cX11_unseen 85 = .ok (.ior, 1) := by decide +kernel
theorem dX11_unseen_86 : decode cX11_unseen 86 = .ok (.istore_n 1, 1) := by decide +kernel
theorem dX11_unseen_87 : decode cX11_unseen 87 = .ok (.iinc 2 1, 3) := by decide +kernel
theorem dX11_unseen_90 : decode cX11_unseen 90 = .ok (.goto (-86), 3) := by decide +kernel
theorem dX11_unseen_93 : decode cX11_unseen 93 = .ok (.iload_n 1, 1) := by decide +kernel
theorem dX11_unseen_94 : decode cX11_unseen 94 = .ok (.ireturn, 1) := by decide +kernel
theorem dX11_keep_0 : decode cX11_keep 0 = .ok (.iload_n 1, 1) := by decide +kernel
theorem dX11_keep_1 : decode cX11_keep 1 = .ok (.iconst 0, 1) := by decide +kernel
theorem dX11_keep_2 : decode cX11_keep 2 = .ok (.iconst 1, 1) := by decide +kernel
theorem dX11_keep_3 : decode cX11_keep 3 = .ok (.invokestatic 297, 3) := by decide +kernel
theorem dX11_keep_6 : decode cX11_keep 6 = .ok (.ifCond .ne 5, 3) := by decide +kernel
theorem dX11_keep_9 : decode cX11_keep 9 = .ok (.iconst (-1), 1) := by decide +kernel
theorem dX11_keep_10 : decode cX11_keep 10 = .ok (.ireturn, 1) := by decide +kernel
theorem dX11_keep_11 : decode cX11_keep 11 = .ok (.aload_n 0, 1) := by decide +kernel
theorem dX11_keep_12 : decode cX11_keep 12 = .ok (.getfield 35, 3) := by decide +kernel
theorem dX11_keep_15 : decode cX11_keep 15 = .ok (.iload_n 1, 1) := by decide +kernel
theorem dX11_keep_16 : decode cX11_keep 16 = .ok (.aload_n 0, 1) := by decide +kernel
theorem dX11_keep_17 : decode cX11_keep 17 = .ok (.getfield 364, 3) := by decide +kernel
theorem dX11_keep_20 : decode cX11_keep 20 = .ok (.iastore, 1) := by decide +kernel
theorem dX11_keep_21 : decode cX11_keep 21 = .ok (.aload_n 0, 1) := by decide +kernel
theorem dX11_keep_22 : decode cX11_keep 22 = .ok (.getfield 7, 3) := by decide +kernel
theorem dX11_keep_25 : decode cX11_keep 25 = .ok (.sipush 357, 3) := by decide +kernel
theorem dX11_keep_28 : decode cX11_keep 28 = .ok (.aload_n 0, 1) := by decide +kernel
theorem dX11_keep_29 : decode cX11_keep 29 = .ok (.getfield 32, 3) := by decide +kernel
theorem dX11_keep_32 : decode cX11_keep 32 = .ok (.sipush 612, 3) := by decide +kernel
theorem dX11_keep_35 : decode cX11_keep 35 = .ok (.iload_n 1, 1) := by decide +kernel
theorem dX11_keep_36 : decode cX11_keep 36 = .ok (.imul, 1) := by decide +kernel
theorem dX11_keep_37 : decode cX11_keep 37 = .ok (.sipush 612, 3) := by decide +kernel
theorem dX11_keep_40 : decode cX11_keep 40 = .ok (.invokestatic 147, 3) := by decide +kernel
theorem dX11_keep_43 : decode cX11_keep 43 = .ok (.aload_n 0, 1) := by decide +kernel
theorem dX11_keep_44 : decode cX11_keep 44 = .ok (.getfield 364, 3) := by decide +kernel
theorem dX11_keep_47 : decode cX11_keep 47 = .ok (.ireturn, 1) := by decide +kernel
theorem dX11_back_0 : decode cX11_back 0 = .ok (.iload_n 1, 1) := by decide +kernel
theorem dX11_back_1 : decode cX11_back 1 = .ok (.iconst 0, 1) := by decide +kernel
theorem dX11_back_2 : decode cX11_back 2 = .ok (.iconst 1, 1) := by decide +kernel
theorem dX11_back_3 : decode cX11_back 3 = .ok (.invokestatic 297, 3) := by decide +kernel
theorem dX11_back_6 : decode cX11_back 6 = .ok (.ifCond .ne 5, 3) := by decide +kernel
theorem dX11_back_9 : decode cX11_back 9 = .ok (.iconst (-1), 1) := by decide +kernel
theorem dX11_back_10 : decode cX11_back 10 = .ok (.ireturn, 1) := by decide +kernel
theorem dX11_back_11 : decode cX11_back 11 = .ok (.aload_n 0, 1) := by decide +kernel
theorem dX11_back_12 : decode cX11_back 12 = .ok (.getfield 35, 3) := by decide +kernel
theorem dX11_back_15 : decode cX11_back 15 = .ok (.iload_n 1, 1) := by decide +kernel
theorem dX11_back_16 : decode cX11_back 16 = .ok (.iaload, 1) := by decide +kernel
theorem dX11_back_17 : decode cX11_back 17 = .ok (.ifCond .ge 6, 3) := by decide +kernel
theorem dX11_back_20 : decode cX11_back 20 = .ok (.bipush (-2), 2) := by decide +kernel
theorem dX11_back_22 : decode cX11_back 22 = .ok (.ireturn, 1) := by decide +kernel
theorem dX11_back_23 : decode cX11_back 23 = .ok (.aload_n 0, 1) := by decide +kernel
theorem dX11_back_24 : decode cX11_back 24 = .ok (.aload_n 0, 1) := by decide +kernel
theorem dX11_back_25 : decode cX11_back 25 = .ok (.getfield 35, 3) := by decide +kernel
theorem dX11_back_28 : decode cX11_back 28 = .ok (.iload_n 1, 1) := by decide +kernel
theorem dX11_back_29 : decode cX11_back 29 = .ok (.iaload, 1) := by decide +kernel
theorem dX11_back_30 : decode cX11_back 30 = .ok (.putfield 364, 3) := by decide +kernel
theorem dX11_back_33 : decode cX11_back 33 = .ok (.aload_n 0, 1) := by decide +kernel
theorem dX11_back_34 : decode cX11_back 34 = .ok (.getfield 32, 3) := by decide +kernel
theorem dX11_back_37 : decode cX11_back 37 = .ok (.sipush 612, 3) := by decide +kernel
theorem dX11_back_40 : decode cX11_back 40 = .ok (.iload_n 1, 1) := by decide +kernel
theorem dX11_back_41 : decode cX11_back 41 = .ok (.imul, 1) := by decide +kernel
theorem dX11_back_42 : decode cX11_back 42 = .ok (.aload_n 0, 1) := by decide +kernel
theorem dX11_back_43 : decode cX11_back 43 = .ok (.getfield 7, 3) := by decide +kernel
theorem dX11_back_46 : decode cX11_back 46 = .ok (.sipush 357, 3) := by decide +kernel
theorem dX11_back_49 : decode cX11_back 49 = .ok (.sipush 612, 3) := by decide +kernel
theorem dX11_back_52 : decode cX11_back 52 = .ok (.invokestatic 147, 3) := by decide +kernel
theorem dX11_back_55 : decode cX11_back 55 = .ok (.aload_n 0, 1) := by decide +kernel
theorem dX11_back_56 : decode cX11_back 56 = .ok (.iconst 0, 1) := by decide +kernel
theorem dX11_back_57 : decode cX11_back 57 = .ok (.putfield 407, 3) := by decide +kernel
theorem dX11_back_60 : decode cX11_back 60 = .ok (.aload_n 0, 1) := by decide +kernel
theorem dX11_back_61 : decode cX11_back 61 = .ok (.getfield 364, 3) := by decide +kernel
theorem dX11_back_64 : decode cX11_back 64 = .ok (.ireturn, 1) := by decide +kernel
set_option maxHeartbeats 4000000 in
set_option maxRecDepth 20000 in
theorem c_enters {l : Launch} {D : va_G} {cy : Nat → ClassId} {ad : Nat → Nat} {q : Int32 × MS} (hi : ∀ i j, i < 34 → j < 34 → ad i = ad j → i = j) (σ : MS) (h : f_enters σ = some q) : MV l D (cyT cy) (inAd ad) yX11_enters cX11_enters 1 (some .int) 15 356 0 0 [.ref (ad 0)] (wm cy ad σ) (some (.int q.1)) (wm cy ad q.2) := by
  refine MV.of (by decide) (wm_inj hi cy σ) (Nat.le_of_ble_eq_true rfl) [(0, .ref (ad 0))] rfl ?_
  intro p e s m args below meth c C
  rw [f_enters] at h
  refine v_aload_n C 0 dX11_enters_0 rfl rfl ?_
  refine n_getI C fl_364 dX11_enters_1 ?_
  refine v_bipush C 6 dX11_enters_4 (by decide) ?_
  refine v_icmp_ne C 12 dX11_enters_6 (by decide) (fun c1 => ?_) (fun c1 => ?_)
  · rw [if_neg c1] at h
    refine v_aload_n C 0 dX11_enters_12 rfl rfl ?_
    refine v_iconst C 1 dX11_enters_13 (by decide) ?_
    obtain ⟨q1, hq1, h⟩ := bd_of h
    refine vm_call C [.int 1] [] (c_readsTerms hi _ _ hq1) hY_readsTerms ml_413 ⟨Nat.le_of_ble_eq_true rfl, Nat.le_of_ble_eq_true rfl⟩ ⟨Nat.zero_le _, Nat.zero_le _⟩ rfl rfl (Nat.le_of_ble_eq_true rfl) dX11_enters_14 (wm_inj hi cy _) ?_
    refine v_aload_n C 0 dX11_enters_17 rfl rfl ?_
    refine n_getI C fl_210 dX11_enters_18 ?_
    refine v_if_lt C 32 dX11_enters_21 (by decide) (fun c2 => ?_) (fun c2 => ?_)
    · rw [if_pos c2] at h
      refine v_aload_n C 0 dX11_enters_32 rfl rfl ?_
      refine v_aload_n C 0 dX11_enters_33 rfl rfl ?_
      refine n_getI C fl_376 dX11_enters_34 ?_
      refine v_sipush C 357 dX11_enters_37 (by decide) ?_
      refine v_bipush C 102 dX11_enters_40 (by decide) ?_
      refine v_aload_n C 0 dX11_enters_42 rfl rfl ?_
      refine n_getI C fl_364 dX11_enters_43 ?_
      refine v_imul C dX11_enters_46 ?_
      refine v_iadd C dX11_enters_47 ?_
      obtain ⟨q2, hq2, h⟩ := bd_of h
      refine vm_call C [.int (q1.2.1 58), .int (357 + (102 * (q1.2.1 8)))] [] (c_toSlot hi _ _ _ hq2) hY_toSlot ml_392 ⟨Nat.le_of_ble_eq_true rfl, Nat.le_of_ble_eq_true rfl⟩ ⟨Nat.zero_le _, Nat.zero_le _⟩ rfl rfl (Nat.le_of_ble_eq_true rfl) dX11_enters_48 (wm_inj hi cy _) ?_
      refine v_aload_n C 0 dX11_enters_51 rfl rfl ?_
      refine v_aload_n C 0 dX11_enters_52 rfl rfl ?_
      refine n_getI C fl_382 dX11_enters_53 ?_
      refine v_sipush C 357 dX11_enters_56 (by decide) ?_
      refine v_bipush C 102 dX11_enters_59 (by decide) ?_
      refine v_aload_n C 0 dX11_enters_61 rfl rfl ?_
      refine n_getI C fl_364 dX11_enters_62 ?_
      refine v_imul C dX11_enters_65 ?_
      refine v_iadd C dX11_enters_66 ?_
      refine v_bipush C 51 dX11_enters_67 (by decide) ?_
      refine v_iadd C dX11_enters_69 ?_
      obtain ⟨q3, hq3, h⟩ := bd_of h
      refine vm_call C [.int (q2.2.1 59), .int ((357 + (102 * (q2.2.1 8))) + 51)] [] (c_toSlot hi _ _ _ hq3) hY_toSlot ml_392 ⟨Nat.le_of_ble_eq_true rfl, Nat.le_of_ble_eq_true rfl⟩ ⟨Nat.zero_le _, Nat.zero_le _⟩ rfl rfl (Nat.le_of_ble_eq_true rfl) dX11_enters_70 (wm_inj hi cy _) ?_
      refine v_aload_n C 0 dX11_enters_73 rfl rfl ?_
      refine v_iconst C 0 dX11_enters_74 (by decide) ?_
      refine v_aload_n C 0 dX11_enters_75 rfl rfl ?_
      refine n_getI C fl_364 dX11_enters_76 ?_
      obtain ⟨q4, hq4, h⟩ := bd_of h
      refine vm_call C [.int 0, .int (q3.2.1 8)] [] (c_notes hi _ _ _ hq4) hY_notes ml_419 ⟨Nat.le_of_ble_eq_true rfl, Nat.le_of_ble_eq_true rfl⟩ ⟨Nat.zero_le _, Nat.zero_le _⟩ rfl rfl (Nat.le_of_ble_eq_true rfl) dX11_enters_79 (wm_inj hi cy _) ?_
      refine v_aload_n C 0 dX11_enters_82 rfl rfl ?_
      refine v_dup C dX11_enters_83 rfl ?_
      refine n_getI C fl_364 dX11_enters_84 ?_
      refine v_iconst C 1 dX11_enters_87 (by decide) ?_
      refine v_iadd C dX11_enters_88 ?_
      refine n_putI C fl_364 dX11_enters_89 ?_
      refine v_aload_n C 0 dX11_enters_92 rfl rfl ?_
      refine v_iconst C 0 dX11_enters_93 (by decide) ?_
      refine n_putI C fl_216 dX11_enters_94 ?_
      refine v_aload_n C 0 dX11_enters_97 rfl rfl ?_
      refine n_getI C fl_364 dX11_enters_98 ?_
      obtain rfl := Option.some.inj h
      exact v_iret C dX11_enters_101
    · rw [if_neg c2] at h
      refine v_bipush C (-10) dX11_enters_24 (by decide) ?_
      refine v_aload_n C 0 dX11_enters_26 rfl rfl ?_
      refine n_getI C fl_210 dX11_enters_27 ?_
      refine v_isub C dX11_enters_30 ?_
      obtain rfl := Option.some.inj h
      exact v_iret C dX11_enters_31
  · rw [if_pos c1] at h
    refine v_bipush C (-3) dX11_enters_9 (by decide) ?_
    obtain rfl := Option.some.inj h
    exact v_iret C dX11_enters_11
set_option maxHeartbeats 4000000 in
set_option maxRecDepth 20000 in
theorem c_goes {l : Launch} {D : va_G} {cy : Nat → ClassId} {ad : Nat → Nat} {q : Int32 × MS} (hi : ∀ i j, i < 34 → j < 34 → ad i = ad j → i = j) (x1 : Int32) (σ : MS) (h : f_goes x1 σ = some q) : MV l D (cyT cy) (inAd ad) yX11_goes cX11_goes 2 none 1 25 0 0 [.ref (ad 0), .int x1] (wm cy ad σ) none (wm cy ad q.2) := by
  refine MV.of (by decide) (wm_inj hi cy σ) (Nat.le_of_ble_eq_true rfl) [(0, .ref (ad 0)), (1, .int x1)] rfl ?_
  intro p e s m args below meth c C
  rw [f_goes] at h
  refine v_aload_n C 0 dX11_goes_0 rfl rfl ?_
  refine n_getR C fl_7 dX11_goes_1 ?_
  refine v_sipush C 357 dX11_goes_4 (by decide) ?_
  refine v_bipush C 102 dX11_goes_7 (by decide) ?_
  refine v_iload_n C 1 dX11_goes_9 rfl rfl ?_
  refine v_iconst C 1 dX11_goes_10 (by decide) ?_
  refine v_iadd C dX11_goes_11 ?_
  refine v_imul C dX11_goes_12 ?_
  refine v_iadd C dX11_goes_13 ?_
  refine v_aload_n C 0 dX11_goes_14 rfl rfl ?_
  refine n_getR C fl_7 dX11_goes_15 ?_
  refine v_sipush C 357 dX11_goes_18 (by decide) ?_
  refine v_bipush C 102 dX11_goes_21 (by decide) ?_
  refine v_iload_n C 1 dX11_goes_23 rfl rfl ?_
  refine v_imul C dX11_goes_24 ?_
  refine v_iadd C dX11_goes_25 ?_
  refine v_bipush C 102 dX11_goes_26 (by decide) ?_
  refine v_aload_n C 0 dX11_goes_28 rfl rfl ?_
  refine n_getI C fl_364 dX11_goes_29 ?_
  refine v_iconst C 1 dX11_goes_32 (by decide) ?_
  refine v_isub C dX11_goes_33 ?_
  refine v_iload_n C 1 dX11_goes_34 rfl rfl ?_
  refine v_isub C dX11_goes_35 ?_
  refine v_imul C dX11_goes_36 ?_
  obtain ⟨q1, hq1, h⟩ := bd_of h
  refine vm_callS C [.ref (ad 1), .int (357 + (102 * (x1 + 1))), .ref (ad 1), .int (357 + (102 * x1)), .int (102 * (((σ.1 8) - 1) - x1))] [] (c_bring hi iI_1 iI_1 _ _ _ _ hq1) hY_bring ml_147 ⟨Nat.le_of_ble_eq_true rfl, Nat.le_of_ble_eq_true rfl⟩ ⟨Nat.zero_le _, Nat.zero_le _⟩ rfl rfl (Nat.le_of_ble_eq_true rfl) dX11_goes_37 (wm_inj hi cy _) ?_
  refine v_aload_n C 0 dX11_goes_40 rfl rfl ?_
  refine v_dup C dX11_goes_41 rfl ?_
  refine n_getI C fl_364 dX11_goes_42 ?_
  refine v_iconst C 1 dX11_goes_45 (by decide) ?_
  refine v_isub C dX11_goes_46 ?_
  refine n_putI C fl_364 dX11_goes_47 ?_
  obtain rfl := Option.some.inj h
  exact v_vret C dX11_goes_50
set_option maxHeartbeats 4000000 in
set_option maxRecDepth 20000 in
theorem c_drops {l : Launch} {D : va_G} {cy : Nat → ClassId} {ad : Nat → Nat} {q : Int32 × MS} (hi : ∀ i j, i < 34 → j < 34 → ad i = ad j → i = j) (x1 : Int32) (σ : MS) (h : f_drops x1 σ = some q) : MV l D (cyT cy) (inAd ad) yX11_drops cX11_drops 2 (some .int) 2 47 0 0 [.ref (ad 0), .int x1] (wm cy ad σ) (some (.int q.1)) (wm cy ad q.2) := by
  refine MV.of (by decide) (wm_inj hi cy σ) (Nat.le_of_ble_eq_true rfl) [(0, .ref (ad 0)), (1, .int x1)] rfl ?_
  intro p e s m args below meth c C
  rw [f_drops] at h
  refine v_aload_n C 0 dX11_drops_0 rfl rfl ?_
  refine v_iload_n C 1 dX11_drops_1 rfl rfl ?_
  obtain ⟨q1, hq1, h⟩ := bd_of h
  refine vm_call C [.int x1] [] (c_isEntry hi _ _ hq1) hY_isEntry ml_422 ⟨Nat.le_of_ble_eq_true rfl, Nat.le_of_ble_eq_true rfl⟩ ⟨Nat.zero_le _, Nat.zero_le _⟩ rfl rfl (Nat.le_of_ble_eq_true rfl) dX11_drops_2 (wm_inj hi cy _) ?_
  refine v_if_ne C 10 dX11_drops_5 (by decide) (fun c1 => ?_) (fun c1 => ?_)
  · rw [if_neg c1] at h
    refine v_aload_n C 0 dX11_drops_10 rfl rfl ?_
    refine v_iconst C 1 dX11_drops_11 (by decide) ?_
    refine v_iload_n C 1 dX11_drops_12 rfl rfl ?_
    obtain ⟨q2, hq2, h⟩ := bd_of h
    refine vm_call C [.int 1, .int x1] [] (c_notes hi _ _ _ hq2) hY_notes ml_419 ⟨Nat.le_of_ble_eq_true rfl, Nat.le_of_ble_eq_true rfl⟩ ⟨Nat.zero_le _, Nat.zero_le _⟩ rfl rfl (Nat.le_of_ble_eq_true rfl) dX11_drops_13 (wm_inj hi cy _) ?_
    refine v_aload_n C 0 dX11_drops_16 rfl rfl ?_
    refine v_iload_n C 1 dX11_drops_17 rfl rfl ?_
    obtain ⟨q3, hq3, h⟩ := bd_of h
    refine vm_call C [.int x1] [] (c_goes hi _ _ hq3) hY_goes ml_425 ⟨Nat.le_of_ble_eq_true rfl, Nat.le_of_ble_eq_true rfl⟩ ⟨Nat.zero_le _, Nat.zero_le _⟩ rfl rfl (Nat.le_of_ble_eq_true rfl) dX11_drops_18 (wm_inj hi cy _) ?_
    refine v_aload_n C 0 dX11_drops_21 rfl rfl ?_
    refine n_getI C fl_364 dX11_drops_22 ?_
    obtain rfl := Option.some.inj h
    exact v_iret C dX11_drops_25
  · rw [if_pos c1] at h
    refine v_iconst C (-1) dX11_drops_8 (by decide) ?_
    obtain rfl := Option.some.inj h
    exact v_iret C dX11_drops_9
set_option maxHeartbeats 4000000 in
set_option maxRecDepth 20000 in
theorem l_undo_57 {p : Program} {l : Launch} {e : Env} {s : State} {m : MethodId} {args : Array Value} {below : List Frame} {meth : Method} {c : Code} {D : va_G} {cy : Nat → ClassId} {ad : Nat → Nat} {q : Int32 × MS} (C : vC p s m args meth c cX11_undo 3 (some .int) RX11 D (cyT cy)) (hi : ∀ i j, i < 34 → j < 34 → ad i = ad j → i = j) : ∀ (n : Nat) (x1 : Int32) (x2 : Int32) (σ : MS), L_undo_57 n x1 x2 σ = some q → V p l e { frames := 2, cells := 0, slots := 0, locals := 46 } s m args below meth c D (inAd ad) 3 (MQ below (vQ D (inAd ad) (some (.int q.1)) (wm cy ad q.2)) args s 0 0 (inAd ad)) 0 0 (wm cy ad σ) 57 [(0, .ref (ad 0)), (1, .int x1), (2, .int x2)] [] := by
  intro n
  induction n with
  | zero =>
    intro x1 x2 σ h
    rw [L_undo_57.eq_1] at h
    cases h
  | succ n ih =>
    intro x1 x2 σ h
    rw [L_undo_57.eq_2] at h
    refine v_iload_n C 2 dX11_undo_57 rfl rfl ?_
    refine v_iload_n C 1 dX11_undo_58 rfl rfl ?_
    refine v_icmp_le C 99 dX11_undo_59 (by decide) (fun c1 => ?_) (fun c1 => ?_)
    · rw [if_pos c1] at h
      refine v_aload_n C 0 dX11_undo_99 rfl rfl ?_
      refine n_getR C fl_29 dX11_undo_100 ?_
      refine v_bipush C 102 dX11_undo_103 (by decide) ?_
      refine v_aload_n C 0 dX11_undo_105 rfl rfl ?_
      refine n_getI C fl_407 dX11_undo_106 ?_
      refine v_imul C dX11_undo_109 ?_
      refine v_aload_n C 0 dX11_undo_110 rfl rfl ?_
      refine n_getR C fl_7 dX11_undo_111 ?_
      refine v_sipush C 357 dX11_undo_114 (by decide) ?_
      refine v_bipush C 102 dX11_undo_117 (by decide) ?_
      refine v_iload_n C 1 dX11_undo_119 rfl rfl ?_
      refine v_imul C dX11_undo_120 ?_
      refine v_iadd C dX11_undo_121 ?_
      refine v_bipush C 102 dX11_undo_122 (by decide) ?_
      obtain ⟨q1, hq1, h⟩ := bd_of h
      refine vm_callS C [.ref (ad 7), .int (102 * (σ.1 15)), .ref (ad 1), .int (357 + (102 * x1)), .int 102] [] (c_bring hi iI_7 iI_1 _ _ _ _ hq1) hY_bring ml_147 ⟨Nat.le_of_ble_eq_true rfl, Nat.le_of_ble_eq_true rfl⟩ ⟨Nat.zero_le _, Nat.zero_le _⟩ rfl rfl (Nat.le_of_ble_eq_true rfl) dX11_undo_124 (wm_inj hi cy _) ?_
      refine v_aload_n C 0 dX11_undo_127 rfl rfl ?_
      refine v_dup C dX11_undo_128 rfl ?_
      refine n_getI C fl_364 dX11_undo_129 ?_
      refine v_iconst C 1 dX11_undo_132 (by decide) ?_
      refine v_iadd C dX11_undo_133 ?_
      refine n_putI C fl_364 dX11_undo_134 ?_
      refine v_aload_n C 0 dX11_undo_137 rfl rfl ?_
      refine n_getI C fl_407 dX11_undo_138 ?_
      obtain rfl := Option.some.inj h
      exact v_iret C dX11_undo_141
    · rw [if_neg c1] at h
      refine v_aload_n C 0 dX11_undo_62 rfl rfl ?_
      refine n_getR C fl_7 dX11_undo_63 ?_
      refine v_sipush C 357 dX11_undo_66 (by decide) ?_
      refine v_bipush C 102 dX11_undo_69 (by decide) ?_
      refine v_iload_n C 2 dX11_undo_71 rfl rfl ?_
      refine v_iconst C 1 dX11_undo_72 (by decide) ?_
      refine v_isub C dX11_undo_73 ?_
      refine v_imul C dX11_undo_74 ?_
      refine v_iadd C dX11_undo_75 ?_
      refine v_aload_n C 0 dX11_undo_76 rfl rfl ?_
      refine n_getR C fl_7 dX11_undo_77 ?_
      refine v_sipush C 357 dX11_undo_80 (by decide) ?_
      refine v_bipush C 102 dX11_undo_83 (by decide) ?_
      refine v_iload_n C 2 dX11_undo_85 rfl rfl ?_
      refine v_imul C dX11_undo_86 ?_
      refine v_iadd C dX11_undo_87 ?_
      refine v_bipush C 102 dX11_undo_88 (by decide) ?_
      obtain ⟨q2, hq2, h⟩ := bd_of h
      refine vm_callS C [.ref (ad 1), .int (357 + (102 * (x2 - 1))), .ref (ad 1), .int (357 + (102 * x2)), .int 102] [] (c_bring hi iI_1 iI_1 _ _ _ _ hq2) hY_bring ml_147 ⟨Nat.le_of_ble_eq_true rfl, Nat.le_of_ble_eq_true rfl⟩ ⟨Nat.zero_le _, Nat.zero_le _⟩ rfl rfl (Nat.le_of_ble_eq_true rfl) dX11_undo_90 (wm_inj hi cy _) ?_
      refine v_iinc C (x2 + (-1)) 2 [(2, .int (x2 + (-1))), (0, .ref (ad 0)), (1, .int x1)] dX11_undo_93 rfl rfl (by decide) rfl ?_
      refine v_goto C 57 dX11_undo_96 (by decide) ?_
      exact v_sub [1, 2, 0] rfl (ih _ _ _ h)
set_option maxHeartbeats 4000000 in
set_option maxRecDepth 20000 in
theorem c_undo {l : Launch} {D : va_G} {cy : Nat → ClassId} {ad : Nat → Nat} {q : Int32 × MS} (hi : ∀ i j, i < 34 → j < 34 → ad i = ad j → i = j) (σ : MS) (h : f_undo σ = some q) : MV l D (cyT cy) (inAd ad) yX11_undo cX11_undo 3 (some .int) 2 46 0 0 [.ref (ad 0)] (wm cy ad σ) (some (.int q.1)) (wm cy ad q.2) := by
  refine MV.of (by decide) (wm_inj hi cy σ) (Nat.le_of_ble_eq_true rfl) [(0, .ref (ad 0))] rfl ?_
  intro p e s m args below meth c C
  rw [f_undo] at h
  refine v_aload_n C 0 dX11_undo_0 rfl rfl ?_
  refine n_getI C fl_407 dX11_undo_1 ?_
  refine v_if_ne C 10 dX11_undo_4 (by decide) (fun c1 => ?_) (fun c1 => ?_)
  · rw [if_neg c1] at h
    refine v_aload_n C 0 dX11_undo_10 rfl rfl ?_
    refine v_dup C dX11_undo_11 rfl ?_
    refine n_getI C fl_407 dX11_undo_12 ?_
    refine v_iconst C 1 dX11_undo_15 (by decide) ?_
    refine v_isub C dX11_undo_16 ?_
    refine n_putI C fl_407 dX11_undo_17 ?_
    refine v_aload_n C 0 dX11_undo_20 rfl rfl ?_
    refine n_getR C fl_26 dX11_undo_21 ?_
    refine v_aload_n C 0 dX11_undo_24 rfl rfl ?_
    refine n_getI C fl_407 dX11_undo_25 ?_
    obtain ⟨g1, h⟩ := gd_of h
    refine vm_iald C 6 iI_6 (ix_in g1) dX11_undo_28 ?_
    refine v_istore_n C [(1, .int ((setF σ 15 ((σ.1 15) - 1)).2.1 6 (((setF σ 15 ((σ.1 15) - 1)).1 15) : Int32).toNatClampNeg)), (0, .ref (ad 0))] dX11_undo_29 rfl (by decide) rfl ?_
    refine v_aload_n C 1 dX11_undo_30 rfl rfl ?_
    refine n_getR C fl_23 dX11_undo_31 ?_
    refine v_aload_n C 1 dX11_undo_34 rfl rfl ?_
    refine n_getI C fl_407 dX11_undo_35 ?_
    obtain ⟨g2, h⟩ := gd_of h
    refine vm_iald C 5 iI_5 (ix_in g2) dX11_undo_38 ?_
    refine v_if_ne C 52 dX11_undo_39 (by decide) (fun c2 => ?_) (fun c2 => ?_)
    · rw [if_neg c2] at h
      refine v_aload_n C 1 dX11_undo_52 rfl rfl ?_
      refine n_getI C fl_364 dX11_undo_53 ?_
      refine v_istore_n C [(2, .int ((setF σ 15 ((σ.1 15) - 1)).1 8)), (1, .int ((setF σ 15 ((σ.1 15) - 1)).2.1 6 (((setF σ 15 ((σ.1 15) - 1)).1 15) : Int32).toNatClampNeg)), (0, .ref (ad 0))] dX11_undo_56 rfl (by decide) rfl ?_
      exact v_sub [2, 1, 0] rfl ((l_undo_57 C hi 10000) _ _ _ h)
    · rw [if_pos c2] at h
      refine v_aload_n C 1 dX11_undo_42 rfl rfl ?_
      refine v_iload_n C 0 dX11_undo_43 rfl rfl ?_
      obtain ⟨q1, hq1, h⟩ := bd_of h
      refine vm_call C [.int ((setF σ 15 ((σ.1 15) - 1)).2.1 6 (((setF σ 15 ((σ.1 15) - 1)).1 15) : Int32).toNatClampNeg)] [] (c_goes hi _ _ hq1) hY_goes ml_425 ⟨Nat.le_of_ble_eq_true rfl, Nat.le_of_ble_eq_true rfl⟩ ⟨Nat.zero_le _, Nat.zero_le _⟩ rfl rfl (Nat.le_of_ble_eq_true rfl) dX11_undo_44 (wm_inj hi cy _) ?_
      refine v_aload_n C 1 dX11_undo_47 rfl rfl ?_
      refine n_getI C fl_407 dX11_undo_48 ?_
      obtain rfl := Option.some.inj h
      exact v_iret C dX11_undo_51
  · rw [if_pos c1] at h
    refine v_bipush C (-2) dX11_undo_7 (by decide) ?_
    obtain rfl := Option.some.inj h
    exact v_iret C dX11_undo_9
set_option maxHeartbeats 4000000 in
set_option maxRecDepth 20000 in
theorem b_entry_21 {p : Program} {l : Launch} {e : Env} {s : State} {m : MethodId} {args : Array Value} {below : List Frame} {meth : Method} {c : Code} {D : va_G} {cy : Nat → ClassId} {ad : Nat → Nat} {q : Int32 × MS} (C : vC p s m args meth c cX11_entry 4 (some .int) RX11 D (cyT cy)) (hi : ∀ i j, i < 34 → j < 34 → ad i = ad j → i = j) : ∀ (σ : MS), B_entry_21 σ = some q → V p l e { frames := 5, cells := 0, slots := 0, locals := 107 } s m args below meth c D (inAd ad) 4 (MQ below (vQ D (inAd ad) (some (.int q.1)) (wm cy ad q.2)) args s 0 0 (inAd ad)) 0 0 (wm cy ad σ) 21 [(0, .ref (ad 0))] [] := by
  intro σ h
  rw [B_entry_21] at h
  refine v_iconst C (-1) dX11_entry_21 (by decide) ?_
  obtain rfl := Option.some.inj h
  exact v_iret C dX11_entry_22
set_option maxHeartbeats 4000000 in
set_option maxRecDepth 20000 in
theorem c_entry {l : Launch} {D : va_G} {cy : Nat → ClassId} {ad : Nat → Nat} {q : Int32 × MS} (hi : ∀ i j, i < 34 → j < 34 → ad i = ad j → i = j) (x1 : Int32) (x2 : Int32) (x3 : Int32) (σ : MS) (h : f_entry x1 x2 x3 σ = some q) : MV l D (cyT cy) (inAd ad) yX11_entry cX11_entry 4 (some .int) 5 107 0 0 [.ref (ad 0), .int x1, .int x2, .int x3] (wm cy ad σ) (some (.int q.1)) (wm cy ad q.2) := by
  refine MV.of (by decide) (wm_inj hi cy σ) (Nat.le_of_ble_eq_true rfl) [(0, .ref (ad 0)), (1, .int x1), (2, .int x2), (3, .int x3)] rfl ?_
  intro p e s m args below meth c C
  rw [f_entry] at h
  refine v_aload_n C 0 dX11_entry_0 rfl rfl ?_
  refine v_iload_n C 1 dX11_entry_1 rfl rfl ?_
  obtain ⟨q1, hq1, h⟩ := bd_of h
  refine vm_call C [.int x1] [] (c_isEntry hi _ _ hq1) hY_isEntry ml_422 ⟨Nat.le_of_ble_eq_true rfl, Nat.le_of_ble_eq_true rfl⟩ ⟨Nat.zero_le _, Nat.zero_le _⟩ rfl rfl (Nat.le_of_ble_eq_true rfl) dX11_entry_2 (wm_inj hi cy _) ?_
  refine v_if_eq C 21 dX11_entry_5 (by decide) (fun c1 => ?_) (fun c1 => ?_)
  · rw [if_pos c1] at h
    exact v_sub [0] rfl ((b_entry_21 C hi) _ h)
  · rw [if_neg c1] at h
    refine v_iload_n C 2 dX11_entry_8 rfl rfl ?_
    refine v_iconst C 0 dX11_entry_9 (by decide) ?_
    refine v_iconst C 1 dX11_entry_10 (by decide) ?_
    obtain ⟨q2, hq2, h⟩ := bd_of h
    refine vm_callS C [.int x2, .int 0, .int 1] [] (c_in hi _ _ _ _ hq2) hY_in ml_297 ⟨Nat.le_of_ble_eq_true rfl, Nat.le_of_ble_eq_true rfl⟩ ⟨Nat.zero_le _, Nat.zero_le _⟩ rfl rfl (Nat.le_of_ble_eq_true rfl) dX11_entry_11 (wm_inj hi cy _) ?_
    refine v_if_eq C 21 dX11_entry_14 (by decide) (fun c2 => ?_) (fun c2 => ?_)
    · rw [if_pos c2] at h
      exact v_sub [0] rfl ((b_entry_21 C hi) _ h)
    · rw [if_neg c2] at h
      refine v_iload_n C 3 dX11_entry_17 rfl rfl ?_
      refine v_if_ge C 23 dX11_entry_18 (by decide) (fun c3 => ?_) (fun c3 => ?_)
      · rw [if_pos c3] at h
        refine v_aload_n C 0 dX11_entry_23 rfl rfl ?_
        refine v_sipush C 357 dX11_entry_24 (by decide) ?_
        refine v_bipush C 102 dX11_entry_27 (by decide) ?_
        refine v_iload_n C 1 dX11_entry_29 rfl rfl ?_
        refine v_imul C dX11_entry_30 ?_
        refine v_iadd C dX11_entry_31 ?_
        refine v_bipush C 51 dX11_entry_32 (by decide) ?_
        refine v_iload_n C 2 dX11_entry_34 rfl rfl ?_
        refine v_imul C dX11_entry_35 ?_
        refine v_iadd C dX11_entry_36 ?_
        refine v_iload_n C 3 dX11_entry_37 rfl rfl ?_
        obtain ⟨q3, hq3, h⟩ := bd_of h
        refine vm_call C [.int ((357 + (102 * x1)) + (51 * x2)), .int x3] [] (c_signAt hi _ _ _ hq3) hY_signAt ml_410 ⟨Nat.le_of_ble_eq_true rfl, Nat.le_of_ble_eq_true rfl⟩ ⟨Nat.zero_le _, Nat.zero_le _⟩ rfl rfl (Nat.le_of_ble_eq_true rfl) dX11_entry_38 (wm_inj hi cy _) ?_
        obtain rfl := Option.some.inj h
        exact v_iret C dX11_entry_41
      · rw [if_neg c3] at h
        exact v_sub [0] rfl ((b_entry_21 C hi) _ h)
set_option maxHeartbeats 4000000 in
set_option maxRecDepth 20000 in
theorem b_likeOf_33 {p : Program} {l : Launch} {e : Env} {s : State} {m : MethodId} {args : Array Value} {below : List Frame} {meth : Method} {c : Code} {D : va_G} {cy : Nat → ClassId} {ad : Nat → Nat} {q : Int32 × MS} (C : vC p s m args meth c cX11_likeOf 3 (some .int) RX11 D (cyT cy)) (hi : ∀ i j, i < 34 → j < 34 → ad i = ad j → i = j) : ∀ (s0 : Int32) (σ : MS), B_likeOf_33 s0 σ = some q → V p l e { frames := 5, cells := 0, slots := 0, locals := 110 } s m args below meth c D (inAd ad) 3 (MQ below (vQ D (inAd ad) (some (.int q.1)) (wm cy ad q.2)) args s 0 0 (inAd ad)) 0 0 (wm cy ad σ) 33 [(0, .ref (ad 0))] [.int s0] := by
  intro s0 σ h
  rw [B_likeOf_33] at h
  obtain rfl := Option.some.inj h
  exact v_iret C dX11_likeOf_33
set_option maxHeartbeats 4000000 in
set_option maxRecDepth 20000 in
theorem c_likeOf {l : Launch} {D : va_G} {cy : Nat → ClassId} {ad : Nat → Nat} {q : Int32 × MS} (hi : ∀ i j, i < 34 → j < 34 → ad i = ad j → i = j) (x1 : Int32) (x2 : Int32) (σ : MS) (h : f_likeOf x1 x2 σ = some q) : MV l D (cyT cy) (inAd ad) yX11_likeOf cX11_likeOf 3 (some .int) 5 110 0 0 [.ref (ad 0), .int x1, .int x2] (wm cy ad σ) (some (.int q.1)) (wm cy ad q.2) := by
  refine MV.of (by decide) (wm_inj hi cy σ) (Nat.le_of_ble_eq_true rfl) [(0, .ref (ad 0)), (1, .int x1), (2, .int x2)] rfl ?_
  intro p e s m args below meth c C
  rw [f_likeOf] at h
  refine v_aload_n C 0 dX11_likeOf_0 rfl rfl ?_
  refine v_iload_n C 1 dX11_likeOf_1 rfl rfl ?_
  refine v_iload_n C 2 dX11_likeOf_2 rfl rfl ?_
  obtain ⟨q1, hq1, h⟩ := bd_of h
  refine vm_call C [.int x1, .int x2] [] (c_isSame hi _ _ _ hq1) hY_isSame ml_258 ⟨Nat.le_of_ble_eq_true rfl, Nat.le_of_ble_eq_true rfl⟩ ⟨Nat.zero_le _, Nat.zero_le _⟩ rfl rfl (Nat.le_of_ble_eq_true rfl) dX11_likeOf_3 (wm_inj hi cy _) ?_
  refine v_if_ne C 13 dX11_likeOf_6 (by decide) (fun c1 => ?_) (fun c1 => ?_)
  · rw [if_neg c1] at h
    refine v_aload_n C 0 dX11_likeOf_13 rfl rfl ?_
    refine v_iload_n C 1 dX11_likeOf_14 rfl rfl ?_
    refine v_bipush C 51 dX11_likeOf_15 (by decide) ?_
    refine v_iadd C dX11_likeOf_17 ?_
    refine v_iload_n C 2 dX11_likeOf_18 rfl rfl ?_
    refine v_bipush C 51 dX11_likeOf_19 (by decide) ?_
    refine v_iadd C dX11_likeOf_21 ?_
    obtain ⟨q2, hq2, h⟩ := bd_of h
    refine vm_call C [.int (x1 + 51), .int (x2 + 51)] [] (c_isSame hi _ _ _ hq2) hY_isSame ml_258 ⟨Nat.le_of_ble_eq_true rfl, Nat.le_of_ble_eq_true rfl⟩ ⟨Nat.zero_le _, Nat.zero_le _⟩ rfl rfl (Nat.le_of_ble_eq_true rfl) dX11_likeOf_22 (wm_inj hi cy _) ?_
    refine v_if_eq C 32 dX11_likeOf_25 (by decide) (fun c2 => ?_) (fun c2 => ?_)
    · rw [if_pos c2] at h
      refine v_iconst C 1 dX11_likeOf_32 (by decide) ?_
      exact v_sub [0] rfl ((b_likeOf_33 C hi) _ _ h)
    · rw [if_neg c2] at h
      refine v_iconst C 2 dX11_likeOf_28 (by decide) ?_
      refine v_goto C 33 dX11_likeOf_29 (by decide) ?_
      exact v_sub [0] rfl ((b_likeOf_33 C hi) _ _ h)
  · rw [if_pos c1] at h
    refine v_iconst C 0 dX11_likeOf_9 (by decide) ?_
    refine v_goto C 33 dX11_likeOf_10 (by decide) ?_
    exact v_sub [0] rfl ((b_likeOf_33 C hi) _ _ h)
set_option maxHeartbeats 4000000 in
set_option maxRecDepth 20000 in
theorem b_like_40 {p : Program} {l : Launch} {e : Env} {s : State} {m : MethodId} {args : Array Value} {below : List Frame} {meth : Method} {c : Code} {D : va_G} {cy : Nat → ClassId} {ad : Nat → Nat} {q : Int32 × MS} (C : vC p s m args meth c cX11_like 3 (some .int) RX11 D (cyT cy)) (hi : ∀ i j, i < 34 → j < 34 → ad i = ad j → i = j) : ∀ (s0 : Int32) (σ : MS), B_like_40 s0 σ = some q → V p l e { frames := 6, cells := 0, slots := 0, locals := 132 } s m args below meth c D (inAd ad) 3 (MQ below (vQ D (inAd ad) (some (.int q.1)) (wm cy ad q.2)) args s 0 0 (inAd ad)) 0 0 (wm cy ad σ) 40 [(0, .ref (ad 0))] [.int s0] := by
  intro s0 σ h
  rw [B_like_40] at h
  obtain rfl := Option.some.inj h
  exact v_iret C dX11_like_40
set_option maxHeartbeats 4000000 in
set_option maxRecDepth 20000 in
theorem b_like_39 {p : Program} {l : Launch} {e : Env} {s : State} {m : MethodId} {args : Array Value} {below : List Frame} {meth : Method} {c : Code} {D : va_G} {cy : Nat → ClassId} {ad : Nat → Nat} {q : Int32 × MS} (C : vC p s m args meth c cX11_like 3 (some .int) RX11 D (cyT cy)) (hi : ∀ i j, i < 34 → j < 34 → ad i = ad j → i = j) {k40 : Int32 → MS → Option (Int32 × MS)} (hk40 : ∀ (s0 : Int32)  (σ : MS), k40 s0 σ = some q → V p l e { frames := 6, cells := 0, slots := 0, locals := 132 } s m args below meth c D (inAd ad) 3 (MQ below (vQ D (inAd ad) (some (.int q.1)) (wm cy ad q.2)) args s 0 0 (inAd ad)) 0 0 (wm cy ad σ) 40 [(0, .ref (ad 0))] [.int s0]) : ∀ (σ : MS), B_like_39 k40 σ = some q → V p l e { frames := 6, cells := 0, slots := 0, locals := 132 } s m args below meth c D (inAd ad) 3 (MQ below (vQ D (inAd ad) (some (.int q.1)) (wm cy ad q.2)) args s 0 0 (inAd ad)) 0 0 (wm cy ad σ) 39 [(0, .ref (ad 0))] [] := by
  intro σ h
  rw [B_like_39] at h
  refine v_iconst C (-1) dX11_like_39 (by decide) ?_
  exact v_sub [0] rfl (hk40 _ _ h)
set_option maxHeartbeats 4000000 in
set_option maxRecDepth 20000 in
theorem c_like {l : Launch} {D : va_G} {cy : Nat → ClassId} {ad : Nat → Nat} {q : Int32 × MS} (hi : ∀ i j, i < 34 → j < 34 → ad i = ad j → i = j) (x1 : Int32) (x2 : Int32) (σ : MS) (h : f_like x1 x2 σ = some q) : MV l D (cyT cy) (inAd ad) yX11_like cX11_like 3 (some .int) 6 132 0 0 [.ref (ad 0), .int x1, .int x2] (wm cy ad σ) (some (.int q.1)) (wm cy ad q.2) := by
  refine MV.of (by decide) (wm_inj hi cy σ) (Nat.le_of_ble_eq_true rfl) [(0, .ref (ad 0)), (1, .int x1), (2, .int x2)] rfl ?_
  intro p e s m args below meth c C
  rw [f_like] at h
  refine v_aload_n C 0 dX11_like_0 rfl rfl ?_
  refine v_iload_n C 1 dX11_like_1 rfl rfl ?_
  obtain ⟨q1, hq1, h⟩ := bd_of h
  refine vm_call C [.int x1] [] (c_isEntry hi _ _ hq1) hY_isEntry ml_422 ⟨Nat.le_of_ble_eq_true rfl, Nat.le_of_ble_eq_true rfl⟩ ⟨Nat.zero_le _, Nat.zero_le _⟩ rfl rfl (Nat.le_of_ble_eq_true rfl) dX11_like_2 (wm_inj hi cy _) ?_
  refine v_if_eq C 39 dX11_like_5 (by decide) (fun c1 => ?_) (fun c1 => ?_)
  · rw [if_pos c1] at h
    exact v_sub [0] rfl ((b_like_39 C hi (b_like_40 C hi)) _ h)
  · rw [if_neg c1] at h
    refine v_aload_n C 0 dX11_like_8 rfl rfl ?_
    refine v_iload_n C 2 dX11_like_9 rfl rfl ?_
    obtain ⟨q2, hq2, h⟩ := bd_of h
    refine vm_call C [.int x2] [] (c_isEntry hi _ _ hq2) hY_isEntry ml_422 ⟨Nat.le_of_ble_eq_true rfl, Nat.le_of_ble_eq_true rfl⟩ ⟨Nat.zero_le _, Nat.zero_le _⟩ rfl rfl (Nat.le_of_ble_eq_true rfl) dX11_like_10 (wm_inj hi cy _) ?_
    refine v_if_eq C 39 dX11_like_13 (by decide) (fun c2 => ?_) (fun c2 => ?_)
    · rw [if_pos c2] at h
      exact v_sub [0] rfl ((b_like_39 C hi (b_like_40 C hi)) _ h)
    · rw [if_neg c2] at h
      refine v_aload_n C 0 dX11_like_16 rfl rfl ?_
      refine v_sipush C 357 dX11_like_17 (by decide) ?_
      refine v_bipush C 102 dX11_like_20 (by decide) ?_
      refine v_iload_n C 1 dX11_like_22 rfl rfl ?_
      refine v_imul C dX11_like_23 ?_
      refine v_iadd C dX11_like_24 ?_
      refine v_sipush C 357 dX11_like_25 (by decide) ?_
      refine v_bipush C 102 dX11_like_28 (by decide) ?_
      refine v_iload_n C 2 dX11_like_30 rfl rfl ?_
      refine v_imul C dX11_like_31 ?_
      refine v_iadd C dX11_like_32 ?_
      obtain ⟨q3, hq3, h⟩ := bd_of h
      refine vm_call C [.int (357 + (102 * x1)), .int (357 + (102 * x2))] [] (c_likeOf hi _ _ _ hq3) hY_likeOf ml_428 ⟨Nat.le_of_ble_eq_true rfl, Nat.le_of_ble_eq_true rfl⟩ ⟨Nat.zero_le _, Nat.zero_le _⟩ rfl rfl (Nat.le_of_ble_eq_true rfl) dX11_like_33 (wm_inj hi cy _) ?_
      refine v_goto C 40 dX11_like_36 (by decide) ?_
      exact v_sub [0] rfl ((b_like_40 C hi) _ _ h)
set_option maxHeartbeats 4000000 in
set_option maxRecDepth 20000 in
theorem c_sees {l : Launch} {D : va_G} {cy : Nat → ClassId} {ad : Nat → Nat} {q : Int32 × MS} (hi : ∀ i j, i < 34 → j < 34 → ad i = ad j → i = j) (x1 : Int32) (σ : MS) (h : f_sees x1 σ = some q) : MV l D (cyT cy) (inAd ad) yX11_sees cX11_sees 2 (some .int) 15 356 0 0 [.ref (ad 0), .int x1] (wm cy ad σ) (some (.int q.1)) (wm cy ad q.2) := by
  refine MV.of (by decide) (wm_inj hi cy σ) (Nat.le_of_ble_eq_true rfl) [(0, .ref (ad 0)), (1, .int x1)] rfl ?_
  intro p e s m args below meth c C
  rw [f_sees] at h
  refine v_iload_n C 1 dX11_sees_0 rfl rfl ?_
  refine v_iconst C 0 dX11_sees_1 (by decide) ?_
  refine v_iconst C 2 dX11_sees_2 (by decide) ?_
  obtain ⟨q1, hq1, h⟩ := bd_of h
  refine vm_callS C [.int x1, .int 0, .int 2] [] (c_in hi _ _ _ _ hq1) hY_in ml_297 ⟨Nat.le_of_ble_eq_true rfl, Nat.le_of_ble_eq_true rfl⟩ ⟨Nat.zero_le _, Nat.zero_le _⟩ rfl rfl (Nat.le_of_ble_eq_true rfl) dX11_sees_3 (wm_inj hi cy _) ?_
  refine v_if_ne C 11 dX11_sees_6 (by decide) (fun c1 => ?_) (fun c1 => ?_)
  · rw [if_neg c1] at h
    refine v_aload_n C 0 dX11_sees_11 rfl rfl ?_
    refine n_getI C fl_404 dX11_sees_12 ?_
    refine v_iconst C 4 dX11_sees_15 (by decide) ?_
    refine v_icmp_ne C 22 dX11_sees_16 (by decide) (fun c2 => ?_) (fun c2 => ?_)
    · rw [if_neg c2] at h
      refine v_aload_n C 0 dX11_sees_22 rfl rfl ?_
      refine v_iconst C 1 dX11_sees_23 (by decide) ?_
      obtain ⟨q2, hq2, h⟩ := bd_of h
      refine vm_call C [.int 1] [] (c_readsTerms hi _ _ hq2) hY_readsTerms ml_413 ⟨Nat.le_of_ble_eq_true rfl, Nat.le_of_ble_eq_true rfl⟩ ⟨Nat.zero_le _, Nat.zero_le _⟩ rfl rfl (Nat.le_of_ble_eq_true rfl) dX11_sees_24 (wm_inj hi cy _) ?_
      refine v_aload_n C 0 dX11_sees_27 rfl rfl ?_
      refine n_getI C fl_210 dX11_sees_28 ?_
      refine v_if_lt C 42 dX11_sees_31 (by decide) (fun c3 => ?_) (fun c3 => ?_)
      · rw [if_pos c3] at h
        refine v_aload_n C 0 dX11_sees_42 rfl rfl ?_
        refine v_aload_n C 0 dX11_sees_43 rfl rfl ?_
        refine n_getI C fl_376 dX11_sees_44 ?_
        refine v_sipush C 1326 dX11_sees_47 (by decide) ?_
        refine v_bipush C 102 dX11_sees_50 (by decide) ?_
        refine v_aload_n C 0 dX11_sees_52 rfl rfl ?_
        refine n_getI C fl_404 dX11_sees_53 ?_
        refine v_imul C dX11_sees_56 ?_
        refine v_iadd C dX11_sees_57 ?_
        obtain ⟨q3, hq3, h⟩ := bd_of h
        refine vm_call C [.int (q2.2.1 58), .int (1326 + (102 * (q2.2.1 10)))] [] (c_toSlot hi _ _ _ hq3) hY_toSlot ml_392 ⟨Nat.le_of_ble_eq_true rfl, Nat.le_of_ble_eq_true rfl⟩ ⟨Nat.zero_le _, Nat.zero_le _⟩ rfl rfl (Nat.le_of_ble_eq_true rfl) dX11_sees_58 (wm_inj hi cy _) ?_
        refine v_aload_n C 0 dX11_sees_61 rfl rfl ?_
        refine v_aload_n C 0 dX11_sees_62 rfl rfl ?_
        refine n_getI C fl_382 dX11_sees_63 ?_
        refine v_sipush C 1326 dX11_sees_66 (by decide) ?_
        refine v_bipush C 102 dX11_sees_69 (by decide) ?_
        refine v_aload_n C 0 dX11_sees_71 rfl rfl ?_
        refine n_getI C fl_404 dX11_sees_72 ?_
        refine v_imul C dX11_sees_75 ?_
        refine v_iadd C dX11_sees_76 ?_
        refine v_bipush C 51 dX11_sees_77 (by decide) ?_
        refine v_iadd C dX11_sees_79 ?_
        obtain ⟨q4, hq4, h⟩ := bd_of h
        refine vm_call C [.int (q3.2.1 59), .int ((1326 + (102 * (q3.2.1 10))) + 51)] [] (c_toSlot hi _ _ _ hq4) hY_toSlot ml_392 ⟨Nat.le_of_ble_eq_true rfl, Nat.le_of_ble_eq_true rfl⟩ ⟨Nat.zero_le _, Nat.zero_le _⟩ rfl rfl (Nat.le_of_ble_eq_true rfl) dX11_sees_80 (wm_inj hi cy _) ?_
        refine v_aload_n C 0 dX11_sees_83 rfl rfl ?_
        refine n_getR C fl_20 dX11_sees_84 ?_
        refine v_aload_n C 0 dX11_sees_87 rfl rfl ?_
        refine n_getI C fl_404 dX11_sees_88 ?_
        refine v_iload_n C 1 dX11_sees_91 rfl rfl ?_
        obtain ⟨g1, h⟩ := gd_of h
        refine vm_iast C 4 iI_4 (ix_in g1) dX11_sees_92 ?_
        refine v_aload_n C 0 dX11_sees_93 rfl rfl ?_
        refine v_dup C dX11_sees_94 rfl ?_
        refine n_getI C fl_404 dX11_sees_95 ?_
        refine v_iconst C 1 dX11_sees_98 (by decide) ?_
        refine v_iadd C dX11_sees_99 ?_
        refine n_putI C fl_404 dX11_sees_100 ?_
        refine v_aload_n C 0 dX11_sees_103 rfl rfl ?_
        refine v_iconst C 0 dX11_sees_104 (by decide) ?_
        refine n_putI C fl_216 dX11_sees_105 ?_
        refine v_aload_n C 0 dX11_sees_108 rfl rfl ?_
        refine n_getI C fl_404 dX11_sees_109 ?_
        obtain rfl := Option.some.inj h
        exact v_iret C dX11_sees_112
      · rw [if_neg c3] at h
        refine v_bipush C (-10) dX11_sees_34 (by decide) ?_
        refine v_aload_n C 0 dX11_sees_36 rfl rfl ?_
        refine n_getI C fl_210 dX11_sees_37 ?_
        refine v_isub C dX11_sees_40 ?_
        obtain rfl := Option.some.inj h
        exact v_iret C dX11_sees_41
    · rw [if_pos c2] at h
      refine v_bipush C (-3) dX11_sees_19 (by decide) ?_
      obtain rfl := Option.some.inj h
      exact v_iret C dX11_sees_21
  · rw [if_pos c1] at h
    refine v_iconst C (-1) dX11_sees_9 (by decide) ?_
    obtain rfl := Option.some.inj h
    exact v_iret C dX11_sees_10
set_option maxHeartbeats 4000000 in
set_option maxRecDepth 20000 in
theorem c_forget {l : Launch} {D : va_G} {cy : Nat → ClassId} {ad : Nat → Nat} {q : Int32 × MS} (hi : ∀ i j, i < 34 → j < 34 → ad i = ad j → i = j) (σ : MS) (h : f_forget σ = some q) : MV l D (cyT cy) (inAd ad) yX11_forget cX11_forget 2 (some .int) 0 0 0 0 [.ref (ad 0)] (wm cy ad σ) (some (.int q.1)) (wm cy ad q.2) := by
  refine MV.of (by decide) (wm_inj hi cy σ) (Nat.le_of_ble_eq_true rfl) [(0, .ref (ad 0))] rfl ?_
  intro p e s m args below meth c C
  rw [f_forget] at h
  refine v_aload_n C 0 dX11_forget_0 rfl rfl ?_
  refine n_getI C fl_404 dX11_forget_1 ?_
  refine v_istore_n C [(1, .int (σ.1 10)), (0, .ref (ad 0))] dX11_forget_4 rfl (by decide) rfl ?_
  refine v_aload_n C 1 dX11_forget_5 rfl rfl ?_
  refine v_iconst C 0 dX11_forget_6 (by decide) ?_
  refine n_putI C fl_404 dX11_forget_7 ?_
  refine v_iload_n C 0 dX11_forget_10 rfl rfl ?_
  obtain rfl := Option.some.inj h
  exact v_iret C dX11_forget_11
set_option maxHeartbeats 4000000 in
set_option maxRecDepth 20000 in
theorem b_unseen_85 {p : Program} {l : Launch} {e : Env} {s : State} {m : MethodId} {args : Array Value} {below : List Frame} {meth : Method} {c : Code} {D : va_G} {cy : Nat → ClassId} {ad : Nat → Nat} {q : Int32 × MS} (C : vC p s m args meth c cX11_unseen 5 (some .int) RX11 D (cyT cy)) (hi : ∀ i j, i < 34 → j < 34 → ad i = ad j → i = j) {k4 : Int32 → Int32 → MS → Option (Int32 × MS)} (hk4 : ∀ (x1 : Int32) (x2 : Int32)  (σ : MS), k4 x1 x2 σ = some q → V p l e { frames := 6, cells := 0, slots := 0, locals := 132 } s m args below meth c D (inAd ad) 5 (MQ below (vQ D (inAd ad) (some (.int q.1)) (wm cy ad q.2)) args s 0 0 (inAd ad)) 0 0 (wm cy ad σ) 4 [(0, .ref (ad 0)), (1, .int x1), (2, .int x2)] []) : ∀ (x2 : Int32) (s0 : Int32) (s1 : Int32) (σ : MS), B_unseen_85 k4 x2 s0 s1 σ = some q → V p l e { frames := 6, cells := 0, slots := 0, locals := 132 } s m args below meth c D (inAd ad) 5 (MQ below (vQ D (inAd ad) (some (.int q.1)) (wm cy ad q.2)) args s 0 0 (inAd ad)) 0 0 (wm cy ad σ) 85 [(0, .ref (ad 0)), (2, .int x2)] [.int s0, .int s1] := by
  intro x2 s0 s1 σ h
  rw [B_unseen_85] at h
  refine v_ior C dX11_unseen_85 ?_
  refine v_istore_n C [(1, .int (s1 ||| s0)), (0, .ref (ad 0)), (2, .int x2)] dX11_unseen_86 rfl (by decide) rfl ?_
  refine v_iinc C (x2 + 1) 2 [(2, .int (x2 + 1)), (1, .int (s1 ||| s0)), (0, .ref (ad 0))] dX11_unseen_87 rfl rfl (by decide) rfl ?_
  refine v_goto C 4 dX11_unseen_90 (by decide) ?_
  exact v_sub [2, 1, 0] rfl (hk4 _ _ _ h)
set_option maxHeartbeats 4000000 in
set_option maxRecDepth 20000 in
theorem b_unseen_66 {p : Program} {l : Launch} {e : Env} {s : State} {m : MethodId} {args : Array Value} {below : List Frame} {meth : Method} {c : Code} {D : va_G} {cy : Nat → ClassId} {ad : Nat → Nat} {q : Int32 × MS} (C : vC p s m args meth c cX11_unseen 5 (some .int) RX11 D (cyT cy)) (hi : ∀ i j, i < 34 → j < 34 → ad i = ad j → i = j) {k17 : Int32 → Int32 → Int32 → Int32 → MS → Option (Int32 × MS)} (hk17 : ∀ (x1 : Int32) (x2 : Int32) (x3 : Int32) (x4 : Int32)  (σ : MS), k17 x1 x2 x3 x4 σ = some q → V p l e { frames := 6, cells := 0, slots := 0, locals := 132 } s m args below meth c D (inAd ad) 5 (MQ below (vQ D (inAd ad) (some (.int q.1)) (wm cy ad q.2)) args s 0 0 (inAd ad)) 0 0 (wm cy ad σ) 17 [(0, .ref (ad 0)), (1, .int x1), (2, .int x2), (3, .int x3), (4, .int x4)] []) : ∀ (x1 : Int32) (x2 : Int32) (x4 : Int32) (s0 : Int32) (σ : MS), B_unseen_66 k17 x1 x2 x4 s0 σ = some q → V p l e { frames := 6, cells := 0, slots := 0, locals := 132 } s m args below meth c D (inAd ad) 5 (MQ below (vQ D (inAd ad) (some (.int q.1)) (wm cy ad q.2)) args s 0 0 (inAd ad)) 0 0 (wm cy ad σ) 66 [(0, .ref (ad 0)), (1, .int x1), (2, .int x2), (4, .int x4)] [.int s0] := by
  intro x1 x2 x4 s0 σ h
  rw [B_unseen_66] at h
  refine v_istore_n C [(3, .int s0), (0, .ref (ad 0)), (1, .int x1), (2, .int x2), (4, .int x4)] dX11_unseen_66 rfl (by decide) rfl ?_
  refine v_iinc C (x4 + 1) 4 [(4, .int (x4 + 1)), (3, .int s0), (0, .ref (ad 0)), (1, .int x1), (2, .int x2)] dX11_unseen_67 rfl rfl (by decide) rfl ?_
  refine v_goto C 17 dX11_unseen_70 (by decide) ?_
  exact v_sub [2, 3, 4, 1, 0] rfl (hk17 _ _ _ _ _ h)
set_option maxHeartbeats 4000000 in
set_option maxRecDepth 20000 in
theorem b_unseen_65 {p : Program} {l : Launch} {e : Env} {s : State} {m : MethodId} {args : Array Value} {below : List Frame} {meth : Method} {c : Code} {D : va_G} {cy : Nat → ClassId} {ad : Nat → Nat} {q : Int32 × MS} (C : vC p s m args meth c cX11_unseen 5 (some .int) RX11 D (cyT cy)) (hi : ∀ i j, i < 34 → j < 34 → ad i = ad j → i = j) {k66 : Int32 → Int32 → Int32 → Int32 → MS → Option (Int32 × MS)} (hk66 : ∀ (x1 : Int32) (x2 : Int32) (x4 : Int32) (s0 : Int32)  (σ : MS), k66 x1 x2 x4 s0 σ = some q → V p l e { frames := 6, cells := 0, slots := 0, locals := 132 } s m args below meth c D (inAd ad) 5 (MQ below (vQ D (inAd ad) (some (.int q.1)) (wm cy ad q.2)) args s 0 0 (inAd ad)) 0 0 (wm cy ad σ) 66 [(0, .ref (ad 0)), (1, .int x1), (2, .int x2), (4, .int x4)] [.int s0]) : ∀ (x1 : Int32) (x2 : Int32) (x4 : Int32) (σ : MS), B_unseen_65 k66 x1 x2 x4 σ = some q → V p l e { frames := 6, cells := 0, slots := 0, locals := 132 } s m args below meth c D (inAd ad) 5 (MQ below (vQ D (inAd ad) (some (.int q.1)) (wm cy ad q.2)) args s 0 0 (inAd ad)) 0 0 (wm cy ad σ) 65 [(0, .ref (ad 0)), (1, .int x1), (2, .int x2), (4, .int x4)] [] := by
  intro x1 x2 x4 σ h
  rw [B_unseen_65] at h
  refine v_iconst C 0 dX11_unseen_65 (by decide) ?_
  exact v_sub [0, 1, 2, 3] rfl (hk66 _ _ _ _ _ h)
set_option maxHeartbeats 4000000 in
set_option maxRecDepth 20000 in
theorem l_unseen_17 {p : Program} {l : Launch} {e : Env} {s : State} {m : MethodId} {args : Array Value} {below : List Frame} {meth : Method} {c : Code} {D : va_G} {cy : Nat → ClassId} {ad : Nat → Nat} {q : Int32 × MS} (C : vC p s m args meth c cX11_unseen 5 (some .int) RX11 D (cyT cy)) (hi : ∀ i j, i < 34 → j < 34 → ad i = ad j → i = j) {k4 : Int32 → Int32 → MS → Option (Int32 × MS)} (hk4 : ∀ (x1 : Int32) (x2 : Int32)  (σ : MS), k4 x1 x2 σ = some q → V p l e { frames := 6, cells := 0, slots := 0, locals := 132 } s m args below meth c D (inAd ad) 5 (MQ below (vQ D (inAd ad) (some (.int q.1)) (wm cy ad q.2)) args s 0 0 (inAd ad)) 0 0 (wm cy ad σ) 4 [(0, .ref (ad 0)), (1, .int x1), (2, .int x2)] []) : ∀ (n : Nat) (x1 : Int32) (x2 : Int32) (x3 : Int32) (x4 : Int32) (σ : MS), L_unseen_17 k4 n x1 x2 x3 x4 σ = some q → V p l e { frames := 6, cells := 0, slots := 0, locals := 132 } s m args below meth c D (inAd ad) 5 (MQ below (vQ D (inAd ad) (some (.int q.1)) (wm cy ad q.2)) args s 0 0 (inAd ad)) 0 0 (wm cy ad σ) 17 [(0, .ref (ad 0)), (1, .int x1), (2, .int x2), (3, .int x3), (4, .int x4)] [] := by
  intro n
  induction n with
  | zero =>
    intro x1 x2 x3 x4 σ h
    rw [L_unseen_17.eq_1] at h
    cases h
  | succ n ih =>
    intro x1 x2 x3 x4 σ h
    rw [L_unseen_17.eq_2] at h
    refine v_iload C 4 dX11_unseen_17 rfl ?_
    refine v_aload_n C 0 dX11_unseen_19 rfl rfl ?_
    refine n_getI C fl_404 dX11_unseen_20 ?_
    refine v_icmp_ge C 73 dX11_unseen_23 (by decide) (fun c1 => ?_) (fun c1 => ?_)
    · rw [if_pos c1] at h
      refine v_iload_n C 1 dX11_unseen_73 rfl rfl ?_
      refine v_iload_n C 3 dX11_unseen_74 rfl rfl ?_
      refine v_if_eq C 84 dX11_unseen_75 (by decide) (fun c2 => ?_) (fun c2 => ?_)
      · rw [if_pos c2] at h
        refine v_iconst C 0 dX11_unseen_84 (by decide) ?_
        exact v_sub [0, 2] rfl ((b_unseen_85 C hi hk4) _ _ _ _ h)
      · rw [if_neg c2] at h
        refine v_iconst C 1 dX11_unseen_78 (by decide) ?_
        refine v_iload_n C 2 dX11_unseen_79 rfl rfl ?_
        refine v_ishl C dX11_unseen_80 ?_
        refine v_goto C 85 dX11_unseen_81 (by decide) ?_
        exact v_sub [0, 2] rfl ((b_unseen_85 C hi hk4) _ _ _ _ h)
    · rw [if_neg c1] at h
      refine v_iload_n C 3 dX11_unseen_26 rfl rfl ?_
      refine v_if_eq C 65 dX11_unseen_27 (by decide) (fun c3 => ?_) (fun c3 => ?_)
      · rw [if_pos c3] at h
        exact v_sub [0, 1, 2, 4] rfl ((b_unseen_65 C hi (b_unseen_66 C hi ih)) _ _ _ _ h)
      · rw [if_neg c3] at h
        refine v_aload_n C 0 dX11_unseen_30 rfl rfl ?_
        refine v_sipush C 357 dX11_unseen_31 (by decide) ?_
        refine v_bipush C 102 dX11_unseen_34 (by decide) ?_
        refine v_iload_n C 2 dX11_unseen_36 rfl rfl ?_
        refine v_imul C dX11_unseen_37 ?_
        refine v_iadd C dX11_unseen_38 ?_
        refine v_sipush C 1326 dX11_unseen_39 (by decide) ?_
        refine v_bipush C 102 dX11_unseen_42 (by decide) ?_
        refine v_iload C 4 dX11_unseen_44 rfl ?_
        refine v_imul C dX11_unseen_46 ?_
        refine v_iadd C dX11_unseen_47 ?_
        obtain ⟨q1, hq1, h⟩ := bd_of h
        refine vm_call C [.int (357 + (102 * x2)), .int (1326 + (102 * x4))] [] (c_likeOf hi _ _ _ hq1) hY_likeOf ml_428 ⟨Nat.le_of_ble_eq_true rfl, Nat.le_of_ble_eq_true rfl⟩ ⟨Nat.zero_le _, Nat.zero_le _⟩ rfl rfl (Nat.le_of_ble_eq_true rfl) dX11_unseen_48 (wm_inj hi cy _) ?_
        refine v_aload_n C 0 dX11_unseen_51 rfl rfl ?_
        refine n_getR C fl_20 dX11_unseen_52 ?_
        refine v_iload C 4 dX11_unseen_55 rfl ?_
        obtain ⟨g1, h⟩ := gd_of h
        refine vm_iald C 4 iI_4 (ix_in g1) dX11_unseen_57 ?_
        refine v_icmp_ne C 65 dX11_unseen_58 (by decide) (fun c4 => ?_) (fun c4 => ?_)
        · rw [if_neg c4] at h
          exact v_sub [0, 1, 2, 4] rfl ((b_unseen_65 C hi (b_unseen_66 C hi ih)) _ _ _ _ h)
        · rw [if_pos c4] at h
          refine v_iconst C 1 dX11_unseen_61 (by decide) ?_
          refine v_goto C 66 dX11_unseen_62 (by decide) ?_
          exact v_sub [0, 1, 2, 4] rfl ((b_unseen_66 C hi ih) _ _ _ _ _ h)
set_option maxHeartbeats 4000000 in
set_option maxRecDepth 20000 in
theorem l_unseen_4 {p : Program} {l : Launch} {e : Env} {s : State} {m : MethodId} {args : Array Value} {below : List Frame} {meth : Method} {c : Code} {D : va_G} {cy : Nat → ClassId} {ad : Nat → Nat} {q : Int32 × MS} (C : vC p s m args meth c cX11_unseen 5 (some .int) RX11 D (cyT cy)) (hi : ∀ i j, i < 34 → j < 34 → ad i = ad j → i = j) : ∀ (n : Nat) (x1 : Int32) (x2 : Int32) (σ : MS), L_unseen_4 n x1 x2 σ = some q → V p l e { frames := 6, cells := 0, slots := 0, locals := 132 } s m args below meth c D (inAd ad) 5 (MQ below (vQ D (inAd ad) (some (.int q.1)) (wm cy ad q.2)) args s 0 0 (inAd ad)) 0 0 (wm cy ad σ) 4 [(0, .ref (ad 0)), (1, .int x1), (2, .int x2)] [] := by
  intro n
  induction n with
  | zero =>
    intro x1 x2 σ h
    rw [L_unseen_4.eq_1] at h
    cases h
  | succ n ih =>
    intro x1 x2 σ h
    rw [L_unseen_4.eq_2] at h
    refine v_iload_n C 2 dX11_unseen_4 rfl rfl ?_
    refine v_aload_n C 0 dX11_unseen_5 rfl rfl ?_
    refine n_getI C fl_364 dX11_unseen_6 ?_
    refine v_icmp_ge C 93 dX11_unseen_9 (by decide) (fun c1 => ?_) (fun c1 => ?_)
    · rw [if_pos c1] at h
      refine v_iload_n C 1 dX11_unseen_93 rfl rfl ?_
      obtain rfl := Option.some.inj h
      exact v_iret C dX11_unseen_94
    · rw [if_neg c1] at h
      refine v_iconst C 1 dX11_unseen_12 (by decide) ?_
      refine v_istore_n C [(3, .int 1), (0, .ref (ad 0)), (1, .int x1), (2, .int x2)] dX11_unseen_13 rfl (by decide) rfl ?_
      refine v_iconst C 0 dX11_unseen_14 (by decide) ?_
      refine v_istore C [(4, .int 0), (3, .int 1), (0, .ref (ad 0)), (1, .int x1), (2, .int x2)] dX11_unseen_15 (by decide) rfl ?_
      exact v_sub [2, 3, 4, 1, 0] rfl ((l_unseen_17 C hi ih 10000) _ _ _ _ _ h)
set_option maxHeartbeats 4000000 in
set_option maxRecDepth 20000 in
theorem c_unseen {l : Launch} {D : va_G} {cy : Nat → ClassId} {ad : Nat → Nat} {q : Int32 × MS} (hi : ∀ i j, i < 34 → j < 34 → ad i = ad j → i = j) (σ : MS) (h : f_unseen σ = some q) : MV l D (cyT cy) (inAd ad) yX11_unseen cX11_unseen 5 (some .int) 6 132 0 0 [.ref (ad 0)] (wm cy ad σ) (some (.int q.1)) (wm cy ad q.2) := by
  refine MV.of (by decide) (wm_inj hi cy σ) (Nat.le_of_ble_eq_true rfl) [(0, .ref (ad 0))] rfl ?_
  intro p e s m args below meth c C
  rw [f_unseen] at h
  refine v_iconst C 0 dX11_unseen_0 (by decide) ?_
  refine v_istore_n C [(1, .int 0), (0, .ref (ad 0))] dX11_unseen_1 rfl (by decide) rfl ?_
  refine v_iconst C 0 dX11_unseen_2 (by decide) ?_
  refine v_istore_n C [(2, .int 0), (1, .int 0), (0, .ref (ad 0))] dX11_unseen_3 rfl (by decide) rfl ?_
  exact v_sub [2, 1, 0] rfl ((l_unseen_4 C hi 10000) _ _ _ h)
set_option maxHeartbeats 4000000 in
set_option maxRecDepth 20000 in
theorem c_keep {l : Launch} {D : va_G} {cy : Nat → ClassId} {ad : Nat → Nat} {q : Int32 × MS} (hi : ∀ i j, i < 34 → j < 34 → ad i = ad j → i = j) (x1 : Int32) (σ : MS) (h : f_keep x1 σ = some q) : MV l D (cyT cy) (inAd ad) yX11_keep cX11_keep 2 (some .int) 1 25 0 0 [.ref (ad 0), .int x1] (wm cy ad σ) (some (.int q.1)) (wm cy ad q.2) := by
  refine MV.of (by decide) (wm_inj hi cy σ) (Nat.le_of_ble_eq_true rfl) [(0, .ref (ad 0)), (1, .int x1)] rfl ?_
  intro p e s m args below meth c C
  rw [f_keep] at h
  refine v_iload_n C 1 dX11_keep_0 rfl rfl ?_
  refine v_iconst C 0 dX11_keep_1 (by decide) ?_
  refine v_iconst C 1 dX11_keep_2 (by decide) ?_
  obtain ⟨q1, hq1, h⟩ := bd_of h
  refine vm_callS C [.int x1, .int 0, .int 1] [] (c_in hi _ _ _ _ hq1) hY_in ml_297 ⟨Nat.le_of_ble_eq_true rfl, Nat.le_of_ble_eq_true rfl⟩ ⟨Nat.zero_le _, Nat.zero_le _⟩ rfl rfl (Nat.le_of_ble_eq_true rfl) dX11_keep_3 (wm_inj hi cy _) ?_
  refine v_if_ne C 11 dX11_keep_6 (by decide) (fun c1 => ?_) (fun c1 => ?_)
  · rw [if_neg c1] at h
    refine v_aload_n C 0 dX11_keep_11 rfl rfl ?_
    refine n_getR C fl_35 dX11_keep_12 ?_
    refine v_iload_n C 1 dX11_keep_15 rfl rfl ?_
    refine v_aload_n C 0 dX11_keep_16 rfl rfl ?_
    refine n_getI C fl_364 dX11_keep_17 ?_
    obtain ⟨g1, h⟩ := gd_of h
    refine vm_iast C 9 iI_9 (ix_in g1) dX11_keep_20 ?_
    refine v_aload_n C 0 dX11_keep_21 rfl rfl ?_
    refine n_getR C fl_7 dX11_keep_22 ?_
    refine v_sipush C 357 dX11_keep_25 (by decide) ?_
    refine v_aload_n C 0 dX11_keep_28 rfl rfl ?_
    refine n_getR C fl_32 dX11_keep_29 ?_
    refine v_sipush C 612 dX11_keep_32 (by decide) ?_
    refine v_iload_n C 1 dX11_keep_35 rfl rfl ?_
    refine v_imul C dX11_keep_36 ?_
    refine v_sipush C 612 dX11_keep_37 (by decide) ?_
    obtain ⟨q2, hq2, h⟩ := bd_of h
    refine vm_callS C [.ref (ad 1), .int 357, .ref (ad 8), .int (612 * x1), .int 612] [] (c_bring hi iI_1 iI_8 _ _ _ _ hq2) hY_bring ml_147 ⟨Nat.le_of_ble_eq_true rfl, Nat.le_of_ble_eq_true rfl⟩ ⟨Nat.zero_le _, Nat.zero_le _⟩ rfl rfl (Nat.le_of_ble_eq_true rfl) dX11_keep_40 (wm_inj hi cy _) ?_
    refine v_aload_n C 0 dX11_keep_43 rfl rfl ?_
    refine n_getI C fl_364 dX11_keep_44 ?_
    obtain rfl := Option.some.inj h
    exact v_iret C dX11_keep_47
  · rw [if_pos c1] at h
    refine v_iconst C (-1) dX11_keep_9 (by decide) ?_
    obtain rfl := Option.some.inj h
    exact v_iret C dX11_keep_10
set_option maxHeartbeats 4000000 in
set_option maxRecDepth 20000 in
theorem c_back {l : Launch} {D : va_G} {cy : Nat → ClassId} {ad : Nat → Nat} {q : Int32 × MS} (hi : ∀ i j, i < 34 → j < 34 → ad i = ad j → i = j) (x1 : Int32) (σ : MS) (h : f_back x1 σ = some q) : MV l D (cyT cy) (inAd ad) yX11_back cX11_back 2 (some .int) 1 25 0 0 [.ref (ad 0), .int x1] (wm cy ad σ) (some (.int q.1)) (wm cy ad q.2) := by
  refine MV.of (by decide) (wm_inj hi cy σ) (Nat.le_of_ble_eq_true rfl) [(0, .ref (ad 0)), (1, .int x1)] rfl ?_
  intro p e s m args below meth c C
  rw [f_back] at h
  refine v_iload_n C 1 dX11_back_0 rfl rfl ?_
  refine v_iconst C 0 dX11_back_1 (by decide) ?_
  refine v_iconst C 1 dX11_back_2 (by decide) ?_
  obtain ⟨q1, hq1, h⟩ := bd_of h
  refine vm_callS C [.int x1, .int 0, .int 1] [] (c_in hi _ _ _ _ hq1) hY_in ml_297 ⟨Nat.le_of_ble_eq_true rfl, Nat.le_of_ble_eq_true rfl⟩ ⟨Nat.zero_le _, Nat.zero_le _⟩ rfl rfl (Nat.le_of_ble_eq_true rfl) dX11_back_3 (wm_inj hi cy _) ?_
  refine v_if_ne C 11 dX11_back_6 (by decide) (fun c1 => ?_) (fun c1 => ?_)
  · rw [if_neg c1] at h
    refine v_aload_n C 0 dX11_back_11 rfl rfl ?_
    refine n_getR C fl_35 dX11_back_12 ?_
    refine v_iload_n C 1 dX11_back_15 rfl rfl ?_
    obtain ⟨g1, h⟩ := gd_of h
    refine vm_iald C 9 iI_9 (ix_in g1) dX11_back_16 ?_
    refine v_if_ge C 23 dX11_back_17 (by decide) (fun c2 => ?_) (fun c2 => ?_)
    · rw [if_pos c2] at h
      refine v_aload_n C 0 dX11_back_23 rfl rfl ?_
      refine v_aload_n C 0 dX11_back_24 rfl rfl ?_
      refine n_getR C fl_35 dX11_back_25 ?_
      refine v_iload_n C 1 dX11_back_28 rfl rfl ?_
      obtain ⟨g2, h⟩ := gd_of h
      refine vm_iald C 9 iI_9 (ix_in g2) dX11_back_29 ?_
      refine n_putI C fl_364 dX11_back_30 ?_
      refine v_aload_n C 0 dX11_back_33 rfl rfl ?_
      refine n_getR C fl_32 dX11_back_34 ?_
      refine v_sipush C 612 dX11_back_37 (by decide) ?_
      refine v_iload_n C 1 dX11_back_40 rfl rfl ?_
      refine v_imul C dX11_back_41 ?_
      refine v_aload_n C 0 dX11_back_42 rfl rfl ?_
      refine n_getR C fl_7 dX11_back_43 ?_
      refine v_sipush C 357 dX11_back_46 (by decide) ?_
      refine v_sipush C 612 dX11_back_49 (by decide) ?_
      obtain ⟨q2, hq2, h⟩ := bd_of h
      refine vm_callS C [.ref (ad 8), .int (612 * x1), .ref (ad 1), .int 357, .int 612] [] (c_bring hi iI_8 iI_1 _ _ _ _ hq2) hY_bring ml_147 ⟨Nat.le_of_ble_eq_true rfl, Nat.le_of_ble_eq_true rfl⟩ ⟨Nat.zero_le _, Nat.zero_le _⟩ rfl rfl (Nat.le_of_ble_eq_true rfl) dX11_back_52 (wm_inj hi cy _) ?_
      refine v_aload_n C 0 dX11_back_55 rfl rfl ?_
      refine v_iconst C 0 dX11_back_56 (by decide) ?_
      refine n_putI C fl_407 dX11_back_57 ?_
      refine v_aload_n C 0 dX11_back_60 rfl rfl ?_
      refine n_getI C fl_364 dX11_back_61 ?_
      obtain rfl := Option.some.inj h
      exact v_iret C dX11_back_64
    · rw [if_neg c2] at h
      refine v_bipush C (-2) dX11_back_20 (by decide) ?_
      obtain rfl := Option.some.inj h
      exact v_iret C dX11_back_22
  · rw [if_pos c1] at h
    refine v_iconst C (-1) dX11_back_9 (by decide) ?_
    obtain rfl := Option.some.inj h
    exact v_iret C dX11_back_10
