theorem dX11_fails_0 : decode cX11_fails 0 = .ok (.aload_n 0, 1) := by decide +kernel
theorem dX11_fails_1 : decode cX11_fails 1 = .ok (.aload_n 0, 1) := by decide +kernel
theorem dX11_fails_2 : decode cX11_fails 2 = .ok (.getfield 210, 3) := by decide +kernel
theorem dX11_fails_5 : decode cX11_fails 5 = .ok (.ifCond .ge 7, 3) := by decide +kernel
theorem dX11_fails_8 : decode cX11_fails 8 = .ok (.iload_n 1, 1) := by decide +kernel
theorem dX11_fails_9 : decode cX11_fails 9 = .ok (.goto 7, 3) := by decide +kernel
theorem dX11_fails_12 : decode cX11_fails 12 = .ok (.aload_n 0, 1) := by decide +kernel
theorem dX11_fails_13 : decode cX11_fails 13 = .ok (.getfield 210, 3) := by decide +kernel
theorem dX11_fails_16 : decode cX11_fails 16 = .ok (.putfield 210, 3) := by decide +kernel
theorem dX11_fails_19 : decode cX11_fails 19 = .ok (.return_, 1) := by decide +kernel
theorem dX11_here_0 : decode cX11_here 0 = .ok (.aload_n 0, 1) := by decide +kernel
theorem dX11_here_1 : decode cX11_here 1 = .ok (.getfield 213, 3) := by decide +kernel
theorem dX11_here_4 : decode cX11_here 4 = .ok (.aload_n 0, 1) := by decide +kernel
theorem dX11_here_5 : decode cX11_here 5 = .ok (.getfield 216, 3) := by decide +kernel
theorem dX11_here_8 : decode cX11_here 8 = .ok (.if_icmp .ge 15, 3) := by decide +kernel
theorem dX11_here_11 : decode cX11_here 11 = .ok (.aload_n 0, 1) := by decide +kernel
theorem dX11_here_12 : decode cX11_here 12 = .ok (.getfield 13, 3) := by decide +kernel
theorem dX11_here_15 : decode cX11_here 15 = .ok (.aload_n 0, 1) := by decide +kernel
theorem dX11_here_16 : decode cX11_here 16 = .ok (.getfield 213, 3) := by decide +kernel
theorem dX11_here_19 : decode cX11_here 19 = .ok (.iaload, 1) := by decide +kernel
theorem dX11_here_20 : decode cX11_here 20 = .ok (.goto 5, 3) := by decide +kernel
theorem dX11_here_23 : decode cX11_here 23 = .ok (.bipush (-9), 2) := by decide +kernel
theorem dX11_here_25 : decode cX11_here 25 = .ok (.ireturn, 1) := by decide +kernel
theorem dX11_begins_0 : decode cX11_begins 0 = .ok (.aload_n 0, 1) := by decide +kernel
theorem dX11_begins_1 : decode cX11_begins 1 = .ok (.getfield 82, 3) := by decide +kernel
theorem dX11_begins_4 : decode cX11_begins 4 = .ok (.aload_n 0, 1) := by decide +kernel
theorem dX11_begins_5 : decode cX11_begins 5 = .ok (.getfield 219, 3) := by decide +kernel
theorem dX11_begins_8 : decode cX11_begins 8 = .ok (.iload_n 1, 1) := by decide +kernel
theorem dX11_begins_9 : decode cX11_begins 9 = .ok (.iastore, 1) := by decide +kernel
theorem dX11_begins_10 : decode cX11_begins 10 = .ok (.aload_n 0, 1) := by decide +kernel
theorem dX11_begins_11 : decode cX11_begins 11 = .ok (.getfield 85, 3) := by decide +kernel
theorem dX11_begins_14 : decode cX11_begins 14 = .ok (.aload_n 0, 1) := by decide +kernel
theorem dX11_begins_15 : decode cX11_begins 15 = .ok (.getfield 219, 3) := by decide +kernel
theorem dX11_begins_18 : decode cX11_begins 18 = .ok (.iload_n 2, 1) := by decide +kernel
theorem dX11_begins_19 : decode cX11_begins 19 = .ok (.iastore, 1) := by decide +kernel
theorem dX11_begins_20 : decode cX11_begins 20 = .ok (.aload_n 0, 1) := by decide +kernel
theorem dX11_begins_21 : decode cX11_begins 21 = .ok (.getfield 88, 3) := by decide +kernel
theorem dX11_begins_24 : decode cX11_begins 24 = .ok (.aload_n 0, 1) := by decide +kernel
theorem dX11_begins_25 : decode cX11_begins 25 = .ok (.getfield 219, 3) := by decide +kernel
theorem dX11_begins_28 : decode cX11_begins 28 = .ok (.aload_n 0, 1) := by decide +kernel
theorem dX11_begins_29 : decode cX11_begins 29 = .ok (.getfield 222, 3) := by decide +kernel
theorem dX11_begins_32 : decode cX11_begins 32 = .ok (.iastore, 1) := by decide +kernel
theorem dX11_begins_33 : decode cX11_begins 33 = .ok (.aload_n 0, 1) := by decide +kernel
theorem dX11_begins_34 : decode cX11_begins 34 = .ok (.getfield 91, 3) := by decide +kernel
theorem dX11_begins_37 : decode cX11_begins 37 = .ok (.aload_n 0, 1) := by decide +kernel
theorem dX11_begins_38 : decode cX11_begins 38 = .ok (.getfield 219, 3) := by decide +kernel
theorem dX11_begins_41 : decode cX11_begins 41 = .ok (.aload_n 0, 1) := by decide +kernel
theorem dX11_begins_42 : decode cX11_begins 42 = .ok (.getfield 225, 3) := by decide +kernel
theorem dX11_begins_45 : decode cX11_begins 45 = .ok (.iastore, 1) := by decide +kernel
theorem dX11_begins_46 : decode cX11_begins 46 = .ok (.aload_n 0, 1) := by decide +kernel
theorem dX11_begins_47 : decode cX11_begins 47 = .ok (.getfield 94, 3) := by decide +kernel
theorem dX11_begins_50 : decode cX11_begins 50 = .ok (.aload_n 0, 1) := by decide +kernel
theorem dX11_begins_51 : decode cX11_begins 51 = .ok (.getfield 219, 3) := by decide +kernel
theorem dX11_begins_54 : decode cX11_begins 54 = .ok (.aload_n 0, 1) := by decide +kernel
theorem dX11_begins_55 : decode cX11_begins 55 = .ok (.getfield 228, 3) := by decide +kernel
theorem dX11_begins_58 : decode cX11_begins 58 = .ok (.iastore, 1) := by decide +kernel
theorem dX11_begins_59 : decode cX11_begins 59 = .ok (.aload_n 0, 1) := by decide +kernel
theorem dX11_begins_60 : decode cX11_begins 60 = .ok (.getfield 97, 3) := by decide +kernel
theorem dX11_begins_63 : decode cX11_begins 63 = .ok (.aload_n 0, 1) := by decide +kernel
theorem dX11_begins_64 : decode cX11_begins 64 = .ok (.getfield 219, 3) := by decide +kernel
theorem dX11_begins_67 : decode cX11_begins 67 = .ok (.aload_n 0, 1) := by decide +kernel
theorem dX11_begins_68 : decode cX11_begins 68 = .ok (.getfield 231, 3) := by decide +kernel
theorem dX11_begins_71 : decode cX11_begins 71 = .ok (.iastore, 1) := by decide +kernel
theorem dX11_begins_72 : decode cX11_begins 72 = .ok (.aload_n 0, 1) := by decide +kernel
theorem dX11_begins_73 : decode cX11_begins 73 = .ok (.getfield 100, 3) := by decide +kernel
theorem dX11_begins_76 : decode cX11_begins 76 = .ok (.aload_n 0, 1) := by decide +kernel
theorem dX11_begins_77 : decode cX11_begins 77 = .ok (.getfield 219, 3) := by decide +kernel
theorem dX11_begins_80 : decode cX11_begins 80 = .ok (.aload_n 0, 1) := by decide +kernel
theorem dX11_begins_81 : decode cX11_begins 81 = .ok (.getfield 234, 3) := by decide +kernel
theorem dX11_begins_84 : decode cX11_begins 84 = .ok (.iastore, 1) := by decide +kernel
theorem dX11_begins_85 : decode cX11_begins 85 = .ok (.aload_n 0, 1) := by decide +kernel
theorem dX11_begins_86 : decode cX11_begins 86 = .ok (.dup, 1) := by decide +kernel
theorem dX11_begins_87 : decode cX11_begins 87 = .ok (.getfield 219, 3) := by decide +kernel
theorem dX11_begins_90 : decode cX11_begins 90 = .ok (.iconst 1, 1) := by decide +kernel
theorem dX11_begins_91 : decode cX11_begins 91 = .ok (.iadd, 1) := by decide +kernel
theorem dX11_begins_92 : decode cX11_begins 92 = .ok (.putfield 219, 3) := by decide +kernel
theorem dX11_begins_95 : decode cX11_begins 95 = .ok (.return_, 1) := by decide +kernel
theorem dX11_dueType_0 : decode cX11_dueType 0 = .ok (.aload_n 0, 1) := by decide +kernel
theorem dX11_dueType_1 : decode cX11_dueType 1 = .ok (.iconst 1, 1) := by decide +kernel
theorem dX11_dueType_2 : decode cX11_dueType 2 = .ok (.putfield 237, 3) := by decide +kernel
theorem dX11_dueType_5 : decode cX11_dueType 5 = .ok (.return_, 1) := by decide +kernel
theorem dX11_dueTerm_0 : decode cX11_dueTerm 0 = .ok (.aload_n 0, 1) := by decide +kernel
theorem dX11_dueTerm_1 : decode cX11_dueTerm 1 = .ok (.iconst 0, 1) := by decide +kernel
theorem dX11_dueTerm_2 : decode cX11_dueTerm 2 = .ok (.putfield 237, 3) := by decide +kernel
theorem dX11_dueTerm_5 : decode cX11_dueTerm 5 = .ok (.aload_n 0, 1) := by decide +kernel
theorem dX11_dueTerm_6 : decode cX11_dueTerm 6 = .ok (.iload_n 1, 1) := by decide +kernel
theorem dX11_dueTerm_7 : decode cX11_dueTerm 7 = .ok (.putfield 225, 3) := by decide +kernel
theorem dX11_dueTerm_10 : decode cX11_dueTerm 10 = .ok (.aload_n 0, 1) := by decide +kernel
theorem dX11_dueTerm_11 : decode cX11_dueTerm 11 = .ok (.iload_n 2, 1) := by decide +kernel
theorem dX11_dueTerm_12 : decode cX11_dueTerm 12 = .ok (.putfield 228, 3) := by decide +kernel
theorem dX11_dueTerm_15 : decode cX11_dueTerm 15 = .ok (.aload_n 0, 1) := by decide +kernel
theorem dX11_dueTerm_16 : decode cX11_dueTerm 16 = .ok (.iload_n 3, 1) := by decide +kernel
theorem dX11_dueTerm_17 : decode cX11_dueTerm 17 = .ok (.putfield 231, 3) := by decide +kernel
theorem dX11_dueTerm_20 : decode cX11_dueTerm 20 = .ok (.aload_n 0, 1) := by decide +kernel
theorem dX11_dueTerm_21 : decode cX11_dueTerm 21 = .ok (.iload 4, 2) := by decide +kernel
theorem dX11_dueTerm_23 : decode cX11_dueTerm 23 = .ok (.putfield 234, 3) := by decide +kernel
theorem dX11_dueTerm_26 : decode cX11_dueTerm 26 = .ok (.return_, 1) := by decide +kernel
theorem dX11_endsType_0 : decode cX11_endsType 0 = .ok (.aload_n 0, 1) := by decide +kernel
theorem dX11_endsType_1 : decode cX11_endsType 1 = .ok (.iload_n 2, 1) := by decide +kernel
theorem dX11_endsType_2 : decode cX11_endsType 2 = .ok (.invokevirtual 130, 3) := by decide +kernel
theorem dX11_endsType_5 : decode cX11_endsType 5 = .ok (.bipush 50, 2) := by decide +kernel
theorem dX11_endsType_7 : decode cX11_endsType 7 = .ok (.if_icmp .le 8, 3) := by decide +kernel
theorem dX11_endsType_10 : decode cX11_endsType 10 = .ok (.aload_n 0, 1) := by decide +kernel
theorem dX11_endsType_11 : decode cX11_endsType 11 = .ok (.iload_n 1, 1) := by decide +kernel
theorem dX11_endsType_12 : decode cX11_endsType 12 = .ok (.invokevirtual 240, 3) := by decide +kernel
theorem dX11_endsType_15 : decode cX11_endsType 15 = .ok (.aload_n 0, 1) := by decide +kernel
theorem dX11_endsType_16 : decode cX11_endsType 16 = .ok (.iconst 1, 1) := by decide +kernel
theorem dX11_endsType_17 : decode cX11_endsType 17 = .ok (.putfield 243, 3) := by decide +kernel
theorem dX11_endsType_20 : decode cX11_endsType 20 = .ok (.aload_n 0, 1) := by decide +kernel
theorem dX11_endsType_21 : decode cX11_endsType 21 = .ok (.iload_n 1, 1) := by decide +kernel
theorem dX11_endsType_22 : decode cX11_endsType 22 = .ok (.putfield 246, 3) := by decide +kernel
theorem dX11_endsType_25 : decode cX11_endsType 25 = .ok (.aload_n 0, 1) := by decide +kernel
theorem dX11_endsType_26 : decode cX11_endsType 26 = .ok (.iload_n 2, 1) := by decide +kernel
theorem dX11_endsType_27 : decode cX11_endsType 27 = .ok (.putfield 249, 3) := by decide +kernel
theorem dX11_endsType_30 : decode cX11_endsType 30 = .ok (.return_, 1) := by decide +kernel
theorem dX11_endsGiven_0 : decode cX11_endsGiven 0 = .ok (.aload_n 0, 1) := by decide +kernel
theorem dX11_endsGiven_1 : decode cX11_endsGiven 1 = .ok (.iload_n 2, 1) := by decide +kernel
theorem dX11_endsGiven_2 : decode cX11_endsGiven 2 = .ok (.invokevirtual 130, 3) := by decide +kernel
theorem dX11_endsGiven_5 : decode cX11_endsGiven 5 = .ok (.bipush 50, 2) := by decide +kernel
theorem dX11_endsGiven_7 : decode cX11_endsGiven 7 = .ok (.if_icmp .le 8, 3) := by decide +kernel
theorem dX11_endsGiven_10 : decode cX11_endsGiven 10 = .ok (.aload_n 0, 1) := by decide +kernel
theorem dX11_endsGiven_11 : decode cX11_endsGiven 11 = .ok (.iload_n 1, 1) := by decide +kernel
theorem dX11_endsGiven_12 : decode cX11_endsGiven 12 = .ok (.invokevirtual 240, 3) := by decide +kernel
theorem dX11_endsGiven_15 : decode cX11_endsGiven 15 = .ok (.aload_n 0, 1) := by decide +kernel
theorem dX11_endsGiven_16 : decode cX11_endsGiven 16 = .ok (.iconst 2, 1) := by decide +kernel
theorem dX11_endsGiven_17 : decode cX11_endsGiven 17 = .ok (.putfield 243, 3) := by decide +kernel
theorem dX11_endsGiven_20 : decode cX11_endsGiven 20 = .ok (.aload_n 0, 1) := by decide +kernel
theorem dX11_endsGiven_21 : decode cX11_endsGiven 21 = .ok (.iload_n 1, 1) := by decide +kernel
theorem dX11_endsGiven_22 : decode cX11_endsGiven 22 = .ok (.putfield 246, 3) := by decide +kernel
theorem dX11_endsGiven_25 : decode cX11_endsGiven 25 = .ok (.aload_n 0, 1) := by decide +kernel
theorem dX11_endsGiven_26 : decode cX11_endsGiven 26 = .ok (.iload_n 2, 1) := by decide +kernel
theorem dX11_endsGiven_27 : decode cX11_endsGiven 27 = .ok (.putfield 249, 3) := by decide +kernel
theorem dX11_endsGiven_30 : decode cX11_endsGiven 30 = .ok (.aload_n 0, 1) := by decide +kernel
theorem dX11_endsGiven_31 : decode cX11_endsGiven 31 = .ok (.bipush (-9), 2) := by decide +kernel
theorem dX11_endsGiven_33 : decode cX11_endsGiven 33 = .ok (.putfield 252, 3) := by decide +kernel
theorem dX11_endsGiven_36 : decode cX11_endsGiven 36 = .ok (.return_, 1) := by decide +kernel
theorem dX11_isNeeded_0 : decode cX11_isNeeded 0 = .ok (.aload_n 0, 1) := by decide +kernel
theorem dX11_isNeeded_1 : decode cX11_isNeeded 1 = .ok (.getfield 225, 3) := by decide +kernel
theorem dX11_isNeeded_4 : decode cX11_isNeeded 4 = .ok (.iconst 3, 1) := by decide +kernel
theorem dX11_isNeeded_5 : decode cX11_isNeeded 5 = .ok (.if_icmp .eq 40, 3) := by decide +kernel
theorem dX11_isNeeded_8 : decode cX11_isNeeded 8 = .ok (.aload_n 0, 1) := by decide +kernel
theorem dX11_isNeeded_9 : decode cX11_isNeeded 9 = .ok (.getfield 225, 3) := by decide +kernel
theorem dX11_isNeeded_12 : decode cX11_isNeeded 12 = .ok (.ifCond .eq 27, 3) := by decide +kernel
theorem dX11_isNeeded_15 : decode cX11_isNeeded 15 = .ok (.aload_n 0, 1) := by decide +kernel
theorem dX11_isNeeded_16 : decode cX11_isNeeded 16 = .ok (.getfield 7, 3) := by decide +kernel
theorem dX11_isNeeded_19 : decode cX11_isNeeded 19 = .ok (.iload_n 1, 1) := by decide +kernel
theorem dX11_isNeeded_20 : decode cX11_isNeeded 20 = .ok (.iaload, 1) := by decide +kernel
theorem dX11_isNeeded_21 : decode cX11_isNeeded 21 = .ok (.aload_n 0, 1) := by decide +kernel
theorem dX11_isNeeded_22 : decode cX11_isNeeded 22 = .ok (.getfield 225, 3) := by decide +kernel
theorem dX11_isNeeded_25 : decode cX11_isNeeded 25 = .ok (.iconst 1, 1) := by decide +kernel
theorem dX11_isNeeded_26 : decode cX11_isNeeded 26 = .ok (.if_icmp .ne 8, 3) := by decide +kernel
theorem dX11_isNeeded_29 : decode cX11_isNeeded 29 = .ok (.bipush 80, 2) := by decide +kernel
theorem dX11_isNeeded_31 : decode cX11_isNeeded 31 = .ok (.goto 5, 3) := by decide +kernel
theorem dX11_isNeeded_34 : decode cX11_isNeeded 34 = .ok (.bipush 83, 2) := by decide +kernel
theorem dX11_isNeeded_36 : decode cX11_isNeeded 36 = .ok (.if_icmp .ne 7, 3) := by decide +kernel
theorem dX11_isNeeded_39 : decode cX11_isNeeded 39 = .ok (.iconst 1, 1) := by decide +kernel
theorem dX11_isNeeded_40 : decode cX11_isNeeded 40 = .ok (.goto 4, 3) := by decide +kernel
theorem dX11_isNeeded_43 : decode cX11_isNeeded 43 = .ok (.iconst 0, 1) := by decide +kernel
theorem dX11_isNeeded_44 : decode cX11_isNeeded 44 = .ok (.ireturn, 1) := by decide +kernel
theorem dX11_isNeeded_45 : decode cX11_isNeeded 45 = .ok (.aload_n 0, 1) := by decide +kernel
theorem dX11_isNeeded_46 : decode cX11_isNeeded 46 = .ok (.aload_n 0, 1) := by decide +kernel
theorem dX11_isNeeded_47 : decode cX11_isNeeded 47 = .ok (.getfield 228, 3) := by decide +kernel
theorem dX11_isNeeded_50 : decode cX11_isNeeded 50 = .ok (.aload_n 0, 1) := by decide +kernel
theorem dX11_isNeeded_51 : decode cX11_isNeeded 51 = .ok (.getfield 231, 3) := by decide +kernel
theorem dX11_isNeeded_54 : decode cX11_isNeeded 54 = .ok (.aload_n 0, 1) := by decide +kernel
theorem dX11_isNeeded_55 : decode cX11_isNeeded 55 = .ok (.getfield 234, 3) := by decide +kernel
theorem dX11_isNeeded_58 : decode cX11_isNeeded 58 = .ok (.aload_n 0, 1) := by decide +kernel
theorem dX11_isNeeded_59 : decode cX11_isNeeded 59 = .ok (.getfield 222, 3) := by decide +kernel
theorem dX11_isNeeded_62 : decode cX11_isNeeded 62 = .ok (.invokevirtual 255, 3) := by decide +kernel
theorem dX11_isNeeded_65 : decode cX11_isNeeded 65 = .ok (.istore_n 2, 1) := by decide +kernel
theorem dX11_isNeeded_66 : decode cX11_isNeeded 66 = .ok (.iload_n 2, 1) := by decide +kernel
theorem dX11_isNeeded_67 : decode cX11_isNeeded 67 = .ok (.iconst (-1), 1) := by decide +kernel
theorem dX11_isNeeded_68 : decode cX11_isNeeded 68 = .ok (.if_icmp .eq 16, 3) := by decide +kernel
theorem dX11_isNeeded_71 : decode cX11_isNeeded 71 = .ok (.aload_n 0, 1) := by decide +kernel
theorem dX11_isNeeded_72 : decode cX11_isNeeded 72 = .ok (.iload_n 2, 1) := by decide +kernel
theorem dX11_isNeeded_73 : decode cX11_isNeeded 73 = .ok (.iload_n 1, 1) := by decide +kernel
theorem dX11_isNeeded_74 : decode cX11_isNeeded 74 = .ok (.invokevirtual 258, 3) := by decide +kernel
theorem dX11_isNeeded_77 : decode cX11_isNeeded 77 = .ok (.ifCond .eq 7, 3) := by decide +kernel
theorem dX11_isNeeded_80 : decode cX11_isNeeded 80 = .ok (.iconst 1, 1) := by decide +kernel
theorem dX11_isNeeded_81 : decode cX11_isNeeded 81 = .ok (.goto 4, 3) := by decide +kernel
theorem dX11_isNeeded_84 : decode cX11_isNeeded 84 = .ok (.iconst 0, 1) := by decide +kernel
theorem dX11_isNeeded_85 : decode cX11_isNeeded 85 = .ok (.ireturn, 1) := by decide +kernel
theorem dX11_endsFound_0 : decode cX11_endsFound 0 = .ok (.iload_n 2, 1) := by decide +kernel
theorem dX11_endsFound_1 : decode cX11_endsFound 1 = .ok (.iconst (-1), 1) := by decide +kernel
theorem dX11_endsFound_2 : decode cX11_endsFound 2 = .ok (.if_icmp .eq 16, 3) := by decide +kernel
theorem dX11_endsFound_5 : decode cX11_endsFound 5 = .ok (.iload_n 3, 1) := by decide +kernel
theorem dX11_endsFound_6 : decode cX11_endsFound 6 = .ok (.iconst (-1), 1) := by decide +kernel
theorem dX11_endsFound_7 : decode cX11_endsFound 7 = .ok (.if_icmp .eq 11, 3) := by decide +kernel
theorem dX11_endsFound_10 : decode cX11_endsFound 10 = .ok (.aload_n 0, 1) := by decide +kernel
theorem dX11_endsFound_11 : decode cX11_endsFound 11 = .ok (.iload_n 2, 1) := by decide +kernel
theorem dX11_endsFound_12 : decode cX11_endsFound 12 = .ok (.invokevirtual 262, 3) := by decide +kernel
theorem dX11_endsFound_15 : decode cX11_endsFound 15 = .ok (.ifCond .ne 8, 3) := by decide +kernel
theorem dX11_endsFound_18 : decode cX11_endsFound 18 = .ok (.aload_n 0, 1) := by decide +kernel
theorem dX11_endsFound_19 : decode cX11_endsFound 19 = .ok (.iload_n 1, 1) := by decide +kernel
theorem dX11_endsFound_20 : decode cX11_endsFound 20 = .ok (.invokevirtual 240, 3) := by decide +kernel
theorem dX11_endsFound_23 : decode cX11_endsFound 23 = .ok (.aload_n 0, 1) := by decide +kernel
theorem dX11_endsFound_24 : decode cX11_endsFound 24 = .ok (.iconst 2, 1) := by decide +kernel
theorem dX11_endsFound_25 : decode cX11_endsFound 25 = .ok (.putfield 243, 3) := by decide +kernel
theorem dX11_endsFound_28 : decode cX11_endsFound 28 = .ok (.aload_n 0, 1) := by decide +kernel
theorem dX11_endsFound_29 : decode cX11_endsFound 29 = .ok (.iload_n 1, 1) := by decide +kernel
theorem dX11_endsFound_30 : decode cX11_endsFound 30 = .ok (.putfield 246, 3) := by decide +kernel
theorem dX11_endsFound_33 : decode cX11_endsFound 33 = .ok (.aload_n 0, 1) := by decide +kernel
theorem dX11_endsFound_34 : decode cX11_endsFound 34 = .ok (.iload_n 3, 1) := by decide +kernel
theorem dX11_endsFound_35 : decode cX11_endsFound 35 = .ok (.putfield 249, 3) := by decide +kernel
theorem dX11_endsFound_38 : decode cX11_endsFound 38 = .ok (.aload_n 0, 1) := by decide +kernel
theorem dX11_endsFound_39 : decode cX11_endsFound 39 = .ok (.iload_n 2, 1) := by decide +kernel
theorem dX11_endsFound_40 : decode cX11_endsFound 40 = .ok (.putfield 252, 3) := by decide +kernel
theorem dX11_endsFound_43 : decode cX11_endsFound 43 = .ok (.return_, 1) := by decide +kernel
theorem dX11_readsType_0 : decode cX11_readsType 0 = .ok (.aload_n 0, 1) := by decide +kernel
theorem dX11_readsType_1 : decode cX11_readsType 1 = .ok (.getfield 213, 3) := by decide +kernel
theorem dX11_readsType_4 : decode cX11_readsType 4 = .ok (.istore_n 2, 1) := by decide +kernel
theorem dX11_readsType_5 : decode cX11_readsType 5 = .ok (.iload_n 1, 1) := by decide +kernel
theorem dX11_readsType_6 : decode cX11_readsType 6 = .ok (.bipush 83, 2) := by decide +kernel
theorem dX11_readsType_8 : decode cX11_readsType 8 = .ok (.if_icmp .eq 9, 3) := by decide +kernel
theorem dX11_readsType_11 : decode cX11_readsType 11 = .ok (.iload_n 1, 1) := by decide +kernel
theorem dX11_readsType_12 : decode cX11_readsType 12 = .ok (.bipush 80, 2) := by decide +kernel
theorem dX11_readsType_14 : decode cX11_readsType 14 = .ok (.if_icmp .ne 39, 3) := by decide +kernel
theorem dX11_readsType_17 : decode cX11_readsType 17 = .ok (.aload_n 0, 1) := by decide +kernel
theorem dX11_readsType_18 : decode cX11_readsType 18 = .ok (.getfield 222, 3) := by decide +kernel
theorem dX11_readsType_21 : decode cX11_readsType 21 = .ok (.bipush 10, 2) := by decide +kernel
theorem dX11_readsType_23 : decode cX11_readsType 23 = .ok (.if_icmp .ge 30, 3) := by decide +kernel
theorem dX11_readsType_26 : decode cX11_readsType 26 = .ok (.aload_n 0, 1) := by decide +kernel
theorem dX11_readsType_27 : decode cX11_readsType 27 = .ok (.iload_n 1, 1) := by decide +kernel
theorem dX11_readsType_28 : decode cX11_readsType 28 = .ok (.bipush 83, 2) := by decide +kernel
theorem dX11_readsType_30 : decode cX11_readsType 30 = .ok (.if_icmp .ne 7, 3) := by decide +kernel
theorem dX11_readsType_33 : decode cX11_readsType 33 = .ok (.iconst 1, 1) := by decide +kernel
theorem dX11_readsType_34 : decode cX11_readsType 34 = .ok (.goto 4, 3) := by decide +kernel
theorem dX11_readsType_37 : decode cX11_readsType 37 = .ok (.iconst 3, 1) := by decide +kernel
theorem dX11_readsType_38 : decode cX11_readsType 38 = .ok (.iload_n 2, 1) := by decide +kernel
theorem dX11_readsType_39 : decode cX11_readsType 39 = .ok (.invokevirtual 265, 3) := by decide +kernel
theorem dX11_readsType_42 : decode cX11_readsType 42 = .ok (.aload_n 0, 1) := by decide +kernel
theorem dX11_readsType_43 : decode cX11_readsType 43 = .ok (.dup, 1) := by decide +kernel
theorem dX11_readsType_44 : decode cX11_readsType 44 = .ok (.getfield 213, 3) := by decide +kernel
theorem dX11_readsType_47 : decode cX11_readsType 47 = .ok (.iconst 1, 1) := by decide +kernel
theorem dX11_readsType_48 : decode cX11_readsType 48 = .ok (.iadd, 1) := by decide +kernel
theorem dX11_readsType_49 : decode cX11_readsType 49 = .ok (.putfield 213, 3) := by decide +kernel
theorem dX11_readsType_52 : decode cX11_readsType 52 = .ok (.return_, 1) := by decide +kernel
theorem dX11_readsType_53 : decode cX11_readsType 53 = .ok (.iload_n 1, 1) := by decide +kernel
theorem dX11_readsType_54 : decode cX11_readsType 54 = .ok (.invokestatic 119, 3) := by decide +kernel
theorem dX11_readsType_57 : decode cX11_readsType 57 = .ok (.ifCond .eq 18, 3) := by decide +kernel
theorem dX11_readsType_60 : decode cX11_readsType 60 = .ok (.iload_n 1, 1) := by decide +kernel
theorem dX11_readsType_61 : decode cX11_readsType 61 = .ok (.bipush 65, 2) := by decide +kernel
theorem dX11_readsType_63 : decode cX11_readsType 63 = .ok (.isub, 1) := by decide +kernel
theorem dX11_readsType_64 : decode cX11_readsType 64 = .ok (.aload_n 0, 1) := by decide +kernel
theorem dX11_readsType_65 : decode cX11_readsType 65 = .ok (.getfield 268, 3) := by decide +kernel
theorem dX11_readsType_68 : decode cX11_readsType 68 = .ok (.if_icmp .ge 7, 3) := by decide +kernel
theorem dX11_readsType_71 : decode cX11_readsType 71 = .ok (.iconst 1, 1) := by decide +kernel
theorem dX11_readsType_72 : decode cX11_readsType 72 = .ok (.goto 4, 3) := by decide +kernel
theorem dX11_readsType_75 : decode cX11_readsType 75 = .ok (.iconst 0, 1) := by decide +kernel
theorem dX11_readsType_76 : decode cX11_readsType 76 = .ok (.istore_n 3, 1) := by decide +kernel
theorem dX11_readsType_77 : decode cX11_readsType 77 = .ok (.iload_n 1, 1) := by decide +kernel
theorem dX11_readsType_78 : decode cX11_readsType 78 = .ok (.bipush 49, 2) := by decide +kernel
theorem dX11_readsType_80 : decode cX11_readsType 80 = .ok (.if_icmp .eq 13, 3) := by decide +kernel
theorem dX11_readsType_83 : decode cX11_readsType 83 = .ok (.iload_n 3, 1) := by decide +kernel
theorem dX11_readsType_84 : decode cX11_readsType 84 = .ok (.ifCond .ne 9, 3) := by decide +kernel
theorem dX11_readsType_87 : decode cX11_readsType 87 = .ok (.aload_n 0, 1) := by decide +kernel
theorem dX11_readsType_88 : decode cX11_readsType 88 = .ok (.iload_n 2, 1) := by decide +kernel
theorem dX11_readsType_89 : decode cX11_readsType 89 = .ok (.invokevirtual 240, 3) := by decide +kernel
theorem dX11_readsType_92 : decode cX11_readsType 92 = .ok (.return_, 1) := by decide +kernel
theorem dX11_readsType_93 : decode cX11_readsType 93 = .ok (.aload_n 0, 1) := by decide +kernel
theorem dX11_readsType_94 : decode cX11_readsType 94 = .ok (.dup, 1) := by decide +kernel
theorem dX11_readsType_95 : decode cX11_readsType 95 = .ok (.getfield 213, 3) := by decide +kernel
theorem dX11_readsType_98 : decode cX11_readsType 98 = .ok (.iconst 1, 1) := by decide +kernel
theorem dX11_readsType_99 : decode cX11_readsType 99 = .ok (.iadd, 1) := by decide +kernel
theorem dX11_readsType_100 : decode cX11_readsType 100 = .ok (.putfield 213, 3) := by decide +kernel
theorem dX11_readsType_103 : decode cX11_readsType 103 = .ok (.iload_n 3, 1) := by decide +kernel
theorem dX11_readsType_104 : decode cX11_readsType 104 = .ok (.ifCond .eq 53, 3) := by decide +kernel
theorem dX11_readsType_107 : decode cX11_readsType 107 = .ok (.aload_n 0, 1) := by decide +kernel
theorem dX11_readsType_108 : decode cX11_readsType 108 = .ok (.getfield 16, 3) := by decide +kernel
theorem dX11_readsType_111 : decode cX11_readsType 111 = .ok (.iload_n 1, 1) := by decide +kernel
theorem dX11_readsType_112 : decode cX11_readsType 112 = .ok (.bipush 65, 2) := by decide +kernel
theorem dX11_readsType_114 : decode cX11_readsType 114 = .ok (.isub, 1) := by decide +kernel
theorem dX11_readsType_115 : decode cX11_readsType 115 = .ok (.baload, 1) := by decide +kernel
theorem dX11_readsType_116 : decode cX11_readsType 116 = .ok (.ifCond .eq 41, 3) := by decide +kernel
theorem dX11_readsType_119 : decode cX11_readsType 119 = .ok (.aload_n 0, 1) := by decide +kernel
theorem dX11_readsType_120 : decode cX11_readsType 120 = .ok (.iconst 0, 1) := by decide +kernel
theorem dX11_readsType_121 : decode cX11_readsType 121 = .ok (.iload_n 2, 1) := by decide +kernel
theorem dX11_readsType_122 : decode cX11_readsType 122 = .ok (.invokevirtual 265, 3) := by decide +kernel
theorem dX11_readsType_125 : decode cX11_readsType 125 = .ok (.aload_n 0, 1) := by decide +kernel
theorem dX11_readsType_126 : decode cX11_readsType 126 = .ok (.getfield 103, 3) := by decide +kernel
theorem dX11_readsType_129 : decode cX11_readsType 129 = .ok (.aload_n 0, 1) := by decide +kernel
theorem dX11_readsType_130 : decode cX11_readsType 130 = .ok (.getfield 219, 3) := by decide +kernel
theorem dX11_readsType_133 : decode cX11_readsType 133 = .ok (.iconst 1, 1) := by decide +kernel
theorem dX11_readsType_134 : decode cX11_readsType 134 = .ok (.isub, 1) := by decide +kernel
theorem dX11_readsType_135 : decode cX11_readsType 135 = .ok (.iload_n 1, 1) := by decide +kernel
theorem dX11_readsType_136 : decode cX11_readsType 136 = .ok (.iastore, 1) := by decide +kernel
theorem dX11_readsType_137 : decode cX11_readsType 137 = .ok (.aload_n 0, 1) := by decide +kernel
theorem dX11_readsType_138 : decode cX11_readsType 138 = .ok (.iconst 3, 1) := by decide +kernel
theorem dX11_readsType_139 : decode cX11_readsType 139 = .ok (.aload_n 0, 1) := by decide +kernel
theorem dX11_readsType_140 : decode cX11_readsType 140 = .ok (.getfield 271, 3) := by decide +kernel
theorem dX11_readsType_143 : decode cX11_readsType 143 = .ok (.bipush 51, 2) := by decide +kernel
theorem dX11_readsType_145 : decode cX11_readsType 145 = .ok (.iload_n 1, 1) := by decide +kernel
theorem dX11_readsType_146 : decode cX11_readsType 146 = .ok (.bipush 65, 2) := by decide +kernel
theorem dX11_readsType_148 : decode cX11_readsType 148 = .ok (.isub, 1) := by decide +kernel
theorem dX11_readsType_149 : decode cX11_readsType 149 = .ok (.imul, 1) := by decide +kernel
theorem dX11_readsType_150 : decode cX11_readsType 150 = .ok (.iadd, 1) := by decide +kernel
theorem dX11_readsType_151 : decode cX11_readsType 151 = .ok (.iconst 0, 1) := by decide +kernel
theorem dX11_readsType_152 : decode cX11_readsType 152 = .ok (.iconst 0, 1) := by decide +kernel
theorem dX11_readsType_153 : decode cX11_readsType 153 = .ok (.invokevirtual 274, 3) := by decide +kernel
theorem dX11_readsType_156 : decode cX11_readsType 156 = .ok (.return_, 1) := by decide +kernel
theorem dX11_readsType_157 : decode cX11_readsType 157 = .ok (.aload_n 0, 1) := by decide +kernel
theorem dX11_readsType_158 : decode cX11_readsType 158 = .ok (.getfield 133, 3) := by decide +kernel
theorem dX11_readsType_161 : decode cX11_readsType 161 = .ok (.istore 4, 2) := by decide +kernel
theorem dX11_readsType_163 : decode cX11_readsType 163 = .ok (.aload_n 0, 1) := by decide +kernel
theorem dX11_readsType_164 : decode cX11_readsType 164 = .ok (.iload_n 1, 1) := by decide +kernel
theorem dX11_readsType_165 : decode cX11_readsType 165 = .ok (.invokevirtual 136, 3) := by decide +kernel
theorem dX11_readsType_168 : decode cX11_readsType 168 = .ok (.aload_n 0, 1) := by decide +kernel
theorem dX11_readsType_169 : decode cX11_readsType 169 = .ok (.iload_n 2, 1) := by decide +kernel
theorem dX11_readsType_170 : decode cX11_readsType 170 = .ok (.iload 4, 2) := by decide +kernel
theorem dX11_readsType_172 : decode cX11_readsType 172 = .ok (.invokevirtual 278, 3) := by decide +kernel
theorem dX11_readsType_175 : decode cX11_readsType 175 = .ok (.return_, 1) := by decide +kernel
theorem dX11_typeNow_0 : decode cX11_typeNow 0 = .ok (.iload_n 1, 1) := by decide +kernel
theorem dX11_typeNow_1 : decode cX11_typeNow 1 = .ok (.iconst (-1), 1) := by decide +kernel
theorem dX11_typeNow_2 : decode cX11_typeNow 2 = .ok (.if_icmp .ne 7, 3) := by decide +kernel
theorem dX11_typeNow_5 : decode cX11_typeNow 5 = .ok (.iconst (-1), 1) := by decide +kernel
theorem dX11_typeNow_6 : decode cX11_typeNow 6 = .ok (.goto 14, 3) := by decide +kernel
theorem dX11_typeNow_9 : decode cX11_typeNow 9 = .ok (.aload_n 0, 1) := by decide +kernel
theorem dX11_typeNow_10 : decode cX11_typeNow 10 = .ok (.iload_n 1, 1) := by decide +kernel
theorem dX11_typeNow_11 : decode cX11_typeNow 11 = .ok (.iload_n 2, 1) := by decide +kernel
theorem dX11_typeNow_12 : decode cX11_typeNow 12 = .ok (.iconst 0, 1) := by decide +kernel
theorem dX11_typeNow_13 : decode cX11_typeNow 13 = .ok (.aload_n 0, 1) := by decide +kernel
theorem dX11_typeNow_14 : decode cX11_typeNow 14 = .ok (.getfield 222, 3) := by decide +kernel
theorem dX11_typeNow_17 : decode cX11_typeNow 17 = .ok (.invokevirtual 255, 3) := by decide +kernel
theorem dX11_typeNow_20 : decode cX11_typeNow 20 = .ok (.ireturn, 1) := by decide +kernel
theorem dX11_readsSimple_0 : decode cX11_readsSimple 0 = .ok (.aload_n 0, 1) := by decide +kernel
theorem dX11_readsSimple_1 : decode cX11_readsSimple 1 = .ok (.iload_n 3, 1) := by decide +kernel
theorem dX11_readsSimple_2 : decode cX11_readsSimple 2 = .ok (.iload 4, 2) := by decide +kernel
theorem dX11_readsSimple_4 : decode cX11_readsSimple 4 = .ok (.invokevirtual 281, 3) := by decide +kernel
theorem dX11_readsSimple_7 : decode cX11_readsSimple 7 = .ok (.istore 5, 2) := by decide +kernel
theorem dX11_readsSimple_9 : decode cX11_readsSimple 9 = .ok (.iload 5, 2) := by decide +kernel
theorem dX11_readsSimple_11 : decode cX11_readsSimple 11 = .ok (.iconst (-1), 1) := by decide +kernel
theorem dX11_readsSimple_12 : decode cX11_readsSimple 12 = .ok (.if_icmp .ne 7, 3) := by decide +kernel
theorem dX11_readsSimple_15 : decode cX11_readsSimple 15 = .ok (.iconst (-1), 1) := by decide +kernel
theorem dX11_readsSimple_16 : decode cX11_readsSimple 16 = .ok (.goto 14, 3) := by decide +kernel
theorem dX11_readsSimple_19 : decode cX11_readsSimple 19 = .ok (.aload_n 0, 1) := by decide +kernel
theorem dX11_readsSimple_20 : decode cX11_readsSimple 20 = .ok (.iload_n 2, 1) := by decide +kernel
theorem dX11_readsSimple_21 : decode cX11_readsSimple 21 = .ok (.iload 5, 2) := by decide +kernel
theorem dX11_readsSimple_23 : decode cX11_readsSimple 23 = .ok (.aload_n 0, 1) := by decide +kernel
theorem dX11_readsSimple_24 : decode cX11_readsSimple 24 = .ok (.getfield 222, 3) := by decide +kernel
theorem dX11_readsSimple_27 : decode cX11_readsSimple 27 = .ok (.invokevirtual 284, 3) := by decide +kernel
theorem dX11_readsSimple_30 : decode cX11_readsSimple 30 = .ok (.istore 6, 2) := by decide +kernel
theorem dX11_readsSimple_32 : decode cX11_readsSimple 32 = .ok (.aload_n 0, 1) := by decide +kernel
theorem dX11_readsSimple_33 : decode cX11_readsSimple 33 = .ok (.iload_n 1, 1) := by decide +kernel
theorem dX11_readsSimple_34 : decode cX11_readsSimple 34 = .ok (.iload 5, 2) := by decide +kernel
theorem dX11_readsSimple_36 : decode cX11_readsSimple 36 = .ok (.iload 6, 2) := by decide +kernel
theorem dX11_readsSimple_38 : decode cX11_readsSimple 38 = .ok (.invokevirtual 287, 3) := by decide +kernel
theorem dX11_readsSimple_41 : decode cX11_readsSimple 41 = .ok (.return_, 1) := by decide +kernel
theorem dX11_readsEntry_0 : decode cX11_readsEntry 0 = .ok (.aload_n 0, 1) := by decide +kernel
theorem dX11_readsEntry_1 : decode cX11_readsEntry 1 = .ok (.getfield 213, 3) := by decide +kernel
theorem dX11_readsEntry_4 : decode cX11_readsEntry 4 = .ok (.istore_n 1, 1) := by decide +kernel
theorem dX11_readsEntry_5 : decode cX11_readsEntry 5 = .ok (.aload_n 0, 1) := by decide +kernel
theorem dX11_readsEntry_6 : decode cX11_readsEntry 6 = .ok (.dup, 1) := by decide +kernel
theorem dX11_readsEntry_7 : decode cX11_readsEntry 7 = .ok (.getfield 213, 3) := by decide +kernel
theorem dX11_readsEntry_10 : decode cX11_readsEntry 10 = .ok (.iconst 1, 1) := by decide +kernel
theorem dX11_readsEntry_11 : decode cX11_readsEntry 11 = .ok (.iadd, 1) := by decide +kernel
theorem dX11_readsEntry_12 : decode cX11_readsEntry 12 = .ok (.putfield 213, 3) := by decide +kernel
theorem dX11_readsEntry_15 : decode cX11_readsEntry 15 = .ok (.aload_n 0, 1) := by decide +kernel
theorem dX11_readsEntry_16 : decode cX11_readsEntry 16 = .ok (.invokevirtual 290, 3) := by decide +kernel
theorem dX11_readsEntry_19 : decode cX11_readsEntry 19 = .ok (.bipush 48, 2) := by decide +kernel
theorem dX11_readsEntry_21 : decode cX11_readsEntry 21 = .ok (.isub, 1) := by decide +kernel
theorem dX11_readsEntry_22 : decode cX11_readsEntry 22 = .ok (.istore_n 2, 1) := by decide +kernel
theorem dX11_readsEntry_23 : decode cX11_readsEntry 23 = .ok (.iload_n 2, 1) := by decide +kernel
theorem dX11_readsEntry_24 : decode cX11_readsEntry 24 = .ok (.iconst 0, 1) := by decide +kernel
theorem dX11_readsEntry_25 : decode cX11_readsEntry 25 = .ok (.aload_n 0, 1) := by decide +kernel
theorem dX11_readsEntry_26 : decode cX11_readsEntry 26 = .ok (.getfield 294, 3) := by decide +kernel
theorem dX11_readsEntry_29 : decode cX11_readsEntry 29 = .ok (.iconst 1, 1) := by decide +kernel
theorem dX11_readsEntry_30 : decode cX11_readsEntry 30 = .ok (.isub, 1) := by decide +kernel
theorem dX11_readsEntry_31 : decode cX11_readsEntry 31 = .ok (.invokestatic 297, 3) := by decide +kernel
theorem dX11_readsEntry_34 : decode cX11_readsEntry 34 = .ok (.ifCond .ne 12, 3) := by decide +kernel
theorem dX11_readsEntry_37 : decode cX11_readsEntry 37 = .ok (.aload_n 0, 1) := by decide +kernel
theorem dX11_readsEntry_38 : decode cX11_readsEntry 38 = .ok (.aload_n 0, 1) := by decide +kernel
theorem dX11_readsEntry_39 : decode cX11_readsEntry 39 = .ok (.getfield 213, 3) := by decide +kernel
theorem dX11_readsEntry_42 : decode cX11_readsEntry 42 = .ok (.invokevirtual 240, 3) := by decide +kernel
theorem dX11_readsEntry_45 : decode cX11_readsEntry 45 = .ok (.return_, 1) := by decide +kernel
theorem dX11_readsEntry_46 : decode cX11_readsEntry 46 = .ok (.aload_n 0, 1) := by decide +kernel
theorem dX11_readsEntry_47 : decode cX11_readsEntry 47 = .ok (.dup, 1) := by decide +kernel
theorem dX11_readsEntry_48 : decode cX11_readsEntry 48 = .ok (.getfield 213, 3) := by decide +kernel
theorem dX11_readsEntry_51 : decode cX11_readsEntry 51 = .ok (.iconst 1, 1) := by decide +kernel
theorem dX11_readsEntry_52 : decode cX11_readsEntry 52 = .ok (.iadd, 1) := by decide +kernel
theorem dX11_readsEntry_53 : decode cX11_readsEntry 53 = .ok (.putfield 213, 3) := by decide +kernel
theorem dX11_readsEntry_56 : decode cX11_readsEntry 56 = .ok (.aload_n 0, 1) := by decide +kernel
theorem dX11_readsEntry_57 : decode cX11_readsEntry 57 = .ok (.sipush 357, 3) := by decide +kernel
theorem dX11_readsEntry_60 : decode cX11_readsEntry 60 = .ok (.bipush 102, 2) := by decide +kernel
theorem dX11_readsEntry_62 : decode cX11_readsEntry 62 = .ok (.iload_n 2, 1) := by decide +kernel
theorem dX11_readsEntry_63 : decode cX11_readsEntry 63 = .ok (.imul, 1) := by decide +kernel
theorem dX11_readsEntry_64 : decode cX11_readsEntry 64 = .ok (.iadd, 1) := by decide +kernel
theorem dX11_readsEntry_65 : decode cX11_readsEntry 65 = .ok (.iconst 0, 1) := by decide +kernel
theorem dX11_readsEntry_66 : decode cX11_readsEntry 66 = .ok (.invokevirtual 281, 3) := by decide +kernel
theorem dX11_readsEntry_69 : decode cX11_readsEntry 69 = .ok (.istore_n 3, 1) := by decide +kernel
theorem dX11_readsEntry_70 : decode cX11_readsEntry 70 = .ok (.aload_n 0, 1) := by decide +kernel
theorem dX11_readsEntry_71 : decode cX11_readsEntry 71 = .ok (.getfield 140, 3) := by decide +kernel
theorem dX11_readsEntry_74 : decode cX11_readsEntry 74 = .ok (.istore 4, 2) := by decide +kernel
theorem dX11_readsEntry_76 : decode cX11_readsEntry 76 = .ok (.aload_n 0, 1) := by decide +kernel
theorem dX11_readsEntry_77 : decode cX11_readsEntry 77 = .ok (.getfield 45, 3) := by decide +kernel
theorem dX11_readsEntry_80 : decode cX11_readsEntry 80 = .ok (.istore 5, 2) := by decide +kernel
theorem dX11_readsEntry_82 : decode cX11_readsEntry 82 = .ok (.aload_n 0, 1) := by decide +kernel
theorem dX11_readsEntry_83 : decode cX11_readsEntry 83 = .ok (.sipush 357, 3) := by decide +kernel
theorem dX11_readsEntry_86 : decode cX11_readsEntry 86 = .ok (.bipush 102, 2) := by decide +kernel
theorem dX11_readsEntry_88 : decode cX11_readsEntry 88 = .ok (.iload_n 2, 1) := by decide +kernel
theorem dX11_readsEntry_89 : decode cX11_readsEntry 89 = .ok (.imul, 1) := by decide +kernel
theorem dX11_readsEntry_90 : decode cX11_readsEntry 90 = .ok (.iadd, 1) := by decide +kernel
theorem dX11_readsEntry_91 : decode cX11_readsEntry 91 = .ok (.bipush 51, 2) := by decide +kernel
theorem dX11_readsEntry_93 : decode cX11_readsEntry 93 = .ok (.iadd, 1) := by decide +kernel
theorem dX11_readsEntry_94 : decode cX11_readsEntry 94 = .ok (.iconst 0, 1) := by decide +kernel
theorem dX11_readsEntry_95 : decode cX11_readsEntry 95 = .ok (.iconst 0, 1) := by decide +kernel
theorem dX11_readsEntry_96 : decode cX11_readsEntry 96 = .ok (.invokevirtual 180, 3) := by decide +kernel
theorem dX11_readsEntry_99 : decode cX11_readsEntry 99 = .ok (.istore 6, 2) := by decide +kernel
theorem dX11_readsEntry_101 : decode cX11_readsEntry 101 = .ok (.aload_n 0, 1) := by decide +kernel
theorem dX11_readsEntry_102 : decode cX11_readsEntry 102 = .ok (.iload 6, 2) := by decide +kernel
theorem dX11_readsEntry_104 : decode cX11_readsEntry 104 = .ok (.aload_n 0, 1) := by decide +kernel
theorem dX11_readsEntry_105 : decode cX11_readsEntry 105 = .ok (.getfield 222, 3) := by decide +kernel
theorem dX11_readsEntry_108 : decode cX11_readsEntry 108 = .ok (.iload 4, 2) := by decide +kernel
theorem dX11_readsEntry_110 : decode cX11_readsEntry 110 = .ok (.iload 5, 2) := by decide +kernel
theorem dX11_readsEntry_112 : decode cX11_readsEntry 112 = .ok (.invokevirtual 301, 3) := by decide +kernel
theorem dX11_readsEntry_115 : decode cX11_readsEntry 115 = .ok (.istore 7, 2) := by decide +kernel
theorem dX11_readsEntry_117 : decode cX11_readsEntry 117 = .ok (.aload_n 0, 1) := by decide +kernel
theorem dX11_readsEntry_118 : decode cX11_readsEntry 118 = .ok (.iload_n 1, 1) := by decide +kernel
theorem dX11_readsEntry_119 : decode cX11_readsEntry 119 = .ok (.iload_n 3, 1) := by decide +kernel
theorem dX11_readsEntry_120 : decode cX11_readsEntry 120 = .ok (.iload 7, 2) := by decide +kernel
theorem dX11_readsEntry_122 : decode cX11_readsEntry 122 = .ok (.invokevirtual 287, 3) := by decide +kernel
theorem dX11_readsEntry_125 : decode cX11_readsEntry 125 = .ok (.return_, 1) := by decide +kernel
set_option maxHeartbeats 4000000 in
set_option maxRecDepth 20000 in
theorem b_fails_16 {p : Program} {l : Launch} {e : Env} {s : State} {m : MethodId} {args : Array Value} {below : List Frame} {meth : Method} {c : Code} {D : va_G} {cy : Nat → ClassId} {ad : Nat → Nat} {q : Int32 × MS} (C : vC p s m args meth c cX11_fails 2 none RX11 D (cyT cy)) (hi : ∀ i j, i < 34 → j < 34 → ad i = ad j → i = j) : ∀ (s0 : Int32) (σ : MS), B_fails_16 s0 σ = some q → V p l e { frames := 0, cells := 0, slots := 0, locals := 0 } s m args below meth c D (inAd ad) 2 (MQ below (vQ D (inAd ad) none (wm cy ad q.2)) args s 0 0 (inAd ad)) 0 0 (wm cy ad σ) 16 [(0, .ref (ad 0))] [.int s0, .ref (ad 0)] := by
  intro s0 σ h
  rw [B_fails_16] at h
  refine n_putI C fl_210 dX11_fails_16 ?_
  obtain rfl := Option.some.inj h
  exact v_vret C dX11_fails_19
set_option maxHeartbeats 4000000 in
set_option maxRecDepth 20000 in
theorem c_fails {l : Launch} {D : va_G} {cy : Nat → ClassId} {ad : Nat → Nat} {q : Int32 × MS} (hi : ∀ i j, i < 34 → j < 34 → ad i = ad j → i = j) (x1 : Int32) (σ : MS) (h : f_fails x1 σ = some q) : MV l D (cyT cy) (inAd ad) yX11_fails cX11_fails 2 none 0 0 0 0 [.ref (ad 0), .int x1] (wm cy ad σ) none (wm cy ad q.2) := by
  refine MV.of (by decide) (wm_inj hi cy σ) (Nat.le_of_ble_eq_true rfl) [(0, .ref (ad 0)), (1, .int x1)] rfl ?_
  intro p e s m args below meth c C
  rw [f_fails] at h
  refine v_aload_n C 0 dX11_fails_0 rfl rfl ?_
  refine v_aload_n C 0 dX11_fails_1 rfl rfl ?_
  refine n_getI C fl_210 dX11_fails_2 ?_
  refine v_if_ge C 12 dX11_fails_5 (by decide) (fun c1 => ?_) (fun c1 => ?_)
  · rw [if_pos c1] at h
    refine v_aload_n C 0 dX11_fails_12 rfl rfl ?_
    refine n_getI C fl_210 dX11_fails_13 ?_
    exact v_sub [0] rfl ((b_fails_16 C hi) _ _ h)
  · rw [if_neg c1] at h
    refine v_iload_n C 1 dX11_fails_8 rfl rfl ?_
    refine v_goto C 16 dX11_fails_9 (by decide) ?_
    exact v_sub [0] rfl ((b_fails_16 C hi) _ _ h)
set_option maxHeartbeats 4000000 in
set_option maxRecDepth 20000 in
theorem b_here_25 {p : Program} {l : Launch} {e : Env} {s : State} {m : MethodId} {args : Array Value} {below : List Frame} {meth : Method} {c : Code} {D : va_G} {cy : Nat → ClassId} {ad : Nat → Nat} {q : Int32 × MS} (C : vC p s m args meth c cX11_here 1 (some .int) RX11 D (cyT cy)) (hi : ∀ i j, i < 34 → j < 34 → ad i = ad j → i = j) : ∀ (s0 : Int32) (σ : MS), B_here_25 s0 σ = some q → V p l e { frames := 0, cells := 0, slots := 0, locals := 0 } s m args below meth c D (inAd ad) 1 (MQ below (vQ D (inAd ad) (some (.int q.1)) (wm cy ad q.2)) args s 0 0 (inAd ad)) 0 0 (wm cy ad σ) 25 [(0, .ref (ad 0))] [.int s0] := by
  intro s0 σ h
  rw [B_here_25] at h
  obtain rfl := Option.some.inj h
  exact v_iret C dX11_here_25
set_option maxHeartbeats 4000000 in
set_option maxRecDepth 20000 in
theorem c_here {l : Launch} {D : va_G} {cy : Nat → ClassId} {ad : Nat → Nat} {q : Int32 × MS} (hi : ∀ i j, i < 34 → j < 34 → ad i = ad j → i = j) (σ : MS) (h : f_here σ = some q) : MV l D (cyT cy) (inAd ad) yX11_here cX11_here 1 (some .int) 0 0 0 0 [.ref (ad 0)] (wm cy ad σ) (some (.int q.1)) (wm cy ad q.2) := by
  refine MV.of (by decide) (wm_inj hi cy σ) (Nat.le_of_ble_eq_true rfl) [(0, .ref (ad 0))] rfl ?_
  intro p e s m args below meth c C
  rw [f_here] at h
  refine v_aload_n C 0 dX11_here_0 rfl rfl ?_
  refine n_getI C fl_213 dX11_here_1 ?_
  refine v_aload_n C 0 dX11_here_4 rfl rfl ?_
  refine n_getI C fl_216 dX11_here_5 ?_
  refine v_icmp_ge C 23 dX11_here_8 (by decide) (fun c1 => ?_) (fun c1 => ?_)
  · rw [if_pos c1] at h
    refine v_bipush C (-9) dX11_here_23 (by decide) ?_
    exact v_sub [0] rfl ((b_here_25 C hi) _ _ h)
  · rw [if_neg c1] at h
    refine v_aload_n C 0 dX11_here_11 rfl rfl ?_
    refine n_getR C fl_13 dX11_here_12 ?_
    refine v_aload_n C 0 dX11_here_15 rfl rfl ?_
    refine n_getI C fl_213 dX11_here_16 ?_
    obtain ⟨g1, h⟩ := gd_of h
    refine vm_iald C 2 iI_2 (ix_in g1) dX11_here_19 ?_
    refine v_goto C 25 dX11_here_20 (by decide) ?_
    exact v_sub [0] rfl ((b_here_25 C hi) _ _ h)
set_option maxHeartbeats 4000000 in
set_option maxRecDepth 20000 in
theorem c_begins {l : Launch} {D : va_G} {cy : Nat → ClassId} {ad : Nat → Nat} {q : Int32 × MS} (hi : ∀ i j, i < 34 → j < 34 → ad i = ad j → i = j) (x1 : Int32) (x2 : Int32) (σ : MS) (h : f_begins x1 x2 σ = some q) : MV l D (cyT cy) (inAd ad) yX11_begins cX11_begins 3 none 0 0 0 0 [.ref (ad 0), .int x1, .int x2] (wm cy ad σ) none (wm cy ad q.2) := by
  refine MV.of (by decide) (wm_inj hi cy σ) (Nat.le_of_ble_eq_true rfl) [(0, .ref (ad 0)), (1, .int x1), (2, .int x2)] rfl ?_
  intro p e s m args below meth c C
  rw [f_begins] at h
  refine v_aload_n C 0 dX11_begins_0 rfl rfl ?_
  refine n_getR C fl_82 dX11_begins_1 ?_
  refine v_aload_n C 0 dX11_begins_4 rfl rfl ?_
  refine n_getI C fl_219 dX11_begins_5 ?_
  refine v_iload_n C 1 dX11_begins_8 rfl rfl ?_
  obtain ⟨g1, h⟩ := gd_of h
  refine vm_iast C 23 iI_23 (ix_in g1) dX11_begins_9 ?_
  refine v_aload_n C 0 dX11_begins_10 rfl rfl ?_
  refine n_getR C fl_85 dX11_begins_11 ?_
  refine v_aload_n C 0 dX11_begins_14 rfl rfl ?_
  refine n_getI C fl_219 dX11_begins_15 ?_
  refine v_iload_n C 2 dX11_begins_18 rfl rfl ?_
  obtain ⟨g2, h⟩ := gd_of h
  refine vm_iast C 24 iI_24 (ix_in g2) dX11_begins_19 ?_
  refine v_aload_n C 0 dX11_begins_20 rfl rfl ?_
  refine n_getR C fl_88 dX11_begins_21 ?_
  refine v_aload_n C 0 dX11_begins_24 rfl rfl ?_
  refine n_getI C fl_219 dX11_begins_25 ?_
  refine v_aload_n C 0 dX11_begins_28 rfl rfl ?_
  refine n_getI C fl_222 dX11_begins_29 ?_
  obtain ⟨g3, h⟩ := gd_of h
  refine vm_iast C 25 iI_25 (ix_in g3) dX11_begins_32 ?_
  refine v_aload_n C 0 dX11_begins_33 rfl rfl ?_
  refine n_getR C fl_91 dX11_begins_34 ?_
  refine v_aload_n C 0 dX11_begins_37 rfl rfl ?_
  refine n_getI C fl_219 dX11_begins_38 ?_
  refine v_aload_n C 0 dX11_begins_41 rfl rfl ?_
  refine n_getI C fl_225 dX11_begins_42 ?_
  obtain ⟨g4, h⟩ := gd_of h
  refine vm_iast C 26 iI_26 (ix_in g4) dX11_begins_45 ?_
  refine v_aload_n C 0 dX11_begins_46 rfl rfl ?_
  refine n_getR C fl_94 dX11_begins_47 ?_
  refine v_aload_n C 0 dX11_begins_50 rfl rfl ?_
  refine n_getI C fl_219 dX11_begins_51 ?_
  refine v_aload_n C 0 dX11_begins_54 rfl rfl ?_
  refine n_getI C fl_228 dX11_begins_55 ?_
  obtain ⟨g5, h⟩ := gd_of h
  refine vm_iast C 27 iI_27 (ix_in g5) dX11_begins_58 ?_
  refine v_aload_n C 0 dX11_begins_59 rfl rfl ?_
  refine n_getR C fl_97 dX11_begins_60 ?_
  refine v_aload_n C 0 dX11_begins_63 rfl rfl ?_
  refine n_getI C fl_219 dX11_begins_64 ?_
  refine v_aload_n C 0 dX11_begins_67 rfl rfl ?_
  refine n_getI C fl_231 dX11_begins_68 ?_
  obtain ⟨g6, h⟩ := gd_of h
  refine vm_iast C 28 iI_28 (ix_in g6) dX11_begins_71 ?_
  refine v_aload_n C 0 dX11_begins_72 rfl rfl ?_
  refine n_getR C fl_100 dX11_begins_73 ?_
  refine v_aload_n C 0 dX11_begins_76 rfl rfl ?_
  refine n_getI C fl_219 dX11_begins_77 ?_
  refine v_aload_n C 0 dX11_begins_80 rfl rfl ?_
  refine n_getI C fl_234 dX11_begins_81 ?_
  obtain ⟨g7, h⟩ := gd_of h
  refine vm_iast C 29 iI_29 (ix_in g7) dX11_begins_84 ?_
  refine v_aload_n C 0 dX11_begins_85 rfl rfl ?_
  refine v_dup C dX11_begins_86 rfl ?_
  refine n_getI C fl_219 dX11_begins_87 ?_
  refine v_iconst C 1 dX11_begins_90 (by decide) ?_
  refine v_iadd C dX11_begins_91 ?_
  refine n_putI C fl_219 dX11_begins_92 ?_
  obtain rfl := Option.some.inj h
  exact v_vret C dX11_begins_95
set_option maxHeartbeats 4000000 in
set_option maxRecDepth 20000 in
theorem c_dueType {l : Launch} {D : va_G} {cy : Nat → ClassId} {ad : Nat → Nat} {q : Int32 × MS} (hi : ∀ i j, i < 34 → j < 34 → ad i = ad j → i = j) (σ : MS) (h : f_dueType σ = some q) : MV l D (cyT cy) (inAd ad) yX11_dueType cX11_dueType 1 none 0 0 0 0 [.ref (ad 0)] (wm cy ad σ) none (wm cy ad q.2) := by
  refine MV.of (by decide) (wm_inj hi cy σ) (Nat.le_of_ble_eq_true rfl) [(0, .ref (ad 0))] rfl ?_
  intro p e s m args below meth c C
  rw [f_dueType] at h
  refine v_aload_n C 0 dX11_dueType_0 rfl rfl ?_
  refine v_iconst C 1 dX11_dueType_1 (by decide) ?_
  refine n_putZ C (Or.inr rfl) fl_237 dX11_dueType_2 ?_
  obtain rfl := Option.some.inj h
  exact v_vret C dX11_dueType_5
set_option maxHeartbeats 4000000 in
set_option maxRecDepth 20000 in
theorem c_dueTerm {l : Launch} {D : va_G} {cy : Nat → ClassId} {ad : Nat → Nat} {q : Int32 × MS} (hi : ∀ i j, i < 34 → j < 34 → ad i = ad j → i = j) (x1 : Int32) (x2 : Int32) (x3 : Int32) (x4 : Int32) (σ : MS) (h : f_dueTerm x1 x2 x3 x4 σ = some q) : MV l D (cyT cy) (inAd ad) yX11_dueTerm cX11_dueTerm 5 none 0 0 0 0 [.ref (ad 0), .int x1, .int x2, .int x3, .int x4] (wm cy ad σ) none (wm cy ad q.2) := by
  refine MV.of (by decide) (wm_inj hi cy σ) (Nat.le_of_ble_eq_true rfl) [(0, .ref (ad 0)), (1, .int x1), (2, .int x2), (3, .int x3), (4, .int x4)] rfl ?_
  intro p e s m args below meth c C
  rw [f_dueTerm] at h
  refine v_aload_n C 0 dX11_dueTerm_0 rfl rfl ?_
  refine v_iconst C 0 dX11_dueTerm_1 (by decide) ?_
  refine n_putZ C (Or.inl rfl) fl_237 dX11_dueTerm_2 ?_
  refine v_aload_n C 0 dX11_dueTerm_5 rfl rfl ?_
  refine v_iload_n C 1 dX11_dueTerm_6 rfl rfl ?_
  refine n_putI C fl_225 dX11_dueTerm_7 ?_
  refine v_aload_n C 0 dX11_dueTerm_10 rfl rfl ?_
  refine v_iload_n C 2 dX11_dueTerm_11 rfl rfl ?_
  refine n_putI C fl_228 dX11_dueTerm_12 ?_
  refine v_aload_n C 0 dX11_dueTerm_15 rfl rfl ?_
  refine v_iload_n C 3 dX11_dueTerm_16 rfl rfl ?_
  refine n_putI C fl_231 dX11_dueTerm_17 ?_
  refine v_aload_n C 0 dX11_dueTerm_20 rfl rfl ?_
  refine v_iload C 4 dX11_dueTerm_21 rfl ?_
  refine n_putI C fl_234 dX11_dueTerm_23 ?_
  obtain rfl := Option.some.inj h
  exact v_vret C dX11_dueTerm_26
set_option maxHeartbeats 4000000 in
set_option maxRecDepth 20000 in
theorem b_endsType_15 {p : Program} {l : Launch} {e : Env} {s : State} {m : MethodId} {args : Array Value} {below : List Frame} {meth : Method} {c : Code} {D : va_G} {cy : Nat → ClassId} {ad : Nat → Nat} {q : Int32 × MS} (C : vC p s m args meth c cX11_endsType 3 none RX11 D (cyT cy)) (hi : ∀ i j, i < 34 → j < 34 → ad i = ad j → i = j) : ∀ (x1 : Int32) (x2 : Int32) (σ : MS), B_endsType_15 x1 x2 σ = some q → V p l e { frames := 4, cells := 0, slots := 0, locals := 85 } s m args below meth c D (inAd ad) 3 (MQ below (vQ D (inAd ad) none (wm cy ad q.2)) args s 0 0 (inAd ad)) 0 0 (wm cy ad σ) 15 [(0, .ref (ad 0)), (1, .int x1), (2, .int x2)] [] := by
  intro x1 x2 σ h
  rw [B_endsType_15] at h
  refine v_aload_n C 0 dX11_endsType_15 rfl rfl ?_
  refine v_iconst C 1 dX11_endsType_16 (by decide) ?_
  refine n_putI C fl_243 dX11_endsType_17 ?_
  refine v_aload_n C 0 dX11_endsType_20 rfl rfl ?_
  refine v_iload_n C 1 dX11_endsType_21 rfl rfl ?_
  refine n_putI C fl_246 dX11_endsType_22 ?_
  refine v_aload_n C 0 dX11_endsType_25 rfl rfl ?_
  refine v_iload_n C 2 dX11_endsType_26 rfl rfl ?_
  refine n_putI C fl_249 dX11_endsType_27 ?_
  obtain rfl := Option.some.inj h
  exact v_vret C dX11_endsType_30
set_option maxHeartbeats 4000000 in
set_option maxRecDepth 20000 in
theorem c_endsType {l : Launch} {D : va_G} {cy : Nat → ClassId} {ad : Nat → Nat} {q : Int32 × MS} (hi : ∀ i j, i < 34 → j < 34 → ad i = ad j → i = j) (x1 : Int32) (x2 : Int32) (σ : MS) (h : f_endsType x1 x2 σ = some q) : MV l D (cyT cy) (inAd ad) yX11_endsType cX11_endsType 3 none 4 85 0 0 [.ref (ad 0), .int x1, .int x2] (wm cy ad σ) none (wm cy ad q.2) := by
  refine MV.of (by decide) (wm_inj hi cy σ) (Nat.le_of_ble_eq_true rfl) [(0, .ref (ad 0)), (1, .int x1), (2, .int x2)] rfl ?_
  intro p e s m args below meth c C
  rw [f_endsType] at h
  refine v_aload_n C 0 dX11_endsType_0 rfl rfl ?_
  refine v_iload_n C 2 dX11_endsType_1 rfl rfl ?_
  obtain ⟨q1, hq1, h⟩ := bd_of h
  refine vm_call C [.int x2] [] (c_longOf hi _ _ hq1) hY_longOf ml_130 ⟨Nat.le_of_ble_eq_true rfl, Nat.le_of_ble_eq_true rfl⟩ ⟨Nat.zero_le _, Nat.zero_le _⟩ rfl rfl (Nat.le_of_ble_eq_true rfl) dX11_endsType_2 (wm_inj hi cy _) ?_
  refine v_bipush C 50 dX11_endsType_5 (by decide) ?_
  refine v_icmp_le C 15 dX11_endsType_7 (by decide) (fun c1 => ?_) (fun c1 => ?_)
  · rw [if_pos c1] at h
    exact v_sub [0, 1, 2] rfl ((b_endsType_15 C hi) _ _ _ h)
  · rw [if_neg c1] at h
    refine v_aload_n C 0 dX11_endsType_10 rfl rfl ?_
    refine v_iload_n C 1 dX11_endsType_11 rfl rfl ?_
    obtain ⟨q2, hq2, h⟩ := bd_of h
    refine vm_call C [.int x1] [] (c_fails hi _ _ hq2) hY_fails ml_240 ⟨Nat.le_of_ble_eq_true rfl, Nat.le_of_ble_eq_true rfl⟩ ⟨Nat.zero_le _, Nat.zero_le _⟩ rfl rfl (Nat.le_of_ble_eq_true rfl) dX11_endsType_12 (wm_inj hi cy _) ?_
    exact v_sub [0, 1, 2] rfl ((b_endsType_15 C hi) _ _ _ h)
set_option maxHeartbeats 4000000 in
set_option maxRecDepth 20000 in
theorem b_endsGiven_15 {p : Program} {l : Launch} {e : Env} {s : State} {m : MethodId} {args : Array Value} {below : List Frame} {meth : Method} {c : Code} {D : va_G} {cy : Nat → ClassId} {ad : Nat → Nat} {q : Int32 × MS} (C : vC p s m args meth c cX11_endsGiven 3 none RX11 D (cyT cy)) (hi : ∀ i j, i < 34 → j < 34 → ad i = ad j → i = j) : ∀ (x1 : Int32) (x2 : Int32) (σ : MS), B_endsGiven_15 x1 x2 σ = some q → V p l e { frames := 4, cells := 0, slots := 0, locals := 85 } s m args below meth c D (inAd ad) 3 (MQ below (vQ D (inAd ad) none (wm cy ad q.2)) args s 0 0 (inAd ad)) 0 0 (wm cy ad σ) 15 [(0, .ref (ad 0)), (1, .int x1), (2, .int x2)] [] := by
  intro x1 x2 σ h
  rw [B_endsGiven_15] at h
  refine v_aload_n C 0 dX11_endsGiven_15 rfl rfl ?_
  refine v_iconst C 2 dX11_endsGiven_16 (by decide) ?_
  refine n_putI C fl_243 dX11_endsGiven_17 ?_
  refine v_aload_n C 0 dX11_endsGiven_20 rfl rfl ?_
  refine v_iload_n C 1 dX11_endsGiven_21 rfl rfl ?_
  refine n_putI C fl_246 dX11_endsGiven_22 ?_
  refine v_aload_n C 0 dX11_endsGiven_25 rfl rfl ?_
  refine v_iload_n C 2 dX11_endsGiven_26 rfl rfl ?_
  refine n_putI C fl_249 dX11_endsGiven_27 ?_
  refine v_aload_n C 0 dX11_endsGiven_30 rfl rfl ?_
  refine v_bipush C (-9) dX11_endsGiven_31 (by decide) ?_
  refine n_putI C fl_252 dX11_endsGiven_33 ?_
  obtain rfl := Option.some.inj h
  exact v_vret C dX11_endsGiven_36
set_option maxHeartbeats 4000000 in
set_option maxRecDepth 20000 in
theorem c_endsGiven {l : Launch} {D : va_G} {cy : Nat → ClassId} {ad : Nat → Nat} {q : Int32 × MS} (hi : ∀ i j, i < 34 → j < 34 → ad i = ad j → i = j) (x1 : Int32) (x2 : Int32) (σ : MS) (h : f_endsGiven x1 x2 σ = some q) : MV l D (cyT cy) (inAd ad) yX11_endsGiven cX11_endsGiven 3 none 4 85 0 0 [.ref (ad 0), .int x1, .int x2] (wm cy ad σ) none (wm cy ad q.2) := by
  refine MV.of (by decide) (wm_inj hi cy σ) (Nat.le_of_ble_eq_true rfl) [(0, .ref (ad 0)), (1, .int x1), (2, .int x2)] rfl ?_
  intro p e s m args below meth c C
  rw [f_endsGiven] at h
  refine v_aload_n C 0 dX11_endsGiven_0 rfl rfl ?_
  refine v_iload_n C 2 dX11_endsGiven_1 rfl rfl ?_
  obtain ⟨q1, hq1, h⟩ := bd_of h
  refine vm_call C [.int x2] [] (c_longOf hi _ _ hq1) hY_longOf ml_130 ⟨Nat.le_of_ble_eq_true rfl, Nat.le_of_ble_eq_true rfl⟩ ⟨Nat.zero_le _, Nat.zero_le _⟩ rfl rfl (Nat.le_of_ble_eq_true rfl) dX11_endsGiven_2 (wm_inj hi cy _) ?_
  refine v_bipush C 50 dX11_endsGiven_5 (by decide) ?_
  refine v_icmp_le C 15 dX11_endsGiven_7 (by decide) (fun c1 => ?_) (fun c1 => ?_)
  · rw [if_pos c1] at h
    exact v_sub [0, 1, 2] rfl ((b_endsGiven_15 C hi) _ _ _ h)
  · rw [if_neg c1] at h
    refine v_aload_n C 0 dX11_endsGiven_10 rfl rfl ?_
    refine v_iload_n C 1 dX11_endsGiven_11 rfl rfl ?_
    obtain ⟨q2, hq2, h⟩ := bd_of h
    refine vm_call C [.int x1] [] (c_fails hi _ _ hq2) hY_fails ml_240 ⟨Nat.le_of_ble_eq_true rfl, Nat.le_of_ble_eq_true rfl⟩ ⟨Nat.zero_le _, Nat.zero_le _⟩ rfl rfl (Nat.le_of_ble_eq_true rfl) dX11_endsGiven_12 (wm_inj hi cy _) ?_
    exact v_sub [0, 1, 2] rfl ((b_endsGiven_15 C hi) _ _ _ h)
set_option maxHeartbeats 4000000 in
set_option maxRecDepth 20000 in
theorem b_isNeeded_85 {p : Program} {l : Launch} {e : Env} {s : State} {m : MethodId} {args : Array Value} {below : List Frame} {meth : Method} {c : Code} {D : va_G} {cy : Nat → ClassId} {ad : Nat → Nat} {q : Int32 × MS} (C : vC p s m args meth c cX11_isNeeded 3 (some .boolean) RX11 D (cyT cy)) (hi : ∀ i j, i < 34 → j < 34 → ad i = ad j → i = j) : ∀ (s0 : Int32) (σ : MS), B_isNeeded_85 s0 σ = some q → V p l e { frames := 7, cells := 0, slots := 0, locals := 180 } s m args below meth c D (inAd ad) 3 (MQ below (vQ D (inAd ad) (some (.int q.1)) (wm cy ad q.2)) args s 0 0 (inAd ad)) 0 0 (wm cy ad σ) 85 [(0, .ref (ad 0))] [.int s0] := by
  intro s0 σ h
  rw [B_isNeeded_85] at h
  obtain ⟨g1, h⟩ := gd_of h
  obtain rfl := Option.some.inj h
  exact v_zret C (bzb_in g1) dX11_isNeeded_85
set_option maxHeartbeats 4000000 in
set_option maxRecDepth 20000 in
theorem b_isNeeded_84 {p : Program} {l : Launch} {e : Env} {s : State} {m : MethodId} {args : Array Value} {below : List Frame} {meth : Method} {c : Code} {D : va_G} {cy : Nat → ClassId} {ad : Nat → Nat} {q : Int32 × MS} (C : vC p s m args meth c cX11_isNeeded 3 (some .boolean) RX11 D (cyT cy)) (hi : ∀ i j, i < 34 → j < 34 → ad i = ad j → i = j) {k85 : Int32 → MS → Option (Int32 × MS)} (hk85 : ∀ (s0 : Int32)  (σ : MS), k85 s0 σ = some q → V p l e { frames := 7, cells := 0, slots := 0, locals := 180 } s m args below meth c D (inAd ad) 3 (MQ below (vQ D (inAd ad) (some (.int q.1)) (wm cy ad q.2)) args s 0 0 (inAd ad)) 0 0 (wm cy ad σ) 85 [(0, .ref (ad 0))] [.int s0]) : ∀ (σ : MS), B_isNeeded_84 k85 σ = some q → V p l e { frames := 7, cells := 0, slots := 0, locals := 180 } s m args below meth c D (inAd ad) 3 (MQ below (vQ D (inAd ad) (some (.int q.1)) (wm cy ad q.2)) args s 0 0 (inAd ad)) 0 0 (wm cy ad σ) 84 [(0, .ref (ad 0))] [] := by
  intro σ h
  rw [B_isNeeded_84] at h
  refine v_iconst C 0 dX11_isNeeded_84 (by decide) ?_
  exact v_sub [0] rfl (hk85 _ _ h)
set_option maxHeartbeats 4000000 in
set_option maxRecDepth 20000 in
theorem b_isNeeded_36 {p : Program} {l : Launch} {e : Env} {s : State} {m : MethodId} {args : Array Value} {below : List Frame} {meth : Method} {c : Code} {D : va_G} {cy : Nat → ClassId} {ad : Nat → Nat} {q : Int32 × MS} (C : vC p s m args meth c cX11_isNeeded 3 (some .boolean) RX11 D (cyT cy)) (hi : ∀ i j, i < 34 → j < 34 → ad i = ad j → i = j) {k39 : MS → Option (Int32 × MS)} {k44 : Int32 → MS → Option (Int32 × MS)} (hk39 : ∀  (σ : MS), k39 σ = some q → V p l e { frames := 7, cells := 0, slots := 0, locals := 180 } s m args below meth c D (inAd ad) 3 (MQ below (vQ D (inAd ad) (some (.int q.1)) (wm cy ad q.2)) args s 0 0 (inAd ad)) 0 0 (wm cy ad σ) 39 [(0, .ref (ad 0))] []) (hk44 : ∀ (s0 : Int32)  (σ : MS), k44 s0 σ = some q → V p l e { frames := 7, cells := 0, slots := 0, locals := 180 } s m args below meth c D (inAd ad) 3 (MQ below (vQ D (inAd ad) (some (.int q.1)) (wm cy ad q.2)) args s 0 0 (inAd ad)) 0 0 (wm cy ad σ) 44 [(0, .ref (ad 0))] [.int s0]) : ∀ (s0 : Int32) (s1 : Int32) (σ : MS), B_isNeeded_36 k39 k44 s0 s1 σ = some q → V p l e { frames := 7, cells := 0, slots := 0, locals := 180 } s m args below meth c D (inAd ad) 3 (MQ below (vQ D (inAd ad) (some (.int q.1)) (wm cy ad q.2)) args s 0 0 (inAd ad)) 0 0 (wm cy ad σ) 36 [(0, .ref (ad 0))] [.int s0, .int s1] := by
  intro s0 s1 σ h
  rw [B_isNeeded_36] at h
  refine v_icmp_ne C 43 dX11_isNeeded_36 (by decide) (fun c1 => ?_) (fun c1 => ?_)
  · rw [if_neg c1] at h
    refine v_iconst C 0 dX11_isNeeded_43 (by decide) ?_
    exact v_sub [0] rfl (hk44 _ _ h)
  · rw [if_pos c1] at h
    exact v_sub [0] rfl (hk39 _ h)
set_option maxHeartbeats 4000000 in
set_option maxRecDepth 20000 in
theorem b_isNeeded_44 {p : Program} {l : Launch} {e : Env} {s : State} {m : MethodId} {args : Array Value} {below : List Frame} {meth : Method} {c : Code} {D : va_G} {cy : Nat → ClassId} {ad : Nat → Nat} {q : Int32 × MS} (C : vC p s m args meth c cX11_isNeeded 3 (some .boolean) RX11 D (cyT cy)) (hi : ∀ i j, i < 34 → j < 34 → ad i = ad j → i = j) : ∀ (s0 : Int32) (σ : MS), B_isNeeded_44 s0 σ = some q → V p l e { frames := 7, cells := 0, slots := 0, locals := 180 } s m args below meth c D (inAd ad) 3 (MQ below (vQ D (inAd ad) (some (.int q.1)) (wm cy ad q.2)) args s 0 0 (inAd ad)) 0 0 (wm cy ad σ) 44 [(0, .ref (ad 0))] [.int s0] := by
  intro s0 σ h
  rw [B_isNeeded_44] at h
  obtain ⟨g1, h⟩ := gd_of h
  obtain rfl := Option.some.inj h
  exact v_zret C (bzb_in g1) dX11_isNeeded_44
set_option maxHeartbeats 4000000 in
set_option maxRecDepth 20000 in
theorem b_isNeeded_39 {p : Program} {l : Launch} {e : Env} {s : State} {m : MethodId} {args : Array Value} {below : List Frame} {meth : Method} {c : Code} {D : va_G} {cy : Nat → ClassId} {ad : Nat → Nat} {q : Int32 × MS} (C : vC p s m args meth c cX11_isNeeded 3 (some .boolean) RX11 D (cyT cy)) (hi : ∀ i j, i < 34 → j < 34 → ad i = ad j → i = j) {k44 : Int32 → MS → Option (Int32 × MS)} (hk44 : ∀ (s0 : Int32)  (σ : MS), k44 s0 σ = some q → V p l e { frames := 7, cells := 0, slots := 0, locals := 180 } s m args below meth c D (inAd ad) 3 (MQ below (vQ D (inAd ad) (some (.int q.1)) (wm cy ad q.2)) args s 0 0 (inAd ad)) 0 0 (wm cy ad σ) 44 [(0, .ref (ad 0))] [.int s0]) : ∀ (σ : MS), B_isNeeded_39 k44 σ = some q → V p l e { frames := 7, cells := 0, slots := 0, locals := 180 } s m args below meth c D (inAd ad) 3 (MQ below (vQ D (inAd ad) (some (.int q.1)) (wm cy ad q.2)) args s 0 0 (inAd ad)) 0 0 (wm cy ad σ) 39 [(0, .ref (ad 0))] [] := by
  intro σ h
  rw [B_isNeeded_39] at h
  refine v_iconst C 1 dX11_isNeeded_39 (by decide) ?_
  refine v_goto C 44 dX11_isNeeded_40 (by decide) ?_
  exact v_sub [0] rfl (hk44 _ _ h)
set_option maxHeartbeats 4000000 in
set_option maxRecDepth 20000 in
theorem c_isNeeded {l : Launch} {D : va_G} {cy : Nat → ClassId} {ad : Nat → Nat} {q : Int32 × MS} (hi : ∀ i j, i < 34 → j < 34 → ad i = ad j → i = j) (x1 : Int32) (σ : MS) (h : f_isNeeded x1 σ = some q) : MV l D (cyT cy) (inAd ad) yX11_isNeeded cX11_isNeeded 3 (some .boolean) 7 180 0 0 [.ref (ad 0), .int x1] (wm cy ad σ) (some (.int q.1)) (wm cy ad q.2) := by
  refine MV.of (by decide) (wm_inj hi cy σ) (Nat.le_of_ble_eq_true rfl) [(0, .ref (ad 0)), (1, .int x1)] rfl ?_
  intro p e s m args below meth c C
  rw [f_isNeeded] at h
  refine v_aload_n C 0 dX11_isNeeded_0 rfl rfl ?_
  refine n_getI C fl_225 dX11_isNeeded_1 ?_
  refine v_iconst C 3 dX11_isNeeded_4 (by decide) ?_
  refine v_icmp_eq C 45 dX11_isNeeded_5 (by decide) (fun c1 => ?_) (fun c1 => ?_)
  · rw [if_pos c1] at h
    refine v_aload_n C 0 dX11_isNeeded_45 rfl rfl ?_
    refine v_aload_n C 0 dX11_isNeeded_46 rfl rfl ?_
    refine n_getI C fl_228 dX11_isNeeded_47 ?_
    refine v_aload_n C 0 dX11_isNeeded_50 rfl rfl ?_
    refine n_getI C fl_231 dX11_isNeeded_51 ?_
    refine v_aload_n C 0 dX11_isNeeded_54 rfl rfl ?_
    refine n_getI C fl_234 dX11_isNeeded_55 ?_
    refine v_aload_n C 0 dX11_isNeeded_58 rfl rfl ?_
    refine n_getI C fl_222 dX11_isNeeded_59 ?_
    obtain ⟨q1, hq1, h⟩ := bd_of h
    refine vm_call C [.int (σ.1 48), .int (σ.1 49), .int (σ.1 50), .int (σ.1 46)] [] (c_typeBy hi _ _ _ _ _ hq1) hY_typeBy ml_255 ⟨Nat.le_of_ble_eq_true rfl, Nat.le_of_ble_eq_true rfl⟩ ⟨Nat.zero_le _, Nat.zero_le _⟩ rfl rfl (Nat.le_of_ble_eq_true rfl) dX11_isNeeded_62 (wm_inj hi cy _) ?_
    refine v_istore_n C [(2, .int q1.1), (0, .ref (ad 0)), (1, .int x1)] dX11_isNeeded_65 rfl (by decide) rfl ?_
    refine v_iload_n C 0 dX11_isNeeded_66 rfl rfl ?_
    refine v_iconst C (-1) dX11_isNeeded_67 (by decide) ?_
    refine v_icmp_eq C 84 dX11_isNeeded_68 (by decide) (fun c2 => ?_) (fun c2 => ?_)
    · rw [if_pos c2] at h
      exact v_sub [1] rfl ((b_isNeeded_84 C hi (b_isNeeded_85 C hi)) _ h)
    · rw [if_neg c2] at h
      refine v_aload_n C 1 dX11_isNeeded_71 rfl rfl ?_
      refine v_iload_n C 0 dX11_isNeeded_72 rfl rfl ?_
      refine v_iload_n C 2 dX11_isNeeded_73 rfl rfl ?_
      obtain ⟨q2, hq2, h⟩ := bd_of h
      refine vm_call C [.int q1.1, .int x1] [] (c_isSame hi _ _ _ hq2) hY_isSame ml_258 ⟨Nat.le_of_ble_eq_true rfl, Nat.le_of_ble_eq_true rfl⟩ ⟨Nat.zero_le _, Nat.zero_le _⟩ rfl rfl (Nat.le_of_ble_eq_true rfl) dX11_isNeeded_74 (wm_inj hi cy _) ?_
      refine v_if_eq C 84 dX11_isNeeded_77 (by decide) (fun c3 => ?_) (fun c3 => ?_)
      · rw [if_pos c3] at h
        exact v_sub [1] rfl ((b_isNeeded_84 C hi (b_isNeeded_85 C hi)) _ h)
      · rw [if_neg c3] at h
        refine v_iconst C 1 dX11_isNeeded_80 (by decide) ?_
        refine v_goto C 85 dX11_isNeeded_81 (by decide) ?_
        exact v_sub [1] rfl ((b_isNeeded_85 C hi) _ _ h)
  · rw [if_neg c1] at h
    refine v_aload_n C 0 dX11_isNeeded_8 rfl rfl ?_
    refine n_getI C fl_225 dX11_isNeeded_9 ?_
    refine v_if_eq C 39 dX11_isNeeded_12 (by decide) (fun c4 => ?_) (fun c4 => ?_)
    · rw [if_pos c4] at h
      exact v_sub [0] rfl ((b_isNeeded_39 C hi (b_isNeeded_44 C hi)) _ h)
    · rw [if_neg c4] at h
      refine v_aload_n C 0 dX11_isNeeded_15 rfl rfl ?_
      refine n_getR C fl_7 dX11_isNeeded_16 ?_
      refine v_iload_n C 1 dX11_isNeeded_19 rfl rfl ?_
      obtain ⟨g1, h⟩ := gd_of h
      refine vm_iald C 1 iI_1 (ix_in g1) dX11_isNeeded_20 ?_
      refine v_aload_n C 0 dX11_isNeeded_21 rfl rfl ?_
      refine n_getI C fl_225 dX11_isNeeded_22 ?_
      refine v_iconst C 1 dX11_isNeeded_25 (by decide) ?_
      refine v_icmp_ne C 34 dX11_isNeeded_26 (by decide) (fun c5 => ?_) (fun c5 => ?_)
      · rw [if_neg c5] at h
        refine v_bipush C 83 dX11_isNeeded_34 (by decide) ?_
        exact v_sub [0] rfl ((b_isNeeded_36 C hi (b_isNeeded_39 C hi (b_isNeeded_44 C hi)) (b_isNeeded_44 C hi)) _ _ _ h)
      · rw [if_pos c5] at h
        refine v_bipush C 80 dX11_isNeeded_29 (by decide) ?_
        refine v_goto C 36 dX11_isNeeded_31 (by decide) ?_
        exact v_sub [0] rfl ((b_isNeeded_36 C hi (b_isNeeded_39 C hi (b_isNeeded_44 C hi)) (b_isNeeded_44 C hi)) _ _ _ h)
set_option maxHeartbeats 4000000 in
set_option maxRecDepth 20000 in
theorem b_endsFound_23 {p : Program} {l : Launch} {e : Env} {s : State} {m : MethodId} {args : Array Value} {below : List Frame} {meth : Method} {c : Code} {D : va_G} {cy : Nat → ClassId} {ad : Nat → Nat} {q : Int32 × MS} (C : vC p s m args meth c cX11_endsFound 4 none RX11 D (cyT cy)) (hi : ∀ i j, i < 34 → j < 34 → ad i = ad j → i = j) : ∀ (x1 : Int32) (x2 : Int32) (x3 : Int32) (σ : MS), B_endsFound_23 x1 x2 x3 σ = some q → V p l e { frames := 8, cells := 0, slots := 0, locals := 202 } s m args below meth c D (inAd ad) 4 (MQ below (vQ D (inAd ad) none (wm cy ad q.2)) args s 0 0 (inAd ad)) 0 0 (wm cy ad σ) 23 [(0, .ref (ad 0)), (1, .int x1), (2, .int x2), (3, .int x3)] [] := by
  intro x1 x2 x3 σ h
  rw [B_endsFound_23] at h
  refine v_aload_n C 0 dX11_endsFound_23 rfl rfl ?_
  refine v_iconst C 2 dX11_endsFound_24 (by decide) ?_
  refine n_putI C fl_243 dX11_endsFound_25 ?_
  refine v_aload_n C 0 dX11_endsFound_28 rfl rfl ?_
  refine v_iload_n C 1 dX11_endsFound_29 rfl rfl ?_
  refine n_putI C fl_246 dX11_endsFound_30 ?_
  refine v_aload_n C 0 dX11_endsFound_33 rfl rfl ?_
  refine v_iload_n C 3 dX11_endsFound_34 rfl rfl ?_
  refine n_putI C fl_249 dX11_endsFound_35 ?_
  refine v_aload_n C 0 dX11_endsFound_38 rfl rfl ?_
  refine v_iload_n C 2 dX11_endsFound_39 rfl rfl ?_
  refine n_putI C fl_252 dX11_endsFound_40 ?_
  obtain rfl := Option.some.inj h
  exact v_vret C dX11_endsFound_43
set_option maxHeartbeats 4000000 in
set_option maxRecDepth 20000 in
theorem b_endsFound_18 {p : Program} {l : Launch} {e : Env} {s : State} {m : MethodId} {args : Array Value} {below : List Frame} {meth : Method} {c : Code} {D : va_G} {cy : Nat → ClassId} {ad : Nat → Nat} {q : Int32 × MS} (C : vC p s m args meth c cX11_endsFound 4 none RX11 D (cyT cy)) (hi : ∀ i j, i < 34 → j < 34 → ad i = ad j → i = j) {k23 : Int32 → Int32 → Int32 → MS → Option (Int32 × MS)} (hk23 : ∀ (x1 : Int32) (x2 : Int32) (x3 : Int32)  (σ : MS), k23 x1 x2 x3 σ = some q → V p l e { frames := 8, cells := 0, slots := 0, locals := 202 } s m args below meth c D (inAd ad) 4 (MQ below (vQ D (inAd ad) none (wm cy ad q.2)) args s 0 0 (inAd ad)) 0 0 (wm cy ad σ) 23 [(0, .ref (ad 0)), (1, .int x1), (2, .int x2), (3, .int x3)] []) : ∀ (x1 : Int32) (x2 : Int32) (x3 : Int32) (σ : MS), B_endsFound_18 k23 x1 x2 x3 σ = some q → V p l e { frames := 8, cells := 0, slots := 0, locals := 202 } s m args below meth c D (inAd ad) 4 (MQ below (vQ D (inAd ad) none (wm cy ad q.2)) args s 0 0 (inAd ad)) 0 0 (wm cy ad σ) 18 [(0, .ref (ad 0)), (1, .int x1), (2, .int x2), (3, .int x3)] [] := by
  intro x1 x2 x3 σ h
  rw [B_endsFound_18] at h
  refine v_aload_n C 0 dX11_endsFound_18 rfl rfl ?_
  refine v_iload_n C 1 dX11_endsFound_19 rfl rfl ?_
  obtain ⟨q1, hq1, h⟩ := bd_of h
  refine vm_call C [.int x1] [] (c_fails hi _ _ hq1) hY_fails ml_240 ⟨Nat.le_of_ble_eq_true rfl, Nat.le_of_ble_eq_true rfl⟩ ⟨Nat.zero_le _, Nat.zero_le _⟩ rfl rfl (Nat.le_of_ble_eq_true rfl) dX11_endsFound_20 (wm_inj hi cy _) ?_
  exact v_sub [0, 1, 2, 3] rfl (hk23 _ _ _ _ h)
set_option maxHeartbeats 4000000 in
set_option maxRecDepth 20000 in
theorem c_endsFound {l : Launch} {D : va_G} {cy : Nat → ClassId} {ad : Nat → Nat} {q : Int32 × MS} (hi : ∀ i j, i < 34 → j < 34 → ad i = ad j → i = j) (x1 : Int32) (x2 : Int32) (x3 : Int32) (σ : MS) (h : f_endsFound x1 x2 x3 σ = some q) : MV l D (cyT cy) (inAd ad) yX11_endsFound cX11_endsFound 4 none 8 202 0 0 [.ref (ad 0), .int x1, .int x2, .int x3] (wm cy ad σ) none (wm cy ad q.2) := by
  refine MV.of (by decide) (wm_inj hi cy σ) (Nat.le_of_ble_eq_true rfl) [(0, .ref (ad 0)), (1, .int x1), (2, .int x2), (3, .int x3)] rfl ?_
  intro p e s m args below meth c C
  rw [f_endsFound] at h
  refine v_iload_n C 2 dX11_endsFound_0 rfl rfl ?_
  refine v_iconst C (-1) dX11_endsFound_1 (by decide) ?_
  refine v_icmp_eq C 18 dX11_endsFound_2 (by decide) (fun c1 => ?_) (fun c1 => ?_)
  · rw [if_pos c1] at h
    exact v_sub [0, 1, 2, 3] rfl ((b_endsFound_18 C hi (b_endsFound_23 C hi)) _ _ _ _ h)
  · rw [if_neg c1] at h
    refine v_iload_n C 3 dX11_endsFound_5 rfl rfl ?_
    refine v_iconst C (-1) dX11_endsFound_6 (by decide) ?_
    refine v_icmp_eq C 18 dX11_endsFound_7 (by decide) (fun c2 => ?_) (fun c2 => ?_)
    · rw [if_pos c2] at h
      exact v_sub [0, 1, 2, 3] rfl ((b_endsFound_18 C hi (b_endsFound_23 C hi)) _ _ _ _ h)
    · rw [if_neg c2] at h
      refine v_aload_n C 0 dX11_endsFound_10 rfl rfl ?_
      refine v_iload_n C 2 dX11_endsFound_11 rfl rfl ?_
      obtain ⟨q1, hq1, h⟩ := bd_of h
      refine vm_call C [.int x2] [] (c_isNeeded hi _ _ hq1) hY_isNeeded ml_262 ⟨Nat.le_of_ble_eq_true rfl, Nat.le_of_ble_eq_true rfl⟩ ⟨Nat.zero_le _, Nat.zero_le _⟩ rfl rfl (Nat.le_of_ble_eq_true rfl) dX11_endsFound_12 (wm_inj hi cy _) ?_
      refine v_if_ne C 23 dX11_endsFound_15 (by decide) (fun c3 => ?_) (fun c3 => ?_)
      · rw [if_neg c3] at h
        exact v_sub [0, 1, 2, 3] rfl ((b_endsFound_23 C hi) _ _ _ _ h)
      · rw [if_pos c3] at h
        exact v_sub [0, 1, 2, 3] rfl ((b_endsFound_18 C hi (b_endsFound_23 C hi)) _ _ _ _ h)
set_option maxHeartbeats 4000000 in
set_option maxRecDepth 20000 in
theorem b_readsType_157 {p : Program} {l : Launch} {e : Env} {s : State} {m : MethodId} {args : Array Value} {below : List Frame} {meth : Method} {c : Code} {D : va_G} {cy : Nat → ClassId} {ad : Nat → Nat} {q : Int32 × MS} (C : vC p s m args meth c cX11_readsType 5 none RX11 D (cyT cy)) (hi : ∀ i j, i < 34 → j < 34 → ad i = ad j → i = j) : ∀ (x1 : Int32) (x2 : Int32) (σ : MS), B_readsType_157 x1 x2 σ = some q → V p l e { frames := 5, cells := 0, slots := 0, locals := 107 } s m args below meth c D (inAd ad) 5 (MQ below (vQ D (inAd ad) none (wm cy ad q.2)) args s 0 0 (inAd ad)) 0 0 (wm cy ad σ) 157 [(0, .ref (ad 0)), (1, .int x1), (2, .int x2)] [] := by
  intro x1 x2 σ h
  rw [B_readsType_157] at h
  refine v_aload_n C 0 dX11_readsType_157 rfl rfl ?_
  refine n_getI C fl_133 dX11_readsType_158 ?_
  refine v_istore C [(4, .int (σ.1 1)), (0, .ref (ad 0)), (1, .int x1), (2, .int x2)] dX11_readsType_161 (by decide) rfl ?_
  refine v_aload_n C 1 dX11_readsType_163 rfl rfl ?_
  refine v_iload_n C 2 dX11_readsType_164 rfl rfl ?_
  obtain ⟨q1, hq1, h⟩ := bd_of h
  refine vm_call C [.int x1] [] (c_puts hi _ _ hq1) hY_puts ml_136 ⟨Nat.le_of_ble_eq_true rfl, Nat.le_of_ble_eq_true rfl⟩ ⟨Nat.zero_le _, Nat.zero_le _⟩ rfl rfl (Nat.le_of_ble_eq_true rfl) dX11_readsType_165 (wm_inj hi cy _) ?_
  refine v_aload_n C 1 dX11_readsType_168 rfl rfl ?_
  refine v_iload_n C 3 dX11_readsType_169 rfl rfl ?_
  refine v_iload C 0 dX11_readsType_170 rfl ?_
  obtain ⟨q2, hq2, h⟩ := bd_of h
  refine vm_call C [.int x2, .int (σ.1 1)] [] (c_endsType hi _ _ _ hq2) hY_endsType ml_278 ⟨Nat.le_of_ble_eq_true rfl, Nat.le_of_ble_eq_true rfl⟩ ⟨Nat.zero_le _, Nat.zero_le _⟩ rfl rfl (Nat.le_of_ble_eq_true rfl) dX11_readsType_172 (wm_inj hi cy _) ?_
  obtain rfl := Option.some.inj h
  exact v_vret C dX11_readsType_175
set_option maxHeartbeats 4000000 in
set_option maxRecDepth 20000 in
theorem b_readsType_38 {p : Program} {l : Launch} {e : Env} {s : State} {m : MethodId} {args : Array Value} {below : List Frame} {meth : Method} {c : Code} {D : va_G} {cy : Nat → ClassId} {ad : Nat → Nat} {q : Int32 × MS} (C : vC p s m args meth c cX11_readsType 5 none RX11 D (cyT cy)) (hi : ∀ i j, i < 34 → j < 34 → ad i = ad j → i = j) : ∀ (x2 : Int32) (s0 : Int32) (σ : MS), B_readsType_38 x2 s0 σ = some q → V p l e { frames := 5, cells := 0, slots := 0, locals := 107 } s m args below meth c D (inAd ad) 5 (MQ below (vQ D (inAd ad) none (wm cy ad q.2)) args s 0 0 (inAd ad)) 0 0 (wm cy ad σ) 38 [(0, .ref (ad 0)), (2, .int x2)] [.int s0, .ref (ad 0)] := by
  intro x2 s0 σ h
  rw [B_readsType_38] at h
  refine v_iload_n C 1 dX11_readsType_38 rfl rfl ?_
  obtain ⟨q1, hq1, h⟩ := bd_of h
  refine vm_call C [.int s0, .int x2] [] (c_begins hi _ _ _ hq1) hY_begins ml_265 ⟨Nat.le_of_ble_eq_true rfl, Nat.le_of_ble_eq_true rfl⟩ ⟨Nat.zero_le _, Nat.zero_le _⟩ rfl rfl (Nat.le_of_ble_eq_true rfl) dX11_readsType_39 (wm_inj hi cy _) ?_
  refine v_aload_n C 0 dX11_readsType_42 rfl rfl ?_
  refine v_dup C dX11_readsType_43 rfl ?_
  refine n_getI C fl_213 dX11_readsType_44 ?_
  refine v_iconst C 1 dX11_readsType_47 (by decide) ?_
  refine v_iadd C dX11_readsType_48 ?_
  refine n_putI C fl_213 dX11_readsType_49 ?_
  obtain rfl := Option.some.inj h
  exact v_vret C dX11_readsType_52
set_option maxHeartbeats 4000000 in
set_option maxRecDepth 20000 in
theorem b_readsType_93 {p : Program} {l : Launch} {e : Env} {s : State} {m : MethodId} {args : Array Value} {below : List Frame} {meth : Method} {c : Code} {D : va_G} {cy : Nat → ClassId} {ad : Nat → Nat} {q : Int32 × MS} (C : vC p s m args meth c cX11_readsType 5 none RX11 D (cyT cy)) (hi : ∀ i j, i < 34 → j < 34 → ad i = ad j → i = j) : ∀ (x1 : Int32) (x2 : Int32) (x3 : Int32) (σ : MS), B_readsType_93 x1 x2 x3 σ = some q → V p l e { frames := 5, cells := 0, slots := 0, locals := 107 } s m args below meth c D (inAd ad) 5 (MQ below (vQ D (inAd ad) none (wm cy ad q.2)) args s 0 0 (inAd ad)) 0 0 (wm cy ad σ) 93 [(0, .ref (ad 0)), (1, .int x1), (2, .int x2), (3, .int x3)] [] := by
  intro x1 x2 x3 σ h
  rw [B_readsType_93] at h
  refine v_aload_n C 0 dX11_readsType_93 rfl rfl ?_
  refine v_dup C dX11_readsType_94 rfl ?_
  refine n_getI C fl_213 dX11_readsType_95 ?_
  refine v_iconst C 1 dX11_readsType_98 (by decide) ?_
  refine v_iadd C dX11_readsType_99 ?_
  refine n_putI C fl_213 dX11_readsType_100 ?_
  refine v_iload_n C 3 dX11_readsType_103 rfl rfl ?_
  refine v_if_eq C 157 dX11_readsType_104 (by decide) (fun c1 => ?_) (fun c1 => ?_)
  · rw [if_pos c1] at h
    exact v_sub [0, 1, 2] rfl ((b_readsType_157 C hi) _ _ _ h)
  · rw [if_neg c1] at h
    refine v_aload_n C 0 dX11_readsType_107 rfl rfl ?_
    refine n_getR C fl_16 dX11_readsType_108 ?_
    refine v_iload_n C 1 dX11_readsType_111 rfl rfl ?_
    refine v_bipush C 65 dX11_readsType_112 (by decide) ?_
    refine v_isub C dX11_readsType_114 ?_
    obtain ⟨g1, h⟩ := gd_of h
    refine vm_zald C 3 (by decide) (by decide) rfl (ix_in g1) dX11_readsType_115 ?_
    refine v_if_eq C 157 dX11_readsType_116 (by decide) (fun c2 => ?_) (fun c2 => ?_)
    · rw [if_pos c2] at h
      exact v_sub [0, 1, 2] rfl ((b_readsType_157 C hi) _ _ _ h)
    · rw [if_neg c2] at h
      refine v_aload_n C 0 dX11_readsType_119 rfl rfl ?_
      refine v_iconst C 0 dX11_readsType_120 (by decide) ?_
      refine v_iload_n C 2 dX11_readsType_121 rfl rfl ?_
      obtain ⟨q1, hq1, h⟩ := bd_of h
      refine vm_call C [.int 0, .int x2] [] (c_begins hi _ _ _ hq1) hY_begins ml_265 ⟨Nat.le_of_ble_eq_true rfl, Nat.le_of_ble_eq_true rfl⟩ ⟨Nat.zero_le _, Nat.zero_le _⟩ rfl rfl (Nat.le_of_ble_eq_true rfl) dX11_readsType_122 (wm_inj hi cy _) ?_
      refine v_aload_n C 0 dX11_readsType_125 rfl rfl ?_
      refine n_getR C fl_103 dX11_readsType_126 ?_
      refine v_aload_n C 0 dX11_readsType_129 rfl rfl ?_
      refine n_getI C fl_219 dX11_readsType_130 ?_
      refine v_iconst C 1 dX11_readsType_133 (by decide) ?_
      refine v_isub C dX11_readsType_134 ?_
      refine v_iload_n C 1 dX11_readsType_135 rfl rfl ?_
      obtain ⟨g2, h⟩ := gd_of h
      refine vm_iast C 30 iI_30 (ix_in g2) dX11_readsType_136 ?_
      refine v_aload_n C 0 dX11_readsType_137 rfl rfl ?_
      refine v_iconst C 3 dX11_readsType_138 (by decide) ?_
      refine v_aload_n C 0 dX11_readsType_139 rfl rfl ?_
      refine n_getI C fl_271 dX11_readsType_140 ?_
      refine v_bipush C 51 dX11_readsType_143 (by decide) ?_
      refine v_iload_n C 1 dX11_readsType_145 rfl rfl ?_
      refine v_bipush C 65 dX11_readsType_146 (by decide) ?_
      refine v_isub C dX11_readsType_148 ?_
      refine v_imul C dX11_readsType_149 ?_
      refine v_iadd C dX11_readsType_150 ?_
      refine v_iconst C 0 dX11_readsType_151 (by decide) ?_
      refine v_iconst C 0 dX11_readsType_152 (by decide) ?_
      obtain ⟨q2, hq2, h⟩ := bd_of h
      refine vm_call C [.int 3, .int (((setA q1.2 30 (((q1.2.1 44) - 1) : Int32).toNatClampNeg x1).1 7) + (51 * (x1 - 65))), .int 0, .int 0] [] (c_dueTerm hi _ _ _ _ _ hq2) hY_dueTerm ml_274 ⟨Nat.le_of_ble_eq_true rfl, Nat.le_of_ble_eq_true rfl⟩ ⟨Nat.zero_le _, Nat.zero_le _⟩ rfl rfl (Nat.le_of_ble_eq_true rfl) dX11_readsType_153 (wm_inj hi cy _) ?_
      obtain rfl := Option.some.inj h
      exact v_vret C dX11_readsType_156
set_option maxHeartbeats 4000000 in
set_option maxRecDepth 20000 in
theorem b_readsType_76 {p : Program} {l : Launch} {e : Env} {s : State} {m : MethodId} {args : Array Value} {below : List Frame} {meth : Method} {c : Code} {D : va_G} {cy : Nat → ClassId} {ad : Nat → Nat} {q : Int32 × MS} (C : vC p s m args meth c cX11_readsType 5 none RX11 D (cyT cy)) (hi : ∀ i j, i < 34 → j < 34 → ad i = ad j → i = j) : ∀ (x1 : Int32) (x2 : Int32) (s0 : Int32) (σ : MS), B_readsType_76 x1 x2 s0 σ = some q → V p l e { frames := 5, cells := 0, slots := 0, locals := 107 } s m args below meth c D (inAd ad) 5 (MQ below (vQ D (inAd ad) none (wm cy ad q.2)) args s 0 0 (inAd ad)) 0 0 (wm cy ad σ) 76 [(0, .ref (ad 0)), (1, .int x1), (2, .int x2)] [.int s0] := by
  intro x1 x2 s0 σ h
  rw [B_readsType_76] at h
  refine v_istore_n C [(3, .int s0), (0, .ref (ad 0)), (1, .int x1), (2, .int x2)] dX11_readsType_76 rfl (by decide) rfl ?_
  refine v_iload_n C 2 dX11_readsType_77 rfl rfl ?_
  refine v_bipush C 49 dX11_readsType_78 (by decide) ?_
  refine v_icmp_eq C 93 dX11_readsType_80 (by decide) (fun c1 => ?_) (fun c1 => ?_)
  · rw [if_pos c1] at h
    exact v_sub [1, 2, 3, 0] rfl ((b_readsType_93 C hi) _ _ _ _ h)
  · rw [if_neg c1] at h
    refine v_iload_n C 0 dX11_readsType_83 rfl rfl ?_
    refine v_if_ne C 93 dX11_readsType_84 (by decide) (fun c2 => ?_) (fun c2 => ?_)
    · rw [if_neg c2] at h
      exact v_sub [1, 2, 3, 0] rfl ((b_readsType_93 C hi) _ _ _ _ h)
    · rw [if_pos c2] at h
      refine v_aload_n C 1 dX11_readsType_87 rfl rfl ?_
      refine v_iload_n C 3 dX11_readsType_88 rfl rfl ?_
      obtain ⟨q1, hq1, h⟩ := bd_of h
      refine vm_call C [.int x2] [] (c_fails hi _ _ hq1) hY_fails ml_240 ⟨Nat.le_of_ble_eq_true rfl, Nat.le_of_ble_eq_true rfl⟩ ⟨Nat.zero_le _, Nat.zero_le _⟩ rfl rfl (Nat.le_of_ble_eq_true rfl) dX11_readsType_89 (wm_inj hi cy _) ?_
      obtain rfl := Option.some.inj h
      exact v_vret C dX11_readsType_92
set_option maxHeartbeats 4000000 in
set_option maxRecDepth 20000 in
theorem b_readsType_75 {p : Program} {l : Launch} {e : Env} {s : State} {m : MethodId} {args : Array Value} {below : List Frame} {meth : Method} {c : Code} {D : va_G} {cy : Nat → ClassId} {ad : Nat → Nat} {q : Int32 × MS} (C : vC p s m args meth c cX11_readsType 5 none RX11 D (cyT cy)) (hi : ∀ i j, i < 34 → j < 34 → ad i = ad j → i = j) {k76 : Int32 → Int32 → Int32 → MS → Option (Int32 × MS)} (hk76 : ∀ (x1 : Int32) (x2 : Int32) (s0 : Int32)  (σ : MS), k76 x1 x2 s0 σ = some q → V p l e { frames := 5, cells := 0, slots := 0, locals := 107 } s m args below meth c D (inAd ad) 5 (MQ below (vQ D (inAd ad) none (wm cy ad q.2)) args s 0 0 (inAd ad)) 0 0 (wm cy ad σ) 76 [(0, .ref (ad 0)), (1, .int x1), (2, .int x2)] [.int s0]) : ∀ (x1 : Int32) (x2 : Int32) (σ : MS), B_readsType_75 k76 x1 x2 σ = some q → V p l e { frames := 5, cells := 0, slots := 0, locals := 107 } s m args below meth c D (inAd ad) 5 (MQ below (vQ D (inAd ad) none (wm cy ad q.2)) args s 0 0 (inAd ad)) 0 0 (wm cy ad σ) 75 [(0, .ref (ad 0)), (1, .int x1), (2, .int x2)] [] := by
  intro x1 x2 σ h
  rw [B_readsType_75] at h
  refine v_iconst C 0 dX11_readsType_75 (by decide) ?_
  exact v_sub [0, 1, 2] rfl (hk76 _ _ _ _ h)
set_option maxHeartbeats 4000000 in
set_option maxRecDepth 20000 in
theorem b_readsType_53 {p : Program} {l : Launch} {e : Env} {s : State} {m : MethodId} {args : Array Value} {below : List Frame} {meth : Method} {c : Code} {D : va_G} {cy : Nat → ClassId} {ad : Nat → Nat} {q : Int32 × MS} (C : vC p s m args meth c cX11_readsType 5 none RX11 D (cyT cy)) (hi : ∀ i j, i < 34 → j < 34 → ad i = ad j → i = j) : ∀ (x1 : Int32) (x2 : Int32) (σ : MS), B_readsType_53 x1 x2 σ = some q → V p l e { frames := 5, cells := 0, slots := 0, locals := 107 } s m args below meth c D (inAd ad) 5 (MQ below (vQ D (inAd ad) none (wm cy ad q.2)) args s 0 0 (inAd ad)) 0 0 (wm cy ad σ) 53 [(0, .ref (ad 0)), (1, .int x1), (2, .int x2)] [] := by
  intro x1 x2 σ h
  rw [B_readsType_53] at h
  refine v_iload_n C 1 dX11_readsType_53 rfl rfl ?_
  obtain ⟨q1, hq1, h⟩ := bd_of h
  refine vm_callS C [.int x1] [] (c_isFamily hi _ _ hq1) hY_isFamily ml_119 ⟨Nat.le_of_ble_eq_true rfl, Nat.le_of_ble_eq_true rfl⟩ ⟨Nat.zero_le _, Nat.zero_le _⟩ rfl rfl (Nat.le_of_ble_eq_true rfl) dX11_readsType_54 (wm_inj hi cy _) ?_
  refine v_if_eq C 75 dX11_readsType_57 (by decide) (fun c1 => ?_) (fun c1 => ?_)
  · rw [if_pos c1] at h
    exact v_sub [0, 1, 2] rfl ((b_readsType_75 C hi (b_readsType_76 C hi)) _ _ _ h)
  · rw [if_neg c1] at h
    refine v_iload_n C 1 dX11_readsType_60 rfl rfl ?_
    refine v_bipush C 65 dX11_readsType_61 (by decide) ?_
    refine v_isub C dX11_readsType_63 ?_
    refine v_aload_n C 0 dX11_readsType_64 rfl rfl ?_
    refine n_getI C fl_268 dX11_readsType_65 ?_
    refine v_icmp_ge C 75 dX11_readsType_68 (by decide) (fun c2 => ?_) (fun c2 => ?_)
    · rw [if_pos c2] at h
      exact v_sub [0, 1, 2] rfl ((b_readsType_75 C hi (b_readsType_76 C hi)) _ _ _ h)
    · rw [if_neg c2] at h
      refine v_iconst C 1 dX11_readsType_71 (by decide) ?_
      refine v_goto C 76 dX11_readsType_72 (by decide) ?_
      exact v_sub [0, 1, 2] rfl ((b_readsType_76 C hi) _ _ _ _ h)
set_option maxHeartbeats 4000000 in
set_option maxRecDepth 20000 in
theorem b_readsType_17 {p : Program} {l : Launch} {e : Env} {s : State} {m : MethodId} {args : Array Value} {below : List Frame} {meth : Method} {c : Code} {D : va_G} {cy : Nat → ClassId} {ad : Nat → Nat} {q : Int32 × MS} (C : vC p s m args meth c cX11_readsType 5 none RX11 D (cyT cy)) (hi : ∀ i j, i < 34 → j < 34 → ad i = ad j → i = j) {k53 : Int32 → Int32 → MS → Option (Int32 × MS)} (hk53 : ∀ (x1 : Int32) (x2 : Int32)  (σ : MS), k53 x1 x2 σ = some q → V p l e { frames := 5, cells := 0, slots := 0, locals := 107 } s m args below meth c D (inAd ad) 5 (MQ below (vQ D (inAd ad) none (wm cy ad q.2)) args s 0 0 (inAd ad)) 0 0 (wm cy ad σ) 53 [(0, .ref (ad 0)), (1, .int x1), (2, .int x2)] []) : ∀ (x1 : Int32) (x2 : Int32) (σ : MS), B_readsType_17 k53 x1 x2 σ = some q → V p l e { frames := 5, cells := 0, slots := 0, locals := 107 } s m args below meth c D (inAd ad) 5 (MQ below (vQ D (inAd ad) none (wm cy ad q.2)) args s 0 0 (inAd ad)) 0 0 (wm cy ad σ) 17 [(0, .ref (ad 0)), (1, .int x1), (2, .int x2)] [] := by
  intro x1 x2 σ h
  rw [B_readsType_17] at h
  refine v_aload_n C 0 dX11_readsType_17 rfl rfl ?_
  refine n_getI C fl_222 dX11_readsType_18 ?_
  refine v_bipush C 10 dX11_readsType_21 (by decide) ?_
  refine v_icmp_ge C 53 dX11_readsType_23 (by decide) (fun c1 => ?_) (fun c1 => ?_)
  · rw [if_pos c1] at h
    exact v_sub [0, 1, 2] rfl (hk53 _ _ _ h)
  · rw [if_neg c1] at h
    refine v_aload_n C 0 dX11_readsType_26 rfl rfl ?_
    refine v_iload_n C 1 dX11_readsType_27 rfl rfl ?_
    refine v_bipush C 83 dX11_readsType_28 (by decide) ?_
    refine v_icmp_ne C 37 dX11_readsType_30 (by decide) (fun c2 => ?_) (fun c2 => ?_)
    · rw [if_neg c2] at h
      refine v_iconst C 3 dX11_readsType_37 (by decide) ?_
      exact v_sub [0, 2] rfl ((b_readsType_38 C hi) _ _ _ h)
    · rw [if_pos c2] at h
      refine v_iconst C 1 dX11_readsType_33 (by decide) ?_
      refine v_goto C 38 dX11_readsType_34 (by decide) ?_
      exact v_sub [0, 2] rfl ((b_readsType_38 C hi) _ _ _ h)
set_option maxHeartbeats 4000000 in
set_option maxRecDepth 20000 in
theorem c_readsType {l : Launch} {D : va_G} {cy : Nat → ClassId} {ad : Nat → Nat} {q : Int32 × MS} (hi : ∀ i j, i < 34 → j < 34 → ad i = ad j → i = j) (x1 : Int32) (σ : MS) (h : f_readsType x1 σ = some q) : MV l D (cyT cy) (inAd ad) yX11_readsType cX11_readsType 5 none 5 107 0 0 [.ref (ad 0), .int x1] (wm cy ad σ) none (wm cy ad q.2) := by
  refine MV.of (by decide) (wm_inj hi cy σ) (Nat.le_of_ble_eq_true rfl) [(0, .ref (ad 0)), (1, .int x1)] rfl ?_
  intro p e s m args below meth c C
  rw [f_readsType] at h
  refine v_aload_n C 0 dX11_readsType_0 rfl rfl ?_
  refine n_getI C fl_213 dX11_readsType_1 ?_
  refine v_istore_n C [(2, .int (σ.1 56)), (0, .ref (ad 0)), (1, .int x1)] dX11_readsType_4 rfl (by decide) rfl ?_
  refine v_iload_n C 2 dX11_readsType_5 rfl rfl ?_
  refine v_bipush C 83 dX11_readsType_6 (by decide) ?_
  refine v_icmp_eq C 17 dX11_readsType_8 (by decide) (fun c1 => ?_) (fun c1 => ?_)
  · rw [if_pos c1] at h
    exact v_sub [1, 2, 0] rfl ((b_readsType_17 C hi (b_readsType_53 C hi)) _ _ _ h)
  · rw [if_neg c1] at h
    refine v_iload_n C 2 dX11_readsType_11 rfl rfl ?_
    refine v_bipush C 80 dX11_readsType_12 (by decide) ?_
    refine v_icmp_ne C 53 dX11_readsType_14 (by decide) (fun c2 => ?_) (fun c2 => ?_)
    · rw [if_neg c2] at h
      exact v_sub [1, 2, 0] rfl ((b_readsType_53 C hi) _ _ _ h)
    · rw [if_pos c2] at h
      exact v_sub [1, 2, 0] rfl ((b_readsType_17 C hi (b_readsType_53 C hi)) _ _ _ h)
set_option maxHeartbeats 4000000 in
set_option maxRecDepth 20000 in
theorem b_typeNow_20 {p : Program} {l : Launch} {e : Env} {s : State} {m : MethodId} {args : Array Value} {below : List Frame} {meth : Method} {c : Code} {D : va_G} {cy : Nat → ClassId} {ad : Nat → Nat} {q : Int32 × MS} (C : vC p s m args meth c cX11_typeNow 3 (some .int) RX11 D (cyT cy)) (hi : ∀ i j, i < 34 → j < 34 → ad i = ad j → i = j) : ∀ (s0 : Int32) (σ : MS), B_typeNow_20 s0 σ = some q → V p l e { frames := 7, cells := 0, slots := 0, locals := 180 } s m args below meth c D (inAd ad) 3 (MQ below (vQ D (inAd ad) (some (.int q.1)) (wm cy ad q.2)) args s 0 0 (inAd ad)) 0 0 (wm cy ad σ) 20 [(0, .ref (ad 0))] [.int s0] := by
  intro s0 σ h
  rw [B_typeNow_20] at h
  obtain rfl := Option.some.inj h
  exact v_iret C dX11_typeNow_20
set_option maxHeartbeats 4000000 in
set_option maxRecDepth 20000 in
theorem c_typeNow {l : Launch} {D : va_G} {cy : Nat → ClassId} {ad : Nat → Nat} {q : Int32 × MS} (hi : ∀ i j, i < 34 → j < 34 → ad i = ad j → i = j) (x1 : Int32) (x2 : Int32) (σ : MS) (h : f_typeNow x1 x2 σ = some q) : MV l D (cyT cy) (inAd ad) yX11_typeNow cX11_typeNow 3 (some .int) 7 180 0 0 [.ref (ad 0), .int x1, .int x2] (wm cy ad σ) (some (.int q.1)) (wm cy ad q.2) := by
  refine MV.of (by decide) (wm_inj hi cy σ) (Nat.le_of_ble_eq_true rfl) [(0, .ref (ad 0)), (1, .int x1), (2, .int x2)] rfl ?_
  intro p e s m args below meth c C
  rw [f_typeNow] at h
  refine v_iload_n C 1 dX11_typeNow_0 rfl rfl ?_
  refine v_iconst C (-1) dX11_typeNow_1 (by decide) ?_
  refine v_icmp_ne C 9 dX11_typeNow_2 (by decide) (fun c1 => ?_) (fun c1 => ?_)
  · rw [if_neg c1] at h
    refine v_aload_n C 0 dX11_typeNow_9 rfl rfl ?_
    refine v_iload_n C 1 dX11_typeNow_10 rfl rfl ?_
    refine v_iload_n C 2 dX11_typeNow_11 rfl rfl ?_
    refine v_iconst C 0 dX11_typeNow_12 (by decide) ?_
    refine v_aload_n C 0 dX11_typeNow_13 rfl rfl ?_
    refine n_getI C fl_222 dX11_typeNow_14 ?_
    obtain ⟨q1, hq1, h⟩ := bd_of h
    refine vm_call C [.int x1, .int x2, .int 0, .int (σ.1 46)] [] (c_typeBy hi _ _ _ _ _ hq1) hY_typeBy ml_255 ⟨Nat.le_of_ble_eq_true rfl, Nat.le_of_ble_eq_true rfl⟩ ⟨Nat.zero_le _, Nat.zero_le _⟩ rfl rfl (Nat.le_of_ble_eq_true rfl) dX11_typeNow_17 (wm_inj hi cy _) ?_
    exact v_sub [0] rfl ((b_typeNow_20 C hi) _ _ h)
  · rw [if_pos c1] at h
    refine v_iconst C (-1) dX11_typeNow_5 (by decide) ?_
    refine v_goto C 20 dX11_typeNow_6 (by decide) ?_
    exact v_sub [0] rfl ((b_typeNow_20 C hi) _ _ h)
set_option maxHeartbeats 4000000 in
set_option maxRecDepth 20000 in
theorem b_readsSimple_30 {p : Program} {l : Launch} {e : Env} {s : State} {m : MethodId} {args : Array Value} {below : List Frame} {meth : Method} {c : Code} {D : va_G} {cy : Nat → ClassId} {ad : Nat → Nat} {q : Int32 × MS} (C : vC p s m args meth c cX11_readsSimple 7 none RX11 D (cyT cy)) (hi : ∀ i j, i < 34 → j < 34 → ad i = ad j → i = j) : ∀ (x1 : Int32) (x5 : Int32) (s0 : Int32) (σ : MS), B_readsSimple_30 x1 x5 s0 σ = some q → V p l e { frames := 9, cells := 0, slots := 0, locals := 225 } s m args below meth c D (inAd ad) 7 (MQ below (vQ D (inAd ad) none (wm cy ad q.2)) args s 0 0 (inAd ad)) 0 0 (wm cy ad σ) 30 [(0, .ref (ad 0)), (1, .int x1), (5, .int x5)] [.int s0] := by
  intro x1 x5 s0 σ h
  rw [B_readsSimple_30] at h
  refine v_istore C [(6, .int s0), (0, .ref (ad 0)), (1, .int x1), (5, .int x5)] dX11_readsSimple_30 (by decide) rfl ?_
  refine v_aload_n C 1 dX11_readsSimple_32 rfl rfl ?_
  refine v_iload_n C 2 dX11_readsSimple_33 rfl rfl ?_
  refine v_iload C 3 dX11_readsSimple_34 rfl ?_
  refine v_iload C 0 dX11_readsSimple_36 rfl ?_
  obtain ⟨q1, hq1, h⟩ := bd_of h
  refine vm_call C [.int x1, .int x5, .int s0] [] (c_endsFound hi _ _ _ _ hq1) hY_endsFound ml_287 ⟨Nat.le_of_ble_eq_true rfl, Nat.le_of_ble_eq_true rfl⟩ ⟨Nat.zero_le _, Nat.zero_le _⟩ rfl rfl (Nat.le_of_ble_eq_true rfl) dX11_readsSimple_38 (wm_inj hi cy _) ?_
  obtain rfl := Option.some.inj h
  exact v_vret C dX11_readsSimple_41
set_option maxHeartbeats 4000000 in
set_option maxRecDepth 20000 in
theorem c_readsSimple {l : Launch} {D : va_G} {cy : Nat → ClassId} {ad : Nat → Nat} {q : Int32 × MS} (hi : ∀ i j, i < 34 → j < 34 → ad i = ad j → i = j) (x1 : Int32) (x2 : Int32) (x3 : Int32) (x4 : Int32) (σ : MS) (h : f_readsSimple x1 x2 x3 x4 σ = some q) : MV l D (cyT cy) (inAd ad) yX11_readsSimple cX11_readsSimple 7 none 9 225 0 0 [.ref (ad 0), .int x1, .int x2, .int x3, .int x4] (wm cy ad σ) none (wm cy ad q.2) := by
  refine MV.of (by decide) (wm_inj hi cy σ) (Nat.le_of_ble_eq_true rfl) [(0, .ref (ad 0)), (1, .int x1), (2, .int x2), (3, .int x3), (4, .int x4)] rfl ?_
  intro p e s m args below meth c C
  rw [f_readsSimple] at h
  refine v_aload_n C 0 dX11_readsSimple_0 rfl rfl ?_
  refine v_iload_n C 3 dX11_readsSimple_1 rfl rfl ?_
  refine v_iload C 4 dX11_readsSimple_2 rfl ?_
  obtain ⟨q1, hq1, h⟩ := bd_of h
  refine vm_call C [.int x3, .int x4] [] (c_typeNow hi _ _ _ hq1) hY_typeNow ml_281 ⟨Nat.le_of_ble_eq_true rfl, Nat.le_of_ble_eq_true rfl⟩ ⟨Nat.zero_le _, Nat.zero_le _⟩ rfl rfl (Nat.le_of_ble_eq_true rfl) dX11_readsSimple_4 (wm_inj hi cy _) ?_
  refine v_istore C [(5, .int q1.1), (0, .ref (ad 0)), (1, .int x1), (2, .int x2), (3, .int x3), (4, .int x4)] dX11_readsSimple_7 (by decide) rfl ?_
  refine v_iload C 0 dX11_readsSimple_9 rfl ?_
  refine v_iconst C (-1) dX11_readsSimple_11 (by decide) ?_
  refine v_icmp_ne C 19 dX11_readsSimple_12 (by decide) (fun c1 => ?_) (fun c1 => ?_)
  · rw [if_neg c1] at h
    refine v_aload_n C 1 dX11_readsSimple_19 rfl rfl ?_
    refine v_iload_n C 3 dX11_readsSimple_20 rfl rfl ?_
    refine v_iload C 0 dX11_readsSimple_21 rfl ?_
    refine v_aload_n C 1 dX11_readsSimple_23 rfl rfl ?_
    refine n_getI C fl_222 dX11_readsSimple_24 ?_
    obtain ⟨q2, hq2, h⟩ := bd_of h
    refine vm_call C [.int x2, .int q1.1, .int (q1.2.1 46)] [] (c_longBy hi _ _ _ _ hq2) hY_longBy ml_284 ⟨Nat.le_of_ble_eq_true rfl, Nat.le_of_ble_eq_true rfl⟩ ⟨Nat.zero_le _, Nat.zero_le _⟩ rfl rfl (Nat.le_of_ble_eq_true rfl) dX11_readsSimple_27 (wm_inj hi cy _) ?_
    exact v_sub [1, 2, 0] rfl ((b_readsSimple_30 C hi) _ _ _ _ h)
  · rw [if_pos c1] at h
    refine v_iconst C (-1) dX11_readsSimple_15 (by decide) ?_
    refine v_goto C 30 dX11_readsSimple_16 (by decide) ?_
    exact v_sub [1, 2, 0] rfl ((b_readsSimple_30 C hi) _ _ _ _ h)
set_option maxHeartbeats 4000000 in
set_option maxRecDepth 20000 in
theorem c_readsEntry {l : Launch} {D : va_G} {cy : Nat → ClassId} {ad : Nat → Nat} {q : Int32 × MS} (hi : ∀ i j, i < 34 → j < 34 → ad i = ad j → i = j) (σ : MS) (h : f_readsEntry σ = some q) : MV l D (cyT cy) (inAd ad) yX11_readsEntry cX11_readsEntry 8 none 9 225 0 0 [.ref (ad 0)] (wm cy ad σ) none (wm cy ad q.2) := by
  refine MV.of (by decide) (wm_inj hi cy σ) (Nat.le_of_ble_eq_true rfl) [(0, .ref (ad 0))] rfl ?_
  intro p e s m args below meth c C
  rw [f_readsEntry] at h
  refine v_aload_n C 0 dX11_readsEntry_0 rfl rfl ?_
  refine n_getI C fl_213 dX11_readsEntry_1 ?_
  refine v_istore_n C [(1, .int (σ.1 56)), (0, .ref (ad 0))] dX11_readsEntry_4 rfl (by decide) rfl ?_
  refine v_aload_n C 1 dX11_readsEntry_5 rfl rfl ?_
  refine v_dup C dX11_readsEntry_6 rfl ?_
  refine n_getI C fl_213 dX11_readsEntry_7 ?_
  refine v_iconst C 1 dX11_readsEntry_10 (by decide) ?_
  refine v_iadd C dX11_readsEntry_11 ?_
  refine n_putI C fl_213 dX11_readsEntry_12 ?_
  refine v_aload_n C 1 dX11_readsEntry_15 rfl rfl ?_
  obtain ⟨q1, hq1, h⟩ := bd_of h
  refine vm_call C [] [] (c_here hi _ hq1) hY_here ml_290 ⟨Nat.le_of_ble_eq_true rfl, Nat.le_of_ble_eq_true rfl⟩ ⟨Nat.zero_le _, Nat.zero_le _⟩ rfl rfl (Nat.le_of_ble_eq_true rfl) dX11_readsEntry_16 (wm_inj hi cy _) ?_
  refine v_bipush C 48 dX11_readsEntry_19 (by decide) ?_
  refine v_isub C dX11_readsEntry_21 ?_
  refine v_istore_n C [(2, .int (q1.1 - 48)), (1, .int (σ.1 56)), (0, .ref (ad 0))] dX11_readsEntry_22 rfl (by decide) rfl ?_
  refine v_iload_n C 0 dX11_readsEntry_23 rfl rfl ?_
  refine v_iconst C 0 dX11_readsEntry_24 (by decide) ?_
  refine v_aload_n C 2 dX11_readsEntry_25 rfl rfl ?_
  refine n_getI C fl_294 dX11_readsEntry_26 ?_
  refine v_iconst C 1 dX11_readsEntry_29 (by decide) ?_
  refine v_isub C dX11_readsEntry_30 ?_
  obtain ⟨q2, hq2, h⟩ := bd_of h
  refine vm_callS C [.int (q1.1 - 48), .int 0, .int ((q1.2.1 9) - 1)] [] (c_in hi _ _ _ _ hq2) hY_in ml_297 ⟨Nat.le_of_ble_eq_true rfl, Nat.le_of_ble_eq_true rfl⟩ ⟨Nat.zero_le _, Nat.zero_le _⟩ rfl rfl (Nat.le_of_ble_eq_true rfl) dX11_readsEntry_31 (wm_inj hi cy _) ?_
  refine v_if_ne C 46 dX11_readsEntry_34 (by decide) (fun c1 => ?_) (fun c1 => ?_)
  · rw [if_neg c1] at h
    refine v_aload_n C 2 dX11_readsEntry_46 rfl rfl ?_
    refine v_dup C dX11_readsEntry_47 rfl ?_
    refine n_getI C fl_213 dX11_readsEntry_48 ?_
    refine v_iconst C 1 dX11_readsEntry_51 (by decide) ?_
    refine v_iadd C dX11_readsEntry_52 ?_
    refine n_putI C fl_213 dX11_readsEntry_53 ?_
    refine v_aload_n C 2 dX11_readsEntry_56 rfl rfl ?_
    refine v_sipush C 357 dX11_readsEntry_57 (by decide) ?_
    refine v_bipush C 102 dX11_readsEntry_60 (by decide) ?_
    refine v_iload_n C 0 dX11_readsEntry_62 rfl rfl ?_
    refine v_imul C dX11_readsEntry_63 ?_
    refine v_iadd C dX11_readsEntry_64 ?_
    refine v_iconst C 0 dX11_readsEntry_65 (by decide) ?_
    obtain ⟨q3, hq3, h⟩ := bd_of h
    refine vm_call C [.int (357 + (102 * (q1.1 - 48))), .int 0] [] (c_typeNow hi _ _ _ hq3) hY_typeNow ml_281 ⟨Nat.le_of_ble_eq_true rfl, Nat.le_of_ble_eq_true rfl⟩ ⟨Nat.zero_le _, Nat.zero_le _⟩ rfl rfl (Nat.le_of_ble_eq_true rfl) dX11_readsEntry_66 (wm_inj hi cy _) ?_
    refine v_istore_n C [(3, .int q3.1), (2, .int (q1.1 - 48)), (1, .int (σ.1 56)), (0, .ref (ad 0))] dX11_readsEntry_69 rfl (by decide) rfl ?_
    refine v_aload_n C 3 dX11_readsEntry_70 rfl rfl ?_
    refine n_getI C fl_140 dX11_readsEntry_71 ?_
    refine v_istore C [(4, .int (q3.2.1 19)), (3, .int q3.1), (2, .int (q1.1 - 48)), (1, .int (σ.1 56)), (0, .ref (ad 0))] dX11_readsEntry_74 (by decide) rfl ?_
    refine v_aload_n C 4 dX11_readsEntry_76 rfl rfl ?_
    refine n_getI C fl_45 dX11_readsEntry_77 ?_
    refine v_istore C [(5, .int (q3.2.1 21)), (4, .int (q3.2.1 19)), (3, .int q3.1), (2, .int (q1.1 - 48)), (1, .int (σ.1 56)), (0, .ref (ad 0))] dX11_readsEntry_80 (by decide) rfl ?_
    refine v_aload_n C 5 dX11_readsEntry_82 rfl rfl ?_
    refine v_sipush C 357 dX11_readsEntry_83 (by decide) ?_
    refine v_bipush C 102 dX11_readsEntry_86 (by decide) ?_
    refine v_iload_n C 3 dX11_readsEntry_88 rfl rfl ?_
    refine v_imul C dX11_readsEntry_89 ?_
    refine v_iadd C dX11_readsEntry_90 ?_
    refine v_bipush C 51 dX11_readsEntry_91 (by decide) ?_
    refine v_iadd C dX11_readsEntry_93 ?_
    refine v_iconst C 0 dX11_readsEntry_94 (by decide) ?_
    refine v_iconst C 0 dX11_readsEntry_95 (by decide) ?_
    obtain ⟨q4, hq4, h⟩ := bd_of h
    refine vm_call C [.int ((357 + (102 * (q1.1 - 48))) + 51), .int 0, .int 0] [] (c_worksData hi _ _ _ _ hq4) hY_worksData ml_180 ⟨Nat.le_of_ble_eq_true rfl, Nat.le_of_ble_eq_true rfl⟩ ⟨Nat.zero_le _, Nat.zero_le _⟩ rfl rfl (Nat.le_of_ble_eq_true rfl) dX11_readsEntry_96 (wm_inj hi cy _) ?_
    refine v_istore C [(6, .int q4.1), (5, .int (q3.2.1 21)), (4, .int (q3.2.1 19)), (3, .int q3.1), (2, .int (q1.1 - 48)), (1, .int (σ.1 56)), (0, .ref (ad 0))] dX11_readsEntry_99 (by decide) rfl ?_
    refine v_aload_n C 6 dX11_readsEntry_101 rfl rfl ?_
    refine v_iload C 0 dX11_readsEntry_102 rfl ?_
    refine v_aload_n C 6 dX11_readsEntry_104 rfl rfl ?_
    refine n_getI C fl_222 dX11_readsEntry_105 ?_
    refine v_iload C 2 dX11_readsEntry_108 rfl ?_
    refine v_iload C 1 dX11_readsEntry_110 rfl ?_
    obtain ⟨q5, hq5, h⟩ := bd_of h
    refine vm_call C [.int q4.1, .int (q4.2.1 46), .int (q3.2.1 19), .int (q3.2.1 21)] [] (c_toldValue hi _ _ _ _ _ hq5) hY_toldValue ml_301 ⟨Nat.le_of_ble_eq_true rfl, Nat.le_of_ble_eq_true rfl⟩ ⟨Nat.zero_le _, Nat.zero_le _⟩ rfl rfl (Nat.le_of_ble_eq_true rfl) dX11_readsEntry_112 (wm_inj hi cy _) ?_
    refine v_istore C [(7, .int q5.1), (6, .int q4.1), (5, .int (q3.2.1 21)), (4, .int (q3.2.1 19)), (3, .int q3.1), (2, .int (q1.1 - 48)), (1, .int (σ.1 56)), (0, .ref (ad 0))] dX11_readsEntry_115 (by decide) rfl ?_
    refine v_aload_n C 7 dX11_readsEntry_117 rfl rfl ?_
    refine v_iload_n C 6 dX11_readsEntry_118 rfl rfl ?_
    refine v_iload_n C 4 dX11_readsEntry_119 rfl rfl ?_
    refine v_iload C 0 dX11_readsEntry_120 rfl ?_
    obtain ⟨q6, hq6, h⟩ := bd_of h
    refine vm_call C [.int (σ.1 56), .int q3.1, .int q5.1] [] (c_endsFound hi _ _ _ _ hq6) hY_endsFound ml_287 ⟨Nat.le_of_ble_eq_true rfl, Nat.le_of_ble_eq_true rfl⟩ ⟨Nat.zero_le _, Nat.zero_le _⟩ rfl rfl (Nat.le_of_ble_eq_true rfl) dX11_readsEntry_122 (wm_inj hi cy _) ?_
    obtain rfl := Option.some.inj h
    exact v_vret C dX11_readsEntry_125
  · rw [if_pos c1] at h
    refine v_aload_n C 2 dX11_readsEntry_37 rfl rfl ?_
    refine v_aload_n C 2 dX11_readsEntry_38 rfl rfl ?_
    refine n_getI C fl_213 dX11_readsEntry_39 ?_
    obtain ⟨q7, hq7, h⟩ := bd_of h
    refine vm_call C [.int (q2.2.1 56)] [] (c_fails hi _ _ hq7) hY_fails ml_240 ⟨Nat.le_of_ble_eq_true rfl, Nat.le_of_ble_eq_true rfl⟩ ⟨Nat.zero_le _, Nat.zero_le _⟩ rfl rfl (Nat.le_of_ble_eq_true rfl) dX11_readsEntry_42 (wm_inj hi cy _) ?_
    obtain rfl := Option.some.inj h
    exact v_vret C dX11_readsEntry_45
