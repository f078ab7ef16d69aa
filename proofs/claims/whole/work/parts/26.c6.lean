theorem dX10_law_0 : decode cX10_law 0 = .ok (.iload_n 1, 1) := by decide +kernel
theorem dX10_law_1 : decode cX10_law 1 = .ok (.ifCond .lt 16, 3) := by decide +kernel
theorem dX10_law_4 : decode cX10_law 4 = .ok (.iload_n 1, 1) := by decide +kernel
theorem dX10_law_5 : decode cX10_law 5 = .ok (.iconst 1, 1) := by decide +kernel
theorem dX10_law_6 : decode cX10_law 6 = .ok (.if_icmp .gt 11, 3) := by decide +kernel
theorem dX10_law_9 : decode cX10_law 9 = .ok (.iload_n 2, 1) := by decide +kernel
theorem dX10_law_10 : decode cX10_law 10 = .ok (.ifCond .lt 7, 3) := by decide +kernel
theorem dX10_law_13 : decode cX10_law 13 = .ok (.iload_n 3, 1) := by decide +kernel
theorem dX10_law_14 : decode cX10_law 14 = .ok (.ifCond .ge 5, 3) := by decide +kernel
theorem dX10_law_17 : decode cX10_law 17 = .ok (.iconst (-1), 1) := by decide +kernel
theorem dX10_law_18 : decode cX10_law 18 = .ok (.ireturn, 1) := by decide +kernel
theorem dX10_law_19 : decode cX10_law 19 = .ok (.iload_n 2, 1) := by decide +kernel
theorem dX10_law_20 : decode cX10_law 20 = .ok (.iload_n 1, 1) := by decide +kernel
theorem dX10_law_21 : decode cX10_law 21 = .ok (.ifCond .ne 13, 3) := by decide +kernel
theorem dX10_law_24 : decode cX10_law 24 = .ok (.aload_n 0, 1) := by decide +kernel
theorem dX10_law_25 : decode cX10_law 25 = .ok (.getfield 16, 3) := by decide +kernel
theorem dX10_law_28 : decode cX10_law 28 = .ok (.getfield 102, 3) := by decide +kernel
theorem dX10_law_31 : decode cX10_law 31 = .ok (.goto 10, 3) := by decide +kernel
theorem dX10_law_34 : decode cX10_law 34 = .ok (.aload_n 0, 1) := by decide +kernel
theorem dX10_law_35 : decode cX10_law 35 = .ok (.getfield 16, 3) := by decide +kernel
theorem dX10_law_38 : decode cX10_law 38 = .ok (.getfield 105, 3) := by decide +kernel
theorem dX10_law_41 : decode cX10_law 41 = .ok (.if_icmp .lt 5, 3) := by decide +kernel
theorem dX10_law_44 : decode cX10_law 44 = .ok (.iconst (-1), 1) := by decide +kernel
theorem dX10_law_45 : decode cX10_law 45 = .ok (.ireturn, 1) := by decide +kernel
theorem dX10_law_46 : decode cX10_law 46 = .ok (.iload_n 1, 1) := by decide +kernel
theorem dX10_law_47 : decode cX10_law 47 = .ok (.ifCond .ne 14, 3) := by decide +kernel
theorem dX10_law_50 : decode cX10_law 50 = .ok (.aload_n 0, 1) := by decide +kernel
theorem dX10_law_51 : decode cX10_law 51 = .ok (.getfield 16, 3) := by decide +kernel
theorem dX10_law_54 : decode cX10_law 54 = .ok (.iload_n 2, 1) := by decide +kernel
theorem dX10_law_55 : decode cX10_law 55 = .ok (.invokevirtual 108, 3) := by decide +kernel
theorem dX10_law_58 : decode cX10_law 58 = .ok (.goto 11, 3) := by decide +kernel
theorem dX10_law_61 : decode cX10_law 61 = .ok (.aload_n 0, 1) := by decide +kernel
theorem dX10_law_62 : decode cX10_law 62 = .ok (.getfield 16, 3) := by decide +kernel
theorem dX10_law_65 : decode cX10_law 65 = .ok (.iload_n 2, 1) := by decide +kernel
theorem dX10_law_66 : decode cX10_law 66 = .ok (.invokevirtual 112, 3) := by decide +kernel
theorem dX10_law_69 : decode cX10_law 69 = .ok (.astore 4, 2) := by decide +kernel
theorem dX10_law_71 : decode cX10_law 71 = .ok (.aload 4, 2) := by decide +kernel
theorem dX10_law_73 : decode cX10_law 73 = .ok (.ifnonnull 8, 3) := by decide +kernel
theorem dX10_law_76 : decode cX10_law 76 = .ok (.bipush (-9), 2) := by decide +kernel
theorem dX10_law_78 : decode cX10_law 78 = .ok (.goto 9, 3) := by decide +kernel
theorem dX10_law_81 : decode cX10_law 81 = .ok (.aload 4, 2) := by decide +kernel
theorem dX10_law_83 : decode cX10_law 83 = .ok (.iload_n 3, 1) := by decide +kernel
theorem dX10_law_84 : decode cX10_law 84 = .ok (.invokevirtual 115, 3) := by decide +kernel
theorem dX10_law_87 : decode cX10_law 87 = .ok (.ireturn, 1) := by decide +kernel
theorem dX10_given_0 : decode cX10_given 0 = .ok (.iload_n 1, 1) := by decide +kernel
theorem dX10_given_1 : decode cX10_given 1 = .ok (.iconst (-1), 1) := by decide +kernel
theorem dX10_given_2 : decode cX10_given 2 = .ok (.if_icmp .ge 5, 3) := by decide +kernel
theorem dX10_given_5 : decode cX10_given 5 = .ok (.iconst (-1), 1) := by decide +kernel
theorem dX10_given_6 : decode cX10_given 6 = .ok (.ireturn, 1) := by decide +kernel
theorem dX10_given_7 : decode cX10_given 7 = .ok (.aload_n 0, 1) := by decide +kernel
theorem dX10_given_8 : decode cX10_given 8 = .ok (.getfield 67, 3) := by decide +kernel
theorem dX10_given_11 : decode cX10_given 11 = .ok (.aload_n 0, 1) := by decide +kernel
theorem dX10_given_12 : decode cX10_given 12 = .ok (.getfield 9, 3) := by decide +kernel
theorem dX10_given_15 : decode cX10_given 15 = .ok (.aload_n 0, 1) := by decide +kernel
theorem dX10_given_16 : decode cX10_given 16 = .ok (.getfield 71, 3) := by decide +kernel
theorem dX10_given_19 : decode cX10_given 19 = .ok (.aload_n 0, 1) := by decide +kernel
theorem dX10_given_20 : decode cX10_given 20 = .ok (.getfield 16, 3) := by decide +kernel
theorem dX10_given_23 : decode cX10_given 23 = .ok (.aload_n 0, 1) := by decide +kernel
theorem dX10_given_24 : decode cX10_given 24 = .ok (.getfield 23, 3) := by decide +kernel
theorem dX10_given_27 : decode cX10_given 27 = .ok (.invokevirtual 75, 3) := by decide +kernel
theorem dX10_given_30 : decode cX10_given 30 = .ok (.aload_n 0, 1) := by decide +kernel
theorem dX10_given_31 : decode cX10_given 31 = .ok (.getfield 67, 3) := by decide +kernel
theorem dX10_given_34 : decode cX10_given 34 = .ok (.invokevirtual 121, 3) := by decide +kernel
theorem dX10_given_37 : decode cX10_given 37 = .ok (.ifCond .ne 14, 3) := by decide +kernel
theorem dX10_given_40 : decode cX10_given 40 = .ok (.bipush (-10), 2) := by decide +kernel
theorem dX10_given_42 : decode cX10_given 42 = .ok (.aload_n 0, 1) := by decide +kernel
theorem dX10_given_43 : decode cX10_given 43 = .ok (.getfield 67, 3) := by decide +kernel
theorem dX10_given_46 : decode cX10_given 46 = .ok (.getfield 86, 3) := by decide +kernel
theorem dX10_given_49 : decode cX10_given 49 = .ok (.isub, 1) := by decide +kernel
theorem dX10_given_50 : decode cX10_given 50 = .ok (.ireturn, 1) := by decide +kernel
theorem dX10_given_51 : decode cX10_given 51 = .ok (.aload_n 0, 1) := by decide +kernel
theorem dX10_given_52 : decode cX10_given 52 = .ok (.getfield 67, 3) := by decide +kernel
theorem dX10_given_55 : decode cX10_given 55 = .ok (.getfield 89, 3) := by decide +kernel
theorem dX10_given_58 : decode cX10_given 58 = .ok (.aload_n 0, 1) := by decide +kernel
theorem dX10_given_59 : decode cX10_given 59 = .ok (.getfield 67, 3) := by decide +kernel
theorem dX10_given_62 : decode cX10_given 62 = .ok (.getfield 124, 3) := by decide +kernel
theorem dX10_given_65 : decode cX10_given 65 = .ok (.iload_n 1, 1) := by decide +kernel
theorem dX10_given_66 : decode cX10_given 66 = .ok (.invokevirtual 127, 3) := by decide +kernel
theorem dX10_given_69 : decode cX10_given 69 = .ok (.ireturn, 1) := by decide +kernel
theorem dX10_found_0 : decode cX10_found 0 = .ok (.iload_n 1, 1) := by decide +kernel
theorem dX10_found_1 : decode cX10_found 1 = .ok (.iconst (-1), 1) := by decide +kernel
theorem dX10_found_2 : decode cX10_found 2 = .ok (.if_icmp .ge 5, 3) := by decide +kernel
theorem dX10_found_5 : decode cX10_found 5 = .ok (.iconst (-1), 1) := by decide +kernel
theorem dX10_found_6 : decode cX10_found 6 = .ok (.ireturn, 1) := by decide +kernel
theorem dX10_found_7 : decode cX10_found 7 = .ok (.aload_n 0, 1) := by decide +kernel
theorem dX10_found_8 : decode cX10_found 8 = .ok (.getfield 67, 3) := by decide +kernel
theorem dX10_found_11 : decode cX10_found 11 = .ok (.aload_n 0, 1) := by decide +kernel
theorem dX10_found_12 : decode cX10_found 12 = .ok (.getfield 9, 3) := by decide +kernel
theorem dX10_found_15 : decode cX10_found 15 = .ok (.aload_n 0, 1) := by decide +kernel
theorem dX10_found_16 : decode cX10_found 16 = .ok (.getfield 71, 3) := by decide +kernel
theorem dX10_found_19 : decode cX10_found 19 = .ok (.aload_n 0, 1) := by decide +kernel
theorem dX10_found_20 : decode cX10_found 20 = .ok (.getfield 16, 3) := by decide +kernel
theorem dX10_found_23 : decode cX10_found 23 = .ok (.aload_n 0, 1) := by decide +kernel
theorem dX10_found_24 : decode cX10_found 24 = .ok (.getfield 23, 3) := by decide +kernel
theorem dX10_found_27 : decode cX10_found 27 = .ok (.invokevirtual 75, 3) := by decide +kernel
theorem dX10_found_30 : decode cX10_found 30 = .ok (.aload_n 0, 1) := by decide +kernel
theorem dX10_found_31 : decode cX10_found 31 = .ok (.getfield 67, 3) := by decide +kernel
theorem dX10_found_34 : decode cX10_found 34 = .ok (.invokevirtual 131, 3) := by decide +kernel
theorem dX10_found_37 : decode cX10_found 37 = .ok (.ifCond .ne 14, 3) := by decide +kernel
theorem dX10_found_40 : decode cX10_found 40 = .ok (.bipush (-10), 2) := by decide +kernel
theorem dX10_found_42 : decode cX10_found 42 = .ok (.aload_n 0, 1) := by decide +kernel
theorem dX10_found_43 : decode cX10_found 43 = .ok (.getfield 67, 3) := by decide +kernel
theorem dX10_found_46 : decode cX10_found 46 = .ok (.getfield 86, 3) := by decide +kernel
theorem dX10_found_49 : decode cX10_found 49 = .ok (.isub, 1) := by decide +kernel
theorem dX10_found_50 : decode cX10_found 50 = .ok (.ireturn, 1) := by decide +kernel
theorem dX10_found_51 : decode cX10_found 51 = .ok (.aload_n 0, 1) := by decide +kernel
theorem dX10_found_52 : decode cX10_found 52 = .ok (.getfield 67, 3) := by decide +kernel
theorem dX10_found_55 : decode cX10_found 55 = .ok (.getfield 89, 3) := by decide +kernel
theorem dX10_found_58 : decode cX10_found 58 = .ok (.aload_n 0, 1) := by decide +kernel
theorem dX10_found_59 : decode cX10_found 59 = .ok (.getfield 67, 3) := by decide +kernel
theorem dX10_found_62 : decode cX10_found 62 = .ok (.getfield 134, 3) := by decide +kernel
theorem dX10_found_65 : decode cX10_found 65 = .ok (.iload_n 1, 1) := by decide +kernel
theorem dX10_found_66 : decode cX10_found 66 = .ok (.invokevirtual 127, 3) := by decide +kernel
theorem dX10_found_69 : decode cX10_found 69 = .ok (.ireturn, 1) := by decide +kernel
theorem dX10_same_0 : decode cX10_same 0 = .ok (.aload_n 0, 1) := by decide +kernel
theorem dX10_same_1 : decode cX10_same 1 = .ok (.getfield 67, 3) := by decide +kernel
theorem dX10_same_4 : decode cX10_same 4 = .ok (.aload_n 0, 1) := by decide +kernel
theorem dX10_same_5 : decode cX10_same 5 = .ok (.getfield 9, 3) := by decide +kernel
theorem dX10_same_8 : decode cX10_same 8 = .ok (.aload_n 0, 1) := by decide +kernel
theorem dX10_same_9 : decode cX10_same 9 = .ok (.getfield 71, 3) := by decide +kernel
theorem dX10_same_12 : decode cX10_same 12 = .ok (.aload_n 0, 1) := by decide +kernel
theorem dX10_same_13 : decode cX10_same 13 = .ok (.getfield 16, 3) := by decide +kernel
theorem dX10_same_16 : decode cX10_same 16 = .ok (.aload_n 0, 1) := by decide +kernel
theorem dX10_same_17 : decode cX10_same 17 = .ok (.getfield 23, 3) := by decide +kernel
theorem dX10_same_20 : decode cX10_same 20 = .ok (.invokevirtual 75, 3) := by decide +kernel
theorem dX10_same_23 : decode cX10_same 23 = .ok (.aload_n 0, 1) := by decide +kernel
theorem dX10_same_24 : decode cX10_same 24 = .ok (.getfield 67, 3) := by decide +kernel
theorem dX10_same_27 : decode cX10_same 27 = .ok (.invokevirtual 137, 3) := by decide +kernel
theorem dX10_same_30 : decode cX10_same 30 = .ok (.ifCond .ne 14, 3) := by decide +kernel
theorem dX10_same_33 : decode cX10_same 33 = .ok (.bipush (-10), 2) := by decide +kernel
theorem dX10_same_35 : decode cX10_same 35 = .ok (.aload_n 0, 1) := by decide +kernel
theorem dX10_same_36 : decode cX10_same 36 = .ok (.getfield 67, 3) := by decide +kernel
theorem dX10_same_39 : decode cX10_same 39 = .ok (.getfield 86, 3) := by decide +kernel
theorem dX10_same_42 : decode cX10_same 42 = .ok (.isub, 1) := by decide +kernel
theorem dX10_same_43 : decode cX10_same 43 = .ok (.ireturn, 1) := by decide +kernel
theorem dX10_same_44 : decode cX10_same 44 = .ok (.aload_n 0, 1) := by decide +kernel
theorem dX10_same_45 : decode cX10_same 45 = .ok (.getfield 67, 3) := by decide +kernel
theorem dX10_same_48 : decode cX10_same 48 = .ok (.getfield 89, 3) := by decide +kernel
theorem dX10_same_51 : decode cX10_same 51 = .ok (.aload_n 0, 1) := by decide +kernel
theorem dX10_same_52 : decode cX10_same 52 = .ok (.getfield 67, 3) := by decide +kernel
theorem dX10_same_55 : decode cX10_same 55 = .ok (.getfield 124, 3) := by decide +kernel
theorem dX10_same_58 : decode cX10_same 58 = .ok (.aload_n 0, 1) := by decide +kernel
theorem dX10_same_59 : decode cX10_same 59 = .ok (.getfield 67, 3) := by decide +kernel
theorem dX10_same_62 : decode cX10_same 62 = .ok (.getfield 140, 3) := by decide +kernel
theorem dX10_same_65 : decode cX10_same 65 = .ok (.invokevirtual 143, 3) := by decide +kernel
theorem dX10_same_68 : decode cX10_same 68 = .ok (.ifCond .eq 7, 3) := by decide +kernel
theorem dX10_same_71 : decode cX10_same 71 = .ok (.iconst 1, 1) := by decide +kernel
theorem dX10_same_72 : decode cX10_same 72 = .ok (.goto 4, 3) := by decide +kernel
theorem dX10_same_75 : decode cX10_same 75 = .ok (.iconst 0, 1) := by decide +kernel
theorem dX10_same_76 : decode cX10_same 76 = .ok (.ireturn, 1) := by decide +kernel
theorem dX10_drops_0 : decode cX10_drops 0 = .ok (.aload_n 0, 1) := by decide +kernel
theorem dX10_drops_1 : decode cX10_drops 1 = .ok (.getfield 23, 3) := by decide +kernel
theorem dX10_drops_4 : decode cX10_drops 4 = .ok (.iload_n 1, 1) := by decide +kernel
theorem dX10_drops_5 : decode cX10_drops 5 = .ok (.invokevirtual 162, 3) := by decide +kernel
theorem dX10_drops_8 : decode cX10_drops 8 = .ok (.ifnonnull 5, 3) := by decide +kernel
theorem dX10_drops_11 : decode cX10_drops 11 = .ok (.iconst (-1), 1) := by decide +kernel
theorem dX10_drops_12 : decode cX10_drops 12 = .ok (.ireturn, 1) := by decide +kernel
theorem dX10_drops_13 : decode cX10_drops 13 = .ok (.aload_n 0, 1) := by decide +kernel
theorem dX10_drops_14 : decode cX10_drops 14 = .ok (.getfield 30, 3) := by decide +kernel
theorem dX10_drops_17 : decode cX10_drops 17 = .ok (.aload_n 0, 1) := by decide +kernel
theorem dX10_drops_18 : decode cX10_drops 18 = .ok (.getfield 23, 3) := by decide +kernel
theorem dX10_drops_21 : decode cX10_drops 21 = .ok (.invokevirtual 150, 3) := by decide +kernel
theorem dX10_drops_24 : decode cX10_drops 24 = .ok (.aload_n 0, 1) := by decide +kernel
theorem dX10_drops_25 : decode cX10_drops 25 = .ok (.getfield 23, 3) := by decide +kernel
theorem dX10_drops_28 : decode cX10_drops 28 = .ok (.iload_n 1, 1) := by decide +kernel
theorem dX10_drops_29 : decode cX10_drops 29 = .ok (.invokevirtual 166, 3) := by decide +kernel
theorem dX10_drops_32 : decode cX10_drops 32 = .ok (.aload_n 0, 1) := by decide +kernel
theorem dX10_drops_33 : decode cX10_drops 33 = .ok (.getfield 23, 3) := by decide +kernel
theorem dX10_drops_36 : decode cX10_drops 36 = .ok (.getfield 147, 3) := by decide +kernel
theorem dX10_drops_39 : decode cX10_drops 39 = .ok (.ireturn, 1) := by decide +kernel
theorem dX10_undo_0 : decode cX10_undo 0 = .ok (.aload_n 0, 1) := by decide +kernel
theorem dX10_undo_1 : decode cX10_undo 1 = .ok (.getfield 30, 3) := by decide +kernel
theorem dX10_undo_4 : decode cX10_undo 4 = .ok (.getfield 170, 3) := by decide +kernel
theorem dX10_undo_7 : decode cX10_undo 7 = .ok (.ifCond .ne 6, 3) := by decide +kernel
theorem dX10_undo_10 : decode cX10_undo 10 = .ok (.bipush (-2), 2) := by decide +kernel
theorem dX10_undo_12 : decode cX10_undo 12 = .ok (.ireturn, 1) := by decide +kernel
theorem dX10_undo_13 : decode cX10_undo 13 = .ok (.aload_n 0, 1) := by decide +kernel
theorem dX10_undo_14 : decode cX10_undo 14 = .ok (.getfield 30, 3) := by decide +kernel
theorem dX10_undo_17 : decode cX10_undo 17 = .ok (.aload_n 0, 1) := by decide +kernel
theorem dX10_undo_18 : decode cX10_undo 18 = .ok (.getfield 23, 3) := by decide +kernel
theorem dX10_undo_21 : decode cX10_undo 21 = .ok (.invokevirtual 171, 3) := by decide +kernel
theorem dX10_undo_24 : decode cX10_undo 24 = .ok (.aload_n 0, 1) := by decide +kernel
theorem dX10_undo_25 : decode cX10_undo 25 = .ok (.getfield 30, 3) := by decide +kernel
theorem dX10_undo_28 : decode cX10_undo 28 = .ok (.getfield 170, 3) := by decide +kernel
theorem dX10_undo_31 : decode cX10_undo 31 = .ok (.ireturn, 1) := by decide +kernel
theorem dX10_entry_0 : decode cX10_entry 0 = .ok (.aload_n 0, 1) := by decide +kernel
theorem dX10_entry_1 : decode cX10_entry 1 = .ok (.getfield 23, 3) := by decide +kernel
theorem dX10_entry_4 : decode cX10_entry 4 = .ok (.iload_n 1, 1) := by decide +kernel
theorem dX10_entry_5 : decode cX10_entry 5 = .ok (.invokevirtual 162, 3) := by decide +kernel
theorem dX10_entry_8 : decode cX10_entry 8 = .ok (.astore 4, 2) := by decide +kernel
theorem dX10_entry_10 : decode cX10_entry 10 = .ok (.aload 4, 2) := by decide +kernel
theorem dX10_entry_12 : decode cX10_entry 12 = .ok (.ifnull 16, 3) := by decide +kernel
theorem dX10_entry_15 : decode cX10_entry 15 = .ok (.iload_n 2, 1) := by decide +kernel
theorem dX10_entry_16 : decode cX10_entry 16 = .ok (.ifCond .lt 12, 3) := by decide +kernel
theorem dX10_entry_19 : decode cX10_entry 19 = .ok (.iload_n 2, 1) := by decide +kernel
theorem dX10_entry_20 : decode cX10_entry 20 = .ok (.iconst 1, 1) := by decide +kernel
theorem dX10_entry_21 : decode cX10_entry 21 = .ok (.if_icmp .gt 7, 3) := by decide +kernel
theorem dX10_entry_24 : decode cX10_entry 24 = .ok (.iload_n 3, 1) := by decide +kernel
theorem dX10_entry_25 : decode cX10_entry 25 = .ok (.ifCond .ge 5, 3) := by decide +kernel
theorem dX10_entry_28 : decode cX10_entry 28 = .ok (.iconst (-1), 1) := by decide +kernel
theorem dX10_entry_29 : decode cX10_entry 29 = .ok (.ireturn, 1) := by decide +kernel
theorem dX10_entry_30 : decode cX10_entry 30 = .ok (.iload_n 2, 1) := by decide +kernel
theorem dX10_entry_31 : decode cX10_entry 31 = .ok (.ifCond .ne 11, 3) := by decide +kernel
theorem dX10_entry_34 : decode cX10_entry 34 = .ok (.aload 4, 2) := by decide +kernel
theorem dX10_entry_36 : decode cX10_entry 36 = .ok (.getfield 174, 3) := by decide +kernel
theorem dX10_entry_39 : decode cX10_entry 39 = .ok (.goto 8, 3) := by decide +kernel
theorem dX10_entry_42 : decode cX10_entry 42 = .ok (.aload 4, 2) := by decide +kernel
theorem dX10_entry_44 : decode cX10_entry 44 = .ok (.getfield 180, 3) := by decide +kernel
theorem dX10_entry_47 : decode cX10_entry 47 = .ok (.astore 5, 2) := by decide +kernel
theorem dX10_entry_49 : decode cX10_entry 49 = .ok (.aload 5, 2) := by decide +kernel
theorem dX10_entry_51 : decode cX10_entry 51 = .ok (.iload_n 3, 1) := by decide +kernel
theorem dX10_entry_52 : decode cX10_entry 52 = .ok (.invokevirtual 115, 3) := by decide +kernel
theorem dX10_entry_55 : decode cX10_entry 55 = .ok (.ireturn, 1) := by decide +kernel
theorem dX10_like_0 : decode cX10_like 0 = .ok (.aload_n 0, 1) := by decide +kernel
theorem dX10_like_1 : decode cX10_like 1 = .ok (.getfield 23, 3) := by decide +kernel
theorem dX10_like_4 : decode cX10_like 4 = .ok (.iload_n 1, 1) := by decide +kernel
theorem dX10_like_5 : decode cX10_like 5 = .ok (.invokevirtual 162, 3) := by decide +kernel
theorem dX10_like_8 : decode cX10_like 8 = .ok (.astore_n 3, 1) := by decide +kernel
theorem dX10_like_9 : decode cX10_like 9 = .ok (.aload_n 0, 1) := by decide +kernel
theorem dX10_like_10 : decode cX10_like 10 = .ok (.getfield 23, 3) := by decide +kernel
theorem dX10_like_13 : decode cX10_like 13 = .ok (.iload_n 2, 1) := by decide +kernel
theorem dX10_like_14 : decode cX10_like 14 = .ok (.invokevirtual 162, 3) := by decide +kernel
theorem dX10_like_17 : decode cX10_like 17 = .ok (.astore 4, 2) := by decide +kernel
theorem dX10_like_19 : decode cX10_like 19 = .ok (.aload_n 3, 1) := by decide +kernel
theorem dX10_like_20 : decode cX10_like 20 = .ok (.ifnull 8, 3) := by decide +kernel
theorem dX10_like_23 : decode cX10_like 23 = .ok (.aload 4, 2) := by decide +kernel
theorem dX10_like_25 : decode cX10_like 25 = .ok (.ifnonnull 5, 3) := by decide +kernel
theorem dX10_like_28 : decode cX10_like 28 = .ok (.iconst (-1), 1) := by decide +kernel
theorem dX10_like_29 : decode cX10_like 29 = .ok (.ireturn, 1) := by decide +kernel
theorem dX10_like_30 : decode cX10_like 30 = .ok (.aload_n 3, 1) := by decide +kernel
theorem dX10_like_31 : decode cX10_like 31 = .ok (.aload 4, 2) := by decide +kernel
theorem dX10_like_33 : decode cX10_like 33 = .ok (.invokevirtual 183, 3) := by decide +kernel
theorem dX10_like_36 : decode cX10_like 36 = .ok (.ireturn, 1) := by decide +kernel
theorem dX10_forget_0 : decode cX10_forget 0 = .ok (.aload_n 0, 1) := by decide +kernel
theorem dX10_forget_1 : decode cX10_forget 1 = .ok (.getfield 37, 3) := by decide +kernel
theorem dX10_forget_4 : decode cX10_forget 4 = .ok (.getfield 187, 3) := by decide +kernel
theorem dX10_forget_7 : decode cX10_forget 7 = .ok (.istore_n 1, 1) := by decide +kernel
theorem dX10_forget_8 : decode cX10_forget 8 = .ok (.aload_n 0, 1) := by decide +kernel
theorem dX10_forget_9 : decode cX10_forget 9 = .ok (.getfield 37, 3) := by decide +kernel
theorem dX10_forget_12 : decode cX10_forget 12 = .ok (.invokevirtual 101, 3) := by decide +kernel
theorem dX10_forget_15 : decode cX10_forget 15 = .ok (.iload_n 1, 1) := by decide +kernel
theorem dX10_forget_16 : decode cX10_forget 16 = .ok (.ireturn, 1) := by decide +kernel
theorem dX10_unseen_0 : decode cX10_unseen 0 = .ok (.iconst 0, 1) := by decide +kernel
theorem dX10_unseen_1 : decode cX10_unseen 1 = .ok (.istore_n 1, 1) := by decide +kernel
theorem dX10_unseen_2 : decode cX10_unseen 2 = .ok (.iconst 0, 1) := by decide +kernel
theorem dX10_unseen_3 : decode cX10_unseen 3 = .ok (.istore_n 2, 1) := by decide +kernel
theorem dX10_unseen_4 : decode cX10_unseen 4 = .ok (.iload_n 2, 1) := by decide +kernel
theorem dX10_unseen_5 : decode cX10_unseen 5 = .ok (.aload_n 0, 1) := by decide +kernel
theorem dX10_unseen_6 : decode cX10_unseen 6 = .ok (.getfield 23, 3) := by decide +kernel
theorem dX10_unseen_9 : decode cX10_unseen 9 = .ok (.getfield 147, 3) := by decide +kernel
theorem dX10_unseen_12 : decode cX10_unseen 12 = .ok (.if_icmp .ge 39, 3) := by decide +kernel
theorem dX10_unseen_15 : decode cX10_unseen 15 = .ok (.aload_n 0, 1) := by decide +kernel
theorem dX10_unseen_16 : decode cX10_unseen 16 = .ok (.getfield 23, 3) := by decide +kernel
theorem dX10_unseen_19 : decode cX10_unseen 19 = .ok (.iload_n 2, 1) := by decide +kernel
theorem dX10_unseen_20 : decode cX10_unseen 20 = .ok (.invokevirtual 162, 3) := by decide +kernel
theorem dX10_unseen_23 : decode cX10_unseen 23 = .ok (.astore_n 3, 1) := by decide +kernel
theorem dX10_unseen_24 : decode cX10_unseen 24 = .ok (.aload_n 3, 1) := by decide +kernel
theorem dX10_unseen_25 : decode cX10_unseen 25 = .ok (.ifnull 20, 3) := by decide +kernel
theorem dX10_unseen_28 : decode cX10_unseen 28 = .ok (.aload_n 0, 1) := by decide +kernel
theorem dX10_unseen_29 : decode cX10_unseen 29 = .ok (.getfield 37, 3) := by decide +kernel
theorem dX10_unseen_32 : decode cX10_unseen 32 = .ok (.aload_n 3, 1) := by decide +kernel
theorem dX10_unseen_33 : decode cX10_unseen 33 = .ok (.invokevirtual 191, 3) := by decide +kernel
theorem dX10_unseen_36 : decode cX10_unseen 36 = .ok (.ifCond .eq 9, 3) := by decide +kernel
theorem dX10_unseen_39 : decode cX10_unseen 39 = .ok (.iload_n 1, 1) := by decide +kernel
theorem dX10_unseen_40 : decode cX10_unseen 40 = .ok (.iconst 1, 1) := by decide +kernel
theorem dX10_unseen_41 : decode cX10_unseen 41 = .ok (.iload_n 2, 1) := by decide +kernel
theorem dX10_unseen_42 : decode cX10_unseen 42 = .ok (.ishl, 1) := by decide +kernel
theorem dX10_unseen_43 : decode cX10_unseen 43 = .ok (.ior, 1) := by decide +kernel
theorem dX10_unseen_44 : decode cX10_unseen 44 = .ok (.istore_n 1, 1) := by decide +kernel
theorem dX10_unseen_45 : decode cX10_unseen 45 = .ok (.iinc 2 1, 3) := by decide +kernel
theorem dX10_unseen_48 : decode cX10_unseen 48 = .ok (.goto (-44), 3) := by decide +kernel
theorem dX10_unseen_51 : decode cX10_unseen 51 = .ok (.iload_n 1, 1) := by decide +kernel
theorem dX10_unseen_52 : decode cX10_unseen 52 = .ok (.ireturn, 1) := by decide +kernel
theorem dX10_keep_0 : decode cX10_keep 0 = .ok (.iload_n 1, 1) := by decide +kernel
theorem dX10_keep_1 : decode cX10_keep 1 = .ok (.ifCond .lt 8, 3) := by decide +kernel
theorem dX10_keep_4 : decode cX10_keep 4 = .ok (.iload_n 1, 1) := by decide +kernel
theorem dX10_keep_5 : decode cX10_keep 5 = .ok (.iconst 2, 1) := by decide +kernel
theorem dX10_keep_6 : decode cX10_keep 6 = .ok (.if_icmp .lt 5, 3) := by decide +kernel
theorem dX10_keep_9 : decode cX10_keep 9 = .ok (.iconst (-1), 1) := by decide +kernel
theorem dX10_keep_10 : decode cX10_keep 10 = .ok (.ireturn, 1) := by decide +kernel
theorem dX10_keep_11 : decode cX10_keep 11 = .ok (.aload_n 0, 1) := by decide +kernel
theorem dX10_keep_12 : decode cX10_keep 12 = .ok (.getfield 41, 3) := by decide +kernel
theorem dX10_keep_15 : decode cX10_keep 15 = .ok (.iload_n 1, 1) := by decide +kernel
theorem dX10_keep_16 : decode cX10_keep 16 = .ok (.aaload, 1) := by decide +kernel
theorem dX10_keep_17 : decode cX10_keep 17 = .ok (.aload_n 0, 1) := by decide +kernel
theorem dX10_keep_18 : decode cX10_keep 18 = .ok (.getfield 23, 3) := by decide +kernel
theorem dX10_keep_21 : decode cX10_keep 21 = .ok (.invokevirtual 195, 3) := by decide +kernel
theorem dX10_keep_24 : decode cX10_keep 24 = .ok (.aload_n 0, 1) := by decide +kernel
theorem dX10_keep_25 : decode cX10_keep 25 = .ok (.getfield 45, 3) := by decide +kernel
theorem dX10_keep_28 : decode cX10_keep 28 = .ok (.iload_n 1, 1) := by decide +kernel
theorem dX10_keep_29 : decode cX10_keep 29 = .ok (.iconst 1, 1) := by decide +kernel
theorem dX10_keep_30 : decode cX10_keep 30 = .ok (.bastore, 1) := by decide +kernel
theorem dX10_keep_31 : decode cX10_keep 31 = .ok (.aload_n 0, 1) := by decide +kernel
theorem dX10_keep_32 : decode cX10_keep 32 = .ok (.getfield 23, 3) := by decide +kernel
theorem dX10_keep_35 : decode cX10_keep 35 = .ok (.getfield 147, 3) := by decide +kernel
theorem dX10_keep_38 : decode cX10_keep 38 = .ok (.ireturn, 1) := by decide +kernel
theorem dX10_back_0 : decode cX10_back 0 = .ok (.iload_n 1, 1) := by decide +kernel
theorem dX10_back_1 : decode cX10_back 1 = .ok (.ifCond .lt 8, 3) := by decide +kernel
theorem dX10_back_4 : decode cX10_back 4 = .ok (.iload_n 1, 1) := by decide +kernel
theorem dX10_back_5 : decode cX10_back 5 = .ok (.iconst 2, 1) := by decide +kernel
theorem dX10_back_6 : decode cX10_back 6 = .ok (.if_icmp .lt 5, 3) := by decide +kernel
theorem dX10_back_9 : decode cX10_back 9 = .ok (.iconst (-1), 1) := by decide +kernel
theorem dX10_back_10 : decode cX10_back 10 = .ok (.ireturn, 1) := by decide +kernel
theorem dX10_back_11 : decode cX10_back 11 = .ok (.aload_n 0, 1) := by decide +kernel
theorem dX10_back_12 : decode cX10_back 12 = .ok (.getfield 45, 3) := by decide +kernel
theorem dX10_back_15 : decode cX10_back 15 = .ok (.iload_n 1, 1) := by decide +kernel
theorem dX10_back_16 : decode cX10_back 16 = .ok (.baload, 1) := by decide +kernel
theorem dX10_back_17 : decode cX10_back 17 = .ok (.ifCond .ne 6, 3) := by decide +kernel
theorem dX10_back_20 : decode cX10_back 20 = .ok (.bipush (-2), 2) := by decide +kernel
theorem dX10_back_22 : decode cX10_back 22 = .ok (.ireturn, 1) := by decide +kernel
theorem dX10_back_23 : decode cX10_back 23 = .ok (.aload_n 0, 1) := by decide +kernel
theorem dX10_back_24 : decode cX10_back 24 = .ok (.getfield 23, 3) := by decide +kernel
theorem dX10_back_27 : decode cX10_back 27 = .ok (.aload_n 0, 1) := by decide +kernel
theorem dX10_back_28 : decode cX10_back 28 = .ok (.getfield 41, 3) := by decide +kernel
theorem dX10_back_31 : decode cX10_back 31 = .ok (.iload_n 1, 1) := by decide +kernel
theorem dX10_back_32 : decode cX10_back 32 = .ok (.aaload, 1) := by decide +kernel
theorem dX10_back_33 : decode cX10_back 33 = .ok (.invokevirtual 195, 3) := by decide +kernel
theorem dX10_back_36 : decode cX10_back 36 = .ok (.aload_n 0, 1) := by decide +kernel
theorem dX10_back_37 : decode cX10_back 37 = .ok (.getfield 30, 3) := by decide +kernel
theorem dX10_back_40 : decode cX10_back 40 = .ok (.invokevirtual 100, 3) := by decide +kernel
theorem dX10_back_43 : decode cX10_back 43 = .ok (.aload_n 0, 1) := by decide +kernel
theorem dX10_back_44 : decode cX10_back 44 = .ok (.getfield 23, 3) := by decide +kernel
theorem dX10_back_47 : decode cX10_back 47 = .ok (.getfield 147, 3) := by decide +kernel
theorem dX10_back_50 : decode cX10_back 50 = .ok (.ireturn, 1) := by decide +kernel
theorem dX10_count_0 : decode cX10_count 0 = .ok (.iload_n 1, 1) := by decide +kernel
theorem dX10_count_1 : decode cX10_count 1 = .ok (.tableswitch 84 0 5 #[39, 47, 55, 63, 71, 76], 39) := by decide +kernel
theorem dX10_count_40 : decode cX10_count 40 = .ok (.aload_n 0, 1) := by decide +kernel
theorem dX10_count_41 : decode cX10_count 41 = .ok (.getfield 16, 3) := by decide +kernel
theorem dX10_count_44 : decode cX10_count 44 = .ok (.getfield 102, 3) := by decide +kernel
theorem dX10_count_47 : decode cX10_count 47 = .ok (.ireturn, 1) := by decide +kernel
theorem dX10_count_48 : decode cX10_count 48 = .ok (.aload_n 0, 1) := by decide +kernel
theorem dX10_count_49 : decode cX10_count 49 = .ok (.getfield 16, 3) := by decide +kernel
theorem dX10_count_52 : decode cX10_count 52 = .ok (.getfield 105, 3) := by decide +kernel
theorem dX10_count_55 : decode cX10_count 55 = .ok (.ireturn, 1) := by decide +kernel
theorem dX10_count_56 : decode cX10_count 56 = .ok (.aload_n 0, 1) := by decide +kernel
theorem dX10_count_57 : decode cX10_count 57 = .ok (.getfield 23, 3) := by decide +kernel
theorem dX10_count_60 : decode cX10_count 60 = .ok (.getfield 147, 3) := by decide +kernel
theorem dX10_count_63 : decode cX10_count 63 = .ok (.ireturn, 1) := by decide +kernel
theorem dX10_count_64 : decode cX10_count 64 = .ok (.aload_n 0, 1) := by decide +kernel
theorem dX10_count_65 : decode cX10_count 65 = .ok (.getfield 37, 3) := by decide +kernel
theorem dX10_count_68 : decode cX10_count 68 = .ok (.getfield 187, 3) := by decide +kernel
theorem dX10_count_71 : decode cX10_count 71 = .ok (.ireturn, 1) := by decide +kernel
theorem dX10_count_72 : decode cX10_count 72 = .ok (.aload_n 0, 1) := by decide +kernel
theorem dX10_count_73 : decode cX10_count 73 = .ok (.getfield 71, 3) := by decide +kernel
theorem dX10_count_76 : decode cX10_count 76 = .ok (.ireturn, 1) := by decide +kernel
theorem dX10_count_77 : decode cX10_count 77 = .ok (.aload_n 0, 1) := by decide +kernel
theorem dX10_count_78 : decode cX10_count 78 = .ok (.getfield 30, 3) := by decide +kernel
theorem dX10_count_81 : decode cX10_count 81 = .ok (.getfield 170, 3) := by decide +kernel
theorem dX10_count_84 : decode cX10_count 84 = .ok (.ireturn, 1) := by decide +kernel
theorem dX10_count_85 : decode cX10_count 85 = .ok (.iconst (-1), 1) := by decide +kernel
theorem dX10_count_86 : decode cX10_count 86 = .ok (.ireturn, 1) := by decide +kernel
set_option maxHeartbeats 4000000 in
set_option maxRecDepth 20000 in
theorem b_J_law_87 {p : Program} {l : Launch} {e : Env} {s : State} {m : MethodId} {args : Array Value} {below : List Frame} {meth : Method} {c : Code} {D : va_G} {cy : Nat → ClassId} {ad : Nat → Nat} {q : Int32 × CS}  (C : vC p s m args meth c cX10_law 5 (some .int) RX10 D (cyT cy)) (hA : adOK ad) : ∀ (s0 : Int32) (σ : CS), B_J_law_87 s0 σ = some q → V p l e { frames := 1, cells := 0, slots := 0, locals := 21 } s m args below meth c D (inC ad) 5 (MQ below (vQ D (inC ad) (some (.int q.1)) (wc cy ad q.2)) args s 0 0 (inC ad)) 0 0 (wc cy ad σ) 87 [(0, .ref (ad 0))] [.int s0] := by
  intro s0 σ h
  rw [B_J_law_87] at h
  obtain rfl := Option.some.inj h
  exact v_iret C dX10_law_87
set_option maxHeartbeats 4000000 in
set_option maxRecDepth 20000 in
theorem b_J_law_69 {p : Program} {l : Launch} {e : Env} {s : State} {m : MethodId} {args : Array Value} {below : List Frame} {meth : Method} {c : Code} {D : va_G} {cy : Nat → ClassId} {ad : Nat → Nat} {q : Int32 × CS}  (C : vC p s m args meth c cX10_law 5 (some .int) RX10 D (cyT cy)) (hA : adOK ad) : ∀ (x3 : Int32) (s0 : Option Nat) (σ : CS), B_J_law_69 x3 s0 σ = some q → V p l e { frames := 1, cells := 0, slots := 0, locals := 21 } s m args below meth c D (inC ad) 5 (MQ below (vQ D (inC ad) (some (.int q.1)) (wc cy ad q.2)) args s 0 0 (inC ad)) 0 0 (wc cy ad σ) 69 [(0, .ref (ad 0)), (3, .int x3)] [va_rf (Option.map ad s0)] := by
  intro x3 s0 σ h
  rw [B_J_law_69] at h
  refine c_astore C s0 [(4, va_rf (Option.map ad s0)), (0, .ref (ad 0)), (3, .int x3)] dX10_law_69 (by decide) rfl ?_
  refine c_aload C s0 0 dX10_law_71 rfl ?_
  refine c_ifnonnull C 81 dX10_law_73 (by decide) (fun a1 c1 => ?_) (fun c1 => ?_)
  · try rw [c1]
    replace h := el_s c1 h
    refine v_aload C 0 dX10_law_81 rfl ?_
    refine v_iload_n C 2 dX10_law_83 rfl rfl ?_
    obtain ⟨g1, h⟩ := gd_of h
    obtain ⟨q1, hq1, h⟩ := bd_of h
    refine c_call C [.int x3] [] (c_Form_signAt hA _ _ _ hq1) hY_Form_signAt rfl (by decide) g1 ml_10_115 ⟨(by omega : 0 + 1 ≤ 1), (by omega : 8 + (2 + 11) + 0 ≤ 21)⟩ ⟨Nat.zero_le _, Nat.zero_le _⟩ rfl rfl (Nat.le_of_ble_eq_true rfl) dX10_law_84 (wc_D hA cy _) ?_
    exact v_sub [1] rfl ((b_J_law_87 C hA) _ _ h)
  · try rw [c1]
    replace h := el_n c1 h
    refine v_bipush C (-9) dX10_law_76 (by decide) ?_
    refine v_goto C 87 dX10_law_78 (by decide) ?_
    exact v_sub [1] rfl ((b_J_law_87 C hA) _ _ h)
set_option maxHeartbeats 4000000 in
set_option maxRecDepth 20000 in
theorem b_J_law_41 {p : Program} {l : Launch} {e : Env} {s : State} {m : MethodId} {args : Array Value} {below : List Frame} {meth : Method} {c : Code} {D : va_G} {cy : Nat → ClassId} {ad : Nat → Nat} {q : Int32 × CS}  (C : vC p s m args meth c cX10_law 5 (some .int) RX10 D (cyT cy)) (hA : adOK ad) : ∀ (x1 : Int32) (x2 : Int32) (x3 : Int32) (s0 : Int32) (s1 : Int32) (σ : CS), B_J_law_41 x1 x2 x3 s0 s1 σ = some q → V p l e { frames := 1, cells := 0, slots := 0, locals := 21 } s m args below meth c D (inC ad) 5 (MQ below (vQ D (inC ad) (some (.int q.1)) (wc cy ad q.2)) args s 0 0 (inC ad)) 0 0 (wc cy ad σ) 41 [(0, .ref (ad 0)), (1, .int x1), (2, .int x2), (3, .int x3)] [.int s0, .int s1] := by
  intro x1 x2 x3 s0 s1 σ h
  rw [B_J_law_41] at h
  refine v_icmp_lt C 46 dX10_law_41 (by decide) (fun c1 => ?_) (fun c1 => ?_)
  · rw [if_pos c1] at h
    refine v_iload_n C 1 dX10_law_46 rfl rfl ?_
    refine v_if_ne C 61 dX10_law_47 (by decide) (fun c2 => ?_) (fun c2 => ?_)
    · rw [if_neg c2] at h
      refine v_aload_n C 0 dX10_law_61 rfl rfl ?_
      refine c_getR C fl_10_16 rfl (okS _ 0 (by decide) rfl) dX10_law_62 ?_
      refine v_iload_n C 2 dX10_law_65 rfl rfl ?_
      obtain ⟨a1, ha1, h⟩ := bd_of h
      rw [ha1]
      obtain ⟨g1, h⟩ := gd_of h
      obtain ⟨q1, hq1, h⟩ := bd_of h
      refine c_call C [.int x2] [] (c_Laws_constantForm hA _ _ _ hq1) hY_Laws_constantForm rfl (by decide) g1 ml_10_112 ⟨(by omega : 0 + 1 ≤ 1), (by omega : 8 + (2 + 11) + 0 ≤ 21)⟩ ⟨Nat.zero_le _, Nat.zero_le _⟩ rfl rfl (Nat.le_of_ble_eq_true rfl) dX10_law_66 (wc_D hA cy _) ?_
      exact v_sub [0, 3] rfl ((b_J_law_69 C hA) _ _ _ h)
    · rw [if_pos c2] at h
      refine v_aload_n C 0 dX10_law_50 rfl rfl ?_
      refine c_getR C fl_10_16 rfl (okS _ 0 (by decide) rfl) dX10_law_51 ?_
      refine v_iload_n C 2 dX10_law_54 rfl rfl ?_
      obtain ⟨a2, ha2, h⟩ := bd_of h
      rw [ha2]
      obtain ⟨g2, h⟩ := gd_of h
      obtain ⟨q2, hq2, h⟩ := bd_of h
      refine c_call C [.int x2] [] (c_Laws_indexForm hA _ _ _ hq2) hY_Laws_indexForm rfl (by decide) g2 ml_10_108 ⟨(by omega : 0 + 1 ≤ 1), (by omega : 8 + (2 + 11) + 0 ≤ 21)⟩ ⟨Nat.zero_le _, Nat.zero_le _⟩ rfl rfl (Nat.le_of_ble_eq_true rfl) dX10_law_55 (wc_D hA cy _) ?_
      refine v_goto C 69 dX10_law_58 (by decide) ?_
      exact v_sub [0, 3] rfl ((b_J_law_69 C hA) _ _ _ h)
  · rw [if_neg c1] at h
    refine v_iconst C (-1) dX10_law_44 (by decide) ?_
    obtain rfl := Option.some.inj h
    exact v_iret C dX10_law_45
set_option maxHeartbeats 4000000 in
set_option maxRecDepth 20000 in
theorem b_J_law_17 {p : Program} {l : Launch} {e : Env} {s : State} {m : MethodId} {args : Array Value} {below : List Frame} {meth : Method} {c : Code} {D : va_G} {cy : Nat → ClassId} {ad : Nat → Nat} {q : Int32 × CS}  (C : vC p s m args meth c cX10_law 5 (some .int) RX10 D (cyT cy)) (hA : adOK ad) : ∀ (σ : CS), B_J_law_17 σ = some q → V p l e { frames := 1, cells := 0, slots := 0, locals := 21 } s m args below meth c D (inC ad) 5 (MQ below (vQ D (inC ad) (some (.int q.1)) (wc cy ad q.2)) args s 0 0 (inC ad)) 0 0 (wc cy ad σ) 17 [(0, .ref (ad 0))] [] := by
  intro σ h
  rw [B_J_law_17] at h
  refine v_iconst C (-1) dX10_law_17 (by decide) ?_
  obtain rfl := Option.some.inj h
  exact v_iret C dX10_law_18
set_option maxHeartbeats 4000000 in
set_option maxRecDepth 20000 in
theorem c_J_law {l : Launch} {D : va_G} {cy : Nat → ClassId} {ad : Nat → Nat} {q : Int32 × CS} (hA : adOK ad) (x1 : Int32) (x2 : Int32) (x3 : Int32) (σ : CS) (h : f_J_law x1 x2 x3 σ = some q) : MV l D (cyT cy) (inC ad) yX10_law cX10_law 5 (some .int) (1) (21) 0 0 [.ref (ad 0), .int x1, .int x2, .int x3] (wc cy ad σ) (some (.int q.1)) (wc cy ad q.2) := by
  refine MV.of (by decide) (wc_D hA cy σ) (Nat.le_of_ble_eq_true rfl) [(0, .ref (ad 0)), (1, .int x1), (2, .int x2), (3, .int x3)] rfl ?_
  intro p e s m args below meth c C
  rw [f_J_law] at h
  refine v_iload_n C 1 dX10_law_0 rfl rfl ?_
  refine v_if_lt C 17 dX10_law_1 (by decide) (fun c1 => ?_) (fun c1 => ?_)
  · rw [if_pos c1] at h
    exact v_sub [0] rfl ((b_J_law_17 C hA) _ h)
  · rw [if_neg c1] at h
    refine v_iload_n C 1 dX10_law_4 rfl rfl ?_
    refine v_iconst C 1 dX10_law_5 (by decide) ?_
    refine v_icmp_gt C 17 dX10_law_6 (by decide) (fun c2 => ?_) (fun c2 => ?_)
    · rw [if_pos c2] at h
      exact v_sub [0] rfl ((b_J_law_17 C hA) _ h)
    · rw [if_neg c2] at h
      refine v_iload_n C 2 dX10_law_9 rfl rfl ?_
      refine v_if_lt C 17 dX10_law_10 (by decide) (fun c3 => ?_) (fun c3 => ?_)
      · rw [if_pos c3] at h
        exact v_sub [0] rfl ((b_J_law_17 C hA) _ h)
      · rw [if_neg c3] at h
        refine v_iload_n C 3 dX10_law_13 rfl rfl ?_
        refine v_if_ge C 19 dX10_law_14 (by decide) (fun c4 => ?_) (fun c4 => ?_)
        · rw [if_pos c4] at h
          refine v_iload_n C 2 dX10_law_19 rfl rfl ?_
          refine v_iload_n C 1 dX10_law_20 rfl rfl ?_
          refine v_if_ne C 34 dX10_law_21 (by decide) (fun c5 => ?_) (fun c5 => ?_)
          · rw [if_neg c5] at h
            refine v_aload_n C 0 dX10_law_34 rfl rfl ?_
            refine c_getR C fl_10_16 rfl (okS _ 0 (by decide) rfl) dX10_law_35 ?_
            obtain ⟨a1, ha1, h⟩ := bd_of h
            rw [ha1]
            obtain ⟨g1, h⟩ := gd_of h
            refine c_getIN C fl_10_105 rfl g1 dX10_law_38 ?_
            exact v_sub [0, 1, 2, 3] rfl ((b_J_law_41 C hA) _ _ _ _ _ _ h)
          · rw [if_pos c5] at h
            refine v_aload_n C 0 dX10_law_24 rfl rfl ?_
            refine c_getR C fl_10_16 rfl (okS _ 0 (by decide) rfl) dX10_law_25 ?_
            obtain ⟨a2, ha2, h⟩ := bd_of h
            rw [ha2]
            obtain ⟨g2, h⟩ := gd_of h
            refine c_getIN C fl_10_102 rfl g2 dX10_law_28 ?_
            refine v_goto C 41 dX10_law_31 (by decide) ?_
            exact v_sub [0, 1, 2, 3] rfl ((b_J_law_41 C hA) _ _ _ _ _ _ h)
        · rw [if_neg c4] at h
          exact v_sub [0] rfl ((b_J_law_17 C hA) _ h)
set_option maxHeartbeats 4000000 in
set_option maxRecDepth 20000 in
theorem c_J_given {l : Launch} {D : va_G} {cy : Nat → ClassId} {ad : Nat → Nat} {q : Int32 × CS} (hA : adOK ad) (x1 : Int32) (σ : CS) (h : f_J_given x1 σ = some q) : MV l D (cyT cy) (inC ad) yX10_given cX10_given 2 (some .int) (486) (19346) 0 0 [.ref (ad 0), .int x1] (wc cy ad σ) (some (.int q.1)) (wc cy ad q.2) := by
  refine MV.of (by decide) (wc_D hA cy σ) (Nat.le_of_ble_eq_true rfl) [(0, .ref (ad 0)), (1, .int x1)] rfl ?_
  intro p e s m args below meth c C
  rw [f_J_given] at h
  refine v_iload_n C 1 dX10_given_0 rfl rfl ?_
  refine v_iconst C (-1) dX10_given_1 (by decide) ?_
  refine v_icmp_ge C 7 dX10_given_2 (by decide) (fun c1 => ?_) (fun c1 => ?_)
  · rw [if_pos c1] at h
    refine v_aload_n C 0 dX10_given_7 rfl rfl ?_
    refine c_getS C 43 fl_10_67 rfl rfl (by decide) (okS _ 0 (by decide) rfl) dX10_given_8 ?_
    refine v_aload_n C 0 dX10_given_11 rfl rfl ?_
    refine c_getS C 1 fl_10_9 rfl rfl (by decide) (okS _ 0 (by decide) rfl) dX10_given_12 ?_
    refine v_aload_n C 0 dX10_given_15 rfl rfl ?_
    refine c_getI C fl_10_71 rfl (okS _ 0 (by decide) rfl) dX10_given_16 ?_
    refine v_aload_n C 0 dX10_given_19 rfl rfl ?_
    refine c_getR C fl_10_16 rfl (okS _ 0 (by decide) rfl) dX10_given_20 ?_
    refine v_aload_n C 0 dX10_given_23 rfl rfl ?_
    refine c_getS C 5 fl_10_23 rfl rfl (by decide) (okS _ 0 (by decide) rfl) dX10_given_24 ?_
    obtain ⟨q1, hq1, h⟩ := bd_of h
    refine c_call C [.ref (ad 1), .int (σ.1 0 1), va_rf (Option.map ad (rfv σ 0 2)), .ref (ad 5)] [] (c_Reader_begin hA _ _ _ _ _ hq1) hY_Reader_begin rfl (by decide) (okS _ 43 (by decide) rfl) ml_10_75 ⟨(by omega : 3 + 1 ≤ 486), (by omega : 8 + (5 + 11) + 66 ≤ 19346)⟩ ⟨Nat.zero_le _, Nat.zero_le _⟩ rfl rfl (Nat.le_of_ble_eq_true rfl) dX10_given_27 (wc_D hA cy _) ?_
    refine v_aload_n C 0 dX10_given_30 rfl rfl ?_
    refine c_getS C 43 fl_10_67 rfl rfl (by decide) (okS _ 0 (by decide) rfl) dX10_given_31 ?_
    obtain ⟨q2, hq2, h⟩ := bd_of h
    refine c_call C [] [] (c_Reader_readGiven hA _ hq2) hY_Reader_readGiven rfl (by decide) (okS _ 43 (by decide) rfl) ml_10_121 ⟨(by omega : 485 + 1 ≤ 486), (by omega : 8 + (1 + 11) + 19326 ≤ 19346)⟩ ⟨Nat.zero_le _, Nat.zero_le _⟩ rfl rfl (Nat.le_of_ble_eq_true rfl) dX10_given_34 (wc_D hA cy _) ?_
    refine v_if_ne C 51 dX10_given_37 (by decide) (fun c2 => ?_) (fun c2 => ?_)
    · rw [if_neg c2] at h
      refine v_aload_n C 0 dX10_given_51 rfl rfl ?_
      refine c_getS C 43 fl_10_67 rfl rfl (by decide) (okS _ 0 (by decide) rfl) dX10_given_52 ?_
      refine c_getSN C 34 fl_10_89 rfl rfl (by decide) (okS _ 43 (by decide) rfl) dX10_given_55 ?_
      refine v_aload_n C 0 dX10_given_58 rfl rfl ?_
      refine c_getS C 43 fl_10_67 rfl rfl (by decide) (okS _ 0 (by decide) rfl) dX10_given_59 ?_
      refine c_getIN C fl_10_124 rfl (okS _ 43 (by decide) rfl) dX10_given_62 ?_
      refine v_iload_n C 1 dX10_given_65 rfl rfl ?_
      obtain ⟨q3, hq3, h⟩ := bd_of h
      refine c_call C [.int (q2.2.1 43 13), .int x1] [] (c_Signs_answer hA _ _ _ hq3) hY_Signs_answer rfl (by decide) (okS _ 34 (by decide) rfl) ml_10_127 ⟨(by omega : 2 + 1 ≤ 486), (by omega : 8 + (4 + 11) + 45 ≤ 19346)⟩ ⟨Nat.zero_le _, Nat.zero_le _⟩ rfl rfl (Nat.le_of_ble_eq_true rfl) dX10_given_66 (wc_D hA cy _) ?_
      obtain rfl := Option.some.inj h
      exact v_iret C dX10_given_69
    · rw [if_pos c2] at h
      refine v_bipush C (-10) dX10_given_40 (by decide) ?_
      refine v_aload_n C 0 dX10_given_42 rfl rfl ?_
      refine c_getS C 43 fl_10_67 rfl rfl (by decide) (okS _ 0 (by decide) rfl) dX10_given_43 ?_
      refine c_getIN C fl_10_86 rfl (okS _ 43 (by decide) rfl) dX10_given_46 ?_
      refine v_isub C dX10_given_49 ?_
      obtain rfl := Option.some.inj h
      exact v_iret C dX10_given_50
  · rw [if_neg c1] at h
    refine v_iconst C (-1) dX10_given_5 (by decide) ?_
    obtain rfl := Option.some.inj h
    exact v_iret C dX10_given_6
set_option maxHeartbeats 4000000 in
set_option maxRecDepth 20000 in
theorem c_J_found {l : Launch} {D : va_G} {cy : Nat → ClassId} {ad : Nat → Nat} {q : Int32 × CS} (hA : adOK ad) (x1 : Int32) (σ : CS) (h : f_J_found x1 σ = some q) : MV l D (cyT cy) (inC ad) yX10_found cX10_found 2 (some .int) (486) (19346) 0 0 [.ref (ad 0), .int x1] (wc cy ad σ) (some (.int q.1)) (wc cy ad q.2) := by
  refine MV.of (by decide) (wc_D hA cy σ) (Nat.le_of_ble_eq_true rfl) [(0, .ref (ad 0)), (1, .int x1)] rfl ?_
  intro p e s m args below meth c C
  rw [f_J_found] at h
  refine v_iload_n C 1 dX10_found_0 rfl rfl ?_
  refine v_iconst C (-1) dX10_found_1 (by decide) ?_
  refine v_icmp_ge C 7 dX10_found_2 (by decide) (fun c1 => ?_) (fun c1 => ?_)
  · rw [if_pos c1] at h
    refine v_aload_n C 0 dX10_found_7 rfl rfl ?_
    refine c_getS C 43 fl_10_67 rfl rfl (by decide) (okS _ 0 (by decide) rfl) dX10_found_8 ?_
    refine v_aload_n C 0 dX10_found_11 rfl rfl ?_
    refine c_getS C 1 fl_10_9 rfl rfl (by decide) (okS _ 0 (by decide) rfl) dX10_found_12 ?_
    refine v_aload_n C 0 dX10_found_15 rfl rfl ?_
    refine c_getI C fl_10_71 rfl (okS _ 0 (by decide) rfl) dX10_found_16 ?_
    refine v_aload_n C 0 dX10_found_19 rfl rfl ?_
    refine c_getR C fl_10_16 rfl (okS _ 0 (by decide) rfl) dX10_found_20 ?_
    refine v_aload_n C 0 dX10_found_23 rfl rfl ?_
    refine c_getS C 5 fl_10_23 rfl rfl (by decide) (okS _ 0 (by decide) rfl) dX10_found_24 ?_
    obtain ⟨q1, hq1, h⟩ := bd_of h
    refine c_call C [.ref (ad 1), .int (σ.1 0 1), va_rf (Option.map ad (rfv σ 0 2)), .ref (ad 5)] [] (c_Reader_begin hA _ _ _ _ _ hq1) hY_Reader_begin rfl (by decide) (okS _ 43 (by decide) rfl) ml_10_75 ⟨(by omega : 3 + 1 ≤ 486), (by omega : 8 + (5 + 11) + 66 ≤ 19346)⟩ ⟨Nat.zero_le _, Nat.zero_le _⟩ rfl rfl (Nat.le_of_ble_eq_true rfl) dX10_found_27 (wc_D hA cy _) ?_
    refine v_aload_n C 0 dX10_found_30 rfl rfl ?_
    refine c_getS C 43 fl_10_67 rfl rfl (by decide) (okS _ 0 (by decide) rfl) dX10_found_31 ?_
    obtain ⟨q2, hq2, h⟩ := bd_of h
    refine c_call C [] [] (c_Reader_readInferred hA _ hq2) hY_Reader_readInferred rfl (by decide) (okS _ 43 (by decide) rfl) ml_10_131 ⟨(by omega : 485 + 1 ≤ 486), (by omega : 8 + (1 + 11) + 19326 ≤ 19346)⟩ ⟨Nat.zero_le _, Nat.zero_le _⟩ rfl rfl (Nat.le_of_ble_eq_true rfl) dX10_found_34 (wc_D hA cy _) ?_
    refine v_if_ne C 51 dX10_found_37 (by decide) (fun c2 => ?_) (fun c2 => ?_)
    · rw [if_neg c2] at h
      refine v_aload_n C 0 dX10_found_51 rfl rfl ?_
      refine c_getS C 43 fl_10_67 rfl rfl (by decide) (okS _ 0 (by decide) rfl) dX10_found_52 ?_
      refine c_getSN C 34 fl_10_89 rfl rfl (by decide) (okS _ 43 (by decide) rfl) dX10_found_55 ?_
      refine v_aload_n C 0 dX10_found_58 rfl rfl ?_
      refine c_getS C 43 fl_10_67 rfl rfl (by decide) (okS _ 0 (by decide) rfl) dX10_found_59 ?_
      refine c_getIN C fl_10_134 rfl (okS _ 43 (by decide) rfl) dX10_found_62 ?_
      refine v_iload_n C 1 dX10_found_65 rfl rfl ?_
      obtain ⟨q3, hq3, h⟩ := bd_of h
      refine c_call C [.int (q2.2.1 43 9), .int x1] [] (c_Signs_answer hA _ _ _ hq3) hY_Signs_answer rfl (by decide) (okS _ 34 (by decide) rfl) ml_10_127 ⟨(by omega : 2 + 1 ≤ 486), (by omega : 8 + (4 + 11) + 45 ≤ 19346)⟩ ⟨Nat.zero_le _, Nat.zero_le _⟩ rfl rfl (Nat.le_of_ble_eq_true rfl) dX10_found_66 (wc_D hA cy _) ?_
      obtain rfl := Option.some.inj h
      exact v_iret C dX10_found_69
    · rw [if_pos c2] at h
      refine v_bipush C (-10) dX10_found_40 (by decide) ?_
      refine v_aload_n C 0 dX10_found_42 rfl rfl ?_
      refine c_getS C 43 fl_10_67 rfl rfl (by decide) (okS _ 0 (by decide) rfl) dX10_found_43 ?_
      refine c_getIN C fl_10_86 rfl (okS _ 43 (by decide) rfl) dX10_found_46 ?_
      refine v_isub C dX10_found_49 ?_
      obtain rfl := Option.some.inj h
      exact v_iret C dX10_found_50
  · rw [if_neg c1] at h
    refine v_iconst C (-1) dX10_found_5 (by decide) ?_
    obtain rfl := Option.some.inj h
    exact v_iret C dX10_found_6
set_option maxHeartbeats 4000000 in
set_option maxRecDepth 20000 in
theorem b_J_same_76 {p : Program} {l : Launch} {e : Env} {s : State} {m : MethodId} {args : Array Value} {below : List Frame} {meth : Method} {c : Code} {D : va_G} {cy : Nat → ClassId} {ad : Nat → Nat} {q : Int32 × CS}  (C : vC p s m args meth c cX10_same 1 (some .int) RX10 D (cyT cy)) (hA : adOK ad) : ∀ (s0 : Int32) (σ : CS), B_J_same_76 s0 σ = some q → V p l e { frames := 486, cells := 0, slots := 0, locals := 19346 } s m args below meth c D (inC ad) 1 (MQ below (vQ D (inC ad) (some (.int q.1)) (wc cy ad q.2)) args s 0 0 (inC ad)) 0 0 (wc cy ad σ) 76 [(0, .ref (ad 0))] [.int s0] := by
  intro s0 σ h
  rw [B_J_same_76] at h
  obtain rfl := Option.some.inj h
  exact v_iret C dX10_same_76
set_option maxHeartbeats 4000000 in
set_option maxRecDepth 20000 in
theorem c_J_same {l : Launch} {D : va_G} {cy : Nat → ClassId} {ad : Nat → Nat} {q : Int32 × CS} (hA : adOK ad) (σ : CS) (h : f_J_same σ = some q) : MV l D (cyT cy) (inC ad) yX10_same cX10_same 1 (some .int) (486) (19346) 0 0 [.ref (ad 0)] (wc cy ad σ) (some (.int q.1)) (wc cy ad q.2) := by
  refine MV.of (by decide) (wc_D hA cy σ) (Nat.le_of_ble_eq_true rfl) [(0, .ref (ad 0))] rfl ?_
  intro p e s m args below meth c C
  rw [f_J_same] at h
  refine v_aload_n C 0 dX10_same_0 rfl rfl ?_
  refine c_getS C 43 fl_10_67 rfl rfl (by decide) (okS _ 0 (by decide) rfl) dX10_same_1 ?_
  refine v_aload_n C 0 dX10_same_4 rfl rfl ?_
  refine c_getS C 1 fl_10_9 rfl rfl (by decide) (okS _ 0 (by decide) rfl) dX10_same_5 ?_
  refine v_aload_n C 0 dX10_same_8 rfl rfl ?_
  refine c_getI C fl_10_71 rfl (okS _ 0 (by decide) rfl) dX10_same_9 ?_
  refine v_aload_n C 0 dX10_same_12 rfl rfl ?_
  refine c_getR C fl_10_16 rfl (okS _ 0 (by decide) rfl) dX10_same_13 ?_
  refine v_aload_n C 0 dX10_same_16 rfl rfl ?_
  refine c_getS C 5 fl_10_23 rfl rfl (by decide) (okS _ 0 (by decide) rfl) dX10_same_17 ?_
  obtain ⟨q1, hq1, h⟩ := bd_of h
  refine c_call C [.ref (ad 1), .int (σ.1 0 1), va_rf (Option.map ad (rfv σ 0 2)), .ref (ad 5)] [] (c_Reader_begin hA _ _ _ _ _ hq1) hY_Reader_begin rfl (by decide) (okS _ 43 (by decide) rfl) ml_10_75 ⟨(by omega : 3 + 1 ≤ 486), (by omega : 8 + (5 + 11) + 66 ≤ 19346)⟩ ⟨Nat.zero_le _, Nat.zero_le _⟩ rfl rfl (Nat.le_of_ble_eq_true rfl) dX10_same_20 (wc_D hA cy _) ?_
  refine v_aload_n C 0 dX10_same_23 rfl rfl ?_
  refine c_getS C 43 fl_10_67 rfl rfl (by decide) (okS _ 0 (by decide) rfl) dX10_same_24 ?_
  obtain ⟨q2, hq2, h⟩ := bd_of h
  refine c_call C [] [] (c_Reader_readTwo hA _ hq2) hY_Reader_readTwo rfl (by decide) (okS _ 43 (by decide) rfl) ml_10_137 ⟨(by omega : 485 + 1 ≤ 486), (by omega : 8 + (1 + 11) + 19326 ≤ 19346)⟩ ⟨Nat.zero_le _, Nat.zero_le _⟩ rfl rfl (Nat.le_of_ble_eq_true rfl) dX10_same_27 (wc_D hA cy _) ?_
  refine v_if_ne C 44 dX10_same_30 (by decide) (fun c1 => ?_) (fun c1 => ?_)
  · rw [if_neg c1] at h
    refine v_aload_n C 0 dX10_same_44 rfl rfl ?_
    refine c_getS C 43 fl_10_67 rfl rfl (by decide) (okS _ 0 (by decide) rfl) dX10_same_45 ?_
    refine c_getSN C 34 fl_10_89 rfl rfl (by decide) (okS _ 43 (by decide) rfl) dX10_same_48 ?_
    refine v_aload_n C 0 dX10_same_51 rfl rfl ?_
    refine c_getS C 43 fl_10_67 rfl rfl (by decide) (okS _ 0 (by decide) rfl) dX10_same_52 ?_
    refine c_getIN C fl_10_124 rfl (okS _ 43 (by decide) rfl) dX10_same_55 ?_
    refine v_aload_n C 0 dX10_same_58 rfl rfl ?_
    refine c_getS C 43 fl_10_67 rfl rfl (by decide) (okS _ 0 (by decide) rfl) dX10_same_59 ?_
    refine c_getIN C fl_10_140 rfl (okS _ 43 (by decide) rfl) dX10_same_62 ?_
    obtain ⟨q3, hq3, h⟩ := bd_of h
    refine c_call C [.int (q2.2.1 43 13), .int (q2.2.1 43 14)] [] (c_Signs_equal hA _ _ _ hq3) hY_Signs_equal rfl (by decide) (okS _ 34 (by decide) rfl) ml_10_143 ⟨(by omega : 2 + 1 ≤ 486), (by omega : 8 + (5 + 11) + 45 ≤ 19346)⟩ ⟨Nat.zero_le _, Nat.zero_le _⟩ rfl rfl (Nat.le_of_ble_eq_true rfl) dX10_same_65 (wc_D hA cy _) ?_
    refine v_if_eq C 75 dX10_same_68 (by decide) (fun c2 => ?_) (fun c2 => ?_)
    · rw [if_pos c2] at h
      refine v_iconst C 0 dX10_same_75 (by decide) ?_
      exact v_sub [0] rfl ((b_J_same_76 C hA) _ _ h)
    · rw [if_neg c2] at h
      refine v_iconst C 1 dX10_same_71 (by decide) ?_
      refine v_goto C 76 dX10_same_72 (by decide) ?_
      exact v_sub [0] rfl ((b_J_same_76 C hA) _ _ h)
  · rw [if_pos c1] at h
    refine v_bipush C (-10) dX10_same_33 (by decide) ?_
    refine v_aload_n C 0 dX10_same_35 rfl rfl ?_
    refine c_getS C 43 fl_10_67 rfl rfl (by decide) (okS _ 0 (by decide) rfl) dX10_same_36 ?_
    refine c_getIN C fl_10_86 rfl (okS _ 43 (by decide) rfl) dX10_same_39 ?_
    refine v_isub C dX10_same_42 ?_
    obtain rfl := Option.some.inj h
    exact v_iret C dX10_same_43
set_option maxHeartbeats 4000000 in
set_option maxRecDepth 20000 in
theorem c_J_drops {l : Launch} {D : va_G} {cy : Nat → ClassId} {ad : Nat → Nat} {q : Int32 × CS} (hA : adOK ad) (x1 : Int32) (σ : CS) (h : f_J_drops x1 σ = some q) : MV l D (cyT cy) (inC ad) yX10_drops cX10_drops 2 (some .int) (2) (43) 0 0 [.ref (ad 0), .int x1] (wc cy ad σ) (some (.int q.1)) (wc cy ad q.2) := by
  refine MV.of (by decide) (wc_D hA cy σ) (Nat.le_of_ble_eq_true rfl) [(0, .ref (ad 0)), (1, .int x1)] rfl ?_
  intro p e s m args below meth c C
  rw [f_J_drops] at h
  refine v_aload_n C 0 dX10_drops_0 rfl rfl ?_
  refine c_getS C 5 fl_10_23 rfl rfl (by decide) (okS _ 0 (by decide) rfl) dX10_drops_1 ?_
  refine v_iload_n C 1 dX10_drops_4 rfl rfl ?_
  obtain ⟨q1, hq1, h⟩ := bd_of h
  refine c_call C [.int x1] [] (c_Shelf_at hA _ _ _ hq1) hY_Shelf_at rfl (by decide) (okS _ 5 (by decide) rfl) ml_10_162 ⟨(by omega : 0 + 1 ≤ 2), (by omega : 8 + (2 + 11) + 0 ≤ 43)⟩ ⟨Nat.zero_le _, Nat.zero_le _⟩ rfl rfl (Nat.le_of_ble_eq_true rfl) dX10_drops_5 (wc_D hA cy _) ?_
  refine c_ifnonnull C 13 dX10_drops_8 (by decide) (fun a1 c1 => ?_) (fun c1 => ?_)
  · try rw [c1]
    replace h := el_s c1 h
    refine v_aload_n C 0 dX10_drops_13 rfl rfl ?_
    refine c_getS C 7 fl_10_30 rfl rfl (by decide) (okS _ 0 (by decide) rfl) dX10_drops_14 ?_
    refine v_aload_n C 0 dX10_drops_17 rfl rfl ?_
    refine c_getS C 5 fl_10_23 rfl rfl (by decide) (okS _ 0 (by decide) rfl) dX10_drops_18 ?_
    obtain ⟨q2, hq2, h⟩ := bd_of h
    refine c_call C [.ref (ad 5)] [] (c_History_note hA _ _ hq2) hY_History_note rfl (by decide) (okS _ 7 (by decide) rfl) ml_10_150 ⟨(by omega : 1 + 1 ≤ 2), (by omega : 8 + (2 + 11) + 22 ≤ 43)⟩ ⟨Nat.zero_le _, Nat.zero_le _⟩ rfl rfl (Nat.le_of_ble_eq_true rfl) dX10_drops_21 (wc_D hA cy _) ?_
    refine v_aload_n C 0 dX10_drops_24 rfl rfl ?_
    refine c_getS C 5 fl_10_23 rfl rfl (by decide) (okS _ 0 (by decide) rfl) dX10_drops_25 ?_
    refine v_iload_n C 1 dX10_drops_28 rfl rfl ?_
    obtain ⟨q3, hq3, h⟩ := bd_of h
    refine c_call C [.int x1] [] (c_Shelf_remove hA _ _ _ hq3) hY_Shelf_remove rfl (by decide) (okS _ 5 (by decide) rfl) ml_10_166 ⟨(by omega : 0 + 1 ≤ 2), (by omega : 8 + (3 + 11) + 0 ≤ 43)⟩ ⟨Nat.zero_le _, Nat.zero_le _⟩ rfl rfl (Nat.le_of_ble_eq_true rfl) dX10_drops_29 (wc_D hA cy _) ?_
    refine v_aload_n C 0 dX10_drops_32 rfl rfl ?_
    refine c_getS C 5 fl_10_23 rfl rfl (by decide) (okS _ 0 (by decide) rfl) dX10_drops_33 ?_
    refine c_getIN C fl_10_147 rfl (okS _ 5 (by decide) rfl) dX10_drops_36 ?_
    obtain rfl := Option.some.inj h
    exact v_iret C dX10_drops_39
  · try rw [c1]
    replace h := el_n c1 h
    refine v_iconst C (-1) dX10_drops_11 (by decide) ?_
    obtain rfl := Option.some.inj h
    exact v_iret C dX10_drops_12
set_option maxHeartbeats 4000000 in
set_option maxRecDepth 20000 in
theorem c_J_undo {l : Launch} {D : va_G} {cy : Nat → ClassId} {ad : Nat → Nat} {q : Int32 × CS} (hA : adOK ad) (σ : CS) (h : f_J_undo σ = some q) : MV l D (cyT cy) (inC ad) yX10_undo cX10_undo 1 (some .int) (2) (43) 0 0 [.ref (ad 0)] (wc cy ad σ) (some (.int q.1)) (wc cy ad q.2) := by
  refine MV.of (by decide) (wc_D hA cy σ) (Nat.le_of_ble_eq_true rfl) [(0, .ref (ad 0))] rfl ?_
  intro p e s m args below meth c C
  rw [f_J_undo] at h
  refine v_aload_n C 0 dX10_undo_0 rfl rfl ?_
  refine c_getS C 7 fl_10_30 rfl rfl (by decide) (okS _ 0 (by decide) rfl) dX10_undo_1 ?_
  refine c_getIN C fl_10_170 rfl (okS _ 7 (by decide) rfl) dX10_undo_4 ?_
  refine v_if_ne C 13 dX10_undo_7 (by decide) (fun c1 => ?_) (fun c1 => ?_)
  · rw [if_neg c1] at h
    refine v_aload_n C 0 dX10_undo_13 rfl rfl ?_
    refine c_getS C 7 fl_10_30 rfl rfl (by decide) (okS _ 0 (by decide) rfl) dX10_undo_14 ?_
    refine v_aload_n C 0 dX10_undo_17 rfl rfl ?_
    refine c_getS C 5 fl_10_23 rfl rfl (by decide) (okS _ 0 (by decide) rfl) dX10_undo_18 ?_
    obtain ⟨q1, hq1, h⟩ := bd_of h
    refine c_call C [.ref (ad 5)] [] (c_History_restore hA _ _ hq1) hY_History_restore rfl (by decide) (okS _ 7 (by decide) rfl) ml_10_171 ⟨(by omega : 1 + 1 ≤ 2), (by omega : 8 + (2 + 11) + 22 ≤ 43)⟩ ⟨Nat.zero_le _, Nat.zero_le _⟩ rfl rfl (Nat.le_of_ble_eq_true rfl) dX10_undo_21 (wc_D hA cy _) ?_
    refine v_aload_n C 0 dX10_undo_24 rfl rfl ?_
    refine c_getS C 7 fl_10_30 rfl rfl (by decide) (okS _ 0 (by decide) rfl) dX10_undo_25 ?_
    refine c_getIN C fl_10_170 rfl (okS _ 7 (by decide) rfl) dX10_undo_28 ?_
    obtain rfl := Option.some.inj h
    exact v_iret C dX10_undo_31
  · rw [if_pos c1] at h
    refine v_bipush C (-2) dX10_undo_10 (by decide) ?_
    obtain rfl := Option.some.inj h
    exact v_iret C dX10_undo_12
set_option maxHeartbeats 4000000 in
set_option maxRecDepth 20000 in
theorem b_J_entry_47 {p : Program} {l : Launch} {e : Env} {s : State} {m : MethodId} {args : Array Value} {below : List Frame} {meth : Method} {c : Code} {D : va_G} {cy : Nat → ClassId} {ad : Nat → Nat} {q : Int32 × CS}  (C : vC p s m args meth c cX10_entry 6 (some .int) RX10 D (cyT cy)) (hA : adOK ad) : ∀ (x3 : Int32) (s0 : Option Nat) (σ : CS), B_J_entry_47 x3 s0 σ = some q → V p l e { frames := 1, cells := 0, slots := 0, locals := 21 } s m args below meth c D (inC ad) 6 (MQ below (vQ D (inC ad) (some (.int q.1)) (wc cy ad q.2)) args s 0 0 (inC ad)) 0 0 (wc cy ad σ) 47 [(0, .ref (ad 0)), (3, .int x3)] [va_rf (Option.map ad s0)] := by
  intro x3 s0 σ h
  rw [B_J_entry_47] at h
  refine c_astore C s0 [(5, va_rf (Option.map ad s0)), (0, .ref (ad 0)), (3, .int x3)] dX10_entry_47 (by decide) rfl ?_
  refine c_aload C s0 0 dX10_entry_49 rfl ?_
  refine v_iload_n C 2 dX10_entry_51 rfl rfl ?_
  obtain ⟨a1, ha1, h⟩ := bd_of h
  rw [ha1]
  obtain ⟨g1, h⟩ := gd_of h
  obtain ⟨q1, hq1, h⟩ := bd_of h
  refine c_call C [.int x3] [] (c_Form_signAt hA _ _ _ hq1) hY_Form_signAt rfl (by decide) g1 ml_10_115 ⟨(by omega : 0 + 1 ≤ 1), (by omega : 8 + (2 + 11) + 0 ≤ 21)⟩ ⟨Nat.zero_le _, Nat.zero_le _⟩ rfl rfl (Nat.le_of_ble_eq_true rfl) dX10_entry_52 (wc_D hA cy _) ?_
  obtain rfl := Option.some.inj h
  exact v_iret C dX10_entry_55
set_option maxHeartbeats 4000000 in
set_option maxRecDepth 20000 in
theorem b_J_entry_28 {p : Program} {l : Launch} {e : Env} {s : State} {m : MethodId} {args : Array Value} {below : List Frame} {meth : Method} {c : Code} {D : va_G} {cy : Nat → ClassId} {ad : Nat → Nat} {q : Int32 × CS}  (C : vC p s m args meth c cX10_entry 6 (some .int) RX10 D (cyT cy)) (hA : adOK ad) : ∀ (σ : CS), B_J_entry_28 σ = some q → V p l e { frames := 1, cells := 0, slots := 0, locals := 21 } s m args below meth c D (inC ad) 6 (MQ below (vQ D (inC ad) (some (.int q.1)) (wc cy ad q.2)) args s 0 0 (inC ad)) 0 0 (wc cy ad σ) 28 [(0, .ref (ad 0))] [] := by
  intro σ h
  rw [B_J_entry_28] at h
  refine v_iconst C (-1) dX10_entry_28 (by decide) ?_
  obtain rfl := Option.some.inj h
  exact v_iret C dX10_entry_29
set_option maxHeartbeats 4000000 in
set_option maxRecDepth 20000 in
theorem c_J_entry {l : Launch} {D : va_G} {cy : Nat → ClassId} {ad : Nat → Nat} {q : Int32 × CS} (hA : adOK ad) (x1 : Int32) (x2 : Int32) (x3 : Int32) (σ : CS) (h : f_J_entry x1 x2 x3 σ = some q) : MV l D (cyT cy) (inC ad) yX10_entry cX10_entry 6 (some .int) (1) (21) 0 0 [.ref (ad 0), .int x1, .int x2, .int x3] (wc cy ad σ) (some (.int q.1)) (wc cy ad q.2) := by
  refine MV.of (by decide) (wc_D hA cy σ) (Nat.le_of_ble_eq_true rfl) [(0, .ref (ad 0)), (1, .int x1), (2, .int x2), (3, .int x3)] rfl ?_
  intro p e s m args below meth c C
  rw [f_J_entry] at h
  refine v_aload_n C 0 dX10_entry_0 rfl rfl ?_
  refine c_getS C 5 fl_10_23 rfl rfl (by decide) (okS _ 0 (by decide) rfl) dX10_entry_1 ?_
  refine v_iload_n C 1 dX10_entry_4 rfl rfl ?_
  obtain ⟨q1, hq1, h⟩ := bd_of h
  refine c_call C [.int x1] [] (c_Shelf_at hA _ _ _ hq1) hY_Shelf_at rfl (by decide) (okS _ 5 (by decide) rfl) ml_10_162 ⟨(by omega : 0 + 1 ≤ 1), (by omega : 8 + (2 + 11) + 0 ≤ 21)⟩ ⟨Nat.zero_le _, Nat.zero_le _⟩ rfl rfl (Nat.le_of_ble_eq_true rfl) dX10_entry_5 (wc_D hA cy _) ?_
  refine c_astore C q1.1 [(4, va_rf (Option.map ad q1.1)), (0, .ref (ad 0)), (1, .int x1), (2, .int x2), (3, .int x3)] dX10_entry_8 (by decide) rfl ?_
  refine c_aload C q1.1 0 dX10_entry_10 rfl ?_
  refine c_ifnull C 28 dX10_entry_12 (by decide) (fun c1 => ?_) (fun a1 c1 => ?_)
  · try rw [c1]
    replace h := el_n c1 h
    exact v_sub [1] rfl ((b_J_entry_28 C hA) _ h)
  · try rw [c1]
    replace h := el_s c1 h
    refine v_iload_n C 3 dX10_entry_15 rfl rfl ?_
    refine v_if_lt C 28 dX10_entry_16 (by decide) (fun c2 => ?_) (fun c2 => ?_)
    · rw [if_pos c2] at h
      exact v_sub [1] rfl ((b_J_entry_28 C hA) _ h)
    · rw [if_neg c2] at h
      refine v_iload_n C 3 dX10_entry_19 rfl rfl ?_
      refine v_iconst C 1 dX10_entry_20 (by decide) ?_
      refine v_icmp_gt C 28 dX10_entry_21 (by decide) (fun c3 => ?_) (fun c3 => ?_)
      · rw [if_pos c3] at h
        exact v_sub [1] rfl ((b_J_entry_28 C hA) _ h)
      · rw [if_neg c3] at h
        refine v_iload_n C 4 dX10_entry_24 rfl rfl ?_
        refine v_if_ge C 30 dX10_entry_25 (by decide) (fun c4 => ?_) (fun c4 => ?_)
        · rw [if_pos c4] at h
          refine v_iload_n C 3 dX10_entry_30 rfl rfl ?_
          refine v_if_ne C 42 dX10_entry_31 (by decide) (fun c5 => ?_) (fun c5 => ?_)
          · rw [if_neg c5] at h
            refine v_aload C 0 dX10_entry_42 rfl ?_
            obtain ⟨g1, h⟩ := gd_of h
            refine c_getRN C fl_10_180 rfl g1 dX10_entry_44 ?_
            exact v_sub [1, 4] rfl ((b_J_entry_47 C hA) _ _ _ h)
          · rw [if_pos c5] at h
            refine v_aload C 0 dX10_entry_34 rfl ?_
            obtain ⟨g2, h⟩ := gd_of h
            refine c_getRN C fl_10_174 rfl g2 dX10_entry_36 ?_
            refine v_goto C 47 dX10_entry_39 (by decide) ?_
            exact v_sub [1, 4] rfl ((b_J_entry_47 C hA) _ _ _ h)
        · rw [if_neg c4] at h
          exact v_sub [1] rfl ((b_J_entry_28 C hA) _ h)
set_option maxHeartbeats 4000000 in
set_option maxRecDepth 20000 in
theorem b_J_like_28 {p : Program} {l : Launch} {e : Env} {s : State} {m : MethodId} {args : Array Value} {below : List Frame} {meth : Method} {c : Code} {D : va_G} {cy : Nat → ClassId} {ad : Nat → Nat} {q : Int32 × CS}  (C : vC p s m args meth c cX10_like 5 (some .int) RX10 D (cyT cy)) (hA : adOK ad) : ∀ (σ : CS), B_J_like_28 σ = some q → V p l e { frames := 3, cells := 0, slots := 0, locals := 64 } s m args below meth c D (inC ad) 5 (MQ below (vQ D (inC ad) (some (.int q.1)) (wc cy ad q.2)) args s 0 0 (inC ad)) 0 0 (wc cy ad σ) 28 [(0, .ref (ad 0))] [] := by
  intro σ h
  rw [B_J_like_28] at h
  refine v_iconst C (-1) dX10_like_28 (by decide) ?_
  obtain rfl := Option.some.inj h
  exact v_iret C dX10_like_29
set_option maxHeartbeats 4000000 in
set_option maxRecDepth 20000 in
theorem c_J_like {l : Launch} {D : va_G} {cy : Nat → ClassId} {ad : Nat → Nat} {q : Int32 × CS} (hA : adOK ad) (x1 : Int32) (x2 : Int32) (σ : CS) (h : f_J_like x1 x2 σ = some q) : MV l D (cyT cy) (inC ad) yX10_like cX10_like 5 (some .int) (3) (64) 0 0 [.ref (ad 0), .int x1, .int x2] (wc cy ad σ) (some (.int q.1)) (wc cy ad q.2) := by
  refine MV.of (by decide) (wc_D hA cy σ) (Nat.le_of_ble_eq_true rfl) [(0, .ref (ad 0)), (1, .int x1), (2, .int x2)] rfl ?_
  intro p e s m args below meth c C
  rw [f_J_like] at h
  refine v_aload_n C 0 dX10_like_0 rfl rfl ?_
  refine c_getS C 5 fl_10_23 rfl rfl (by decide) (okS _ 0 (by decide) rfl) dX10_like_1 ?_
  refine v_iload_n C 1 dX10_like_4 rfl rfl ?_
  obtain ⟨q1, hq1, h⟩ := bd_of h
  refine c_call C [.int x1] [] (c_Shelf_at hA _ _ _ hq1) hY_Shelf_at rfl (by decide) (okS _ 5 (by decide) rfl) ml_10_162 ⟨(by omega : 0 + 1 ≤ 3), (by omega : 8 + (2 + 11) + 0 ≤ 64)⟩ ⟨Nat.zero_le _, Nat.zero_le _⟩ rfl rfl (Nat.le_of_ble_eq_true rfl) dX10_like_5 (wc_D hA cy _) ?_
  refine c_astore_n C q1.1 [(3, va_rf (Option.map ad q1.1)), (0, .ref (ad 0)), (1, .int x1), (2, .int x2)] dX10_like_8 rfl (by decide) rfl ?_
  refine v_aload_n C 1 dX10_like_9 rfl rfl ?_
  refine c_getS C 5 fl_10_23 rfl rfl (by decide) (okS _ 0 (by decide) rfl) dX10_like_10 ?_
  refine v_iload_n C 3 dX10_like_13 rfl rfl ?_
  obtain ⟨q2, hq2, h⟩ := bd_of h
  refine c_call C [.int x2] [] (c_Shelf_at hA _ _ _ hq2) hY_Shelf_at rfl (by decide) (okS _ 5 (by decide) rfl) ml_10_162 ⟨(by omega : 0 + 1 ≤ 3), (by omega : 8 + (2 + 11) + 0 ≤ 64)⟩ ⟨Nat.zero_le _, Nat.zero_le _⟩ rfl rfl (Nat.le_of_ble_eq_true rfl) dX10_like_14 (wc_D hA cy _) ?_
  refine c_astore C q2.1 [(4, va_rf (Option.map ad q2.1)), (3, va_rf (Option.map ad q1.1)), (0, .ref (ad 0)), (1, .int x1), (2, .int x2)] dX10_like_17 (by decide) (by simp [List.filter, cat_rf]) ?_
  refine c_aload_n C q1.1 1 dX10_like_19 rfl rfl ?_
  refine c_ifnull C 28 dX10_like_20 (by decide) (fun c1 => ?_) (fun a1 c1 => ?_)
  · try rw [c1]
    replace h := el_n c1 h
    exact v_sub [2] rfl ((b_J_like_28 C hA) _ h)
  · try rw [c1]
    replace h := el_s c1 h
    refine c_aload C q2.1 0 dX10_like_23 rfl ?_
    refine c_ifnonnull C 30 dX10_like_25 (by decide) (fun a2 c2 => ?_) (fun c2 => ?_)
    · try rw [c2]
      replace h := el_s c2 h
      refine v_aload_n C 1 dX10_like_30 rfl rfl ?_
      refine v_aload C 0 dX10_like_31 rfl ?_
      obtain ⟨g1, h⟩ := gd_of h
      obtain ⟨q3, hq3, h⟩ := bd_of h
      refine c_call C [.ref (ad a2)] [] (c_Entry_likeness hA _ _ _ hq3) hY_Entry_likeness rfl (by decide) g1 ml_10_183 ⟨(by omega : 2 + 1 ≤ 3), (by omega : 8 + (2 + 11) + 43 ≤ 64)⟩ ⟨Nat.zero_le _, Nat.zero_le _⟩ rfl rfl (Nat.le_of_ble_eq_true rfl) dX10_like_33 (wc_D hA cy _) ?_
      obtain rfl := Option.some.inj h
      exact v_iret C dX10_like_36
    · try rw [c2]
      replace h := el_n c2 h
      exact v_sub [2] rfl ((b_J_like_28 C hA) _ h)
set_option maxHeartbeats 4000000 in
set_option maxRecDepth 20000 in
theorem c_J_forget {l : Launch} {D : va_G} {cy : Nat → ClassId} {ad : Nat → Nat} {q : Int32 × CS} (hA : adOK ad) (σ : CS) (h : f_J_forget σ = some q) : MV l D (cyT cy) (inC ad) yX10_forget cX10_forget 2 (some .int) (1) (20) 0 0 [.ref (ad 0)] (wc cy ad σ) (some (.int q.1)) (wc cy ad q.2) := by
  refine MV.of (by decide) (wc_D hA cy σ) (Nat.le_of_ble_eq_true rfl) [(0, .ref (ad 0))] rfl ?_
  intro p e s m args below meth c C
  rw [f_J_forget] at h
  refine v_aload_n C 0 dX10_forget_0 rfl rfl ?_
  refine c_getS C 25 fl_10_37 rfl rfl (by decide) (okS _ 0 (by decide) rfl) dX10_forget_1 ?_
  refine c_getIN C fl_10_187 rfl (okS _ 25 (by decide) rfl) dX10_forget_4 ?_
  refine v_istore_n C [(1, .int (σ.1 25 2)), (0, .ref (ad 0))] dX10_forget_7 rfl (by decide) rfl ?_
  refine v_aload_n C 1 dX10_forget_8 rfl rfl ?_
  refine c_getS C 25 fl_10_37 rfl rfl (by decide) (okS _ 0 (by decide) rfl) dX10_forget_9 ?_
  obtain ⟨q1, hq1, h⟩ := bd_of h
  refine c_call C [] [] (c_Sights_empty hA _ hq1) hY_Sights_empty rfl (by decide) (okS _ 25 (by decide) rfl) ml_10_101 ⟨(by omega : 0 + 1 ≤ 1), (by omega : 8 + (1 + 11) + 0 ≤ 20)⟩ ⟨Nat.zero_le _, Nat.zero_le _⟩ rfl rfl (Nat.le_of_ble_eq_true rfl) dX10_forget_12 (wc_D hA cy _) ?_
  refine v_iload_n C 0 dX10_forget_15 rfl rfl ?_
  obtain rfl := Option.some.inj h
  exact v_iret C dX10_forget_16
set_option maxHeartbeats 4000000 in
set_option maxRecDepth 20000 in
theorem b_J_unseen_45 {p : Program} {l : Launch} {e : Env} {s : State} {m : MethodId} {args : Array Value} {below : List Frame} {meth : Method} {c : Code} {D : va_G} {cy : Nat → ClassId} {ad : Nat → Nat} {q : Int32 × CS}  (C : vC p s m args meth c cX10_unseen 4 (some .int) RX10 D (cyT cy)) (hA : adOK ad) {k4 : Int32 → Int32 → CS → Option (Int32 × CS)} (hk4 : ∀ (x1 : Int32) (x2 : Int32) (σ : CS), k4 x1 x2 σ = some q → V p l e { frames := 4, cells := 0, slots := 0, locals := 86 } s m args below meth c D (inC ad) 4 (MQ below (vQ D (inC ad) (some (.int q.1)) (wc cy ad q.2)) args s 0 0 (inC ad)) 0 0 (wc cy ad σ) 4 [(0, .ref (ad 0)), (1, .int x1), (2, .int x2)] []) : ∀ (x1 : Int32) (x2 : Int32) (σ : CS), B_J_unseen_45 k4 x1 x2 σ = some q → V p l e { frames := 4, cells := 0, slots := 0, locals := 86 } s m args below meth c D (inC ad) 4 (MQ below (vQ D (inC ad) (some (.int q.1)) (wc cy ad q.2)) args s 0 0 (inC ad)) 0 0 (wc cy ad σ) 45 [(0, .ref (ad 0)), (1, .int x1), (2, .int x2)] [] := by
  intro x1 x2 σ h
  rw [B_J_unseen_45] at h
  refine v_iinc C (x2 + 1) 2 [(2, .int (x2 + 1)), (0, .ref (ad 0)), (1, .int x1)] dX10_unseen_45 rfl rfl (by decide) rfl ?_
  refine v_goto C 4 dX10_unseen_48 (by decide) ?_
  exact v_sub [1, 2, 0] rfl (hk4 _ _ _ h)
set_option maxHeartbeats 4000000 in
set_option maxRecDepth 20000 in
theorem l_J_unseen_4 {p : Program} {l : Launch} {e : Env} {s : State} {m : MethodId} {args : Array Value} {below : List Frame} {meth : Method} {c : Code} {D : va_G} {cy : Nat → ClassId} {ad : Nat → Nat} {q : Int32 × CS}  (C : vC p s m args meth c cX10_unseen 4 (some .int) RX10 D (cyT cy)) (hA : adOK ad) : ∀ (n : Nat) (x1 : Int32) (x2 : Int32) (σ : CS), L_J_unseen_4 n x1 x2 σ = some q → V p l e { frames := 4, cells := 0, slots := 0, locals := 86 } s m args below meth c D (inC ad) 4 (MQ below (vQ D (inC ad) (some (.int q.1)) (wc cy ad q.2)) args s 0 0 (inC ad)) 0 0 (wc cy ad σ) 4 [(0, .ref (ad 0)), (1, .int x1), (2, .int x2)] [] := by
  intro n
  induction n with
  | zero =>
    intro x1 x2 σ h
    rw [L_J_unseen_4.eq_1] at h
    cases h
  | succ n ih =>
    intro x1 x2 σ h
    rw [L_J_unseen_4.eq_2] at h
    refine v_iload_n C 2 dX10_unseen_4 rfl rfl ?_
    refine v_aload_n C 0 dX10_unseen_5 rfl rfl ?_
    refine c_getS C 5 fl_10_23 rfl rfl (by decide) (okS _ 0 (by decide) rfl) dX10_unseen_6 ?_
    refine c_getIN C fl_10_147 rfl (okS _ 5 (by decide) rfl) dX10_unseen_9 ?_
    refine v_icmp_ge C 51 dX10_unseen_12 (by decide) (fun c1 => ?_) (fun c1 => ?_)
    · rw [if_pos c1] at h
      refine v_iload_n C 1 dX10_unseen_51 rfl rfl ?_
      obtain rfl := Option.some.inj h
      exact v_iret C dX10_unseen_52
    · rw [if_neg c1] at h
      refine v_aload_n C 0 dX10_unseen_15 rfl rfl ?_
      refine c_getS C 5 fl_10_23 rfl rfl (by decide) (okS _ 0 (by decide) rfl) dX10_unseen_16 ?_
      refine v_iload_n C 2 dX10_unseen_19 rfl rfl ?_
      obtain ⟨q1, hq1, h⟩ := bd_of h
      refine c_call C [.int x2] [] (c_Shelf_at hA _ _ _ hq1) hY_Shelf_at rfl (by decide) (okS _ 5 (by decide) rfl) ml_10_162 ⟨(by omega : 0 + 1 ≤ 4), (by omega : 8 + (2 + 11) + 0 ≤ 86)⟩ ⟨Nat.zero_le _, Nat.zero_le _⟩ rfl rfl (Nat.le_of_ble_eq_true rfl) dX10_unseen_20 (wc_D hA cy _) ?_
      refine c_astore_n C q1.1 [(3, va_rf (Option.map ad q1.1)), (0, .ref (ad 0)), (1, .int x1), (2, .int x2)] dX10_unseen_23 rfl (by decide) rfl ?_
      refine c_aload_n C q1.1 0 dX10_unseen_24 rfl rfl ?_
      refine c_ifnull C 45 dX10_unseen_25 (by decide) (fun c2 => ?_) (fun a1 c2 => ?_)
      · try rw [c2]
        replace h := el_n c2 h
        exact v_sub [1, 2, 3] rfl ((b_J_unseen_45 C hA ih) _ _ _ h)
      · try rw [c2]
        replace h := el_s c2 h
        refine v_aload_n C 1 dX10_unseen_28 rfl rfl ?_
        refine c_getS C 25 fl_10_37 rfl rfl (by decide) (okS _ 0 (by decide) rfl) dX10_unseen_29 ?_
        refine v_aload_n C 0 dX10_unseen_32 rfl rfl ?_
        obtain ⟨q2, hq2, h⟩ := bd_of h
        refine c_call C [.ref (ad a1)] [] (c_Sights_agreeWith hA _ _ hq2) hY_Sights_agreeWith rfl (by decide) (okS _ 25 (by decide) rfl) ml_10_191 ⟨(by omega : 3 + 1 ≤ 4), (by omega : 8 + (3 + 11) + 64 ≤ 86)⟩ ⟨Nat.zero_le _, Nat.zero_le _⟩ rfl rfl (Nat.le_of_ble_eq_true rfl) dX10_unseen_33 (wc_D hA cy _) ?_
        refine v_if_eq C 45 dX10_unseen_36 (by decide) (fun c3 => ?_) (fun c3 => ?_)
        · rw [if_pos c3] at h
          exact v_sub [1, 2, 3] rfl ((b_J_unseen_45 C hA ih) _ _ _ h)
        · rw [if_neg c3] at h
          refine v_iload_n C 2 dX10_unseen_39 rfl rfl ?_
          refine v_iconst C 1 dX10_unseen_40 (by decide) ?_
          refine v_iload_n C 3 dX10_unseen_41 rfl rfl ?_
          refine v_ishl C dX10_unseen_42 ?_
          refine v_ior C dX10_unseen_43 ?_
          refine v_istore_n C [(1, .int (x1 ||| (1 <<< (x2 &&& 31)))), (3, .ref (ad a1)), (0, .ref (ad 0)), (2, .int x2)] dX10_unseen_44 rfl (by decide) rfl ?_
          exact v_sub [2, 0, 3] rfl ((b_J_unseen_45 C hA ih) _ _ _ h)
set_option maxHeartbeats 4000000 in
set_option maxRecDepth 20000 in
theorem c_J_unseen {l : Launch} {D : va_G} {cy : Nat → ClassId} {ad : Nat → Nat} {q : Int32 × CS} (hA : adOK ad) (σ : CS) (h : f_J_unseen σ = some q) : MV l D (cyT cy) (inC ad) yX10_unseen cX10_unseen 4 (some .int) (4) (86) 0 0 [.ref (ad 0)] (wc cy ad σ) (some (.int q.1)) (wc cy ad q.2) := by
  refine MV.of (by decide) (wc_D hA cy σ) (Nat.le_of_ble_eq_true rfl) [(0, .ref (ad 0))] rfl ?_
  intro p e s m args below meth c C
  rw [f_J_unseen] at h
  refine v_iconst C 0 dX10_unseen_0 (by decide) ?_
  refine v_istore_n C [(1, .int 0), (0, .ref (ad 0))] dX10_unseen_1 rfl (by decide) rfl ?_
  refine v_iconst C 0 dX10_unseen_2 (by decide) ?_
  refine v_istore_n C [(2, .int 0), (1, .int 0), (0, .ref (ad 0))] dX10_unseen_3 rfl (by decide) rfl ?_
  exact v_sub [2, 1, 0] rfl ((l_J_unseen_4 C hA 10000) _ _ _ h)
set_option maxHeartbeats 4000000 in
set_option maxRecDepth 20000 in
theorem b_J_keep_9 {p : Program} {l : Launch} {e : Env} {s : State} {m : MethodId} {args : Array Value} {below : List Frame} {meth : Method} {c : Code} {D : va_G} {cy : Nat → ClassId} {ad : Nat → Nat} {q : Int32 × CS}  (C : vC p s m args meth c cX10_keep 2 (some .int) RX10 D (cyT cy)) (hA : adOK ad) : ∀ (σ : CS), B_J_keep_9 σ = some q → V p l e { frames := 1, cells := 0, slots := 0, locals := 22 } s m args below meth c D (inC ad) 2 (MQ below (vQ D (inC ad) (some (.int q.1)) (wc cy ad q.2)) args s 0 0 (inC ad)) 0 0 (wc cy ad σ) 9 [(0, .ref (ad 0))] [] := by
  intro σ h
  rw [B_J_keep_9] at h
  refine v_iconst C (-1) dX10_keep_9 (by decide) ?_
  obtain rfl := Option.some.inj h
  exact v_iret C dX10_keep_10
set_option maxHeartbeats 4000000 in
set_option maxRecDepth 20000 in
theorem c_J_keep {l : Launch} {D : va_G} {cy : Nat → ClassId} {ad : Nat → Nat} {q : Int32 × CS} (hA : adOK ad) (x1 : Int32) (σ : CS) (h : f_J_keep x1 σ = some q) : MV l D (cyT cy) (inC ad) yX10_keep cX10_keep 2 (some .int) (1) (22) 0 0 [.ref (ad 0), .int x1] (wc cy ad σ) (some (.int q.1)) (wc cy ad q.2) := by
  refine MV.of (by decide) (wc_D hA cy σ) (Nat.le_of_ble_eq_true rfl) [(0, .ref (ad 0)), (1, .int x1)] rfl ?_
  intro p e s m args below meth c C
  rw [f_J_keep] at h
  refine v_iload_n C 1 dX10_keep_0 rfl rfl ?_
  refine v_if_lt C 9 dX10_keep_1 (by decide) (fun c1 => ?_) (fun c1 => ?_)
  · rw [if_pos c1] at h
    exact v_sub [0] rfl ((b_J_keep_9 C hA) _ h)
  · rw [if_neg c1] at h
    refine v_iload_n C 1 dX10_keep_4 rfl rfl ?_
    refine v_iconst C 2 dX10_keep_5 (by decide) ?_
    refine v_icmp_lt C 11 dX10_keep_6 (by decide) (fun c2 => ?_) (fun c2 => ?_)
    · rw [if_pos c2] at h
      refine v_aload_n C 0 dX10_keep_11 rfl rfl ?_
      refine c_getS C 28 fl_10_41 rfl rfl (by decide) (okS _ 0 (by decide) rfl) dX10_keep_12 ?_
      refine v_iload_n C 1 dX10_keep_15 rfl rfl ?_
      obtain ⟨g1, h⟩ := gd_of h
      refine c_aald C (okS _ 28 (by decide) rfl) (by decide) rfl (ix_in g1) dX10_keep_16 ?_
      refine v_aload_n C 0 dX10_keep_17 rfl rfl ?_
      refine c_getS C 5 fl_10_23 rfl rfl (by decide) (okS _ 0 (by decide) rfl) dX10_keep_18 ?_
      obtain ⟨a1, ha1, h⟩ := bd_of h
      rw [ha1]
      obtain ⟨g2, h⟩ := gd_of h
      obtain ⟨q1, hq1, h⟩ := bd_of h
      refine c_call C [.ref (ad 5)] [] (c_Shelf_become hA _ _ _ hq1) hY_Shelf_become rfl (by decide) g2 ml_10_195 ⟨(by omega : 0 + 1 ≤ 1), (by omega : 8 + (3 + 11) + 0 ≤ 22)⟩ ⟨Nat.zero_le _, Nat.zero_le _⟩ rfl rfl (Nat.le_of_ble_eq_true rfl) dX10_keep_21 (wc_D hA cy _) ?_
      refine v_aload_n C 0 dX10_keep_24 rfl rfl ?_
      refine c_getS C 29 fl_10_45 rfl rfl (by decide) (okS _ 0 (by decide) rfl) dX10_keep_25 ?_
      refine v_iload_n C 1 dX10_keep_28 rfl rfl ?_
      refine v_iconst C 1 dX10_keep_29 (by decide) ?_
      obtain ⟨g3, h⟩ := gd_of h
      refine c_zast C (Or.inr rfl) (okS _ 29 (by decide) rfl) (ix_in g3) dX10_keep_30 ?_
      refine v_aload_n C 0 dX10_keep_31 rfl rfl ?_
      refine c_getS C 5 fl_10_23 rfl rfl (by decide) (okS _ 0 (by decide) rfl) dX10_keep_32 ?_
      refine c_getIN C fl_10_147 rfl (okS _ 5 (by decide) rfl) dX10_keep_35 ?_
      obtain rfl := Option.some.inj h
      exact v_iret C dX10_keep_38
    · rw [if_neg c2] at h
      exact v_sub [0] rfl ((b_J_keep_9 C hA) _ h)
set_option maxHeartbeats 4000000 in
set_option maxRecDepth 20000 in
theorem b_J_back_9 {p : Program} {l : Launch} {e : Env} {s : State} {m : MethodId} {args : Array Value} {below : List Frame} {meth : Method} {c : Code} {D : va_G} {cy : Nat → ClassId} {ad : Nat → Nat} {q : Int32 × CS}  (C : vC p s m args meth c cX10_back 2 (some .int) RX10 D (cyT cy)) (hA : adOK ad) : ∀ (σ : CS), B_J_back_9 σ = some q → V p l e { frames := 1, cells := 0, slots := 0, locals := 22 } s m args below meth c D (inC ad) 2 (MQ below (vQ D (inC ad) (some (.int q.1)) (wc cy ad q.2)) args s 0 0 (inC ad)) 0 0 (wc cy ad σ) 9 [(0, .ref (ad 0))] [] := by
  intro σ h
  rw [B_J_back_9] at h
  refine v_iconst C (-1) dX10_back_9 (by decide) ?_
  obtain rfl := Option.some.inj h
  exact v_iret C dX10_back_10
set_option maxHeartbeats 4000000 in
set_option maxRecDepth 20000 in
theorem c_J_back {l : Launch} {D : va_G} {cy : Nat → ClassId} {ad : Nat → Nat} {q : Int32 × CS} (hA : adOK ad) (x1 : Int32) (σ : CS) (h : f_J_back x1 σ = some q) : MV l D (cyT cy) (inC ad) yX10_back cX10_back 2 (some .int) (1) (22) 0 0 [.ref (ad 0), .int x1] (wc cy ad σ) (some (.int q.1)) (wc cy ad q.2) := by
  refine MV.of (by decide) (wc_D hA cy σ) (Nat.le_of_ble_eq_true rfl) [(0, .ref (ad 0)), (1, .int x1)] rfl ?_
  intro p e s m args below meth c C
  rw [f_J_back] at h
  refine v_iload_n C 1 dX10_back_0 rfl rfl ?_
  refine v_if_lt C 9 dX10_back_1 (by decide) (fun c1 => ?_) (fun c1 => ?_)
  · rw [if_pos c1] at h
    exact v_sub [0] rfl ((b_J_back_9 C hA) _ h)
  · rw [if_neg c1] at h
    refine v_iload_n C 1 dX10_back_4 rfl rfl ?_
    refine v_iconst C 2 dX10_back_5 (by decide) ?_
    refine v_icmp_lt C 11 dX10_back_6 (by decide) (fun c2 => ?_) (fun c2 => ?_)
    · rw [if_pos c2] at h
      refine v_aload_n C 0 dX10_back_11 rfl rfl ?_
      refine c_getS C 29 fl_10_45 rfl rfl (by decide) (okS _ 0 (by decide) rfl) dX10_back_12 ?_
      refine v_iload_n C 1 dX10_back_15 rfl rfl ?_
      obtain ⟨g1, h⟩ := gd_of h
      refine c_zald C (okS _ 29 (by decide) rfl) (ix_in g1) dX10_back_16 ?_
      refine v_if_ne C 23 dX10_back_17 (by decide) (fun c3 => ?_) (fun c3 => ?_)
      · rw [if_neg c3] at h
        refine v_aload_n C 0 dX10_back_23 rfl rfl ?_
        refine c_getS C 5 fl_10_23 rfl rfl (by decide) (okS _ 0 (by decide) rfl) dX10_back_24 ?_
        refine v_aload_n C 0 dX10_back_27 rfl rfl ?_
        refine c_getS C 28 fl_10_41 rfl rfl (by decide) (okS _ 0 (by decide) rfl) dX10_back_28 ?_
        refine v_iload_n C 1 dX10_back_31 rfl rfl ?_
        obtain ⟨g2, h⟩ := gd_of h
        refine c_aald C (okS _ 28 (by decide) rfl) (by decide) rfl (ix_in g2) dX10_back_32 ?_
        obtain ⟨q1, hq1, h⟩ := bd_of h
        refine c_call C [va_rf (Option.map ad (rfv σ 28 (x1 : Int32).toNatClampNeg))] [] (c_Shelf_become hA _ _ _ hq1) hY_Shelf_become rfl (by decide) (okS _ 5 (by decide) rfl) ml_10_195 ⟨(by omega : 0 + 1 ≤ 1), (by omega : 8 + (3 + 11) + 0 ≤ 22)⟩ ⟨Nat.zero_le _, Nat.zero_le _⟩ rfl rfl (Nat.le_of_ble_eq_true rfl) dX10_back_33 (wc_D hA cy _) ?_
        refine v_aload_n C 0 dX10_back_36 rfl rfl ?_
        refine c_getS C 7 fl_10_30 rfl rfl (by decide) (okS _ 0 (by decide) rfl) dX10_back_37 ?_
        obtain ⟨q2, hq2, h⟩ := bd_of h
        refine c_call C [] [] (c_History_empty hA _ hq2) hY_History_empty rfl (by decide) (okS _ 7 (by decide) rfl) ml_10_100 ⟨(by omega : 0 + 1 ≤ 1), (by omega : 8 + (1 + 11) + 0 ≤ 22)⟩ ⟨Nat.zero_le _, Nat.zero_le _⟩ rfl rfl (Nat.le_of_ble_eq_true rfl) dX10_back_40 (wc_D hA cy _) ?_
        refine v_aload_n C 0 dX10_back_43 rfl rfl ?_
        refine c_getS C 5 fl_10_23 rfl rfl (by decide) (okS _ 0 (by decide) rfl) dX10_back_44 ?_
        refine c_getIN C fl_10_147 rfl (okS _ 5 (by decide) rfl) dX10_back_47 ?_
        obtain rfl := Option.some.inj h
        exact v_iret C dX10_back_50
      · rw [if_pos c3] at h
        refine v_bipush C (-2) dX10_back_20 (by decide) ?_
        obtain rfl := Option.some.inj h
        exact v_iret C dX10_back_22
    · rw [if_neg c2] at h
      exact v_sub [0] rfl ((b_J_back_9 C hA) _ h)
set_option maxHeartbeats 4000000 in
set_option maxRecDepth 20000 in
theorem c_J_count {l : Launch} {D : va_G} {cy : Nat → ClassId} {ad : Nat → Nat} {q : Int32 × CS} (hA : adOK ad) (x1 : Int32) (σ : CS) (h : f_J_count x1 σ = some q) : MV l D (cyT cy) (inC ad) yX10_count cX10_count 2 (some .int) (0) (0) 0 0 [.ref (ad 0), .int x1] (wc cy ad σ) (some (.int q.1)) (wc cy ad q.2) := by
  refine MV.of (by decide) (wc_D hA cy σ) (Nat.le_of_ble_eq_true rfl) [(0, .ref (ad 0)), (1, .int x1)] rfl ?_
  intro p e s m args below meth c C
  rw [f_J_count] at h
  refine v_iload_n C 1 dX10_count_0 rfl rfl ?_
  by_cases c1 : x1 = 0
  · rw [if_pos c1] at h
    refine v_tableIn C 40 dX10_count_1 (by rw [c1]; decide) (by rw [c1]; decide) (by rw [c1]; try rfl) (by decide) ?_
    refine v_aload_n C 0 dX10_count_40 rfl rfl ?_
    refine c_getR C fl_10_16 rfl (okS _ 0 (by decide) rfl) dX10_count_41 ?_
    obtain ⟨a1, ha1, h⟩ := bd_of h
    rw [ha1]
    obtain ⟨g1, h⟩ := gd_of h
    refine c_getIN C fl_10_102 rfl g1 dX10_count_44 ?_
    obtain rfl := Option.some.inj h
    exact v_iret C dX10_count_47
  rw [if_neg c1] at h
  by_cases c2 : x1 = 1
  · rw [if_pos c2] at h
    refine v_tableIn C 48 dX10_count_1 (by rw [c2]; decide) (by rw [c2]; decide) (by rw [c2]; try rfl) (by decide) ?_
    refine v_aload_n C 0 dX10_count_48 rfl rfl ?_
    refine c_getR C fl_10_16 rfl (okS _ 0 (by decide) rfl) dX10_count_49 ?_
    obtain ⟨a2, ha2, h⟩ := bd_of h
    rw [ha2]
    obtain ⟨g2, h⟩ := gd_of h
    refine c_getIN C fl_10_105 rfl g2 dX10_count_52 ?_
    obtain rfl := Option.some.inj h
    exact v_iret C dX10_count_55
  rw [if_neg c2] at h
  by_cases c3 : x1 = 2
  · rw [if_pos c3] at h
    refine v_tableIn C 56 dX10_count_1 (by rw [c3]; decide) (by rw [c3]; decide) (by rw [c3]; try rfl) (by decide) ?_
    refine v_aload_n C 0 dX10_count_56 rfl rfl ?_
    refine c_getS C 5 fl_10_23 rfl rfl (by decide) (okS _ 0 (by decide) rfl) dX10_count_57 ?_
    refine c_getIN C fl_10_147 rfl (okS _ 5 (by decide) rfl) dX10_count_60 ?_
    obtain rfl := Option.some.inj h
    exact v_iret C dX10_count_63
  rw [if_neg c3] at h
  by_cases c4 : x1 = 3
  · rw [if_pos c4] at h
    refine v_tableIn C 64 dX10_count_1 (by rw [c4]; decide) (by rw [c4]; decide) (by rw [c4]; try rfl) (by decide) ?_
    refine v_aload_n C 0 dX10_count_64 rfl rfl ?_
    refine c_getS C 25 fl_10_37 rfl rfl (by decide) (okS _ 0 (by decide) rfl) dX10_count_65 ?_
    refine c_getIN C fl_10_187 rfl (okS _ 25 (by decide) rfl) dX10_count_68 ?_
    obtain rfl := Option.some.inj h
    exact v_iret C dX10_count_71
  rw [if_neg c4] at h
  by_cases c5 : x1 = 4
  · rw [if_pos c5] at h
    refine v_tableIn C 72 dX10_count_1 (by rw [c5]; decide) (by rw [c5]; decide) (by rw [c5]; try rfl) (by decide) ?_
    refine v_aload_n C 0 dX10_count_72 rfl rfl ?_
    refine c_getI C fl_10_71 rfl (okS _ 0 (by decide) rfl) dX10_count_73 ?_
    obtain rfl := Option.some.inj h
    exact v_iret C dX10_count_76
  rw [if_neg c5] at h
  by_cases c6 : x1 = 5
  · rw [if_pos c6] at h
    refine v_tableIn C 77 dX10_count_1 (by rw [c6]; decide) (by rw [c6]; decide) (by rw [c6]; try rfl) (by decide) ?_
    refine v_aload_n C 0 dX10_count_77 rfl rfl ?_
    refine c_getS C 7 fl_10_30 rfl rfl (by decide) (okS _ 0 (by decide) rfl) dX10_count_78 ?_
    refine c_getIN C fl_10_170 rfl (okS _ 7 (by decide) rfl) dX10_count_81 ?_
    obtain rfl := Option.some.inj h
    exact v_iret C dX10_count_84
  rw [if_neg c6] at h
  refine v_tableOut C 85 dX10_count_1 (sw_out 5 (by decide) (fun i hi9 => by have k0 := lv_neT c1 (show (0 : Int32).toInt = 0 from by decide); have k1 := lv_neT c2 (show (1 : Int32).toInt = 1 from by decide); have k2 := lv_neT c3 (show (2 : Int32).toInt = 2 from by decide); have k3 := lv_neT c4 (show (3 : Int32).toInt = 3 from by decide); have k4 := lv_neT c5 (show (4 : Int32).toInt = 4 from by decide); have k5 := lv_neT c6 (show (5 : Int32).toInt = 5 from by decide); omega)) (by decide) ?_
  refine v_iconst C (-1) dX10_count_85 (by decide) ?_
  obtain rfl := Option.some.inj h
  exact v_iret C dX10_count_86
