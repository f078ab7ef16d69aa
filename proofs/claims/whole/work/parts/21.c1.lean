theorem dX9_put_0 : decode cX9_put 0 = .ok (.aload_n 0, 1) := by decide +kernel
theorem dX9_put_1 : decode cX9_put 1 = .ok (.getfield 9, 3) := by decide +kernel
theorem dX9_put_4 : decode cX9_put 4 = .ok (.getfield 33, 3) := by decide +kernel
theorem dX9_put_7 : decode cX9_put 7 = .ok (.aload_n 0, 1) := by decide +kernel
theorem dX9_put_8 : decode cX9_put 8 = .ok (.getfield 39, 3) := by decide +kernel
theorem dX9_put_11 : decode cX9_put 11 = .ok (.isub, 1) := by decide +kernel
theorem dX9_put_12 : decode cX9_put 12 = .ok (.bipush 50, 2) := by decide +kernel
theorem dX9_put_14 : decode cX9_put 14 = .ok (.if_icmp .ge 7, 3) := by decide +kernel
theorem dX9_put_17 : decode cX9_put 17 = .ok (.iload_n 1, 1) := by decide +kernel
theorem dX9_put_18 : decode cX9_put 18 = .ok (.ifCond .ne 8, 3) := by decide +kernel
theorem dX9_put_21 : decode cX9_put 21 = .ok (.aload_n 0, 1) := by decide +kernel
theorem dX9_put_22 : decode cX9_put 22 = .ok (.iconst 1, 1) := by decide +kernel
theorem dX9_put_23 : decode cX9_put 23 = .ok (.putfield 42, 3) := by decide +kernel
theorem dX9_put_26 : decode cX9_put 26 = .ok (.aload_n 0, 1) := by decide +kernel
theorem dX9_put_27 : decode cX9_put 27 = .ok (.getfield 42, 3) := by decide +kernel
theorem dX9_put_30 : decode cX9_put 30 = .ok (.ifCond .ne 19, 3) := by decide +kernel
theorem dX9_put_33 : decode cX9_put 33 = .ok (.aload_n 0, 1) := by decide +kernel
theorem dX9_put_34 : decode cX9_put 34 = .ok (.getfield 9, 3) := by decide +kernel
theorem dX9_put_37 : decode cX9_put 37 = .ok (.iload_n 1, 1) := by decide +kernel
theorem dX9_put_38 : decode cX9_put 38 = .ok (.invokevirtual 46, 3) := by decide +kernel
theorem dX9_put_41 : decode cX9_put 41 = .ok (.ifCond .ne 8, 3) := by decide +kernel
theorem dX9_put_44 : decode cX9_put 44 = .ok (.aload_n 0, 1) := by decide +kernel
theorem dX9_put_45 : decode cX9_put 45 = .ok (.iconst 1, 1) := by decide +kernel
theorem dX9_put_46 : decode cX9_put 46 = .ok (.putfield 42, 3) := by decide +kernel
theorem dX9_put_49 : decode cX9_put 49 = .ok (.return_, 1) := by decide +kernel
theorem dX7_at_0 : decode cX7_at 0 = .ok (.iload_n 1, 1) := by decide +kernel
theorem dX7_at_1 : decode cX7_at 1 = .ok (.ifCond .lt 27, 3) := by decide +kernel
theorem dX7_at_4 : decode cX7_at 4 = .ok (.iload_n 1, 1) := by decide +kernel
theorem dX7_at_5 : decode cX7_at 5 = .ok (.aload_n 0, 1) := by decide +kernel
theorem dX7_at_6 : decode cX7_at 6 = .ok (.getfield 21, 3) := by decide +kernel
theorem dX7_at_9 : decode cX7_at 9 = .ok (.if_icmp .ge 19, 3) := by decide +kernel
theorem dX7_at_12 : decode cX7_at 12 = .ok (.iload_n 1, 1) := by decide +kernel
theorem dX7_at_13 : decode cX7_at 13 = .ok (.sipush 3600, 3) := by decide +kernel
theorem dX7_at_16 : decode cX7_at 16 = .ok (.if_icmp .ge 12, 3) := by decide +kernel
theorem dX7_at_19 : decode cX7_at 19 = .ok (.aload_n 0, 1) := by decide +kernel
theorem dX7_at_20 : decode cX7_at 20 = .ok (.getfield 11, 3) := by decide +kernel
theorem dX7_at_23 : decode cX7_at 23 = .ok (.iload_n 1, 1) := by decide +kernel
theorem dX7_at_24 : decode cX7_at 24 = .ok (.iaload, 1) := by decide +kernel
theorem dX7_at_25 : decode cX7_at 25 = .ok (.goto 4, 3) := by decide +kernel
theorem dX7_at_28 : decode cX7_at 28 = .ok (.iconst 0, 1) := by decide +kernel
theorem dX7_at_29 : decode cX7_at 29 = .ok (.ireturn, 1) := by decide +kernel
theorem dX7_partsOf_0 : decode cX7_partsOf 0 = .ok (.iload_n 1, 1) := by decide +kernel
theorem dX7_partsOf_1 : decode cX7_partsOf 1 = .ok (.lookupswitch 71 #[(44, 67), (46, 67), (60, 69), (62, 69), (80, 67), (83, 67), (92, 69)], 67) := by decide +kernel
theorem dX7_partsOf_68 : decode cX7_partsOf 68 = .ok (.iconst 2, 1) := by decide +kernel
theorem dX7_partsOf_69 : decode cX7_partsOf 69 = .ok (.ireturn, 1) := by decide +kernel
theorem dX7_partsOf_70 : decode cX7_partsOf 70 = .ok (.iconst 1, 1) := by decide +kernel
theorem dX7_partsOf_71 : decode cX7_partsOf 71 = .ok (.ireturn, 1) := by decide +kernel
theorem dX7_partsOf_72 : decode cX7_partsOf 72 = .ok (.iload_n 1, 1) := by decide +kernel
theorem dX7_partsOf_73 : decode cX7_partsOf 73 = .ok (.bipush 65, 2) := by decide +kernel
theorem dX7_partsOf_75 : decode cX7_partsOf 75 = .ok (.isub, 1) := by decide +kernel
theorem dX7_partsOf_76 : decode cX7_partsOf 76 = .ok (.istore_n 2, 1) := by decide +kernel
theorem dX7_partsOf_77 : decode cX7_partsOf 77 = .ok (.iload_n 2, 1) := by decide +kernel
theorem dX7_partsOf_78 : decode cX7_partsOf 78 = .ok (.ifCond .lt 30, 3) := by decide +kernel
theorem dX7_partsOf_81 : decode cX7_partsOf 81 = .ok (.iload_n 2, 1) := by decide +kernel
theorem dX7_partsOf_82 : decode cX7_partsOf 82 = .ok (.aload_n 0, 1) := by decide +kernel
theorem dX7_partsOf_83 : decode cX7_partsOf 83 = .ok (.getfield 25, 3) := by decide +kernel
theorem dX7_partsOf_86 : decode cX7_partsOf 86 = .ok (.if_icmp .ge 22, 3) := by decide +kernel
theorem dX7_partsOf_89 : decode cX7_partsOf 89 = .ok (.iload_n 2, 1) := by decide +kernel
theorem dX7_partsOf_90 : decode cX7_partsOf 90 = .ok (.iconst 3, 1) := by decide +kernel
theorem dX7_partsOf_91 : decode cX7_partsOf 91 = .ok (.if_icmp .ge 17, 3) := by decide +kernel
theorem dX7_partsOf_94 : decode cX7_partsOf 94 = .ok (.aload_n 0, 1) := by decide +kernel
theorem dX7_partsOf_95 : decode cX7_partsOf 95 = .ok (.getfield 15, 3) := by decide +kernel
theorem dX7_partsOf_98 : decode cX7_partsOf 98 = .ok (.iload_n 2, 1) := by decide +kernel
theorem dX7_partsOf_99 : decode cX7_partsOf 99 = .ok (.iaload, 1) := by decide +kernel
theorem dX7_partsOf_100 : decode cX7_partsOf 100 = .ok (.iconst (-1), 1) := by decide +kernel
theorem dX7_partsOf_101 : decode cX7_partsOf 101 = .ok (.if_icmp .eq 7, 3) := by decide +kernel
theorem dX7_partsOf_104 : decode cX7_partsOf 104 = .ok (.iconst 1, 1) := by decide +kernel
theorem dX7_partsOf_105 : decode cX7_partsOf 105 = .ok (.goto 4, 3) := by decide +kernel
theorem dX7_partsOf_108 : decode cX7_partsOf 108 = .ok (.iconst 0, 1) := by decide +kernel
theorem dX7_partsOf_109 : decode cX7_partsOf 109 = .ok (.ireturn, 1) := by decide +kernel
theorem dX7_behind_0 : decode cX7_behind 0 = .ok (.iconst 1, 1) := by decide +kernel
theorem dX7_behind_1 : decode cX7_behind 1 = .ok (.istore_n 2, 1) := by decide +kernel
theorem dX7_behind_2 : decode cX7_behind 2 = .ok (.iload_n 1, 1) := by decide +kernel
theorem dX7_behind_3 : decode cX7_behind 3 = .ok (.istore_n 3, 1) := by decide +kernel
theorem dX7_behind_4 : decode cX7_behind 4 = .ok (.iload_n 2, 1) := by decide +kernel
theorem dX7_behind_5 : decode cX7_behind 5 = .ok (.ifCond .le 31, 3) := by decide +kernel
theorem dX7_behind_8 : decode cX7_behind 8 = .ok (.iload_n 3, 1) := by decide +kernel
theorem dX7_behind_9 : decode cX7_behind 9 = .ok (.aload_n 0, 1) := by decide +kernel
theorem dX7_behind_10 : decode cX7_behind 10 = .ok (.getfield 21, 3) := by decide +kernel
theorem dX7_behind_13 : decode cX7_behind 13 = .ok (.if_icmp .ge 23, 3) := by decide +kernel
theorem dX7_behind_16 : decode cX7_behind 16 = .ok (.iload_n 2, 1) := by decide +kernel
theorem dX7_behind_17 : decode cX7_behind 17 = .ok (.aload_n 0, 1) := by decide +kernel
theorem dX7_behind_18 : decode cX7_behind 18 = .ok (.aload_n 0, 1) := by decide +kernel
theorem dX7_behind_19 : decode cX7_behind 19 = .ok (.iload_n 3, 1) := by decide +kernel
theorem dX7_behind_20 : decode cX7_behind 20 = .ok (.invokevirtual 62, 3) := by decide +kernel
theorem dX7_behind_23 : decode cX7_behind 23 = .ok (.invokevirtual 66, 3) := by decide +kernel
theorem dX7_behind_26 : decode cX7_behind 26 = .ok (.iconst 1, 1) := by decide +kernel
theorem dX7_behind_27 : decode cX7_behind 27 = .ok (.isub, 1) := by decide +kernel
theorem dX7_behind_28 : decode cX7_behind 28 = .ok (.iadd, 1) := by decide +kernel
theorem dX7_behind_29 : decode cX7_behind 29 = .ok (.istore_n 2, 1) := by decide +kernel
theorem dX7_behind_30 : decode cX7_behind 30 = .ok (.iinc 3 1, 3) := by decide +kernel
theorem dX7_behind_33 : decode cX7_behind 33 = .ok (.goto (-29), 3) := by decide +kernel
theorem dX7_behind_36 : decode cX7_behind 36 = .ok (.iload_n 3, 1) := by decide +kernel
theorem dX7_behind_37 : decode cX7_behind 37 = .ok (.ireturn, 1) := by decide +kernel
theorem dX9_putCopy_0 : decode cX9_putCopy 0 = .ok (.iload_n 1, 1) := by decide +kernel
theorem dX9_putCopy_1 : decode cX9_putCopy 1 = .ok (.iconst (-1), 1) := by decide +kernel
theorem dX9_putCopy_2 : decode cX9_putCopy 2 = .ok (.if_icmp .ne 4, 3) := by decide +kernel
theorem dX9_putCopy_5 : decode cX9_putCopy 5 = .ok (.return_, 1) := by decide +kernel
theorem dX9_putCopy_6 : decode cX9_putCopy 6 = .ok (.aload_n 0, 1) := by decide +kernel
theorem dX9_putCopy_7 : decode cX9_putCopy 7 = .ok (.getfield 9, 3) := by decide +kernel
theorem dX9_putCopy_10 : decode cX9_putCopy 10 = .ok (.iload_n 1, 1) := by decide +kernel
theorem dX9_putCopy_11 : decode cX9_putCopy 11 = .ok (.invokevirtual 50, 3) := by decide +kernel
theorem dX9_putCopy_14 : decode cX9_putCopy 14 = .ok (.istore_n 2, 1) := by decide +kernel
theorem dX9_putCopy_15 : decode cX9_putCopy 15 = .ok (.iload_n 1, 1) := by decide +kernel
theorem dX9_putCopy_16 : decode cX9_putCopy 16 = .ok (.istore_n 3, 1) := by decide +kernel
theorem dX9_putCopy_17 : decode cX9_putCopy 17 = .ok (.iload_n 3, 1) := by decide +kernel
theorem dX9_putCopy_18 : decode cX9_putCopy 18 = .ok (.iload_n 2, 1) := by decide +kernel
theorem dX9_putCopy_19 : decode cX9_putCopy 19 = .ok (.if_icmp .ge 21, 3) := by decide +kernel
theorem dX9_putCopy_22 : decode cX9_putCopy 22 = .ok (.aload_n 0, 1) := by decide +kernel
theorem dX9_putCopy_23 : decode cX9_putCopy 23 = .ok (.aload_n 0, 1) := by decide +kernel
theorem dX9_putCopy_24 : decode cX9_putCopy 24 = .ok (.getfield 9, 3) := by decide +kernel
theorem dX9_putCopy_27 : decode cX9_putCopy 27 = .ok (.iload_n 3, 1) := by decide +kernel
theorem dX9_putCopy_28 : decode cX9_putCopy 28 = .ok (.invokevirtual 54, 3) := by decide +kernel
theorem dX9_putCopy_31 : decode cX9_putCopy 31 = .ok (.invokevirtual 22, 3) := by decide +kernel
theorem dX9_putCopy_34 : decode cX9_putCopy 34 = .ok (.iinc 3 1, 3) := by decide +kernel
theorem dX9_putCopy_37 : decode cX9_putCopy 37 = .ok (.goto (-20), 3) := by decide +kernel
theorem dX9_putCopy_40 : decode cX9_putCopy 40 = .ok (.return_, 1) := by decide +kernel
theorem dX9_written_0 : decode cX9_written 0 = .ok (.aload_n 0, 1) := by decide +kernel
theorem dX9_written_1 : decode cX9_written 1 = .ok (.getfield 42, 3) := by decide +kernel
theorem dX9_written_4 : decode cX9_written 4 = .ok (.ifCond .eq 7, 3) := by decide +kernel
theorem dX9_written_7 : decode cX9_written 7 = .ok (.iconst (-1), 1) := by decide +kernel
theorem dX9_written_8 : decode cX9_written 8 = .ok (.goto 7, 3) := by decide +kernel
theorem dX9_written_11 : decode cX9_written 11 = .ok (.aload_n 0, 1) := by decide +kernel
theorem dX9_written_12 : decode cX9_written 12 = .ok (.getfield 39, 3) := by decide +kernel
theorem dX9_written_15 : decode cX9_written 15 = .ok (.ireturn, 1) := by decide +kernel
theorem dX9_join_0 : decode cX9_join 0 = .ok (.aload_n 0, 1) := by decide +kernel
theorem dX9_join_1 : decode cX9_join 1 = .ok (.invokevirtual 19, 3) := by decide +kernel
theorem dX9_join_4 : decode cX9_join 4 = .ok (.aload_n 0, 1) := by decide +kernel
theorem dX9_join_5 : decode cX9_join 5 = .ok (.iload_n 1, 1) := by decide +kernel
theorem dX9_join_6 : decode cX9_join 6 = .ok (.invokevirtual 22, 3) := by decide +kernel
theorem dX9_join_9 : decode cX9_join 9 = .ok (.aload_n 0, 1) := by decide +kernel
theorem dX9_join_10 : decode cX9_join 10 = .ok (.iload_n 2, 1) := by decide +kernel
theorem dX9_join_11 : decode cX9_join 11 = .ok (.invokevirtual 26, 3) := by decide +kernel
theorem dX9_join_14 : decode cX9_join 14 = .ok (.aload_n 0, 1) := by decide +kernel
theorem dX9_join_15 : decode cX9_join 15 = .ok (.iload_n 3, 1) := by decide +kernel
theorem dX9_join_16 : decode cX9_join 16 = .ok (.invokevirtual 26, 3) := by decide +kernel
theorem dX9_join_19 : decode cX9_join 19 = .ok (.aload_n 0, 1) := by decide +kernel
theorem dX9_join_20 : decode cX9_join 20 = .ok (.invokevirtual 29, 3) := by decide +kernel
theorem dX9_join_23 : decode cX9_join 23 = .ok (.ireturn, 1) := by decide +kernel
theorem dX4_join_0 : decode cX4_join 0 = .ok (.aload_n 0, 1) := by decide +kernel
theorem dX4_join_1 : decode cX4_join 1 = .ok (.getfield 33, 3) := by decide +kernel
theorem dX4_join_4 : decode cX4_join 4 = .ok (.iload_n 1, 1) := by decide +kernel
theorem dX4_join_5 : decode cX4_join 5 = .ok (.iload_n 2, 1) := by decide +kernel
theorem dX4_join_6 : decode cX4_join 6 = .ok (.iload_n 3, 1) := by decide +kernel
theorem dX4_join_7 : decode cX4_join 7 = .ok (.invokevirtual 118, 3) := by decide +kernel
theorem dX4_join_10 : decode cX4_join 10 = .ok (.istore 5, 2) := by decide +kernel
theorem dX4_join_12 : decode cX4_join 12 = .ok (.iload 5, 2) := by decide +kernel
theorem dX4_join_14 : decode cX4_join 14 = .ok (.iconst (-1), 1) := by decide +kernel
theorem dX4_join_15 : decode cX4_join 15 = .ok (.if_icmp .ne 12, 3) := by decide +kernel
theorem dX4_join_18 : decode cX4_join 18 = .ok (.aload_n 0, 1) := by decide +kernel
theorem dX4_join_19 : decode cX4_join 19 = .ok (.iload 4, 2) := by decide +kernel
theorem dX4_join_21 : decode cX4_join 21 = .ok (.invokevirtual 124, 3) := by decide +kernel
theorem dX4_join_24 : decode cX4_join 24 = .ok (.goto 5, 3) := by decide +kernel
theorem dX4_join_27 : decode cX4_join 27 = .ok (.iload 5, 2) := by decide +kernel
theorem dX4_join_29 : decode cX4_join 29 = .ok (.ireturn, 1) := by decide +kernel
theorem dX8_make_0 : decode cX8_make 0 = .ok (.aload_n 0, 1) := by decide +kernel
theorem dX8_make_1 : decode cX8_make 1 = .ok (.getfield 21, 3) := by decide +kernel
theorem dX8_make_4 : decode cX8_make 4 = .ok (.iconst 1, 1) := by decide +kernel
theorem dX8_make_5 : decode cX8_make 5 = .ok (.if_icmp .lt 13, 3) := by decide +kernel
theorem dX8_make_8 : decode cX8_make 8 = .ok (.aload_n 0, 1) := by decide +kernel
theorem dX8_make_9 : decode cX8_make 9 = .ok (.getfield 21, 3) := by decide +kernel
theorem dX8_make_12 : decode cX8_make 12 = .ok (.sipush 3072, 3) := by decide +kernel
theorem dX8_make_15 : decode cX8_make 15 = .ok (.if_icmp .lt 5, 3) := by decide +kernel
theorem dX8_make_18 : decode cX8_make 18 = .ok (.iconst 0, 1) := by decide +kernel
theorem dX8_make_19 : decode cX8_make 19 = .ok (.ireturn, 1) := by decide +kernel
theorem dX8_make_20 : decode cX8_make 20 = .ok (.aload_n 0, 1) := by decide +kernel
theorem dX8_make_21 : decode cX8_make 21 = .ok (.getfield 11, 3) := by decide +kernel
theorem dX8_make_24 : decode cX8_make 24 = .ok (.aload_n 0, 1) := by decide +kernel
theorem dX8_make_25 : decode cX8_make 25 = .ok (.getfield 21, 3) := by decide +kernel
theorem dX8_make_28 : decode cX8_make 28 = .ok (.iload_n 1, 1) := by decide +kernel
theorem dX8_make_29 : decode cX8_make 29 = .ok (.iastore, 1) := by decide +kernel
theorem dX8_make_30 : decode cX8_make 30 = .ok (.aload_n 0, 1) := by decide +kernel
theorem dX8_make_31 : decode cX8_make 31 = .ok (.getfield 15, 3) := by decide +kernel
theorem dX8_make_34 : decode cX8_make 34 = .ok (.aload_n 0, 1) := by decide +kernel
theorem dX8_make_35 : decode cX8_make 35 = .ok (.getfield 21, 3) := by decide +kernel
theorem dX8_make_38 : decode cX8_make 38 = .ok (.iload_n 2, 1) := by decide +kernel
theorem dX8_make_39 : decode cX8_make 39 = .ok (.iastore, 1) := by decide +kernel
theorem dX8_make_40 : decode cX8_make 40 = .ok (.aload_n 0, 1) := by decide +kernel
theorem dX8_make_41 : decode cX8_make 41 = .ok (.getfield 18, 3) := by decide +kernel
theorem dX8_make_44 : decode cX8_make 44 = .ok (.aload_n 0, 1) := by decide +kernel
theorem dX8_make_45 : decode cX8_make 45 = .ok (.getfield 21, 3) := by decide +kernel
theorem dX8_make_48 : decode cX8_make 48 = .ok (.iload_n 3, 1) := by decide +kernel
theorem dX8_make_49 : decode cX8_make 49 = .ok (.iastore, 1) := by decide +kernel
theorem dX8_make_50 : decode cX8_make 50 = .ok (.aload_n 0, 1) := by decide +kernel
theorem dX8_make_51 : decode cX8_make 51 = .ok (.dup, 1) := by decide +kernel
theorem dX8_make_52 : decode cX8_make 52 = .ok (.getfield 21, 3) := by decide +kernel
theorem dX8_make_55 : decode cX8_make 55 = .ok (.iconst 1, 1) := by decide +kernel
theorem dX8_make_56 : decode cX8_make 56 = .ok (.iadd, 1) := by decide +kernel
theorem dX8_make_57 : decode cX8_make 57 = .ok (.putfield 21, 3) := by decide +kernel
theorem dX8_make_60 : decode cX8_make 60 = .ok (.aload_n 0, 1) := by decide +kernel
theorem dX8_make_61 : decode cX8_make 61 = .ok (.getfield 21, 3) := by decide +kernel
theorem dX8_make_64 : decode cX8_make 64 = .ok (.iconst 1, 1) := by decide +kernel
theorem dX8_make_65 : decode cX8_make 65 = .ok (.isub, 1) := by decide +kernel
theorem dX8_make_66 : decode cX8_make 66 = .ok (.ireturn, 1) := by decide +kernel
theorem dX8_typeAt_0 : decode cX8_typeAt 0 = .ok (.aload_n 0, 1) := by decide +kernel
theorem dX8_typeAt_1 : decode cX8_typeAt 1 = .ok (.bipush 10, 2) := by decide +kernel
theorem dX8_typeAt_3 : decode cX8_typeAt 3 = .ok (.iload_n 1, 1) := by decide +kernel
theorem dX8_typeAt_4 : decode cX8_typeAt 4 = .ok (.iload_n 2, 1) := by decide +kernel
theorem dX8_typeAt_5 : decode cX8_typeAt 5 = .ok (.invokevirtual 32, 3) := by decide +kernel
theorem dX8_typeAt_8 : decode cX8_typeAt 8 = .ok (.ireturn, 1) := by decide +kernel
theorem dX7_isData_0 : decode cX7_isData 0 = .ok (.aload_n 0, 1) := by decide +kernel
theorem dX7_isData_1 : decode cX7_isData 1 = .ok (.iload_n 1, 1) := by decide +kernel
theorem dX7_isData_2 : decode cX7_isData 2 = .ok (.invokevirtual 69, 3) := by decide +kernel
theorem dX7_isData_5 : decode cX7_isData 5 = .ok (.istore_n 2, 1) := by decide +kernel
theorem dX7_isData_6 : decode cX7_isData 6 = .ok (.iload_n 1, 1) := by decide +kernel
theorem dX7_isData_7 : decode cX7_isData 7 = .ok (.istore_n 3, 1) := by decide +kernel
theorem dX7_isData_8 : decode cX7_isData 8 = .ok (.iload_n 3, 1) := by decide +kernel
theorem dX7_isData_9 : decode cX7_isData 9 = .ok (.iload_n 2, 1) := by decide +kernel
theorem dX7_isData_10 : decode cX7_isData 10 = .ok (.if_icmp .ge 21, 3) := by decide +kernel
theorem dX7_isData_13 : decode cX7_isData 13 = .ok (.aload_n 0, 1) := by decide +kernel
theorem dX7_isData_14 : decode cX7_isData 14 = .ok (.iload_n 3, 1) := by decide +kernel
theorem dX7_isData_15 : decode cX7_isData 15 = .ok (.invokevirtual 62, 3) := by decide +kernel
theorem dX7_isData_18 : decode cX7_isData 18 = .ok (.bipush 80, 2) := by decide +kernel
theorem dX7_isData_20 : decode cX7_isData 20 = .ok (.if_icmp .ne 5, 3) := by decide +kernel
theorem dX7_isData_23 : decode cX7_isData 23 = .ok (.iconst 0, 1) := by decide +kernel
theorem dX7_isData_24 : decode cX7_isData 24 = .ok (.ireturn, 1) := by decide +kernel
theorem dX7_isData_25 : decode cX7_isData 25 = .ok (.iinc 3 1, 3) := by decide +kernel
theorem dX7_isData_28 : decode cX7_isData 28 = .ok (.goto (-20), 3) := by decide +kernel
theorem dX7_isData_31 : decode cX7_isData 31 = .ok (.iconst 1, 1) := by decide +kernel
theorem dX7_isData_32 : decode cX7_isData 32 = .ok (.ireturn, 1) := by decide +kernel
theorem dX4_scope_0 : decode cX4_scope 0 = .ok (.iload_n 1, 1) := by decide +kernel
theorem dX4_scope_1 : decode cX4_scope 1 = .ok (.ifCond .lt 18, 3) := by decide +kernel
theorem dX4_scope_4 : decode cX4_scope 4 = .ok (.iload_n 1, 1) := by decide +kernel
theorem dX4_scope_5 : decode cX4_scope 5 = .ok (.bipush 10, 2) := by decide +kernel
theorem dX4_scope_7 : decode cX4_scope 7 = .ok (.if_icmp .gt 12, 3) := by decide +kernel
theorem dX4_scope_10 : decode cX4_scope 10 = .ok (.aload_n 0, 1) := by decide +kernel
theorem dX4_scope_11 : decode cX4_scope 11 = .ok (.getfield 9, 3) := by decide +kernel
theorem dX4_scope_14 : decode cX4_scope 14 = .ok (.iload_n 1, 1) := by decide +kernel
theorem dX4_scope_15 : decode cX4_scope 15 = .ok (.iaload, 1) := by decide +kernel
theorem dX4_scope_16 : decode cX4_scope 16 = .ok (.goto 4, 3) := by decide +kernel
theorem dX4_scope_19 : decode cX4_scope 19 = .ok (.iconst 0, 1) := by decide +kernel
theorem dX4_scope_20 : decode cX4_scope 20 = .ok (.ireturn, 1) := by decide +kernel
theorem dX8_newVariable_0 : decode cX8_newVariable 0 = .ok (.iload_n 1, 1) := by decide +kernel
theorem dX8_newVariable_1 : decode cX8_newVariable 1 = .ok (.ifCond .lt 9, 3) := by decide +kernel
theorem dX8_newVariable_4 : decode cX8_newVariable 4 = .ok (.iload_n 1, 1) := by decide +kernel
theorem dX8_newVariable_5 : decode cX8_newVariable 5 = .ok (.bipush 10, 2) := by decide +kernel
theorem dX8_newVariable_7 : decode cX8_newVariable 7 = .ok (.if_icmp .lt 5, 3) := by decide +kernel
theorem dX8_newVariable_10 : decode cX8_newVariable 10 = .ok (.iconst 0, 1) := by decide +kernel
theorem dX8_newVariable_11 : decode cX8_newVariable 11 = .ok (.ireturn, 1) := by decide +kernel
theorem dX8_newVariable_12 : decode cX8_newVariable 12 = .ok (.aload_n 0, 1) := by decide +kernel
theorem dX8_newVariable_13 : decode cX8_newVariable 13 = .ok (.getfield 25, 3) := by decide +kernel
theorem dX8_newVariable_16 : decode cX8_newVariable 16 = .ok (.iload_n 1, 1) := by decide +kernel
theorem dX8_newVariable_17 : decode cX8_newVariable 17 = .ok (.iload_n 2, 1) := by decide +kernel
theorem dX8_newVariable_18 : decode cX8_newVariable 18 = .ok (.iastore, 1) := by decide +kernel
theorem dX8_newVariable_19 : decode cX8_newVariable 19 = .ok (.aload_n 0, 1) := by decide +kernel
theorem dX8_newVariable_20 : decode cX8_newVariable 20 = .ok (.iconst 1, 1) := by decide +kernel
theorem dX8_newVariable_21 : decode cX8_newVariable 21 = .ok (.iload_n 1, 1) := by decide +kernel
theorem dX8_newVariable_22 : decode cX8_newVariable 22 = .ok (.iconst 0, 1) := by decide +kernel
theorem dX8_newVariable_23 : decode cX8_newVariable 23 = .ok (.invokevirtual 32, 3) := by decide +kernel
theorem dX8_newVariable_26 : decode cX8_newVariable 26 = .ok (.ireturn, 1) := by decide +kernel
theorem dX8_extended_0 : decode cX8_extended 0 = .ok (.aload_n 0, 1) := by decide +kernel
theorem dX8_extended_1 : decode cX8_extended 1 = .ok (.bipush 9, 2) := by decide +kernel
theorem dX8_extended_3 : decode cX8_extended 3 = .ok (.iload_n 2, 1) := by decide +kernel
theorem dX8_extended_4 : decode cX8_extended 4 = .ok (.iload_n 1, 1) := by decide +kernel
theorem dX8_extended_5 : decode cX8_extended 5 = .ok (.invokevirtual 32, 3) := by decide +kernel
theorem dX8_extended_8 : decode cX8_extended 8 = .ok (.ireturn, 1) := by decide +kernel
theorem dX4_bind_0 : decode cX4_bind 0 = .ok (.aload_n 0, 1) := by decide +kernel
theorem dX4_bind_1 : decode cX4_bind 1 = .ok (.getfield 29, 3) := by decide +kernel
theorem dX4_bind_4 : decode cX4_bind 4 = .ok (.iload_n 2, 1) := by decide +kernel
theorem dX4_bind_5 : decode cX4_bind 5 = .ok (.iload_n 1, 1) := by decide +kernel
theorem dX4_bind_6 : decode cX4_bind 6 = .ok (.invokevirtual 127, 3) := by decide +kernel
theorem dX4_bind_9 : decode cX4_bind 9 = .ok (.istore_n 3, 1) := by decide +kernel
theorem dX4_bind_10 : decode cX4_bind 10 = .ok (.iload_n 2, 1) := by decide +kernel
theorem dX4_bind_11 : decode cX4_bind 11 = .ok (.ifCond .lt 31, 3) := by decide +kernel
theorem dX4_bind_14 : decode cX4_bind 14 = .ok (.iload_n 2, 1) := by decide +kernel
theorem dX4_bind_15 : decode cX4_bind 15 = .ok (.bipush 10, 2) := by decide +kernel
theorem dX4_bind_17 : decode cX4_bind 17 = .ok (.if_icmp .ge 25, 3) := by decide +kernel
theorem dX4_bind_20 : decode cX4_bind 20 = .ok (.aload_n 0, 1) := by decide +kernel
theorem dX4_bind_21 : decode cX4_bind 21 = .ok (.getfield 9, 3) := by decide +kernel
theorem dX4_bind_24 : decode cX4_bind 24 = .ok (.iload_n 2, 1) := by decide +kernel
theorem dX4_bind_25 : decode cX4_bind 25 = .ok (.iconst 1, 1) := by decide +kernel
theorem dX4_bind_26 : decode cX4_bind 26 = .ok (.iadd, 1) := by decide +kernel
theorem dX4_bind_27 : decode cX4_bind 27 = .ok (.aload_n 0, 1) := by decide +kernel
theorem dX4_bind_28 : decode cX4_bind 28 = .ok (.getfield 29, 3) := by decide +kernel
theorem dX4_bind_31 : decode cX4_bind 31 = .ok (.aload_n 0, 1) := by decide +kernel
theorem dX4_bind_32 : decode cX4_bind 32 = .ok (.getfield 9, 3) := by decide +kernel
theorem dX4_bind_35 : decode cX4_bind 35 = .ok (.iload_n 2, 1) := by decide +kernel
theorem dX4_bind_36 : decode cX4_bind 36 = .ok (.iaload, 1) := by decide +kernel
theorem dX4_bind_37 : decode cX4_bind 37 = .ok (.iload_n 3, 1) := by decide +kernel
theorem dX4_bind_38 : decode cX4_bind 38 = .ok (.invokevirtual 130, 3) := by decide +kernel
theorem dX4_bind_41 : decode cX4_bind 41 = .ok (.iastore, 1) := by decide +kernel
theorem dX4_bind_42 : decode cX4_bind 42 = .ok (.iload_n 3, 1) := by decide +kernel
theorem dX4_bind_43 : decode cX4_bind 43 = .ok (.ireturn, 1) := by decide +kernel
theorem dX8_kindOf_0 : decode cX8_kindOf 0 = .ok (.iload_n 1, 1) := by decide +kernel
theorem dX8_kindOf_1 : decode cX8_kindOf 1 = .ok (.ifCond .le 27, 3) := by decide +kernel
theorem dX8_kindOf_4 : decode cX8_kindOf 4 = .ok (.iload_n 1, 1) := by decide +kernel
theorem dX8_kindOf_5 : decode cX8_kindOf 5 = .ok (.aload_n 0, 1) := by decide +kernel
theorem dX8_kindOf_6 : decode cX8_kindOf 6 = .ok (.getfield 21, 3) := by decide +kernel
theorem dX8_kindOf_9 : decode cX8_kindOf 9 = .ok (.if_icmp .ge 19, 3) := by decide +kernel
theorem dX8_kindOf_12 : decode cX8_kindOf 12 = .ok (.iload_n 1, 1) := by decide +kernel
theorem dX8_kindOf_13 : decode cX8_kindOf 13 = .ok (.sipush 3072, 3) := by decide +kernel
theorem dX8_kindOf_16 : decode cX8_kindOf 16 = .ok (.if_icmp .ge 12, 3) := by decide +kernel
theorem dX8_kindOf_19 : decode cX8_kindOf 19 = .ok (.aload_n 0, 1) := by decide +kernel
theorem dX8_kindOf_20 : decode cX8_kindOf 20 = .ok (.getfield 11, 3) := by decide +kernel
theorem dX8_kindOf_23 : decode cX8_kindOf 23 = .ok (.iload_n 1, 1) := by decide +kernel
theorem dX8_kindOf_24 : decode cX8_kindOf 24 = .ok (.iaload, 1) := by decide +kernel
theorem dX8_kindOf_25 : decode cX8_kindOf 25 = .ok (.goto 4, 3) := by decide +kernel
theorem dX8_kindOf_28 : decode cX8_kindOf 28 = .ok (.iconst 0, 1) := by decide +kernel
theorem dX8_kindOf_29 : decode cX8_kindOf 29 = .ok (.ireturn, 1) := by decide +kernel
theorem dX8_leftOf_0 : decode cX8_leftOf 0 = .ok (.iload_n 1, 1) := by decide +kernel
theorem dX8_leftOf_1 : decode cX8_leftOf 1 = .ok (.ifCond .le 27, 3) := by decide +kernel
theorem dX8_leftOf_4 : decode cX8_leftOf 4 = .ok (.iload_n 1, 1) := by decide +kernel
theorem dX8_leftOf_5 : decode cX8_leftOf 5 = .ok (.aload_n 0, 1) := by decide +kernel
theorem dX8_leftOf_6 : decode cX8_leftOf 6 = .ok (.getfield 21, 3) := by decide +kernel
theorem dX8_leftOf_9 : decode cX8_leftOf 9 = .ok (.if_icmp .ge 19, 3) := by decide +kernel
theorem dX8_leftOf_12 : decode cX8_leftOf 12 = .ok (.iload_n 1, 1) := by decide +kernel
theorem dX8_leftOf_13 : decode cX8_leftOf 13 = .ok (.sipush 3072, 3) := by decide +kernel
theorem dX8_leftOf_16 : decode cX8_leftOf 16 = .ok (.if_icmp .ge 12, 3) := by decide +kernel
theorem dX8_leftOf_19 : decode cX8_leftOf 19 = .ok (.aload_n 0, 1) := by decide +kernel
theorem dX8_leftOf_20 : decode cX8_leftOf 20 = .ok (.getfield 15, 3) := by decide +kernel
theorem dX8_leftOf_23 : decode cX8_leftOf 23 = .ok (.iload_n 1, 1) := by decide +kernel
theorem dX8_leftOf_24 : decode cX8_leftOf 24 = .ok (.iaload, 1) := by decide +kernel
theorem dX8_leftOf_25 : decode cX8_leftOf 25 = .ok (.goto 4, 3) := by decide +kernel
theorem dX8_leftOf_28 : decode cX8_leftOf 28 = .ok (.iconst 0, 1) := by decide +kernel
theorem dX8_leftOf_29 : decode cX8_leftOf 29 = .ok (.ireturn, 1) := by decide +kernel
theorem dX8_formOf_0 : decode cX8_formOf 0 = .ok (.aload_n 0, 1) := by decide +kernel
theorem dX8_formOf_1 : decode cX8_formOf 1 = .ok (.iload_n 1, 1) := by decide +kernel
theorem dX8_formOf_2 : decode cX8_formOf 2 = .ok (.invokevirtual 36, 3) := by decide +kernel
theorem dX8_formOf_5 : decode cX8_formOf 5 = .ok (.bipush 10, 2) := by decide +kernel
theorem dX8_formOf_7 : decode cX8_formOf 7 = .ok (.if_icmp .ne 18, 3) := by decide +kernel
theorem dX8_formOf_10 : decode cX8_formOf 10 = .ok (.aload_n 0, 1) := by decide +kernel
theorem dX8_formOf_11 : decode cX8_formOf 11 = .ok (.getfield 28, 3) := by decide +kernel
theorem dX8_formOf_14 : decode cX8_formOf 14 = .ok (.aload_n 0, 1) := by decide +kernel
theorem dX8_formOf_15 : decode cX8_formOf 15 = .ok (.iload_n 1, 1) := by decide +kernel
theorem dX8_formOf_16 : decode cX8_formOf 16 = .ok (.invokevirtual 40, 3) := by decide +kernel
theorem dX8_formOf_19 : decode cX8_formOf 19 = .ok (.invokevirtual 43, 3) := by decide +kernel
theorem dX8_formOf_22 : decode cX8_formOf 22 = .ok (.goto 4, 3) := by decide +kernel
theorem dX8_formOf_25 : decode cX8_formOf 25 = .ok (.iconst 0, 1) := by decide +kernel
theorem dX8_formOf_26 : decode cX8_formOf 26 = .ok (.ireturn, 1) := by decide +kernel
theorem dX8_rightOf_0 : decode cX8_rightOf 0 = .ok (.iload_n 1, 1) := by decide +kernel
theorem dX8_rightOf_1 : decode cX8_rightOf 1 = .ok (.ifCond .le 27, 3) := by decide +kernel
theorem dX8_rightOf_4 : decode cX8_rightOf 4 = .ok (.iload_n 1, 1) := by decide +kernel
theorem dX8_rightOf_5 : decode cX8_rightOf 5 = .ok (.aload_n 0, 1) := by decide +kernel
theorem dX8_rightOf_6 : decode cX8_rightOf 6 = .ok (.getfield 21, 3) := by decide +kernel
theorem dX8_rightOf_9 : decode cX8_rightOf 9 = .ok (.if_icmp .ge 19, 3) := by decide +kernel
theorem dX8_rightOf_12 : decode cX8_rightOf 12 = .ok (.iload_n 1, 1) := by decide +kernel
theorem dX8_rightOf_13 : decode cX8_rightOf 13 = .ok (.sipush 3072, 3) := by decide +kernel
theorem dX8_rightOf_16 : decode cX8_rightOf 16 = .ok (.if_icmp .ge 12, 3) := by decide +kernel
theorem dX8_rightOf_19 : decode cX8_rightOf 19 = .ok (.aload_n 0, 1) := by decide +kernel
theorem dX8_rightOf_20 : decode cX8_rightOf 20 = .ok (.getfield 18, 3) := by decide +kernel
theorem dX8_rightOf_23 : decode cX8_rightOf 23 = .ok (.iload_n 1, 1) := by decide +kernel
theorem dX8_rightOf_24 : decode cX8_rightOf 24 = .ok (.iaload, 1) := by decide +kernel
theorem dX8_rightOf_25 : decode cX8_rightOf 25 = .ok (.goto 4, 3) := by decide +kernel
theorem dX8_rightOf_28 : decode cX8_rightOf 28 = .ok (.iconst 0, 1) := by decide +kernel
theorem dX8_rightOf_29 : decode cX8_rightOf 29 = .ok (.ireturn, 1) := by decide +kernel
theorem dX8_firstType_0 : decode cX8_firstType 0 = .ok (.aload_n 0, 1) := by decide +kernel
theorem dX8_firstType_1 : decode cX8_firstType 1 = .ok (.aload_n 0, 1) := by decide +kernel
theorem dX8_firstType_2 : decode cX8_firstType 2 = .ok (.iload_n 1, 1) := by decide +kernel
theorem dX8_firstType_3 : decode cX8_firstType 3 = .ok (.invokevirtual 40, 3) := by decide +kernel
theorem dX8_firstType_6 : decode cX8_firstType 6 = .ok (.iconst 1, 1) := by decide +kernel
theorem dX8_firstType_7 : decode cX8_firstType 7 = .ok (.iadd, 1) := by decide +kernel
theorem dX8_firstType_8 : decode cX8_firstType 8 = .ok (.aload_n 0, 1) := by decide +kernel
theorem dX8_firstType_9 : decode cX8_firstType 9 = .ok (.iload_n 1, 1) := by decide +kernel
theorem dX8_firstType_10 : decode cX8_firstType 10 = .ok (.invokevirtual 48, 3) := by decide +kernel
theorem dX8_firstType_13 : decode cX8_firstType 13 = .ok (.invokevirtual 51, 3) := by decide +kernel
theorem dX8_firstType_16 : decode cX8_firstType 16 = .ok (.ireturn, 1) := by decide +kernel
theorem dX8_firstOf_0 : decode cX8_firstOf 0 = .ok (.aload_n 0, 1) := by decide +kernel
theorem dX8_firstOf_1 : decode cX8_firstOf 1 = .ok (.iload_n 1, 1) := by decide +kernel
theorem dX8_firstOf_2 : decode cX8_firstOf 2 = .ok (.invokevirtual 36, 3) := by decide +kernel
theorem dX8_firstOf_5 : decode cX8_firstOf 5 = .ok (.bipush 7, 2) := by decide +kernel
theorem dX8_firstOf_7 : decode cX8_firstOf 7 = .ok (.if_icmp .ne 11, 3) := by decide +kernel
theorem dX8_firstOf_10 : decode cX8_firstOf 10 = .ok (.aload_n 0, 1) := by decide +kernel
theorem dX8_firstOf_11 : decode cX8_firstOf 11 = .ok (.iload_n 1, 1) := by decide +kernel
theorem dX8_firstOf_12 : decode cX8_firstOf 12 = .ok (.invokevirtual 40, 3) := by decide +kernel
theorem dX8_firstOf_15 : decode cX8_firstOf 15 = .ok (.goto 10, 3) := by decide +kernel
theorem dX8_firstOf_18 : decode cX8_firstOf 18 = .ok (.aload_n 0, 1) := by decide +kernel
theorem dX8_firstOf_19 : decode cX8_firstOf 19 = .ok (.iconst 4, 1) := by decide +kernel
theorem dX8_firstOf_20 : decode cX8_firstOf 20 = .ok (.iload_n 1, 1) := by decide +kernel
theorem dX8_firstOf_21 : decode cX8_firstOf 21 = .ok (.iconst 0, 1) := by decide +kernel
theorem dX8_firstOf_22 : decode cX8_firstOf 22 = .ok (.invokevirtual 32, 3) := by decide +kernel
theorem dX8_firstOf_25 : decode cX8_firstOf 25 = .ok (.ireturn, 1) := by decide +kernel
theorem dX8_secondOf_0 : decode cX8_secondOf 0 = .ok (.aload_n 0, 1) := by decide +kernel
theorem dX8_secondOf_1 : decode cX8_secondOf 1 = .ok (.iload_n 1, 1) := by decide +kernel
theorem dX8_secondOf_2 : decode cX8_secondOf 2 = .ok (.invokevirtual 36, 3) := by decide +kernel
theorem dX8_secondOf_5 : decode cX8_secondOf 5 = .ok (.bipush 7, 2) := by decide +kernel
theorem dX8_secondOf_7 : decode cX8_secondOf 7 = .ok (.if_icmp .ne 11, 3) := by decide +kernel
theorem dX8_secondOf_10 : decode cX8_secondOf 10 = .ok (.aload_n 0, 1) := by decide +kernel
theorem dX8_secondOf_11 : decode cX8_secondOf 11 = .ok (.iload_n 1, 1) := by decide +kernel
theorem dX8_secondOf_12 : decode cX8_secondOf 12 = .ok (.invokevirtual 48, 3) := by decide +kernel
theorem dX8_secondOf_15 : decode cX8_secondOf 15 = .ok (.goto 10, 3) := by decide +kernel
theorem dX8_secondOf_18 : decode cX8_secondOf 18 = .ok (.aload_n 0, 1) := by decide +kernel
theorem dX8_secondOf_19 : decode cX8_secondOf 19 = .ok (.iconst 5, 1) := by decide +kernel
theorem dX8_secondOf_20 : decode cX8_secondOf 20 = .ok (.iload_n 1, 1) := by decide +kernel
theorem dX8_secondOf_21 : decode cX8_secondOf 21 = .ok (.iconst 0, 1) := by decide +kernel
theorem dX8_secondOf_22 : decode cX8_secondOf 22 = .ok (.invokevirtual 32, 3) := by decide +kernel
theorem dX8_secondOf_25 : decode cX8_secondOf 25 = .ok (.ireturn, 1) := by decide +kernel
theorem dX7_isConstant_0 : decode cX7_isConstant 0 = .ok (.iload_n 1, 1) := by decide +kernel
theorem dX7_isConstant_1 : decode cX7_isConstant 1 = .ok (.bipush 97, 2) := by decide +kernel
theorem dX7_isConstant_3 : decode cX7_isConstant 3 = .ok (.if_icmp .lt 18, 3) := by decide +kernel
theorem dX7_isConstant_6 : decode cX7_isConstant 6 = .ok (.iload_n 1, 1) := by decide +kernel
theorem dX7_isConstant_7 : decode cX7_isConstant 7 = .ok (.bipush 97, 2) := by decide +kernel
theorem dX7_isConstant_9 : decode cX7_isConstant 9 = .ok (.isub, 1) := by decide +kernel
theorem dX7_isConstant_10 : decode cX7_isConstant 10 = .ok (.aload_n 0, 1) := by decide +kernel
theorem dX7_isConstant_11 : decode cX7_isConstant 11 = .ok (.getfield 28, 3) := by decide +kernel
theorem dX7_isConstant_14 : decode cX7_isConstant 14 = .ok (.if_icmp .ge 7, 3) := by decide +kernel
theorem dX7_isConstant_17 : decode cX7_isConstant 17 = .ok (.iconst 1, 1) := by decide +kernel
theorem dX7_isConstant_18 : decode cX7_isConstant 18 = .ok (.goto 4, 3) := by decide +kernel
theorem dX7_isConstant_21 : decode cX7_isConstant 21 = .ok (.iconst 0, 1) := by decide +kernel
theorem dX7_isConstant_22 : decode cX7_isConstant 22 = .ok (.ireturn, 1) := by decide +kernel
theorem dX8_constantOf_0 : decode cX8_constantOf 0 = .ok (.aload_n 0, 1) := by decide +kernel
theorem dX8_constantOf_1 : decode cX8_constantOf 1 = .ok (.iconst 2, 1) := by decide +kernel
theorem dX8_constantOf_2 : decode cX8_constantOf 2 = .ok (.iload_n 1, 1) := by decide +kernel
theorem dX8_constantOf_3 : decode cX8_constantOf 3 = .ok (.iconst 0, 1) := by decide +kernel
theorem dX8_constantOf_4 : decode cX8_constantOf 4 = .ok (.invokevirtual 32, 3) := by decide +kernel
theorem dX8_constantOf_7 : decode cX8_constantOf 7 = .ok (.ireturn, 1) := by decide +kernel
theorem dX8_variableIn_0 : decode cX8_variableIn 0 = .ok (.iconst 0, 1) := by decide +kernel
theorem dX8_variableIn_1 : decode cX8_variableIn 1 = .ok (.istore_n 3, 1) := by decide +kernel
theorem dX8_variableIn_2 : decode cX8_variableIn 2 = .ok (.iload_n 1, 1) := by decide +kernel
theorem dX8_variableIn_3 : decode cX8_variableIn 3 = .ok (.istore 4, 2) := by decide +kernel
theorem dX8_variableIn_5 : decode cX8_variableIn 5 = .ok (.aload_n 0, 1) := by decide +kernel
theorem dX8_variableIn_6 : decode cX8_variableIn 6 = .ok (.iload 4, 2) := by decide +kernel
theorem dX8_variableIn_8 : decode cX8_variableIn 8 = .ok (.invokevirtual 36, 3) := by decide +kernel
theorem dX8_variableIn_11 : decode cX8_variableIn 11 = .ok (.bipush 9, 2) := by decide +kernel
theorem dX8_variableIn_13 : decode cX8_variableIn 13 = .ok (.if_icmp .ne 23, 3) := by decide +kernel
theorem dX8_variableIn_16 : decode cX8_variableIn 16 = .ok (.iload_n 3, 1) := by decide +kernel
theorem dX8_variableIn_17 : decode cX8_variableIn 17 = .ok (.bipush 10, 2) := by decide +kernel
theorem dX8_variableIn_19 : decode cX8_variableIn 19 = .ok (.if_icmp .gt 17, 3) := by decide +kernel
theorem dX8_variableIn_22 : decode cX8_variableIn 22 = .ok (.iinc 3 1, 3) := by decide +kernel
theorem dX8_variableIn_25 : decode cX8_variableIn 25 = .ok (.aload_n 0, 1) := by decide +kernel
theorem dX8_variableIn_26 : decode cX8_variableIn 26 = .ok (.iload 4, 2) := by decide +kernel
theorem dX8_variableIn_28 : decode cX8_variableIn 28 = .ok (.invokevirtual 48, 3) := by decide +kernel
theorem dX8_variableIn_31 : decode cX8_variableIn 31 = .ok (.istore 4, 2) := by decide +kernel
theorem dX8_variableIn_33 : decode cX8_variableIn 33 = .ok (.goto (-28), 3) := by decide +kernel
theorem dX8_variableIn_36 : decode cX8_variableIn 36 = .ok (.iload_n 1, 1) := by decide +kernel
theorem dX8_variableIn_37 : decode cX8_variableIn 37 = .ok (.istore 4, 2) := by decide +kernel
theorem dX8_variableIn_39 : decode cX8_variableIn 39 = .ok (.iload_n 2, 1) := by decide +kernel
theorem dX8_variableIn_40 : decode cX8_variableIn 40 = .ok (.iconst 1, 1) := by decide +kernel
theorem dX8_variableIn_41 : decode cX8_variableIn 41 = .ok (.iadd, 1) := by decide +kernel
theorem dX8_variableIn_42 : decode cX8_variableIn 42 = .ok (.istore 5, 2) := by decide +kernel
theorem dX8_variableIn_44 : decode cX8_variableIn 44 = .ok (.iload 5, 2) := by decide +kernel
theorem dX8_variableIn_46 : decode cX8_variableIn 46 = .ok (.iload_n 3, 1) := by decide +kernel
theorem dX8_variableIn_47 : decode cX8_variableIn 47 = .ok (.if_icmp .ge 17, 3) := by decide +kernel
theorem dX8_variableIn_50 : decode cX8_variableIn 50 = .ok (.aload_n 0, 1) := by decide +kernel
theorem dX8_variableIn_51 : decode cX8_variableIn 51 = .ok (.iload 4, 2) := by decide +kernel
theorem dX8_variableIn_53 : decode cX8_variableIn 53 = .ok (.invokevirtual 48, 3) := by decide +kernel
theorem dX8_variableIn_56 : decode cX8_variableIn 56 = .ok (.istore 4, 2) := by decide +kernel
theorem dX8_variableIn_58 : decode cX8_variableIn 58 = .ok (.iinc 5 1, 3) := by decide +kernel
theorem dX8_variableIn_61 : decode cX8_variableIn 61 = .ok (.goto (-17), 3) := by decide +kernel
theorem dX8_variableIn_64 : decode cX8_variableIn 64 = .ok (.iload_n 2, 1) := by decide +kernel
theorem dX8_variableIn_65 : decode cX8_variableIn 65 = .ok (.ifCond .lt 17, 3) := by decide +kernel
theorem dX8_variableIn_68 : decode cX8_variableIn 68 = .ok (.iload_n 2, 1) := by decide +kernel
theorem dX8_variableIn_69 : decode cX8_variableIn 69 = .ok (.iload_n 3, 1) := by decide +kernel
theorem dX8_variableIn_70 : decode cX8_variableIn 70 = .ok (.if_icmp .ge 12, 3) := by decide +kernel
theorem dX8_variableIn_73 : decode cX8_variableIn 73 = .ok (.aload_n 0, 1) := by decide +kernel
theorem dX8_variableIn_74 : decode cX8_variableIn 74 = .ok (.iload 4, 2) := by decide +kernel
theorem dX8_variableIn_76 : decode cX8_variableIn 76 = .ok (.invokevirtual 40, 3) := by decide +kernel
theorem dX8_variableIn_79 : decode cX8_variableIn 79 = .ok (.goto 4, 3) := by decide +kernel
theorem dX8_variableIn_82 : decode cX8_variableIn 82 = .ok (.iconst 0, 1) := by decide +kernel
theorem dX8_variableIn_83 : decode cX8_variableIn 83 = .ok (.ireturn, 1) := by decide +kernel
set_option maxHeartbeats 4000000 in
set_option maxRecDepth 20000 in
theorem b_Writer_put_49 {p : Program} {l : Launch} {e : Env} {s : State} {m : MethodId} {args : Array Value} {below : List Frame} {meth : Method} {c : Code} {D : va_G} {cy : Nat → ClassId} {ad : Nat → Nat} {q : Int32 × CS}  (C : vC p s m args meth c cX9_put 2 none RX9 D (cyT cy)) (hA : adOK ad) : ∀ (σ : CS), B_Writer_put_49 σ = some q → V p l e { frames := 1, cells := 0, slots := 0, locals := 21 } s m args below meth c D (inC ad) 2 (MQ below (vQ D (inC ad) none (wc cy ad q.2)) args s 0 0 (inC ad)) 0 0 (wc cy ad σ) 49 [(0, .ref (ad 44))] [] := by
  intro σ h
  rw [B_Writer_put_49] at h
  obtain rfl := Option.some.inj h
  exact v_vret C dX9_put_49
set_option maxHeartbeats 4000000 in
set_option maxRecDepth 20000 in
theorem b_Writer_put_26 {p : Program} {l : Launch} {e : Env} {s : State} {m : MethodId} {args : Array Value} {below : List Frame} {meth : Method} {c : Code} {D : va_G} {cy : Nat → ClassId} {ad : Nat → Nat} {q : Int32 × CS}  (C : vC p s m args meth c cX9_put 2 none RX9 D (cyT cy)) (hA : adOK ad) : ∀ (x1 : Int32) (σ : CS), B_Writer_put_26 x1 σ = some q → V p l e { frames := 1, cells := 0, slots := 0, locals := 21 } s m args below meth c D (inC ad) 2 (MQ below (vQ D (inC ad) none (wc cy ad q.2)) args s 0 0 (inC ad)) 0 0 (wc cy ad σ) 26 [(0, .ref (ad 44)), (1, .int x1)] [] := by
  intro x1 σ h
  rw [B_Writer_put_26] at h
  refine v_aload_n C 0 dX9_put_26 rfl rfl ?_
  refine c_getI C fl_9_42 rfl (okS _ 44 (by decide) rfl) dX9_put_27 ?_
  refine v_if_ne C 49 dX9_put_30 (by decide) (fun c1 => ?_) (fun c1 => ?_)
  · rw [if_neg c1] at h
    exact v_sub [0] rfl ((b_Writer_put_49 C hA) _ h)
  · rw [if_pos c1] at h
    refine v_aload_n C 0 dX9_put_33 rfl rfl ?_
    refine c_getS C 34 fl_9_9 rfl rfl (by decide) (okS _ 44 (by decide) rfl) dX9_put_34 ?_
    refine v_iload_n C 1 dX9_put_37 rfl rfl ?_
    obtain ⟨q1, hq1, h⟩ := bd_of h
    refine c_call C [.int x1] [] (c_Signs_add hA _ _ hq1) hY_Signs_add rfl (by decide) (okS _ 34 (by decide) rfl) ml_9_46 ⟨(by omega : 0 + 1 ≤ 1), (by omega : 8 + (2 + 11) + 0 ≤ 21)⟩ ⟨Nat.zero_le _, Nat.zero_le _⟩ rfl rfl (Nat.le_of_ble_eq_true rfl) dX9_put_38 (wc_D hA cy _) ?_
    refine v_if_ne C 49 dX9_put_41 (by decide) (fun c2 => ?_) (fun c2 => ?_)
    · rw [if_neg c2] at h
      exact v_sub [0] rfl ((b_Writer_put_49 C hA) _ h)
    · rw [if_pos c2] at h
      refine v_aload_n C 0 dX9_put_44 rfl rfl ?_
      refine v_iconst C 1 dX9_put_45 (by decide) ?_
      refine c_putZ C (Or.inr rfl) fl_9_42 fw_9_3 rfl (by decide) (okS _ 44 (by decide) rfl) dX9_put_46 ?_
      exact v_sub [0] rfl ((b_Writer_put_49 C hA) _ h)
set_option maxHeartbeats 4000000 in
set_option maxRecDepth 20000 in
theorem b_Writer_put_21 {p : Program} {l : Launch} {e : Env} {s : State} {m : MethodId} {args : Array Value} {below : List Frame} {meth : Method} {c : Code} {D : va_G} {cy : Nat → ClassId} {ad : Nat → Nat} {q : Int32 × CS}  (C : vC p s m args meth c cX9_put 2 none RX9 D (cyT cy)) (hA : adOK ad) {k26 : Int32 → CS → Option (Int32 × CS)} (hk26 : ∀ (x1 : Int32) (σ : CS), k26 x1 σ = some q → V p l e { frames := 1, cells := 0, slots := 0, locals := 21 } s m args below meth c D (inC ad) 2 (MQ below (vQ D (inC ad) none (wc cy ad q.2)) args s 0 0 (inC ad)) 0 0 (wc cy ad σ) 26 [(0, .ref (ad 44)), (1, .int x1)] []) : ∀ (x1 : Int32) (σ : CS), B_Writer_put_21 k26 x1 σ = some q → V p l e { frames := 1, cells := 0, slots := 0, locals := 21 } s m args below meth c D (inC ad) 2 (MQ below (vQ D (inC ad) none (wc cy ad q.2)) args s 0 0 (inC ad)) 0 0 (wc cy ad σ) 21 [(0, .ref (ad 44)), (1, .int x1)] [] := by
  intro x1 σ h
  rw [B_Writer_put_21] at h
  refine v_aload_n C 0 dX9_put_21 rfl rfl ?_
  refine v_iconst C 1 dX9_put_22 (by decide) ?_
  refine c_putZ C (Or.inr rfl) fl_9_42 fw_9_3 rfl (by decide) (okS _ 44 (by decide) rfl) dX9_put_23 ?_
  exact v_sub [0, 1] rfl (hk26 _ _ h)
set_option maxHeartbeats 4000000 in
set_option maxRecDepth 20000 in
theorem c_Writer_put {l : Launch} {D : va_G} {cy : Nat → ClassId} {ad : Nat → Nat} {q : Int32 × CS} (hA : adOK ad) (x1 : Int32) (σ : CS) (h : f_Writer_put x1 σ = some q) : MV l D (cyT cy) (inC ad) yX9_put cX9_put 2 none (1) (21) 0 0 [.ref (ad 44), .int x1] (wc cy ad σ) none (wc cy ad q.2) := by
  refine MV.of (by decide) (wc_D hA cy σ) (Nat.le_of_ble_eq_true rfl) [(0, .ref (ad 44)), (1, .int x1)] rfl ?_
  intro p e s m args below meth c C
  rw [f_Writer_put] at h
  refine v_aload_n C 0 dX9_put_0 rfl rfl ?_
  refine c_getS C 34 fl_9_9 rfl rfl (by decide) (okS _ 44 (by decide) rfl) dX9_put_1 ?_
  refine c_getIN C fl_9_33 rfl (okS _ 34 (by decide) rfl) dX9_put_4 ?_
  refine v_aload_n C 0 dX9_put_7 rfl rfl ?_
  refine c_getI C fl_9_39 rfl (okS _ 44 (by decide) rfl) dX9_put_8 ?_
  refine v_isub C dX9_put_11 ?_
  refine v_bipush C 50 dX9_put_12 (by decide) ?_
  refine v_icmp_ge C 21 dX9_put_14 (by decide) (fun c1 => ?_) (fun c1 => ?_)
  · rw [if_pos c1] at h
    exact v_sub [0, 1] rfl ((b_Writer_put_21 C hA (b_Writer_put_26 C hA)) _ _ h)
  · rw [if_neg c1] at h
    refine v_iload_n C 1 dX9_put_17 rfl rfl ?_
    refine v_if_ne C 26 dX9_put_18 (by decide) (fun c2 => ?_) (fun c2 => ?_)
    · rw [if_neg c2] at h
      exact v_sub [0, 1] rfl ((b_Writer_put_26 C hA) _ _ h)
    · rw [if_pos c2] at h
      exact v_sub [0, 1] rfl ((b_Writer_put_21 C hA (b_Writer_put_26 C hA)) _ _ h)
set_option maxHeartbeats 4000000 in
set_option maxRecDepth 20000 in
theorem b_Signs_at_29 {p : Program} {l : Launch} {e : Env} {s : State} {m : MethodId} {args : Array Value} {below : List Frame} {meth : Method} {c : Code} {D : va_G} {cy : Nat → ClassId} {ad : Nat → Nat} {q : Int32 × CS}  (C : vC p s m args meth c cX7_at 2 (some .int) RX7 D (cyT cy)) (hA : adOK ad) : ∀ (s0 : Int32) (σ : CS), B_Signs_at_29 s0 σ = some q → V p l e { frames := 0, cells := 0, slots := 0, locals := 0 } s m args below meth c D (inC ad) 2 (MQ below (vQ D (inC ad) (some (.int q.1)) (wc cy ad q.2)) args s 0 0 (inC ad)) 0 0 (wc cy ad σ) 29 [(0, .ref (ad 34))] [.int s0] := by
  intro s0 σ h
  rw [B_Signs_at_29] at h
  obtain rfl := Option.some.inj h
  exact v_iret C dX7_at_29
set_option maxHeartbeats 4000000 in
set_option maxRecDepth 20000 in
theorem b_Signs_at_28 {p : Program} {l : Launch} {e : Env} {s : State} {m : MethodId} {args : Array Value} {below : List Frame} {meth : Method} {c : Code} {D : va_G} {cy : Nat → ClassId} {ad : Nat → Nat} {q : Int32 × CS}  (C : vC p s m args meth c cX7_at 2 (some .int) RX7 D (cyT cy)) (hA : adOK ad) {k29 : Int32 → CS → Option (Int32 × CS)} (hk29 : ∀ (s0 : Int32) (σ : CS), k29 s0 σ = some q → V p l e { frames := 0, cells := 0, slots := 0, locals := 0 } s m args below meth c D (inC ad) 2 (MQ below (vQ D (inC ad) (some (.int q.1)) (wc cy ad q.2)) args s 0 0 (inC ad)) 0 0 (wc cy ad σ) 29 [(0, .ref (ad 34))] [.int s0]) : ∀ (σ : CS), B_Signs_at_28 k29 σ = some q → V p l e { frames := 0, cells := 0, slots := 0, locals := 0 } s m args below meth c D (inC ad) 2 (MQ below (vQ D (inC ad) (some (.int q.1)) (wc cy ad q.2)) args s 0 0 (inC ad)) 0 0 (wc cy ad σ) 28 [(0, .ref (ad 34))] [] := by
  intro σ h
  rw [B_Signs_at_28] at h
  refine v_iconst C 0 dX7_at_28 (by decide) ?_
  exact v_sub [0] rfl (hk29 _ _ h)
set_option maxHeartbeats 4000000 in
set_option maxRecDepth 20000 in
theorem c_Signs_at {l : Launch} {D : va_G} {cy : Nat → ClassId} {ad : Nat → Nat} {q : Int32 × CS} (hA : adOK ad) (x1 : Int32) (σ : CS) (h : f_Signs_at x1 σ = some q) : MV l D (cyT cy) (inC ad) yX7_at cX7_at 2 (some .int) (0) (0) 0 0 [.ref (ad 34), .int x1] (wc cy ad σ) (some (.int q.1)) (wc cy ad q.2) := by
  refine MV.of (by decide) (wc_D hA cy σ) (Nat.le_of_ble_eq_true rfl) [(0, .ref (ad 34)), (1, .int x1)] rfl ?_
  intro p e s m args below meth c C
  rw [f_Signs_at] at h
  refine v_iload_n C 1 dX7_at_0 rfl rfl ?_
  refine v_if_lt C 28 dX7_at_1 (by decide) (fun c1 => ?_) (fun c1 => ?_)
  · rw [if_pos c1] at h
    exact v_sub [0] rfl ((b_Signs_at_28 C hA (b_Signs_at_29 C hA)) _ h)
  · rw [if_neg c1] at h
    refine v_iload_n C 1 dX7_at_4 rfl rfl ?_
    refine v_aload_n C 0 dX7_at_5 rfl rfl ?_
    refine c_getI C fl_7_21 rfl (okS _ 34 (by decide) rfl) dX7_at_6 ?_
    refine v_icmp_ge C 28 dX7_at_9 (by decide) (fun c2 => ?_) (fun c2 => ?_)
    · rw [if_pos c2] at h
      exact v_sub [0] rfl ((b_Signs_at_28 C hA (b_Signs_at_29 C hA)) _ h)
    · rw [if_neg c2] at h
      refine v_iload_n C 1 dX7_at_12 rfl rfl ?_
      refine v_sipush C 3600 dX7_at_13 (by decide) ?_
      refine v_icmp_ge C 28 dX7_at_16 (by decide) (fun c3 => ?_) (fun c3 => ?_)
      · rw [if_pos c3] at h
        exact v_sub [0] rfl ((b_Signs_at_28 C hA (b_Signs_at_29 C hA)) _ h)
      · rw [if_neg c3] at h
        refine v_aload_n C 0 dX7_at_19 rfl rfl ?_
        refine c_getS C 35 fl_7_11 rfl rfl (by decide) (okS _ 34 (by decide) rfl) dX7_at_20 ?_
        refine v_iload_n C 1 dX7_at_23 rfl rfl ?_
        obtain ⟨g1, h⟩ := gd_of h
        refine c_iald C (okS _ 35 (by decide) rfl) (ix_in g1) dX7_at_24 ?_
        refine v_goto C 29 dX7_at_25 (by decide) ?_
        exact v_sub [0] rfl ((b_Signs_at_29 C hA) _ _ h)
set_option maxHeartbeats 4000000 in
set_option maxRecDepth 20000 in
theorem b_Signs_partsOf_109 {p : Program} {l : Launch} {e : Env} {s : State} {m : MethodId} {args : Array Value} {below : List Frame} {meth : Method} {c : Code} {D : va_G} {cy : Nat → ClassId} {ad : Nat → Nat} {q : Int32 × CS}  (C : vC p s m args meth c cX7_partsOf 3 (some .int) RX7 D (cyT cy)) (hA : adOK ad) : ∀ (s0 : Int32) (σ : CS), B_Signs_partsOf_109 s0 σ = some q → V p l e { frames := 0, cells := 0, slots := 0, locals := 0 } s m args below meth c D (inC ad) 3 (MQ below (vQ D (inC ad) (some (.int q.1)) (wc cy ad q.2)) args s 0 0 (inC ad)) 0 0 (wc cy ad σ) 109 [(0, .ref (ad 34))] [.int s0] := by
  intro s0 σ h
  rw [B_Signs_partsOf_109] at h
  obtain rfl := Option.some.inj h
  exact v_iret C dX7_partsOf_109
set_option maxHeartbeats 4000000 in
set_option maxRecDepth 20000 in
theorem b_Signs_partsOf_108 {p : Program} {l : Launch} {e : Env} {s : State} {m : MethodId} {args : Array Value} {below : List Frame} {meth : Method} {c : Code} {D : va_G} {cy : Nat → ClassId} {ad : Nat → Nat} {q : Int32 × CS}  (C : vC p s m args meth c cX7_partsOf 3 (some .int) RX7 D (cyT cy)) (hA : adOK ad) {k109 : Int32 → CS → Option (Int32 × CS)} (hk109 : ∀ (s0 : Int32) (σ : CS), k109 s0 σ = some q → V p l e { frames := 0, cells := 0, slots := 0, locals := 0 } s m args below meth c D (inC ad) 3 (MQ below (vQ D (inC ad) (some (.int q.1)) (wc cy ad q.2)) args s 0 0 (inC ad)) 0 0 (wc cy ad σ) 109 [(0, .ref (ad 34))] [.int s0]) : ∀ (σ : CS), B_Signs_partsOf_108 k109 σ = some q → V p l e { frames := 0, cells := 0, slots := 0, locals := 0 } s m args below meth c D (inC ad) 3 (MQ below (vQ D (inC ad) (some (.int q.1)) (wc cy ad q.2)) args s 0 0 (inC ad)) 0 0 (wc cy ad σ) 108 [(0, .ref (ad 34))] [] := by
  intro σ h
  rw [B_Signs_partsOf_108] at h
  refine v_iconst C 0 dX7_partsOf_108 (by decide) ?_
  exact v_sub [0] rfl (hk109 _ _ h)
set_option maxHeartbeats 4000000 in
set_option maxRecDepth 20000 in
theorem c_Signs_partsOf {l : Launch} {D : va_G} {cy : Nat → ClassId} {ad : Nat → Nat} {q : Int32 × CS} (hA : adOK ad) (x1 : Int32) (σ : CS) (h : f_Signs_partsOf x1 σ = some q) : MV l D (cyT cy) (inC ad) yX7_partsOf cX7_partsOf 3 (some .int) (0) (0) 0 0 [.ref (ad 34), .int x1] (wc cy ad σ) (some (.int q.1)) (wc cy ad q.2) := by
  refine MV.of (by decide) (wc_D hA cy σ) (Nat.le_of_ble_eq_true rfl) [(0, .ref (ad 34)), (1, .int x1)] rfl ?_
  intro p e s m args below meth c C
  rw [f_Signs_partsOf] at h
  refine v_iload_n C 1 dX7_partsOf_0 rfl rfl ?_
  by_cases c1 : x1 = 44
  · rw [if_pos c1] at h
    refine v_lookup C 68 dX7_partsOf_1 (by decide) (by rw [c1]; try rfl) (by decide) ?_
    refine v_iconst C 2 dX7_partsOf_68 (by decide) ?_
    obtain rfl := Option.some.inj h
    exact v_iret C dX7_partsOf_69
  rw [if_neg c1] at h
  by_cases c2 : x1 = 46
  · rw [if_pos c2] at h
    refine v_lookup C 68 dX7_partsOf_1 (by decide) (by rw [c2]; try rfl) (by decide) ?_
    refine v_iconst C 2 dX7_partsOf_68 (by decide) ?_
    obtain rfl := Option.some.inj h
    exact v_iret C dX7_partsOf_69
  rw [if_neg c2] at h
  by_cases c3 : x1 = 60
  · rw [if_pos c3] at h
    refine v_lookup C 70 dX7_partsOf_1 (by decide) (by rw [c3]; try rfl) (by decide) ?_
    refine v_iconst C 1 dX7_partsOf_70 (by decide) ?_
    obtain rfl := Option.some.inj h
    exact v_iret C dX7_partsOf_71
  rw [if_neg c3] at h
  by_cases c4 : x1 = 62
  · rw [if_pos c4] at h
    refine v_lookup C 70 dX7_partsOf_1 (by decide) (by rw [c4]; try rfl) (by decide) ?_
    refine v_iconst C 1 dX7_partsOf_70 (by decide) ?_
    obtain rfl := Option.some.inj h
    exact v_iret C dX7_partsOf_71
  rw [if_neg c4] at h
  by_cases c5 : x1 = 80
  · rw [if_pos c5] at h
    refine v_lookup C 68 dX7_partsOf_1 (by decide) (by rw [c5]; try rfl) (by decide) ?_
    refine v_iconst C 2 dX7_partsOf_68 (by decide) ?_
    obtain rfl := Option.some.inj h
    exact v_iret C dX7_partsOf_69
  rw [if_neg c5] at h
  by_cases c6 : x1 = 83
  · rw [if_pos c6] at h
    refine v_lookup C 68 dX7_partsOf_1 (by decide) (by rw [c6]; try rfl) (by decide) ?_
    refine v_iconst C 2 dX7_partsOf_68 (by decide) ?_
    obtain rfl := Option.some.inj h
    exact v_iret C dX7_partsOf_69
  rw [if_neg c6] at h
  by_cases c7 : x1 = 92
  · rw [if_pos c7] at h
    refine v_lookup C 70 dX7_partsOf_1 (by decide) (by rw [c7]; try rfl) (by decide) ?_
    refine v_iconst C 1 dX7_partsOf_70 (by decide) ?_
    obtain rfl := Option.some.inj h
    exact v_iret C dX7_partsOf_71
  rw [if_neg c7] at h
  refine v_lookup C 72 dX7_partsOf_1 (by decide) (show Op.lookupswitch.offset [(44, 67), (46, 67), (60, 69), (62, 69), (80, 67), (83, 67), (92, 69)] 71 (x1 : Int32).toInt = 71 from by rw [lv_osw (a := 44) c1 (by decide), lv_osw (a := 46) c2 (by decide), lv_osw (a := 60) c3 (by decide), lv_osw (a := 62) c4 (by decide), lv_osw (a := 80) c5 (by decide), lv_osw (a := 83) c6 (by decide), lv_osw (a := 92) c7 (by decide)]; try rfl) (by decide) ?_
  refine v_iload_n C 1 dX7_partsOf_72 rfl rfl ?_
  refine v_bipush C 65 dX7_partsOf_73 (by decide) ?_
  refine v_isub C dX7_partsOf_75 ?_
  refine v_istore_n C [(2, .int (x1 - 65)), (0, .ref (ad 34)), (1, .int x1)] dX7_partsOf_76 rfl (by decide) rfl ?_
  refine v_iload_n C 0 dX7_partsOf_77 rfl rfl ?_
  refine v_if_lt C 108 dX7_partsOf_78 (by decide) (fun c8 => ?_) (fun c8 => ?_)
  · rw [if_pos c8] at h
    exact v_sub [1] rfl ((b_Signs_partsOf_108 C hA (b_Signs_partsOf_109 C hA)) _ h)
  · rw [if_neg c8] at h
    refine v_iload_n C 0 dX7_partsOf_81 rfl rfl ?_
    refine v_aload_n C 1 dX7_partsOf_82 rfl rfl ?_
    refine c_getI C fl_7_25 rfl (okS _ 34 (by decide) rfl) dX7_partsOf_83 ?_
    refine v_icmp_ge C 108 dX7_partsOf_86 (by decide) (fun c9 => ?_) (fun c9 => ?_)
    · rw [if_pos c9] at h
      exact v_sub [1] rfl ((b_Signs_partsOf_108 C hA (b_Signs_partsOf_109 C hA)) _ h)
    · rw [if_neg c9] at h
      refine v_iload_n C 0 dX7_partsOf_89 rfl rfl ?_
      refine v_iconst C 3 dX7_partsOf_90 (by decide) ?_
      refine v_icmp_ge C 108 dX7_partsOf_91 (by decide) (fun c10 => ?_) (fun c10 => ?_)
      · rw [if_pos c10] at h
        exact v_sub [1] rfl ((b_Signs_partsOf_108 C hA (b_Signs_partsOf_109 C hA)) _ h)
      · rw [if_neg c10] at h
        refine v_aload_n C 1 dX7_partsOf_94 rfl rfl ?_
        refine c_getS C 36 fl_7_15 rfl rfl (by decide) (okS _ 34 (by decide) rfl) dX7_partsOf_95 ?_
        refine v_iload_n C 0 dX7_partsOf_98 rfl rfl ?_
        obtain ⟨g1, h⟩ := gd_of h
        refine c_iald C (okS _ 36 (by decide) rfl) (ix_in g1) dX7_partsOf_99 ?_
        refine v_iconst C (-1) dX7_partsOf_100 (by decide) ?_
        refine v_icmp_eq C 108 dX7_partsOf_101 (by decide) (fun c11 => ?_) (fun c11 => ?_)
        · rw [if_pos c11] at h
          exact v_sub [1] rfl ((b_Signs_partsOf_108 C hA (b_Signs_partsOf_109 C hA)) _ h)
        · rw [if_neg c11] at h
          refine v_iconst C 1 dX7_partsOf_104 (by decide) ?_
          refine v_goto C 109 dX7_partsOf_105 (by decide) ?_
          exact v_sub [1] rfl ((b_Signs_partsOf_109 C hA) _ _ h)
set_option maxHeartbeats 4000000 in
set_option maxRecDepth 20000 in
theorem b_Signs_behind_36 {p : Program} {l : Launch} {e : Env} {s : State} {m : MethodId} {args : Array Value} {below : List Frame} {meth : Method} {c : Code} {D : va_G} {cy : Nat → ClassId} {ad : Nat → Nat} {q : Int32 × CS}  (C : vC p s m args meth c cX7_behind 4 (some .int) RX7 D (cyT cy)) (hA : adOK ad) : ∀ (x3 : Int32) (σ : CS), B_Signs_behind_36 x3 σ = some q → V p l e { frames := 1, cells := 0, slots := 0, locals := 22 } s m args below meth c D (inC ad) 4 (MQ below (vQ D (inC ad) (some (.int q.1)) (wc cy ad q.2)) args s 0 0 (inC ad)) 0 0 (wc cy ad σ) 36 [(0, .ref (ad 34)), (3, .int x3)] [] := by
  intro x3 σ h
  rw [B_Signs_behind_36] at h
  refine v_iload_n C 1 dX7_behind_36 rfl rfl ?_
  obtain rfl := Option.some.inj h
  exact v_iret C dX7_behind_37
set_option maxHeartbeats 4000000 in
set_option maxRecDepth 20000 in
theorem l_Signs_behind_4 {p : Program} {l : Launch} {e : Env} {s : State} {m : MethodId} {args : Array Value} {below : List Frame} {meth : Method} {c : Code} {D : va_G} {cy : Nat → ClassId} {ad : Nat → Nat} {q : Int32 × CS}  (C : vC p s m args meth c cX7_behind 4 (some .int) RX7 D (cyT cy)) (hA : adOK ad) : ∀ (n : Nat) (x2 : Int32) (x3 : Int32) (σ : CS), L_Signs_behind_4 n x2 x3 σ = some q → V p l e { frames := 1, cells := 0, slots := 0, locals := 22 } s m args below meth c D (inC ad) 4 (MQ below (vQ D (inC ad) (some (.int q.1)) (wc cy ad q.2)) args s 0 0 (inC ad)) 0 0 (wc cy ad σ) 4 [(0, .ref (ad 34)), (2, .int x2), (3, .int x3)] [] := by
  intro n
  induction n with
  | zero =>
    intro x2 x3 σ h
    rw [L_Signs_behind_4.eq_1] at h
    cases h
  | succ n ih =>
    intro x2 x3 σ h
    rw [L_Signs_behind_4.eq_2] at h
    refine v_iload_n C 1 dX7_behind_4 rfl rfl ?_
    refine v_if_le C 36 dX7_behind_5 (by decide) (fun c1 => ?_) (fun c1 => ?_)
    · rw [if_pos c1] at h
      exact v_sub [0, 2] rfl ((b_Signs_behind_36 C hA) _ _ h)
    · rw [if_neg c1] at h
      refine v_iload_n C 2 dX7_behind_8 rfl rfl ?_
      refine v_aload_n C 0 dX7_behind_9 rfl rfl ?_
      refine c_getI C fl_7_21 rfl (okS _ 34 (by decide) rfl) dX7_behind_10 ?_
      refine v_icmp_ge C 36 dX7_behind_13 (by decide) (fun c2 => ?_) (fun c2 => ?_)
      · rw [if_pos c2] at h
        exact v_sub [0, 2] rfl ((b_Signs_behind_36 C hA) _ _ h)
      · rw [if_neg c2] at h
        refine v_iload_n C 1 dX7_behind_16 rfl rfl ?_
        refine v_aload_n C 0 dX7_behind_17 rfl rfl ?_
        refine v_aload_n C 0 dX7_behind_18 rfl rfl ?_
        refine v_iload_n C 2 dX7_behind_19 rfl rfl ?_
        obtain ⟨q1, hq1, h⟩ := bd_of h
        refine c_call C [.int x3] [.ref (ad 34), .int x2] (c_Signs_at hA _ _ hq1) hY_Signs_at rfl (by decide) (okS _ 34 (by decide) rfl) ml_7_62 ⟨(by omega : 0 + 1 ≤ 1), (by omega : 8 + (2 + 11) + 0 ≤ 22)⟩ ⟨Nat.zero_le _, Nat.zero_le _⟩ rfl rfl (Nat.le_of_ble_eq_true rfl) dX7_behind_20 (wc_D hA cy _) ?_
        obtain ⟨q2, hq2, h⟩ := bd_of h
        refine c_call C [.int q1.1] [.int x2] (c_Signs_partsOf hA _ _ hq2) hY_Signs_partsOf rfl (by decide) (okS _ 34 (by decide) rfl) ml_7_66 ⟨(by omega : 0 + 1 ≤ 1), (by omega : 8 + (3 + 11) + 0 ≤ 22)⟩ ⟨Nat.zero_le _, Nat.zero_le _⟩ rfl rfl (Nat.le_of_ble_eq_true rfl) dX7_behind_23 (wc_D hA cy _) ?_
        refine v_iconst C 1 dX7_behind_26 (by decide) ?_
        refine v_isub C dX7_behind_27 ?_
        refine v_iadd C dX7_behind_28 ?_
        refine v_istore_n C [(2, .int (x2 + (q2.1 - 1))), (0, .ref (ad 34)), (3, .int x3)] dX7_behind_29 rfl (by decide) rfl ?_
        refine v_iinc C (x3 + 1) 2 [(3, .int (x3 + 1)), (2, .int (x2 + (q2.1 - 1))), (0, .ref (ad 34))] dX7_behind_30 rfl rfl (by decide) rfl ?_
        refine v_goto C 4 dX7_behind_33 (by decide) ?_
        exact v_sub [2, 1, 0] rfl (ih _ _ _ h)
set_option maxHeartbeats 4000000 in
set_option maxRecDepth 20000 in
theorem c_Signs_behind {l : Launch} {D : va_G} {cy : Nat → ClassId} {ad : Nat → Nat} {q : Int32 × CS} (hA : adOK ad) (x1 : Int32) (σ : CS) (h : f_Signs_behind x1 σ = some q) : MV l D (cyT cy) (inC ad) yX7_behind cX7_behind 4 (some .int) (1) (22) 0 0 [.ref (ad 34), .int x1] (wc cy ad σ) (some (.int q.1)) (wc cy ad q.2) := by
  refine MV.of (by decide) (wc_D hA cy σ) (Nat.le_of_ble_eq_true rfl) [(0, .ref (ad 34)), (1, .int x1)] rfl ?_
  intro p e s m args below meth c C
  rw [f_Signs_behind] at h
  refine v_iconst C 1 dX7_behind_0 (by decide) ?_
  refine v_istore_n C [(2, .int 1), (0, .ref (ad 34)), (1, .int x1)] dX7_behind_1 rfl (by decide) rfl ?_
  refine v_iload_n C 2 dX7_behind_2 rfl rfl ?_
  refine v_istore_n C [(3, .int x1), (2, .int 1), (0, .ref (ad 34)), (1, .int x1)] dX7_behind_3 rfl (by decide) rfl ?_
  exact v_sub [2, 1, 0] rfl ((l_Signs_behind_4 C hA 10000) _ _ _ h)
set_option maxHeartbeats 4000000 in
set_option maxRecDepth 20000 in
theorem l_Writer_putCopy_17 {p : Program} {l : Launch} {e : Env} {s : State} {m : MethodId} {args : Array Value} {below : List Frame} {meth : Method} {c : Code} {D : va_G} {cy : Nat → ClassId} {ad : Nat → Nat} {q : Int32 × CS}  (C : vC p s m args meth c cX9_putCopy 4 none RX9 D (cyT cy)) (hA : adOK ad) : ∀ (n : Nat) (x2 : Int32) (x3 : Int32) (σ : CS), L_Writer_putCopy_17 n x2 x3 σ = some q → V p l e { frames := 2, cells := 0, slots := 0, locals := 45 } s m args below meth c D (inC ad) 4 (MQ below (vQ D (inC ad) none (wc cy ad q.2)) args s 0 0 (inC ad)) 0 0 (wc cy ad σ) 17 [(0, .ref (ad 44)), (2, .int x2), (3, .int x3)] [] := by
  intro n
  induction n with
  | zero =>
    intro x2 x3 σ h
    rw [L_Writer_putCopy_17.eq_1] at h
    cases h
  | succ n ih =>
    intro x2 x3 σ h
    rw [L_Writer_putCopy_17.eq_2] at h
    refine v_iload_n C 2 dX9_putCopy_17 rfl rfl ?_
    refine v_iload_n C 1 dX9_putCopy_18 rfl rfl ?_
    refine v_icmp_ge C 40 dX9_putCopy_19 (by decide) (fun c1 => ?_) (fun c1 => ?_)
    · rw [if_pos c1] at h
      obtain rfl := Option.some.inj h
      exact v_vret C dX9_putCopy_40
    · rw [if_neg c1] at h
      refine v_aload_n C 0 dX9_putCopy_22 rfl rfl ?_
      refine v_aload_n C 0 dX9_putCopy_23 rfl rfl ?_
      refine c_getS C 34 fl_9_9 rfl rfl (by decide) (okS _ 44 (by decide) rfl) dX9_putCopy_24 ?_
      refine v_iload_n C 2 dX9_putCopy_27 rfl rfl ?_
      obtain ⟨q1, hq1, h⟩ := bd_of h
      refine c_call C [.int x3] [.ref (ad 44)] (c_Signs_at hA _ _ hq1) hY_Signs_at rfl (by decide) (okS _ 34 (by decide) rfl) ml_9_54 ⟨(by omega : 0 + 1 ≤ 2), (by omega : 8 + (2 + 11) + 0 ≤ 45)⟩ ⟨Nat.zero_le _, Nat.zero_le _⟩ rfl rfl (Nat.le_of_ble_eq_true rfl) dX9_putCopy_28 (wc_D hA cy _) ?_
      obtain ⟨q2, hq2, h⟩ := bd_of h
      refine c_call C [.int q1.1] [] (c_Writer_put hA _ _ hq2) hY_Writer_put rfl (by decide) (okS _ 44 (by decide) rfl) ml_9_22 ⟨(by omega : 1 + 1 ≤ 2), (by omega : 8 + (2 + 11) + 21 ≤ 45)⟩ ⟨Nat.zero_le _, Nat.zero_le _⟩ rfl rfl (Nat.le_of_ble_eq_true rfl) dX9_putCopy_31 (wc_D hA cy _) ?_
      refine v_iinc C (x3 + 1) 2 [(3, .int (x3 + 1)), (0, .ref (ad 44)), (2, .int x2)] dX9_putCopy_34 rfl rfl (by decide) rfl ?_
      refine v_goto C 17 dX9_putCopy_37 (by decide) ?_
      exact v_sub [1, 2, 0] rfl (ih _ _ _ h)
set_option maxHeartbeats 4000000 in
set_option maxRecDepth 20000 in
theorem c_Writer_putCopy {l : Launch} {D : va_G} {cy : Nat → ClassId} {ad : Nat → Nat} {q : Int32 × CS} (hA : adOK ad) (x1 : Int32) (σ : CS) (h : f_Writer_putCopy x1 σ = some q) : MV l D (cyT cy) (inC ad) yX9_putCopy cX9_putCopy 4 none (2) (45) 0 0 [.ref (ad 44), .int x1] (wc cy ad σ) none (wc cy ad q.2) := by
  refine MV.of (by decide) (wc_D hA cy σ) (Nat.le_of_ble_eq_true rfl) [(0, .ref (ad 44)), (1, .int x1)] rfl ?_
  intro p e s m args below meth c C
  rw [f_Writer_putCopy] at h
  refine v_iload_n C 1 dX9_putCopy_0 rfl rfl ?_
  refine v_iconst C (-1) dX9_putCopy_1 (by decide) ?_
  refine v_icmp_ne C 6 dX9_putCopy_2 (by decide) (fun c1 => ?_) (fun c1 => ?_)
  · rw [if_neg c1] at h
    refine v_aload_n C 0 dX9_putCopy_6 rfl rfl ?_
    refine c_getS C 34 fl_9_9 rfl rfl (by decide) (okS _ 44 (by decide) rfl) dX9_putCopy_7 ?_
    refine v_iload_n C 1 dX9_putCopy_10 rfl rfl ?_
    obtain ⟨q1, hq1, h⟩ := bd_of h
    refine c_call C [.int x1] [] (c_Signs_behind hA _ _ hq1) hY_Signs_behind rfl (by decide) (okS _ 34 (by decide) rfl) ml_9_50 ⟨(by omega : 1 + 1 ≤ 2), (by omega : 8 + (4 + 11) + 22 ≤ 45)⟩ ⟨Nat.zero_le _, Nat.zero_le _⟩ rfl rfl (Nat.le_of_ble_eq_true rfl) dX9_putCopy_11 (wc_D hA cy _) ?_
    refine v_istore_n C [(2, .int q1.1), (0, .ref (ad 44)), (1, .int x1)] dX9_putCopy_14 rfl (by decide) rfl ?_
    refine v_iload_n C 2 dX9_putCopy_15 rfl rfl ?_
    refine v_istore_n C [(3, .int x1), (2, .int q1.1), (0, .ref (ad 44)), (1, .int x1)] dX9_putCopy_16 rfl (by decide) rfl ?_
    exact v_sub [2, 1, 0] rfl ((l_Writer_putCopy_17 C hA 10000) _ _ _ h)
  · rw [if_pos c1] at h
    obtain rfl := Option.some.inj h
    exact v_vret C dX9_putCopy_5
set_option maxHeartbeats 4000000 in
set_option maxRecDepth 20000 in
theorem b_Writer_written_15 {p : Program} {l : Launch} {e : Env} {s : State} {m : MethodId} {args : Array Value} {below : List Frame} {meth : Method} {c : Code} {D : va_G} {cy : Nat → ClassId} {ad : Nat → Nat} {q : Int32 × CS}  (C : vC p s m args meth c cX9_written 1 (some .int) RX9 D (cyT cy)) (hA : adOK ad) : ∀ (s0 : Int32) (σ : CS), B_Writer_written_15 s0 σ = some q → V p l e { frames := 0, cells := 0, slots := 0, locals := 0 } s m args below meth c D (inC ad) 1 (MQ below (vQ D (inC ad) (some (.int q.1)) (wc cy ad q.2)) args s 0 0 (inC ad)) 0 0 (wc cy ad σ) 15 [(0, .ref (ad 44))] [.int s0] := by
  intro s0 σ h
  rw [B_Writer_written_15] at h
  obtain rfl := Option.some.inj h
  exact v_iret C dX9_written_15
set_option maxHeartbeats 4000000 in
set_option maxRecDepth 20000 in
theorem c_Writer_written {l : Launch} {D : va_G} {cy : Nat → ClassId} {ad : Nat → Nat} {q : Int32 × CS} (hA : adOK ad) (σ : CS) (h : f_Writer_written σ = some q) : MV l D (cyT cy) (inC ad) yX9_written cX9_written 1 (some .int) (0) (0) 0 0 [.ref (ad 44)] (wc cy ad σ) (some (.int q.1)) (wc cy ad q.2) := by
  refine MV.of (by decide) (wc_D hA cy σ) (Nat.le_of_ble_eq_true rfl) [(0, .ref (ad 44))] rfl ?_
  intro p e s m args below meth c C
  rw [f_Writer_written] at h
  refine v_aload_n C 0 dX9_written_0 rfl rfl ?_
  refine c_getI C fl_9_42 rfl (okS _ 44 (by decide) rfl) dX9_written_1 ?_
  refine v_if_eq C 11 dX9_written_4 (by decide) (fun c1 => ?_) (fun c1 => ?_)
  · rw [if_pos c1] at h
    refine v_aload_n C 0 dX9_written_11 rfl rfl ?_
    refine c_getI C fl_9_39 rfl (okS _ 44 (by decide) rfl) dX9_written_12 ?_
    exact v_sub [0] rfl ((b_Writer_written_15 C hA) _ _ h)
  · rw [if_neg c1] at h
    refine v_iconst C (-1) dX9_written_7 (by decide) ?_
    refine v_goto C 15 dX9_written_8 (by decide) ?_
    exact v_sub [0] rfl ((b_Writer_written_15 C hA) _ _ h)
set_option maxHeartbeats 4000000 in
set_option maxRecDepth 20000 in
theorem c_Writer_join {l : Launch} {D : va_G} {cy : Nat → ClassId} {ad : Nat → Nat} {q : Int32 × CS} (hA : adOK ad) (x1 : Int32) (x2 : Int32) (x3 : Int32) (σ : CS) (h : f_Writer_join x1 x2 x3 σ = some q) : MV l D (cyT cy) (inC ad) yX9_join cX9_join 4 (some .int) (3) (68) 0 0 [.ref (ad 44), .int x1, .int x2, .int x3] (wc cy ad σ) (some (.int q.1)) (wc cy ad q.2) := by
  refine MV.of (by decide) (wc_D hA cy σ) (Nat.le_of_ble_eq_true rfl) [(0, .ref (ad 44)), (1, .int x1), (2, .int x2), (3, .int x3)] rfl ?_
  intro p e s m args below meth c C
  rw [f_Writer_join] at h
  refine v_aload_n C 0 dX9_join_0 rfl rfl ?_
  obtain ⟨q1, hq1, h⟩ := bd_of h
  refine c_call C [] [] (c_Writer_begin hA _ hq1) hY_Writer_begin rfl (by decide) (okS _ 44 (by decide) rfl) ml_9_19 ⟨(by omega : 0 + 1 ≤ 3), (by omega : 8 + (1 + 11) + 0 ≤ 68)⟩ ⟨Nat.zero_le _, Nat.zero_le _⟩ rfl rfl (Nat.le_of_ble_eq_true rfl) dX9_join_1 (wc_D hA cy _) ?_
  refine v_aload_n C 0 dX9_join_4 rfl rfl ?_
  refine v_iload_n C 1 dX9_join_5 rfl rfl ?_
  obtain ⟨q2, hq2, h⟩ := bd_of h
  refine c_call C [.int x1] [] (c_Writer_put hA _ _ hq2) hY_Writer_put rfl (by decide) (okS _ 44 (by decide) rfl) ml_9_22 ⟨(by omega : 1 + 1 ≤ 3), (by omega : 8 + (2 + 11) + 21 ≤ 68)⟩ ⟨Nat.zero_le _, Nat.zero_le _⟩ rfl rfl (Nat.le_of_ble_eq_true rfl) dX9_join_6 (wc_D hA cy _) ?_
  refine v_aload_n C 0 dX9_join_9 rfl rfl ?_
  refine v_iload_n C 2 dX9_join_10 rfl rfl ?_
  obtain ⟨q3, hq3, h⟩ := bd_of h
  refine c_call C [.int x2] [] (c_Writer_putCopy hA _ _ hq3) hY_Writer_putCopy rfl (by decide) (okS _ 44 (by decide) rfl) ml_9_26 ⟨(by omega : 2 + 1 ≤ 3), (by omega : 8 + (4 + 11) + 45 ≤ 68)⟩ ⟨Nat.zero_le _, Nat.zero_le _⟩ rfl rfl (Nat.le_of_ble_eq_true rfl) dX9_join_11 (wc_D hA cy _) ?_
  refine v_aload_n C 0 dX9_join_14 rfl rfl ?_
  refine v_iload_n C 3 dX9_join_15 rfl rfl ?_
  obtain ⟨q4, hq4, h⟩ := bd_of h
  refine c_call C [.int x3] [] (c_Writer_putCopy hA _ _ hq4) hY_Writer_putCopy rfl (by decide) (okS _ 44 (by decide) rfl) ml_9_26 ⟨(by omega : 2 + 1 ≤ 3), (by omega : 8 + (4 + 11) + 45 ≤ 68)⟩ ⟨Nat.zero_le _, Nat.zero_le _⟩ rfl rfl (Nat.le_of_ble_eq_true rfl) dX9_join_16 (wc_D hA cy _) ?_
  refine v_aload_n C 0 dX9_join_19 rfl rfl ?_
  obtain ⟨q5, hq5, h⟩ := bd_of h
  refine c_call C [] [] (c_Writer_written hA _ hq5) hY_Writer_written rfl (by decide) (okS _ 44 (by decide) rfl) ml_9_29 ⟨(by omega : 0 + 1 ≤ 3), (by omega : 8 + (1 + 11) + 0 ≤ 68)⟩ ⟨Nat.zero_le _, Nat.zero_le _⟩ rfl rfl (Nat.le_of_ble_eq_true rfl) dX9_join_20 (wc_D hA cy _) ?_
  obtain rfl := Option.some.inj h
  exact v_iret C dX9_join_23
set_option maxHeartbeats 4000000 in
set_option maxRecDepth 20000 in
theorem b_Reader_join_29 {p : Program} {l : Launch} {e : Env} {s : State} {m : MethodId} {args : Array Value} {below : List Frame} {meth : Method} {c : Code} {D : va_G} {cy : Nat → ClassId} {ad : Nat → Nat} {q : Int32 × CS}  (C : vC p s m args meth c cX4_join 6 (some .int) RX4 D (cyT cy)) (hA : adOK ad) : ∀ (s0 : Int32) (σ : CS), B_Reader_join_29 s0 σ = some q → V p l e { frames := 4, cells := 0, slots := 0, locals := 91 } s m args below meth c D (inC ad) 6 (MQ below (vQ D (inC ad) (some (.int q.1)) (wc cy ad q.2)) args s 0 0 (inC ad)) 0 0 (wc cy ad σ) 29 [(0, .ref (ad 43))] [.int s0] := by
  intro s0 σ h
  rw [B_Reader_join_29] at h
  obtain rfl := Option.some.inj h
  exact v_iret C dX4_join_29
set_option maxHeartbeats 4000000 in
set_option maxRecDepth 20000 in
theorem c_Reader_join {l : Launch} {D : va_G} {cy : Nat → ClassId} {ad : Nat → Nat} {q : Int32 × CS} (hA : adOK ad) (x1 : Int32) (x2 : Int32) (x3 : Int32) (x4 : Int32) (σ : CS) (h : f_Reader_join x1 x2 x3 x4 σ = some q) : MV l D (cyT cy) (inC ad) yX4_join cX4_join 6 (some .int) (4) (91) 0 0 [.ref (ad 43), .int x1, .int x2, .int x3, .int x4] (wc cy ad σ) (some (.int q.1)) (wc cy ad q.2) := by
  refine MV.of (by decide) (wc_D hA cy σ) (Nat.le_of_ble_eq_true rfl) [(0, .ref (ad 43)), (1, .int x1), (2, .int x2), (3, .int x3), (4, .int x4)] rfl ?_
  intro p e s m args below meth c C
  rw [f_Reader_join] at h
  refine v_aload_n C 0 dX4_join_0 rfl rfl ?_
  refine c_getS C 44 fl_4_33 rfl rfl (by decide) (okS _ 43 (by decide) rfl) dX4_join_1 ?_
  refine v_iload_n C 1 dX4_join_4 rfl rfl ?_
  refine v_iload_n C 2 dX4_join_5 rfl rfl ?_
  refine v_iload_n C 3 dX4_join_6 rfl rfl ?_
  obtain ⟨q1, hq1, h⟩ := bd_of h
  refine c_call C [.int x1, .int x2, .int x3] [] (c_Writer_join hA _ _ _ _ hq1) hY_Writer_join rfl (by decide) (okS _ 44 (by decide) rfl) ml_4_118 ⟨(by omega : 3 + 1 ≤ 4), (by omega : 8 + (4 + 11) + 68 ≤ 91)⟩ ⟨Nat.zero_le _, Nat.zero_le _⟩ rfl rfl (Nat.le_of_ble_eq_true rfl) dX4_join_7 (wc_D hA cy _) ?_
  refine v_istore C [(5, .int q1.1), (0, .ref (ad 43)), (1, .int x1), (2, .int x2), (3, .int x3), (4, .int x4)] dX4_join_10 (by decide) rfl ?_
  refine v_iload C 0 dX4_join_12 rfl ?_
  refine v_iconst C (-1) dX4_join_14 (by decide) ?_
  refine v_icmp_ne C 27 dX4_join_15 (by decide) (fun c1 => ?_) (fun c1 => ?_)
  · rw [if_neg c1] at h
    refine v_iload C 0 dX4_join_27 rfl ?_
    exact v_sub [1] rfl ((b_Reader_join_29 C hA) _ _ h)
  · rw [if_pos c1] at h
    refine v_aload_n C 1 dX4_join_18 rfl rfl ?_
    refine v_iload C 5 dX4_join_19 rfl ?_
    obtain ⟨q2, hq2, h⟩ := bd_of h
    refine c_call C [.int x4] [] (c_Reader_refuse hA _ _ hq2) hY_Reader_refuse rfl (by decide) (okS _ 43 (by decide) rfl) ml_4_124 ⟨(by omega : 0 + 1 ≤ 4), (by omega : 8 + (2 + 11) + 0 ≤ 91)⟩ ⟨Nat.zero_le _, Nat.zero_le _⟩ rfl rfl (Nat.le_of_ble_eq_true rfl) dX4_join_21 (wc_D hA cy _) ?_
    refine v_goto C 29 dX4_join_24 (by decide) ?_
    exact v_sub [1] rfl ((b_Reader_join_29 C hA) _ _ h)
set_option maxHeartbeats 4000000 in
set_option maxRecDepth 20000 in
theorem b_Values_make_18 {p : Program} {l : Launch} {e : Env} {s : State} {m : MethodId} {args : Array Value} {below : List Frame} {meth : Method} {c : Code} {D : va_G} {cy : Nat → ClassId} {ad : Nat → Nat} {q : Int32 × CS}  (C : vC p s m args meth c cX8_make 4 (some .int) RX8 D (cyT cy)) (hA : adOK ad) : ∀ (σ : CS), B_Values_make_18 σ = some q → V p l e { frames := 0, cells := 0, slots := 0, locals := 0 } s m args below meth c D (inC ad) 4 (MQ below (vQ D (inC ad) (some (.int q.1)) (wc cy ad q.2)) args s 0 0 (inC ad)) 0 0 (wc cy ad σ) 18 [(0, .ref (ad 38))] [] := by
  intro σ h
  rw [B_Values_make_18] at h
  refine v_iconst C 0 dX8_make_18 (by decide) ?_
  obtain rfl := Option.some.inj h
  exact v_iret C dX8_make_19
set_option maxHeartbeats 4000000 in
set_option maxRecDepth 20000 in
theorem c_Values_make {l : Launch} {D : va_G} {cy : Nat → ClassId} {ad : Nat → Nat} {q : Int32 × CS} (hA : adOK ad) (x1 : Int32) (x2 : Int32) (x3 : Int32) (σ : CS) (h : f_Values_make x1 x2 x3 σ = some q) : MV l D (cyT cy) (inC ad) yX8_make cX8_make 4 (some .int) (0) (0) 0 0 [.ref (ad 38), .int x1, .int x2, .int x3] (wc cy ad σ) (some (.int q.1)) (wc cy ad q.2) := by
  refine MV.of (by decide) (wc_D hA cy σ) (Nat.le_of_ble_eq_true rfl) [(0, .ref (ad 38)), (1, .int x1), (2, .int x2), (3, .int x3)] rfl ?_
  intro p e s m args below meth c C
  rw [f_Values_make] at h
  refine v_aload_n C 0 dX8_make_0 rfl rfl ?_
  refine c_getI C fl_8_21 rfl (okS _ 38 (by decide) rfl) dX8_make_1 ?_
  refine v_iconst C 1 dX8_make_4 (by decide) ?_
  refine v_icmp_lt C 18 dX8_make_5 (by decide) (fun c1 => ?_) (fun c1 => ?_)
  · rw [if_pos c1] at h
    exact v_sub [0] rfl ((b_Values_make_18 C hA) _ h)
  · rw [if_neg c1] at h
    refine v_aload_n C 0 dX8_make_8 rfl rfl ?_
    refine c_getI C fl_8_21 rfl (okS _ 38 (by decide) rfl) dX8_make_9 ?_
    refine v_sipush C 3072 dX8_make_12 (by decide) ?_
    refine v_icmp_lt C 20 dX8_make_15 (by decide) (fun c2 => ?_) (fun c2 => ?_)
    · rw [if_pos c2] at h
      refine v_aload_n C 0 dX8_make_20 rfl rfl ?_
      refine c_getS C 39 fl_8_11 rfl rfl (by decide) (okS _ 38 (by decide) rfl) dX8_make_21 ?_
      refine v_aload_n C 0 dX8_make_24 rfl rfl ?_
      refine c_getI C fl_8_21 rfl (okS _ 38 (by decide) rfl) dX8_make_25 ?_
      refine v_iload_n C 1 dX8_make_28 rfl rfl ?_
      obtain ⟨g1, h⟩ := gd_of h
      refine c_iast C (okS _ 39 (by decide) rfl) (ix_in g1) dX8_make_29 ?_
      refine v_aload_n C 0 dX8_make_30 rfl rfl ?_
      refine c_getS C 40 fl_8_15 rfl rfl (by decide) (okS _ 38 (by decide) rfl) dX8_make_31 ?_
      refine v_aload_n C 0 dX8_make_34 rfl rfl ?_
      refine c_getI C fl_8_21 rfl (okS _ 38 (by decide) rfl) dX8_make_35 ?_
      refine v_iload_n C 2 dX8_make_38 rfl rfl ?_
      obtain ⟨g2, h⟩ := gd_of h
      refine c_iast C (okS _ 40 (by decide) rfl) (ix_in g2) dX8_make_39 ?_
      refine v_aload_n C 0 dX8_make_40 rfl rfl ?_
      refine c_getS C 41 fl_8_18 rfl rfl (by decide) (okS _ 38 (by decide) rfl) dX8_make_41 ?_
      refine v_aload_n C 0 dX8_make_44 rfl rfl ?_
      refine c_getI C fl_8_21 rfl (okS _ 38 (by decide) rfl) dX8_make_45 ?_
      refine v_iload_n C 3 dX8_make_48 rfl rfl ?_
      obtain ⟨g3, h⟩ := gd_of h
      refine c_iast C (okS _ 41 (by decide) rfl) (ix_in g3) dX8_make_49 ?_
      refine v_aload_n C 0 dX8_make_50 rfl rfl ?_
      refine v_dup C dX8_make_51 rfl ?_
      refine c_getI C fl_8_21 rfl (okS _ 38 (by decide) rfl) dX8_make_52 ?_
      refine v_iconst C 1 dX8_make_55 (by decide) ?_
      refine v_iadd C dX8_make_56 ?_
      refine c_putI C fl_8_21 fw_8_4 rfl (by decide) (okS _ 38 (by decide) rfl) dX8_make_57 ?_
      refine v_aload_n C 0 dX8_make_60 rfl rfl ?_
      refine c_getI C fl_8_21 rfl (okS _ 38 (by decide) rfl) dX8_make_61 ?_
      refine v_iconst C 1 dX8_make_64 (by decide) ?_
      refine v_isub C dX8_make_65 ?_
      obtain rfl := Option.some.inj h
      exact v_iret C dX8_make_66
    · rw [if_neg c2] at h
      exact v_sub [0] rfl ((b_Values_make_18 C hA) _ h)
set_option maxHeartbeats 4000000 in
set_option maxRecDepth 20000 in
theorem c_Values_typeAt {l : Launch} {D : va_G} {cy : Nat → ClassId} {ad : Nat → Nat} {q : Int32 × CS} (hA : adOK ad) (x1 : Int32) (x2 : Int32) (σ : CS) (h : f_Values_typeAt x1 x2 σ = some q) : MV l D (cyT cy) (inC ad) yX8_typeAt cX8_typeAt 3 (some .int) (1) (23) 0 0 [.ref (ad 38), .int x1, .int x2] (wc cy ad σ) (some (.int q.1)) (wc cy ad q.2) := by
  refine MV.of (by decide) (wc_D hA cy σ) (Nat.le_of_ble_eq_true rfl) [(0, .ref (ad 38)), (1, .int x1), (2, .int x2)] rfl ?_
  intro p e s m args below meth c C
  rw [f_Values_typeAt] at h
  refine v_aload_n C 0 dX8_typeAt_0 rfl rfl ?_
  refine v_bipush C 10 dX8_typeAt_1 (by decide) ?_
  refine v_iload_n C 1 dX8_typeAt_3 rfl rfl ?_
  refine v_iload_n C 2 dX8_typeAt_4 rfl rfl ?_
  obtain ⟨q1, hq1, h⟩ := bd_of h
  refine c_call C [.int 10, .int x1, .int x2] [] (c_Values_make hA _ _ _ _ hq1) hY_Values_make rfl (by decide) (okS _ 38 (by decide) rfl) ml_8_32 ⟨(by omega : 0 + 1 ≤ 1), (by omega : 8 + (4 + 11) + 0 ≤ 23)⟩ ⟨Nat.zero_le _, Nat.zero_le _⟩ rfl rfl (Nat.le_of_ble_eq_true rfl) dX8_typeAt_5 (wc_D hA cy _) ?_
  obtain rfl := Option.some.inj h
  exact v_iret C dX8_typeAt_8
set_option maxHeartbeats 4000000 in
set_option maxRecDepth 20000 in
theorem l_Signs_isData_8 {p : Program} {l : Launch} {e : Env} {s : State} {m : MethodId} {args : Array Value} {below : List Frame} {meth : Method} {c : Code} {D : va_G} {cy : Nat → ClassId} {ad : Nat → Nat} {q : Int32 × CS}  (C : vC p s m args meth c cX7_isData 4 (some .boolean) RX7 D (cyT cy)) (hA : adOK ad) : ∀ (n : Nat) (x2 : Int32) (x3 : Int32) (σ : CS), L_Signs_isData_8 n x2 x3 σ = some q → V p l e { frames := 2, cells := 0, slots := 0, locals := 45 } s m args below meth c D (inC ad) 4 (MQ below (vQ D (inC ad) (some (.int q.1)) (wc cy ad q.2)) args s 0 0 (inC ad)) 0 0 (wc cy ad σ) 8 [(0, .ref (ad 34)), (2, .int x2), (3, .int x3)] [] := by
  intro n
  induction n with
  | zero =>
    intro x2 x3 σ h
    rw [L_Signs_isData_8.eq_1] at h
    cases h
  | succ n ih =>
    intro x2 x3 σ h
    rw [L_Signs_isData_8.eq_2] at h
    refine v_iload_n C 2 dX7_isData_8 rfl rfl ?_
    refine v_iload_n C 1 dX7_isData_9 rfl rfl ?_
    refine v_icmp_ge C 31 dX7_isData_10 (by decide) (fun c1 => ?_) (fun c1 => ?_)
    · rw [if_pos c1] at h
      refine v_iconst C 1 dX7_isData_31 (by decide) ?_
      obtain rfl := Option.some.inj h
      exact v_zret C (Or.inr rfl) dX7_isData_32
    · rw [if_neg c1] at h
      refine v_aload_n C 0 dX7_isData_13 rfl rfl ?_
      refine v_iload_n C 2 dX7_isData_14 rfl rfl ?_
      obtain ⟨q1, hq1, h⟩ := bd_of h
      refine c_call C [.int x3] [] (c_Signs_at hA _ _ hq1) hY_Signs_at rfl (by decide) (okS _ 34 (by decide) rfl) ml_7_62 ⟨(by omega : 0 + 1 ≤ 2), (by omega : 8 + (2 + 11) + 0 ≤ 45)⟩ ⟨Nat.zero_le _, Nat.zero_le _⟩ rfl rfl (Nat.le_of_ble_eq_true rfl) dX7_isData_15 (wc_D hA cy _) ?_
      refine v_bipush C 80 dX7_isData_18 (by decide) ?_
      refine v_icmp_ne C 25 dX7_isData_20 (by decide) (fun c2 => ?_) (fun c2 => ?_)
      · rw [if_neg c2] at h
        refine v_iinc C (x3 + 1) 2 [(3, .int (x3 + 1)), (0, .ref (ad 34)), (2, .int x2)] dX7_isData_25 rfl rfl (by decide) rfl ?_
        refine v_goto C 8 dX7_isData_28 (by decide) ?_
        exact v_sub [1, 2, 0] rfl (ih _ _ _ h)
      · rw [if_pos c2] at h
        refine v_iconst C 0 dX7_isData_23 (by decide) ?_
        obtain rfl := Option.some.inj h
        exact v_zret C (Or.inl rfl) dX7_isData_24
set_option maxHeartbeats 4000000 in
set_option maxRecDepth 20000 in
theorem c_Signs_isData {l : Launch} {D : va_G} {cy : Nat → ClassId} {ad : Nat → Nat} {q : Int32 × CS} (hA : adOK ad) (x1 : Int32) (σ : CS) (h : f_Signs_isData x1 σ = some q) : MV l D (cyT cy) (inC ad) yX7_isData cX7_isData 4 (some .boolean) (2) (45) 0 0 [.ref (ad 34), .int x1] (wc cy ad σ) (some (.int q.1)) (wc cy ad q.2) := by
  refine MV.of (by decide) (wc_D hA cy σ) (Nat.le_of_ble_eq_true rfl) [(0, .ref (ad 34)), (1, .int x1)] rfl ?_
  intro p e s m args below meth c C
  rw [f_Signs_isData] at h
  refine v_aload_n C 0 dX7_isData_0 rfl rfl ?_
  refine v_iload_n C 1 dX7_isData_1 rfl rfl ?_
  obtain ⟨q1, hq1, h⟩ := bd_of h
  refine c_call C [.int x1] [] (c_Signs_behind hA _ _ hq1) hY_Signs_behind rfl (by decide) (okS _ 34 (by decide) rfl) ml_7_69 ⟨(by omega : 1 + 1 ≤ 2), (by omega : 8 + (4 + 11) + 22 ≤ 45)⟩ ⟨Nat.zero_le _, Nat.zero_le _⟩ rfl rfl (Nat.le_of_ble_eq_true rfl) dX7_isData_2 (wc_D hA cy _) ?_
  refine v_istore_n C [(2, .int q1.1), (0, .ref (ad 34)), (1, .int x1)] dX7_isData_5 rfl (by decide) rfl ?_
  refine v_iload_n C 2 dX7_isData_6 rfl rfl ?_
  refine v_istore_n C [(3, .int x1), (2, .int q1.1), (0, .ref (ad 34)), (1, .int x1)] dX7_isData_7 rfl (by decide) rfl ?_
  exact v_sub [2, 1, 0] rfl ((l_Signs_isData_8 C hA 10000) _ _ _ h)
set_option maxHeartbeats 4000000 in
set_option maxRecDepth 20000 in
theorem b_Reader_scope_20 {p : Program} {l : Launch} {e : Env} {s : State} {m : MethodId} {args : Array Value} {below : List Frame} {meth : Method} {c : Code} {D : va_G} {cy : Nat → ClassId} {ad : Nat → Nat} {q : Int32 × CS}  (C : vC p s m args meth c cX4_scope 2 (some .int) RX4 D (cyT cy)) (hA : adOK ad) : ∀ (s0 : Int32) (σ : CS), B_Reader_scope_20 s0 σ = some q → V p l e { frames := 0, cells := 0, slots := 0, locals := 0 } s m args below meth c D (inC ad) 2 (MQ below (vQ D (inC ad) (some (.int q.1)) (wc cy ad q.2)) args s 0 0 (inC ad)) 0 0 (wc cy ad σ) 20 [(0, .ref (ad 43))] [.int s0] := by
  intro s0 σ h
  rw [B_Reader_scope_20] at h
  obtain rfl := Option.some.inj h
  exact v_iret C dX4_scope_20
set_option maxHeartbeats 4000000 in
set_option maxRecDepth 20000 in
theorem b_Reader_scope_19 {p : Program} {l : Launch} {e : Env} {s : State} {m : MethodId} {args : Array Value} {below : List Frame} {meth : Method} {c : Code} {D : va_G} {cy : Nat → ClassId} {ad : Nat → Nat} {q : Int32 × CS}  (C : vC p s m args meth c cX4_scope 2 (some .int) RX4 D (cyT cy)) (hA : adOK ad) {k20 : Int32 → CS → Option (Int32 × CS)} (hk20 : ∀ (s0 : Int32) (σ : CS), k20 s0 σ = some q → V p l e { frames := 0, cells := 0, slots := 0, locals := 0 } s m args below meth c D (inC ad) 2 (MQ below (vQ D (inC ad) (some (.int q.1)) (wc cy ad q.2)) args s 0 0 (inC ad)) 0 0 (wc cy ad σ) 20 [(0, .ref (ad 43))] [.int s0]) : ∀ (σ : CS), B_Reader_scope_19 k20 σ = some q → V p l e { frames := 0, cells := 0, slots := 0, locals := 0 } s m args below meth c D (inC ad) 2 (MQ below (vQ D (inC ad) (some (.int q.1)) (wc cy ad q.2)) args s 0 0 (inC ad)) 0 0 (wc cy ad σ) 19 [(0, .ref (ad 43))] [] := by
  intro σ h
  rw [B_Reader_scope_19] at h
  refine v_iconst C 0 dX4_scope_19 (by decide) ?_
  exact v_sub [0] rfl (hk20 _ _ h)
set_option maxHeartbeats 4000000 in
set_option maxRecDepth 20000 in
theorem c_Reader_scope {l : Launch} {D : va_G} {cy : Nat → ClassId} {ad : Nat → Nat} {q : Int32 × CS} (hA : adOK ad) (x1 : Int32) (σ : CS) (h : f_Reader_scope x1 σ = some q) : MV l D (cyT cy) (inC ad) yX4_scope cX4_scope 2 (some .int) (0) (0) 0 0 [.ref (ad 43), .int x1] (wc cy ad σ) (some (.int q.1)) (wc cy ad q.2) := by
  refine MV.of (by decide) (wc_D hA cy σ) (Nat.le_of_ble_eq_true rfl) [(0, .ref (ad 43)), (1, .int x1)] rfl ?_
  intro p e s m args below meth c C
  rw [f_Reader_scope] at h
  refine v_iload_n C 1 dX4_scope_0 rfl rfl ?_
  refine v_if_lt C 19 dX4_scope_1 (by decide) (fun c1 => ?_) (fun c1 => ?_)
  · rw [if_pos c1] at h
    exact v_sub [0] rfl ((b_Reader_scope_19 C hA (b_Reader_scope_20 C hA)) _ h)
  · rw [if_neg c1] at h
    refine v_iload_n C 1 dX4_scope_4 rfl rfl ?_
    refine v_bipush C 10 dX4_scope_5 (by decide) ?_
    refine v_icmp_gt C 19 dX4_scope_7 (by decide) (fun c2 => ?_) (fun c2 => ?_)
    · rw [if_pos c2] at h
      exact v_sub [0] rfl ((b_Reader_scope_19 C hA (b_Reader_scope_20 C hA)) _ h)
    · rw [if_neg c2] at h
      refine v_aload_n C 0 dX4_scope_10 rfl rfl ?_
      refine c_getS C 45 fl_4_9 rfl rfl (by decide) (okS _ 43 (by decide) rfl) dX4_scope_11 ?_
      refine v_iload_n C 1 dX4_scope_14 rfl rfl ?_
      obtain ⟨g1, h⟩ := gd_of h
      refine c_iald C (okS _ 45 (by decide) rfl) (ix_in g1) dX4_scope_15 ?_
      refine v_goto C 20 dX4_scope_16 (by decide) ?_
      exact v_sub [0] rfl ((b_Reader_scope_20 C hA) _ _ h)
set_option maxHeartbeats 4000000 in
set_option maxRecDepth 20000 in
theorem b_Values_newVariable_10 {p : Program} {l : Launch} {e : Env} {s : State} {m : MethodId} {args : Array Value} {below : List Frame} {meth : Method} {c : Code} {D : va_G} {cy : Nat → ClassId} {ad : Nat → Nat} {q : Int32 × CS}  (C : vC p s m args meth c cX8_newVariable 3 (some .int) RX8 D (cyT cy)) (hA : adOK ad) : ∀ (σ : CS), B_Values_newVariable_10 σ = some q → V p l e { frames := 1, cells := 0, slots := 0, locals := 23 } s m args below meth c D (inC ad) 3 (MQ below (vQ D (inC ad) (some (.int q.1)) (wc cy ad q.2)) args s 0 0 (inC ad)) 0 0 (wc cy ad σ) 10 [(0, .ref (ad 38))] [] := by
  intro σ h
  rw [B_Values_newVariable_10] at h
  refine v_iconst C 0 dX8_newVariable_10 (by decide) ?_
  obtain rfl := Option.some.inj h
  exact v_iret C dX8_newVariable_11
set_option maxHeartbeats 4000000 in
set_option maxRecDepth 20000 in
theorem c_Values_newVariable {l : Launch} {D : va_G} {cy : Nat → ClassId} {ad : Nat → Nat} {q : Int32 × CS} (hA : adOK ad) (x1 : Int32) (x2 : Int32) (σ : CS) (h : f_Values_newVariable x1 x2 σ = some q) : MV l D (cyT cy) (inC ad) yX8_newVariable cX8_newVariable 3 (some .int) (1) (23) 0 0 [.ref (ad 38), .int x1, .int x2] (wc cy ad σ) (some (.int q.1)) (wc cy ad q.2) := by
  refine MV.of (by decide) (wc_D hA cy σ) (Nat.le_of_ble_eq_true rfl) [(0, .ref (ad 38)), (1, .int x1), (2, .int x2)] rfl ?_
  intro p e s m args below meth c C
  rw [f_Values_newVariable] at h
  refine v_iload_n C 1 dX8_newVariable_0 rfl rfl ?_
  refine v_if_lt C 10 dX8_newVariable_1 (by decide) (fun c1 => ?_) (fun c1 => ?_)
  · rw [if_pos c1] at h
    exact v_sub [0] rfl ((b_Values_newVariable_10 C hA) _ h)
  · rw [if_neg c1] at h
    refine v_iload_n C 1 dX8_newVariable_4 rfl rfl ?_
    refine v_bipush C 10 dX8_newVariable_5 (by decide) ?_
    refine v_icmp_lt C 12 dX8_newVariable_7 (by decide) (fun c2 => ?_) (fun c2 => ?_)
    · rw [if_pos c2] at h
      refine v_aload_n C 0 dX8_newVariable_12 rfl rfl ?_
      refine c_getS C 42 fl_8_25 rfl rfl (by decide) (okS _ 38 (by decide) rfl) dX8_newVariable_13 ?_
      refine v_iload_n C 1 dX8_newVariable_16 rfl rfl ?_
      refine v_iload_n C 2 dX8_newVariable_17 rfl rfl ?_
      obtain ⟨g1, h⟩ := gd_of h
      refine c_iast C (okS _ 42 (by decide) rfl) (ix_in g1) dX8_newVariable_18 ?_
      refine v_aload_n C 0 dX8_newVariable_19 rfl rfl ?_
      refine v_iconst C 1 dX8_newVariable_20 (by decide) ?_
      refine v_iload_n C 1 dX8_newVariable_21 rfl rfl ?_
      refine v_iconst C 0 dX8_newVariable_22 (by decide) ?_
      obtain ⟨q1, hq1, h⟩ := bd_of h
      refine c_call C [.int 1, .int x1, .int 0] [] (c_Values_make hA _ _ _ _ hq1) hY_Values_make rfl (by decide) (okS _ 38 (by decide) rfl) ml_8_32 ⟨(by omega : 0 + 1 ≤ 1), (by omega : 8 + (4 + 11) + 0 ≤ 23)⟩ ⟨Nat.zero_le _, Nat.zero_le _⟩ rfl rfl (Nat.le_of_ble_eq_true rfl) dX8_newVariable_23 (wc_D hA cy _) ?_
      obtain rfl := Option.some.inj h
      exact v_iret C dX8_newVariable_26
    · rw [if_neg c2] at h
      exact v_sub [0] rfl ((b_Values_newVariable_10 C hA) _ h)
set_option maxHeartbeats 4000000 in
set_option maxRecDepth 20000 in
theorem c_Values_extended {l : Launch} {D : va_G} {cy : Nat → ClassId} {ad : Nat → Nat} {q : Int32 × CS} (hA : adOK ad) (x1 : Int32) (x2 : Int32) (σ : CS) (h : f_Values_extended x1 x2 σ = some q) : MV l D (cyT cy) (inC ad) yX8_extended cX8_extended 3 (some .int) (1) (23) 0 0 [.ref (ad 38), .int x1, .int x2] (wc cy ad σ) (some (.int q.1)) (wc cy ad q.2) := by
  refine MV.of (by decide) (wc_D hA cy σ) (Nat.le_of_ble_eq_true rfl) [(0, .ref (ad 38)), (1, .int x1), (2, .int x2)] rfl ?_
  intro p e s m args below meth c C
  rw [f_Values_extended] at h
  refine v_aload_n C 0 dX8_extended_0 rfl rfl ?_
  refine v_bipush C 9 dX8_extended_1 (by decide) ?_
  refine v_iload_n C 2 dX8_extended_3 rfl rfl ?_
  refine v_iload_n C 1 dX8_extended_4 rfl rfl ?_
  obtain ⟨q1, hq1, h⟩ := bd_of h
  refine c_call C [.int 9, .int x2, .int x1] [] (c_Values_make hA _ _ _ _ hq1) hY_Values_make rfl (by decide) (okS _ 38 (by decide) rfl) ml_8_32 ⟨(by omega : 0 + 1 ≤ 1), (by omega : 8 + (4 + 11) + 0 ≤ 23)⟩ ⟨Nat.zero_le _, Nat.zero_le _⟩ rfl rfl (Nat.le_of_ble_eq_true rfl) dX8_extended_5 (wc_D hA cy _) ?_
  obtain rfl := Option.some.inj h
  exact v_iret C dX8_extended_8
set_option maxHeartbeats 4000000 in
set_option maxRecDepth 20000 in
theorem b_Reader_bind_42 {p : Program} {l : Launch} {e : Env} {s : State} {m : MethodId} {args : Array Value} {below : List Frame} {meth : Method} {c : Code} {D : va_G} {cy : Nat → ClassId} {ad : Nat → Nat} {q : Int32 × CS}  (C : vC p s m args meth c cX4_bind 4 (some .int) RX4 D (cyT cy)) (hA : adOK ad) : ∀ (x3 : Int32) (σ : CS), B_Reader_bind_42 x3 σ = some q → V p l e { frames := 2, cells := 0, slots := 0, locals := 45 } s m args below meth c D (inC ad) 4 (MQ below (vQ D (inC ad) (some (.int q.1)) (wc cy ad q.2)) args s 0 0 (inC ad)) 0 0 (wc cy ad σ) 42 [(0, .ref (ad 43)), (3, .int x3)] [] := by
  intro x3 σ h
  rw [B_Reader_bind_42] at h
  refine v_iload_n C 1 dX4_bind_42 rfl rfl ?_
  obtain rfl := Option.some.inj h
  exact v_iret C dX4_bind_43
set_option maxHeartbeats 4000000 in
set_option maxRecDepth 20000 in
theorem c_Reader_bind {l : Launch} {D : va_G} {cy : Nat → ClassId} {ad : Nat → Nat} {q : Int32 × CS} (hA : adOK ad) (x1 : Int32) (x2 : Int32) (σ : CS) (h : f_Reader_bind x1 x2 σ = some q) : MV l D (cyT cy) (inC ad) yX4_bind cX4_bind 4 (some .int) (2) (45) 0 0 [.ref (ad 43), .int x1, .int x2] (wc cy ad σ) (some (.int q.1)) (wc cy ad q.2) := by
  refine MV.of (by decide) (wc_D hA cy σ) (Nat.le_of_ble_eq_true rfl) [(0, .ref (ad 43)), (1, .int x1), (2, .int x2)] rfl ?_
  intro p e s m args below meth c C
  rw [f_Reader_bind] at h
  refine v_aload_n C 0 dX4_bind_0 rfl rfl ?_
  refine c_getS C 38 fl_4_29 rfl rfl (by decide) (okS _ 43 (by decide) rfl) dX4_bind_1 ?_
  refine v_iload_n C 2 dX4_bind_4 rfl rfl ?_
  refine v_iload_n C 1 dX4_bind_5 rfl rfl ?_
  obtain ⟨q1, hq1, h⟩ := bd_of h
  refine c_call C [.int x2, .int x1] [] (c_Values_newVariable hA _ _ _ hq1) hY_Values_newVariable rfl (by decide) (okS _ 38 (by decide) rfl) ml_4_127 ⟨(by omega : 1 + 1 ≤ 2), (by omega : 8 + (3 + 11) + 23 ≤ 45)⟩ ⟨Nat.zero_le _, Nat.zero_le _⟩ rfl rfl (Nat.le_of_ble_eq_true rfl) dX4_bind_6 (wc_D hA cy _) ?_
  refine v_istore_n C [(3, .int q1.1), (0, .ref (ad 43)), (1, .int x1), (2, .int x2)] dX4_bind_9 rfl (by decide) rfl ?_
  refine v_iload_n C 3 dX4_bind_10 rfl rfl ?_
  refine v_if_lt C 42 dX4_bind_11 (by decide) (fun c1 => ?_) (fun c1 => ?_)
  · rw [if_pos c1] at h
    exact v_sub [1, 0] rfl ((b_Reader_bind_42 C hA) _ _ h)
  · rw [if_neg c1] at h
    refine v_iload_n C 3 dX4_bind_14 rfl rfl ?_
    refine v_bipush C 10 dX4_bind_15 (by decide) ?_
    refine v_icmp_ge C 42 dX4_bind_17 (by decide) (fun c2 => ?_) (fun c2 => ?_)
    · rw [if_pos c2] at h
      exact v_sub [1, 0] rfl ((b_Reader_bind_42 C hA) _ _ h)
    · rw [if_neg c2] at h
      refine v_aload_n C 1 dX4_bind_20 rfl rfl ?_
      refine c_getS C 45 fl_4_9 rfl rfl (by decide) (okS _ 43 (by decide) rfl) dX4_bind_21 ?_
      refine v_iload_n C 3 dX4_bind_24 rfl rfl ?_
      refine v_iconst C 1 dX4_bind_25 (by decide) ?_
      refine v_iadd C dX4_bind_26 ?_
      refine v_aload_n C 1 dX4_bind_27 rfl rfl ?_
      refine c_getS C 38 fl_4_29 rfl rfl (by decide) (okS _ 43 (by decide) rfl) dX4_bind_28 ?_
      refine v_aload_n C 1 dX4_bind_31 rfl rfl ?_
      refine c_getS C 45 fl_4_9 rfl rfl (by decide) (okS _ 43 (by decide) rfl) dX4_bind_32 ?_
      refine v_iload_n C 3 dX4_bind_35 rfl rfl ?_
      obtain ⟨g1, h⟩ := gd_of h
      refine c_iald C (okS _ 45 (by decide) rfl) (ix_in g1) dX4_bind_36 ?_
      refine v_iload_n C 0 dX4_bind_37 rfl rfl ?_
      obtain ⟨q2, hq2, h⟩ := bd_of h
      refine c_call C [.int (q1.2.1 45 (x2 : Int32).toNatClampNeg), .int q1.1] [.int (x2 + 1), .ref (ad 45)] (c_Values_extended hA _ _ _ hq2) hY_Values_extended rfl (by decide) (okS _ 38 (by decide) rfl) ml_4_130 ⟨(by omega : 1 + 1 ≤ 2), (by omega : 8 + (3 + 11) + 23 ≤ 45)⟩ ⟨Nat.zero_le _, Nat.zero_le _⟩ rfl rfl (Nat.le_of_ble_eq_true rfl) dX4_bind_38 (wc_D hA cy _) ?_
      obtain ⟨g2, h⟩ := gd_of h
      refine c_iast C (okS _ 45 (by decide) rfl) (ix_in g2) dX4_bind_41 ?_
      exact v_sub [1, 0] rfl ((b_Reader_bind_42 C hA) _ _ h)
set_option maxHeartbeats 4000000 in
set_option maxRecDepth 20000 in
theorem b_Values_kindOf_29 {p : Program} {l : Launch} {e : Env} {s : State} {m : MethodId} {args : Array Value} {below : List Frame} {meth : Method} {c : Code} {D : va_G} {cy : Nat → ClassId} {ad : Nat → Nat} {q : Int32 × CS}  (C : vC p s m args meth c cX8_kindOf 2 (some .int) RX8 D (cyT cy)) (hA : adOK ad) : ∀ (s0 : Int32) (σ : CS), B_Values_kindOf_29 s0 σ = some q → V p l e { frames := 0, cells := 0, slots := 0, locals := 0 } s m args below meth c D (inC ad) 2 (MQ below (vQ D (inC ad) (some (.int q.1)) (wc cy ad q.2)) args s 0 0 (inC ad)) 0 0 (wc cy ad σ) 29 [(0, .ref (ad 38))] [.int s0] := by
  intro s0 σ h
  rw [B_Values_kindOf_29] at h
  obtain rfl := Option.some.inj h
  exact v_iret C dX8_kindOf_29
set_option maxHeartbeats 4000000 in
set_option maxRecDepth 20000 in
theorem b_Values_kindOf_28 {p : Program} {l : Launch} {e : Env} {s : State} {m : MethodId} {args : Array Value} {below : List Frame} {meth : Method} {c : Code} {D : va_G} {cy : Nat → ClassId} {ad : Nat → Nat} {q : Int32 × CS}  (C : vC p s m args meth c cX8_kindOf 2 (some .int) RX8 D (cyT cy)) (hA : adOK ad) {k29 : Int32 → CS → Option (Int32 × CS)} (hk29 : ∀ (s0 : Int32) (σ : CS), k29 s0 σ = some q → V p l e { frames := 0, cells := 0, slots := 0, locals := 0 } s m args below meth c D (inC ad) 2 (MQ below (vQ D (inC ad) (some (.int q.1)) (wc cy ad q.2)) args s 0 0 (inC ad)) 0 0 (wc cy ad σ) 29 [(0, .ref (ad 38))] [.int s0]) : ∀ (σ : CS), B_Values_kindOf_28 k29 σ = some q → V p l e { frames := 0, cells := 0, slots := 0, locals := 0 } s m args below meth c D (inC ad) 2 (MQ below (vQ D (inC ad) (some (.int q.1)) (wc cy ad q.2)) args s 0 0 (inC ad)) 0 0 (wc cy ad σ) 28 [(0, .ref (ad 38))] [] := by
  intro σ h
  rw [B_Values_kindOf_28] at h
  refine v_iconst C 0 dX8_kindOf_28 (by decide) ?_
  exact v_sub [0] rfl (hk29 _ _ h)
set_option maxHeartbeats 4000000 in
set_option maxRecDepth 20000 in
theorem c_Values_kindOf {l : Launch} {D : va_G} {cy : Nat → ClassId} {ad : Nat → Nat} {q : Int32 × CS} (hA : adOK ad) (x1 : Int32) (σ : CS) (h : f_Values_kindOf x1 σ = some q) : MV l D (cyT cy) (inC ad) yX8_kindOf cX8_kindOf 2 (some .int) (0) (0) 0 0 [.ref (ad 38), .int x1] (wc cy ad σ) (some (.int q.1)) (wc cy ad q.2) := by
  refine MV.of (by decide) (wc_D hA cy σ) (Nat.le_of_ble_eq_true rfl) [(0, .ref (ad 38)), (1, .int x1)] rfl ?_
  intro p e s m args below meth c C
  rw [f_Values_kindOf] at h
  refine v_iload_n C 1 dX8_kindOf_0 rfl rfl ?_
  refine v_if_le C 28 dX8_kindOf_1 (by decide) (fun c1 => ?_) (fun c1 => ?_)
  · rw [if_pos c1] at h
    exact v_sub [0] rfl ((b_Values_kindOf_28 C hA (b_Values_kindOf_29 C hA)) _ h)
  · rw [if_neg c1] at h
    refine v_iload_n C 1 dX8_kindOf_4 rfl rfl ?_
    refine v_aload_n C 0 dX8_kindOf_5 rfl rfl ?_
    refine c_getI C fl_8_21 rfl (okS _ 38 (by decide) rfl) dX8_kindOf_6 ?_
    refine v_icmp_ge C 28 dX8_kindOf_9 (by decide) (fun c2 => ?_) (fun c2 => ?_)
    · rw [if_pos c2] at h
      exact v_sub [0] rfl ((b_Values_kindOf_28 C hA (b_Values_kindOf_29 C hA)) _ h)
    · rw [if_neg c2] at h
      refine v_iload_n C 1 dX8_kindOf_12 rfl rfl ?_
      refine v_sipush C 3072 dX8_kindOf_13 (by decide) ?_
      refine v_icmp_ge C 28 dX8_kindOf_16 (by decide) (fun c3 => ?_) (fun c3 => ?_)
      · rw [if_pos c3] at h
        exact v_sub [0] rfl ((b_Values_kindOf_28 C hA (b_Values_kindOf_29 C hA)) _ h)
      · rw [if_neg c3] at h
        refine v_aload_n C 0 dX8_kindOf_19 rfl rfl ?_
        refine c_getS C 39 fl_8_11 rfl rfl (by decide) (okS _ 38 (by decide) rfl) dX8_kindOf_20 ?_
        refine v_iload_n C 1 dX8_kindOf_23 rfl rfl ?_
        obtain ⟨g1, h⟩ := gd_of h
        refine c_iald C (okS _ 39 (by decide) rfl) (ix_in g1) dX8_kindOf_24 ?_
        refine v_goto C 29 dX8_kindOf_25 (by decide) ?_
        exact v_sub [0] rfl ((b_Values_kindOf_29 C hA) _ _ h)
set_option maxHeartbeats 4000000 in
set_option maxRecDepth 20000 in
theorem b_Values_leftOf_29 {p : Program} {l : Launch} {e : Env} {s : State} {m : MethodId} {args : Array Value} {below : List Frame} {meth : Method} {c : Code} {D : va_G} {cy : Nat → ClassId} {ad : Nat → Nat} {q : Int32 × CS}  (C : vC p s m args meth c cX8_leftOf 2 (some .int) RX8 D (cyT cy)) (hA : adOK ad) : ∀ (s0 : Int32) (σ : CS), B_Values_leftOf_29 s0 σ = some q → V p l e { frames := 0, cells := 0, slots := 0, locals := 0 } s m args below meth c D (inC ad) 2 (MQ below (vQ D (inC ad) (some (.int q.1)) (wc cy ad q.2)) args s 0 0 (inC ad)) 0 0 (wc cy ad σ) 29 [(0, .ref (ad 38))] [.int s0] := by
  intro s0 σ h
  rw [B_Values_leftOf_29] at h
  obtain rfl := Option.some.inj h
  exact v_iret C dX8_leftOf_29
set_option maxHeartbeats 4000000 in
set_option maxRecDepth 20000 in
theorem b_Values_leftOf_28 {p : Program} {l : Launch} {e : Env} {s : State} {m : MethodId} {args : Array Value} {below : List Frame} {meth : Method} {c : Code} {D : va_G} {cy : Nat → ClassId} {ad : Nat → Nat} {q : Int32 × CS}  (C : vC p s m args meth c cX8_leftOf 2 (some .int) RX8 D (cyT cy)) (hA : adOK ad) {k29 : Int32 → CS → Option (Int32 × CS)} (hk29 : ∀ (s0 : Int32) (σ : CS), k29 s0 σ = some q → V p l e { frames := 0, cells := 0, slots := 0, locals := 0 } s m args below meth c D (inC ad) 2 (MQ below (vQ D (inC ad) (some (.int q.1)) (wc cy ad q.2)) args s 0 0 (inC ad)) 0 0 (wc cy ad σ) 29 [(0, .ref (ad 38))] [.int s0]) : ∀ (σ : CS), B_Values_leftOf_28 k29 σ = some q → V p l e { frames := 0, cells := 0, slots := 0, locals := 0 } s m args below meth c D (inC ad) 2 (MQ below (vQ D (inC ad) (some (.int q.1)) (wc cy ad q.2)) args s 0 0 (inC ad)) 0 0 (wc cy ad σ) 28 [(0, .ref (ad 38))] [] := by
  intro σ h
  rw [B_Values_leftOf_28] at h
  refine v_iconst C 0 dX8_leftOf_28 (by decide) ?_
  exact v_sub [0] rfl (hk29 _ _ h)
set_option maxHeartbeats 4000000 in
set_option maxRecDepth 20000 in
theorem c_Values_leftOf {l : Launch} {D : va_G} {cy : Nat → ClassId} {ad : Nat → Nat} {q : Int32 × CS} (hA : adOK ad) (x1 : Int32) (σ : CS) (h : f_Values_leftOf x1 σ = some q) : MV l D (cyT cy) (inC ad) yX8_leftOf cX8_leftOf 2 (some .int) (0) (0) 0 0 [.ref (ad 38), .int x1] (wc cy ad σ) (some (.int q.1)) (wc cy ad q.2) := by
  refine MV.of (by decide) (wc_D hA cy σ) (Nat.le_of_ble_eq_true rfl) [(0, .ref (ad 38)), (1, .int x1)] rfl ?_
  intro p e s m args below meth c C
  rw [f_Values_leftOf] at h
  refine v_iload_n C 1 dX8_leftOf_0 rfl rfl ?_
  refine v_if_le C 28 dX8_leftOf_1 (by decide) (fun c1 => ?_) (fun c1 => ?_)
  · rw [if_pos c1] at h
    exact v_sub [0] rfl ((b_Values_leftOf_28 C hA (b_Values_leftOf_29 C hA)) _ h)
  · rw [if_neg c1] at h
    refine v_iload_n C 1 dX8_leftOf_4 rfl rfl ?_
    refine v_aload_n C 0 dX8_leftOf_5 rfl rfl ?_
    refine c_getI C fl_8_21 rfl (okS _ 38 (by decide) rfl) dX8_leftOf_6 ?_
    refine v_icmp_ge C 28 dX8_leftOf_9 (by decide) (fun c2 => ?_) (fun c2 => ?_)
    · rw [if_pos c2] at h
      exact v_sub [0] rfl ((b_Values_leftOf_28 C hA (b_Values_leftOf_29 C hA)) _ h)
    · rw [if_neg c2] at h
      refine v_iload_n C 1 dX8_leftOf_12 rfl rfl ?_
      refine v_sipush C 3072 dX8_leftOf_13 (by decide) ?_
      refine v_icmp_ge C 28 dX8_leftOf_16 (by decide) (fun c3 => ?_) (fun c3 => ?_)
      · rw [if_pos c3] at h
        exact v_sub [0] rfl ((b_Values_leftOf_28 C hA (b_Values_leftOf_29 C hA)) _ h)
      · rw [if_neg c3] at h
        refine v_aload_n C 0 dX8_leftOf_19 rfl rfl ?_
        refine c_getS C 40 fl_8_15 rfl rfl (by decide) (okS _ 38 (by decide) rfl) dX8_leftOf_20 ?_
        refine v_iload_n C 1 dX8_leftOf_23 rfl rfl ?_
        obtain ⟨g1, h⟩ := gd_of h
        refine c_iald C (okS _ 40 (by decide) rfl) (ix_in g1) dX8_leftOf_24 ?_
        refine v_goto C 29 dX8_leftOf_25 (by decide) ?_
        exact v_sub [0] rfl ((b_Values_leftOf_29 C hA) _ _ h)
set_option maxHeartbeats 4000000 in
set_option maxRecDepth 20000 in
theorem b_Values_formOf_26 {p : Program} {l : Launch} {e : Env} {s : State} {m : MethodId} {args : Array Value} {below : List Frame} {meth : Method} {c : Code} {D : va_G} {cy : Nat → ClassId} {ad : Nat → Nat} {q : Int32 × CS}  (C : vC p s m args meth c cX8_formOf 2 (some .int) RX8 D (cyT cy)) (hA : adOK ad) : ∀ (s0 : Int32) (σ : CS), B_Values_formOf_26 s0 σ = some q → V p l e { frames := 1, cells := 0, slots := 0, locals := 21 } s m args below meth c D (inC ad) 2 (MQ below (vQ D (inC ad) (some (.int q.1)) (wc cy ad q.2)) args s 0 0 (inC ad)) 0 0 (wc cy ad σ) 26 [(0, .ref (ad 38))] [.int s0] := by
  intro s0 σ h
  rw [B_Values_formOf_26] at h
  obtain rfl := Option.some.inj h
  exact v_iret C dX8_formOf_26
set_option maxHeartbeats 4000000 in
set_option maxRecDepth 20000 in
theorem c_Values_formOf {l : Launch} {D : va_G} {cy : Nat → ClassId} {ad : Nat → Nat} {q : Int32 × CS} (hA : adOK ad) (x1 : Int32) (σ : CS) (h : f_Values_formOf x1 σ = some q) : MV l D (cyT cy) (inC ad) yX8_formOf cX8_formOf 2 (some .int) (1) (21) 0 0 [.ref (ad 38), .int x1] (wc cy ad σ) (some (.int q.1)) (wc cy ad q.2) := by
  refine MV.of (by decide) (wc_D hA cy σ) (Nat.le_of_ble_eq_true rfl) [(0, .ref (ad 38)), (1, .int x1)] rfl ?_
  intro p e s m args below meth c C
  rw [f_Values_formOf] at h
  refine v_aload_n C 0 dX8_formOf_0 rfl rfl ?_
  refine v_iload_n C 1 dX8_formOf_1 rfl rfl ?_
  obtain ⟨q1, hq1, h⟩ := bd_of h
  refine c_call C [.int x1] [] (c_Values_kindOf hA _ _ hq1) hY_Values_kindOf rfl (by decide) (okS _ 38 (by decide) rfl) ml_8_36 ⟨(by omega : 0 + 1 ≤ 1), (by omega : 8 + (2 + 11) + 0 ≤ 21)⟩ ⟨Nat.zero_le _, Nat.zero_le _⟩ rfl rfl (Nat.le_of_ble_eq_true rfl) dX8_formOf_2 (wc_D hA cy _) ?_
  refine v_bipush C 10 dX8_formOf_5 (by decide) ?_
  refine v_icmp_ne C 25 dX8_formOf_7 (by decide) (fun c1 => ?_) (fun c1 => ?_)
  · rw [if_neg c1] at h
    refine v_iconst C 0 dX8_formOf_25 (by decide) ?_
    exact v_sub [0] rfl ((b_Values_formOf_26 C hA) _ _ h)
  · rw [if_pos c1] at h
    refine v_aload_n C 0 dX8_formOf_10 rfl rfl ?_
    refine c_getS C 34 fl_8_28 rfl rfl (by decide) (okS _ 38 (by decide) rfl) dX8_formOf_11 ?_
    refine v_aload_n C 0 dX8_formOf_14 rfl rfl ?_
    refine v_iload_n C 1 dX8_formOf_15 rfl rfl ?_
    obtain ⟨q2, hq2, h⟩ := bd_of h
    refine c_call C [.int x1] [.ref (ad 34)] (c_Values_leftOf hA _ _ hq2) hY_Values_leftOf rfl (by decide) (okS _ 38 (by decide) rfl) ml_8_40 ⟨(by omega : 0 + 1 ≤ 1), (by omega : 8 + (2 + 11) + 0 ≤ 21)⟩ ⟨Nat.zero_le _, Nat.zero_le _⟩ rfl rfl (Nat.le_of_ble_eq_true rfl) dX8_formOf_16 (wc_D hA cy _) ?_
    obtain ⟨q3, hq3, h⟩ := bd_of h
    refine c_call C [.int q2.1] [] (c_Signs_at hA _ _ hq3) hY_Signs_at rfl (by decide) (okS _ 34 (by decide) rfl) ml_8_43 ⟨(by omega : 0 + 1 ≤ 1), (by omega : 8 + (2 + 11) + 0 ≤ 21)⟩ ⟨Nat.zero_le _, Nat.zero_le _⟩ rfl rfl (Nat.le_of_ble_eq_true rfl) dX8_formOf_19 (wc_D hA cy _) ?_
    refine v_goto C 26 dX8_formOf_22 (by decide) ?_
    exact v_sub [0] rfl ((b_Values_formOf_26 C hA) _ _ h)
set_option maxHeartbeats 4000000 in
set_option maxRecDepth 20000 in
theorem b_Values_rightOf_29 {p : Program} {l : Launch} {e : Env} {s : State} {m : MethodId} {args : Array Value} {below : List Frame} {meth : Method} {c : Code} {D : va_G} {cy : Nat → ClassId} {ad : Nat → Nat} {q : Int32 × CS}  (C : vC p s m args meth c cX8_rightOf 2 (some .int) RX8 D (cyT cy)) (hA : adOK ad) : ∀ (s0 : Int32) (σ : CS), B_Values_rightOf_29 s0 σ = some q → V p l e { frames := 0, cells := 0, slots := 0, locals := 0 } s m args below meth c D (inC ad) 2 (MQ below (vQ D (inC ad) (some (.int q.1)) (wc cy ad q.2)) args s 0 0 (inC ad)) 0 0 (wc cy ad σ) 29 [(0, .ref (ad 38))] [.int s0] := by
  intro s0 σ h
  rw [B_Values_rightOf_29] at h
  obtain rfl := Option.some.inj h
  exact v_iret C dX8_rightOf_29
set_option maxHeartbeats 4000000 in
set_option maxRecDepth 20000 in
theorem b_Values_rightOf_28 {p : Program} {l : Launch} {e : Env} {s : State} {m : MethodId} {args : Array Value} {below : List Frame} {meth : Method} {c : Code} {D : va_G} {cy : Nat → ClassId} {ad : Nat → Nat} {q : Int32 × CS}  (C : vC p s m args meth c cX8_rightOf 2 (some .int) RX8 D (cyT cy)) (hA : adOK ad) {k29 : Int32 → CS → Option (Int32 × CS)} (hk29 : ∀ (s0 : Int32) (σ : CS), k29 s0 σ = some q → V p l e { frames := 0, cells := 0, slots := 0, locals := 0 } s m args below meth c D (inC ad) 2 (MQ below (vQ D (inC ad) (some (.int q.1)) (wc cy ad q.2)) args s 0 0 (inC ad)) 0 0 (wc cy ad σ) 29 [(0, .ref (ad 38))] [.int s0]) : ∀ (σ : CS), B_Values_rightOf_28 k29 σ = some q → V p l e { frames := 0, cells := 0, slots := 0, locals := 0 } s m args below meth c D (inC ad) 2 (MQ below (vQ D (inC ad) (some (.int q.1)) (wc cy ad q.2)) args s 0 0 (inC ad)) 0 0 (wc cy ad σ) 28 [(0, .ref (ad 38))] [] := by
  intro σ h
  rw [B_Values_rightOf_28] at h
  refine v_iconst C 0 dX8_rightOf_28 (by decide) ?_
  exact v_sub [0] rfl (hk29 _ _ h)
set_option maxHeartbeats 4000000 in
set_option maxRecDepth 20000 in
theorem c_Values_rightOf {l : Launch} {D : va_G} {cy : Nat → ClassId} {ad : Nat → Nat} {q : Int32 × CS} (hA : adOK ad) (x1 : Int32) (σ : CS) (h : f_Values_rightOf x1 σ = some q) : MV l D (cyT cy) (inC ad) yX8_rightOf cX8_rightOf 2 (some .int) (0) (0) 0 0 [.ref (ad 38), .int x1] (wc cy ad σ) (some (.int q.1)) (wc cy ad q.2) := by
  refine MV.of (by decide) (wc_D hA cy σ) (Nat.le_of_ble_eq_true rfl) [(0, .ref (ad 38)), (1, .int x1)] rfl ?_
  intro p e s m args below meth c C
  rw [f_Values_rightOf] at h
  refine v_iload_n C 1 dX8_rightOf_0 rfl rfl ?_
  refine v_if_le C 28 dX8_rightOf_1 (by decide) (fun c1 => ?_) (fun c1 => ?_)
  · rw [if_pos c1] at h
    exact v_sub [0] rfl ((b_Values_rightOf_28 C hA (b_Values_rightOf_29 C hA)) _ h)
  · rw [if_neg c1] at h
    refine v_iload_n C 1 dX8_rightOf_4 rfl rfl ?_
    refine v_aload_n C 0 dX8_rightOf_5 rfl rfl ?_
    refine c_getI C fl_8_21 rfl (okS _ 38 (by decide) rfl) dX8_rightOf_6 ?_
    refine v_icmp_ge C 28 dX8_rightOf_9 (by decide) (fun c2 => ?_) (fun c2 => ?_)
    · rw [if_pos c2] at h
      exact v_sub [0] rfl ((b_Values_rightOf_28 C hA (b_Values_rightOf_29 C hA)) _ h)
    · rw [if_neg c2] at h
      refine v_iload_n C 1 dX8_rightOf_12 rfl rfl ?_
      refine v_sipush C 3072 dX8_rightOf_13 (by decide) ?_
      refine v_icmp_ge C 28 dX8_rightOf_16 (by decide) (fun c3 => ?_) (fun c3 => ?_)
      · rw [if_pos c3] at h
        exact v_sub [0] rfl ((b_Values_rightOf_28 C hA (b_Values_rightOf_29 C hA)) _ h)
      · rw [if_neg c3] at h
        refine v_aload_n C 0 dX8_rightOf_19 rfl rfl ?_
        refine c_getS C 41 fl_8_18 rfl rfl (by decide) (okS _ 38 (by decide) rfl) dX8_rightOf_20 ?_
        refine v_iload_n C 1 dX8_rightOf_23 rfl rfl ?_
        obtain ⟨g1, h⟩ := gd_of h
        refine c_iald C (okS _ 41 (by decide) rfl) (ix_in g1) dX8_rightOf_24 ?_
        refine v_goto C 29 dX8_rightOf_25 (by decide) ?_
        exact v_sub [0] rfl ((b_Values_rightOf_29 C hA) _ _ h)
set_option maxHeartbeats 4000000 in
set_option maxRecDepth 20000 in
theorem c_Values_firstType {l : Launch} {D : va_G} {cy : Nat → ClassId} {ad : Nat → Nat} {q : Int32 × CS} (hA : adOK ad) (x1 : Int32) (σ : CS) (h : f_Values_firstType x1 σ = some q) : MV l D (cyT cy) (inC ad) yX8_firstType cX8_firstType 2 (some .int) (2) (45) 0 0 [.ref (ad 38), .int x1] (wc cy ad σ) (some (.int q.1)) (wc cy ad q.2) := by
  refine MV.of (by decide) (wc_D hA cy σ) (Nat.le_of_ble_eq_true rfl) [(0, .ref (ad 38)), (1, .int x1)] rfl ?_
  intro p e s m args below meth c C
  rw [f_Values_firstType] at h
  refine v_aload_n C 0 dX8_firstType_0 rfl rfl ?_
  refine v_aload_n C 0 dX8_firstType_1 rfl rfl ?_
  refine v_iload_n C 1 dX8_firstType_2 rfl rfl ?_
  obtain ⟨q1, hq1, h⟩ := bd_of h
  refine c_call C [.int x1] [.ref (ad 38)] (c_Values_leftOf hA _ _ hq1) hY_Values_leftOf rfl (by decide) (okS _ 38 (by decide) rfl) ml_8_40 ⟨(by omega : 0 + 1 ≤ 2), (by omega : 8 + (2 + 11) + 0 ≤ 45)⟩ ⟨Nat.zero_le _, Nat.zero_le _⟩ rfl rfl (Nat.le_of_ble_eq_true rfl) dX8_firstType_3 (wc_D hA cy _) ?_
  refine v_iconst C 1 dX8_firstType_6 (by decide) ?_
  refine v_iadd C dX8_firstType_7 ?_
  refine v_aload_n C 0 dX8_firstType_8 rfl rfl ?_
  refine v_iload_n C 1 dX8_firstType_9 rfl rfl ?_
  obtain ⟨q2, hq2, h⟩ := bd_of h
  refine c_call C [.int x1] [.int (q1.1 + 1), .ref (ad 38)] (c_Values_rightOf hA _ _ hq2) hY_Values_rightOf rfl (by decide) (okS _ 38 (by decide) rfl) ml_8_48 ⟨(by omega : 0 + 1 ≤ 2), (by omega : 8 + (2 + 11) + 0 ≤ 45)⟩ ⟨Nat.zero_le _, Nat.zero_le _⟩ rfl rfl (Nat.le_of_ble_eq_true rfl) dX8_firstType_10 (wc_D hA cy _) ?_
  obtain ⟨q3, hq3, h⟩ := bd_of h
  refine c_call C [.int (q1.1 + 1), .int q2.1] [] (c_Values_typeAt hA _ _ _ hq3) hY_Values_typeAt rfl (by decide) (okS _ 38 (by decide) rfl) ml_8_51 ⟨(by omega : 1 + 1 ≤ 2), (by omega : 8 + (3 + 11) + 23 ≤ 45)⟩ ⟨Nat.zero_le _, Nat.zero_le _⟩ rfl rfl (Nat.le_of_ble_eq_true rfl) dX8_firstType_13 (wc_D hA cy _) ?_
  obtain rfl := Option.some.inj h
  exact v_iret C dX8_firstType_16
set_option maxHeartbeats 4000000 in
set_option maxRecDepth 20000 in
theorem b_Values_firstOf_25 {p : Program} {l : Launch} {e : Env} {s : State} {m : MethodId} {args : Array Value} {below : List Frame} {meth : Method} {c : Code} {D : va_G} {cy : Nat → ClassId} {ad : Nat → Nat} {q : Int32 × CS}  (C : vC p s m args meth c cX8_firstOf 2 (some .int) RX8 D (cyT cy)) (hA : adOK ad) : ∀ (s0 : Int32) (σ : CS), B_Values_firstOf_25 s0 σ = some q → V p l e { frames := 1, cells := 0, slots := 0, locals := 23 } s m args below meth c D (inC ad) 2 (MQ below (vQ D (inC ad) (some (.int q.1)) (wc cy ad q.2)) args s 0 0 (inC ad)) 0 0 (wc cy ad σ) 25 [(0, .ref (ad 38))] [.int s0] := by
  intro s0 σ h
  rw [B_Values_firstOf_25] at h
  obtain rfl := Option.some.inj h
  exact v_iret C dX8_firstOf_25
set_option maxHeartbeats 4000000 in
set_option maxRecDepth 20000 in
theorem c_Values_firstOf {l : Launch} {D : va_G} {cy : Nat → ClassId} {ad : Nat → Nat} {q : Int32 × CS} (hA : adOK ad) (x1 : Int32) (σ : CS) (h : f_Values_firstOf x1 σ = some q) : MV l D (cyT cy) (inC ad) yX8_firstOf cX8_firstOf 2 (some .int) (1) (23) 0 0 [.ref (ad 38), .int x1] (wc cy ad σ) (some (.int q.1)) (wc cy ad q.2) := by
  refine MV.of (by decide) (wc_D hA cy σ) (Nat.le_of_ble_eq_true rfl) [(0, .ref (ad 38)), (1, .int x1)] rfl ?_
  intro p e s m args below meth c C
  rw [f_Values_firstOf] at h
  refine v_aload_n C 0 dX8_firstOf_0 rfl rfl ?_
  refine v_iload_n C 1 dX8_firstOf_1 rfl rfl ?_
  obtain ⟨q1, hq1, h⟩ := bd_of h
  refine c_call C [.int x1] [] (c_Values_kindOf hA _ _ hq1) hY_Values_kindOf rfl (by decide) (okS _ 38 (by decide) rfl) ml_8_36 ⟨(by omega : 0 + 1 ≤ 1), (by omega : 8 + (2 + 11) + 0 ≤ 23)⟩ ⟨Nat.zero_le _, Nat.zero_le _⟩ rfl rfl (Nat.le_of_ble_eq_true rfl) dX8_firstOf_2 (wc_D hA cy _) ?_
  refine v_bipush C 7 dX8_firstOf_5 (by decide) ?_
  refine v_icmp_ne C 18 dX8_firstOf_7 (by decide) (fun c1 => ?_) (fun c1 => ?_)
  · rw [if_neg c1] at h
    refine v_aload_n C 0 dX8_firstOf_18 rfl rfl ?_
    refine v_iconst C 4 dX8_firstOf_19 (by decide) ?_
    refine v_iload_n C 1 dX8_firstOf_20 rfl rfl ?_
    refine v_iconst C 0 dX8_firstOf_21 (by decide) ?_
    obtain ⟨q2, hq2, h⟩ := bd_of h
    refine c_call C [.int 4, .int x1, .int 0] [] (c_Values_make hA _ _ _ _ hq2) hY_Values_make rfl (by decide) (okS _ 38 (by decide) rfl) ml_8_32 ⟨(by omega : 0 + 1 ≤ 1), (by omega : 8 + (4 + 11) + 0 ≤ 23)⟩ ⟨Nat.zero_le _, Nat.zero_le _⟩ rfl rfl (Nat.le_of_ble_eq_true rfl) dX8_firstOf_22 (wc_D hA cy _) ?_
    exact v_sub [0] rfl ((b_Values_firstOf_25 C hA) _ _ h)
  · rw [if_pos c1] at h
    refine v_aload_n C 0 dX8_firstOf_10 rfl rfl ?_
    refine v_iload_n C 1 dX8_firstOf_11 rfl rfl ?_
    obtain ⟨q3, hq3, h⟩ := bd_of h
    refine c_call C [.int x1] [] (c_Values_leftOf hA _ _ hq3) hY_Values_leftOf rfl (by decide) (okS _ 38 (by decide) rfl) ml_8_40 ⟨(by omega : 0 + 1 ≤ 1), (by omega : 8 + (2 + 11) + 0 ≤ 23)⟩ ⟨Nat.zero_le _, Nat.zero_le _⟩ rfl rfl (Nat.le_of_ble_eq_true rfl) dX8_firstOf_12 (wc_D hA cy _) ?_
    refine v_goto C 25 dX8_firstOf_15 (by decide) ?_
    exact v_sub [0] rfl ((b_Values_firstOf_25 C hA) _ _ h)
set_option maxHeartbeats 4000000 in
set_option maxRecDepth 20000 in
theorem b_Values_secondOf_25 {p : Program} {l : Launch} {e : Env} {s : State} {m : MethodId} {args : Array Value} {below : List Frame} {meth : Method} {c : Code} {D : va_G} {cy : Nat → ClassId} {ad : Nat → Nat} {q : Int32 × CS}  (C : vC p s m args meth c cX8_secondOf 2 (some .int) RX8 D (cyT cy)) (hA : adOK ad) : ∀ (s0 : Int32) (σ : CS), B_Values_secondOf_25 s0 σ = some q → V p l e { frames := 1, cells := 0, slots := 0, locals := 23 } s m args below meth c D (inC ad) 2 (MQ below (vQ D (inC ad) (some (.int q.1)) (wc cy ad q.2)) args s 0 0 (inC ad)) 0 0 (wc cy ad σ) 25 [(0, .ref (ad 38))] [.int s0] := by
  intro s0 σ h
  rw [B_Values_secondOf_25] at h
  obtain rfl := Option.some.inj h
  exact v_iret C dX8_secondOf_25
set_option maxHeartbeats 4000000 in
set_option maxRecDepth 20000 in
theorem c_Values_secondOf {l : Launch} {D : va_G} {cy : Nat → ClassId} {ad : Nat → Nat} {q : Int32 × CS} (hA : adOK ad) (x1 : Int32) (σ : CS) (h : f_Values_secondOf x1 σ = some q) : MV l D (cyT cy) (inC ad) yX8_secondOf cX8_secondOf 2 (some .int) (1) (23) 0 0 [.ref (ad 38), .int x1] (wc cy ad σ) (some (.int q.1)) (wc cy ad q.2) := by
  refine MV.of (by decide) (wc_D hA cy σ) (Nat.le_of_ble_eq_true rfl) [(0, .ref (ad 38)), (1, .int x1)] rfl ?_
  intro p e s m args below meth c C
  rw [f_Values_secondOf] at h
  refine v_aload_n C 0 dX8_secondOf_0 rfl rfl ?_
  refine v_iload_n C 1 dX8_secondOf_1 rfl rfl ?_
  obtain ⟨q1, hq1, h⟩ := bd_of h
  refine c_call C [.int x1] [] (c_Values_kindOf hA _ _ hq1) hY_Values_kindOf rfl (by decide) (okS _ 38 (by decide) rfl) ml_8_36 ⟨(by omega : 0 + 1 ≤ 1), (by omega : 8 + (2 + 11) + 0 ≤ 23)⟩ ⟨Nat.zero_le _, Nat.zero_le _⟩ rfl rfl (Nat.le_of_ble_eq_true rfl) dX8_secondOf_2 (wc_D hA cy _) ?_
  refine v_bipush C 7 dX8_secondOf_5 (by decide) ?_
  refine v_icmp_ne C 18 dX8_secondOf_7 (by decide) (fun c1 => ?_) (fun c1 => ?_)
  · rw [if_neg c1] at h
    refine v_aload_n C 0 dX8_secondOf_18 rfl rfl ?_
    refine v_iconst C 5 dX8_secondOf_19 (by decide) ?_
    refine v_iload_n C 1 dX8_secondOf_20 rfl rfl ?_
    refine v_iconst C 0 dX8_secondOf_21 (by decide) ?_
    obtain ⟨q2, hq2, h⟩ := bd_of h
    refine c_call C [.int 5, .int x1, .int 0] [] (c_Values_make hA _ _ _ _ hq2) hY_Values_make rfl (by decide) (okS _ 38 (by decide) rfl) ml_8_32 ⟨(by omega : 0 + 1 ≤ 1), (by omega : 8 + (4 + 11) + 0 ≤ 23)⟩ ⟨Nat.zero_le _, Nat.zero_le _⟩ rfl rfl (Nat.le_of_ble_eq_true rfl) dX8_secondOf_22 (wc_D hA cy _) ?_
    exact v_sub [0] rfl ((b_Values_secondOf_25 C hA) _ _ h)
  · rw [if_pos c1] at h
    refine v_aload_n C 0 dX8_secondOf_10 rfl rfl ?_
    refine v_iload_n C 1 dX8_secondOf_11 rfl rfl ?_
    obtain ⟨q3, hq3, h⟩ := bd_of h
    refine c_call C [.int x1] [] (c_Values_rightOf hA _ _ hq3) hY_Values_rightOf rfl (by decide) (okS _ 38 (by decide) rfl) ml_8_48 ⟨(by omega : 0 + 1 ≤ 1), (by omega : 8 + (2 + 11) + 0 ≤ 23)⟩ ⟨Nat.zero_le _, Nat.zero_le _⟩ rfl rfl (Nat.le_of_ble_eq_true rfl) dX8_secondOf_12 (wc_D hA cy _) ?_
    refine v_goto C 25 dX8_secondOf_15 (by decide) ?_
    exact v_sub [0] rfl ((b_Values_secondOf_25 C hA) _ _ h)
set_option maxHeartbeats 4000000 in
set_option maxRecDepth 20000 in
theorem b_Signs_isConstant_22 {p : Program} {l : Launch} {e : Env} {s : State} {m : MethodId} {args : Array Value} {below : List Frame} {meth : Method} {c : Code} {D : va_G} {cy : Nat → ClassId} {ad : Nat → Nat} {q : Int32 × CS}  (C : vC p s m args meth c cX7_isConstant 2 (some .boolean) RX7 D (cyT cy)) (hA : adOK ad) : ∀ (s0 : Int32) (σ : CS), B_Signs_isConstant_22 s0 σ = some q → V p l e { frames := 0, cells := 0, slots := 0, locals := 0 } s m args below meth c D (inC ad) 2 (MQ below (vQ D (inC ad) (some (.int q.1)) (wc cy ad q.2)) args s 0 0 (inC ad)) 0 0 (wc cy ad σ) 22 [(0, .ref (ad 34))] [.int s0] := by
  intro s0 σ h
  rw [B_Signs_isConstant_22] at h
  obtain ⟨g1, h⟩ := gd_of h
  obtain rfl := Option.some.inj h
  exact v_zret C (bzb_in g1) dX7_isConstant_22
set_option maxHeartbeats 4000000 in
set_option maxRecDepth 20000 in
theorem b_Signs_isConstant_21 {p : Program} {l : Launch} {e : Env} {s : State} {m : MethodId} {args : Array Value} {below : List Frame} {meth : Method} {c : Code} {D : va_G} {cy : Nat → ClassId} {ad : Nat → Nat} {q : Int32 × CS}  (C : vC p s m args meth c cX7_isConstant 2 (some .boolean) RX7 D (cyT cy)) (hA : adOK ad) {k22 : Int32 → CS → Option (Int32 × CS)} (hk22 : ∀ (s0 : Int32) (σ : CS), k22 s0 σ = some q → V p l e { frames := 0, cells := 0, slots := 0, locals := 0 } s m args below meth c D (inC ad) 2 (MQ below (vQ D (inC ad) (some (.int q.1)) (wc cy ad q.2)) args s 0 0 (inC ad)) 0 0 (wc cy ad σ) 22 [(0, .ref (ad 34))] [.int s0]) : ∀ (σ : CS), B_Signs_isConstant_21 k22 σ = some q → V p l e { frames := 0, cells := 0, slots := 0, locals := 0 } s m args below meth c D (inC ad) 2 (MQ below (vQ D (inC ad) (some (.int q.1)) (wc cy ad q.2)) args s 0 0 (inC ad)) 0 0 (wc cy ad σ) 21 [(0, .ref (ad 34))] [] := by
  intro σ h
  rw [B_Signs_isConstant_21] at h
  refine v_iconst C 0 dX7_isConstant_21 (by decide) ?_
  exact v_sub [0] rfl (hk22 _ _ h)
set_option maxHeartbeats 4000000 in
set_option maxRecDepth 20000 in
theorem c_Signs_isConstant {l : Launch} {D : va_G} {cy : Nat → ClassId} {ad : Nat → Nat} {q : Int32 × CS} (hA : adOK ad) (x1 : Int32) (σ : CS) (h : f_Signs_isConstant x1 σ = some q) : MV l D (cyT cy) (inC ad) yX7_isConstant cX7_isConstant 2 (some .boolean) (0) (0) 0 0 [.ref (ad 34), .int x1] (wc cy ad σ) (some (.int q.1)) (wc cy ad q.2) := by
  refine MV.of (by decide) (wc_D hA cy σ) (Nat.le_of_ble_eq_true rfl) [(0, .ref (ad 34)), (1, .int x1)] rfl ?_
  intro p e s m args below meth c C
  rw [f_Signs_isConstant] at h
  refine v_iload_n C 1 dX7_isConstant_0 rfl rfl ?_
  refine v_bipush C 97 dX7_isConstant_1 (by decide) ?_
  refine v_icmp_lt C 21 dX7_isConstant_3 (by decide) (fun c1 => ?_) (fun c1 => ?_)
  · rw [if_pos c1] at h
    exact v_sub [0] rfl ((b_Signs_isConstant_21 C hA (b_Signs_isConstant_22 C hA)) _ h)
  · rw [if_neg c1] at h
    refine v_iload_n C 1 dX7_isConstant_6 rfl rfl ?_
    refine v_bipush C 97 dX7_isConstant_7 (by decide) ?_
    refine v_isub C dX7_isConstant_9 ?_
    refine v_aload_n C 0 dX7_isConstant_10 rfl rfl ?_
    refine c_getI C fl_7_28 rfl (okS _ 34 (by decide) rfl) dX7_isConstant_11 ?_
    refine v_icmp_ge C 21 dX7_isConstant_14 (by decide) (fun c2 => ?_) (fun c2 => ?_)
    · rw [if_pos c2] at h
      exact v_sub [0] rfl ((b_Signs_isConstant_21 C hA (b_Signs_isConstant_22 C hA)) _ h)
    · rw [if_neg c2] at h
      refine v_iconst C 1 dX7_isConstant_17 (by decide) ?_
      refine v_goto C 22 dX7_isConstant_18 (by decide) ?_
      exact v_sub [0] rfl ((b_Signs_isConstant_22 C hA) _ _ h)
set_option maxHeartbeats 4000000 in
set_option maxRecDepth 20000 in
theorem c_Values_constantOf {l : Launch} {D : va_G} {cy : Nat → ClassId} {ad : Nat → Nat} {q : Int32 × CS} (hA : adOK ad) (x1 : Int32) (σ : CS) (h : f_Values_constantOf x1 σ = some q) : MV l D (cyT cy) (inC ad) yX8_constantOf cX8_constantOf 2 (some .int) (1) (23) 0 0 [.ref (ad 38), .int x1] (wc cy ad σ) (some (.int q.1)) (wc cy ad q.2) := by
  refine MV.of (by decide) (wc_D hA cy σ) (Nat.le_of_ble_eq_true rfl) [(0, .ref (ad 38)), (1, .int x1)] rfl ?_
  intro p e s m args below meth c C
  rw [f_Values_constantOf] at h
  refine v_aload_n C 0 dX8_constantOf_0 rfl rfl ?_
  refine v_iconst C 2 dX8_constantOf_1 (by decide) ?_
  refine v_iload_n C 1 dX8_constantOf_2 rfl rfl ?_
  refine v_iconst C 0 dX8_constantOf_3 (by decide) ?_
  obtain ⟨q1, hq1, h⟩ := bd_of h
  refine c_call C [.int 2, .int x1, .int 0] [] (c_Values_make hA _ _ _ _ hq1) hY_Values_make rfl (by decide) (okS _ 38 (by decide) rfl) ml_8_32 ⟨(by omega : 0 + 1 ≤ 1), (by omega : 8 + (4 + 11) + 0 ≤ 23)⟩ ⟨Nat.zero_le _, Nat.zero_le _⟩ rfl rfl (Nat.le_of_ble_eq_true rfl) dX8_constantOf_4 (wc_D hA cy _) ?_
  obtain rfl := Option.some.inj h
  exact v_iret C dX8_constantOf_7
set_option maxHeartbeats 4000000 in
set_option maxRecDepth 20000 in
theorem b_Values_variableIn_83 {p : Program} {l : Launch} {e : Env} {s : State} {m : MethodId} {args : Array Value} {below : List Frame} {meth : Method} {c : Code} {D : va_G} {cy : Nat → ClassId} {ad : Nat → Nat} {q : Int32 × CS}  (C : vC p s m args meth c cX8_variableIn 6 (some .int) RX8 D (cyT cy)) (hA : adOK ad) : ∀ (s0 : Int32) (σ : CS), B_Values_variableIn_83 s0 σ = some q → V p l e { frames := 1, cells := 0, slots := 0, locals := 21 } s m args below meth c D (inC ad) 6 (MQ below (vQ D (inC ad) (some (.int q.1)) (wc cy ad q.2)) args s 0 0 (inC ad)) 0 0 (wc cy ad σ) 83 [(0, .ref (ad 38))] [.int s0] := by
  intro s0 σ h
  rw [B_Values_variableIn_83] at h
  obtain rfl := Option.some.inj h
  exact v_iret C dX8_variableIn_83
set_option maxHeartbeats 4000000 in
set_option maxRecDepth 20000 in
theorem b_Values_variableIn_82 {p : Program} {l : Launch} {e : Env} {s : State} {m : MethodId} {args : Array Value} {below : List Frame} {meth : Method} {c : Code} {D : va_G} {cy : Nat → ClassId} {ad : Nat → Nat} {q : Int32 × CS}  (C : vC p s m args meth c cX8_variableIn 6 (some .int) RX8 D (cyT cy)) (hA : adOK ad) {k83 : Int32 → CS → Option (Int32 × CS)} (hk83 : ∀ (s0 : Int32) (σ : CS), k83 s0 σ = some q → V p l e { frames := 1, cells := 0, slots := 0, locals := 21 } s m args below meth c D (inC ad) 6 (MQ below (vQ D (inC ad) (some (.int q.1)) (wc cy ad q.2)) args s 0 0 (inC ad)) 0 0 (wc cy ad σ) 83 [(0, .ref (ad 38))] [.int s0]) : ∀ (σ : CS), B_Values_variableIn_82 k83 σ = some q → V p l e { frames := 1, cells := 0, slots := 0, locals := 21 } s m args below meth c D (inC ad) 6 (MQ below (vQ D (inC ad) (some (.int q.1)) (wc cy ad q.2)) args s 0 0 (inC ad)) 0 0 (wc cy ad σ) 82 [(0, .ref (ad 38))] [] := by
  intro σ h
  rw [B_Values_variableIn_82] at h
  refine v_iconst C 0 dX8_variableIn_82 (by decide) ?_
  exact v_sub [0] rfl (hk83 _ _ h)
set_option maxHeartbeats 4000000 in
set_option maxRecDepth 20000 in
theorem l_Values_variableIn_44 {p : Program} {l : Launch} {e : Env} {s : State} {m : MethodId} {args : Array Value} {below : List Frame} {meth : Method} {c : Code} {D : va_G} {cy : Nat → ClassId} {ad : Nat → Nat} {q : Int32 × CS}  (C : vC p s m args meth c cX8_variableIn 6 (some .int) RX8 D (cyT cy)) (hA : adOK ad) : ∀ (n : Nat) (x2 : Int32) (x3 : Int32) (x4 : Int32) (x5 : Int32) (σ : CS), L_Values_variableIn_44 n x2 x3 x4 x5 σ = some q → V p l e { frames := 1, cells := 0, slots := 0, locals := 21 } s m args below meth c D (inC ad) 6 (MQ below (vQ D (inC ad) (some (.int q.1)) (wc cy ad q.2)) args s 0 0 (inC ad)) 0 0 (wc cy ad σ) 44 [(0, .ref (ad 38)), (2, .int x2), (3, .int x3), (4, .int x4), (5, .int x5)] [] := by
  intro n
  induction n with
  | zero =>
    intro x2 x3 x4 x5 σ h
    rw [L_Values_variableIn_44.eq_1] at h
    cases h
  | succ n ih =>
    intro x2 x3 x4 x5 σ h
    rw [L_Values_variableIn_44.eq_2] at h
    refine v_iload C 4 dX8_variableIn_44 rfl ?_
    refine v_iload_n C 2 dX8_variableIn_46 rfl rfl ?_
    refine v_icmp_ge C 64 dX8_variableIn_47 (by decide) (fun c1 => ?_) (fun c1 => ?_)
    · rw [if_pos c1] at h
      refine v_iload_n C 1 dX8_variableIn_64 rfl rfl ?_
      refine v_if_lt C 82 dX8_variableIn_65 (by decide) (fun c2 => ?_) (fun c2 => ?_)
      · rw [if_pos c2] at h
        exact v_sub [0] rfl ((b_Values_variableIn_82 C hA (b_Values_variableIn_83 C hA)) _ h)
      · rw [if_neg c2] at h
        refine v_iload_n C 1 dX8_variableIn_68 rfl rfl ?_
        refine v_iload_n C 2 dX8_variableIn_69 rfl rfl ?_
        refine v_icmp_ge C 82 dX8_variableIn_70 (by decide) (fun c3 => ?_) (fun c3 => ?_)
        · rw [if_pos c3] at h
          exact v_sub [0] rfl ((b_Values_variableIn_82 C hA (b_Values_variableIn_83 C hA)) _ h)
        · rw [if_neg c3] at h
          refine v_aload_n C 0 dX8_variableIn_73 rfl rfl ?_
          refine v_iload C 3 dX8_variableIn_74 rfl ?_
          obtain ⟨q1, hq1, h⟩ := bd_of h
          refine c_call C [.int x4] [] (c_Values_leftOf hA _ _ hq1) hY_Values_leftOf rfl (by decide) (okS _ 38 (by decide) rfl) ml_8_40 ⟨(by omega : 0 + 1 ≤ 1), (by omega : 8 + (2 + 11) + 0 ≤ 21)⟩ ⟨Nat.zero_le _, Nat.zero_le _⟩ rfl rfl (Nat.le_of_ble_eq_true rfl) dX8_variableIn_76 (wc_D hA cy _) ?_
          refine v_goto C 83 dX8_variableIn_79 (by decide) ?_
          exact v_sub [0] rfl ((b_Values_variableIn_83 C hA) _ _ h)
    · rw [if_neg c1] at h
      refine v_aload_n C 0 dX8_variableIn_50 rfl rfl ?_
      refine v_iload C 3 dX8_variableIn_51 rfl ?_
      obtain ⟨q2, hq2, h⟩ := bd_of h
      refine c_call C [.int x4] [] (c_Values_rightOf hA _ _ hq2) hY_Values_rightOf rfl (by decide) (okS _ 38 (by decide) rfl) ml_8_48 ⟨(by omega : 0 + 1 ≤ 1), (by omega : 8 + (2 + 11) + 0 ≤ 21)⟩ ⟨Nat.zero_le _, Nat.zero_le _⟩ rfl rfl (Nat.le_of_ble_eq_true rfl) dX8_variableIn_53 (wc_D hA cy _) ?_
      refine v_istore C [(4, .int q2.1), (0, .ref (ad 38)), (2, .int x2), (3, .int x3), (5, .int x5)] dX8_variableIn_56 (by decide) rfl ?_
      refine v_iinc C (x5 + 1) 4 [(5, .int (x5 + 1)), (4, .int q2.1), (0, .ref (ad 38)), (2, .int x2), (3, .int x3)] dX8_variableIn_58 rfl rfl (by decide) rfl ?_
      refine v_goto C 44 dX8_variableIn_61 (by decide) ?_
      exact v_sub [2, 3, 4, 1, 0] rfl (ih _ _ _ _ _ h)
set_option maxHeartbeats 4000000 in
set_option maxRecDepth 20000 in
theorem b_Values_variableIn_36 {p : Program} {l : Launch} {e : Env} {s : State} {m : MethodId} {args : Array Value} {below : List Frame} {meth : Method} {c : Code} {D : va_G} {cy : Nat → ClassId} {ad : Nat → Nat} {q : Int32 × CS}  (C : vC p s m args meth c cX8_variableIn 6 (some .int) RX8 D (cyT cy)) (hA : adOK ad) : ∀ (x1 : Int32) (x2 : Int32) (x3 : Int32) (σ : CS), B_Values_variableIn_36 x1 x2 x3 σ = some q → V p l e { frames := 1, cells := 0, slots := 0, locals := 21 } s m args below meth c D (inC ad) 6 (MQ below (vQ D (inC ad) (some (.int q.1)) (wc cy ad q.2)) args s 0 0 (inC ad)) 0 0 (wc cy ad σ) 36 [(0, .ref (ad 38)), (1, .int x1), (2, .int x2), (3, .int x3)] [] := by
  intro x1 x2 x3 σ h
  rw [B_Values_variableIn_36] at h
  refine v_iload_n C 1 dX8_variableIn_36 rfl rfl ?_
  refine v_istore C [(4, .int x1), (0, .ref (ad 38)), (1, .int x1), (2, .int x2), (3, .int x3)] dX8_variableIn_37 (by decide) rfl ?_
  refine v_iload_n C 3 dX8_variableIn_39 rfl rfl ?_
  refine v_iconst C 1 dX8_variableIn_40 (by decide) ?_
  refine v_iadd C dX8_variableIn_41 ?_
  refine v_istore C [(5, .int (x2 + 1)), (4, .int x1), (0, .ref (ad 38)), (1, .int x1), (2, .int x2), (3, .int x3)] dX8_variableIn_42 (by decide) rfl ?_
  exact v_sub [2, 4, 5, 1, 0] rfl ((l_Values_variableIn_44 C hA 10000) _ _ _ _ _ h)
set_option maxHeartbeats 4000000 in
set_option maxRecDepth 20000 in
theorem l_Values_variableIn_5 {p : Program} {l : Launch} {e : Env} {s : State} {m : MethodId} {args : Array Value} {below : List Frame} {meth : Method} {c : Code} {D : va_G} {cy : Nat → ClassId} {ad : Nat → Nat} {q : Int32 × CS}  (C : vC p s m args meth c cX8_variableIn 6 (some .int) RX8 D (cyT cy)) (hA : adOK ad) : ∀ (n : Nat) (x1 : Int32) (x2 : Int32) (x3 : Int32) (x4 : Int32) (σ : CS), L_Values_variableIn_5 n x1 x2 x3 x4 σ = some q → V p l e { frames := 1, cells := 0, slots := 0, locals := 21 } s m args below meth c D (inC ad) 6 (MQ below (vQ D (inC ad) (some (.int q.1)) (wc cy ad q.2)) args s 0 0 (inC ad)) 0 0 (wc cy ad σ) 5 [(0, .ref (ad 38)), (1, .int x1), (2, .int x2), (3, .int x3), (4, .int x4)] [] := by
  intro n
  induction n with
  | zero =>
    intro x1 x2 x3 x4 σ h
    rw [L_Values_variableIn_5.eq_1] at h
    cases h
  | succ n ih =>
    intro x1 x2 x3 x4 σ h
    rw [L_Values_variableIn_5.eq_2] at h
    refine v_aload_n C 0 dX8_variableIn_5 rfl rfl ?_
    refine v_iload C 4 dX8_variableIn_6 rfl ?_
    obtain ⟨q1, hq1, h⟩ := bd_of h
    refine c_call C [.int x4] [] (c_Values_kindOf hA _ _ hq1) hY_Values_kindOf rfl (by decide) (okS _ 38 (by decide) rfl) ml_8_36 ⟨(by omega : 0 + 1 ≤ 1), (by omega : 8 + (2 + 11) + 0 ≤ 21)⟩ ⟨Nat.zero_le _, Nat.zero_le _⟩ rfl rfl (Nat.le_of_ble_eq_true rfl) dX8_variableIn_8 (wc_D hA cy _) ?_
    refine v_bipush C 9 dX8_variableIn_11 (by decide) ?_
    refine v_icmp_ne C 36 dX8_variableIn_13 (by decide) (fun c1 => ?_) (fun c1 => ?_)
    · rw [if_neg c1] at h
      exact v_sub [0, 1, 2, 3] rfl ((b_Values_variableIn_36 C hA) _ _ _ _ h)
    · rw [if_pos c1] at h
      refine v_iload_n C 3 dX8_variableIn_16 rfl rfl ?_
      refine v_bipush C 10 dX8_variableIn_17 (by decide) ?_
      refine v_icmp_gt C 36 dX8_variableIn_19 (by decide) (fun c2 => ?_) (fun c2 => ?_)
      · rw [if_pos c2] at h
        exact v_sub [0, 1, 2, 3] rfl ((b_Values_variableIn_36 C hA) _ _ _ _ h)
      · rw [if_neg c2] at h
        refine v_iinc C (x3 + 1) 3 [(3, .int (x3 + 1)), (0, .ref (ad 38)), (1, .int x1), (2, .int x2), (4, .int x4)] dX8_variableIn_22 rfl rfl (by decide) rfl ?_
        refine v_aload_n C 1 dX8_variableIn_25 rfl rfl ?_
        refine v_iload C 4 dX8_variableIn_26 rfl ?_
        obtain ⟨q2, hq2, h⟩ := bd_of h
        refine c_call C [.int x4] [] (c_Values_rightOf hA _ _ hq2) hY_Values_rightOf rfl (by decide) (okS _ 38 (by decide) rfl) ml_8_48 ⟨(by omega : 0 + 1 ≤ 1), (by omega : 8 + (2 + 11) + 0 ≤ 21)⟩ ⟨Nat.zero_le _, Nat.zero_le _⟩ rfl rfl (Nat.le_of_ble_eq_true rfl) dX8_variableIn_28 (wc_D hA cy _) ?_
        refine v_istore C [(4, .int q2.1), (3, .int (x3 + 1)), (0, .ref (ad 38)), (1, .int x1), (2, .int x2)] dX8_variableIn_31 (by decide) rfl ?_
        refine v_goto C 5 dX8_variableIn_33 (by decide) ?_
        exact v_sub [2, 3, 4, 1, 0] rfl (ih _ _ _ _ _ h)
set_option maxHeartbeats 4000000 in
set_option maxRecDepth 20000 in
theorem c_Values_variableIn {l : Launch} {D : va_G} {cy : Nat → ClassId} {ad : Nat → Nat} {q : Int32 × CS} (hA : adOK ad) (x1 : Int32) (x2 : Int32) (σ : CS) (h : f_Values_variableIn x1 x2 σ = some q) : MV l D (cyT cy) (inC ad) yX8_variableIn cX8_variableIn 6 (some .int) (1) (21) 0 0 [.ref (ad 38), .int x1, .int x2] (wc cy ad σ) (some (.int q.1)) (wc cy ad q.2) := by
  refine MV.of (by decide) (wc_D hA cy σ) (Nat.le_of_ble_eq_true rfl) [(0, .ref (ad 38)), (1, .int x1), (2, .int x2)] rfl ?_
  intro p e s m args below meth c C
  rw [f_Values_variableIn] at h
  refine v_iconst C 0 dX8_variableIn_0 (by decide) ?_
  refine v_istore_n C [(3, .int 0), (0, .ref (ad 38)), (1, .int x1), (2, .int x2)] dX8_variableIn_1 rfl (by decide) rfl ?_
  refine v_iload_n C 2 dX8_variableIn_2 rfl rfl ?_
  refine v_istore C [(4, .int x1), (3, .int 0), (0, .ref (ad 38)), (1, .int x1), (2, .int x2)] dX8_variableIn_3 (by decide) rfl ?_
  exact v_sub [2, 3, 4, 1, 0] rfl ((l_Values_variableIn_5 C hA 10000) _ _ _ _ _ h)
