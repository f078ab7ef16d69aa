theorem dX1_init_0 : decode cX1_init 0 = .ok (.aload_n 0, 1) := by decide +kernel
theorem dX1_init_1 : decode cX1_init 1 = .ok (.invokespecial 3, 3) := by decide +kernel
theorem dX1_init_4 : decode cX1_init 4 = .ok (.aload_n 0, 1) := by decide +kernel
theorem dX1_init_5 : decode cX1_init 5 = .ok (.aload_n 1, 1) := by decide +kernel
theorem dX1_init_6 : decode cX1_init 6 = .ok (.putfield 9, 3) := by decide +kernel
theorem dX1_init_9 : decode cX1_init 9 = .ok (.return_, 1) := by decide +kernel
theorem dX0_init_0 : decode cX0_init 0 = .ok (.aload_n 0, 1) := by decide +kernel
theorem dX0_init_1 : decode cX0_init 1 = .ok (.invokespecial 1, 3) := by decide +kernel
theorem dX0_init_4 : decode cX0_init 4 = .ok (.aload_n 0, 1) := by decide +kernel
theorem dX0_init_5 : decode cX0_init 5 = .ok (.aload_n 1, 1) := by decide +kernel
theorem dX0_init_6 : decode cX0_init 6 = .ok (.putfield 7, 3) := by decide +kernel
theorem dX0_init_9 : decode cX0_init 9 = .ok (.aload_n 0, 1) := by decide +kernel
theorem dX0_init_10 : decode cX0_init 10 = .ok (.aload_n 2, 1) := by decide +kernel
theorem dX0_init_11 : decode cX0_init 11 = .ok (.putfield 13, 3) := by decide +kernel
theorem dX0_init_14 : decode cX0_init 14 = .ok (.return_, 1) := by decide +kernel
theorem dX3_init_0 : decode cX3_init 0 = .ok (.aload_n 0, 1) := by decide +kernel
theorem dX3_init_1 : decode cX3_init 1 = .ok (.invokespecial 3, 3) := by decide +kernel
theorem dX3_init_4 : decode cX3_init 4 = .ok (.aload_n 0, 1) := by decide +kernel
theorem dX3_init_5 : decode cX3_init 5 = .ok (.iconst 3, 1) := by decide +kernel
theorem dX3_init_6 : decode cX3_init 6 = .ok (.anewarray 9, 3) := by decide +kernel
theorem dX3_init_9 : decode cX3_init 9 = .ok (.putfield 11, 3) := by decide +kernel
theorem dX3_init_12 : decode cX3_init 12 = .ok (.aload_n 0, 1) := by decide +kernel
theorem dX3_init_13 : decode cX3_init 13 = .ok (.iconst 4, 1) := by decide +kernel
theorem dX3_init_14 : decode cX3_init 14 = .ok (.anewarray 9, 3) := by decide +kernel
theorem dX3_init_17 : decode cX3_init 17 = .ok (.putfield 17, 3) := by decide +kernel
theorem dX3_init_20 : decode cX3_init 20 = .ok (.return_, 1) := by decide +kernel
theorem dX5_init_0 : decode cX5_init 0 = .ok (.aload_n 0, 1) := by decide +kernel
theorem dX5_init_1 : decode cX5_init 1 = .ok (.invokespecial 3, 3) := by decide +kernel
theorem dX5_init_4 : decode cX5_init 4 = .ok (.aload_n 0, 1) := by decide +kernel
theorem dX5_init_5 : decode cX5_init 5 = .ok (.bipush 6, 2) := by decide +kernel
theorem dX5_init_7 : decode cX5_init 7 = .ok (.anewarray 9, 3) := by decide +kernel
theorem dX5_init_10 : decode cX5_init 10 = .ok (.putfield 11, 3) := by decide +kernel
theorem dX5_init_13 : decode cX5_init 13 = .ok (.return_, 1) := by decide +kernel
theorem dX7_keptForm_0 : decode cX7_keptForm 0 = .ok (.aload_n 0, 1) := by decide +kernel
theorem dX7_keptForm_1 : decode cX7_keptForm 1 = .ok (.iload_n 1, 1) := by decide +kernel
theorem dX7_keptForm_2 : decode cX7_keptForm 2 = .ok (.invokevirtual 69, 3) := by decide +kernel
theorem dX7_keptForm_5 : decode cX7_keptForm 5 = .ok (.istore_n 2, 1) := by decide +kernel
theorem dX7_keptForm_6 : decode cX7_keptForm 6 = .ok (.iload_n 1, 1) := by decide +kernel
theorem dX7_keptForm_7 : decode cX7_keptForm 7 = .ok (.ifCond .lt 15, 3) := by decide +kernel
theorem dX7_keptForm_10 : decode cX7_keptForm 10 = .ok (.iload_n 1, 1) := by decide +kernel
theorem dX7_keptForm_11 : decode cX7_keptForm 11 = .ok (.iload_n 2, 1) := by decide +kernel
theorem dX7_keptForm_12 : decode cX7_keptForm 12 = .ok (.if_icmp .gt 10, 3) := by decide +kernel
theorem dX7_keptForm_15 : decode cX7_keptForm 15 = .ok (.iload_n 2, 1) := by decide +kernel
theorem dX7_keptForm_16 : decode cX7_keptForm 16 = .ok (.sipush 3600, 3) := by decide +kernel
theorem dX7_keptForm_19 : decode cX7_keptForm 19 = .ok (.if_icmp .le 14, 3) := by decide +kernel
theorem dX7_keptForm_22 : decode cX7_keptForm 22 = .ok (.new 72, 3) := by decide +kernel
theorem dX7_keptForm_25 : decode cX7_keptForm 25 = .ok (.dup, 1) := by decide +kernel
theorem dX7_keptForm_26 : decode cX7_keptForm 26 = .ok (.iconst 0, 1) := by decide +kernel
theorem dX7_keptForm_27 : decode cX7_keptForm 27 = .ok (.newarray .int, 2) := by decide +kernel
theorem dX7_keptForm_29 : decode cX7_keptForm 29 = .ok (.invokespecial 74, 3) := by decide +kernel
theorem dX7_keptForm_32 : decode cX7_keptForm 32 = .ok (.areturn, 1) := by decide +kernel
theorem dX7_keptForm_33 : decode cX7_keptForm 33 = .ok (.new 72, 3) := by decide +kernel
theorem dX7_keptForm_36 : decode cX7_keptForm 36 = .ok (.dup, 1) := by decide +kernel
theorem dX7_keptForm_37 : decode cX7_keptForm 37 = .ok (.aload_n 0, 1) := by decide +kernel
theorem dX7_keptForm_38 : decode cX7_keptForm 38 = .ok (.getfield 11, 3) := by decide +kernel
theorem dX7_keptForm_41 : decode cX7_keptForm 41 = .ok (.iload_n 1, 1) := by decide +kernel
theorem dX7_keptForm_42 : decode cX7_keptForm 42 = .ok (.iload_n 2, 1) := by decide +kernel
theorem dX7_keptForm_43 : decode cX7_keptForm 43 = .ok (.invokestatic 77, 3) := by decide +kernel
theorem dX7_keptForm_46 : decode cX7_keptForm 46 = .ok (.invokespecial 74, 3) := by decide +kernel
theorem dX7_keptForm_49 : decode cX7_keptForm 49 = .ok (.areturn, 1) := by decide +kernel
theorem dX4_entryRead_0 : decode cX4_entryRead 0 = .ok (.new 86, 3) := by decide +kernel
theorem dX4_entryRead_3 : decode cX4_entryRead 3 = .ok (.dup, 1) := by decide +kernel
theorem dX4_entryRead_4 : decode cX4_entryRead 4 = .ok (.aload_n 0, 1) := by decide +kernel
theorem dX4_entryRead_5 : decode cX4_entryRead 5 = .ok (.getfield 25, 3) := by decide +kernel
theorem dX4_entryRead_8 : decode cX4_entryRead 8 = .ok (.aload_n 0, 1) := by decide +kernel
theorem dX4_entryRead_9 : decode cX4_entryRead 9 = .ok (.getfield 63, 3) := by decide +kernel
theorem dX4_entryRead_12 : decode cX4_entryRead 12 = .ok (.invokevirtual 88, 3) := by decide +kernel
theorem dX4_entryRead_15 : decode cX4_entryRead 15 = .ok (.aload_n 0, 1) := by decide +kernel
theorem dX4_entryRead_16 : decode cX4_entryRead 16 = .ok (.getfield 25, 3) := by decide +kernel
theorem dX4_entryRead_19 : decode cX4_entryRead 19 = .ok (.aload_n 0, 1) := by decide +kernel
theorem dX4_entryRead_20 : decode cX4_entryRead 20 = .ok (.getfield 73, 3) := by decide +kernel
theorem dX4_entryRead_23 : decode cX4_entryRead 23 = .ok (.invokevirtual 88, 3) := by decide +kernel
theorem dX4_entryRead_26 : decode cX4_entryRead 26 = .ok (.invokespecial 92, 3) := by decide +kernel
theorem dX4_entryRead_29 : decode cX4_entryRead 29 = .ok (.areturn, 1) := by decide +kernel
theorem dX7_declared_0 : decode cX7_declared 0 = .ok (.new 32, 3) := by decide +kernel
theorem dX7_declared_3 : decode cX7_declared 3 = .ok (.dup, 1) := by decide +kernel
theorem dX7_declared_4 : decode cX7_declared 4 = .ok (.invokespecial 53, 3) := by decide +kernel
theorem dX7_declared_7 : decode cX7_declared 7 = .ok (.astore_n 1, 1) := by decide +kernel
theorem dX7_declared_8 : decode cX7_declared 8 = .ok (.iconst 0, 1) := by decide +kernel
theorem dX7_declared_9 : decode cX7_declared 9 = .ok (.istore_n 2, 1) := by decide +kernel
theorem dX7_declared_10 : decode cX7_declared 10 = .ok (.iload_n 2, 1) := by decide +kernel
theorem dX7_declared_11 : decode cX7_declared 11 = .ok (.aload_n 0, 1) := by decide +kernel
theorem dX7_declared_12 : decode cX7_declared 12 = .ok (.getfield 25, 3) := by decide +kernel
theorem dX7_declared_15 : decode cX7_declared 15 = .ok (.if_icmp .ge 42, 3) := by decide +kernel
theorem dX7_declared_18 : decode cX7_declared 18 = .ok (.iload_n 2, 1) := by decide +kernel
theorem dX7_declared_19 : decode cX7_declared 19 = .ok (.iconst 3, 1) := by decide +kernel
theorem dX7_declared_20 : decode cX7_declared 20 = .ok (.if_icmp .ge 37, 3) := by decide +kernel
theorem dX7_declared_23 : decode cX7_declared 23 = .ok (.aload_n 1, 1) := by decide +kernel
theorem dX7_declared_24 : decode cX7_declared 24 = .ok (.aload_n 0, 1) := by decide +kernel
theorem dX7_declared_25 : decode cX7_declared 25 = .ok (.getfield 15, 3) := by decide +kernel
theorem dX7_declared_28 : decode cX7_declared 28 = .ok (.iload_n 2, 1) := by decide +kernel
theorem dX7_declared_29 : decode cX7_declared 29 = .ok (.iaload, 1) := by decide +kernel
theorem dX7_declared_30 : decode cX7_declared 30 = .ok (.iconst (-1), 1) := by decide +kernel
theorem dX7_declared_31 : decode cX7_declared 31 = .ok (.if_icmp .ne 7, 3) := by decide +kernel
theorem dX7_declared_34 : decode cX7_declared 34 = .ok (.aconst_null, 1) := by decide +kernel
theorem dX7_declared_35 : decode cX7_declared 35 = .ok (.goto 13, 3) := by decide +kernel
theorem dX7_declared_38 : decode cX7_declared 38 = .ok (.aload_n 0, 1) := by decide +kernel
theorem dX7_declared_39 : decode cX7_declared 39 = .ok (.aload_n 0, 1) := by decide +kernel
theorem dX7_declared_40 : decode cX7_declared 40 = .ok (.getfield 15, 3) := by decide +kernel
theorem dX7_declared_43 : decode cX7_declared 43 = .ok (.iload_n 2, 1) := by decide +kernel
theorem dX7_declared_44 : decode cX7_declared 44 = .ok (.iaload, 1) := by decide +kernel
theorem dX7_declared_45 : decode cX7_declared 45 = .ok (.invokevirtual 54, 3) := by decide +kernel
theorem dX7_declared_48 : decode cX7_declared 48 = .ok (.invokevirtual 57, 3) := by decide +kernel
theorem dX7_declared_51 : decode cX7_declared 51 = .ok (.iinc 2 1, 3) := by decide +kernel
theorem dX7_declared_54 : decode cX7_declared 54 = .ok (.goto (-44), 3) := by decide +kernel
theorem dX7_declared_57 : decode cX7_declared 57 = .ok (.iconst 0, 1) := by decide +kernel
theorem dX7_declared_58 : decode cX7_declared 58 = .ok (.istore_n 2, 1) := by decide +kernel
theorem dX7_declared_59 : decode cX7_declared 59 = .ok (.iload_n 2, 1) := by decide +kernel
theorem dX7_declared_60 : decode cX7_declared 60 = .ok (.aload_n 0, 1) := by decide +kernel
theorem dX7_declared_61 : decode cX7_declared 61 = .ok (.getfield 28, 3) := by decide +kernel
theorem dX7_declared_64 : decode cX7_declared 64 = .ok (.if_icmp .ge 28, 3) := by decide +kernel
theorem dX7_declared_67 : decode cX7_declared 67 = .ok (.iload_n 2, 1) := by decide +kernel
theorem dX7_declared_68 : decode cX7_declared 68 = .ok (.iconst 4, 1) := by decide +kernel
theorem dX7_declared_69 : decode cX7_declared 69 = .ok (.if_icmp .ge 23, 3) := by decide +kernel
theorem dX7_declared_72 : decode cX7_declared 72 = .ok (.aload_n 1, 1) := by decide +kernel
theorem dX7_declared_73 : decode cX7_declared 73 = .ok (.aload_n 0, 1) := by decide +kernel
theorem dX7_declared_74 : decode cX7_declared 74 = .ok (.aload_n 0, 1) := by decide +kernel
theorem dX7_declared_75 : decode cX7_declared 75 = .ok (.getfield 18, 3) := by decide +kernel
theorem dX7_declared_78 : decode cX7_declared 78 = .ok (.iload_n 2, 1) := by decide +kernel
theorem dX7_declared_79 : decode cX7_declared 79 = .ok (.iaload, 1) := by decide +kernel
theorem dX7_declared_80 : decode cX7_declared 80 = .ok (.invokevirtual 54, 3) := by decide +kernel
theorem dX7_declared_83 : decode cX7_declared 83 = .ok (.invokevirtual 60, 3) := by decide +kernel
theorem dX7_declared_86 : decode cX7_declared 86 = .ok (.iinc 2 1, 3) := by decide +kernel
theorem dX7_declared_89 : decode cX7_declared 89 = .ok (.goto (-30), 3) := by decide +kernel
theorem dX7_declared_92 : decode cX7_declared 92 = .ok (.aload_n 1, 1) := by decide +kernel
theorem dX7_declared_93 : decode cX7_declared 93 = .ok (.areturn, 1) := by decide +kernel
theorem dX10_enters_0 : decode cX10_enters 0 = .ok (.aload_n 0, 1) := by decide +kernel
theorem dX10_enters_1 : decode cX10_enters 1 = .ok (.getfield 23, 3) := by decide +kernel
theorem dX10_enters_4 : decode cX10_enters 4 = .ok (.getfield 147, 3) := by decide +kernel
theorem dX10_enters_7 : decode cX10_enters 7 = .ok (.bipush 6, 2) := by decide +kernel
theorem dX10_enters_9 : decode cX10_enters 9 = .ok (.if_icmp .lt 6, 3) := by decide +kernel
theorem dX10_enters_12 : decode cX10_enters 12 = .ok (.bipush (-3), 2) := by decide +kernel
theorem dX10_enters_14 : decode cX10_enters 14 = .ok (.ireturn, 1) := by decide +kernel
theorem dX10_enters_15 : decode cX10_enters 15 = .ok (.aload_n 0, 1) := by decide +kernel
theorem dX10_enters_16 : decode cX10_enters 16 = .ok (.getfield 67, 3) := by decide +kernel
theorem dX10_enters_19 : decode cX10_enters 19 = .ok (.aload_n 0, 1) := by decide +kernel
theorem dX10_enters_20 : decode cX10_enters 20 = .ok (.getfield 9, 3) := by decide +kernel
theorem dX10_enters_23 : decode cX10_enters 23 = .ok (.aload_n 0, 1) := by decide +kernel
theorem dX10_enters_24 : decode cX10_enters 24 = .ok (.getfield 71, 3) := by decide +kernel
theorem dX10_enters_27 : decode cX10_enters 27 = .ok (.aload_n 0, 1) := by decide +kernel
theorem dX10_enters_28 : decode cX10_enters 28 = .ok (.getfield 16, 3) := by decide +kernel
theorem dX10_enters_31 : decode cX10_enters 31 = .ok (.aload_n 0, 1) := by decide +kernel
theorem dX10_enters_32 : decode cX10_enters 32 = .ok (.getfield 23, 3) := by decide +kernel
theorem dX10_enters_35 : decode cX10_enters 35 = .ok (.invokevirtual 75, 3) := by decide +kernel
theorem dX10_enters_38 : decode cX10_enters 38 = .ok (.aload_n 0, 1) := by decide +kernel
theorem dX10_enters_39 : decode cX10_enters 39 = .ok (.getfield 67, 3) := by decide +kernel
theorem dX10_enters_42 : decode cX10_enters 42 = .ok (.invokevirtual 121, 3) := by decide +kernel
theorem dX10_enters_45 : decode cX10_enters 45 = .ok (.ifCond .ne 14, 3) := by decide +kernel
theorem dX10_enters_48 : decode cX10_enters 48 = .ok (.bipush (-10), 2) := by decide +kernel
theorem dX10_enters_50 : decode cX10_enters 50 = .ok (.aload_n 0, 1) := by decide +kernel
theorem dX10_enters_51 : decode cX10_enters 51 = .ok (.getfield 67, 3) := by decide +kernel
theorem dX10_enters_54 : decode cX10_enters 54 = .ok (.getfield 86, 3) := by decide +kernel
theorem dX10_enters_57 : decode cX10_enters 57 = .ok (.isub, 1) := by decide +kernel
theorem dX10_enters_58 : decode cX10_enters 58 = .ok (.ireturn, 1) := by decide +kernel
theorem dX10_enters_59 : decode cX10_enters 59 = .ok (.aload_n 0, 1) := by decide +kernel
theorem dX10_enters_60 : decode cX10_enters 60 = .ok (.getfield 30, 3) := by decide +kernel
theorem dX10_enters_63 : decode cX10_enters 63 = .ok (.aload_n 0, 1) := by decide +kernel
theorem dX10_enters_64 : decode cX10_enters 64 = .ok (.getfield 23, 3) := by decide +kernel
theorem dX10_enters_67 : decode cX10_enters 67 = .ok (.invokevirtual 150, 3) := by decide +kernel
theorem dX10_enters_70 : decode cX10_enters 70 = .ok (.aload_n 0, 1) := by decide +kernel
theorem dX10_enters_71 : decode cX10_enters 71 = .ok (.getfield 23, 3) := by decide +kernel
theorem dX10_enters_74 : decode cX10_enters 74 = .ok (.aload_n 0, 1) := by decide +kernel
theorem dX10_enters_75 : decode cX10_enters 75 = .ok (.getfield 67, 3) := by decide +kernel
theorem dX10_enters_78 : decode cX10_enters 78 = .ok (.invokevirtual 154, 3) := by decide +kernel
theorem dX10_enters_81 : decode cX10_enters 81 = .ok (.invokevirtual 158, 3) := by decide +kernel
theorem dX10_enters_84 : decode cX10_enters 84 = .ok (.aload_n 0, 1) := by decide +kernel
theorem dX10_enters_85 : decode cX10_enters 85 = .ok (.iconst 0, 1) := by decide +kernel
theorem dX10_enters_86 : decode cX10_enters 86 = .ok (.putfield 71, 3) := by decide +kernel
theorem dX10_enters_89 : decode cX10_enters 89 = .ok (.aload_n 0, 1) := by decide +kernel
theorem dX10_enters_90 : decode cX10_enters 90 = .ok (.getfield 23, 3) := by decide +kernel
theorem dX10_enters_93 : decode cX10_enters 93 = .ok (.getfield 147, 3) := by decide +kernel
theorem dX10_enters_96 : decode cX10_enters 96 = .ok (.ireturn, 1) := by decide +kernel
theorem dX10_sees_0 : decode cX10_sees 0 = .ok (.iload_n 1, 1) := by decide +kernel
theorem dX10_sees_1 : decode cX10_sees 1 = .ok (.ifCond .lt 8, 3) := by decide +kernel
theorem dX10_sees_4 : decode cX10_sees 4 = .ok (.iload_n 1, 1) := by decide +kernel
theorem dX10_sees_5 : decode cX10_sees 5 = .ok (.iconst 2, 1) := by decide +kernel
theorem dX10_sees_6 : decode cX10_sees 6 = .ok (.if_icmp .le 5, 3) := by decide +kernel
theorem dX10_sees_9 : decode cX10_sees 9 = .ok (.iconst (-1), 1) := by decide +kernel
theorem dX10_sees_10 : decode cX10_sees 10 = .ok (.ireturn, 1) := by decide +kernel
theorem dX10_sees_11 : decode cX10_sees 11 = .ok (.aload_n 0, 1) := by decide +kernel
theorem dX10_sees_12 : decode cX10_sees 12 = .ok (.getfield 37, 3) := by decide +kernel
theorem dX10_sees_15 : decode cX10_sees 15 = .ok (.getfield 187, 3) := by decide +kernel
theorem dX10_sees_18 : decode cX10_sees 18 = .ok (.iconst 4, 1) := by decide +kernel
theorem dX10_sees_19 : decode cX10_sees 19 = .ok (.if_icmp .lt 6, 3) := by decide +kernel
theorem dX10_sees_22 : decode cX10_sees 22 = .ok (.bipush (-3), 2) := by decide +kernel
theorem dX10_sees_24 : decode cX10_sees 24 = .ok (.ireturn, 1) := by decide +kernel
theorem dX10_sees_25 : decode cX10_sees 25 = .ok (.aload_n 0, 1) := by decide +kernel
theorem dX10_sees_26 : decode cX10_sees 26 = .ok (.getfield 67, 3) := by decide +kernel
theorem dX10_sees_29 : decode cX10_sees 29 = .ok (.aload_n 0, 1) := by decide +kernel
theorem dX10_sees_30 : decode cX10_sees 30 = .ok (.getfield 9, 3) := by decide +kernel
theorem dX10_sees_33 : decode cX10_sees 33 = .ok (.aload_n 0, 1) := by decide +kernel
theorem dX10_sees_34 : decode cX10_sees 34 = .ok (.getfield 71, 3) := by decide +kernel
theorem dX10_sees_37 : decode cX10_sees 37 = .ok (.aload_n 0, 1) := by decide +kernel
theorem dX10_sees_38 : decode cX10_sees 38 = .ok (.getfield 16, 3) := by decide +kernel
theorem dX10_sees_41 : decode cX10_sees 41 = .ok (.aload_n 0, 1) := by decide +kernel
theorem dX10_sees_42 : decode cX10_sees 42 = .ok (.getfield 23, 3) := by decide +kernel
theorem dX10_sees_45 : decode cX10_sees 45 = .ok (.invokevirtual 75, 3) := by decide +kernel
theorem dX10_sees_48 : decode cX10_sees 48 = .ok (.aload_n 0, 1) := by decide +kernel
theorem dX10_sees_49 : decode cX10_sees 49 = .ok (.getfield 67, 3) := by decide +kernel
theorem dX10_sees_52 : decode cX10_sees 52 = .ok (.invokevirtual 121, 3) := by decide +kernel
theorem dX10_sees_55 : decode cX10_sees 55 = .ok (.ifCond .ne 14, 3) := by decide +kernel
theorem dX10_sees_58 : decode cX10_sees 58 = .ok (.bipush (-10), 2) := by decide +kernel
theorem dX10_sees_60 : decode cX10_sees 60 = .ok (.aload_n 0, 1) := by decide +kernel
theorem dX10_sees_61 : decode cX10_sees 61 = .ok (.getfield 67, 3) := by decide +kernel
theorem dX10_sees_64 : decode cX10_sees 64 = .ok (.getfield 86, 3) := by decide +kernel
theorem dX10_sees_67 : decode cX10_sees 67 = .ok (.isub, 1) := by decide +kernel
theorem dX10_sees_68 : decode cX10_sees 68 = .ok (.ireturn, 1) := by decide +kernel
theorem dX10_sees_69 : decode cX10_sees 69 = .ok (.aload_n 0, 1) := by decide +kernel
theorem dX10_sees_70 : decode cX10_sees 70 = .ok (.getfield 37, 3) := by decide +kernel
theorem dX10_sees_73 : decode cX10_sees 73 = .ok (.aload_n 0, 1) := by decide +kernel
theorem dX10_sees_74 : decode cX10_sees 74 = .ok (.getfield 67, 3) := by decide +kernel
theorem dX10_sees_77 : decode cX10_sees 77 = .ok (.invokevirtual 154, 3) := by decide +kernel
theorem dX10_sees_80 : decode cX10_sees 80 = .ok (.iload_n 1, 1) := by decide +kernel
theorem dX10_sees_81 : decode cX10_sees 81 = .ok (.invokevirtual 188, 3) := by decide +kernel
theorem dX10_sees_84 : decode cX10_sees 84 = .ok (.aload_n 0, 1) := by decide +kernel
theorem dX10_sees_85 : decode cX10_sees 85 = .ok (.iconst 0, 1) := by decide +kernel
theorem dX10_sees_86 : decode cX10_sees 86 = .ok (.putfield 71, 3) := by decide +kernel
theorem dX10_sees_89 : decode cX10_sees 89 = .ok (.aload_n 0, 1) := by decide +kernel
theorem dX10_sees_90 : decode cX10_sees 90 = .ok (.getfield 37, 3) := by decide +kernel
theorem dX10_sees_93 : decode cX10_sees 93 = .ok (.getfield 187, 3) := by decide +kernel
theorem dX10_sees_96 : decode cX10_sees 96 = .ok (.ireturn, 1) := by decide +kernel
theorem dX10_laws_0 : decode cX10_laws 0 = .ok (.aload_n 0, 1) := by decide +kernel
theorem dX10_laws_1 : decode cX10_laws 1 = .ok (.getfield 67, 3) := by decide +kernel
theorem dX10_laws_4 : decode cX10_laws 4 = .ok (.aload_n 0, 1) := by decide +kernel
theorem dX10_laws_5 : decode cX10_laws 5 = .ok (.getfield 9, 3) := by decide +kernel
theorem dX10_laws_8 : decode cX10_laws 8 = .ok (.aload_n 0, 1) := by decide +kernel
theorem dX10_laws_9 : decode cX10_laws 9 = .ok (.getfield 71, 3) := by decide +kernel
theorem dX10_laws_12 : decode cX10_laws 12 = .ok (.new 13, 3) := by decide +kernel
theorem dX10_laws_15 : decode cX10_laws 15 = .ok (.dup, 1) := by decide +kernel
theorem dX10_laws_16 : decode cX10_laws 16 = .ok (.invokespecial 15, 3) := by decide +kernel
theorem dX10_laws_19 : decode cX10_laws 19 = .ok (.new 20, 3) := by decide +kernel
theorem dX10_laws_22 : decode cX10_laws 22 = .ok (.dup, 1) := by decide +kernel
theorem dX10_laws_23 : decode cX10_laws 23 = .ok (.invokespecial 22, 3) := by decide +kernel
theorem dX10_laws_26 : decode cX10_laws 26 = .ok (.invokevirtual 75, 3) := by decide +kernel
theorem dX10_laws_29 : decode cX10_laws 29 = .ok (.iconst 0, 1) := by decide +kernel
theorem dX10_laws_30 : decode cX10_laws 30 = .ok (.istore_n 1, 1) := by decide +kernel
theorem dX10_laws_31 : decode cX10_laws 31 = .ok (.iload_n 1, 1) := by decide +kernel
theorem dX10_laws_32 : decode cX10_laws 32 = .ok (.bipush 32, 2) := by decide +kernel
theorem dX10_laws_34 : decode cX10_laws 34 = .ok (.if_icmp .ge 40, 3) := by decide +kernel
theorem dX10_laws_37 : decode cX10_laws 37 = .ok (.aload_n 0, 1) := by decide +kernel
theorem dX10_laws_38 : decode cX10_laws 38 = .ok (.getfield 67, 3) := by decide +kernel
theorem dX10_laws_41 : decode cX10_laws 41 = .ok (.invokevirtual 79, 3) := by decide +kernel
theorem dX10_laws_44 : decode cX10_laws 44 = .ok (.ifCond .eq 30, 3) := by decide +kernel
theorem dX10_laws_47 : decode cX10_laws 47 = .ok (.aload_n 0, 1) := by decide +kernel
theorem dX10_laws_48 : decode cX10_laws 48 = .ok (.getfield 67, 3) := by decide +kernel
theorem dX10_laws_51 : decode cX10_laws 51 = .ok (.invokevirtual 83, 3) := by decide +kernel
theorem dX10_laws_54 : decode cX10_laws 54 = .ok (.ifCond .ne 14, 3) := by decide +kernel
theorem dX10_laws_57 : decode cX10_laws 57 = .ok (.bipush (-10), 2) := by decide +kernel
theorem dX10_laws_59 : decode cX10_laws 59 = .ok (.aload_n 0, 1) := by decide +kernel
theorem dX10_laws_60 : decode cX10_laws 60 = .ok (.getfield 67, 3) := by decide +kernel
theorem dX10_laws_63 : decode cX10_laws 63 = .ok (.getfield 86, 3) := by decide +kernel
theorem dX10_laws_66 : decode cX10_laws 66 = .ok (.isub, 1) := by decide +kernel
theorem dX10_laws_67 : decode cX10_laws 67 = .ok (.ireturn, 1) := by decide +kernel
theorem dX10_laws_68 : decode cX10_laws 68 = .ok (.iinc 1 1, 3) := by decide +kernel
theorem dX10_laws_71 : decode cX10_laws 71 = .ok (.goto (-40), 3) := by decide +kernel
theorem dX10_laws_74 : decode cX10_laws 74 = .ok (.aload_n 0, 1) := by decide +kernel
theorem dX10_laws_75 : decode cX10_laws 75 = .ok (.aload_n 0, 1) := by decide +kernel
theorem dX10_laws_76 : decode cX10_laws 76 = .ok (.getfield 67, 3) := by decide +kernel
theorem dX10_laws_79 : decode cX10_laws 79 = .ok (.getfield 89, 3) := by decide +kernel
theorem dX10_laws_82 : decode cX10_laws 82 = .ok (.invokevirtual 93, 3) := by decide +kernel
theorem dX10_laws_85 : decode cX10_laws 85 = .ok (.putfield 16, 3) := by decide +kernel
theorem dX10_laws_88 : decode cX10_laws 88 = .ok (.aload_n 0, 1) := by decide +kernel
theorem dX10_laws_89 : decode cX10_laws 89 = .ok (.getfield 23, 3) := by decide +kernel
theorem dX10_laws_92 : decode cX10_laws 92 = .ok (.invokevirtual 97, 3) := by decide +kernel
theorem dX10_laws_95 : decode cX10_laws 95 = .ok (.aload_n 0, 1) := by decide +kernel
theorem dX10_laws_96 : decode cX10_laws 96 = .ok (.getfield 30, 3) := by decide +kernel
theorem dX10_laws_99 : decode cX10_laws 99 = .ok (.invokevirtual 100, 3) := by decide +kernel
theorem dX10_laws_102 : decode cX10_laws 102 = .ok (.aload_n 0, 1) := by decide +kernel
theorem dX10_laws_103 : decode cX10_laws 103 = .ok (.getfield 37, 3) := by decide +kernel
theorem dX10_laws_106 : decode cX10_laws 106 = .ok (.invokevirtual 101, 3) := by decide +kernel
theorem dX10_laws_109 : decode cX10_laws 109 = .ok (.iconst 0, 1) := by decide +kernel
theorem dX10_laws_110 : decode cX10_laws 110 = .ok (.istore_n 2, 1) := by decide +kernel
theorem dX10_laws_111 : decode cX10_laws 111 = .ok (.iload_n 2, 1) := by decide +kernel
theorem dX10_laws_112 : decode cX10_laws 112 = .ok (.iconst 2, 1) := by decide +kernel
theorem dX10_laws_113 : decode cX10_laws 113 = .ok (.if_icmp .ge 16, 3) := by decide +kernel
theorem dX10_laws_116 : decode cX10_laws 116 = .ok (.aload_n 0, 1) := by decide +kernel
theorem dX10_laws_117 : decode cX10_laws 117 = .ok (.getfield 45, 3) := by decide +kernel
theorem dX10_laws_120 : decode cX10_laws 120 = .ok (.iload_n 2, 1) := by decide +kernel
theorem dX10_laws_121 : decode cX10_laws 121 = .ok (.iconst 0, 1) := by decide +kernel
theorem dX10_laws_122 : decode cX10_laws 122 = .ok (.bastore, 1) := by decide +kernel
theorem dX10_laws_123 : decode cX10_laws 123 = .ok (.iinc 2 1, 3) := by decide +kernel
theorem dX10_laws_126 : decode cX10_laws 126 = .ok (.goto (-15), 3) := by decide +kernel
theorem dX10_laws_129 : decode cX10_laws 129 = .ok (.aload_n 0, 1) := by decide +kernel
theorem dX10_laws_130 : decode cX10_laws 130 = .ok (.iconst 0, 1) := by decide +kernel
theorem dX10_laws_131 : decode cX10_laws 131 = .ok (.putfield 71, 3) := by decide +kernel
theorem dX10_laws_134 : decode cX10_laws 134 = .ok (.iload_n 1, 1) := by decide +kernel
theorem dX10_laws_135 : decode cX10_laws 135 = .ok (.ireturn, 1) := by decide +kernel
set_option maxHeartbeats 4000000 in
set_option maxRecDepth 20000 in
theorem c_Form_init {l : Launch} {D : va_G} {cy : Nat → ClassId} {ad : Nat → Nat} {q : Int32 × CS} (hA : adOK ad) (t : Nat) (x1 : Option Nat) (σ : CS) (h : f_Form_init t x1 σ = some q) : MVA l D cy ad yX1_init cX1_init 2 none 1 20 0 0 [.ref (ad t), va_rf (Option.map ad x1)] σ none q.2 := by
  refine MVA.of (by decide) (wc_D hA cy σ) (by cases x1 <;> exact Nat.le_of_ble_eq_true rfl) [(0, .ref (ad t)), (1, va_rf (Option.map ad x1))] (by cases x1 <;> rfl) ?_
  intro p e s m args below meth c C hz hnm
  obtain ⟨n0, hn⟩ : ∃ n0, ndC σ = n0 + 0 := ⟨_, rfl⟩
  replace hz : s.heap.size = ad (49 + n0) := by rw [hz, hn, Nat.add_zero]
  rw [f_Form_init] at h
  refine v_aload_n C 0 dX1_init_0 rfl rfl ?_
  refine r_obj C oi_1_3 oi_1 oi_2 (Nat.le_of_ble_eq_true rfl) (Nat.le_of_ble_eq_true rfl) dX1_init_1 ?_
  refine v_aload_n C 0 dX1_init_4 rfl rfl ?_
  refine c_aload_n C x1 1 dX1_init_5 rfl rfl ?_
  obtain ⟨g1, h⟩ := gd_of h
  obtain ⟨g2, h⟩ := gd_of h
  refine r_putF C hnm x1 fl_1_9 ⟨_, _, rfl⟩ ff_1_0 rfl rfl (of_decide_eq_true g1) g2 dX1_init_6 ?_
  obtain rfl := Option.some.inj h
  exact r_vret C hA hz hn (by show 0 ≤ 0; omega) (by show 0 ≤ 0; omega) dX1_init_9
set_option maxHeartbeats 4000000 in
set_option maxRecDepth 20000 in
theorem c_Entry_init {l : Launch} {D : va_G} {cy : Nat → ClassId} {ad : Nat → Nat} {q : Int32 × CS} (hA : adOK ad) (t : Nat) (x1 : Option Nat) (x2 : Option Nat) (σ : CS) (h : f_Entry_init t x1 x2 σ = some q) : MVA l D cy ad yX0_init cX0_init 3 none 1 20 0 0 [.ref (ad t), va_rf (Option.map ad x1), va_rf (Option.map ad x2)] σ none q.2 := by
  refine MVA.of (by decide) (wc_D hA cy σ) (by cases x1 <;> cases x2 <;> exact Nat.le_of_ble_eq_true rfl) [(0, .ref (ad t)), (1, va_rf (Option.map ad x1)), (2, va_rf (Option.map ad x2))] (by cases x1 <;> cases x2 <;> rfl) ?_
  intro p e s m args below meth c C hz hnm
  obtain ⟨n0, hn⟩ : ∃ n0, ndC σ = n0 + 0 := ⟨_, rfl⟩
  replace hz : s.heap.size = ad (49 + n0) := by rw [hz, hn, Nat.add_zero]
  rw [f_Entry_init] at h
  refine v_aload_n C 0 dX0_init_0 rfl rfl ?_
  refine r_obj C oi_0_1 oi_1 oi_2 (Nat.le_of_ble_eq_true rfl) (Nat.le_of_ble_eq_true rfl) dX0_init_1 ?_
  refine v_aload_n C 0 dX0_init_4 rfl rfl ?_
  refine c_aload_n C x1 1 dX0_init_5 rfl rfl ?_
  obtain ⟨g1, h⟩ := gd_of h
  obtain ⟨g2, h⟩ := gd_of h
  refine r_putF C hnm x1 fl_0_7 ⟨_, _, rfl⟩ ff_0_0 rfl rfl (of_decide_eq_true g1) g2 dX0_init_6 ?_
  refine v_aload_n C 0 dX0_init_9 rfl rfl ?_
  refine c_aload_n C x2 2 dX0_init_10 rfl rfl ?_
  obtain ⟨g3, h⟩ := gd_of h
  obtain ⟨g4, h⟩ := gd_of h
  refine r_putF C hnm x2 fl_0_13 ⟨_, _, rfl⟩ ff_0_1 rfl rfl (of_decide_eq_true g3) g4 dX0_init_11 ?_
  obtain rfl := Option.some.inj h
  exact r_vret C hA hz hn (by show 0 ≤ 0; omega) (by show 0 ≤ 0; omega) dX0_init_14
set_option maxHeartbeats 4000000 in
set_option maxRecDepth 20000 in
theorem c_Laws_init {l : Launch} {D : va_G} {cy : Nat → ClassId} {ad : Nat → Nat} {q : Int32 × CS} (hA : adOK ad) (t : Nat) (σ : CS) (h : f_Laws_init t σ = some q) : MVA l D cy ad yX3_init cX3_init 1 none 1 20 2 7 [.ref (ad t)] σ none q.2 := by
  refine MVA.of (by decide) (wc_D hA cy σ) (Nat.le_of_ble_eq_true rfl) [(0, .ref (ad t))] rfl ?_
  intro p e s m args below meth c C hz hnm
  obtain ⟨n0, hn⟩ : ∃ n0, ndC σ = n0 + 0 := ⟨_, rfl⟩
  replace hz : s.heap.size = ad (49 + n0) := by rw [hz, hn, Nat.add_zero]
  rw [f_Laws_init] at h
  refine v_aload_n C 0 dX3_init_0 rfl rfl ?_
  refine r_obj C oi_3_3 oi_1 oi_2 (Nat.le_of_ble_eq_true rfl) (Nat.le_of_ble_eq_true rfl) dX3_init_1 ?_
  refine v_aload_n C 0 dX3_init_4 rfl rfl ?_
  refine v_iconst C 3 dX3_init_5 (by decide) ?_
  refine r_newr C hA hz hn (K := 16) (n := 3) (by decide) rfl cl_3_9 ao_1 (by decide) (N := 3) (by decide) (by decide) (by show 0 + 1 ≤ 2; omega) (by show 0 + 3 ≤ 7; omega) dX3_init_6 ?_
  have hn : ndC (nwC σ 16 3) = n0 + (0 + 1) := by have h9 : ndC (nwC σ 16 3) = ndC σ + 1 := rfl; have hn9 : ndC σ = n0 + (0) := hn; have h8 : ndC σ = ndC σ := rfl; omega
  obtain ⟨g1, h⟩ := gd_of h
  obtain ⟨g2, h⟩ := gd_of h
  refine r_putF C hnm (some (49 + ndC σ)) fl_3_11 ⟨_, _, rfl⟩ ff_3_0 rfl rfl (of_decide_eq_true g1) g2 dX3_init_9 ?_
  refine v_aload_n C 0 dX3_init_12 rfl rfl ?_
  refine v_iconst C 4 dX3_init_13 (by decide) ?_
  have hn : ndC (sR (nwC σ 16 3) t 0 (some (49 + ndC σ))) = n0 + (0 + 1) := hn
  refine r_newr C hA hz hn (K := 16) (n := 4) (by decide) rfl cl_3_9 ao_1 (by decide) (N := 4) (by decide) (by decide) (by show 0 + 1 + 1 ≤ 2; omega) (by show 0 + 3 + 4 ≤ 7; omega) dX3_init_14 ?_
  have hn : ndC (nwC (sR (nwC σ 16 3) t 0 (some (49 + ndC σ))) 16 4) = n0 + (0 + 1 + 1) := by have h9 : ndC (nwC (sR (nwC σ 16 3) t 0 (some (49 + ndC σ))) 16 4) = ndC (sR (nwC σ 16 3) t 0 (some (49 + ndC σ))) + 1 := rfl; have hn9 : ndC (nwC σ 16 3) = n0 + (0 + 1) := hn; have h8 : ndC (sR (nwC σ 16 3) t 0 (some (49 + ndC σ))) = ndC (nwC σ 16 3) := rfl; omega
  obtain ⟨g3, h⟩ := gd_of h
  obtain ⟨g4, h⟩ := gd_of h
  refine r_putF C hnm (some (49 + ndC (sR (nwC σ 16 3) t 0 (some (49 + ndC σ))))) fl_3_17 ⟨_, _, rfl⟩ ff_3_1 rfl rfl (of_decide_eq_true g3) g4 dX3_init_17 ?_
  obtain rfl := Option.some.inj h
  exact r_vret C hA hz hn (by show 0 + 1 + 1 ≤ 2; omega) (by show 0 + 3 + 4 ≤ 7; omega) dX3_init_20
set_option maxHeartbeats 4000000 in
set_option maxRecDepth 20000 in
theorem c_Shelf_init {l : Launch} {D : va_G} {cy : Nat → ClassId} {ad : Nat → Nat} {q : Int32 × CS} (hA : adOK ad) (t : Nat) (σ : CS) (h : f_Shelf_init t σ = some q) : MVA l D cy ad yX5_init cX5_init 1 none 1 20 1 6 [.ref (ad t)] σ none q.2 := by
  refine MVA.of (by decide) (wc_D hA cy σ) (Nat.le_of_ble_eq_true rfl) [(0, .ref (ad t))] rfl ?_
  intro p e s m args below meth c C hz hnm
  obtain ⟨n0, hn⟩ : ∃ n0, ndC σ = n0 + 0 := ⟨_, rfl⟩
  replace hz : s.heap.size = ad (49 + n0) := by rw [hz, hn, Nat.add_zero]
  rw [f_Shelf_init] at h
  refine v_aload_n C 0 dX5_init_0 rfl rfl ?_
  refine r_obj C oi_5_3 oi_1 oi_2 (Nat.le_of_ble_eq_true rfl) (Nat.le_of_ble_eq_true rfl) dX5_init_1 ?_
  refine v_aload_n C 0 dX5_init_4 rfl rfl ?_
  refine v_bipush C 6 dX5_init_5 (by decide) ?_
  refine r_newr C hA hz hn (K := 15) (n := 6) (by decide) rfl cl_5_9 ao_0 (by decide) (N := 6) (by decide) (by decide) (by show 0 + 1 ≤ 1; omega) (by show 0 + 6 ≤ 6; omega) dX5_init_7 ?_
  have hn : ndC (nwC σ 15 6) = n0 + (0 + 1) := by have h9 : ndC (nwC σ 15 6) = ndC σ + 1 := rfl; have hn9 : ndC σ = n0 + (0) := hn; have h8 : ndC σ = ndC σ := rfl; omega
  obtain ⟨g1, h⟩ := gd_of h
  obtain ⟨g2, h⟩ := gd_of h
  refine r_putF C hnm (some (49 + ndC σ)) fl_5_11 ⟨_, _, rfl⟩ ff_5_0 rfl rfl (of_decide_eq_true g1) g2 dX5_init_10 ?_
  obtain rfl := Option.some.inj h
  exact r_vret C hA hz hn (by show 0 + 1 ≤ 1; omega) (by show 0 + 6 ≤ 6; omega) dX5_init_13
set_option maxHeartbeats 4000000 in
set_option maxRecDepth 20000 in
theorem b_Signs_keptForm_22 {p : Program} {l : Launch} {e : Env} {s : State} {m : MethodId} {args : Array Value} {below : List Frame} {meth : Method} {c : Code} {D : va_G} {cy : Nat → ClassId} {ad : Nat → Nat} {q : Option Nat × CS}  {n0 : Nat} (C : vC p s m args meth c cX7_keptForm 3 (some (.object "JudgedTerms$Form")) RX7 D (cyT cy)) (hA : adOK ad) (hz : s.heap.size = ad (49 + n0)) : ∀ (σ : CS), ndC σ = n0 + 0 → B_Signs_keptForm_22 n0 σ = some q → V p l e { frames := 4, cells := 2, slots := 51, locals := 92 } s m args below meth c D (inC ad) 3 (MQ below (vQA D cy ad (some (va_rf (Option.map ad q.1))) q.2) args s 2 51 (inC ad)) 0 (0) (wc cy ad σ) 22 [(0, .ref (ad 34))] [] := by
  intro σ hn h
  rw [B_Signs_keptForm_22] at h
  refine r_new C hA hz hn (ci := 1) rfl (by decide) rfl ixX1 tyX1_ok df_1 cl_7_72 in_1 ini_1 (by show 0 + 1 ≤ 2; omega) (by show 0 + 1 ≤ 51; omega) dX7_keptForm_22 ?_
  have hn : ndC (nwC σ 1 0) = n0 + (0 + 1) := by have h9 : ndC (nwC σ 1 0) = ndC σ + 1 := rfl; have hn9 : ndC σ = n0 + (0) := hn; have h8 : ndC σ = ndC σ := rfl; omega
  refine v_dup C dX7_keptForm_25 rfl ?_
  refine v_iconst C 0 dX7_keptForm_26 (by decide) ?_
  refine r_newi C hA hz hn (n := 0) ja_int (by decide) (N := 0) (by decide) (by decide) (by show 0 + 1 + 1 ≤ 2; omega) (by show 0 + 1 + 0 ≤ 51; omega) dX7_keptForm_27 ?_
  have hn : ndC (nwC (nwC σ 1 0) 12 0) = n0 + (0 + 1 + 1) := by have h9 : ndC (nwC (nwC σ 1 0) 12 0) = ndC (nwC σ 1 0) + 1 := rfl; have hn9 : ndC (nwC σ 1 0) = n0 + (0 + 1) := hn; have h8 : ndC (nwC σ 1 0) = ndC (nwC σ 1 0) := rfl; omega
  obtain ⟨q1, hq1, h⟩ := bd_of h
  obtain ⟨g1, h⟩ := gd_of h
  have hn2 : ndC q1.2 = n0 + (0 + 1 + 1 + 0) := by have h9 := eq_of_beq g1; have hn9 : ndC (nwC (nwC σ 1 0) 12 0) = n0 + (0 + 1 + 1) := hn; omega
  refine r_init C hA hz hn [.ref (ad (49 + ndC (nwC σ 1 0)))] [.ref (ad (49 + ndC σ))] (c_Form_init hA _ _ _ hq1) hn2 hYI_1 ml_7_74 ⟨(by show 1 + 1 ≤ 4; omega), (by show 8 + (2 + 11) + 20 ≤ 92; omega)⟩ ⟨(by show 0 + 1 + 1 + 0 ≤ 2; omega), (by show 0 + 1 + 0 + 0 ≤ 51; omega)⟩ rfl rfl (Nat.le_of_ble_eq_true rfl) dX7_keptForm_29 ?_
  replace hn := hn2
  obtain rfl := Option.some.inj h
  exact r_aret C rfl (Or.inl ⟨_, rfl⟩) (some (49 + ndC σ)) hA hz hn (by show 0 + 1 + 1 + 0 ≤ 2; omega) (by show 0 + 1 + 0 + 0 ≤ 51; omega) dX7_keptForm_32
set_option maxHeartbeats 4000000 in
set_option maxRecDepth 20000 in
theorem c_Signs_keptForm {l : Launch} {D : va_G} {cy : Nat → ClassId} {ad : Nat → Nat} {q : Option Nat × CS} (hA : adOK ad) (x1 : Int32) (σ : CS) (h : f_Signs_keptForm x1 σ = some q) : MVA l D cy ad yX7_keptForm cX7_keptForm 3 (some (.object "JudgedTerms$Form")) 4 92 2 51 [.ref (ad 34), .int x1] σ (some (va_rf (Option.map ad q.1))) q.2 := by
  refine MVA.of (by decide) (wc_D hA cy σ) (Nat.le_of_ble_eq_true rfl) [(0, .ref (ad 34)), (1, .int x1)] rfl ?_
  intro p e s m args below meth c C hz hnm
  obtain ⟨n0, hn⟩ : ∃ n0, ndC σ = n0 + 0 := ⟨_, rfl⟩
  replace hz : s.heap.size = ad (49 + n0) := by rw [hz, hn, Nat.add_zero]
  rw [f_Signs_keptForm] at h
  rw [show ndC σ = n0 from hn, g_Signs_keptForm] at h
  refine v_aload_n C 0 dX7_keptForm_0 rfl rfl ?_
  refine v_iload_n C 1 dX7_keptForm_1 rfl rfl ?_
  obtain ⟨q1, hq1, h⟩ := bd_of h
  refine c_call C [.int x1] [] (c_Signs_behind hA _ _ hq1) hY_Signs_behind rfl (by decide) (okS _ 34 (by decide) rfl) ml_7_69 ⟨(by omega : 1 + 1 ≤ 4), (by omega : 8 + (4 + 11) + 22 ≤ 92)⟩ ⟨(by omega : 0 ≤ 2), (by omega : 0 ≤ 51)⟩ rfl rfl (Nat.le_of_ble_eq_true rfl) dX7_keptForm_2 (wc_D hA cy _) ?_
  obtain ⟨g1, h⟩ := gd_of h
  have hn : ndC q1.2 = n0 + (0) := (eq_of_beq g1).trans hn
  refine v_istore_n C [(2, .int q1.1), (0, .ref (ad 34)), (1, .int x1)] dX7_keptForm_5 rfl (by decide) rfl ?_
  refine v_iload_n C 2 dX7_keptForm_6 rfl rfl ?_
  refine v_if_lt C 22 dX7_keptForm_7 (by decide) (fun c1 => ?_) (fun c1 => ?_)
  · rw [if_pos c1] at h
    refine v_kc (kc' := 0) (ks' := 0) (by omega) (by omega) ?_
    exact v_sub [1] rfl ((b_Signs_keptForm_22 C hA hz) _ (show ndC q1.2 = n0 + 0 from by have hn9 : ndC q1.2 = n0 + (0) := hn; omega) h)
  · rw [if_neg c1] at h
    refine v_iload_n C 2 dX7_keptForm_10 rfl rfl ?_
    refine v_iload_n C 0 dX7_keptForm_11 rfl rfl ?_
    refine v_icmp_gt C 22 dX7_keptForm_12 (by decide) (fun c2 => ?_) (fun c2 => ?_)
    · rw [if_pos c2] at h
      refine v_kc (kc' := 0) (ks' := 0) (by omega) (by omega) ?_
      exact v_sub [1] rfl ((b_Signs_keptForm_22 C hA hz) _ (show ndC q1.2 = n0 + 0 from by have hn9 : ndC q1.2 = n0 + (0) := hn; omega) h)
    · rw [if_neg c2] at h
      refine v_iload_n C 0 dX7_keptForm_15 rfl rfl ?_
      refine v_sipush C 3600 dX7_keptForm_16 (by decide) ?_
      refine v_icmp_le C 33 dX7_keptForm_19 (by decide) (fun c3 => ?_) (fun c3 => ?_)
      · rw [if_pos c3] at h
        refine r_new C hA hz hn (ci := 1) rfl (by decide) rfl ixX1 tyX1_ok df_1 cl_7_72 in_1 ini_1 (by show 0 + 1 ≤ 2; omega) (by show 0 + 1 ≤ 51; omega) dX7_keptForm_33 ?_
        have hn : ndC (nwC q1.2 1 0) = n0 + (0 + 1) := by have h9 : ndC (nwC q1.2 1 0) = ndC q1.2 + 1 := rfl; have hn9 : ndC q1.2 = n0 + (0) := hn; have h8 : ndC q1.2 = ndC q1.2 := rfl; omega
        refine v_dup C dX7_keptForm_36 rfl ?_
        refine v_aload_n C 1 dX7_keptForm_37 rfl rfl ?_
        refine c_getS C 35 fl_7_11 rfl rfl (by decide) (okS _ 34 (by decide) rfl) dX7_keptForm_38 ?_
        refine v_iload_n C 2 dX7_keptForm_41 rfl rfl ?_
        refine v_iload_n C 0 dX7_keptForm_42 rfl rfl ?_
        obtain ⟨g2, h⟩ := gd_of h
        have hn2 : ndC (cpC (nwC q1.2 1 0) (x1 : Int32).toNatClampNeg ((q1.1 : Int32).toNatClampNeg - (x1 : Int32).toNatClampNeg)) = n0 + (0 + 1 + 1) := by have h9 : ndC (cpC (nwC q1.2 1 0) (x1 : Int32).toNatClampNeg ((q1.1 : Int32).toNatClampNeg - (x1 : Int32).toNatClampNeg)) = ndC (nwC q1.2 1 0) + 1 := rfl; have hn9 : ndC (nwC q1.2 1 0) = n0 + (0 + 1) := hn; have h8 : ndC (nwC q1.2 1 0) = ndC (nwC q1.2 1 0) := rfl; omega
        refine r_callS C hA hz hn [.ref (ad 35), .int x1, .int q1.1] [.ref (ad (49 + ndC q1.2)), .ref (ad (49 + ndC q1.2))] (c_copyC hA x1 q1.1 g2 (nwC q1.2 1 0)) hn2 hY_copyOfRange ml_7_77 ⟨(by show 3 + 1 ≤ 4; omega), (by show 8 + (3 + 11) + 70 ≤ 92; omega)⟩ ⟨(by show 0 + 1 + 1 ≤ 2; omega), (by show 0 + 1 + 50 ≤ 51; omega)⟩ rfl rfl (Nat.le_of_ble_eq_true rfl) dX7_keptForm_43 ?_
        replace hn := hn2
        obtain ⟨q2, hq2, h⟩ := bd_of h
        obtain ⟨g3, h⟩ := gd_of h
        have hn2 : ndC q2.2 = n0 + (0 + 1 + 1 + 0) := by have h9 := eq_of_beq g3; have hn9 : ndC (cpC (nwC q1.2 1 0) (x1 : Int32).toNatClampNeg ((q1.1 : Int32).toNatClampNeg - (x1 : Int32).toNatClampNeg)) = n0 + (0 + 1 + 1) := hn; omega
        refine r_init C hA hz hn [va_rf (Option.map ad (some (49 + ndC (nwC q1.2 1 0))))] [.ref (ad (49 + ndC q1.2))] (c_Form_init hA _ _ _ hq2) hn2 hYI_1 ml_7_74 ⟨(by show 1 + 1 ≤ 4; omega), (by show 8 + (2 + 11) + 20 ≤ 92; omega)⟩ ⟨(by show 0 + 1 + 1 + 0 ≤ 2; omega), (by show 0 + 1 + 50 + 0 ≤ 51; omega)⟩ rfl rfl (Nat.le_of_ble_eq_true rfl) dX7_keptForm_46 ?_
        replace hn := hn2
        obtain rfl := Option.some.inj h
        exact r_aret C rfl (Or.inl ⟨_, rfl⟩) (some (49 + ndC q1.2)) hA hz hn (by show 0 + 1 + 1 + 0 ≤ 2; omega) (by show 0 + 1 + 50 + 0 ≤ 51; omega) dX7_keptForm_49
      · rw [if_neg c3] at h
        refine v_kc (kc' := 0) (ks' := 0) (by omega) (by omega) ?_
        exact v_sub [1] rfl ((b_Signs_keptForm_22 C hA hz) _ (show ndC q1.2 = n0 + 0 from by have hn9 : ndC q1.2 = n0 + (0) := hn; omega) h)
set_option maxHeartbeats 4000000 in
set_option maxRecDepth 20000 in
theorem c_Reader_entryRead {l : Launch} {D : va_G} {cy : Nat → ClassId} {ad : Nat → Nat} {q : Option Nat × CS} (hA : adOK ad) (σ : CS) (h : f_Reader_entryRead σ = some q) : MVA l D cy ad yX4_entryRead cX4_entryRead 1 (some (.object "JudgedTerms$Entry")) 5 114 5 104 [.ref (ad 43)] σ (some (va_rf (Option.map ad q.1))) q.2 := by
  refine MVA.of (by decide) (wc_D hA cy σ) (Nat.le_of_ble_eq_true rfl) [(0, .ref (ad 43))] rfl ?_
  intro p e s m args below meth c C hz hnm
  obtain ⟨n0, hn⟩ : ∃ n0, ndC σ = n0 + 0 := ⟨_, rfl⟩
  replace hz : s.heap.size = ad (49 + n0) := by rw [hz, hn, Nat.add_zero]
  rw [f_Reader_entryRead] at h
  refine r_new C hA hz hn (ci := 0) rfl (by decide) rfl ixX0 tyX0_ok df_0 cl_4_86 in_0 ini_0 (by show 0 + 1 ≤ 5; omega) (by show 0 + 2 ≤ 104; omega) dX4_entryRead_0 ?_
  have hn : ndC (nwC σ 0 0) = n0 + (0 + 1) := by have h9 : ndC (nwC σ 0 0) = ndC σ + 1 := rfl; have hn9 : ndC σ = n0 + (0) := hn; have h8 : ndC σ = ndC σ := rfl; omega
  refine v_dup C dX4_entryRead_3 rfl ?_
  refine v_aload_n C 0 dX4_entryRead_4 rfl rfl ?_
  refine c_getS C 34 fl_4_25 rfl rfl (by decide) (okS _ 43 (by decide) rfl) dX4_entryRead_5 ?_
  refine v_aload_n C 0 dX4_entryRead_8 rfl rfl ?_
  refine c_getI C fl_4_63 rfl (okS _ 43 (by decide) rfl) dX4_entryRead_9 ?_
  obtain ⟨q1, hq1, h⟩ := bd_of h
  obtain ⟨g1, h⟩ := gd_of h
  have hn2 : ndC q1.2 = n0 + (0 + 1 + 2) := by have h9 := eq_of_beq g1; have hn9 : ndC (nwC σ 0 0) = n0 + (0 + 1) := hn; omega
  refine r_call C hA hz hn [.int ((nwC σ 0 0).1 43 12)] [.ref (ad (49 + ndC σ)), .ref (ad (49 + ndC σ))] (c_Signs_keptForm hA _ _ hq1) hn2 hY_Signs_keptForm (ci := 7) rfl (by decide) (okS _ 34 (by decide) rfl) ml_4_88 ⟨(by show 4 + 1 ≤ 5; omega), (by show 8 + (3 + 11) + 92 ≤ 114; omega)⟩ ⟨(by show 0 + 1 + 2 ≤ 5; omega), (by show 0 + 2 + 51 ≤ 104; omega)⟩ rfl rfl (Nat.le_of_ble_eq_true rfl) dX4_entryRead_12 ?_
  replace hn := hn2
  refine v_aload_n C 0 dX4_entryRead_15 rfl rfl ?_
  refine c_getS C 34 fl_4_25 rfl rfl (by decide) (okS _ 43 (by decide) rfl) dX4_entryRead_16 ?_
  refine v_aload_n C 0 dX4_entryRead_19 rfl rfl ?_
  refine c_getI C fl_4_73 rfl (okS _ 43 (by decide) rfl) dX4_entryRead_20 ?_
  obtain ⟨q2, hq2, h⟩ := bd_of h
  obtain ⟨g2, h⟩ := gd_of h
  have hn2 : ndC q2.2 = n0 + (0 + 1 + 2 + 2) := by have h9 := eq_of_beq g2; have hn9 : ndC q1.2 = n0 + (0 + 1 + 2) := hn; omega
  refine r_call C hA hz hn [.int (q1.2.1 43 13)] [va_rf (Option.map ad q1.1), .ref (ad (49 + ndC σ)), .ref (ad (49 + ndC σ))] (c_Signs_keptForm hA _ _ hq2) hn2 hY_Signs_keptForm (ci := 7) rfl (by decide) (okS _ 34 (by decide) rfl) ml_4_88 ⟨(by show 4 + 1 ≤ 5; omega), (by show 8 + (3 + 11) + 92 ≤ 114; omega)⟩ ⟨(by show 0 + 1 + 2 + 2 ≤ 5; omega), (by show 0 + 2 + 51 + 51 ≤ 104; omega)⟩ rfl rfl (by simp only [List.map, cat_rf]; exact Nat.le_of_ble_eq_true rfl) dX4_entryRead_23 ?_
  replace hn := hn2
  obtain ⟨q3, hq3, h⟩ := bd_of h
  obtain ⟨g3, h⟩ := gd_of h
  have hn2 : ndC q3.2 = n0 + (0 + 1 + 2 + 2 + 0) := by have h9 := eq_of_beq g3; have hn9 : ndC q2.2 = n0 + (0 + 1 + 2 + 2) := hn; omega
  refine r_init C hA hz hn [va_rf (Option.map ad q1.1), va_rf (Option.map ad q2.1)] [.ref (ad (49 + ndC σ))] (c_Entry_init hA _ _ _ _ hq3) hn2 hYI_0 ml_4_92 ⟨(by show 1 + 1 ≤ 5; omega), (by show 8 + (3 + 11) + 20 ≤ 114; omega)⟩ ⟨(by show 0 + 1 + 2 + 2 + 0 ≤ 5; omega), (by show 0 + 2 + 51 + 51 + 0 ≤ 104; omega)⟩ rfl rfl (Nat.le_of_ble_eq_true rfl) dX4_entryRead_26 ?_
  replace hn := hn2
  obtain rfl := Option.some.inj h
  exact r_aret C rfl (Or.inl ⟨_, rfl⟩) (some (49 + ndC σ)) hA hz hn (by show 0 + 1 + 2 + 2 + 0 ≤ 5; omega) (by show 0 + 2 + 51 + 51 + 0 ≤ 104; omega) dX4_entryRead_29
set_option maxHeartbeats 4000000 in
set_option maxRecDepth 20000 in
theorem b_Signs_declared_48 {p : Program} {l : Launch} {e : Env} {s : State} {m : MethodId} {args : Array Value} {below : List Frame} {meth : Method} {c : Code} {D : va_G} {cy : Nat → ClassId} {ad : Nat → Nat} {q : Option Nat × CS}  {n0 : Nat} (C : vC p s m args meth c cX7_declared 3 (some (.object "JudgedTerms$Laws")) RX7 D (cyT cy)) (hA : adOK ad) (hz : s.heap.size = ad (49 + n0)) {k10 : (Option Nat) → Int32 → CS → Option ((Option Nat) × CS)} (hk10 : ∀ (kc : Nat) (x1 : Option Nat) (x2 : Int32) (σ : CS), ndC σ = n0 + kc → k10 x1 x2 σ = some q → V p l e { frames := 5, cells := 17, slots := 1020, locals := 114 } s m args below meth c D (inC ad) 3 (MQ below (vQA D cy ad (some (va_rf (Option.map ad q.1))) q.2) args s 17 1020 (inC ad)) kc (60 * (kc)) (wc cy ad σ) 10 [(0, .ref (ad 34)), (1, va_rf (Option.map ad x1)), (2, .int x2)] []) : ∀ (kc : Nat) (x1 : Option Nat) (x2 : Int32) (s0 : Option Nat) (s1 : Option Nat) (σ : CS), ndC σ = n0 + kc → B_Signs_declared_48 n0 k10 x1 x2 s0 s1 σ = some q → V p l e { frames := 5, cells := 17, slots := 1020, locals := 114 } s m args below meth c D (inC ad) 3 (MQ below (vQA D cy ad (some (va_rf (Option.map ad q.1))) q.2) args s 17 1020 (inC ad)) kc (60 * (kc)) (wc cy ad σ) 48 [(0, .ref (ad 34)), (1, va_rf (Option.map ad x1)), (2, .int x2)] [va_rf (Option.map ad s0), va_rf (Option.map ad s1)] := by
  intro kc x1 x2 s0 s1 σ hn h
  rw [B_Signs_declared_48] at h
  obtain ⟨a1, ha1, h⟩ := bd_of h
  rw [ha1]
  obtain ⟨g1, h⟩ := gd_of h
  obtain ⟨g2, h⟩ := gd_of h
  have hn : ndC σ = n0 + (kc) := hn
  have hb7 := of_decide_eq_true g2
  obtain ⟨q1, hq1, h⟩ := bd_of h
  refine c_call C [va_rf (Option.map ad s0)] [] (c_Laws_addFamily hA _ _ _ hq1) hY_Laws_addFamily rfl (by decide) g1 ml_7_57 ⟨(by omega : 0 + 1 ≤ 5), (by omega : 8 + (2 + 11) + 0 ≤ 114)⟩ ⟨(by omega : kc ≤ 17), (by omega : 60 * (kc) ≤ 1020)⟩ rfl rfl (Nat.le_of_ble_eq_true rfl) dX7_declared_48 (wc_D hA cy _) ?_
  obtain ⟨g3, h⟩ := gd_of h
  have hn : ndC q1.2 = n0 + (kc) := (eq_of_beq g3).trans hn
  refine v_iinc C (x2 + 1) 2 [(2, .int (x2 + 1)), (0, .ref (ad 34)), (1, va_rf (Option.map ad x1))] dX7_declared_51 rfl rfl (by decide) (by simp [List.filter, cat_rf]) ?_
  refine v_goto C 10 dX7_declared_54 (by decide) ?_
  refine v_kc (kc' := kc) (ks' := 60 * (kc)) (by omega) (by omega) ?_
  exact v_sub [1, 2, 0] rfl (hk10 (kc) _ _ _ hn h)
set_option maxHeartbeats 4000000 in
set_option maxRecDepth 20000 in
theorem b_Signs_declared_92 {p : Program} {l : Launch} {e : Env} {s : State} {m : MethodId} {args : Array Value} {below : List Frame} {meth : Method} {c : Code} {D : va_G} {cy : Nat → ClassId} {ad : Nat → Nat} {q : Option Nat × CS}  {n0 : Nat} (C : vC p s m args meth c cX7_declared 3 (some (.object "JudgedTerms$Laws")) RX7 D (cyT cy)) (hA : adOK ad) (hz : s.heap.size = ad (49 + n0)) : ∀ (kc : Nat) (x1 : Option Nat) (σ : CS), ndC σ = n0 + kc → B_Signs_declared_92 n0 x1 σ = some q → V p l e { frames := 5, cells := 17, slots := 1020, locals := 114 } s m args below meth c D (inC ad) 3 (MQ below (vQA D cy ad (some (va_rf (Option.map ad q.1))) q.2) args s 17 1020 (inC ad)) kc (60 * (kc)) (wc cy ad σ) 92 [(0, .ref (ad 34)), (1, va_rf (Option.map ad x1))] [] := by
  intro kc x1 σ hn h
  rw [B_Signs_declared_92] at h
  refine c_aload_n C x1 1 dX7_declared_92 rfl rfl ?_
  obtain ⟨g1, h⟩ := gd_of h
  have hn : ndC σ = n0 + (kc) := hn
  have hb8 := of_decide_eq_true g1
  obtain rfl := Option.some.inj h
  exact r_aret C rfl (Or.inl ⟨_, rfl⟩) x1 hA hz hn (by show kc ≤ 17; omega) (by show 60 * (kc) ≤ 1020; omega) dX7_declared_93
set_option maxHeartbeats 4000000 in
set_option maxRecDepth 20000 in
theorem l_Signs_declared_59 {p : Program} {l : Launch} {e : Env} {s : State} {m : MethodId} {args : Array Value} {below : List Frame} {meth : Method} {c : Code} {D : va_G} {cy : Nat → ClassId} {ad : Nat → Nat} {q : Option Nat × CS}  {n0 : Nat} (C : vC p s m args meth c cX7_declared 3 (some (.object "JudgedTerms$Laws")) RX7 D (cyT cy)) (hA : adOK ad) (hz : s.heap.size = ad (49 + n0)) : ∀ (n : Nat) (kc : Nat) (x1 : Option Nat) (x2 : Int32) (σ : CS), ndC σ = n0 + kc → L_Signs_declared_59 n0 n x1 x2 σ = some q → V p l e { frames := 5, cells := 17, slots := 1020, locals := 114 } s m args below meth c D (inC ad) 3 (MQ below (vQA D cy ad (some (va_rf (Option.map ad q.1))) q.2) args s 17 1020 (inC ad)) kc (60 * (kc)) (wc cy ad σ) 59 [(0, .ref (ad 34)), (1, va_rf (Option.map ad x1)), (2, .int x2)] [] := by
  intro n
  induction n with
  | zero =>
    intro kc x1 x2 σ hn h
    rw [L_Signs_declared_59.eq_1] at h
    cases h
  | succ n ih =>
    intro kc x1 x2 σ hn h
    rw [L_Signs_declared_59.eq_2] at h
    refine v_iload_n C 2 dX7_declared_59 rfl rfl ?_
    refine v_aload_n C 0 dX7_declared_60 rfl rfl ?_
    refine c_getI C fl_7_28 rfl (okS _ 34 (by decide) rfl) dX7_declared_61 ?_
    refine v_icmp_ge C 92 dX7_declared_64 (by decide) (fun c1 => ?_) (fun c1 => ?_)
    · rw [if_pos c1] at h
      refine v_kc (kc' := kc) (ks' := 60 * (kc)) (by omega) (by omega) ?_
      exact v_sub [0, 1] rfl ((b_Signs_declared_92 C hA hz) (kc) _ _ hn h)
    · rw [if_neg c1] at h
      refine v_iload_n C 2 dX7_declared_67 rfl rfl ?_
      refine v_iconst C 4 dX7_declared_68 (by decide) ?_
      refine v_icmp_ge C 92 dX7_declared_69 (by decide) (fun c2 => ?_) (fun c2 => ?_)
      · rw [if_pos c2] at h
        refine v_kc (kc' := kc) (ks' := 60 * (kc)) (by omega) (by omega) ?_
        exact v_sub [0, 1] rfl ((b_Signs_declared_92 C hA hz) (kc) _ _ hn h)
      · rw [if_neg c2] at h
        refine c_aload_n C x1 1 dX7_declared_72 rfl rfl ?_
        refine v_aload_n C 0 dX7_declared_73 rfl rfl ?_
        refine v_aload_n C 0 dX7_declared_74 rfl rfl ?_
        refine c_getS C 37 fl_7_18 rfl rfl (by decide) (okS _ 34 (by decide) rfl) dX7_declared_75 ?_
        refine v_iload_n C 2 dX7_declared_78 rfl rfl ?_
        obtain ⟨g1, h⟩ := gd_of h
        refine c_iald C (okS _ 37 (by decide) rfl) (ix_in g1) dX7_declared_79 ?_
        obtain ⟨q1, hq1, h⟩ := bd_of h
        obtain ⟨g2, h⟩ := gd_of h
        have hn2 : ndC q1.2 = n0 + (kc + 2) := by have h9 := eq_of_beq g2; have hn9 : ndC σ = n0 + (kc) := hn; omega
        obtain ⟨g3, h⟩ := gd_of h
        have hb9 := of_decide_eq_true g3
        refine r_call C hA hz hn [.int (σ.1 37 (x2 : Int32).toNatClampNeg)] [va_rf (Option.map ad x1)] (c_Signs_keptForm hA _ _ hq1) hn2 hY_Signs_keptForm (ci := 7) rfl (by decide) (okS _ 34 (by decide) rfl) ml_7_54 ⟨(by show 4 + 1 ≤ 5; omega), (by show 8 + (3 + 11) + 92 ≤ 114; omega)⟩ ⟨(by show kc + 2 ≤ 17; omega), (by show 60 * (kc) + 51 ≤ 1020; omega)⟩ rfl rfl (by simp only [List.map, cat_rf]; exact Nat.le_of_ble_eq_true rfl) dX7_declared_80 ?_
        replace hn := hn2
        obtain ⟨a1, ha1, h⟩ := bd_of h
        rw [ha1]
        obtain ⟨g4, h⟩ := gd_of h
        obtain ⟨g5, h⟩ := gd_of h
        have hn : ndC q1.2 = n0 + (kc + 2) := hn
        have hb7 := of_decide_eq_true g5
        obtain ⟨q2, hq2, h⟩ := bd_of h
        refine c_call C [va_rf (Option.map ad q1.1)] [] (c_Laws_addConstant hA _ _ _ hq2) hY_Laws_addConstant rfl (by decide) g4 ml_7_60 ⟨(by omega : 0 + 1 ≤ 5), (by omega : 8 + (2 + 11) + 0 ≤ 114)⟩ ⟨(by omega : kc + 2 ≤ 17), (by omega : 60 * (kc) + 51 ≤ 1020)⟩ rfl rfl (Nat.le_of_ble_eq_true rfl) dX7_declared_83 (wc_D hA cy _) ?_
        obtain ⟨g6, h⟩ := gd_of h
        have hn : ndC q2.2 = n0 + (kc + 2) := (eq_of_beq g6).trans hn
        refine v_iinc C (x2 + 1) 2 [(2, .int (x2 + 1)), (0, .ref (ad 34)), (1, .ref (ad a1))] dX7_declared_86 rfl rfl (by decide) rfl ?_
        refine v_goto C 59 dX7_declared_89 (by decide) ?_
        refine v_kc (kc' := kc + 2) (ks' := 60 * (kc + 2)) (by omega) (by omega) ?_
        exact v_sub [1, 2, 0] rfl (ih (kc + 2) _ _ _ hn h)
set_option maxHeartbeats 4000000 in
set_option maxRecDepth 20000 in
theorem b_Signs_declared_57 {p : Program} {l : Launch} {e : Env} {s : State} {m : MethodId} {args : Array Value} {below : List Frame} {meth : Method} {c : Code} {D : va_G} {cy : Nat → ClassId} {ad : Nat → Nat} {q : Option Nat × CS}  {n0 : Nat} (C : vC p s m args meth c cX7_declared 3 (some (.object "JudgedTerms$Laws")) RX7 D (cyT cy)) (hA : adOK ad) (hz : s.heap.size = ad (49 + n0)) : ∀ (kc : Nat) (x1 : Option Nat) (σ : CS), ndC σ = n0 + kc → B_Signs_declared_57 n0 x1 σ = some q → V p l e { frames := 5, cells := 17, slots := 1020, locals := 114 } s m args below meth c D (inC ad) 3 (MQ below (vQA D cy ad (some (va_rf (Option.map ad q.1))) q.2) args s 17 1020 (inC ad)) kc (60 * (kc)) (wc cy ad σ) 57 [(0, .ref (ad 34)), (1, va_rf (Option.map ad x1))] [] := by
  intro kc x1 σ hn h
  rw [B_Signs_declared_57] at h
  refine v_iconst C 0 dX7_declared_57 (by decide) ?_
  refine v_istore_n C [(2, .int 0), (0, .ref (ad 34)), (1, va_rf (Option.map ad x1))] dX7_declared_58 rfl (by decide) (by simp [List.filter, cat_rf]) ?_
  refine v_kc (kc' := kc) (ks' := 60 * (kc)) (by omega) (by omega) ?_
  exact v_sub [1, 2, 0] rfl ((l_Signs_declared_59 C hA hz 10000) (kc) _ _ _ hn h)
set_option maxHeartbeats 4000000 in
set_option maxRecDepth 20000 in
theorem l_Signs_declared_10 {p : Program} {l : Launch} {e : Env} {s : State} {m : MethodId} {args : Array Value} {below : List Frame} {meth : Method} {c : Code} {D : va_G} {cy : Nat → ClassId} {ad : Nat → Nat} {q : Option Nat × CS}  {n0 : Nat} (C : vC p s m args meth c cX7_declared 3 (some (.object "JudgedTerms$Laws")) RX7 D (cyT cy)) (hA : adOK ad) (hz : s.heap.size = ad (49 + n0)) : ∀ (n : Nat) (kc : Nat) (x1 : Option Nat) (x2 : Int32) (σ : CS), ndC σ = n0 + kc → L_Signs_declared_10 n0 n x1 x2 σ = some q → V p l e { frames := 5, cells := 17, slots := 1020, locals := 114 } s m args below meth c D (inC ad) 3 (MQ below (vQA D cy ad (some (va_rf (Option.map ad q.1))) q.2) args s 17 1020 (inC ad)) kc (60 * (kc)) (wc cy ad σ) 10 [(0, .ref (ad 34)), (1, va_rf (Option.map ad x1)), (2, .int x2)] [] := by
  intro n
  induction n with
  | zero =>
    intro kc x1 x2 σ hn h
    rw [L_Signs_declared_10.eq_1] at h
    cases h
  | succ n ih =>
    intro kc x1 x2 σ hn h
    rw [L_Signs_declared_10.eq_2] at h
    refine v_iload_n C 2 dX7_declared_10 rfl rfl ?_
    refine v_aload_n C 0 dX7_declared_11 rfl rfl ?_
    refine c_getI C fl_7_25 rfl (okS _ 34 (by decide) rfl) dX7_declared_12 ?_
    refine v_icmp_ge C 57 dX7_declared_15 (by decide) (fun c1 => ?_) (fun c1 => ?_)
    · rw [if_pos c1] at h
      refine v_kc (kc' := kc) (ks' := 60 * (kc)) (by omega) (by omega) ?_
      exact v_sub [0, 1] rfl ((b_Signs_declared_57 C hA hz) (kc) _ _ hn h)
    · rw [if_neg c1] at h
      refine v_iload_n C 2 dX7_declared_18 rfl rfl ?_
      refine v_iconst C 3 dX7_declared_19 (by decide) ?_
      refine v_icmp_ge C 57 dX7_declared_20 (by decide) (fun c2 => ?_) (fun c2 => ?_)
      · rw [if_pos c2] at h
        refine v_kc (kc' := kc) (ks' := 60 * (kc)) (by omega) (by omega) ?_
        exact v_sub [0, 1] rfl ((b_Signs_declared_57 C hA hz) (kc) _ _ hn h)
      · rw [if_neg c2] at h
        refine c_aload_n C x1 1 dX7_declared_23 rfl rfl ?_
        refine v_aload_n C 0 dX7_declared_24 rfl rfl ?_
        refine c_getS C 36 fl_7_15 rfl rfl (by decide) (okS _ 34 (by decide) rfl) dX7_declared_25 ?_
        refine v_iload_n C 2 dX7_declared_28 rfl rfl ?_
        obtain ⟨g1, h⟩ := gd_of h
        refine c_iald C (okS _ 36 (by decide) rfl) (ix_in g1) dX7_declared_29 ?_
        refine v_iconst C (-1) dX7_declared_30 (by decide) ?_
        refine v_icmp_ne C 38 dX7_declared_31 (by decide) (fun c3 => ?_) (fun c3 => ?_)
        · rw [if_neg c3] at h
          refine v_aload_n C 0 dX7_declared_38 rfl rfl ?_
          refine v_aload_n C 0 dX7_declared_39 rfl rfl ?_
          refine c_getS C 36 fl_7_15 rfl rfl (by decide) (okS _ 34 (by decide) rfl) dX7_declared_40 ?_
          refine v_iload_n C 2 dX7_declared_43 rfl rfl ?_
          obtain ⟨g2, h⟩ := gd_of h
          refine c_iald C (okS _ 36 (by decide) rfl) (ix_in g2) dX7_declared_44 ?_
          obtain ⟨q1, hq1, h⟩ := bd_of h
          obtain ⟨g3, h⟩ := gd_of h
          have hn2 : ndC q1.2 = n0 + (kc + 2) := by have h9 := eq_of_beq g3; have hn9 : ndC σ = n0 + (kc) := hn; omega
          obtain ⟨g4, h⟩ := gd_of h
          have hb9 := of_decide_eq_true g4
          refine r_call C hA hz hn [.int (σ.1 36 (x2 : Int32).toNatClampNeg)] [va_rf (Option.map ad x1)] (c_Signs_keptForm hA _ _ hq1) hn2 hY_Signs_keptForm (ci := 7) rfl (by decide) (okS _ 34 (by decide) rfl) ml_7_54 ⟨(by show 4 + 1 ≤ 5; omega), (by show 8 + (3 + 11) + 92 ≤ 114; omega)⟩ ⟨(by show kc + 2 ≤ 17; omega), (by show 60 * (kc) + 51 ≤ 1020; omega)⟩ rfl rfl (by simp only [List.map, cat_rf]; exact Nat.le_of_ble_eq_true rfl) dX7_declared_45 ?_
          replace hn := hn2
          refine v_kc (kc' := kc + 2) (ks' := 60 * (kc + 2)) (by omega) (by omega) ?_
          exact v_sub [0, 1, 2] rfl ((b_Signs_declared_48 C hA hz ih) (kc + 2) _ _ _ _ _ hn h)
        · rw [if_pos c3] at h
          refine c_null C dX7_declared_34 ?_
          refine v_goto C 48 dX7_declared_35 (by decide) ?_
          refine v_kc (kc' := kc) (ks' := 60 * (kc)) (by omega) (by omega) ?_
          exact v_sub [0, 1, 2] rfl ((b_Signs_declared_48 C hA hz ih) (kc) _ _ _ _ _ hn h)
set_option maxHeartbeats 4000000 in
set_option maxRecDepth 20000 in
theorem c_Signs_declared {l : Launch} {D : va_G} {cy : Nat → ClassId} {ad : Nat → Nat} {q : Option Nat × CS} (hA : adOK ad) (σ : CS) (h : f_Signs_declared σ = some q) : MVA l D cy ad yX7_declared cX7_declared 3 (some (.object "JudgedTerms$Laws")) 5 114 17 1020 [.ref (ad 34)] σ (some (va_rf (Option.map ad q.1))) q.2 := by
  refine MVA.of (by decide) (wc_D hA cy σ) (Nat.le_of_ble_eq_true rfl) [(0, .ref (ad 34))] rfl ?_
  intro p e s m args below meth c C hz hnm
  obtain ⟨n0, hn⟩ : ∃ n0, ndC σ = n0 + 0 := ⟨_, rfl⟩
  replace hz : s.heap.size = ad (49 + n0) := by rw [hz, hn, Nat.add_zero]
  rw [f_Signs_declared] at h
  rw [show ndC σ = n0 from hn, g_Signs_declared] at h
  refine r_new C hA hz hn (ci := 3) rfl (by decide) rfl ixX3 tyX3_ok df_3 cl_7_32 in_3 ini_3 (by show 0 + 1 ≤ 17; omega) (by show 0 + 4 ≤ 1020; omega) dX7_declared_0 ?_
  have hn : ndC (nwC σ 3 0) = n0 + (0 + 1) := by have h9 : ndC (nwC σ 3 0) = ndC σ + 1 := rfl; have hn9 : ndC σ = n0 + (0) := hn; have h8 : ndC σ = ndC σ := rfl; omega
  refine v_dup C dX7_declared_3 rfl ?_
  obtain ⟨q1, hq1, h⟩ := bd_of h
  obtain ⟨g1, h⟩ := gd_of h
  have hn2 : ndC q1.2 = n0 + (0 + 1 + 2) := by have h9 := eq_of_beq g1; have hn9 : ndC (nwC σ 3 0) = n0 + (0 + 1) := hn; omega
  refine r_initN C hA hz hn [] [.ref (ad (49 + ndC σ))] (c_Laws_init hA _ _ hq1) hn2 hYI_3 ml_7_53 ⟨(by show 1 + 1 ≤ 5; omega), (by show 8 + (1 + 11) + 20 ≤ 114; omega)⟩ ⟨(by show 0 + 1 + 2 ≤ 17; omega), (by show 0 + 4 + 7 ≤ 1020; omega)⟩ rfl rfl (Nat.le_of_ble_eq_true rfl) dX7_declared_4 ?_
  replace hn := hn2
  refine v_astore_n C [(1, .ref (ad (49 + ndC σ))), (0, .ref (ad 34))] dX7_declared_7 rfl (by decide) rfl ?_
  refine v_iconst C 0 dX7_declared_8 (by decide) ?_
  refine v_istore_n C [(2, .int 0), (1, .ref (ad (49 + ndC σ))), (0, .ref (ad 34))] dX7_declared_9 rfl (by decide) rfl ?_
  refine v_kc (kc' := 0 + 1 + 2) (ks' := 60 * (0 + 1 + 2)) (by omega) (by omega) ?_
  exact v_sub [2, 1, 0] rfl ((l_Signs_declared_10 C hA hz 10000) (0 + 1 + 2) _ _ _ hn h)
set_option maxHeartbeats 4000000 in
set_option maxRecDepth 20000 in
theorem c_J_enters {l : Launch} {D : va_G} {cy : Nat → ClassId} {ad : Nat → Nat} {q : Int32 × CS} (hA : adOK ad) (σ : CS) (h : f_J_enters σ = some q) : MVA l D cy ad yX10_enters cX10_enters 1 (some .int) 486 19346 5 104 [.ref (ad 0)] σ (some (.int q.1)) q.2 := by
  refine MVA.of (by decide) (wc_D hA cy σ) (Nat.le_of_ble_eq_true rfl) [(0, .ref (ad 0))] rfl ?_
  intro p e s m args below meth c C hz hnm
  obtain ⟨n0, hn⟩ : ∃ n0, ndC σ = n0 + 0 := ⟨_, rfl⟩
  replace hz : s.heap.size = ad (49 + n0) := by rw [hz, hn, Nat.add_zero]
  rw [f_J_enters] at h
  refine v_aload_n C 0 dX10_enters_0 rfl rfl ?_
  refine c_getS C 5 fl_10_23 rfl rfl (by decide) (okS _ 0 (by decide) rfl) dX10_enters_1 ?_
  refine c_getIN C fl_10_147 rfl (okS _ 5 (by decide) rfl) dX10_enters_4 ?_
  refine v_bipush C 6 dX10_enters_7 (by decide) ?_
  refine v_icmp_lt C 15 dX10_enters_9 (by decide) (fun c1 => ?_) (fun c1 => ?_)
  · rw [if_pos c1] at h
    refine v_aload_n C 0 dX10_enters_15 rfl rfl ?_
    refine c_getS C 43 fl_10_67 rfl rfl (by decide) (okS _ 0 (by decide) rfl) dX10_enters_16 ?_
    refine v_aload_n C 0 dX10_enters_19 rfl rfl ?_
    refine c_getS C 1 fl_10_9 rfl rfl (by decide) (okS _ 0 (by decide) rfl) dX10_enters_20 ?_
    refine v_aload_n C 0 dX10_enters_23 rfl rfl ?_
    refine c_getI C fl_10_71 rfl (okS _ 0 (by decide) rfl) dX10_enters_24 ?_
    refine v_aload_n C 0 dX10_enters_27 rfl rfl ?_
    refine c_getR C fl_10_16 rfl (okS _ 0 (by decide) rfl) dX10_enters_28 ?_
    refine v_aload_n C 0 dX10_enters_31 rfl rfl ?_
    refine c_getS C 5 fl_10_23 rfl rfl (by decide) (okS _ 0 (by decide) rfl) dX10_enters_32 ?_
    obtain ⟨q1, hq1, h⟩ := bd_of h
    refine c_call C [.ref (ad 1), .int (σ.1 0 1), va_rf (Option.map ad (rfv σ 0 2)), .ref (ad 5)] [] (c_Reader_begin hA _ _ _ _ _ hq1) hY_Reader_begin rfl (by decide) (okS _ 43 (by decide) rfl) ml_10_75 ⟨(by omega : 3 + 1 ≤ 486), (by omega : 8 + (5 + 11) + 66 ≤ 19346)⟩ ⟨(by omega : 0 ≤ 5), (by omega : 0 ≤ 104)⟩ rfl rfl (Nat.le_of_ble_eq_true rfl) dX10_enters_35 (wc_D hA cy _) ?_
    obtain ⟨g1, h⟩ := gd_of h
    have hn : ndC q1.2 = n0 + (0) := (eq_of_beq g1).trans hn
    refine v_aload_n C 0 dX10_enters_38 rfl rfl ?_
    refine c_getS C 43 fl_10_67 rfl rfl (by decide) (okS _ 0 (by decide) rfl) dX10_enters_39 ?_
    obtain ⟨q2, hq2, h⟩ := bd_of h
    refine c_call C [] [] (c_Reader_readGiven hA _ hq2) hY_Reader_readGiven rfl (by decide) (okS _ 43 (by decide) rfl) ml_10_121 ⟨(by omega : 485 + 1 ≤ 486), (by omega : 8 + (1 + 11) + 19326 ≤ 19346)⟩ ⟨(by omega : 0 ≤ 5), (by omega : 0 ≤ 104)⟩ rfl rfl (Nat.le_of_ble_eq_true rfl) dX10_enters_42 (wc_D hA cy _) ?_
    obtain ⟨g2, h⟩ := gd_of h
    have hn : ndC q2.2 = n0 + (0) := (eq_of_beq g2).trans hn
    refine v_if_ne C 59 dX10_enters_45 (by decide) (fun c2 => ?_) (fun c2 => ?_)
    · rw [if_neg c2] at h
      refine v_aload_n C 0 dX10_enters_59 rfl rfl ?_
      refine c_getS C 7 fl_10_30 rfl rfl (by decide) (okS _ 0 (by decide) rfl) dX10_enters_60 ?_
      refine v_aload_n C 0 dX10_enters_63 rfl rfl ?_
      refine c_getS C 5 fl_10_23 rfl rfl (by decide) (okS _ 0 (by decide) rfl) dX10_enters_64 ?_
      obtain ⟨q3, hq3, h⟩ := bd_of h
      refine c_call C [.ref (ad 5)] [] (c_History_note hA _ _ hq3) hY_History_note rfl (by decide) (okS _ 7 (by decide) rfl) ml_10_150 ⟨(by omega : 1 + 1 ≤ 486), (by omega : 8 + (2 + 11) + 22 ≤ 19346)⟩ ⟨(by omega : 0 ≤ 5), (by omega : 0 ≤ 104)⟩ rfl rfl (Nat.le_of_ble_eq_true rfl) dX10_enters_67 (wc_D hA cy _) ?_
      obtain ⟨g3, h⟩ := gd_of h
      have hn : ndC q3.2 = n0 + (0) := (eq_of_beq g3).trans hn
      refine v_aload_n C 0 dX10_enters_70 rfl rfl ?_
      refine c_getS C 5 fl_10_23 rfl rfl (by decide) (okS _ 0 (by decide) rfl) dX10_enters_71 ?_
      refine v_aload_n C 0 dX10_enters_74 rfl rfl ?_
      refine c_getS C 43 fl_10_67 rfl rfl (by decide) (okS _ 0 (by decide) rfl) dX10_enters_75 ?_
      obtain ⟨q4, hq4, h⟩ := bd_of h
      obtain ⟨g4, h⟩ := gd_of h
      have hn2 : ndC q4.2 = n0 + (0 + 5) := by have h9 := eq_of_beq g4; have hn9 : ndC q3.2 = n0 + (0) := hn; omega
      refine r_call C hA hz hn [] [.ref (ad 5)] (c_Reader_entryRead hA _ hq4) hn2 hY_Reader_entryRead (ci := 4) rfl (by decide) (okS _ 43 (by decide) rfl) ml_10_154 ⟨(by show 5 + 1 ≤ 486; omega), (by show 8 + (1 + 11) + 114 ≤ 19346; omega)⟩ ⟨(by show 0 + 5 ≤ 5; omega), (by show 0 + 104 ≤ 104; omega)⟩ rfl rfl (Nat.le_of_ble_eq_true rfl) dX10_enters_78 ?_
      replace hn := hn2
      obtain ⟨q5, hq5, h⟩ := bd_of h
      refine c_call C [va_rf (Option.map ad q4.1)] [] (c_Shelf_add hA _ _ _ hq5) hY_Shelf_add rfl (by decide) (okS _ 5 (by decide) rfl) ml_10_158 ⟨(by omega : 0 + 1 ≤ 486), (by omega : 8 + (2 + 11) + 0 ≤ 19346)⟩ ⟨(by omega : 0 + 5 ≤ 5), (by omega : 0 + 104 ≤ 104)⟩ rfl rfl (Nat.le_of_ble_eq_true rfl) dX10_enters_81 (wc_D hA cy _) ?_
      obtain ⟨g5, h⟩ := gd_of h
      have hn : ndC q5.2 = n0 + (0 + 5) := (eq_of_beq g5).trans hn
      refine v_aload_n C 0 dX10_enters_84 rfl rfl ?_
      refine v_iconst C 0 dX10_enters_85 (by decide) ?_
      refine c_putI C fl_10_71 fw_10_1 rfl (by decide) (okS _ 0 (by decide) rfl) dX10_enters_86 ?_
      refine v_aload_n C 0 dX10_enters_89 rfl rfl ?_
      refine c_getS C 5 fl_10_23 rfl rfl (by decide) (okS _ 0 (by decide) rfl) dX10_enters_90 ?_
      refine c_getIN C fl_10_147 rfl (okS _ 5 (by decide) rfl) dX10_enters_93 ?_
      obtain rfl := Option.some.inj h
      exact r_iret C hA hz hn (by show 0 + 5 ≤ 5; omega) (by show 0 + 104 ≤ 104; omega) dX10_enters_96
    · rw [if_pos c2] at h
      refine v_bipush C (-10) dX10_enters_48 (by decide) ?_
      refine v_aload_n C 0 dX10_enters_50 rfl rfl ?_
      refine c_getS C 43 fl_10_67 rfl rfl (by decide) (okS _ 0 (by decide) rfl) dX10_enters_51 ?_
      refine c_getIN C fl_10_86 rfl (okS _ 43 (by decide) rfl) dX10_enters_54 ?_
      refine v_isub C dX10_enters_57 ?_
      obtain rfl := Option.some.inj h
      exact r_iret C hA hz hn (by show 0 ≤ 5; omega) (by show 0 ≤ 104; omega) dX10_enters_58
  · rw [if_neg c1] at h
    refine v_bipush C (-3) dX10_enters_12 (by decide) ?_
    obtain rfl := Option.some.inj h
    exact r_iret C hA hz hn (by show 0 ≤ 5; omega) (by show 0 ≤ 104; omega) dX10_enters_14
set_option maxHeartbeats 4000000 in
set_option maxRecDepth 20000 in
theorem b_J_sees_9 {p : Program} {l : Launch} {e : Env} {s : State} {m : MethodId} {args : Array Value} {below : List Frame} {meth : Method} {c : Code} {D : va_G} {cy : Nat → ClassId} {ad : Nat → Nat} {q : Int32 × CS}  {n0 : Nat} (C : vC p s m args meth c cX10_sees 2 (some .int) RX10 D (cyT cy)) (hA : adOK ad) (hz : s.heap.size = ad (49 + n0)) : ∀ (σ : CS), ndC σ = n0 + 0 → B_J_sees_9 n0 σ = some q → V p l e { frames := 486, cells := 5, slots := 104, locals := 19346 } s m args below meth c D (inC ad) 2 (MQ below (vQA D cy ad (some (.int q.1)) q.2) args s 5 104 (inC ad)) 0 (0) (wc cy ad σ) 9 [(0, .ref (ad 0))] [] := by
  intro σ hn h
  rw [B_J_sees_9] at h
  refine v_iconst C (-1) dX10_sees_9 (by decide) ?_
  obtain rfl := Option.some.inj h
  exact r_iret C hA hz hn (by show 0 ≤ 5; omega) (by show 0 ≤ 104; omega) dX10_sees_10
set_option maxHeartbeats 4000000 in
set_option maxRecDepth 20000 in
theorem c_J_sees {l : Launch} {D : va_G} {cy : Nat → ClassId} {ad : Nat → Nat} {q : Int32 × CS} (hA : adOK ad) (x1 : Int32) (σ : CS) (h : f_J_sees x1 σ = some q) : MVA l D cy ad yX10_sees cX10_sees 2 (some .int) 486 19346 5 104 [.ref (ad 0), .int x1] σ (some (.int q.1)) q.2 := by
  refine MVA.of (by decide) (wc_D hA cy σ) (Nat.le_of_ble_eq_true rfl) [(0, .ref (ad 0)), (1, .int x1)] rfl ?_
  intro p e s m args below meth c C hz hnm
  obtain ⟨n0, hn⟩ : ∃ n0, ndC σ = n0 + 0 := ⟨_, rfl⟩
  replace hz : s.heap.size = ad (49 + n0) := by rw [hz, hn, Nat.add_zero]
  rw [f_J_sees] at h
  rw [show ndC σ = n0 from hn, g_J_sees] at h
  refine v_iload_n C 1 dX10_sees_0 rfl rfl ?_
  refine v_if_lt C 9 dX10_sees_1 (by decide) (fun c1 => ?_) (fun c1 => ?_)
  · rw [if_pos c1] at h
    refine v_kc (kc' := 0) (ks' := 0) (by omega) (by omega) ?_
    exact v_sub [0] rfl ((b_J_sees_9 C hA hz) _ (show ndC σ = n0 + 0 from by have hn9 : ndC σ = n0 + (0) := hn; omega) h)
  · rw [if_neg c1] at h
    refine v_iload_n C 1 dX10_sees_4 rfl rfl ?_
    refine v_iconst C 2 dX10_sees_5 (by decide) ?_
    refine v_icmp_le C 11 dX10_sees_6 (by decide) (fun c2 => ?_) (fun c2 => ?_)
    · rw [if_pos c2] at h
      refine v_aload_n C 0 dX10_sees_11 rfl rfl ?_
      refine c_getS C 25 fl_10_37 rfl rfl (by decide) (okS _ 0 (by decide) rfl) dX10_sees_12 ?_
      refine c_getIN C fl_10_187 rfl (okS _ 25 (by decide) rfl) dX10_sees_15 ?_
      refine v_iconst C 4 dX10_sees_18 (by decide) ?_
      refine v_icmp_lt C 25 dX10_sees_19 (by decide) (fun c3 => ?_) (fun c3 => ?_)
      · rw [if_pos c3] at h
        refine v_aload_n C 0 dX10_sees_25 rfl rfl ?_
        refine c_getS C 43 fl_10_67 rfl rfl (by decide) (okS _ 0 (by decide) rfl) dX10_sees_26 ?_
        refine v_aload_n C 0 dX10_sees_29 rfl rfl ?_
        refine c_getS C 1 fl_10_9 rfl rfl (by decide) (okS _ 0 (by decide) rfl) dX10_sees_30 ?_
        refine v_aload_n C 0 dX10_sees_33 rfl rfl ?_
        refine c_getI C fl_10_71 rfl (okS _ 0 (by decide) rfl) dX10_sees_34 ?_
        refine v_aload_n C 0 dX10_sees_37 rfl rfl ?_
        refine c_getR C fl_10_16 rfl (okS _ 0 (by decide) rfl) dX10_sees_38 ?_
        refine v_aload_n C 0 dX10_sees_41 rfl rfl ?_
        refine c_getS C 5 fl_10_23 rfl rfl (by decide) (okS _ 0 (by decide) rfl) dX10_sees_42 ?_
        obtain ⟨q1, hq1, h⟩ := bd_of h
        refine c_call C [.ref (ad 1), .int (σ.1 0 1), va_rf (Option.map ad (rfv σ 0 2)), .ref (ad 5)] [] (c_Reader_begin hA _ _ _ _ _ hq1) hY_Reader_begin rfl (by decide) (okS _ 43 (by decide) rfl) ml_10_75 ⟨(by omega : 3 + 1 ≤ 486), (by omega : 8 + (5 + 11) + 66 ≤ 19346)⟩ ⟨(by omega : 0 ≤ 5), (by omega : 0 ≤ 104)⟩ rfl rfl (Nat.le_of_ble_eq_true rfl) dX10_sees_45 (wc_D hA cy _) ?_
        obtain ⟨g1, h⟩ := gd_of h
        have hn : ndC q1.2 = n0 + (0) := (eq_of_beq g1).trans hn
        refine v_aload_n C 0 dX10_sees_48 rfl rfl ?_
        refine c_getS C 43 fl_10_67 rfl rfl (by decide) (okS _ 0 (by decide) rfl) dX10_sees_49 ?_
        obtain ⟨q2, hq2, h⟩ := bd_of h
        refine c_call C [] [] (c_Reader_readGiven hA _ hq2) hY_Reader_readGiven rfl (by decide) (okS _ 43 (by decide) rfl) ml_10_121 ⟨(by omega : 485 + 1 ≤ 486), (by omega : 8 + (1 + 11) + 19326 ≤ 19346)⟩ ⟨(by omega : 0 ≤ 5), (by omega : 0 ≤ 104)⟩ rfl rfl (Nat.le_of_ble_eq_true rfl) dX10_sees_52 (wc_D hA cy _) ?_
        obtain ⟨g2, h⟩ := gd_of h
        have hn : ndC q2.2 = n0 + (0) := (eq_of_beq g2).trans hn
        refine v_if_ne C 69 dX10_sees_55 (by decide) (fun c4 => ?_) (fun c4 => ?_)
        · rw [if_neg c4] at h
          refine v_aload_n C 0 dX10_sees_69 rfl rfl ?_
          refine c_getS C 25 fl_10_37 rfl rfl (by decide) (okS _ 0 (by decide) rfl) dX10_sees_70 ?_
          refine v_aload_n C 0 dX10_sees_73 rfl rfl ?_
          refine c_getS C 43 fl_10_67 rfl rfl (by decide) (okS _ 0 (by decide) rfl) dX10_sees_74 ?_
          obtain ⟨q3, hq3, h⟩ := bd_of h
          obtain ⟨g3, h⟩ := gd_of h
          have hn2 : ndC q3.2 = n0 + (0 + 5) := by have h9 := eq_of_beq g3; have hn9 : ndC q2.2 = n0 + (0) := hn; omega
          refine r_call C hA hz hn [] [.ref (ad 25)] (c_Reader_entryRead hA _ hq3) hn2 hY_Reader_entryRead (ci := 4) rfl (by decide) (okS _ 43 (by decide) rfl) ml_10_154 ⟨(by show 5 + 1 ≤ 486; omega), (by show 8 + (1 + 11) + 114 ≤ 19346; omega)⟩ ⟨(by show 0 + 5 ≤ 5; omega), (by show 0 + 104 ≤ 104; omega)⟩ rfl rfl (Nat.le_of_ble_eq_true rfl) dX10_sees_77 ?_
          replace hn := hn2
          refine v_iload_n C 1 dX10_sees_80 rfl rfl ?_
          obtain ⟨q4, hq4, h⟩ := bd_of h
          refine c_call C [va_rf (Option.map ad q3.1), .int x1] [] (c_Sights_add hA _ _ _ hq4) hY_Sights_add rfl (by decide) (okS _ 25 (by decide) rfl) ml_10_188 ⟨(by omega : 0 + 1 ≤ 486), (by omega : 8 + (3 + 11) + 0 ≤ 19346)⟩ ⟨(by omega : 0 + 5 ≤ 5), (by omega : 0 + 104 ≤ 104)⟩ rfl rfl (Nat.le_of_ble_eq_true rfl) dX10_sees_81 (wc_D hA cy _) ?_
          obtain ⟨g4, h⟩ := gd_of h
          have hn : ndC q4.2 = n0 + (0 + 5) := (eq_of_beq g4).trans hn
          refine v_aload_n C 0 dX10_sees_84 rfl rfl ?_
          refine v_iconst C 0 dX10_sees_85 (by decide) ?_
          refine c_putI C fl_10_71 fw_10_1 rfl (by decide) (okS _ 0 (by decide) rfl) dX10_sees_86 ?_
          refine v_aload_n C 0 dX10_sees_89 rfl rfl ?_
          refine c_getS C 25 fl_10_37 rfl rfl (by decide) (okS _ 0 (by decide) rfl) dX10_sees_90 ?_
          refine c_getIN C fl_10_187 rfl (okS _ 25 (by decide) rfl) dX10_sees_93 ?_
          obtain rfl := Option.some.inj h
          exact r_iret C hA hz hn (by show 0 + 5 ≤ 5; omega) (by show 0 + 104 ≤ 104; omega) dX10_sees_96
        · rw [if_pos c4] at h
          refine v_bipush C (-10) dX10_sees_58 (by decide) ?_
          refine v_aload_n C 0 dX10_sees_60 rfl rfl ?_
          refine c_getS C 43 fl_10_67 rfl rfl (by decide) (okS _ 0 (by decide) rfl) dX10_sees_61 ?_
          refine c_getIN C fl_10_86 rfl (okS _ 43 (by decide) rfl) dX10_sees_64 ?_
          refine v_isub C dX10_sees_67 ?_
          obtain rfl := Option.some.inj h
          exact r_iret C hA hz hn (by show 0 ≤ 5; omega) (by show 0 ≤ 104; omega) dX10_sees_68
      · rw [if_neg c3] at h
        refine v_bipush C (-3) dX10_sees_22 (by decide) ?_
        obtain rfl := Option.some.inj h
        exact r_iret C hA hz hn (by show 0 ≤ 5; omega) (by show 0 ≤ 104; omega) dX10_sees_24
    · rw [if_neg c2] at h
      refine v_kc (kc' := 0) (ks' := 0) (by omega) (by omega) ?_
      exact v_sub [0] rfl ((b_J_sees_9 C hA hz) _ (show ndC σ = n0 + 0 from by have hn9 : ndC σ = n0 + (0) := hn; omega) h)
set_option maxHeartbeats 4000000 in
set_option maxRecDepth 20000 in
theorem l_J_laws_111 {p : Program} {l : Launch} {e : Env} {s : State} {m : MethodId} {args : Array Value} {below : List Frame} {meth : Method} {c : Code} {D : va_G} {cy : Nat → ClassId} {ad : Nat → Nat} {q : Int32 × CS}  {n0 : Nat} (C : vC p s m args meth c cX10_laws 3 (some .int) RX10 D (cyT cy)) (hA : adOK ad) (hz : s.heap.size = ad (49 + n0)) : ∀ (n : Nat) (kc : Nat) (x1 : Int32) (x2 : Int32) (σ : CS), ndC σ = n0 + kc → L_J_laws_111 n0 n x1 x2 σ = some q → V p l e { frames := 486, cells := 22, slots := 1100, locals := 19351 } s m args below meth c D (inC ad) 3 (MQ below (vQA D cy ad (some (.int q.1)) q.2) args s 22 1100 (inC ad)) kc (1039) (wc cy ad σ) 111 [(0, .ref (ad 0)), (1, .int x1), (2, .int x2)] [] := by
  intro n
  induction n with
  | zero =>
    intro kc x1 x2 σ hn h
    rw [L_J_laws_111.eq_1] at h
    cases h
  | succ n ih =>
    intro kc x1 x2 σ hn h
    rw [L_J_laws_111.eq_2] at h
    refine v_iload_n C 2 dX10_laws_111 rfl rfl ?_
    refine v_iconst C 2 dX10_laws_112 (by decide) ?_
    refine v_icmp_ge C 129 dX10_laws_113 (by decide) (fun c1 => ?_) (fun c1 => ?_)
    · rw [if_pos c1] at h
      refine v_aload_n C 0 dX10_laws_129 rfl rfl ?_
      refine v_iconst C 0 dX10_laws_130 (by decide) ?_
      refine c_putI C fl_10_71 fw_10_1 rfl (by decide) (okS _ 0 (by decide) rfl) dX10_laws_131 ?_
      refine v_iload_n C 1 dX10_laws_134 rfl rfl ?_
      obtain ⟨g1, h⟩ := gd_of h
      have hn : ndC σ = n0 + (kc) := hn
      have hb8 := of_decide_eq_true g1
      obtain rfl := Option.some.inj h
      exact r_iret C hA hz hn (by show kc ≤ 22; omega) (by show 1039 ≤ 1100; omega) dX10_laws_135
    · rw [if_neg c1] at h
      refine v_aload_n C 0 dX10_laws_116 rfl rfl ?_
      refine c_getS C 29 fl_10_45 rfl rfl (by decide) (okS _ 0 (by decide) rfl) dX10_laws_117 ?_
      refine v_iload_n C 2 dX10_laws_120 rfl rfl ?_
      refine v_iconst C 0 dX10_laws_121 (by decide) ?_
      obtain ⟨g2, h⟩ := gd_of h
      refine c_zast C (Or.inl rfl) (okS _ 29 (by decide) rfl) (ix_in g2) dX10_laws_122 ?_
      refine v_iinc C (x2 + 1) 2 [(2, .int (x2 + 1)), (0, .ref (ad 0)), (1, .int x1)] dX10_laws_123 rfl rfl (by decide) rfl ?_
      refine v_goto C 111 dX10_laws_126 (by decide) ?_
      refine v_kc (kc' := kc) (ks' := 1039) (by omega) (by omega) ?_
      exact v_sub [1, 2, 0] rfl (ih (kc) _ _ _ hn h)
set_option maxHeartbeats 4000000 in
set_option maxRecDepth 20000 in
theorem b_J_laws_74 {p : Program} {l : Launch} {e : Env} {s : State} {m : MethodId} {args : Array Value} {below : List Frame} {meth : Method} {c : Code} {D : va_G} {cy : Nat → ClassId} {ad : Nat → Nat} {q : Int32 × CS}  {n0 : Nat} (C : vC p s m args meth c cX10_laws 3 (some .int) RX10 D (cyT cy)) (hA : adOK ad) (hz : s.heap.size = ad (49 + n0)) : ∀ (x1 : Int32) (σ : CS), ndC σ = n0 + 5 → B_J_laws_74 n0 x1 σ = some q → V p l e { frames := 486, cells := 22, slots := 1100, locals := 19351 } s m args below meth c D (inC ad) 3 (MQ below (vQA D cy ad (some (.int q.1)) q.2) args s 22 1100 (inC ad)) 5 (19) (wc cy ad σ) 74 [(0, .ref (ad 0)), (1, .int x1)] [] := by
  intro x1 σ hn h
  rw [B_J_laws_74] at h
  refine v_aload_n C 0 dX10_laws_74 rfl rfl ?_
  refine v_aload_n C 0 dX10_laws_75 rfl rfl ?_
  refine c_getS C 43 fl_10_67 rfl rfl (by decide) (okS _ 0 (by decide) rfl) dX10_laws_76 ?_
  refine c_getSN C 34 fl_10_89 rfl rfl (by decide) (okS _ 43 (by decide) rfl) dX10_laws_79 ?_
  obtain ⟨q1, hq1, h⟩ := bd_of h
  obtain ⟨g1, h⟩ := gd_of h
  have hn2 : ndC q1.2 = n0 + ((ndC q1.2 - n0)) := by have h9 := of_decide_eq_true g1; have hn9 : ndC σ = n0 + (5) := hn; omega
  refine r_call C hA hz hn [] [.ref (ad 0)] (c_Signs_declared hA _ hq1) hn2 hY_Signs_declared (ci := 7) rfl (by decide) (okS _ 34 (by decide) rfl) ml_10_93 ⟨(by show 5 + 1 ≤ 486; omega), (by show 8 + (3 + 11) + 114 ≤ 19351; omega)⟩ ⟨(by show 5 + 17 ≤ 22; omega), (by show 19 + 1020 ≤ 1100; omega)⟩ rfl rfl (Nat.le_of_ble_eq_true rfl) dX10_laws_82 ?_
  replace hn := hn2
  refine c_putR C q1.1 fl_10_16 fw_10_2 rfl rfl rfl (by decide) (okS _ 0 (by decide) rfl) dX10_laws_85 ?_
  refine v_aload_n C 0 dX10_laws_88 rfl rfl ?_
  refine c_getS C 5 fl_10_23 rfl rfl (by decide) (okS _ 0 (by decide) rfl) dX10_laws_89 ?_
  obtain ⟨g2, h⟩ := gd_of h
  have hn : ndC q1.2 = n0 + ((ndC q1.2 - n0)) := hn
  have hb7 := of_decide_eq_true g2
  obtain ⟨q2, hq2, h⟩ := bd_of h
  refine c_call C [] [] (c_Shelf_empty hA _ _ hq2) hY_Shelf_empty rfl (by decide) (okS _ 5 (by decide) rfl) ml_10_97 ⟨(by omega : 0 + 1 ≤ 486), (by omega : 8 + (1 + 11) + 0 ≤ 19351)⟩ ⟨(by omega : (ndC q1.2 - n0) ≤ 22), (by omega : 19 + 1020 ≤ 1100)⟩ rfl rfl (Nat.le_of_ble_eq_true rfl) dX10_laws_92 (wc_D hA cy _) ?_
  obtain ⟨g3, h⟩ := gd_of h
  have hn : ndC q2.2 = n0 + ((ndC q1.2 - n0)) := (eq_of_beq g3).trans hn
  refine v_aload_n C 0 dX10_laws_95 rfl rfl ?_
  refine c_getS C 7 fl_10_30 rfl rfl (by decide) (okS _ 0 (by decide) rfl) dX10_laws_96 ?_
  obtain ⟨g4, h⟩ := gd_of h
  have hn : ndC q2.2 = n0 + ((ndC q1.2 - n0)) := hn
  have hb7 := of_decide_eq_true g4
  obtain ⟨q3, hq3, h⟩ := bd_of h
  refine c_call C [] [] (c_History_empty hA _ hq3) hY_History_empty rfl (by decide) (okS _ 7 (by decide) rfl) ml_10_100 ⟨(by omega : 0 + 1 ≤ 486), (by omega : 8 + (1 + 11) + 0 ≤ 19351)⟩ ⟨(by omega : (ndC q1.2 - n0) ≤ 22), (by omega : 19 + 1020 ≤ 1100)⟩ rfl rfl (Nat.le_of_ble_eq_true rfl) dX10_laws_99 (wc_D hA cy _) ?_
  obtain ⟨g5, h⟩ := gd_of h
  have hn : ndC q3.2 = n0 + ((ndC q1.2 - n0)) := (eq_of_beq g5).trans hn
  refine v_aload_n C 0 dX10_laws_102 rfl rfl ?_
  refine c_getS C 25 fl_10_37 rfl rfl (by decide) (okS _ 0 (by decide) rfl) dX10_laws_103 ?_
  obtain ⟨g6, h⟩ := gd_of h
  have hn : ndC q3.2 = n0 + ((ndC q1.2 - n0)) := hn
  have hb7 := of_decide_eq_true g6
  obtain ⟨q4, hq4, h⟩ := bd_of h
  refine c_call C [] [] (c_Sights_empty hA _ hq4) hY_Sights_empty rfl (by decide) (okS _ 25 (by decide) rfl) ml_10_101 ⟨(by omega : 0 + 1 ≤ 486), (by omega : 8 + (1 + 11) + 0 ≤ 19351)⟩ ⟨(by omega : (ndC q1.2 - n0) ≤ 22), (by omega : 19 + 1020 ≤ 1100)⟩ rfl rfl (Nat.le_of_ble_eq_true rfl) dX10_laws_106 (wc_D hA cy _) ?_
  obtain ⟨g7, h⟩ := gd_of h
  have hn : ndC q4.2 = n0 + ((ndC q1.2 - n0)) := (eq_of_beq g7).trans hn
  refine v_iconst C 0 dX10_laws_109 (by decide) ?_
  refine v_istore_n C [(2, .int 0), (0, .ref (ad 0)), (1, .int x1)] dX10_laws_110 rfl (by decide) rfl ?_
  refine v_kc (kc' := (ndC q1.2 - n0)) (ks' := 1039) (by omega) (by omega) ?_
  exact v_sub [1, 2, 0] rfl ((l_J_laws_111 C hA hz 10000) ((ndC q1.2 - n0)) _ _ _ hn h)
set_option maxHeartbeats 4000000 in
set_option maxRecDepth 20000 in
theorem l_J_laws_31 {p : Program} {l : Launch} {e : Env} {s : State} {m : MethodId} {args : Array Value} {below : List Frame} {meth : Method} {c : Code} {D : va_G} {cy : Nat → ClassId} {ad : Nat → Nat} {q : Int32 × CS}  {n0 : Nat} (C : vC p s m args meth c cX10_laws 3 (some .int) RX10 D (cyT cy)) (hA : adOK ad) (hz : s.heap.size = ad (49 + n0)) : ∀ (n : Nat) (x1 : Int32) (σ : CS), ndC σ = n0 + 5 → L_J_laws_31 n0 n x1 σ = some q → V p l e { frames := 486, cells := 22, slots := 1100, locals := 19351 } s m args below meth c D (inC ad) 3 (MQ below (vQA D cy ad (some (.int q.1)) q.2) args s 22 1100 (inC ad)) 5 (19) (wc cy ad σ) 31 [(0, .ref (ad 0)), (1, .int x1)] [] := by
  intro n
  induction n with
  | zero =>
    intro x1 σ hn h
    rw [L_J_laws_31.eq_1] at h
    cases h
  | succ n ih =>
    intro x1 σ hn h
    rw [L_J_laws_31.eq_2] at h
    refine v_iload_n C 1 dX10_laws_31 rfl rfl ?_
    refine v_bipush C 32 dX10_laws_32 (by decide) ?_
    refine v_icmp_ge C 74 dX10_laws_34 (by decide) (fun c1 => ?_) (fun c1 => ?_)
    · rw [if_pos c1] at h
      refine v_kc (kc' := 5) (ks' := 19) (by omega) (by omega) ?_
      exact v_sub [0, 1] rfl ((b_J_laws_74 C hA hz) _ _ (show ndC σ = n0 + 5 from by have hn9 : ndC σ = n0 + (5) := hn; omega) h)
    · rw [if_neg c1] at h
      refine v_aload_n C 0 dX10_laws_37 rfl rfl ?_
      refine c_getS C 43 fl_10_67 rfl rfl (by decide) (okS _ 0 (by decide) rfl) dX10_laws_38 ?_
      obtain ⟨q1, hq1, h⟩ := bd_of h
      refine c_call C [] [] (c_Reader_hasMore hA _ hq1) hY_Reader_hasMore rfl (by decide) (okS _ 43 (by decide) rfl) ml_10_79 ⟨(by omega : 0 + 1 ≤ 486), (by omega : 8 + (1 + 11) + 0 ≤ 19351)⟩ ⟨(by omega : 5 ≤ 22), (by omega : 19 ≤ 1100)⟩ rfl rfl (Nat.le_of_ble_eq_true rfl) dX10_laws_41 (wc_D hA cy _) ?_
      obtain ⟨g1, h⟩ := gd_of h
      have hn : ndC q1.2 = n0 + (5) := (eq_of_beq g1).trans hn
      refine v_if_eq C 74 dX10_laws_44 (by decide) (fun c2 => ?_) (fun c2 => ?_)
      · rw [if_pos c2] at h
        refine v_kc (kc' := 5) (ks' := 19) (by omega) (by omega) ?_
        exact v_sub [0, 1] rfl ((b_J_laws_74 C hA hz) _ _ (show ndC q1.2 = n0 + 5 from by have hn9 : ndC q1.2 = n0 + (5) := hn; omega) h)
      · rw [if_neg c2] at h
        refine v_aload_n C 0 dX10_laws_47 rfl rfl ?_
        refine c_getS C 43 fl_10_67 rfl rfl (by decide) (okS _ 0 (by decide) rfl) dX10_laws_48 ?_
        obtain ⟨q2, hq2, h⟩ := bd_of h
        refine c_call C [] [] (c_Reader_readItem hA _ hq2) hY_Reader_readItem rfl (by decide) (okS _ 43 (by decide) rfl) ml_10_83 ⟨(by omega : 485 + 1 ≤ 486), (by omega : 8 + (6 + 11) + 19326 ≤ 19351)⟩ ⟨(by omega : 5 ≤ 22), (by omega : 19 ≤ 1100)⟩ rfl rfl (Nat.le_of_ble_eq_true rfl) dX10_laws_51 (wc_D hA cy _) ?_
        obtain ⟨g2, h⟩ := gd_of h
        have hn : ndC q2.2 = n0 + (5) := (eq_of_beq g2).trans hn
        refine v_if_ne C 68 dX10_laws_54 (by decide) (fun c3 => ?_) (fun c3 => ?_)
        · rw [if_neg c3] at h
          refine v_iinc C (x1 + 1) 1 [(1, .int (x1 + 1)), (0, .ref (ad 0))] dX10_laws_68 rfl rfl (by decide) rfl ?_
          refine v_goto C 31 dX10_laws_71 (by decide) ?_
          refine v_kc (kc' := 5) (ks' := 19) (by omega) (by omega) ?_
          exact v_sub [1, 0] rfl (ih _ _ (show ndC q2.2 = n0 + 5 from by have hn9 : ndC q2.2 = n0 + (5) := hn; omega) h)
        · rw [if_pos c3] at h
          refine v_bipush C (-10) dX10_laws_57 (by decide) ?_
          refine v_aload_n C 0 dX10_laws_59 rfl rfl ?_
          refine c_getS C 43 fl_10_67 rfl rfl (by decide) (okS _ 0 (by decide) rfl) dX10_laws_60 ?_
          refine c_getIN C fl_10_86 rfl (okS _ 43 (by decide) rfl) dX10_laws_63 ?_
          refine v_isub C dX10_laws_66 ?_
          obtain rfl := Option.some.inj h
          exact r_iret C hA hz hn (by show 5 ≤ 22; omega) (by show 19 ≤ 1100; omega) dX10_laws_67
set_option maxHeartbeats 4000000 in
set_option maxRecDepth 20000 in
theorem c_J_laws {l : Launch} {D : va_G} {cy : Nat → ClassId} {ad : Nat → Nat} {q : Int32 × CS} (hA : adOK ad) (σ : CS) (h : f_J_laws σ = some q) : MVA l D cy ad yX10_laws cX10_laws 3 (some .int) 486 19351 22 1100 [.ref (ad 0)] σ (some (.int q.1)) q.2 := by
  refine MVA.of (by decide) (wc_D hA cy σ) (Nat.le_of_ble_eq_true rfl) [(0, .ref (ad 0))] rfl ?_
  intro p e s m args below meth c C hz hnm
  obtain ⟨n0, hn⟩ : ∃ n0, ndC σ = n0 + 0 := ⟨_, rfl⟩
  replace hz : s.heap.size = ad (49 + n0) := by rw [hz, hn, Nat.add_zero]
  rw [f_J_laws] at h
  rw [show ndC σ = n0 from hn, g_J_laws] at h
  refine v_aload_n C 0 dX10_laws_0 rfl rfl ?_
  refine c_getS C 43 fl_10_67 rfl rfl (by decide) (okS _ 0 (by decide) rfl) dX10_laws_1 ?_
  refine v_aload_n C 0 dX10_laws_4 rfl rfl ?_
  refine c_getS C 1 fl_10_9 rfl rfl (by decide) (okS _ 0 (by decide) rfl) dX10_laws_5 ?_
  refine v_aload_n C 0 dX10_laws_8 rfl rfl ?_
  refine c_getI C fl_10_71 rfl (okS _ 0 (by decide) rfl) dX10_laws_9 ?_
  refine r_new C hA hz hn (ci := 3) rfl (by decide) rfl ixX3 tyX3_ok df_3 cl_10_13 in_3 ini_3 (by show 0 + 1 ≤ 22; omega) (by show 0 + 4 ≤ 1100; omega) dX10_laws_12 ?_
  have hn : ndC (nwC σ 3 0) = n0 + (0 + 1) := by have h9 : ndC (nwC σ 3 0) = ndC σ + 1 := rfl; have hn9 : ndC σ = n0 + (0) := hn; have h8 : ndC σ = ndC σ := rfl; omega
  refine v_dup C dX10_laws_15 rfl ?_
  obtain ⟨q1, hq1, h⟩ := bd_of h
  obtain ⟨g1, h⟩ := gd_of h
  have hn2 : ndC q1.2 = n0 + (0 + 1 + 2) := by have h9 := eq_of_beq g1; have hn9 : ndC (nwC σ 3 0) = n0 + (0 + 1) := hn; omega
  refine r_initN C hA hz hn [] [.ref (ad (49 + ndC σ)), .int (σ.1 0 1), .ref (ad 1), .ref (ad 43)] (c_Laws_init hA _ _ hq1) hn2 hYI_3 ml_10_15 ⟨(by show 1 + 1 ≤ 486; omega), (by show 8 + (1 + 11) + 20 ≤ 19351; omega)⟩ ⟨(by show 0 + 1 + 2 ≤ 22; omega), (by show 0 + 4 + 7 ≤ 1100; omega)⟩ rfl rfl (Nat.le_of_ble_eq_true rfl) dX10_laws_16 ?_
  replace hn := hn2
  refine r_new C hA hz hn (ci := 5) rfl (by decide) rfl ixX5 tyX5_ok df_5 cl_10_20 in_5 ini_5 (by show 0 + 1 + 2 + 1 ≤ 22; omega) (by show 0 + 4 + 7 + 2 ≤ 1100; omega) dX10_laws_19 ?_
  have hn : ndC (nwC q1.2 5 0) = n0 + (0 + 1 + 2 + 1) := by have h9 : ndC (nwC q1.2 5 0) = ndC q1.2 + 1 := rfl; have hn9 : ndC q1.2 = n0 + (0 + 1 + 2) := hn; have h8 : ndC q1.2 = ndC q1.2 := rfl; omega
  refine v_dup C dX10_laws_22 rfl ?_
  obtain ⟨q2, hq2, h⟩ := bd_of h
  obtain ⟨g2, h⟩ := gd_of h
  have hn2 : ndC q2.2 = n0 + (0 + 1 + 2 + 1 + 1) := by have h9 := eq_of_beq g2; have hn9 : ndC (nwC q1.2 5 0) = n0 + (0 + 1 + 2 + 1) := hn; omega
  refine r_initN C hA hz hn [] [.ref (ad (49 + ndC q1.2)), .ref (ad (49 + ndC σ)), .int (σ.1 0 1), .ref (ad 1), .ref (ad 43)] (c_Shelf_init hA _ _ hq2) hn2 hYI_5 ml_10_22 ⟨(by show 1 + 1 ≤ 486; omega), (by show 8 + (1 + 11) + 20 ≤ 19351; omega)⟩ ⟨(by show 0 + 1 + 2 + 1 + 1 ≤ 22; omega), (by show 0 + 4 + 7 + 2 + 6 ≤ 1100; omega)⟩ rfl rfl (Nat.le_of_ble_eq_true rfl) dX10_laws_23 ?_
  replace hn := hn2
  obtain ⟨q3, hq3, h⟩ := bd_of h
  refine c_call C [.ref (ad 1), .int (σ.1 0 1), .ref (ad (49 + ndC σ)), .ref (ad (49 + ndC q1.2))] [] (c_Reader_begin hA _ _ _ _ _ hq3) hY_Reader_begin rfl (by decide) (okS _ 43 (by decide) rfl) ml_10_75 ⟨(by omega : 3 + 1 ≤ 486), (by omega : 8 + (5 + 11) + 66 ≤ 19351)⟩ ⟨(by omega : 0 + 1 + 2 + 1 + 1 ≤ 22), (by omega : 0 + 4 + 7 + 2 + 6 ≤ 1100)⟩ rfl rfl (Nat.le_of_ble_eq_true rfl) dX10_laws_26 (wc_D hA cy _) ?_
  obtain ⟨g3, h⟩ := gd_of h
  have hn : ndC q3.2 = n0 + (0 + 1 + 2 + 1 + 1) := (eq_of_beq g3).trans hn
  refine v_iconst C 0 dX10_laws_29 (by decide) ?_
  refine v_istore_n C [(1, .int 0), (0, .ref (ad 0))] dX10_laws_30 rfl (by decide) rfl ?_
  refine v_kc (kc' := 5) (ks' := 19) (by omega) (by omega) ?_
  exact v_sub [1, 0] rfl ((l_J_laws_31 C hA hz 10000) _ _ (show ndC q3.2 = n0 + 5 from by have hn9 : ndC q3.2 = n0 + (0 + 1 + 2 + 1 + 1) := hn; omega) h)
