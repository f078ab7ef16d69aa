theorem dX1_signAt_0 : decode cX1_signAt 0 = .ok (.iload_n 1, 1) := by decide +kernel
theorem dX1_signAt_1 : decode cX1_signAt 1 = .ok (.ifCond .lt 21, 3) := by decide +kernel
theorem dX1_signAt_4 : decode cX1_signAt 4 = .ok (.iload_n 1, 1) := by decide +kernel
theorem dX1_signAt_5 : decode cX1_signAt 5 = .ok (.aload_n 0, 1) := by decide +kernel
theorem dX1_signAt_6 : decode cX1_signAt 6 = .ok (.getfield 9, 3) := by decide +kernel
theorem dX1_signAt_9 : decode cX1_signAt 9 = .ok (.arraylength, 1) := by decide +kernel
theorem dX1_signAt_10 : decode cX1_signAt 10 = .ok (.if_icmp .ge 12, 3) := by decide +kernel
theorem dX1_signAt_13 : decode cX1_signAt 13 = .ok (.aload_n 0, 1) := by decide +kernel
theorem dX1_signAt_14 : decode cX1_signAt 14 = .ok (.getfield 9, 3) := by decide +kernel
theorem dX1_signAt_17 : decode cX1_signAt 17 = .ok (.iload_n 1, 1) := by decide +kernel
theorem dX1_signAt_18 : decode cX1_signAt 18 = .ok (.iaload, 1) := by decide +kernel
theorem dX1_signAt_19 : decode cX1_signAt 19 = .ok (.goto 5, 3) := by decide +kernel
theorem dX1_signAt_22 : decode cX1_signAt 22 = .ok (.bipush (-9), 2) := by decide +kernel
theorem dX1_signAt_24 : decode cX1_signAt 24 = .ok (.ireturn, 1) := by decide +kernel
theorem dX1_equalTo_0 : decode cX1_equalTo 0 = .ok (.aload_n 0, 1) := by decide +kernel
theorem dX1_equalTo_1 : decode cX1_equalTo 1 = .ok (.getfield 9, 3) := by decide +kernel
theorem dX1_equalTo_4 : decode cX1_equalTo 4 = .ok (.arraylength, 1) := by decide +kernel
theorem dX1_equalTo_5 : decode cX1_equalTo 5 = .ok (.aload_n 1, 1) := by decide +kernel
theorem dX1_equalTo_6 : decode cX1_equalTo 6 = .ok (.getfield 9, 3) := by decide +kernel
theorem dX1_equalTo_9 : decode cX1_equalTo 9 = .ok (.arraylength, 1) := by decide +kernel
theorem dX1_equalTo_10 : decode cX1_equalTo 10 = .ok (.if_icmp .eq 5, 3) := by decide +kernel
theorem dX1_equalTo_13 : decode cX1_equalTo 13 = .ok (.iconst 0, 1) := by decide +kernel
theorem dX1_equalTo_14 : decode cX1_equalTo 14 = .ok (.ireturn, 1) := by decide +kernel
theorem dX1_equalTo_15 : decode cX1_equalTo 15 = .ok (.iconst 0, 1) := by decide +kernel
theorem dX1_equalTo_16 : decode cX1_equalTo 16 = .ok (.istore_n 2, 1) := by decide +kernel
theorem dX1_equalTo_17 : decode cX1_equalTo 17 = .ok (.iload_n 2, 1) := by decide +kernel
theorem dX1_equalTo_18 : decode cX1_equalTo 18 = .ok (.aload_n 0, 1) := by decide +kernel
theorem dX1_equalTo_19 : decode cX1_equalTo 19 = .ok (.getfield 9, 3) := by decide +kernel
theorem dX1_equalTo_22 : decode cX1_equalTo 22 = .ok (.arraylength, 1) := by decide +kernel
theorem dX1_equalTo_23 : decode cX1_equalTo 23 = .ok (.if_icmp .ge 25, 3) := by decide +kernel
theorem dX1_equalTo_26 : decode cX1_equalTo 26 = .ok (.aload_n 0, 1) := by decide +kernel
theorem dX1_equalTo_27 : decode cX1_equalTo 27 = .ok (.getfield 9, 3) := by decide +kernel
theorem dX1_equalTo_30 : decode cX1_equalTo 30 = .ok (.iload_n 2, 1) := by decide +kernel
theorem dX1_equalTo_31 : decode cX1_equalTo 31 = .ok (.iaload, 1) := by decide +kernel
theorem dX1_equalTo_32 : decode cX1_equalTo 32 = .ok (.aload_n 1, 1) := by decide +kernel
theorem dX1_equalTo_33 : decode cX1_equalTo 33 = .ok (.iload_n 2, 1) := by decide +kernel
theorem dX1_equalTo_34 : decode cX1_equalTo 34 = .ok (.invokevirtual 15, 3) := by decide +kernel
theorem dX1_equalTo_37 : decode cX1_equalTo 37 = .ok (.if_icmp .eq 5, 3) := by decide +kernel
theorem dX1_equalTo_40 : decode cX1_equalTo 40 = .ok (.iconst 0, 1) := by decide +kernel
theorem dX1_equalTo_41 : decode cX1_equalTo 41 = .ok (.ireturn, 1) := by decide +kernel
theorem dX1_equalTo_42 : decode cX1_equalTo 42 = .ok (.iinc 2 1, 3) := by decide +kernel
theorem dX1_equalTo_45 : decode cX1_equalTo 45 = .ok (.goto (-28), 3) := by decide +kernel
theorem dX1_equalTo_48 : decode cX1_equalTo 48 = .ok (.iconst 1, 1) := by decide +kernel
theorem dX1_equalTo_49 : decode cX1_equalTo 49 = .ok (.ireturn, 1) := by decide +kernel
theorem dX0_likeness_0 : decode cX0_likeness 0 = .ok (.aload_n 0, 1) := by decide +kernel
theorem dX0_likeness_1 : decode cX0_likeness 1 = .ok (.getfield 7, 3) := by decide +kernel
theorem dX0_likeness_4 : decode cX0_likeness 4 = .ok (.aload_n 1, 1) := by decide +kernel
theorem dX0_likeness_5 : decode cX0_likeness 5 = .ok (.getfield 7, 3) := by decide +kernel
theorem dX0_likeness_8 : decode cX0_likeness 8 = .ok (.invokevirtual 16, 3) := by decide +kernel
theorem dX0_likeness_11 : decode cX0_likeness 11 = .ok (.ifCond .ne 5, 3) := by decide +kernel
theorem dX0_likeness_14 : decode cX0_likeness 14 = .ok (.iconst 0, 1) := by decide +kernel
theorem dX0_likeness_15 : decode cX0_likeness 15 = .ok (.ireturn, 1) := by decide +kernel
theorem dX0_likeness_16 : decode cX0_likeness 16 = .ok (.aload_n 0, 1) := by decide +kernel
theorem dX0_likeness_17 : decode cX0_likeness 17 = .ok (.getfield 13, 3) := by decide +kernel
theorem dX0_likeness_20 : decode cX0_likeness 20 = .ok (.aload_n 1, 1) := by decide +kernel
theorem dX0_likeness_21 : decode cX0_likeness 21 = .ok (.getfield 13, 3) := by decide +kernel
theorem dX0_likeness_24 : decode cX0_likeness 24 = .ok (.invokevirtual 16, 3) := by decide +kernel
theorem dX0_likeness_27 : decode cX0_likeness 27 = .ok (.ifCond .eq 7, 3) := by decide +kernel
theorem dX0_likeness_30 : decode cX0_likeness 30 = .ok (.iconst 2, 1) := by decide +kernel
theorem dX0_likeness_31 : decode cX0_likeness 31 = .ok (.goto 4, 3) := by decide +kernel
theorem dX0_likeness_34 : decode cX0_likeness 34 = .ok (.iconst 1, 1) := by decide +kernel
theorem dX0_likeness_35 : decode cX0_likeness 35 = .ok (.ireturn, 1) := by decide +kernel
theorem dX5_become_0 : decode cX5_become 0 = .ok (.aload_n 0, 1) := by decide +kernel
theorem dX5_become_1 : decode cX5_become 1 = .ok (.aload_n 1, 1) := by decide +kernel
theorem dX5_become_2 : decode cX5_become 2 = .ok (.getfield 17, 3) := by decide +kernel
theorem dX5_become_5 : decode cX5_become 5 = .ok (.putfield 17, 3) := by decide +kernel
theorem dX5_become_8 : decode cX5_become 8 = .ok (.iconst 0, 1) := by decide +kernel
theorem dX5_become_9 : decode cX5_become 9 = .ok (.istore_n 2, 1) := by decide +kernel
theorem dX5_become_10 : decode cX5_become 10 = .ok (.iload_n 2, 1) := by decide +kernel
theorem dX5_become_11 : decode cX5_become 11 = .ok (.bipush 6, 2) := by decide +kernel
theorem dX5_become_13 : decode cX5_become 13 = .ok (.if_icmp .ge 21, 3) := by decide +kernel
theorem dX5_become_16 : decode cX5_become 16 = .ok (.aload_n 0, 1) := by decide +kernel
theorem dX5_become_17 : decode cX5_become 17 = .ok (.getfield 11, 3) := by decide +kernel
theorem dX5_become_20 : decode cX5_become 20 = .ok (.iload_n 2, 1) := by decide +kernel
theorem dX5_become_21 : decode cX5_become 21 = .ok (.aload_n 1, 1) := by decide +kernel
theorem dX5_become_22 : decode cX5_become 22 = .ok (.getfield 11, 3) := by decide +kernel
theorem dX5_become_25 : decode cX5_become 25 = .ok (.iload_n 2, 1) := by decide +kernel
theorem dX5_become_26 : decode cX5_become 26 = .ok (.aaload, 1) := by decide +kernel
theorem dX5_become_27 : decode cX5_become 27 = .ok (.aastore, 1) := by decide +kernel
theorem dX5_become_28 : decode cX5_become 28 = .ok (.iinc 2 1, 3) := by decide +kernel
theorem dX5_become_31 : decode cX5_become 31 = .ok (.goto (-21), 3) := by decide +kernel
theorem dX5_become_34 : decode cX5_become 34 = .ok (.return_, 1) := by decide +kernel
theorem dX2_note_0 : decode cX2_note 0 = .ok (.aload_n 0, 1) := by decide +kernel
theorem dX2_note_1 : decode cX2_note 1 = .ok (.aload_n 0, 1) := by decide +kernel
theorem dX2_note_2 : decode cX2_note 2 = .ok (.getfield 18, 3) := by decide +kernel
theorem dX2_note_5 : decode cX2_note 5 = .ok (.iconst 1, 1) := by decide +kernel
theorem dX2_note_6 : decode cX2_note 6 = .ok (.iadd, 1) := by decide +kernel
theorem dX2_note_7 : decode cX2_note 7 = .ok (.bipush 8, 2) := by decide +kernel
theorem dX2_note_9 : decode cX2_note 9 = .ok (.if_icmp .ge 12, 3) := by decide +kernel
theorem dX2_note_12 : decode cX2_note 12 = .ok (.aload_n 0, 1) := by decide +kernel
theorem dX2_note_13 : decode cX2_note 13 = .ok (.getfield 18, 3) := by decide +kernel
theorem dX2_note_16 : decode cX2_note 16 = .ok (.iconst 1, 1) := by decide +kernel
theorem dX2_note_17 : decode cX2_note 17 = .ok (.iadd, 1) := by decide +kernel
theorem dX2_note_18 : decode cX2_note 18 = .ok (.goto 4, 3) := by decide +kernel
theorem dX2_note_21 : decode cX2_note 21 = .ok (.iconst 0, 1) := by decide +kernel
theorem dX2_note_22 : decode cX2_note 22 = .ok (.putfield 18, 3) := by decide +kernel
theorem dX2_note_25 : decode cX2_note 25 = .ok (.aload_n 0, 1) := by decide +kernel
theorem dX2_note_26 : decode cX2_note 26 = .ok (.getfield 11, 3) := by decide +kernel
theorem dX2_note_29 : decode cX2_note 29 = .ok (.aload_n 0, 1) := by decide +kernel
theorem dX2_note_30 : decode cX2_note 30 = .ok (.getfield 18, 3) := by decide +kernel
theorem dX2_note_33 : decode cX2_note 33 = .ok (.aaload, 1) := by decide +kernel
theorem dX2_note_34 : decode cX2_note 34 = .ok (.aload_n 1, 1) := by decide +kernel
theorem dX2_note_35 : decode cX2_note 35 = .ok (.invokevirtual 22, 3) := by decide +kernel
theorem dX2_note_38 : decode cX2_note 38 = .ok (.aload_n 0, 1) := by decide +kernel
theorem dX2_note_39 : decode cX2_note 39 = .ok (.aload_n 0, 1) := by decide +kernel
theorem dX2_note_40 : decode cX2_note 40 = .ok (.getfield 26, 3) := by decide +kernel
theorem dX2_note_43 : decode cX2_note 43 = .ok (.iconst 1, 1) := by decide +kernel
theorem dX2_note_44 : decode cX2_note 44 = .ok (.iadd, 1) := by decide +kernel
theorem dX2_note_45 : decode cX2_note 45 = .ok (.bipush 8, 2) := by decide +kernel
theorem dX2_note_47 : decode cX2_note 47 = .ok (.invokestatic 29, 3) := by decide +kernel
theorem dX2_note_50 : decode cX2_note 50 = .ok (.putfield 26, 3) := by decide +kernel
theorem dX2_note_53 : decode cX2_note 53 = .ok (.return_, 1) := by decide +kernel
theorem dX2_restore_0 : decode cX2_restore 0 = .ok (.aload_n 0, 1) := by decide +kernel
theorem dX2_restore_1 : decode cX2_restore 1 = .ok (.getfield 26, 3) := by decide +kernel
theorem dX2_restore_4 : decode cX2_restore 4 = .ok (.ifCond .ne 4, 3) := by decide +kernel
theorem dX2_restore_7 : decode cX2_restore 7 = .ok (.return_, 1) := by decide +kernel
theorem dX2_restore_8 : decode cX2_restore 8 = .ok (.aload_n 1, 1) := by decide +kernel
theorem dX2_restore_9 : decode cX2_restore 9 = .ok (.aload_n 0, 1) := by decide +kernel
theorem dX2_restore_10 : decode cX2_restore 10 = .ok (.getfield 11, 3) := by decide +kernel
theorem dX2_restore_13 : decode cX2_restore 13 = .ok (.aload_n 0, 1) := by decide +kernel
theorem dX2_restore_14 : decode cX2_restore 14 = .ok (.getfield 18, 3) := by decide +kernel
theorem dX2_restore_17 : decode cX2_restore 17 = .ok (.aaload, 1) := by decide +kernel
theorem dX2_restore_18 : decode cX2_restore 18 = .ok (.invokevirtual 22, 3) := by decide +kernel
theorem dX2_restore_21 : decode cX2_restore 21 = .ok (.aload_n 0, 1) := by decide +kernel
theorem dX2_restore_22 : decode cX2_restore 22 = .ok (.aload_n 0, 1) := by decide +kernel
theorem dX2_restore_23 : decode cX2_restore 23 = .ok (.getfield 18, 3) := by decide +kernel
theorem dX2_restore_26 : decode cX2_restore 26 = .ok (.ifCond .le 12, 3) := by decide +kernel
theorem dX2_restore_29 : decode cX2_restore 29 = .ok (.aload_n 0, 1) := by decide +kernel
theorem dX2_restore_30 : decode cX2_restore 30 = .ok (.getfield 18, 3) := by decide +kernel
theorem dX2_restore_33 : decode cX2_restore 33 = .ok (.iconst 1, 1) := by decide +kernel
theorem dX2_restore_34 : decode cX2_restore 34 = .ok (.isub, 1) := by decide +kernel
theorem dX2_restore_35 : decode cX2_restore 35 = .ok (.goto 5, 3) := by decide +kernel
theorem dX2_restore_38 : decode cX2_restore 38 = .ok (.bipush 7, 2) := by decide +kernel
theorem dX2_restore_40 : decode cX2_restore 40 = .ok (.putfield 18, 3) := by decide +kernel
theorem dX2_restore_43 : decode cX2_restore 43 = .ok (.aload_n 0, 1) := by decide +kernel
theorem dX2_restore_44 : decode cX2_restore 44 = .ok (.dup, 1) := by decide +kernel
theorem dX2_restore_45 : decode cX2_restore 45 = .ok (.getfield 26, 3) := by decide +kernel
theorem dX2_restore_48 : decode cX2_restore 48 = .ok (.iconst 1, 1) := by decide +kernel
theorem dX2_restore_49 : decode cX2_restore 49 = .ok (.isub, 1) := by decide +kernel
theorem dX2_restore_50 : decode cX2_restore 50 = .ok (.putfield 26, 3) := by decide +kernel
theorem dX2_restore_53 : decode cX2_restore 53 = .ok (.return_, 1) := by decide +kernel
theorem dX2_empty_0 : decode cX2_empty 0 = .ok (.aload_n 0, 1) := by decide +kernel
theorem dX2_empty_1 : decode cX2_empty 1 = .ok (.iconst 0, 1) := by decide +kernel
theorem dX2_empty_2 : decode cX2_empty 2 = .ok (.putfield 26, 3) := by decide +kernel
theorem dX2_empty_5 : decode cX2_empty 5 = .ok (.return_, 1) := by decide +kernel
theorem dX3_addFamily_0 : decode cX3_addFamily 0 = .ok (.aload_n 0, 1) := by decide +kernel
theorem dX3_addFamily_1 : decode cX3_addFamily 1 = .ok (.getfield 20, 3) := by decide +kernel
theorem dX3_addFamily_4 : decode cX3_addFamily 4 = .ok (.iconst 3, 1) := by decide +kernel
theorem dX3_addFamily_5 : decode cX3_addFamily 5 = .ok (.if_icmp .ge 23, 3) := by decide +kernel
theorem dX3_addFamily_8 : decode cX3_addFamily 8 = .ok (.aload_n 0, 1) := by decide +kernel
theorem dX3_addFamily_9 : decode cX3_addFamily 9 = .ok (.getfield 11, 3) := by decide +kernel
theorem dX3_addFamily_12 : decode cX3_addFamily 12 = .ok (.aload_n 0, 1) := by decide +kernel
theorem dX3_addFamily_13 : decode cX3_addFamily 13 = .ok (.getfield 20, 3) := by decide +kernel
theorem dX3_addFamily_16 : decode cX3_addFamily 16 = .ok (.aload_n 1, 1) := by decide +kernel
theorem dX3_addFamily_17 : decode cX3_addFamily 17 = .ok (.aastore, 1) := by decide +kernel
theorem dX3_addFamily_18 : decode cX3_addFamily 18 = .ok (.aload_n 0, 1) := by decide +kernel
theorem dX3_addFamily_19 : decode cX3_addFamily 19 = .ok (.dup, 1) := by decide +kernel
theorem dX3_addFamily_20 : decode cX3_addFamily 20 = .ok (.getfield 20, 3) := by decide +kernel
theorem dX3_addFamily_23 : decode cX3_addFamily 23 = .ok (.iconst 1, 1) := by decide +kernel
theorem dX3_addFamily_24 : decode cX3_addFamily 24 = .ok (.iadd, 1) := by decide +kernel
theorem dX3_addFamily_25 : decode cX3_addFamily 25 = .ok (.putfield 20, 3) := by decide +kernel
theorem dX3_addFamily_28 : decode cX3_addFamily 28 = .ok (.return_, 1) := by decide +kernel
theorem dX3_addConstant_0 : decode cX3_addConstant 0 = .ok (.aload_n 0, 1) := by decide +kernel
theorem dX3_addConstant_1 : decode cX3_addConstant 1 = .ok (.getfield 24, 3) := by decide +kernel
theorem dX3_addConstant_4 : decode cX3_addConstant 4 = .ok (.iconst 4, 1) := by decide +kernel
theorem dX3_addConstant_5 : decode cX3_addConstant 5 = .ok (.if_icmp .ge 23, 3) := by decide +kernel
theorem dX3_addConstant_8 : decode cX3_addConstant 8 = .ok (.aload_n 0, 1) := by decide +kernel
theorem dX3_addConstant_9 : decode cX3_addConstant 9 = .ok (.getfield 17, 3) := by decide +kernel
theorem dX3_addConstant_12 : decode cX3_addConstant 12 = .ok (.aload_n 0, 1) := by decide +kernel
theorem dX3_addConstant_13 : decode cX3_addConstant 13 = .ok (.getfield 24, 3) := by decide +kernel
theorem dX3_addConstant_16 : decode cX3_addConstant 16 = .ok (.aload_n 1, 1) := by decide +kernel
theorem dX3_addConstant_17 : decode cX3_addConstant 17 = .ok (.aastore, 1) := by decide +kernel
theorem dX3_addConstant_18 : decode cX3_addConstant 18 = .ok (.aload_n 0, 1) := by decide +kernel
theorem dX3_addConstant_19 : decode cX3_addConstant 19 = .ok (.dup, 1) := by decide +kernel
theorem dX3_addConstant_20 : decode cX3_addConstant 20 = .ok (.getfield 24, 3) := by decide +kernel
theorem dX3_addConstant_23 : decode cX3_addConstant 23 = .ok (.iconst 1, 1) := by decide +kernel
theorem dX3_addConstant_24 : decode cX3_addConstant 24 = .ok (.iadd, 1) := by decide +kernel
theorem dX3_addConstant_25 : decode cX3_addConstant 25 = .ok (.putfield 24, 3) := by decide +kernel
theorem dX3_addConstant_28 : decode cX3_addConstant 28 = .ok (.return_, 1) := by decide +kernel
theorem dX3_indexForm_0 : decode cX3_indexForm 0 = .ok (.iload_n 1, 1) := by decide +kernel
theorem dX3_indexForm_1 : decode cX3_indexForm 1 = .ok (.ifCond .lt 25, 3) := by decide +kernel
theorem dX3_indexForm_4 : decode cX3_indexForm 4 = .ok (.iload_n 1, 1) := by decide +kernel
theorem dX3_indexForm_5 : decode cX3_indexForm 5 = .ok (.aload_n 0, 1) := by decide +kernel
theorem dX3_indexForm_6 : decode cX3_indexForm 6 = .ok (.getfield 20, 3) := by decide +kernel
theorem dX3_indexForm_9 : decode cX3_indexForm 9 = .ok (.if_icmp .ge 17, 3) := by decide +kernel
theorem dX3_indexForm_12 : decode cX3_indexForm 12 = .ok (.iload_n 1, 1) := by decide +kernel
theorem dX3_indexForm_13 : decode cX3_indexForm 13 = .ok (.iconst 3, 1) := by decide +kernel
theorem dX3_indexForm_14 : decode cX3_indexForm 14 = .ok (.if_icmp .ge 12, 3) := by decide +kernel
theorem dX3_indexForm_17 : decode cX3_indexForm 17 = .ok (.aload_n 0, 1) := by decide +kernel
theorem dX3_indexForm_18 : decode cX3_indexForm 18 = .ok (.getfield 11, 3) := by decide +kernel
theorem dX3_indexForm_21 : decode cX3_indexForm 21 = .ok (.iload_n 1, 1) := by decide +kernel
theorem dX3_indexForm_22 : decode cX3_indexForm 22 = .ok (.aaload, 1) := by decide +kernel
theorem dX3_indexForm_23 : decode cX3_indexForm 23 = .ok (.goto 4, 3) := by decide +kernel
theorem dX3_indexForm_26 : decode cX3_indexForm 26 = .ok (.aconst_null, 1) := by decide +kernel
theorem dX3_indexForm_27 : decode cX3_indexForm 27 = .ok (.areturn, 1) := by decide +kernel
theorem dX3_constantForm_0 : decode cX3_constantForm 0 = .ok (.iload_n 1, 1) := by decide +kernel
theorem dX3_constantForm_1 : decode cX3_constantForm 1 = .ok (.ifCond .lt 25, 3) := by decide +kernel
theorem dX3_constantForm_4 : decode cX3_constantForm 4 = .ok (.iload_n 1, 1) := by decide +kernel
theorem dX3_constantForm_5 : decode cX3_constantForm 5 = .ok (.aload_n 0, 1) := by decide +kernel
theorem dX3_constantForm_6 : decode cX3_constantForm 6 = .ok (.getfield 24, 3) := by decide +kernel
theorem dX3_constantForm_9 : decode cX3_constantForm 9 = .ok (.if_icmp .ge 17, 3) := by decide +kernel
theorem dX3_constantForm_12 : decode cX3_constantForm 12 = .ok (.iload_n 1, 1) := by decide +kernel
theorem dX3_constantForm_13 : decode cX3_constantForm 13 = .ok (.iconst 4, 1) := by decide +kernel
theorem dX3_constantForm_14 : decode cX3_constantForm 14 = .ok (.if_icmp .ge 12, 3) := by decide +kernel
theorem dX3_constantForm_17 : decode cX3_constantForm 17 = .ok (.aload_n 0, 1) := by decide +kernel
theorem dX3_constantForm_18 : decode cX3_constantForm 18 = .ok (.getfield 17, 3) := by decide +kernel
theorem dX3_constantForm_21 : decode cX3_constantForm 21 = .ok (.iload_n 1, 1) := by decide +kernel
theorem dX3_constantForm_22 : decode cX3_constantForm 22 = .ok (.aaload, 1) := by decide +kernel
theorem dX3_constantForm_23 : decode cX3_constantForm 23 = .ok (.goto 4, 3) := by decide +kernel
theorem dX3_constantForm_26 : decode cX3_constantForm 26 = .ok (.aconst_null, 1) := by decide +kernel
theorem dX3_constantForm_27 : decode cX3_constantForm 27 = .ok (.areturn, 1) := by decide +kernel
theorem dX7_add_0 : decode cX7_add 0 = .ok (.aload_n 0, 1) := by decide +kernel
theorem dX7_add_1 : decode cX7_add 1 = .ok (.getfield 21, 3) := by decide +kernel
theorem dX7_add_4 : decode cX7_add 4 = .ok (.ifCond .lt 13, 3) := by decide +kernel
theorem dX7_add_7 : decode cX7_add 7 = .ok (.aload_n 0, 1) := by decide +kernel
theorem dX7_add_8 : decode cX7_add 8 = .ok (.getfield 21, 3) := by decide +kernel
theorem dX7_add_11 : decode cX7_add 11 = .ok (.sipush 3600, 3) := by decide +kernel
theorem dX7_add_14 : decode cX7_add 14 = .ok (.if_icmp .lt 5, 3) := by decide +kernel
theorem dX7_add_17 : decode cX7_add 17 = .ok (.iconst 0, 1) := by decide +kernel
theorem dX7_add_18 : decode cX7_add 18 = .ok (.ireturn, 1) := by decide +kernel
theorem dX7_add_19 : decode cX7_add 19 = .ok (.aload_n 0, 1) := by decide +kernel
theorem dX7_add_20 : decode cX7_add 20 = .ok (.getfield 11, 3) := by decide +kernel
theorem dX7_add_23 : decode cX7_add 23 = .ok (.aload_n 0, 1) := by decide +kernel
theorem dX7_add_24 : decode cX7_add 24 = .ok (.getfield 21, 3) := by decide +kernel
theorem dX7_add_27 : decode cX7_add 27 = .ok (.iload_n 1, 1) := by decide +kernel
theorem dX7_add_28 : decode cX7_add 28 = .ok (.iastore, 1) := by decide +kernel
theorem dX7_add_29 : decode cX7_add 29 = .ok (.aload_n 0, 1) := by decide +kernel
theorem dX7_add_30 : decode cX7_add 30 = .ok (.dup, 1) := by decide +kernel
theorem dX7_add_31 : decode cX7_add 31 = .ok (.getfield 21, 3) := by decide +kernel
theorem dX7_add_34 : decode cX7_add 34 = .ok (.iconst 1, 1) := by decide +kernel
theorem dX7_add_35 : decode cX7_add 35 = .ok (.iadd, 1) := by decide +kernel
theorem dX7_add_36 : decode cX7_add 36 = .ok (.putfield 21, 3) := by decide +kernel
theorem dX7_add_39 : decode cX7_add 39 = .ok (.iconst 1, 1) := by decide +kernel
theorem dX7_add_40 : decode cX7_add 40 = .ok (.ireturn, 1) := by decide +kernel
theorem dX7_copyOf_0 : decode cX7_copyOf 0 = .ok (.aload_n 1, 1) := by decide +kernel
theorem dX7_copyOf_1 : decode cX7_copyOf 1 = .ok (.ifnonnull 5, 3) := by decide +kernel
theorem dX7_copyOf_4 : decode cX7_copyOf 4 = .ok (.iconst (-1), 1) := by decide +kernel
theorem dX7_copyOf_5 : decode cX7_copyOf 5 = .ok (.ireturn, 1) := by decide +kernel
theorem dX7_copyOf_6 : decode cX7_copyOf 6 = .ok (.aload_n 0, 1) := by decide +kernel
theorem dX7_copyOf_7 : decode cX7_copyOf 7 = .ok (.getfield 21, 3) := by decide +kernel
theorem dX7_copyOf_10 : decode cX7_copyOf 10 = .ok (.istore_n 2, 1) := by decide +kernel
theorem dX7_copyOf_11 : decode cX7_copyOf 11 = .ok (.iconst 0, 1) := by decide +kernel
theorem dX7_copyOf_12 : decode cX7_copyOf 12 = .ok (.istore_n 3, 1) := by decide +kernel
theorem dX7_copyOf_13 : decode cX7_copyOf 13 = .ok (.iload_n 3, 1) := by decide +kernel
theorem dX7_copyOf_14 : decode cX7_copyOf 14 = .ok (.aload_n 1, 1) := by decide +kernel
theorem dX7_copyOf_15 : decode cX7_copyOf 15 = .ok (.getfield 83, 3) := by decide +kernel
theorem dX7_copyOf_18 : decode cX7_copyOf 18 = .ok (.arraylength, 1) := by decide +kernel
theorem dX7_copyOf_19 : decode cX7_copyOf 19 = .ok (.if_icmp .ge 19, 3) := by decide +kernel
theorem dX7_copyOf_22 : decode cX7_copyOf 22 = .ok (.aload_n 0, 1) := by decide +kernel
theorem dX7_copyOf_23 : decode cX7_copyOf 23 = .ok (.aload_n 1, 1) := by decide +kernel
theorem dX7_copyOf_24 : decode cX7_copyOf 24 = .ok (.iload_n 3, 1) := by decide +kernel
theorem dX7_copyOf_25 : decode cX7_copyOf 25 = .ok (.invokevirtual 86, 3) := by decide +kernel
theorem dX7_copyOf_28 : decode cX7_copyOf 28 = .ok (.invokevirtual 89, 3) := by decide +kernel
theorem dX7_copyOf_31 : decode cX7_copyOf 31 = .ok (.pop, 1) := by decide +kernel
theorem dX7_copyOf_32 : decode cX7_copyOf 32 = .ok (.iinc 3 1, 3) := by decide +kernel
theorem dX7_copyOf_35 : decode cX7_copyOf 35 = .ok (.goto (-22), 3) := by decide +kernel
theorem dX7_copyOf_38 : decode cX7_copyOf 38 = .ok (.iload_n 2, 1) := by decide +kernel
theorem dX7_copyOf_39 : decode cX7_copyOf 39 = .ok (.ireturn, 1) := by decide +kernel
theorem dX7_addFamily_0 : decode cX7_addFamily 0 = .ok (.aload_n 0, 1) := by decide +kernel
theorem dX7_addFamily_1 : decode cX7_addFamily 1 = .ok (.getfield 25, 3) := by decide +kernel
theorem dX7_addFamily_4 : decode cX7_addFamily 4 = .ok (.iconst 3, 1) := by decide +kernel
theorem dX7_addFamily_5 : decode cX7_addFamily 5 = .ok (.if_icmp .ge 23, 3) := by decide +kernel
theorem dX7_addFamily_8 : decode cX7_addFamily 8 = .ok (.aload_n 0, 1) := by decide +kernel
theorem dX7_addFamily_9 : decode cX7_addFamily 9 = .ok (.getfield 15, 3) := by decide +kernel
theorem dX7_addFamily_12 : decode cX7_addFamily 12 = .ok (.aload_n 0, 1) := by decide +kernel
theorem dX7_addFamily_13 : decode cX7_addFamily 13 = .ok (.getfield 25, 3) := by decide +kernel
theorem dX7_addFamily_16 : decode cX7_addFamily 16 = .ok (.iload_n 1, 1) := by decide +kernel
theorem dX7_addFamily_17 : decode cX7_addFamily 17 = .ok (.iastore, 1) := by decide +kernel
theorem dX7_addFamily_18 : decode cX7_addFamily 18 = .ok (.aload_n 0, 1) := by decide +kernel
theorem dX7_addFamily_19 : decode cX7_addFamily 19 = .ok (.dup, 1) := by decide +kernel
theorem dX7_addFamily_20 : decode cX7_addFamily 20 = .ok (.getfield 25, 3) := by decide +kernel
theorem dX7_addFamily_23 : decode cX7_addFamily 23 = .ok (.iconst 1, 1) := by decide +kernel
theorem dX7_addFamily_24 : decode cX7_addFamily 24 = .ok (.iadd, 1) := by decide +kernel
theorem dX7_addFamily_25 : decode cX7_addFamily 25 = .ok (.putfield 25, 3) := by decide +kernel
theorem dX7_addFamily_28 : decode cX7_addFamily 28 = .ok (.return_, 1) := by decide +kernel
theorem dX7_addConstant_0 : decode cX7_addConstant 0 = .ok (.aload_n 0, 1) := by decide +kernel
theorem dX7_addConstant_1 : decode cX7_addConstant 1 = .ok (.getfield 28, 3) := by decide +kernel
theorem dX7_addConstant_4 : decode cX7_addConstant 4 = .ok (.iconst 4, 1) := by decide +kernel
theorem dX7_addConstant_5 : decode cX7_addConstant 5 = .ok (.if_icmp .ge 23, 3) := by decide +kernel
theorem dX7_addConstant_8 : decode cX7_addConstant 8 = .ok (.aload_n 0, 1) := by decide +kernel
theorem dX7_addConstant_9 : decode cX7_addConstant 9 = .ok (.getfield 18, 3) := by decide +kernel
theorem dX7_addConstant_12 : decode cX7_addConstant 12 = .ok (.aload_n 0, 1) := by decide +kernel
theorem dX7_addConstant_13 : decode cX7_addConstant 13 = .ok (.getfield 28, 3) := by decide +kernel
theorem dX7_addConstant_16 : decode cX7_addConstant 16 = .ok (.iload_n 1, 1) := by decide +kernel
theorem dX7_addConstant_17 : decode cX7_addConstant 17 = .ok (.iastore, 1) := by decide +kernel
theorem dX7_addConstant_18 : decode cX7_addConstant 18 = .ok (.aload_n 0, 1) := by decide +kernel
theorem dX7_addConstant_19 : decode cX7_addConstant 19 = .ok (.dup, 1) := by decide +kernel
theorem dX7_addConstant_20 : decode cX7_addConstant 20 = .ok (.getfield 28, 3) := by decide +kernel
theorem dX7_addConstant_23 : decode cX7_addConstant 23 = .ok (.iconst 1, 1) := by decide +kernel
theorem dX7_addConstant_24 : decode cX7_addConstant 24 = .ok (.iadd, 1) := by decide +kernel
theorem dX7_addConstant_25 : decode cX7_addConstant 25 = .ok (.putfield 28, 3) := by decide +kernel
theorem dX7_addConstant_28 : decode cX7_addConstant 28 = .ok (.return_, 1) := by decide +kernel
theorem dX7_begin_0 : decode cX7_begin 0 = .ok (.aload_n 0, 1) := by decide +kernel
theorem dX7_begin_1 : decode cX7_begin 1 = .ok (.iconst 0, 1) := by decide +kernel
theorem dX7_begin_2 : decode cX7_begin 2 = .ok (.putfield 21, 3) := by decide +kernel
theorem dX7_begin_5 : decode cX7_begin 5 = .ok (.aload_n 0, 1) := by decide +kernel
theorem dX7_begin_6 : decode cX7_begin 6 = .ok (.iconst 0, 1) := by decide +kernel
theorem dX7_begin_7 : decode cX7_begin 7 = .ok (.putfield 25, 3) := by decide +kernel
theorem dX7_begin_10 : decode cX7_begin 10 = .ok (.aload_n 0, 1) := by decide +kernel
theorem dX7_begin_11 : decode cX7_begin 11 = .ok (.iconst 0, 1) := by decide +kernel
theorem dX7_begin_12 : decode cX7_begin 12 = .ok (.putfield 28, 3) := by decide +kernel
theorem dX7_begin_15 : decode cX7_begin 15 = .ok (.iconst 0, 1) := by decide +kernel
theorem dX7_begin_16 : decode cX7_begin 16 = .ok (.istore_n 2, 1) := by decide +kernel
theorem dX7_begin_17 : decode cX7_begin 17 = .ok (.iload_n 2, 1) := by decide +kernel
theorem dX7_begin_18 : decode cX7_begin 18 = .ok (.aload_n 1, 1) := by decide +kernel
theorem dX7_begin_19 : decode cX7_begin 19 = .ok (.getfield 31, 3) := by decide +kernel
theorem dX7_begin_22 : decode cX7_begin 22 = .ok (.if_icmp .ge 22, 3) := by decide +kernel
theorem dX7_begin_25 : decode cX7_begin 25 = .ok (.aload_n 0, 1) := by decide +kernel
theorem dX7_begin_26 : decode cX7_begin 26 = .ok (.aload_n 0, 1) := by decide +kernel
theorem dX7_begin_27 : decode cX7_begin 27 = .ok (.aload_n 1, 1) := by decide +kernel
theorem dX7_begin_28 : decode cX7_begin 28 = .ok (.iload_n 2, 1) := by decide +kernel
theorem dX7_begin_29 : decode cX7_begin 29 = .ok (.invokevirtual 34, 3) := by decide +kernel
theorem dX7_begin_32 : decode cX7_begin 32 = .ok (.invokevirtual 38, 3) := by decide +kernel
theorem dX7_begin_35 : decode cX7_begin 35 = .ok (.invokevirtual 42, 3) := by decide +kernel
theorem dX7_begin_38 : decode cX7_begin 38 = .ok (.iinc 2 1, 3) := by decide +kernel
theorem dX7_begin_41 : decode cX7_begin 41 = .ok (.goto (-24), 3) := by decide +kernel
theorem dX7_begin_44 : decode cX7_begin 44 = .ok (.iconst 0, 1) := by decide +kernel
theorem dX7_begin_45 : decode cX7_begin 45 = .ok (.istore_n 2, 1) := by decide +kernel
theorem dX7_begin_46 : decode cX7_begin 46 = .ok (.iload_n 2, 1) := by decide +kernel
theorem dX7_begin_47 : decode cX7_begin 47 = .ok (.aload_n 1, 1) := by decide +kernel
theorem dX7_begin_48 : decode cX7_begin 48 = .ok (.getfield 46, 3) := by decide +kernel
theorem dX7_begin_51 : decode cX7_begin 51 = .ok (.if_icmp .ge 22, 3) := by decide +kernel
theorem dX7_begin_54 : decode cX7_begin 54 = .ok (.aload_n 0, 1) := by decide +kernel
theorem dX7_begin_55 : decode cX7_begin 55 = .ok (.aload_n 0, 1) := by decide +kernel
theorem dX7_begin_56 : decode cX7_begin 56 = .ok (.aload_n 1, 1) := by decide +kernel
theorem dX7_begin_57 : decode cX7_begin 57 = .ok (.iload_n 2, 1) := by decide +kernel
theorem dX7_begin_58 : decode cX7_begin 58 = .ok (.invokevirtual 47, 3) := by decide +kernel
theorem dX7_begin_61 : decode cX7_begin 61 = .ok (.invokevirtual 38, 3) := by decide +kernel
theorem dX7_begin_64 : decode cX7_begin 64 = .ok (.invokevirtual 50, 3) := by decide +kernel
theorem dX7_begin_67 : decode cX7_begin 67 = .ok (.iinc 2 1, 3) := by decide +kernel
theorem dX7_begin_70 : decode cX7_begin 70 = .ok (.goto (-24), 3) := by decide +kernel
theorem dX7_begin_73 : decode cX7_begin 73 = .ok (.return_, 1) := by decide +kernel
theorem dX8_release_0 : decode cX8_release 0 = .ok (.iload_n 1, 1) := by decide +kernel
theorem dX8_release_1 : decode cX8_release 1 = .ok (.ifCond .le 16, 3) := by decide +kernel
theorem dX8_release_4 : decode cX8_release 4 = .ok (.iload_n 1, 1) := by decide +kernel
theorem dX8_release_5 : decode cX8_release 5 = .ok (.aload_n 0, 1) := by decide +kernel
theorem dX8_release_6 : decode cX8_release 6 = .ok (.getfield 21, 3) := by decide +kernel
theorem dX8_release_9 : decode cX8_release 9 = .ok (.if_icmp .ge 8, 3) := by decide +kernel
theorem dX8_release_12 : decode cX8_release 12 = .ok (.aload_n 0, 1) := by decide +kernel
theorem dX8_release_13 : decode cX8_release 13 = .ok (.iload_n 1, 1) := by decide +kernel
theorem dX8_release_14 : decode cX8_release 14 = .ok (.putfield 21, 3) := by decide +kernel
theorem dX8_release_17 : decode cX8_release 17 = .ok (.return_, 1) := by decide +kernel
theorem dX4_begin_0 : decode cX4_begin 0 = .ok (.aload_n 0, 1) := by decide +kernel
theorem dX4_begin_1 : decode cX4_begin 1 = .ok (.aload_n 1, 1) := by decide +kernel
theorem dX4_begin_2 : decode cX4_begin 2 = .ok (.putfield 15, 3) := by decide +kernel
theorem dX4_begin_5 : decode cX4_begin 5 = .ok (.aload_n 0, 1) := by decide +kernel
theorem dX4_begin_6 : decode cX4_begin 6 = .ok (.iload_n 2, 1) := by decide +kernel
theorem dX4_begin_7 : decode cX4_begin 7 = .ok (.putfield 37, 3) := by decide +kernel
theorem dX4_begin_10 : decode cX4_begin 10 = .ok (.aload_n 0, 1) := by decide +kernel
theorem dX4_begin_11 : decode cX4_begin 11 = .ok (.aload 4, 2) := by decide +kernel
theorem dX4_begin_13 : decode cX4_begin 13 = .ok (.putfield 21, 3) := by decide +kernel
theorem dX4_begin_16 : decode cX4_begin 16 = .ok (.aload_n 0, 1) := by decide +kernel
theorem dX4_begin_17 : decode cX4_begin 17 = .ok (.iconst 0, 1) := by decide +kernel
theorem dX4_begin_18 : decode cX4_begin 18 = .ok (.putfield 41, 3) := by decide +kernel
theorem dX4_begin_21 : decode cX4_begin 21 = .ok (.aload_n 0, 1) := by decide +kernel
theorem dX4_begin_22 : decode cX4_begin 22 = .ok (.iconst (-1), 1) := by decide +kernel
theorem dX4_begin_23 : decode cX4_begin 23 = .ok (.putfield 44, 3) := by decide +kernel
theorem dX4_begin_26 : decode cX4_begin 26 = .ok (.aload_n 0, 1) := by decide +kernel
theorem dX4_begin_27 : decode cX4_begin 27 = .ok (.getfield 25, 3) := by decide +kernel
theorem dX4_begin_30 : decode cX4_begin 30 = .ok (.aload_n 3, 1) := by decide +kernel
theorem dX4_begin_31 : decode cX4_begin 31 = .ok (.invokevirtual 47, 3) := by decide +kernel
theorem dX4_begin_34 : decode cX4_begin 34 = .ok (.aload_n 0, 1) := by decide +kernel
theorem dX4_begin_35 : decode cX4_begin 35 = .ok (.getfield 29, 3) := by decide +kernel
theorem dX4_begin_38 : decode cX4_begin 38 = .ok (.iconst 1, 1) := by decide +kernel
theorem dX4_begin_39 : decode cX4_begin 39 = .ok (.invokevirtual 55, 3) := by decide +kernel
theorem dX4_begin_42 : decode cX4_begin 42 = .ok (.aload_n 0, 1) := by decide +kernel
theorem dX4_begin_43 : decode cX4_begin 43 = .ok (.getfield 9, 3) := by decide +kernel
theorem dX4_begin_46 : decode cX4_begin 46 = .ok (.iconst 0, 1) := by decide +kernel
theorem dX4_begin_47 : decode cX4_begin 47 = .ok (.iconst 0, 1) := by decide +kernel
theorem dX4_begin_48 : decode cX4_begin 48 = .ok (.iastore, 1) := by decide +kernel
theorem dX4_begin_49 : decode cX4_begin 49 = .ok (.return_, 1) := by decide +kernel
theorem dX4_peek_0 : decode cX4_peek 0 = .ok (.aload_n 0, 1) := by decide +kernel
theorem dX4_peek_1 : decode cX4_peek 1 = .ok (.getfield 41, 3) := by decide +kernel
theorem dX4_peek_4 : decode cX4_peek 4 = .ok (.ifCond .lt 38, 3) := by decide +kernel
theorem dX4_peek_7 : decode cX4_peek 7 = .ok (.aload_n 0, 1) := by decide +kernel
theorem dX4_peek_8 : decode cX4_peek 8 = .ok (.getfield 41, 3) := by decide +kernel
theorem dX4_peek_11 : decode cX4_peek 11 = .ok (.aload_n 0, 1) := by decide +kernel
theorem dX4_peek_12 : decode cX4_peek 12 = .ok (.getfield 37, 3) := by decide +kernel
theorem dX4_peek_15 : decode cX4_peek 15 = .ok (.if_icmp .ge 27, 3) := by decide +kernel
theorem dX4_peek_18 : decode cX4_peek 18 = .ok (.aload_n 0, 1) := by decide +kernel
theorem dX4_peek_19 : decode cX4_peek 19 = .ok (.getfield 41, 3) := by decide +kernel
theorem dX4_peek_22 : decode cX4_peek 22 = .ok (.aload_n 0, 1) := by decide +kernel
theorem dX4_peek_23 : decode cX4_peek 23 = .ok (.getfield 15, 3) := by decide +kernel
theorem dX4_peek_26 : decode cX4_peek 26 = .ok (.arraylength, 1) := by decide +kernel
theorem dX4_peek_27 : decode cX4_peek 27 = .ok (.if_icmp .ge 15, 3) := by decide +kernel
theorem dX4_peek_30 : decode cX4_peek 30 = .ok (.aload_n 0, 1) := by decide +kernel
theorem dX4_peek_31 : decode cX4_peek 31 = .ok (.getfield 15, 3) := by decide +kernel
theorem dX4_peek_34 : decode cX4_peek 34 = .ok (.aload_n 0, 1) := by decide +kernel
theorem dX4_peek_35 : decode cX4_peek 35 = .ok (.getfield 41, 3) := by decide +kernel
theorem dX4_peek_38 : decode cX4_peek 38 = .ok (.iaload, 1) := by decide +kernel
theorem dX4_peek_39 : decode cX4_peek 39 = .ok (.goto 4, 3) := by decide +kernel
theorem dX4_peek_42 : decode cX4_peek 42 = .ok (.iconst (-1), 1) := by decide +kernel
theorem dX4_peek_43 : decode cX4_peek 43 = .ok (.ireturn, 1) := by decide +kernel
theorem dX7_isFamily_0 : decode cX7_isFamily 0 = .ok (.iload_n 1, 1) := by decide +kernel
theorem dX7_isFamily_1 : decode cX7_isFamily 1 = .ok (.bipush 65, 2) := by decide +kernel
theorem dX7_isFamily_3 : decode cX7_isFamily 3 = .ok (.if_icmp .lt 18, 3) := by decide +kernel
theorem dX7_isFamily_6 : decode cX7_isFamily 6 = .ok (.iload_n 1, 1) := by decide +kernel
theorem dX7_isFamily_7 : decode cX7_isFamily 7 = .ok (.bipush 65, 2) := by decide +kernel
theorem dX7_isFamily_9 : decode cX7_isFamily 9 = .ok (.isub, 1) := by decide +kernel
theorem dX7_isFamily_10 : decode cX7_isFamily 10 = .ok (.aload_n 0, 1) := by decide +kernel
theorem dX7_isFamily_11 : decode cX7_isFamily 11 = .ok (.getfield 25, 3) := by decide +kernel
theorem dX7_isFamily_14 : decode cX7_isFamily 14 = .ok (.if_icmp .ge 7, 3) := by decide +kernel
theorem dX7_isFamily_17 : decode cX7_isFamily 17 = .ok (.iconst 1, 1) := by decide +kernel
theorem dX7_isFamily_18 : decode cX7_isFamily 18 = .ok (.goto 4, 3) := by decide +kernel
theorem dX7_isFamily_21 : decode cX7_isFamily 21 = .ok (.iconst 0, 1) := by decide +kernel
theorem dX7_isFamily_22 : decode cX7_isFamily 22 = .ok (.ireturn, 1) := by decide +kernel
theorem dX4_refuse_0 : decode cX4_refuse 0 = .ok (.aload_n 0, 1) := by decide +kernel
theorem dX4_refuse_1 : decode cX4_refuse 1 = .ok (.iload_n 1, 1) := by decide +kernel
theorem dX4_refuse_2 : decode cX4_refuse 2 = .ok (.putfield 44, 3) := by decide +kernel
theorem dX4_refuse_5 : decode cX4_refuse 5 = .ok (.iconst (-1), 1) := by decide +kernel
theorem dX4_refuse_6 : decode cX4_refuse 6 = .ok (.ireturn, 1) := by decide +kernel
theorem dX7_indexTypeOf_0 : decode cX7_indexTypeOf 0 = .ok (.iload_n 1, 1) := by decide +kernel
theorem dX7_indexTypeOf_1 : decode cX7_indexTypeOf 1 = .ok (.bipush 65, 2) := by decide +kernel
theorem dX7_indexTypeOf_3 : decode cX7_indexTypeOf 3 = .ok (.isub, 1) := by decide +kernel
theorem dX7_indexTypeOf_4 : decode cX7_indexTypeOf 4 = .ok (.istore_n 2, 1) := by decide +kernel
theorem dX7_indexTypeOf_5 : decode cX7_indexTypeOf 5 = .ok (.iload_n 2, 1) := by decide +kernel
theorem dX7_indexTypeOf_6 : decode cX7_indexTypeOf 6 = .ok (.ifCond .lt 25, 3) := by decide +kernel
theorem dX7_indexTypeOf_9 : decode cX7_indexTypeOf 9 = .ok (.iload_n 2, 1) := by decide +kernel
theorem dX7_indexTypeOf_10 : decode cX7_indexTypeOf 10 = .ok (.aload_n 0, 1) := by decide +kernel
theorem dX7_indexTypeOf_11 : decode cX7_indexTypeOf 11 = .ok (.getfield 25, 3) := by decide +kernel
theorem dX7_indexTypeOf_14 : decode cX7_indexTypeOf 14 = .ok (.if_icmp .ge 17, 3) := by decide +kernel
theorem dX7_indexTypeOf_17 : decode cX7_indexTypeOf 17 = .ok (.iload_n 2, 1) := by decide +kernel
theorem dX7_indexTypeOf_18 : decode cX7_indexTypeOf 18 = .ok (.iconst 3, 1) := by decide +kernel
theorem dX7_indexTypeOf_19 : decode cX7_indexTypeOf 19 = .ok (.if_icmp .ge 12, 3) := by decide +kernel
theorem dX7_indexTypeOf_22 : decode cX7_indexTypeOf 22 = .ok (.aload_n 0, 1) := by decide +kernel
theorem dX7_indexTypeOf_23 : decode cX7_indexTypeOf 23 = .ok (.getfield 15, 3) := by decide +kernel
theorem dX7_indexTypeOf_26 : decode cX7_indexTypeOf 26 = .ok (.iload_n 2, 1) := by decide +kernel
theorem dX7_indexTypeOf_27 : decode cX7_indexTypeOf 27 = .ok (.iaload, 1) := by decide +kernel
theorem dX7_indexTypeOf_28 : decode cX7_indexTypeOf 28 = .ok (.goto 4, 3) := by decide +kernel
theorem dX7_indexTypeOf_31 : decode cX7_indexTypeOf 31 = .ok (.iconst (-1), 1) := by decide +kernel
theorem dX7_indexTypeOf_32 : decode cX7_indexTypeOf 32 = .ok (.ireturn, 1) := by decide +kernel
theorem dX9_begin_0 : decode cX9_begin 0 = .ok (.aload_n 0, 1) := by decide +kernel
theorem dX9_begin_1 : decode cX9_begin 1 = .ok (.aload_n 0, 1) := by decide +kernel
theorem dX9_begin_2 : decode cX9_begin 2 = .ok (.getfield 9, 3) := by decide +kernel
theorem dX9_begin_5 : decode cX9_begin 5 = .ok (.getfield 33, 3) := by decide +kernel
theorem dX9_begin_8 : decode cX9_begin 8 = .ok (.putfield 39, 3) := by decide +kernel
theorem dX9_begin_11 : decode cX9_begin 11 = .ok (.aload_n 0, 1) := by decide +kernel
theorem dX9_begin_12 : decode cX9_begin 12 = .ok (.iconst 0, 1) := by decide +kernel
theorem dX9_begin_13 : decode cX9_begin 13 = .ok (.putfield 42, 3) := by decide +kernel
theorem dX9_begin_16 : decode cX9_begin 16 = .ok (.return_, 1) := by decide +kernel
set_option maxHeartbeats 4000000 in
set_option maxRecDepth 20000 in
theorem b_Form_signAt_24 {p : Program} {l : Launch} {e : Env} {s : State} {m : MethodId} {args : Array Value} {below : List Frame} {meth : Method} {c : Code} {D : va_G} {cy : Nat → ClassId} {ad : Nat → Nat} {q : Int32 × CS} {t : Nat}  (C : vC p s m args meth c cX1_signAt 2 (some .int) RX1 D (cyT cy)) (hA : adOK ad) : ∀ (s0 : Int32) (σ : CS), B_Form_signAt_24 t s0 σ = some q → V p l e { frames := 0, cells := 0, slots := 0, locals := 0 } s m args below meth c D (inC ad) 2 (MQ below (vQ D (inC ad) (some (.int q.1)) (wc cy ad q.2)) args s 0 0 (inC ad)) 0 0 (wc cy ad σ) 24 [(0, .ref (ad t))] [.int s0] := by
  intro s0 σ h
  rw [B_Form_signAt_24] at h
  obtain rfl := Option.some.inj h
  exact v_iret C dX1_signAt_24
set_option maxHeartbeats 4000000 in
set_option maxRecDepth 20000 in
theorem b_Form_signAt_22 {p : Program} {l : Launch} {e : Env} {s : State} {m : MethodId} {args : Array Value} {below : List Frame} {meth : Method} {c : Code} {D : va_G} {cy : Nat → ClassId} {ad : Nat → Nat} {q : Int32 × CS} {t : Nat}  (C : vC p s m args meth c cX1_signAt 2 (some .int) RX1 D (cyT cy)) (hA : adOK ad) {k24 : Int32 → CS → Option (Int32 × CS)} (hk24 : ∀ (s0 : Int32) (σ : CS), k24 s0 σ = some q → V p l e { frames := 0, cells := 0, slots := 0, locals := 0 } s m args below meth c D (inC ad) 2 (MQ below (vQ D (inC ad) (some (.int q.1)) (wc cy ad q.2)) args s 0 0 (inC ad)) 0 0 (wc cy ad σ) 24 [(0, .ref (ad t))] [.int s0]) : ∀ (σ : CS), B_Form_signAt_22 t k24 σ = some q → V p l e { frames := 0, cells := 0, slots := 0, locals := 0 } s m args below meth c D (inC ad) 2 (MQ below (vQ D (inC ad) (some (.int q.1)) (wc cy ad q.2)) args s 0 0 (inC ad)) 0 0 (wc cy ad σ) 22 [(0, .ref (ad t))] [] := by
  intro σ h
  rw [B_Form_signAt_22] at h
  refine v_bipush C (-9) dX1_signAt_22 (by decide) ?_
  exact v_sub [0] rfl (hk24 _ _ h)
set_option maxHeartbeats 4000000 in
set_option maxRecDepth 20000 in
theorem c_Form_signAt {l : Launch} {D : va_G} {cy : Nat → ClassId} {ad : Nat → Nat} {q : Int32 × CS} (hA : adOK ad) (t : Nat) (x1 : Int32) (σ : CS) (h : f_Form_signAt t x1 σ = some q) : MV l D (cyT cy) (inC ad) yX1_signAt cX1_signAt 2 (some .int) (0) (0) 0 0 [.ref (ad t), .int x1] (wc cy ad σ) (some (.int q.1)) (wc cy ad q.2) := by
  refine MV.of (by decide) (wc_D hA cy σ) (Nat.le_of_ble_eq_true rfl) [(0, .ref (ad t)), (1, .int x1)] rfl ?_
  intro p e s m args below meth c C
  rw [f_Form_signAt] at h
  refine v_iload_n C 1 dX1_signAt_0 rfl rfl ?_
  refine v_if_lt C 22 dX1_signAt_1 (by decide) (fun c1 => ?_) (fun c1 => ?_)
  · rw [if_pos c1] at h
    exact v_sub [0] rfl ((b_Form_signAt_22 C hA (b_Form_signAt_24 C hA)) _ h)
  · rw [if_neg c1] at h
    refine v_iload_n C 1 dX1_signAt_4 rfl rfl ?_
    refine v_aload_n C 0 dX1_signAt_5 rfl rfl ?_
    obtain ⟨g1, h⟩ := gd_of h
    refine c_getR C fl_1_9 rfl g1 dX1_signAt_6 ?_
    obtain ⟨a1, ha1, h⟩ := bd_of h
    rw [ha1]
    obtain ⟨g2, h⟩ := gd_of h
    refine c_alen C g2 dX1_signAt_9 ?_
    refine v_icmp_ge C 22 dX1_signAt_10 (by decide) (fun c2 => ?_) (fun c2 => ?_)
    · rw [if_pos c2] at h
      exact v_sub [0] rfl ((b_Form_signAt_22 C hA (b_Form_signAt_24 C hA)) _ h)
    · rw [if_neg c2] at h
      refine v_aload_n C 0 dX1_signAt_13 rfl rfl ?_
      obtain ⟨g3, h⟩ := gd_of h
      refine c_getR C fl_1_9 rfl g3 dX1_signAt_14 ?_
      refine v_iload_n C 1 dX1_signAt_17 rfl rfl ?_
      obtain ⟨a2, ha2, h⟩ := bd_of h
      rw [ha2]
      obtain ⟨g4, h⟩ := gd_of h
      obtain ⟨g5, h⟩ := gd_of h
      refine c_iald C g4 (ix_in g5) dX1_signAt_18 ?_
      refine v_goto C 24 dX1_signAt_19 (by decide) ?_
      exact v_sub [0] rfl ((b_Form_signAt_24 C hA) _ _ h)
set_option maxHeartbeats 4000000 in
set_option maxRecDepth 20000 in
theorem l_Form_equalTo_17 {p : Program} {l : Launch} {e : Env} {s : State} {m : MethodId} {args : Array Value} {below : List Frame} {meth : Method} {c : Code} {D : va_G} {cy : Nat → ClassId} {ad : Nat → Nat} {q : Int32 × CS} {t : Nat}  (C : vC p s m args meth c cX1_equalTo 3 (some .boolean) RX1 D (cyT cy)) (hA : adOK ad) : ∀ (n : Nat) (x1 : Option Nat) (x2 : Int32) (σ : CS), L_Form_equalTo_17 t n x1 x2 σ = some q → V p l e { frames := 1, cells := 0, slots := 0, locals := 21 } s m args below meth c D (inC ad) 3 (MQ below (vQ D (inC ad) (some (.int q.1)) (wc cy ad q.2)) args s 0 0 (inC ad)) 0 0 (wc cy ad σ) 17 [(0, .ref (ad t)), (1, va_rf (Option.map ad x1)), (2, .int x2)] [] := by
  intro n
  induction n with
  | zero =>
    intro x1 x2 σ h
    rw [L_Form_equalTo_17.eq_1] at h
    cases h
  | succ n ih =>
    intro x1 x2 σ h
    rw [L_Form_equalTo_17.eq_2] at h
    refine v_iload_n C 2 dX1_equalTo_17 rfl rfl ?_
    refine v_aload_n C 0 dX1_equalTo_18 rfl rfl ?_
    obtain ⟨g1, h⟩ := gd_of h
    refine c_getR C fl_1_9 rfl g1 dX1_equalTo_19 ?_
    obtain ⟨a1, ha1, h⟩ := bd_of h
    rw [ha1]
    obtain ⟨g2, h⟩ := gd_of h
    refine c_alen C g2 dX1_equalTo_22 ?_
    refine v_icmp_ge C 48 dX1_equalTo_23 (by decide) (fun c1 => ?_) (fun c1 => ?_)
    · rw [if_pos c1] at h
      refine v_iconst C 1 dX1_equalTo_48 (by decide) ?_
      obtain rfl := Option.some.inj h
      exact v_zret C (Or.inr rfl) dX1_equalTo_49
    · rw [if_neg c1] at h
      refine v_aload_n C 0 dX1_equalTo_26 rfl rfl ?_
      obtain ⟨g3, h⟩ := gd_of h
      refine c_getR C fl_1_9 rfl g3 dX1_equalTo_27 ?_
      refine v_iload_n C 2 dX1_equalTo_30 rfl rfl ?_
      obtain ⟨a2, ha2, h⟩ := bd_of h
      rw [ha2]
      obtain ⟨g4, h⟩ := gd_of h
      obtain ⟨g5, h⟩ := gd_of h
      refine c_iald C g4 (ix_in g5) dX1_equalTo_31 ?_
      refine c_aload_n C x1 1 dX1_equalTo_32 rfl rfl ?_
      refine v_iload_n C 2 dX1_equalTo_33 rfl rfl ?_
      obtain ⟨a3, ha3, h⟩ := bd_of h
      rw [ha3]
      obtain ⟨g6, h⟩ := gd_of h
      obtain ⟨q1, hq1, h⟩ := bd_of h
      refine c_call C [.int x2] [.int (σ.1 a2 (x2 : Int32).toNatClampNeg)] (c_Form_signAt hA _ _ _ hq1) hY_Form_signAt rfl (by decide) g6 ml_1_15 ⟨(by omega : 0 + 1 ≤ 1), (by omega : 8 + (2 + 11) + 0 ≤ 21)⟩ ⟨Nat.zero_le _, Nat.zero_le _⟩ rfl rfl (Nat.le_of_ble_eq_true rfl) dX1_equalTo_34 (wc_D hA cy _) ?_
      refine v_icmp_eq C 42 dX1_equalTo_37 (by decide) (fun c2 => ?_) (fun c2 => ?_)
      · rw [if_pos c2] at h
        refine v_iinc C (x2 + 1) 2 [(2, .int (x2 + 1)), (0, .ref (ad t)), (1, .ref (ad a3))] dX1_equalTo_42 rfl rfl (by decide) rfl ?_
        refine v_goto C 17 dX1_equalTo_45 (by decide) ?_
        exact v_sub [1, 2, 0] rfl (ih _ _ _ h)
      · rw [if_neg c2] at h
        refine v_iconst C 0 dX1_equalTo_40 (by decide) ?_
        obtain rfl := Option.some.inj h
        exact v_zret C (Or.inl rfl) dX1_equalTo_41
set_option maxHeartbeats 4000000 in
set_option maxRecDepth 20000 in
theorem c_Form_equalTo {l : Launch} {D : va_G} {cy : Nat → ClassId} {ad : Nat → Nat} {q : Int32 × CS} (hA : adOK ad) (t : Nat) (x1 : Option Nat) (σ : CS) (h : f_Form_equalTo t x1 σ = some q) : MV l D (cyT cy) (inC ad) yX1_equalTo cX1_equalTo 3 (some .boolean) (1) (21) 0 0 [.ref (ad t), va_rf (Option.map ad x1)] (wc cy ad σ) (some (.int q.1)) (wc cy ad q.2) := by
  refine MV.of (by decide) (wc_D hA cy σ) (by cases x1 <;> exact Nat.le_of_ble_eq_true rfl) [(0, .ref (ad t)), (1, va_rf (Option.map ad x1))] (by cases x1 <;> rfl) ?_
  intro p e s m args below meth c C
  rw [f_Form_equalTo] at h
  refine v_aload_n C 0 dX1_equalTo_0 rfl rfl ?_
  obtain ⟨g1, h⟩ := gd_of h
  refine c_getR C fl_1_9 rfl g1 dX1_equalTo_1 ?_
  obtain ⟨a1, ha1, h⟩ := bd_of h
  rw [ha1]
  obtain ⟨g2, h⟩ := gd_of h
  refine c_alen C g2 dX1_equalTo_4 ?_
  refine c_aload_n C x1 1 dX1_equalTo_5 rfl rfl ?_
  obtain ⟨a2, ha2, h⟩ := bd_of h
  rw [ha2]
  obtain ⟨g3, h⟩ := gd_of h
  refine c_getR C fl_1_9 rfl g3 dX1_equalTo_6 ?_
  obtain ⟨a3, ha3, h⟩ := bd_of h
  rw [ha3]
  obtain ⟨g4, h⟩ := gd_of h
  refine c_alen C g4 dX1_equalTo_9 ?_
  refine v_icmp_eq C 15 dX1_equalTo_10 (by decide) (fun c1 => ?_) (fun c1 => ?_)
  · rw [if_pos c1] at h
    refine v_iconst C 0 dX1_equalTo_15 (by decide) ?_
    refine v_istore_n C [(2, .int 0), (0, .ref (ad t)), (1, .ref (ad a2))] dX1_equalTo_16 rfl (by decide) rfl ?_
    exact v_sub [1, 2, 0] rfl ((l_Form_equalTo_17 C hA 10000) _ _ _ h)
  · rw [if_neg c1] at h
    refine v_iconst C 0 dX1_equalTo_13 (by decide) ?_
    obtain rfl := Option.some.inj h
    exact v_zret C (Or.inl rfl) dX1_equalTo_14
set_option maxHeartbeats 4000000 in
set_option maxRecDepth 20000 in
theorem b_Entry_likeness_35 {p : Program} {l : Launch} {e : Env} {s : State} {m : MethodId} {args : Array Value} {below : List Frame} {meth : Method} {c : Code} {D : va_G} {cy : Nat → ClassId} {ad : Nat → Nat} {q : Int32 × CS} {t : Nat}  (C : vC p s m args meth c cX0_likeness 2 (some .int) RX0 D (cyT cy)) (hA : adOK ad) : ∀ (s0 : Int32) (σ : CS), B_Entry_likeness_35 t s0 σ = some q → V p l e { frames := 2, cells := 0, slots := 0, locals := 43 } s m args below meth c D (inC ad) 2 (MQ below (vQ D (inC ad) (some (.int q.1)) (wc cy ad q.2)) args s 0 0 (inC ad)) 0 0 (wc cy ad σ) 35 [(0, .ref (ad t))] [.int s0] := by
  intro s0 σ h
  rw [B_Entry_likeness_35] at h
  obtain rfl := Option.some.inj h
  exact v_iret C dX0_likeness_35
set_option maxHeartbeats 4000000 in
set_option maxRecDepth 20000 in
theorem c_Entry_likeness {l : Launch} {D : va_G} {cy : Nat → ClassId} {ad : Nat → Nat} {q : Int32 × CS} (hA : adOK ad) (t : Nat) (x1 : Option Nat) (σ : CS) (h : f_Entry_likeness t x1 σ = some q) : MV l D (cyT cy) (inC ad) yX0_likeness cX0_likeness 2 (some .int) (2) (43) 0 0 [.ref (ad t), va_rf (Option.map ad x1)] (wc cy ad σ) (some (.int q.1)) (wc cy ad q.2) := by
  refine MV.of (by decide) (wc_D hA cy σ) (by cases x1 <;> exact Nat.le_of_ble_eq_true rfl) [(0, .ref (ad t)), (1, va_rf (Option.map ad x1))] (by cases x1 <;> rfl) ?_
  intro p e s m args below meth c C
  rw [f_Entry_likeness] at h
  refine v_aload_n C 0 dX0_likeness_0 rfl rfl ?_
  obtain ⟨g1, h⟩ := gd_of h
  refine c_getR C fl_0_7 rfl g1 dX0_likeness_1 ?_
  refine c_aload_n C x1 1 dX0_likeness_4 rfl rfl ?_
  obtain ⟨a1, ha1, h⟩ := bd_of h
  rw [ha1]
  obtain ⟨g2, h⟩ := gd_of h
  refine c_getR C fl_0_7 rfl g2 dX0_likeness_5 ?_
  obtain ⟨a2, ha2, h⟩ := bd_of h
  rw [ha2]
  obtain ⟨g3, h⟩ := gd_of h
  obtain ⟨q1, hq1, h⟩ := bd_of h
  refine c_call C [va_rf (Option.map ad (rfv σ a1 0))] [] (c_Form_equalTo hA _ _ _ hq1) hY_Form_equalTo rfl (by decide) g3 ml_0_16 ⟨(by omega : 1 + 1 ≤ 2), (by omega : 8 + (3 + 11) + 21 ≤ 43)⟩ ⟨Nat.zero_le _, Nat.zero_le _⟩ rfl rfl (Nat.le_of_ble_eq_true rfl) dX0_likeness_8 (wc_D hA cy _) ?_
  refine v_if_ne C 16 dX0_likeness_11 (by decide) (fun c1 => ?_) (fun c1 => ?_)
  · rw [if_neg c1] at h
    refine v_aload_n C 0 dX0_likeness_16 rfl rfl ?_
    obtain ⟨g4, h⟩ := gd_of h
    refine c_getR C fl_0_13 rfl g4 dX0_likeness_17 ?_
    refine v_aload_n C 1 dX0_likeness_20 rfl rfl ?_
    obtain ⟨g5, h⟩ := gd_of h
    refine c_getR C fl_0_13 rfl g5 dX0_likeness_21 ?_
    obtain ⟨a3, ha3, h⟩ := bd_of h
    rw [ha3]
    obtain ⟨g6, h⟩ := gd_of h
    obtain ⟨q2, hq2, h⟩ := bd_of h
    refine c_call C [va_rf (Option.map ad (rfv q1.2 a1 1))] [] (c_Form_equalTo hA _ _ _ hq2) hY_Form_equalTo rfl (by decide) g6 ml_0_16 ⟨(by omega : 1 + 1 ≤ 2), (by omega : 8 + (3 + 11) + 21 ≤ 43)⟩ ⟨Nat.zero_le _, Nat.zero_le _⟩ rfl rfl (Nat.le_of_ble_eq_true rfl) dX0_likeness_24 (wc_D hA cy _) ?_
    refine v_if_eq C 34 dX0_likeness_27 (by decide) (fun c2 => ?_) (fun c2 => ?_)
    · rw [if_pos c2] at h
      refine v_iconst C 1 dX0_likeness_34 (by decide) ?_
      exact v_sub [0] rfl ((b_Entry_likeness_35 C hA) _ _ h)
    · rw [if_neg c2] at h
      refine v_iconst C 2 dX0_likeness_30 (by decide) ?_
      refine v_goto C 35 dX0_likeness_31 (by decide) ?_
      exact v_sub [0] rfl ((b_Entry_likeness_35 C hA) _ _ h)
  · rw [if_pos c1] at h
    refine v_iconst C 0 dX0_likeness_14 (by decide) ?_
    obtain rfl := Option.some.inj h
    exact v_iret C dX0_likeness_15
set_option maxHeartbeats 4000000 in
set_option maxRecDepth 20000 in
theorem l_Shelf_become_10 {p : Program} {l : Launch} {e : Env} {s : State} {m : MethodId} {args : Array Value} {below : List Frame} {meth : Method} {c : Code} {D : va_G} {cy : Nat → ClassId} {ad : Nat → Nat} {q : Int32 × CS} {t : Nat}  (C : vC p s m args meth c cX5_become 3 none RX5 D (cyT cy)) (hA : adOK ad) : ∀ (n : Nat) (x1 : Option Nat) (x2 : Int32) (σ : CS), L_Shelf_become_10 t n x1 x2 σ = some q → V p l e { frames := 0, cells := 0, slots := 0, locals := 0 } s m args below meth c D (inC ad) 3 (MQ below (vQ D (inC ad) none (wc cy ad q.2)) args s 0 0 (inC ad)) 0 0 (wc cy ad σ) 10 [(0, .ref (ad t)), (1, va_rf (Option.map ad x1)), (2, .int x2)] [] := by
  intro n
  induction n with
  | zero =>
    intro x1 x2 σ h
    rw [L_Shelf_become_10.eq_1] at h
    cases h
  | succ n ih =>
    intro x1 x2 σ h
    rw [L_Shelf_become_10.eq_2] at h
    refine v_iload_n C 2 dX5_become_10 rfl rfl ?_
    refine v_bipush C 6 dX5_become_11 (by decide) ?_
    refine v_icmp_ge C 34 dX5_become_13 (by decide) (fun c1 => ?_) (fun c1 => ?_)
    · rw [if_pos c1] at h
      obtain rfl := Option.some.inj h
      exact v_vret C dX5_become_34
    · rw [if_neg c1] at h
      refine v_aload_n C 0 dX5_become_16 rfl rfl ?_
      obtain ⟨g1, h⟩ := gd_of h
      refine c_getR C fl_5_11 rfl g1 dX5_become_17 ?_
      refine v_iload_n C 2 dX5_become_20 rfl rfl ?_
      refine c_aload_n C x1 1 dX5_become_21 rfl rfl ?_
      obtain ⟨a1, ha1, h⟩ := bd_of h
      rw [ha1]
      obtain ⟨g2, h⟩ := gd_of h
      refine c_getR C fl_5_11 rfl g2 dX5_become_22 ?_
      refine v_iload_n C 2 dX5_become_25 rfl rfl ?_
      obtain ⟨a2, ha2, h⟩ := bd_of h
      rw [ha2]
      obtain ⟨g3, h⟩ := gd_of h
      obtain ⟨g4, h⟩ := gd_of h
      refine c_aald C g3 (by decide) rfl (ix_in g4) dX5_become_26 ?_
      obtain ⟨a3, ha3, h⟩ := bd_of h
      rw [ha3]
      obtain ⟨g5, h⟩ := gd_of h
      obtain ⟨g6, h⟩ := gd_of h
      obtain ⟨g7, h⟩ := gd_of h
      refine c_aast C (q := (RX0, TX0, 2)) (ci := 0) (rfv σ a2 (x2 : Int32).toNatClampNeg) g5 (by decide) rfl rfl (by decide) (srf_E (σ := σ) g5) (okr_at g7) (ix_in g6) dX5_become_27 ?_
      refine v_iinc C (x2 + 1) 2 [(2, .int (x2 + 1)), (0, .ref (ad t)), (1, .ref (ad a1))] dX5_become_28 rfl rfl (by decide) rfl ?_
      refine v_goto C 10 dX5_become_31 (by decide) ?_
      exact v_sub [1, 2, 0] rfl (ih _ _ _ h)
set_option maxHeartbeats 4000000 in
set_option maxRecDepth 20000 in
theorem c_Shelf_become {l : Launch} {D : va_G} {cy : Nat → ClassId} {ad : Nat → Nat} {q : Int32 × CS} (hA : adOK ad) (t : Nat) (x1 : Option Nat) (σ : CS) (h : f_Shelf_become t x1 σ = some q) : MV l D (cyT cy) (inC ad) yX5_become cX5_become 3 none (0) (0) 0 0 [.ref (ad t), va_rf (Option.map ad x1)] (wc cy ad σ) none (wc cy ad q.2) := by
  refine MV.of (by decide) (wc_D hA cy σ) (by cases x1 <;> exact Nat.le_of_ble_eq_true rfl) [(0, .ref (ad t)), (1, va_rf (Option.map ad x1))] (by cases x1 <;> rfl) ?_
  intro p e s m args below meth c C
  rw [f_Shelf_become] at h
  refine v_aload_n C 0 dX5_become_0 rfl rfl ?_
  refine c_aload_n C x1 1 dX5_become_1 rfl rfl ?_
  obtain ⟨a1, ha1, h⟩ := bd_of h
  rw [ha1]
  obtain ⟨g1, h⟩ := gd_of h
  refine c_getI C fl_5_17 rfl g1 dX5_become_2 ?_
  obtain ⟨g2, h⟩ := gd_of h
  refine c_putI C fl_5_17 fw_5_1 rfl (by decide) g2 dX5_become_5 ?_
  refine v_iconst C 0 dX5_become_8 (by decide) ?_
  refine v_istore_n C [(2, .int 0), (0, .ref (ad t)), (1, .ref (ad a1))] dX5_become_9 rfl (by decide) rfl ?_
  exact v_sub [1, 2, 0] rfl ((l_Shelf_become_10 C hA 10000) _ _ _ h)
set_option maxHeartbeats 4000000 in
set_option maxRecDepth 20000 in
theorem b_History_note_22 {p : Program} {l : Launch} {e : Env} {s : State} {m : MethodId} {args : Array Value} {below : List Frame} {meth : Method} {c : Code} {D : va_G} {cy : Nat → ClassId} {ad : Nat → Nat} {q : Int32 × CS}  (C : vC p s m args meth c cX2_note 2 none RX2 D (cyT cy)) (hA : adOK ad) : ∀ (x1 : Option Nat) (s0 : Int32) (σ : CS), B_History_note_22 x1 s0 σ = some q → V p l e { frames := 1, cells := 0, slots := 0, locals := 22 } s m args below meth c D (inC ad) 2 (MQ below (vQ D (inC ad) none (wc cy ad q.2)) args s 0 0 (inC ad)) 0 0 (wc cy ad σ) 22 [(0, .ref (ad 7)), (1, va_rf (Option.map ad x1))] [.int s0, .ref (ad 7)] := by
  intro x1 s0 σ h
  rw [B_History_note_22] at h
  refine c_putI C fl_2_18 fw_2_1 rfl (by decide) (okS _ 7 (by decide) rfl) dX2_note_22 ?_
  refine v_aload_n C 0 dX2_note_25 rfl rfl ?_
  refine c_getS C 8 fl_2_11 rfl rfl (by decide) (okS _ 7 (by decide) rfl) dX2_note_26 ?_
  refine v_aload_n C 0 dX2_note_29 rfl rfl ?_
  refine c_getI C fl_2_18 rfl (okS _ 7 (by decide) rfl) dX2_note_30 ?_
  obtain ⟨g1, h⟩ := gd_of h
  refine c_aald C (okS _ 8 (by decide) rfl) (by decide) rfl (ix_in g1) dX2_note_33 ?_
  refine c_aload_n C x1 1 dX2_note_34 rfl rfl ?_
  obtain ⟨a1, ha1, h⟩ := bd_of h
  rw [ha1]
  obtain ⟨g2, h⟩ := gd_of h
  obtain ⟨q1, hq1, h⟩ := bd_of h
  refine c_call C [va_rf (Option.map ad x1)] [] (c_Shelf_become hA _ _ _ hq1) hY_Shelf_become rfl (by decide) g2 ml_2_22 ⟨(by omega : 0 + 1 ≤ 1), (by omega : 8 + (3 + 11) + 0 ≤ 22)⟩ ⟨Nat.zero_le _, Nat.zero_le _⟩ rfl rfl (Nat.le_of_ble_eq_true rfl) dX2_note_35 (wc_D hA cy _) ?_
  refine v_aload_n C 0 dX2_note_38 rfl rfl ?_
  refine v_aload_n C 0 dX2_note_39 rfl rfl ?_
  refine c_getI C fl_2_26 rfl (okS _ 7 (by decide) rfl) dX2_note_40 ?_
  refine v_iconst C 1 dX2_note_43 (by decide) ?_
  refine v_iadd C dX2_note_44 ?_
  refine v_bipush C 8 dX2_note_45 (by decide) ?_
  refine c_min C ml_2_29 mm_1 mm_2 mm_3 (Nat.le_of_ble_eq_true rfl) (Nat.le_of_ble_eq_true rfl) (Nat.zero_le _) (Nat.zero_le _) dX2_note_47 ?_
  refine c_putI C fl_2_26 fw_2_2 rfl (by decide) (okS _ 7 (by decide) rfl) dX2_note_50 ?_
  obtain rfl := Option.some.inj h
  exact v_vret C dX2_note_53
set_option maxHeartbeats 4000000 in
set_option maxRecDepth 20000 in
theorem c_History_note {l : Launch} {D : va_G} {cy : Nat → ClassId} {ad : Nat → Nat} {q : Int32 × CS} (hA : adOK ad) (x1 : Option Nat) (σ : CS) (h : f_History_note x1 σ = some q) : MV l D (cyT cy) (inC ad) yX2_note cX2_note 2 none (1) (22) 0 0 [.ref (ad 7), va_rf (Option.map ad x1)] (wc cy ad σ) none (wc cy ad q.2) := by
  refine MV.of (by decide) (wc_D hA cy σ) (by cases x1 <;> exact Nat.le_of_ble_eq_true rfl) [(0, .ref (ad 7)), (1, va_rf (Option.map ad x1))] (by cases x1 <;> rfl) ?_
  intro p e s m args below meth c C
  rw [f_History_note] at h
  refine v_aload_n C 0 dX2_note_0 rfl rfl ?_
  refine v_aload_n C 0 dX2_note_1 rfl rfl ?_
  refine c_getI C fl_2_18 rfl (okS _ 7 (by decide) rfl) dX2_note_2 ?_
  refine v_iconst C 1 dX2_note_5 (by decide) ?_
  refine v_iadd C dX2_note_6 ?_
  refine v_bipush C 8 dX2_note_7 (by decide) ?_
  refine v_icmp_ge C 21 dX2_note_9 (by decide) (fun c1 => ?_) (fun c1 => ?_)
  · rw [if_pos c1] at h
    refine v_iconst C 0 dX2_note_21 (by decide) ?_
    exact v_sub [0, 1] rfl ((b_History_note_22 C hA) _ _ _ h)
  · rw [if_neg c1] at h
    refine v_aload_n C 0 dX2_note_12 rfl rfl ?_
    refine c_getI C fl_2_18 rfl (okS _ 7 (by decide) rfl) dX2_note_13 ?_
    refine v_iconst C 1 dX2_note_16 (by decide) ?_
    refine v_iadd C dX2_note_17 ?_
    refine v_goto C 22 dX2_note_18 (by decide) ?_
    exact v_sub [0, 1] rfl ((b_History_note_22 C hA) _ _ _ h)
set_option maxHeartbeats 4000000 in
set_option maxRecDepth 20000 in
theorem b_History_restore_40 {p : Program} {l : Launch} {e : Env} {s : State} {m : MethodId} {args : Array Value} {below : List Frame} {meth : Method} {c : Code} {D : va_G} {cy : Nat → ClassId} {ad : Nat → Nat} {q : Int32 × CS}  (C : vC p s m args meth c cX2_restore 2 none RX2 D (cyT cy)) (hA : adOK ad) : ∀ (s0 : Int32) (σ : CS), B_History_restore_40 s0 σ = some q → V p l e { frames := 1, cells := 0, slots := 0, locals := 22 } s m args below meth c D (inC ad) 2 (MQ below (vQ D (inC ad) none (wc cy ad q.2)) args s 0 0 (inC ad)) 0 0 (wc cy ad σ) 40 [(0, .ref (ad 7))] [.int s0, .ref (ad 7)] := by
  intro s0 σ h
  rw [B_History_restore_40] at h
  refine c_putI C fl_2_18 fw_2_1 rfl (by decide) (okS _ 7 (by decide) rfl) dX2_restore_40 ?_
  refine v_aload_n C 0 dX2_restore_43 rfl rfl ?_
  refine v_dup C dX2_restore_44 rfl ?_
  refine c_getI C fl_2_26 rfl (okS _ 7 (by decide) rfl) dX2_restore_45 ?_
  refine v_iconst C 1 dX2_restore_48 (by decide) ?_
  refine v_isub C dX2_restore_49 ?_
  refine c_putI C fl_2_26 fw_2_2 rfl (by decide) (okS _ 7 (by decide) rfl) dX2_restore_50 ?_
  obtain rfl := Option.some.inj h
  exact v_vret C dX2_restore_53
set_option maxHeartbeats 4000000 in
set_option maxRecDepth 20000 in
theorem c_History_restore {l : Launch} {D : va_G} {cy : Nat → ClassId} {ad : Nat → Nat} {q : Int32 × CS} (hA : adOK ad) (x1 : Option Nat) (σ : CS) (h : f_History_restore x1 σ = some q) : MV l D (cyT cy) (inC ad) yX2_restore cX2_restore 2 none (1) (22) 0 0 [.ref (ad 7), va_rf (Option.map ad x1)] (wc cy ad σ) none (wc cy ad q.2) := by
  refine MV.of (by decide) (wc_D hA cy σ) (by cases x1 <;> exact Nat.le_of_ble_eq_true rfl) [(0, .ref (ad 7)), (1, va_rf (Option.map ad x1))] (by cases x1 <;> rfl) ?_
  intro p e s m args below meth c C
  rw [f_History_restore] at h
  refine v_aload_n C 0 dX2_restore_0 rfl rfl ?_
  refine c_getI C fl_2_26 rfl (okS _ 7 (by decide) rfl) dX2_restore_1 ?_
  refine v_if_ne C 8 dX2_restore_4 (by decide) (fun c1 => ?_) (fun c1 => ?_)
  · rw [if_neg c1] at h
    refine c_aload_n C x1 1 dX2_restore_8 rfl rfl ?_
    refine v_aload_n C 0 dX2_restore_9 rfl rfl ?_
    refine c_getS C 8 fl_2_11 rfl rfl (by decide) (okS _ 7 (by decide) rfl) dX2_restore_10 ?_
    refine v_aload_n C 0 dX2_restore_13 rfl rfl ?_
    refine c_getI C fl_2_18 rfl (okS _ 7 (by decide) rfl) dX2_restore_14 ?_
    obtain ⟨g1, h⟩ := gd_of h
    refine c_aald C (okS _ 8 (by decide) rfl) (by decide) rfl (ix_in g1) dX2_restore_17 ?_
    obtain ⟨a1, ha1, h⟩ := bd_of h
    rw [ha1]
    obtain ⟨g2, h⟩ := gd_of h
    obtain ⟨q1, hq1, h⟩ := bd_of h
    refine c_call C [va_rf (Option.map ad (rfv σ 8 ((σ.1 7 1) : Int32).toNatClampNeg))] [] (c_Shelf_become hA _ _ _ hq1) hY_Shelf_become rfl (by decide) g2 ml_2_22 ⟨(by omega : 0 + 1 ≤ 1), (by omega : 8 + (3 + 11) + 0 ≤ 22)⟩ ⟨Nat.zero_le _, Nat.zero_le _⟩ rfl rfl (Nat.le_of_ble_eq_true rfl) dX2_restore_18 (wc_D hA cy _) ?_
    refine v_aload_n C 0 dX2_restore_21 rfl rfl ?_
    refine v_aload_n C 0 dX2_restore_22 rfl rfl ?_
    refine c_getI C fl_2_18 rfl (okS _ 7 (by decide) rfl) dX2_restore_23 ?_
    refine v_if_le C 38 dX2_restore_26 (by decide) (fun c2 => ?_) (fun c2 => ?_)
    · rw [if_pos c2] at h
      refine v_bipush C 7 dX2_restore_38 (by decide) ?_
      exact v_sub [0] rfl ((b_History_restore_40 C hA) _ _ h)
    · rw [if_neg c2] at h
      refine v_aload_n C 0 dX2_restore_29 rfl rfl ?_
      refine c_getI C fl_2_18 rfl (okS _ 7 (by decide) rfl) dX2_restore_30 ?_
      refine v_iconst C 1 dX2_restore_33 (by decide) ?_
      refine v_isub C dX2_restore_34 ?_
      refine v_goto C 40 dX2_restore_35 (by decide) ?_
      exact v_sub [0] rfl ((b_History_restore_40 C hA) _ _ h)
  · rw [if_pos c1] at h
    obtain rfl := Option.some.inj h
    exact v_vret C dX2_restore_7
set_option maxHeartbeats 4000000 in
set_option maxRecDepth 20000 in
theorem c_History_empty {l : Launch} {D : va_G} {cy : Nat → ClassId} {ad : Nat → Nat} {q : Int32 × CS} (hA : adOK ad) (σ : CS) (h : f_History_empty σ = some q) : MV l D (cyT cy) (inC ad) yX2_empty cX2_empty 1 none (0) (0) 0 0 [.ref (ad 7)] (wc cy ad σ) none (wc cy ad q.2) := by
  refine MV.of (by decide) (wc_D hA cy σ) (Nat.le_of_ble_eq_true rfl) [(0, .ref (ad 7))] rfl ?_
  intro p e s m args below meth c C
  rw [f_History_empty] at h
  refine v_aload_n C 0 dX2_empty_0 rfl rfl ?_
  refine v_iconst C 0 dX2_empty_1 (by decide) ?_
  refine c_putI C fl_2_26 fw_2_2 rfl (by decide) (okS _ 7 (by decide) rfl) dX2_empty_2 ?_
  obtain rfl := Option.some.inj h
  exact v_vret C dX2_empty_5
set_option maxHeartbeats 4000000 in
set_option maxRecDepth 20000 in
theorem b_Laws_addFamily_28 {p : Program} {l : Launch} {e : Env} {s : State} {m : MethodId} {args : Array Value} {below : List Frame} {meth : Method} {c : Code} {D : va_G} {cy : Nat → ClassId} {ad : Nat → Nat} {q : Int32 × CS} {t : Nat}  (C : vC p s m args meth c cX3_addFamily 2 none RX3 D (cyT cy)) (hA : adOK ad) : ∀ (σ : CS), B_Laws_addFamily_28 t σ = some q → V p l e { frames := 0, cells := 0, slots := 0, locals := 0 } s m args below meth c D (inC ad) 2 (MQ below (vQ D (inC ad) none (wc cy ad q.2)) args s 0 0 (inC ad)) 0 0 (wc cy ad σ) 28 [(0, .ref (ad t))] [] := by
  intro σ h
  rw [B_Laws_addFamily_28] at h
  obtain rfl := Option.some.inj h
  exact v_vret C dX3_addFamily_28
set_option maxHeartbeats 4000000 in
set_option maxRecDepth 20000 in
theorem c_Laws_addFamily {l : Launch} {D : va_G} {cy : Nat → ClassId} {ad : Nat → Nat} {q : Int32 × CS} (hA : adOK ad) (t : Nat) (x1 : Option Nat) (σ : CS) (h : f_Laws_addFamily t x1 σ = some q) : MV l D (cyT cy) (inC ad) yX3_addFamily cX3_addFamily 2 none (0) (0) 0 0 [.ref (ad t), va_rf (Option.map ad x1)] (wc cy ad σ) none (wc cy ad q.2) := by
  refine MV.of (by decide) (wc_D hA cy σ) (by cases x1 <;> exact Nat.le_of_ble_eq_true rfl) [(0, .ref (ad t)), (1, va_rf (Option.map ad x1))] (by cases x1 <;> rfl) ?_
  intro p e s m args below meth c C
  rw [f_Laws_addFamily] at h
  refine v_aload_n C 0 dX3_addFamily_0 rfl rfl ?_
  obtain ⟨g1, h⟩ := gd_of h
  refine c_getI C fl_3_20 rfl g1 dX3_addFamily_1 ?_
  refine v_iconst C 3 dX3_addFamily_4 (by decide) ?_
  refine v_icmp_ge C 28 dX3_addFamily_5 (by decide) (fun c1 => ?_) (fun c1 => ?_)
  · rw [if_pos c1] at h
    exact v_sub [0] rfl ((b_Laws_addFamily_28 C hA) _ h)
  · rw [if_neg c1] at h
    refine v_aload_n C 0 dX3_addFamily_8 rfl rfl ?_
    obtain ⟨g2, h⟩ := gd_of h
    refine c_getR C fl_3_11 rfl g2 dX3_addFamily_9 ?_
    refine v_aload_n C 0 dX3_addFamily_12 rfl rfl ?_
    obtain ⟨g3, h⟩ := gd_of h
    refine c_getI C fl_3_20 rfl g3 dX3_addFamily_13 ?_
    refine c_aload_n C x1 1 dX3_addFamily_16 rfl rfl ?_
    obtain ⟨a1, ha1, h⟩ := bd_of h
    rw [ha1]
    obtain ⟨g4, h⟩ := gd_of h
    obtain ⟨g5, h⟩ := gd_of h
    obtain ⟨g6, h⟩ := gd_of h
    refine c_aast C (q := (RX1, TX1, 1)) (ci := 1) x1 g4 (by decide) rfl rfl (by decide) (srf_F (σ := σ) g4) (okr_at g6) (ix_in g5) dX3_addFamily_17 ?_
    refine v_aload_n C 0 dX3_addFamily_18 rfl rfl ?_
    refine v_dup C dX3_addFamily_19 rfl ?_
    obtain ⟨g7, h⟩ := gd_of h
    refine c_getI C fl_3_20 rfl g7 dX3_addFamily_20 ?_
    refine v_iconst C 1 dX3_addFamily_23 (by decide) ?_
    refine v_iadd C dX3_addFamily_24 ?_
    obtain ⟨g8, h⟩ := gd_of h
    refine c_putI C fl_3_20 fw_3_2 rfl (by decide) g8 dX3_addFamily_25 ?_
    exact v_sub [0] rfl ((b_Laws_addFamily_28 C hA) _ h)
set_option maxHeartbeats 4000000 in
set_option maxRecDepth 20000 in
theorem b_Laws_addConstant_28 {p : Program} {l : Launch} {e : Env} {s : State} {m : MethodId} {args : Array Value} {below : List Frame} {meth : Method} {c : Code} {D : va_G} {cy : Nat → ClassId} {ad : Nat → Nat} {q : Int32 × CS} {t : Nat}  (C : vC p s m args meth c cX3_addConstant 2 none RX3 D (cyT cy)) (hA : adOK ad) : ∀ (σ : CS), B_Laws_addConstant_28 t σ = some q → V p l e { frames := 0, cells := 0, slots := 0, locals := 0 } s m args below meth c D (inC ad) 2 (MQ below (vQ D (inC ad) none (wc cy ad q.2)) args s 0 0 (inC ad)) 0 0 (wc cy ad σ) 28 [(0, .ref (ad t))] [] := by
  intro σ h
  rw [B_Laws_addConstant_28] at h
  obtain rfl := Option.some.inj h
  exact v_vret C dX3_addConstant_28
set_option maxHeartbeats 4000000 in
set_option maxRecDepth 20000 in
theorem c_Laws_addConstant {l : Launch} {D : va_G} {cy : Nat → ClassId} {ad : Nat → Nat} {q : Int32 × CS} (hA : adOK ad) (t : Nat) (x1 : Option Nat) (σ : CS) (h : f_Laws_addConstant t x1 σ = some q) : MV l D (cyT cy) (inC ad) yX3_addConstant cX3_addConstant 2 none (0) (0) 0 0 [.ref (ad t), va_rf (Option.map ad x1)] (wc cy ad σ) none (wc cy ad q.2) := by
  refine MV.of (by decide) (wc_D hA cy σ) (by cases x1 <;> exact Nat.le_of_ble_eq_true rfl) [(0, .ref (ad t)), (1, va_rf (Option.map ad x1))] (by cases x1 <;> rfl) ?_
  intro p e s m args below meth c C
  rw [f_Laws_addConstant] at h
  refine v_aload_n C 0 dX3_addConstant_0 rfl rfl ?_
  obtain ⟨g1, h⟩ := gd_of h
  refine c_getI C fl_3_24 rfl g1 dX3_addConstant_1 ?_
  refine v_iconst C 4 dX3_addConstant_4 (by decide) ?_
  refine v_icmp_ge C 28 dX3_addConstant_5 (by decide) (fun c1 => ?_) (fun c1 => ?_)
  · rw [if_pos c1] at h
    exact v_sub [0] rfl ((b_Laws_addConstant_28 C hA) _ h)
  · rw [if_neg c1] at h
    refine v_aload_n C 0 dX3_addConstant_8 rfl rfl ?_
    obtain ⟨g2, h⟩ := gd_of h
    refine c_getR C fl_3_17 rfl g2 dX3_addConstant_9 ?_
    refine v_aload_n C 0 dX3_addConstant_12 rfl rfl ?_
    obtain ⟨g3, h⟩ := gd_of h
    refine c_getI C fl_3_24 rfl g3 dX3_addConstant_13 ?_
    refine c_aload_n C x1 1 dX3_addConstant_16 rfl rfl ?_
    obtain ⟨a1, ha1, h⟩ := bd_of h
    rw [ha1]
    obtain ⟨g4, h⟩ := gd_of h
    obtain ⟨g5, h⟩ := gd_of h
    obtain ⟨g6, h⟩ := gd_of h
    refine c_aast C (q := (RX1, TX1, 1)) (ci := 1) x1 g4 (by decide) rfl rfl (by decide) (srf_F (σ := σ) g4) (okr_at g6) (ix_in g5) dX3_addConstant_17 ?_
    refine v_aload_n C 0 dX3_addConstant_18 rfl rfl ?_
    refine v_dup C dX3_addConstant_19 rfl ?_
    obtain ⟨g7, h⟩ := gd_of h
    refine c_getI C fl_3_24 rfl g7 dX3_addConstant_20 ?_
    refine v_iconst C 1 dX3_addConstant_23 (by decide) ?_
    refine v_iadd C dX3_addConstant_24 ?_
    obtain ⟨g8, h⟩ := gd_of h
    refine c_putI C fl_3_24 fw_3_3 rfl (by decide) g8 dX3_addConstant_25 ?_
    exact v_sub [0] rfl ((b_Laws_addConstant_28 C hA) _ h)
set_option maxHeartbeats 4000000 in
set_option maxRecDepth 20000 in
theorem b_Laws_indexForm_27 {p : Program} {l : Launch} {e : Env} {s : State} {m : MethodId} {args : Array Value} {below : List Frame} {meth : Method} {c : Code} {D : va_G} {cy : Nat → ClassId} {ad : Nat → Nat} {q : Option Nat × CS} {t : Nat}  (C : vC p s m args meth c cX3_indexForm 2 (some (.object "JudgedTerms$Form")) RX3 D (cyT cy)) (hA : adOK ad) : ∀ (s0 : Option Nat) (σ : CS), B_Laws_indexForm_27 t s0 σ = some q → V p l e { frames := 0, cells := 0, slots := 0, locals := 0 } s m args below meth c D (inC ad) 2 (MQ below (vQ D (inC ad) (some (va_rf (Option.map ad q.1))) (wc cy ad q.2)) args s 0 0 (inC ad)) 0 0 (wc cy ad σ) 27 [(0, .ref (ad t))] [va_rf (Option.map ad s0)] := by
  intro s0 σ h
  rw [B_Laws_indexForm_27] at h
  obtain rfl := Option.some.inj h
  exact c_aret C rfl (Or.inl ⟨_, rfl⟩) s0 dX3_indexForm_27
set_option maxHeartbeats 4000000 in
set_option maxRecDepth 20000 in
theorem b_Laws_indexForm_26 {p : Program} {l : Launch} {e : Env} {s : State} {m : MethodId} {args : Array Value} {below : List Frame} {meth : Method} {c : Code} {D : va_G} {cy : Nat → ClassId} {ad : Nat → Nat} {q : Option Nat × CS} {t : Nat}  (C : vC p s m args meth c cX3_indexForm 2 (some (.object "JudgedTerms$Form")) RX3 D (cyT cy)) (hA : adOK ad) {k27 : (Option Nat) → CS → Option ((Option Nat) × CS)} (hk27 : ∀ (s0 : Option Nat) (σ : CS), k27 s0 σ = some q → V p l e { frames := 0, cells := 0, slots := 0, locals := 0 } s m args below meth c D (inC ad) 2 (MQ below (vQ D (inC ad) (some (va_rf (Option.map ad q.1))) (wc cy ad q.2)) args s 0 0 (inC ad)) 0 0 (wc cy ad σ) 27 [(0, .ref (ad t))] [va_rf (Option.map ad s0)]) : ∀ (σ : CS), B_Laws_indexForm_26 t k27 σ = some q → V p l e { frames := 0, cells := 0, slots := 0, locals := 0 } s m args below meth c D (inC ad) 2 (MQ below (vQ D (inC ad) (some (va_rf (Option.map ad q.1))) (wc cy ad q.2)) args s 0 0 (inC ad)) 0 0 (wc cy ad σ) 26 [(0, .ref (ad t))] [] := by
  intro σ h
  rw [B_Laws_indexForm_26] at h
  refine c_null C dX3_indexForm_26 ?_
  exact v_sub [0] rfl (hk27 _ _ h)
set_option maxHeartbeats 4000000 in
set_option maxRecDepth 20000 in
theorem c_Laws_indexForm {l : Launch} {D : va_G} {cy : Nat → ClassId} {ad : Nat → Nat} {q : Option Nat × CS} (hA : adOK ad) (t : Nat) (x1 : Int32) (σ : CS) (h : f_Laws_indexForm t x1 σ = some q) : MV l D (cyT cy) (inC ad) yX3_indexForm cX3_indexForm 2 (some (.object "JudgedTerms$Form")) (0) (0) 0 0 [.ref (ad t), .int x1] (wc cy ad σ) (some (va_rf (Option.map ad q.1))) (wc cy ad q.2) := by
  refine MV.of (by decide) (wc_D hA cy σ) (Nat.le_of_ble_eq_true rfl) [(0, .ref (ad t)), (1, .int x1)] rfl ?_
  intro p e s m args below meth c C
  rw [f_Laws_indexForm] at h
  refine v_iload_n C 1 dX3_indexForm_0 rfl rfl ?_
  refine v_if_lt C 26 dX3_indexForm_1 (by decide) (fun c1 => ?_) (fun c1 => ?_)
  · rw [if_pos c1] at h
    exact v_sub [0] rfl ((b_Laws_indexForm_26 C hA (b_Laws_indexForm_27 C hA)) _ h)
  · rw [if_neg c1] at h
    refine v_iload_n C 1 dX3_indexForm_4 rfl rfl ?_
    refine v_aload_n C 0 dX3_indexForm_5 rfl rfl ?_
    obtain ⟨g1, h⟩ := gd_of h
    refine c_getI C fl_3_20 rfl g1 dX3_indexForm_6 ?_
    refine v_icmp_ge C 26 dX3_indexForm_9 (by decide) (fun c2 => ?_) (fun c2 => ?_)
    · rw [if_pos c2] at h
      exact v_sub [0] rfl ((b_Laws_indexForm_26 C hA (b_Laws_indexForm_27 C hA)) _ h)
    · rw [if_neg c2] at h
      refine v_iload_n C 1 dX3_indexForm_12 rfl rfl ?_
      refine v_iconst C 3 dX3_indexForm_13 (by decide) ?_
      refine v_icmp_ge C 26 dX3_indexForm_14 (by decide) (fun c3 => ?_) (fun c3 => ?_)
      · rw [if_pos c3] at h
        exact v_sub [0] rfl ((b_Laws_indexForm_26 C hA (b_Laws_indexForm_27 C hA)) _ h)
      · rw [if_neg c3] at h
        refine v_aload_n C 0 dX3_indexForm_17 rfl rfl ?_
        obtain ⟨g2, h⟩ := gd_of h
        refine c_getR C fl_3_11 rfl g2 dX3_indexForm_18 ?_
        refine v_iload_n C 1 dX3_indexForm_21 rfl rfl ?_
        obtain ⟨a1, ha1, h⟩ := bd_of h
        rw [ha1]
        obtain ⟨g3, h⟩ := gd_of h
        obtain ⟨g4, h⟩ := gd_of h
        refine c_aald C g3 (by decide) rfl (ix_in g4) dX3_indexForm_22 ?_
        refine v_goto C 27 dX3_indexForm_23 (by decide) ?_
        exact v_sub [0] rfl ((b_Laws_indexForm_27 C hA) _ _ h)
set_option maxHeartbeats 4000000 in
set_option maxRecDepth 20000 in
theorem b_Laws_constantForm_27 {p : Program} {l : Launch} {e : Env} {s : State} {m : MethodId} {args : Array Value} {below : List Frame} {meth : Method} {c : Code} {D : va_G} {cy : Nat → ClassId} {ad : Nat → Nat} {q : Option Nat × CS} {t : Nat}  (C : vC p s m args meth c cX3_constantForm 2 (some (.object "JudgedTerms$Form")) RX3 D (cyT cy)) (hA : adOK ad) : ∀ (s0 : Option Nat) (σ : CS), B_Laws_constantForm_27 t s0 σ = some q → V p l e { frames := 0, cells := 0, slots := 0, locals := 0 } s m args below meth c D (inC ad) 2 (MQ below (vQ D (inC ad) (some (va_rf (Option.map ad q.1))) (wc cy ad q.2)) args s 0 0 (inC ad)) 0 0 (wc cy ad σ) 27 [(0, .ref (ad t))] [va_rf (Option.map ad s0)] := by
  intro s0 σ h
  rw [B_Laws_constantForm_27] at h
  obtain rfl := Option.some.inj h
  exact c_aret C rfl (Or.inl ⟨_, rfl⟩) s0 dX3_constantForm_27
set_option maxHeartbeats 4000000 in
set_option maxRecDepth 20000 in
theorem b_Laws_constantForm_26 {p : Program} {l : Launch} {e : Env} {s : State} {m : MethodId} {args : Array Value} {below : List Frame} {meth : Method} {c : Code} {D : va_G} {cy : Nat → ClassId} {ad : Nat → Nat} {q : Option Nat × CS} {t : Nat}  (C : vC p s m args meth c cX3_constantForm 2 (some (.object "JudgedTerms$Form")) RX3 D (cyT cy)) (hA : adOK ad) {k27 : (Option Nat) → CS → Option ((Option Nat) × CS)} (hk27 : ∀ (s0 : Option Nat) (σ : CS), k27 s0 σ = some q → V p l e { frames := 0, cells := 0, slots := 0, locals := 0 } s m args below meth c D (inC ad) 2 (MQ below (vQ D (inC ad) (some (va_rf (Option.map ad q.1))) (wc cy ad q.2)) args s 0 0 (inC ad)) 0 0 (wc cy ad σ) 27 [(0, .ref (ad t))] [va_rf (Option.map ad s0)]) : ∀ (σ : CS), B_Laws_constantForm_26 t k27 σ = some q → V p l e { frames := 0, cells := 0, slots := 0, locals := 0 } s m args below meth c D (inC ad) 2 (MQ below (vQ D (inC ad) (some (va_rf (Option.map ad q.1))) (wc cy ad q.2)) args s 0 0 (inC ad)) 0 0 (wc cy ad σ) 26 [(0, .ref (ad t))] [] := by
  intro σ h
  rw [B_Laws_constantForm_26] at h
  refine c_null C dX3_constantForm_26 ?_
  exact v_sub [0] rfl (hk27 _ _ h)
set_option maxHeartbeats 4000000 in
set_option maxRecDepth 20000 in
theorem c_Laws_constantForm {l : Launch} {D : va_G} {cy : Nat → ClassId} {ad : Nat → Nat} {q : Option Nat × CS} (hA : adOK ad) (t : Nat) (x1 : Int32) (σ : CS) (h : f_Laws_constantForm t x1 σ = some q) : MV l D (cyT cy) (inC ad) yX3_constantForm cX3_constantForm 2 (some (.object "JudgedTerms$Form")) (0) (0) 0 0 [.ref (ad t), .int x1] (wc cy ad σ) (some (va_rf (Option.map ad q.1))) (wc cy ad q.2) := by
  refine MV.of (by decide) (wc_D hA cy σ) (Nat.le_of_ble_eq_true rfl) [(0, .ref (ad t)), (1, .int x1)] rfl ?_
  intro p e s m args below meth c C
  rw [f_Laws_constantForm] at h
  refine v_iload_n C 1 dX3_constantForm_0 rfl rfl ?_
  refine v_if_lt C 26 dX3_constantForm_1 (by decide) (fun c1 => ?_) (fun c1 => ?_)
  · rw [if_pos c1] at h
    exact v_sub [0] rfl ((b_Laws_constantForm_26 C hA (b_Laws_constantForm_27 C hA)) _ h)
  · rw [if_neg c1] at h
    refine v_iload_n C 1 dX3_constantForm_4 rfl rfl ?_
    refine v_aload_n C 0 dX3_constantForm_5 rfl rfl ?_
    obtain ⟨g1, h⟩ := gd_of h
    refine c_getI C fl_3_24 rfl g1 dX3_constantForm_6 ?_
    refine v_icmp_ge C 26 dX3_constantForm_9 (by decide) (fun c2 => ?_) (fun c2 => ?_)
    · rw [if_pos c2] at h
      exact v_sub [0] rfl ((b_Laws_constantForm_26 C hA (b_Laws_constantForm_27 C hA)) _ h)
    · rw [if_neg c2] at h
      refine v_iload_n C 1 dX3_constantForm_12 rfl rfl ?_
      refine v_iconst C 4 dX3_constantForm_13 (by decide) ?_
      refine v_icmp_ge C 26 dX3_constantForm_14 (by decide) (fun c3 => ?_) (fun c3 => ?_)
      · rw [if_pos c3] at h
        exact v_sub [0] rfl ((b_Laws_constantForm_26 C hA (b_Laws_constantForm_27 C hA)) _ h)
      · rw [if_neg c3] at h
        refine v_aload_n C 0 dX3_constantForm_17 rfl rfl ?_
        obtain ⟨g2, h⟩ := gd_of h
        refine c_getR C fl_3_17 rfl g2 dX3_constantForm_18 ?_
        refine v_iload_n C 1 dX3_constantForm_21 rfl rfl ?_
        obtain ⟨a1, ha1, h⟩ := bd_of h
        rw [ha1]
        obtain ⟨g3, h⟩ := gd_of h
        obtain ⟨g4, h⟩ := gd_of h
        refine c_aald C g3 (by decide) rfl (ix_in g4) dX3_constantForm_22 ?_
        refine v_goto C 27 dX3_constantForm_23 (by decide) ?_
        exact v_sub [0] rfl ((b_Laws_constantForm_27 C hA) _ _ h)
set_option maxHeartbeats 4000000 in
set_option maxRecDepth 20000 in
theorem b_Signs_add_17 {p : Program} {l : Launch} {e : Env} {s : State} {m : MethodId} {args : Array Value} {below : List Frame} {meth : Method} {c : Code} {D : va_G} {cy : Nat → ClassId} {ad : Nat → Nat} {q : Int32 × CS}  (C : vC p s m args meth c cX7_add 2 (some .boolean) RX7 D (cyT cy)) (hA : adOK ad) : ∀ (σ : CS), B_Signs_add_17 σ = some q → V p l e { frames := 0, cells := 0, slots := 0, locals := 0 } s m args below meth c D (inC ad) 2 (MQ below (vQ D (inC ad) (some (.int q.1)) (wc cy ad q.2)) args s 0 0 (inC ad)) 0 0 (wc cy ad σ) 17 [(0, .ref (ad 34))] [] := by
  intro σ h
  rw [B_Signs_add_17] at h
  refine v_iconst C 0 dX7_add_17 (by decide) ?_
  obtain rfl := Option.some.inj h
  exact v_zret C (Or.inl rfl) dX7_add_18
set_option maxHeartbeats 4000000 in
set_option maxRecDepth 20000 in
theorem c_Signs_add {l : Launch} {D : va_G} {cy : Nat → ClassId} {ad : Nat → Nat} {q : Int32 × CS} (hA : adOK ad) (x1 : Int32) (σ : CS) (h : f_Signs_add x1 σ = some q) : MV l D (cyT cy) (inC ad) yX7_add cX7_add 2 (some .boolean) (0) (0) 0 0 [.ref (ad 34), .int x1] (wc cy ad σ) (some (.int q.1)) (wc cy ad q.2) := by
  refine MV.of (by decide) (wc_D hA cy σ) (Nat.le_of_ble_eq_true rfl) [(0, .ref (ad 34)), (1, .int x1)] rfl ?_
  intro p e s m args below meth c C
  rw [f_Signs_add] at h
  refine v_aload_n C 0 dX7_add_0 rfl rfl ?_
  refine c_getI C fl_7_21 rfl (okS _ 34 (by decide) rfl) dX7_add_1 ?_
  refine v_if_lt C 17 dX7_add_4 (by decide) (fun c1 => ?_) (fun c1 => ?_)
  · rw [if_pos c1] at h
    exact v_sub [0] rfl ((b_Signs_add_17 C hA) _ h)
  · rw [if_neg c1] at h
    refine v_aload_n C 0 dX7_add_7 rfl rfl ?_
    refine c_getI C fl_7_21 rfl (okS _ 34 (by decide) rfl) dX7_add_8 ?_
    refine v_sipush C 3600 dX7_add_11 (by decide) ?_
    refine v_icmp_lt C 19 dX7_add_14 (by decide) (fun c2 => ?_) (fun c2 => ?_)
    · rw [if_pos c2] at h
      refine v_aload_n C 0 dX7_add_19 rfl rfl ?_
      refine c_getS C 35 fl_7_11 rfl rfl (by decide) (okS _ 34 (by decide) rfl) dX7_add_20 ?_
      refine v_aload_n C 0 dX7_add_23 rfl rfl ?_
      refine c_getI C fl_7_21 rfl (okS _ 34 (by decide) rfl) dX7_add_24 ?_
      refine v_iload_n C 1 dX7_add_27 rfl rfl ?_
      obtain ⟨g1, h⟩ := gd_of h
      refine c_iast C (okS _ 35 (by decide) rfl) (ix_in g1) dX7_add_28 ?_
      refine v_aload_n C 0 dX7_add_29 rfl rfl ?_
      refine v_dup C dX7_add_30 rfl ?_
      refine c_getI C fl_7_21 rfl (okS _ 34 (by decide) rfl) dX7_add_31 ?_
      refine v_iconst C 1 dX7_add_34 (by decide) ?_
      refine v_iadd C dX7_add_35 ?_
      refine c_putI C fl_7_21 fw_7_1 rfl (by decide) (okS _ 34 (by decide) rfl) dX7_add_36 ?_
      refine v_iconst C 1 dX7_add_39 (by decide) ?_
      obtain rfl := Option.some.inj h
      exact v_zret C (Or.inr rfl) dX7_add_40
    · rw [if_neg c2] at h
      exact v_sub [0] rfl ((b_Signs_add_17 C hA) _ h)
set_option maxHeartbeats 4000000 in
set_option maxRecDepth 20000 in
theorem l_Signs_copyOf_13 {p : Program} {l : Launch} {e : Env} {s : State} {m : MethodId} {args : Array Value} {below : List Frame} {meth : Method} {c : Code} {D : va_G} {cy : Nat → ClassId} {ad : Nat → Nat} {q : Int32 × CS}  (C : vC p s m args meth c cX7_copyOf 4 (some .int) RX7 D (cyT cy)) (hA : adOK ad) : ∀ (n : Nat) (x1 : Option Nat) (x2 : Int32) (x3 : Int32) (σ : CS), L_Signs_copyOf_13 n x1 x2 x3 σ = some q → V p l e { frames := 1, cells := 0, slots := 0, locals := 21 } s m args below meth c D (inC ad) 4 (MQ below (vQ D (inC ad) (some (.int q.1)) (wc cy ad q.2)) args s 0 0 (inC ad)) 0 0 (wc cy ad σ) 13 [(0, .ref (ad 34)), (1, va_rf (Option.map ad x1)), (2, .int x2), (3, .int x3)] [] := by
  intro n
  induction n with
  | zero =>
    intro x1 x2 x3 σ h
    rw [L_Signs_copyOf_13.eq_1] at h
    cases h
  | succ n ih =>
    intro x1 x2 x3 σ h
    rw [L_Signs_copyOf_13.eq_2] at h
    refine v_iload_n C 3 dX7_copyOf_13 rfl rfl ?_
    refine c_aload_n C x1 1 dX7_copyOf_14 rfl rfl ?_
    obtain ⟨a1, ha1, h⟩ := bd_of h
    rw [ha1]
    obtain ⟨g1, h⟩ := gd_of h
    refine c_getRN C fl_7_83 rfl g1 dX7_copyOf_15 ?_
    obtain ⟨a2, ha2, h⟩ := bd_of h
    rw [ha2]
    obtain ⟨g2, h⟩ := gd_of h
    refine c_alen C g2 dX7_copyOf_18 ?_
    refine v_icmp_ge C 38 dX7_copyOf_19 (by decide) (fun c1 => ?_) (fun c1 => ?_)
    · rw [if_pos c1] at h
      refine v_iload_n C 2 dX7_copyOf_38 rfl rfl ?_
      obtain rfl := Option.some.inj h
      exact v_iret C dX7_copyOf_39
    · rw [if_neg c1] at h
      refine v_aload_n C 0 dX7_copyOf_22 rfl rfl ?_
      refine v_aload_n C 1 dX7_copyOf_23 rfl rfl ?_
      refine v_iload_n C 3 dX7_copyOf_24 rfl rfl ?_
      obtain ⟨g3, h⟩ := gd_of h
      obtain ⟨q1, hq1, h⟩ := bd_of h
      refine c_call C [.int x3] [.ref (ad 34)] (c_Form_signAt hA _ _ _ hq1) hY_Form_signAt rfl (by decide) g3 ml_7_86 ⟨(by omega : 0 + 1 ≤ 1), (by omega : 8 + (2 + 11) + 0 ≤ 21)⟩ ⟨Nat.zero_le _, Nat.zero_le _⟩ rfl rfl (Nat.le_of_ble_eq_true rfl) dX7_copyOf_25 (wc_D hA cy _) ?_
      obtain ⟨q2, hq2, h⟩ := bd_of h
      refine c_call C [.int q1.1] [] (c_Signs_add hA _ _ hq2) hY_Signs_add rfl (by decide) (okS _ 34 (by decide) rfl) ml_7_89 ⟨(by omega : 0 + 1 ≤ 1), (by omega : 8 + (2 + 11) + 0 ≤ 21)⟩ ⟨Nat.zero_le _, Nat.zero_le _⟩ rfl rfl (Nat.le_of_ble_eq_true rfl) dX7_copyOf_28 (wc_D hA cy _) ?_
      refine v_pop C dX7_copyOf_31 rfl ?_
      refine v_iinc C (x3 + 1) 3 [(3, .int (x3 + 1)), (0, .ref (ad 34)), (1, .ref (ad a1)), (2, .int x2)] dX7_copyOf_32 rfl rfl (by decide) rfl ?_
      refine v_goto C 13 dX7_copyOf_35 (by decide) ?_
      exact v_sub [1, 2, 3, 0] rfl (ih _ _ _ _ h)
set_option maxHeartbeats 4000000 in
set_option maxRecDepth 20000 in
theorem c_Signs_copyOf {l : Launch} {D : va_G} {cy : Nat → ClassId} {ad : Nat → Nat} {q : Int32 × CS} (hA : adOK ad) (x1 : Option Nat) (σ : CS) (h : f_Signs_copyOf x1 σ = some q) : MV l D (cyT cy) (inC ad) yX7_copyOf cX7_copyOf 4 (some .int) (1) (21) 0 0 [.ref (ad 34), va_rf (Option.map ad x1)] (wc cy ad σ) (some (.int q.1)) (wc cy ad q.2) := by
  refine MV.of (by decide) (wc_D hA cy σ) (by cases x1 <;> exact Nat.le_of_ble_eq_true rfl) [(0, .ref (ad 34)), (1, va_rf (Option.map ad x1))] (by cases x1 <;> rfl) ?_
  intro p e s m args below meth c C
  rw [f_Signs_copyOf] at h
  refine c_aload_n C x1 1 dX7_copyOf_0 rfl rfl ?_
  refine c_ifnonnull C 6 dX7_copyOf_1 (by decide) (fun a1 c1 => ?_) (fun c1 => ?_)
  · try rw [c1]
    replace h := el_s c1 h
    refine v_aload_n C 0 dX7_copyOf_6 rfl rfl ?_
    refine c_getI C fl_7_21 rfl (okS _ 34 (by decide) rfl) dX7_copyOf_7 ?_
    refine v_istore_n C [(2, .int (σ.1 34 1)), (0, .ref (ad 34)), (1, .ref (ad a1))] dX7_copyOf_10 rfl (by decide) rfl ?_
    refine v_iconst C 0 dX7_copyOf_11 (by decide) ?_
    refine v_istore_n C [(3, .int 0), (2, .int (σ.1 34 1)), (0, .ref (ad 34)), (1, .ref (ad a1))] dX7_copyOf_12 rfl (by decide) rfl ?_
    exact v_sub [2, 3, 1, 0] rfl ((l_Signs_copyOf_13 C hA 10000) _ _ _ _ h)
  · try rw [c1]
    replace h := el_n c1 h
    refine v_iconst C (-1) dX7_copyOf_4 (by decide) ?_
    obtain rfl := Option.some.inj h
    exact v_iret C dX7_copyOf_5
set_option maxHeartbeats 4000000 in
set_option maxRecDepth 20000 in
theorem b_Signs_addFamily_28 {p : Program} {l : Launch} {e : Env} {s : State} {m : MethodId} {args : Array Value} {below : List Frame} {meth : Method} {c : Code} {D : va_G} {cy : Nat → ClassId} {ad : Nat → Nat} {q : Int32 × CS}  (C : vC p s m args meth c cX7_addFamily 2 none RX7 D (cyT cy)) (hA : adOK ad) : ∀ (σ : CS), B_Signs_addFamily_28 σ = some q → V p l e { frames := 0, cells := 0, slots := 0, locals := 0 } s m args below meth c D (inC ad) 2 (MQ below (vQ D (inC ad) none (wc cy ad q.2)) args s 0 0 (inC ad)) 0 0 (wc cy ad σ) 28 [(0, .ref (ad 34))] [] := by
  intro σ h
  rw [B_Signs_addFamily_28] at h
  obtain rfl := Option.some.inj h
  exact v_vret C dX7_addFamily_28
set_option maxHeartbeats 4000000 in
set_option maxRecDepth 20000 in
theorem c_Signs_addFamily {l : Launch} {D : va_G} {cy : Nat → ClassId} {ad : Nat → Nat} {q : Int32 × CS} (hA : adOK ad) (x1 : Int32) (σ : CS) (h : f_Signs_addFamily x1 σ = some q) : MV l D (cyT cy) (inC ad) yX7_addFamily cX7_addFamily 2 none (0) (0) 0 0 [.ref (ad 34), .int x1] (wc cy ad σ) none (wc cy ad q.2) := by
  refine MV.of (by decide) (wc_D hA cy σ) (Nat.le_of_ble_eq_true rfl) [(0, .ref (ad 34)), (1, .int x1)] rfl ?_
  intro p e s m args below meth c C
  rw [f_Signs_addFamily] at h
  refine v_aload_n C 0 dX7_addFamily_0 rfl rfl ?_
  refine c_getI C fl_7_25 rfl (okS _ 34 (by decide) rfl) dX7_addFamily_1 ?_
  refine v_iconst C 3 dX7_addFamily_4 (by decide) ?_
  refine v_icmp_ge C 28 dX7_addFamily_5 (by decide) (fun c1 => ?_) (fun c1 => ?_)
  · rw [if_pos c1] at h
    exact v_sub [0] rfl ((b_Signs_addFamily_28 C hA) _ h)
  · rw [if_neg c1] at h
    refine v_aload_n C 0 dX7_addFamily_8 rfl rfl ?_
    refine c_getS C 36 fl_7_15 rfl rfl (by decide) (okS _ 34 (by decide) rfl) dX7_addFamily_9 ?_
    refine v_aload_n C 0 dX7_addFamily_12 rfl rfl ?_
    refine c_getI C fl_7_25 rfl (okS _ 34 (by decide) rfl) dX7_addFamily_13 ?_
    refine v_iload_n C 1 dX7_addFamily_16 rfl rfl ?_
    obtain ⟨g1, h⟩ := gd_of h
    refine c_iast C (okS _ 36 (by decide) rfl) (ix_in g1) dX7_addFamily_17 ?_
    refine v_aload_n C 0 dX7_addFamily_18 rfl rfl ?_
    refine v_dup C dX7_addFamily_19 rfl ?_
    refine c_getI C fl_7_25 rfl (okS _ 34 (by decide) rfl) dX7_addFamily_20 ?_
    refine v_iconst C 1 dX7_addFamily_23 (by decide) ?_
    refine v_iadd C dX7_addFamily_24 ?_
    refine c_putI C fl_7_25 fw_7_3 rfl (by decide) (okS _ 34 (by decide) rfl) dX7_addFamily_25 ?_
    exact v_sub [0] rfl ((b_Signs_addFamily_28 C hA) _ h)
set_option maxHeartbeats 4000000 in
set_option maxRecDepth 20000 in
theorem b_Signs_addConstant_28 {p : Program} {l : Launch} {e : Env} {s : State} {m : MethodId} {args : Array Value} {below : List Frame} {meth : Method} {c : Code} {D : va_G} {cy : Nat → ClassId} {ad : Nat → Nat} {q : Int32 × CS}  (C : vC p s m args meth c cX7_addConstant 2 none RX7 D (cyT cy)) (hA : adOK ad) : ∀ (σ : CS), B_Signs_addConstant_28 σ = some q → V p l e { frames := 0, cells := 0, slots := 0, locals := 0 } s m args below meth c D (inC ad) 2 (MQ below (vQ D (inC ad) none (wc cy ad q.2)) args s 0 0 (inC ad)) 0 0 (wc cy ad σ) 28 [(0, .ref (ad 34))] [] := by
  intro σ h
  rw [B_Signs_addConstant_28] at h
  obtain rfl := Option.some.inj h
  exact v_vret C dX7_addConstant_28
set_option maxHeartbeats 4000000 in
set_option maxRecDepth 20000 in
theorem c_Signs_addConstant {l : Launch} {D : va_G} {cy : Nat → ClassId} {ad : Nat → Nat} {q : Int32 × CS} (hA : adOK ad) (x1 : Int32) (σ : CS) (h : f_Signs_addConstant x1 σ = some q) : MV l D (cyT cy) (inC ad) yX7_addConstant cX7_addConstant 2 none (0) (0) 0 0 [.ref (ad 34), .int x1] (wc cy ad σ) none (wc cy ad q.2) := by
  refine MV.of (by decide) (wc_D hA cy σ) (Nat.le_of_ble_eq_true rfl) [(0, .ref (ad 34)), (1, .int x1)] rfl ?_
  intro p e s m args below meth c C
  rw [f_Signs_addConstant] at h
  refine v_aload_n C 0 dX7_addConstant_0 rfl rfl ?_
  refine c_getI C fl_7_28 rfl (okS _ 34 (by decide) rfl) dX7_addConstant_1 ?_
  refine v_iconst C 4 dX7_addConstant_4 (by decide) ?_
  refine v_icmp_ge C 28 dX7_addConstant_5 (by decide) (fun c1 => ?_) (fun c1 => ?_)
  · rw [if_pos c1] at h
    exact v_sub [0] rfl ((b_Signs_addConstant_28 C hA) _ h)
  · rw [if_neg c1] at h
    refine v_aload_n C 0 dX7_addConstant_8 rfl rfl ?_
    refine c_getS C 37 fl_7_18 rfl rfl (by decide) (okS _ 34 (by decide) rfl) dX7_addConstant_9 ?_
    refine v_aload_n C 0 dX7_addConstant_12 rfl rfl ?_
    refine c_getI C fl_7_28 rfl (okS _ 34 (by decide) rfl) dX7_addConstant_13 ?_
    refine v_iload_n C 1 dX7_addConstant_16 rfl rfl ?_
    obtain ⟨g1, h⟩ := gd_of h
    refine c_iast C (okS _ 37 (by decide) rfl) (ix_in g1) dX7_addConstant_17 ?_
    refine v_aload_n C 0 dX7_addConstant_18 rfl rfl ?_
    refine v_dup C dX7_addConstant_19 rfl ?_
    refine c_getI C fl_7_28 rfl (okS _ 34 (by decide) rfl) dX7_addConstant_20 ?_
    refine v_iconst C 1 dX7_addConstant_23 (by decide) ?_
    refine v_iadd C dX7_addConstant_24 ?_
    refine c_putI C fl_7_28 fw_7_5 rfl (by decide) (okS _ 34 (by decide) rfl) dX7_addConstant_25 ?_
    exact v_sub [0] rfl ((b_Signs_addConstant_28 C hA) _ h)
set_option maxHeartbeats 4000000 in
set_option maxRecDepth 20000 in
theorem l_Signs_begin_46 {p : Program} {l : Launch} {e : Env} {s : State} {m : MethodId} {args : Array Value} {below : List Frame} {meth : Method} {c : Code} {D : va_G} {cy : Nat → ClassId} {ad : Nat → Nat} {q : Int32 × CS}  (C : vC p s m args meth c cX7_begin 3 none RX7 D (cyT cy)) (hA : adOK ad) : ∀ (n : Nat) (x1 : Option Nat) (x2 : Int32) (σ : CS), L_Signs_begin_46 n x1 x2 σ = some q → V p l e { frames := 2, cells := 0, slots := 0, locals := 44 } s m args below meth c D (inC ad) 3 (MQ below (vQ D (inC ad) none (wc cy ad q.2)) args s 0 0 (inC ad)) 0 0 (wc cy ad σ) 46 [(0, .ref (ad 34)), (1, va_rf (Option.map ad x1)), (2, .int x2)] [] := by
  intro n
  induction n with
  | zero =>
    intro x1 x2 σ h
    rw [L_Signs_begin_46.eq_1] at h
    cases h
  | succ n ih =>
    intro x1 x2 σ h
    rw [L_Signs_begin_46.eq_2] at h
    refine v_iload_n C 2 dX7_begin_46 rfl rfl ?_
    refine c_aload_n C x1 1 dX7_begin_47 rfl rfl ?_
    obtain ⟨a1, ha1, h⟩ := bd_of h
    rw [ha1]
    obtain ⟨g1, h⟩ := gd_of h
    refine c_getIN C fl_7_46 rfl g1 dX7_begin_48 ?_
    refine v_icmp_ge C 73 dX7_begin_51 (by decide) (fun c1 => ?_) (fun c1 => ?_)
    · rw [if_pos c1] at h
      obtain rfl := Option.some.inj h
      exact v_vret C dX7_begin_73
    · rw [if_neg c1] at h
      refine v_aload_n C 0 dX7_begin_54 rfl rfl ?_
      refine v_aload_n C 0 dX7_begin_55 rfl rfl ?_
      refine v_aload_n C 1 dX7_begin_56 rfl rfl ?_
      refine v_iload_n C 2 dX7_begin_57 rfl rfl ?_
      obtain ⟨g2, h⟩ := gd_of h
      obtain ⟨q1, hq1, h⟩ := bd_of h
      refine c_call C [.int x2] [.ref (ad 34), .ref (ad 34)] (c_Laws_constantForm hA _ _ _ hq1) hY_Laws_constantForm rfl (by decide) g2 ml_7_47 ⟨(by omega : 0 + 1 ≤ 2), (by omega : 8 + (2 + 11) + 0 ≤ 44)⟩ ⟨Nat.zero_le _, Nat.zero_le _⟩ rfl rfl (Nat.le_of_ble_eq_true rfl) dX7_begin_58 (wc_D hA cy _) ?_
      obtain ⟨q2, hq2, h⟩ := bd_of h
      refine c_call C [va_rf (Option.map ad q1.1)] [.ref (ad 34)] (c_Signs_copyOf hA _ _ hq2) hY_Signs_copyOf rfl (by decide) (okS _ 34 (by decide) rfl) ml_7_38 ⟨(by omega : 1 + 1 ≤ 2), (by omega : 8 + (4 + 11) + 21 ≤ 44)⟩ ⟨Nat.zero_le _, Nat.zero_le _⟩ rfl rfl (Nat.le_of_ble_eq_true rfl) dX7_begin_61 (wc_D hA cy _) ?_
      obtain ⟨q3, hq3, h⟩ := bd_of h
      refine c_call C [.int q2.1] [] (c_Signs_addConstant hA _ _ hq3) hY_Signs_addConstant rfl (by decide) (okS _ 34 (by decide) rfl) ml_7_50 ⟨(by omega : 0 + 1 ≤ 2), (by omega : 8 + (2 + 11) + 0 ≤ 44)⟩ ⟨Nat.zero_le _, Nat.zero_le _⟩ rfl rfl (Nat.le_of_ble_eq_true rfl) dX7_begin_64 (wc_D hA cy _) ?_
      refine v_iinc C (x2 + 1) 2 [(2, .int (x2 + 1)), (0, .ref (ad 34)), (1, .ref (ad a1))] dX7_begin_67 rfl rfl (by decide) rfl ?_
      refine v_goto C 46 dX7_begin_70 (by decide) ?_
      exact v_sub [1, 2, 0] rfl (ih _ _ _ h)
set_option maxHeartbeats 4000000 in
set_option maxRecDepth 20000 in
theorem l_Signs_begin_17 {p : Program} {l : Launch} {e : Env} {s : State} {m : MethodId} {args : Array Value} {below : List Frame} {meth : Method} {c : Code} {D : va_G} {cy : Nat → ClassId} {ad : Nat → Nat} {q : Int32 × CS}  (C : vC p s m args meth c cX7_begin 3 none RX7 D (cyT cy)) (hA : adOK ad) : ∀ (n : Nat) (x1 : Option Nat) (x2 : Int32) (σ : CS), L_Signs_begin_17 n x1 x2 σ = some q → V p l e { frames := 2, cells := 0, slots := 0, locals := 44 } s m args below meth c D (inC ad) 3 (MQ below (vQ D (inC ad) none (wc cy ad q.2)) args s 0 0 (inC ad)) 0 0 (wc cy ad σ) 17 [(0, .ref (ad 34)), (1, va_rf (Option.map ad x1)), (2, .int x2)] [] := by
  intro n
  induction n with
  | zero =>
    intro x1 x2 σ h
    rw [L_Signs_begin_17.eq_1] at h
    cases h
  | succ n ih =>
    intro x1 x2 σ h
    rw [L_Signs_begin_17.eq_2] at h
    refine v_iload_n C 2 dX7_begin_17 rfl rfl ?_
    refine c_aload_n C x1 1 dX7_begin_18 rfl rfl ?_
    obtain ⟨a1, ha1, h⟩ := bd_of h
    rw [ha1]
    obtain ⟨g1, h⟩ := gd_of h
    refine c_getIN C fl_7_31 rfl g1 dX7_begin_19 ?_
    refine v_icmp_ge C 44 dX7_begin_22 (by decide) (fun c1 => ?_) (fun c1 => ?_)
    · rw [if_pos c1] at h
      refine v_iconst C 0 dX7_begin_44 (by decide) ?_
      refine v_istore_n C [(2, .int 0), (0, .ref (ad 34)), (1, .ref (ad a1))] dX7_begin_45 rfl (by decide) rfl ?_
      exact v_sub [1, 2, 0] rfl ((l_Signs_begin_46 C hA 10000) _ _ _ h)
    · rw [if_neg c1] at h
      refine v_aload_n C 0 dX7_begin_25 rfl rfl ?_
      refine v_aload_n C 0 dX7_begin_26 rfl rfl ?_
      refine v_aload_n C 1 dX7_begin_27 rfl rfl ?_
      refine v_iload_n C 2 dX7_begin_28 rfl rfl ?_
      obtain ⟨g2, h⟩ := gd_of h
      obtain ⟨q1, hq1, h⟩ := bd_of h
      refine c_call C [.int x2] [.ref (ad 34), .ref (ad 34)] (c_Laws_indexForm hA _ _ _ hq1) hY_Laws_indexForm rfl (by decide) g2 ml_7_34 ⟨(by omega : 0 + 1 ≤ 2), (by omega : 8 + (2 + 11) + 0 ≤ 44)⟩ ⟨Nat.zero_le _, Nat.zero_le _⟩ rfl rfl (Nat.le_of_ble_eq_true rfl) dX7_begin_29 (wc_D hA cy _) ?_
      obtain ⟨q2, hq2, h⟩ := bd_of h
      refine c_call C [va_rf (Option.map ad q1.1)] [.ref (ad 34)] (c_Signs_copyOf hA _ _ hq2) hY_Signs_copyOf rfl (by decide) (okS _ 34 (by decide) rfl) ml_7_38 ⟨(by omega : 1 + 1 ≤ 2), (by omega : 8 + (4 + 11) + 21 ≤ 44)⟩ ⟨Nat.zero_le _, Nat.zero_le _⟩ rfl rfl (Nat.le_of_ble_eq_true rfl) dX7_begin_32 (wc_D hA cy _) ?_
      obtain ⟨q3, hq3, h⟩ := bd_of h
      refine c_call C [.int q2.1] [] (c_Signs_addFamily hA _ _ hq3) hY_Signs_addFamily rfl (by decide) (okS _ 34 (by decide) rfl) ml_7_42 ⟨(by omega : 0 + 1 ≤ 2), (by omega : 8 + (2 + 11) + 0 ≤ 44)⟩ ⟨Nat.zero_le _, Nat.zero_le _⟩ rfl rfl (Nat.le_of_ble_eq_true rfl) dX7_begin_35 (wc_D hA cy _) ?_
      refine v_iinc C (x2 + 1) 2 [(2, .int (x2 + 1)), (0, .ref (ad 34)), (1, .ref (ad a1))] dX7_begin_38 rfl rfl (by decide) rfl ?_
      refine v_goto C 17 dX7_begin_41 (by decide) ?_
      exact v_sub [1, 2, 0] rfl (ih _ _ _ h)
set_option maxHeartbeats 4000000 in
set_option maxRecDepth 20000 in
theorem c_Signs_begin {l : Launch} {D : va_G} {cy : Nat → ClassId} {ad : Nat → Nat} {q : Int32 × CS} (hA : adOK ad) (x1 : Option Nat) (σ : CS) (h : f_Signs_begin x1 σ = some q) : MV l D (cyT cy) (inC ad) yX7_begin cX7_begin 3 none (2) (44) 0 0 [.ref (ad 34), va_rf (Option.map ad x1)] (wc cy ad σ) none (wc cy ad q.2) := by
  refine MV.of (by decide) (wc_D hA cy σ) (by cases x1 <;> exact Nat.le_of_ble_eq_true rfl) [(0, .ref (ad 34)), (1, va_rf (Option.map ad x1))] (by cases x1 <;> rfl) ?_
  intro p e s m args below meth c C
  rw [f_Signs_begin] at h
  refine v_aload_n C 0 dX7_begin_0 rfl rfl ?_
  refine v_iconst C 0 dX7_begin_1 (by decide) ?_
  refine c_putI C fl_7_21 fw_7_1 rfl (by decide) (okS _ 34 (by decide) rfl) dX7_begin_2 ?_
  refine v_aload_n C 0 dX7_begin_5 rfl rfl ?_
  refine v_iconst C 0 dX7_begin_6 (by decide) ?_
  refine c_putI C fl_7_25 fw_7_3 rfl (by decide) (okS _ 34 (by decide) rfl) dX7_begin_7 ?_
  refine v_aload_n C 0 dX7_begin_10 rfl rfl ?_
  refine v_iconst C 0 dX7_begin_11 (by decide) ?_
  refine c_putI C fl_7_28 fw_7_5 rfl (by decide) (okS _ 34 (by decide) rfl) dX7_begin_12 ?_
  refine v_iconst C 0 dX7_begin_15 (by decide) ?_
  refine v_istore_n C [(2, .int 0), (0, .ref (ad 34)), (1, va_rf (Option.map ad x1))] dX7_begin_16 rfl (by decide) (by simp [List.filter, cat_rf]) ?_
  exact v_sub [1, 2, 0] rfl ((l_Signs_begin_17 C hA 10000) _ _ _ h)
set_option maxHeartbeats 4000000 in
set_option maxRecDepth 20000 in
theorem b_Values_release_17 {p : Program} {l : Launch} {e : Env} {s : State} {m : MethodId} {args : Array Value} {below : List Frame} {meth : Method} {c : Code} {D : va_G} {cy : Nat → ClassId} {ad : Nat → Nat} {q : Int32 × CS}  (C : vC p s m args meth c cX8_release 2 none RX8 D (cyT cy)) (hA : adOK ad) : ∀ (σ : CS), B_Values_release_17 σ = some q → V p l e { frames := 0, cells := 0, slots := 0, locals := 0 } s m args below meth c D (inC ad) 2 (MQ below (vQ D (inC ad) none (wc cy ad q.2)) args s 0 0 (inC ad)) 0 0 (wc cy ad σ) 17 [(0, .ref (ad 38))] [] := by
  intro σ h
  rw [B_Values_release_17] at h
  obtain rfl := Option.some.inj h
  exact v_vret C dX8_release_17
set_option maxHeartbeats 4000000 in
set_option maxRecDepth 20000 in
theorem c_Values_release {l : Launch} {D : va_G} {cy : Nat → ClassId} {ad : Nat → Nat} {q : Int32 × CS} (hA : adOK ad) (x1 : Int32) (σ : CS) (h : f_Values_release x1 σ = some q) : MV l D (cyT cy) (inC ad) yX8_release cX8_release 2 none (0) (0) 0 0 [.ref (ad 38), .int x1] (wc cy ad σ) none (wc cy ad q.2) := by
  refine MV.of (by decide) (wc_D hA cy σ) (Nat.le_of_ble_eq_true rfl) [(0, .ref (ad 38)), (1, .int x1)] rfl ?_
  intro p e s m args below meth c C
  rw [f_Values_release] at h
  refine v_iload_n C 1 dX8_release_0 rfl rfl ?_
  refine v_if_le C 17 dX8_release_1 (by decide) (fun c1 => ?_) (fun c1 => ?_)
  · rw [if_pos c1] at h
    exact v_sub [0] rfl ((b_Values_release_17 C hA) _ h)
  · rw [if_neg c1] at h
    refine v_iload_n C 1 dX8_release_4 rfl rfl ?_
    refine v_aload_n C 0 dX8_release_5 rfl rfl ?_
    refine c_getI C fl_8_21 rfl (okS _ 38 (by decide) rfl) dX8_release_6 ?_
    refine v_icmp_ge C 17 dX8_release_9 (by decide) (fun c2 => ?_) (fun c2 => ?_)
    · rw [if_pos c2] at h
      exact v_sub [0] rfl ((b_Values_release_17 C hA) _ h)
    · rw [if_neg c2] at h
      refine v_aload_n C 0 dX8_release_12 rfl rfl ?_
      refine v_iload_n C 1 dX8_release_13 rfl rfl ?_
      refine c_putI C fl_8_21 fw_8_4 rfl (by decide) (okS _ 38 (by decide) rfl) dX8_release_14 ?_
      exact v_sub [0] rfl ((b_Values_release_17 C hA) _ h)
set_option maxHeartbeats 4000000 in
set_option maxRecDepth 20000 in
theorem c_Reader_begin {l : Launch} {D : va_G} {cy : Nat → ClassId} {ad : Nat → Nat} {q : Int32 × CS} (hA : adOK ad) (x1 : Option Nat) (x2 : Int32) (x3 : Option Nat) (x4 : Option Nat) (σ : CS) (h : f_Reader_begin x1 x2 x3 x4 σ = some q) : MV l D (cyT cy) (inC ad) yX4_begin cX4_begin 5 none (3) (66) 0 0 [.ref (ad 43), va_rf (Option.map ad x1), .int x2, va_rf (Option.map ad x3), va_rf (Option.map ad x4)] (wc cy ad σ) none (wc cy ad q.2) := by
  refine MV.of (by decide) (wc_D hA cy σ) (by cases x1 <;> cases x3 <;> cases x4 <;> exact Nat.le_of_ble_eq_true rfl) [(0, .ref (ad 43)), (1, va_rf (Option.map ad x1)), (2, .int x2), (3, va_rf (Option.map ad x3)), (4, va_rf (Option.map ad x4))] (by cases x1 <;> cases x3 <;> cases x4 <;> rfl) ?_
  intro p e s m args below meth c C
  rw [f_Reader_begin] at h
  refine v_aload_n C 0 dX4_begin_0 rfl rfl ?_
  refine c_aload_n C x1 1 dX4_begin_1 rfl rfl ?_
  refine c_putR C x1 fl_4_15 fw_4_4 rfl rfl rfl (by decide) (okS _ 43 (by decide) rfl) dX4_begin_2 ?_
  refine v_aload_n C 0 dX4_begin_5 rfl rfl ?_
  refine v_iload_n C 2 dX4_begin_6 rfl rfl ?_
  refine c_putI C fl_4_37 fw_4_5 rfl (by decide) (okS _ 43 (by decide) rfl) dX4_begin_7 ?_
  refine v_aload_n C 0 dX4_begin_10 rfl rfl ?_
  refine c_aload C x4 4 dX4_begin_11 rfl ?_
  refine c_putR C x4 fl_4_21 fw_4_6 rfl rfl rfl (by decide) (okS _ 43 (by decide) rfl) dX4_begin_13 ?_
  refine v_aload_n C 0 dX4_begin_16 rfl rfl ?_
  refine v_iconst C 0 dX4_begin_17 (by decide) ?_
  refine c_putI C fl_4_41 fw_4_7 rfl (by decide) (okS _ 43 (by decide) rfl) dX4_begin_18 ?_
  refine v_aload_n C 0 dX4_begin_21 rfl rfl ?_
  refine v_iconst C (-1) dX4_begin_22 (by decide) ?_
  refine c_putI C fl_4_44 fw_4_8 rfl (by decide) (okS _ 43 (by decide) rfl) dX4_begin_23 ?_
  refine v_aload_n C 0 dX4_begin_26 rfl rfl ?_
  refine c_getS C 34 fl_4_25 rfl rfl (by decide) (okS _ 43 (by decide) rfl) dX4_begin_27 ?_
  refine c_aload_n C x3 3 dX4_begin_30 rfl rfl ?_
  obtain ⟨q1, hq1, h⟩ := bd_of h
  refine c_call C [va_rf (Option.map ad x3)] [] (c_Signs_begin hA _ _ hq1) hY_Signs_begin rfl (by decide) (okS _ 34 (by decide) rfl) ml_4_47 ⟨(by omega : 2 + 1 ≤ 3), (by omega : 8 + (3 + 11) + 44 ≤ 66)⟩ ⟨Nat.zero_le _, Nat.zero_le _⟩ rfl rfl (Nat.le_of_ble_eq_true rfl) dX4_begin_31 (wc_D hA cy _) ?_
  refine v_aload_n C 0 dX4_begin_34 rfl rfl ?_
  refine c_getS C 38 fl_4_29 rfl rfl (by decide) (okS _ 43 (by decide) rfl) dX4_begin_35 ?_
  refine v_iconst C 1 dX4_begin_38 (by decide) ?_
  obtain ⟨q2, hq2, h⟩ := bd_of h
  refine c_call C [.int 1] [] (c_Values_release hA _ _ hq2) hY_Values_release rfl (by decide) (okS _ 38 (by decide) rfl) ml_4_55 ⟨(by omega : 0 + 1 ≤ 3), (by omega : 8 + (2 + 11) + 0 ≤ 66)⟩ ⟨Nat.zero_le _, Nat.zero_le _⟩ rfl rfl (Nat.le_of_ble_eq_true rfl) dX4_begin_39 (wc_D hA cy _) ?_
  refine v_aload_n C 0 dX4_begin_42 rfl rfl ?_
  refine c_getS C 45 fl_4_9 rfl rfl (by decide) (okS _ 43 (by decide) rfl) dX4_begin_43 ?_
  refine v_iconst C 0 dX4_begin_46 (by decide) ?_
  refine v_iconst C 0 dX4_begin_47 (by decide) ?_
  obtain ⟨g1, h⟩ := gd_of h
  refine c_iast C (okS _ 45 (by decide) rfl) (ix_in g1) dX4_begin_48 ?_
  obtain rfl := Option.some.inj h
  exact v_vret C dX4_begin_49
set_option maxHeartbeats 4000000 in
set_option maxRecDepth 20000 in
theorem b_Reader_peek_43 {p : Program} {l : Launch} {e : Env} {s : State} {m : MethodId} {args : Array Value} {below : List Frame} {meth : Method} {c : Code} {D : va_G} {cy : Nat → ClassId} {ad : Nat → Nat} {q : Int32 × CS}  (C : vC p s m args meth c cX4_peek 1 (some .int) RX4 D (cyT cy)) (hA : adOK ad) : ∀ (s0 : Int32) (σ : CS), B_Reader_peek_43 s0 σ = some q → V p l e { frames := 0, cells := 0, slots := 0, locals := 0 } s m args below meth c D (inC ad) 1 (MQ below (vQ D (inC ad) (some (.int q.1)) (wc cy ad q.2)) args s 0 0 (inC ad)) 0 0 (wc cy ad σ) 43 [(0, .ref (ad 43))] [.int s0] := by
  intro s0 σ h
  rw [B_Reader_peek_43] at h
  obtain rfl := Option.some.inj h
  exact v_iret C dX4_peek_43
set_option maxHeartbeats 4000000 in
set_option maxRecDepth 20000 in
theorem b_Reader_peek_42 {p : Program} {l : Launch} {e : Env} {s : State} {m : MethodId} {args : Array Value} {below : List Frame} {meth : Method} {c : Code} {D : va_G} {cy : Nat → ClassId} {ad : Nat → Nat} {q : Int32 × CS}  (C : vC p s m args meth c cX4_peek 1 (some .int) RX4 D (cyT cy)) (hA : adOK ad) {k43 : Int32 → CS → Option (Int32 × CS)} (hk43 : ∀ (s0 : Int32) (σ : CS), k43 s0 σ = some q → V p l e { frames := 0, cells := 0, slots := 0, locals := 0 } s m args below meth c D (inC ad) 1 (MQ below (vQ D (inC ad) (some (.int q.1)) (wc cy ad q.2)) args s 0 0 (inC ad)) 0 0 (wc cy ad σ) 43 [(0, .ref (ad 43))] [.int s0]) : ∀ (σ : CS), B_Reader_peek_42 k43 σ = some q → V p l e { frames := 0, cells := 0, slots := 0, locals := 0 } s m args below meth c D (inC ad) 1 (MQ below (vQ D (inC ad) (some (.int q.1)) (wc cy ad q.2)) args s 0 0 (inC ad)) 0 0 (wc cy ad σ) 42 [(0, .ref (ad 43))] [] := by
  intro σ h
  rw [B_Reader_peek_42] at h
  refine v_iconst C (-1) dX4_peek_42 (by decide) ?_
  exact v_sub [0] rfl (hk43 _ _ h)
set_option maxHeartbeats 4000000 in
set_option maxRecDepth 20000 in
theorem c_Reader_peek {l : Launch} {D : va_G} {cy : Nat → ClassId} {ad : Nat → Nat} {q : Int32 × CS} (hA : adOK ad) (σ : CS) (h : f_Reader_peek σ = some q) : MV l D (cyT cy) (inC ad) yX4_peek cX4_peek 1 (some .int) (0) (0) 0 0 [.ref (ad 43)] (wc cy ad σ) (some (.int q.1)) (wc cy ad q.2) := by
  refine MV.of (by decide) (wc_D hA cy σ) (Nat.le_of_ble_eq_true rfl) [(0, .ref (ad 43))] rfl ?_
  intro p e s m args below meth c C
  rw [f_Reader_peek] at h
  refine v_aload_n C 0 dX4_peek_0 rfl rfl ?_
  refine c_getI C fl_4_41 rfl (okS _ 43 (by decide) rfl) dX4_peek_1 ?_
  refine v_if_lt C 42 dX4_peek_4 (by decide) (fun c1 => ?_) (fun c1 => ?_)
  · rw [if_pos c1] at h
    exact v_sub [0] rfl ((b_Reader_peek_42 C hA (b_Reader_peek_43 C hA)) _ h)
  · rw [if_neg c1] at h
    refine v_aload_n C 0 dX4_peek_7 rfl rfl ?_
    refine c_getI C fl_4_41 rfl (okS _ 43 (by decide) rfl) dX4_peek_8 ?_
    refine v_aload_n C 0 dX4_peek_11 rfl rfl ?_
    refine c_getI C fl_4_37 rfl (okS _ 43 (by decide) rfl) dX4_peek_12 ?_
    refine v_icmp_ge C 42 dX4_peek_15 (by decide) (fun c2 => ?_) (fun c2 => ?_)
    · rw [if_pos c2] at h
      exact v_sub [0] rfl ((b_Reader_peek_42 C hA (b_Reader_peek_43 C hA)) _ h)
    · rw [if_neg c2] at h
      refine v_aload_n C 0 dX4_peek_18 rfl rfl ?_
      refine c_getI C fl_4_41 rfl (okS _ 43 (by decide) rfl) dX4_peek_19 ?_
      refine v_aload_n C 0 dX4_peek_22 rfl rfl ?_
      refine c_getR C fl_4_15 rfl (okS _ 43 (by decide) rfl) dX4_peek_23 ?_
      obtain ⟨a1, ha1, h⟩ := bd_of h
      rw [ha1]
      obtain ⟨g1, h⟩ := gd_of h
      refine c_alen C g1 dX4_peek_26 ?_
      refine v_icmp_ge C 42 dX4_peek_27 (by decide) (fun c3 => ?_) (fun c3 => ?_)
      · rw [if_pos c3] at h
        exact v_sub [0] rfl ((b_Reader_peek_42 C hA (b_Reader_peek_43 C hA)) _ h)
      · rw [if_neg c3] at h
        refine v_aload_n C 0 dX4_peek_30 rfl rfl ?_
        refine c_getR C fl_4_15 rfl (okS _ 43 (by decide) rfl) dX4_peek_31 ?_
        refine v_aload_n C 0 dX4_peek_34 rfl rfl ?_
        refine c_getI C fl_4_41 rfl (okS _ 43 (by decide) rfl) dX4_peek_35 ?_
        obtain ⟨a2, ha2, h⟩ := bd_of h
        rw [ha2]
        obtain ⟨g2, h⟩ := gd_of h
        obtain ⟨g3, h⟩ := gd_of h
        refine c_iald C g2 (ix_in g3) dX4_peek_38 ?_
        refine v_goto C 43 dX4_peek_39 (by decide) ?_
        exact v_sub [0] rfl ((b_Reader_peek_43 C hA) _ _ h)
set_option maxHeartbeats 4000000 in
set_option maxRecDepth 20000 in
theorem b_Signs_isFamily_22 {p : Program} {l : Launch} {e : Env} {s : State} {m : MethodId} {args : Array Value} {below : List Frame} {meth : Method} {c : Code} {D : va_G} {cy : Nat → ClassId} {ad : Nat → Nat} {q : Int32 × CS}  (C : vC p s m args meth c cX7_isFamily 2 (some .boolean) RX7 D (cyT cy)) (hA : adOK ad) : ∀ (s0 : Int32) (σ : CS), B_Signs_isFamily_22 s0 σ = some q → V p l e { frames := 0, cells := 0, slots := 0, locals := 0 } s m args below meth c D (inC ad) 2 (MQ below (vQ D (inC ad) (some (.int q.1)) (wc cy ad q.2)) args s 0 0 (inC ad)) 0 0 (wc cy ad σ) 22 [(0, .ref (ad 34))] [.int s0] := by
  intro s0 σ h
  rw [B_Signs_isFamily_22] at h
  obtain ⟨g1, h⟩ := gd_of h
  obtain rfl := Option.some.inj h
  exact v_zret C (bzb_in g1) dX7_isFamily_22
set_option maxHeartbeats 4000000 in
set_option maxRecDepth 20000 in
theorem b_Signs_isFamily_21 {p : Program} {l : Launch} {e : Env} {s : State} {m : MethodId} {args : Array Value} {below : List Frame} {meth : Method} {c : Code} {D : va_G} {cy : Nat → ClassId} {ad : Nat → Nat} {q : Int32 × CS}  (C : vC p s m args meth c cX7_isFamily 2 (some .boolean) RX7 D (cyT cy)) (hA : adOK ad) {k22 : Int32 → CS → Option (Int32 × CS)} (hk22 : ∀ (s0 : Int32) (σ : CS), k22 s0 σ = some q → V p l e { frames := 0, cells := 0, slots := 0, locals := 0 } s m args below meth c D (inC ad) 2 (MQ below (vQ D (inC ad) (some (.int q.1)) (wc cy ad q.2)) args s 0 0 (inC ad)) 0 0 (wc cy ad σ) 22 [(0, .ref (ad 34))] [.int s0]) : ∀ (σ : CS), B_Signs_isFamily_21 k22 σ = some q → V p l e { frames := 0, cells := 0, slots := 0, locals := 0 } s m args below meth c D (inC ad) 2 (MQ below (vQ D (inC ad) (some (.int q.1)) (wc cy ad q.2)) args s 0 0 (inC ad)) 0 0 (wc cy ad σ) 21 [(0, .ref (ad 34))] [] := by
  intro σ h
  rw [B_Signs_isFamily_21] at h
  refine v_iconst C 0 dX7_isFamily_21 (by decide) ?_
  exact v_sub [0] rfl (hk22 _ _ h)
set_option maxHeartbeats 4000000 in
set_option maxRecDepth 20000 in
theorem c_Signs_isFamily {l : Launch} {D : va_G} {cy : Nat → ClassId} {ad : Nat → Nat} {q : Int32 × CS} (hA : adOK ad) (x1 : Int32) (σ : CS) (h : f_Signs_isFamily x1 σ = some q) : MV l D (cyT cy) (inC ad) yX7_isFamily cX7_isFamily 2 (some .boolean) (0) (0) 0 0 [.ref (ad 34), .int x1] (wc cy ad σ) (some (.int q.1)) (wc cy ad q.2) := by
  refine MV.of (by decide) (wc_D hA cy σ) (Nat.le_of_ble_eq_true rfl) [(0, .ref (ad 34)), (1, .int x1)] rfl ?_
  intro p e s m args below meth c C
  rw [f_Signs_isFamily] at h
  refine v_iload_n C 1 dX7_isFamily_0 rfl rfl ?_
  refine v_bipush C 65 dX7_isFamily_1 (by decide) ?_
  refine v_icmp_lt C 21 dX7_isFamily_3 (by decide) (fun c1 => ?_) (fun c1 => ?_)
  · rw [if_pos c1] at h
    exact v_sub [0] rfl ((b_Signs_isFamily_21 C hA (b_Signs_isFamily_22 C hA)) _ h)
  · rw [if_neg c1] at h
    refine v_iload_n C 1 dX7_isFamily_6 rfl rfl ?_
    refine v_bipush C 65 dX7_isFamily_7 (by decide) ?_
    refine v_isub C dX7_isFamily_9 ?_
    refine v_aload_n C 0 dX7_isFamily_10 rfl rfl ?_
    refine c_getI C fl_7_25 rfl (okS _ 34 (by decide) rfl) dX7_isFamily_11 ?_
    refine v_icmp_ge C 21 dX7_isFamily_14 (by decide) (fun c2 => ?_) (fun c2 => ?_)
    · rw [if_pos c2] at h
      exact v_sub [0] rfl ((b_Signs_isFamily_21 C hA (b_Signs_isFamily_22 C hA)) _ h)
    · rw [if_neg c2] at h
      refine v_iconst C 1 dX7_isFamily_17 (by decide) ?_
      refine v_goto C 22 dX7_isFamily_18 (by decide) ?_
      exact v_sub [0] rfl ((b_Signs_isFamily_22 C hA) _ _ h)
set_option maxHeartbeats 4000000 in
set_option maxRecDepth 20000 in
theorem c_Reader_refuse {l : Launch} {D : va_G} {cy : Nat → ClassId} {ad : Nat → Nat} {q : Int32 × CS} (hA : adOK ad) (x1 : Int32) (σ : CS) (h : f_Reader_refuse x1 σ = some q) : MV l D (cyT cy) (inC ad) yX4_refuse cX4_refuse 2 (some .int) (0) (0) 0 0 [.ref (ad 43), .int x1] (wc cy ad σ) (some (.int q.1)) (wc cy ad q.2) := by
  refine MV.of (by decide) (wc_D hA cy σ) (Nat.le_of_ble_eq_true rfl) [(0, .ref (ad 43)), (1, .int x1)] rfl ?_
  intro p e s m args below meth c C
  rw [f_Reader_refuse] at h
  refine v_aload_n C 0 dX4_refuse_0 rfl rfl ?_
  refine v_iload_n C 1 dX4_refuse_1 rfl rfl ?_
  refine c_putI C fl_4_44 fw_4_8 rfl (by decide) (okS _ 43 (by decide) rfl) dX4_refuse_2 ?_
  refine v_iconst C (-1) dX4_refuse_5 (by decide) ?_
  obtain rfl := Option.some.inj h
  exact v_iret C dX4_refuse_6
set_option maxHeartbeats 4000000 in
set_option maxRecDepth 20000 in
theorem b_Signs_indexTypeOf_32 {p : Program} {l : Launch} {e : Env} {s : State} {m : MethodId} {args : Array Value} {below : List Frame} {meth : Method} {c : Code} {D : va_G} {cy : Nat → ClassId} {ad : Nat → Nat} {q : Int32 × CS}  (C : vC p s m args meth c cX7_indexTypeOf 3 (some .int) RX7 D (cyT cy)) (hA : adOK ad) : ∀ (s0 : Int32) (σ : CS), B_Signs_indexTypeOf_32 s0 σ = some q → V p l e { frames := 0, cells := 0, slots := 0, locals := 0 } s m args below meth c D (inC ad) 3 (MQ below (vQ D (inC ad) (some (.int q.1)) (wc cy ad q.2)) args s 0 0 (inC ad)) 0 0 (wc cy ad σ) 32 [(0, .ref (ad 34))] [.int s0] := by
  intro s0 σ h
  rw [B_Signs_indexTypeOf_32] at h
  obtain rfl := Option.some.inj h
  exact v_iret C dX7_indexTypeOf_32
set_option maxHeartbeats 4000000 in
set_option maxRecDepth 20000 in
theorem b_Signs_indexTypeOf_31 {p : Program} {l : Launch} {e : Env} {s : State} {m : MethodId} {args : Array Value} {below : List Frame} {meth : Method} {c : Code} {D : va_G} {cy : Nat → ClassId} {ad : Nat → Nat} {q : Int32 × CS}  (C : vC p s m args meth c cX7_indexTypeOf 3 (some .int) RX7 D (cyT cy)) (hA : adOK ad) {k32 : Int32 → CS → Option (Int32 × CS)} (hk32 : ∀ (s0 : Int32) (σ : CS), k32 s0 σ = some q → V p l e { frames := 0, cells := 0, slots := 0, locals := 0 } s m args below meth c D (inC ad) 3 (MQ below (vQ D (inC ad) (some (.int q.1)) (wc cy ad q.2)) args s 0 0 (inC ad)) 0 0 (wc cy ad σ) 32 [(0, .ref (ad 34))] [.int s0]) : ∀ (σ : CS), B_Signs_indexTypeOf_31 k32 σ = some q → V p l e { frames := 0, cells := 0, slots := 0, locals := 0 } s m args below meth c D (inC ad) 3 (MQ below (vQ D (inC ad) (some (.int q.1)) (wc cy ad q.2)) args s 0 0 (inC ad)) 0 0 (wc cy ad σ) 31 [(0, .ref (ad 34))] [] := by
  intro σ h
  rw [B_Signs_indexTypeOf_31] at h
  refine v_iconst C (-1) dX7_indexTypeOf_31 (by decide) ?_
  exact v_sub [0] rfl (hk32 _ _ h)
set_option maxHeartbeats 4000000 in
set_option maxRecDepth 20000 in
theorem c_Signs_indexTypeOf {l : Launch} {D : va_G} {cy : Nat → ClassId} {ad : Nat → Nat} {q : Int32 × CS} (hA : adOK ad) (x1 : Int32) (σ : CS) (h : f_Signs_indexTypeOf x1 σ = some q) : MV l D (cyT cy) (inC ad) yX7_indexTypeOf cX7_indexTypeOf 3 (some .int) (0) (0) 0 0 [.ref (ad 34), .int x1] (wc cy ad σ) (some (.int q.1)) (wc cy ad q.2) := by
  refine MV.of (by decide) (wc_D hA cy σ) (Nat.le_of_ble_eq_true rfl) [(0, .ref (ad 34)), (1, .int x1)] rfl ?_
  intro p e s m args below meth c C
  rw [f_Signs_indexTypeOf] at h
  refine v_iload_n C 1 dX7_indexTypeOf_0 rfl rfl ?_
  refine v_bipush C 65 dX7_indexTypeOf_1 (by decide) ?_
  refine v_isub C dX7_indexTypeOf_3 ?_
  refine v_istore_n C [(2, .int (x1 - 65)), (0, .ref (ad 34)), (1, .int x1)] dX7_indexTypeOf_4 rfl (by decide) rfl ?_
  refine v_iload_n C 0 dX7_indexTypeOf_5 rfl rfl ?_
  refine v_if_lt C 31 dX7_indexTypeOf_6 (by decide) (fun c1 => ?_) (fun c1 => ?_)
  · rw [if_pos c1] at h
    exact v_sub [1] rfl ((b_Signs_indexTypeOf_31 C hA (b_Signs_indexTypeOf_32 C hA)) _ h)
  · rw [if_neg c1] at h
    refine v_iload_n C 0 dX7_indexTypeOf_9 rfl rfl ?_
    refine v_aload_n C 1 dX7_indexTypeOf_10 rfl rfl ?_
    refine c_getI C fl_7_25 rfl (okS _ 34 (by decide) rfl) dX7_indexTypeOf_11 ?_
    refine v_icmp_ge C 31 dX7_indexTypeOf_14 (by decide) (fun c2 => ?_) (fun c2 => ?_)
    · rw [if_pos c2] at h
      exact v_sub [1] rfl ((b_Signs_indexTypeOf_31 C hA (b_Signs_indexTypeOf_32 C hA)) _ h)
    · rw [if_neg c2] at h
      refine v_iload_n C 0 dX7_indexTypeOf_17 rfl rfl ?_
      refine v_iconst C 3 dX7_indexTypeOf_18 (by decide) ?_
      refine v_icmp_ge C 31 dX7_indexTypeOf_19 (by decide) (fun c3 => ?_) (fun c3 => ?_)
      · rw [if_pos c3] at h
        exact v_sub [1] rfl ((b_Signs_indexTypeOf_31 C hA (b_Signs_indexTypeOf_32 C hA)) _ h)
      · rw [if_neg c3] at h
        refine v_aload_n C 1 dX7_indexTypeOf_22 rfl rfl ?_
        refine c_getS C 36 fl_7_15 rfl rfl (by decide) (okS _ 34 (by decide) rfl) dX7_indexTypeOf_23 ?_
        refine v_iload_n C 0 dX7_indexTypeOf_26 rfl rfl ?_
        obtain ⟨g1, h⟩ := gd_of h
        refine c_iald C (okS _ 36 (by decide) rfl) (ix_in g1) dX7_indexTypeOf_27 ?_
        refine v_goto C 32 dX7_indexTypeOf_28 (by decide) ?_
        exact v_sub [1] rfl ((b_Signs_indexTypeOf_32 C hA) _ _ h)
set_option maxHeartbeats 4000000 in
set_option maxRecDepth 20000 in
theorem c_Writer_begin {l : Launch} {D : va_G} {cy : Nat → ClassId} {ad : Nat → Nat} {q : Int32 × CS} (hA : adOK ad) (σ : CS) (h : f_Writer_begin σ = some q) : MV l D (cyT cy) (inC ad) yX9_begin cX9_begin 1 none (0) (0) 0 0 [.ref (ad 44)] (wc cy ad σ) none (wc cy ad q.2) := by
  refine MV.of (by decide) (wc_D hA cy σ) (Nat.le_of_ble_eq_true rfl) [(0, .ref (ad 44))] rfl ?_
  intro p e s m args below meth c C
  rw [f_Writer_begin] at h
  refine v_aload_n C 0 dX9_begin_0 rfl rfl ?_
  refine v_aload_n C 0 dX9_begin_1 rfl rfl ?_
  refine c_getS C 34 fl_9_9 rfl rfl (by decide) (okS _ 44 (by decide) rfl) dX9_begin_2 ?_
  refine c_getIN C fl_9_33 rfl (okS _ 34 (by decide) rfl) dX9_begin_5 ?_
  refine c_putI C fl_9_39 fw_9_2 rfl (by decide) (okS _ 44 (by decide) rfl) dX9_begin_8 ?_
  refine v_aload_n C 0 dX9_begin_11 rfl rfl ?_
  refine v_iconst C 0 dX9_begin_12 (by decide) ?_
  refine c_putZ C (Or.inl rfl) fl_9_42 fw_9_3 rfl (by decide) (okS _ 44 (by decide) rfl) dX9_begin_13 ?_
  obtain rfl := Option.some.inj h
  exact v_vret C dX9_begin_16
