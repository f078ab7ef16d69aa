theorem dX11_in_0 : decode cX11_in 0 = .ok (.iload_n 0, 1) := by decide +kernel
theorem dX11_in_1 : decode cX11_in 1 = .ok (.iload_n 1, 1) := by decide +kernel
theorem dX11_in_2 : decode cX11_in 2 = .ok (.if_icmp .lt 12, 3) := by decide +kernel
theorem dX11_in_5 : decode cX11_in 5 = .ok (.iload_n 0, 1) := by decide +kernel
theorem dX11_in_6 : decode cX11_in 6 = .ok (.iload_n 2, 1) := by decide +kernel
theorem dX11_in_7 : decode cX11_in 7 = .ok (.if_icmp .gt 7, 3) := by decide +kernel
theorem dX11_in_10 : decode cX11_in 10 = .ok (.iconst 1, 1) := by decide +kernel
theorem dX11_in_11 : decode cX11_in 11 = .ok (.goto 4, 3) := by decide +kernel
theorem dX11_in_14 : decode cX11_in 14 = .ok (.iconst 0, 1) := by decide +kernel
theorem dX11_in_15 : decode cX11_in 15 = .ok (.ireturn, 1) := by decide +kernel
theorem dX11_bring_0 : decode cX11_bring 0 = .ok (.iconst 0, 1) := by decide +kernel
theorem dX11_bring_1 : decode cX11_bring 1 = .ok (.istore 5, 2) := by decide +kernel
theorem dX11_bring_3 : decode cX11_bring 3 = .ok (.iload 5, 2) := by decide +kernel
theorem dX11_bring_5 : decode cX11_bring 5 = .ok (.iload 4, 2) := by decide +kernel
theorem dX11_bring_7 : decode cX11_bring 7 = .ok (.if_icmp .ge 21, 3) := by decide +kernel
theorem dX11_bring_10 : decode cX11_bring 10 = .ok (.aload_n 2, 1) := by decide +kernel
theorem dX11_bring_11 : decode cX11_bring 11 = .ok (.iload_n 3, 1) := by decide +kernel
theorem dX11_bring_12 : decode cX11_bring 12 = .ok (.iload 5, 2) := by decide +kernel
theorem dX11_bring_14 : decode cX11_bring 14 = .ok (.iadd, 1) := by decide +kernel
theorem dX11_bring_15 : decode cX11_bring 15 = .ok (.aload_n 0, 1) := by decide +kernel
theorem dX11_bring_16 : decode cX11_bring 16 = .ok (.iload_n 1, 1) := by decide +kernel
theorem dX11_bring_17 : decode cX11_bring 17 = .ok (.iload 5, 2) := by decide +kernel
theorem dX11_bring_19 : decode cX11_bring 19 = .ok (.iadd, 1) := by decide +kernel
theorem dX11_bring_20 : decode cX11_bring 20 = .ok (.iaload, 1) := by decide +kernel
theorem dX11_bring_21 : decode cX11_bring 21 = .ok (.iastore, 1) := by decide +kernel
theorem dX11_bring_22 : decode cX11_bring 22 = .ok (.iinc 5 1, 3) := by decide +kernel
theorem dX11_bring_25 : decode cX11_bring 25 = .ok (.goto (-22), 3) := by decide +kernel
theorem dX11_bring_28 : decode cX11_bring 28 = .ok (.return_, 1) := by decide +kernel
theorem dX11_isFamily_0 : decode cX11_isFamily 0 = .ok (.iload_n 0, 1) := by decide +kernel
theorem dX11_isFamily_1 : decode cX11_isFamily 1 = .ok (.bipush 65, 2) := by decide +kernel
theorem dX11_isFamily_3 : decode cX11_isFamily 3 = .ok (.if_icmp .lt 13, 3) := by decide +kernel
theorem dX11_isFamily_6 : decode cX11_isFamily 6 = .ok (.iload_n 0, 1) := by decide +kernel
theorem dX11_isFamily_7 : decode cX11_isFamily 7 = .ok (.bipush 67, 2) := by decide +kernel
theorem dX11_isFamily_9 : decode cX11_isFamily 9 = .ok (.if_icmp .gt 7, 3) := by decide +kernel
theorem dX11_isFamily_12 : decode cX11_isFamily 12 = .ok (.iconst 1, 1) := by decide +kernel
theorem dX11_isFamily_13 : decode cX11_isFamily 13 = .ok (.goto 4, 3) := by decide +kernel
theorem dX11_isFamily_16 : decode cX11_isFamily 16 = .ok (.iconst 0, 1) := by decide +kernel
theorem dX11_isFamily_17 : decode cX11_isFamily 17 = .ok (.ireturn, 1) := by decide +kernel
theorem dX11_partsOf_0 : decode cX11_partsOf 0 = .ok (.iload_n 1, 1) := by decide +kernel
theorem dX11_partsOf_1 : decode cX11_partsOf 1 = .ok (.lookupswitch 71 #[(44, 67), (46, 67), (60, 69), (62, 69), (80, 67), (83, 67), (92, 69)], 67) := by decide +kernel
theorem dX11_partsOf_68 : decode cX11_partsOf 68 = .ok (.iconst 2, 1) := by decide +kernel
theorem dX11_partsOf_69 : decode cX11_partsOf 69 = .ok (.ireturn, 1) := by decide +kernel
theorem dX11_partsOf_70 : decode cX11_partsOf 70 = .ok (.iconst 1, 1) := by decide +kernel
theorem dX11_partsOf_71 : decode cX11_partsOf 71 = .ok (.ireturn, 1) := by decide +kernel
theorem dX11_partsOf_72 : decode cX11_partsOf 72 = .ok (.iload_n 1, 1) := by decide +kernel
theorem dX11_partsOf_73 : decode cX11_partsOf 73 = .ok (.invokestatic 119, 3) := by decide +kernel
theorem dX11_partsOf_76 : decode cX11_partsOf 76 = .ok (.ifCond .eq 19, 3) := by decide +kernel
theorem dX11_partsOf_79 : decode cX11_partsOf 79 = .ok (.aload_n 0, 1) := by decide +kernel
theorem dX11_partsOf_80 : decode cX11_partsOf 80 = .ok (.getfield 16, 3) := by decide +kernel
theorem dX11_partsOf_83 : decode cX11_partsOf 83 = .ok (.iload_n 1, 1) := by decide +kernel
theorem dX11_partsOf_84 : decode cX11_partsOf 84 = .ok (.bipush 65, 2) := by decide +kernel
theorem dX11_partsOf_86 : decode cX11_partsOf 86 = .ok (.isub, 1) := by decide +kernel
theorem dX11_partsOf_87 : decode cX11_partsOf 87 = .ok (.baload, 1) := by decide +kernel
theorem dX11_partsOf_88 : decode cX11_partsOf 88 = .ok (.ifCond .eq 7, 3) := by decide +kernel
theorem dX11_partsOf_91 : decode cX11_partsOf 91 = .ok (.iconst 1, 1) := by decide +kernel
theorem dX11_partsOf_92 : decode cX11_partsOf 92 = .ok (.goto 4, 3) := by decide +kernel
theorem dX11_partsOf_95 : decode cX11_partsOf 95 = .ok (.iconst 0, 1) := by decide +kernel
theorem dX11_partsOf_96 : decode cX11_partsOf 96 = .ok (.ireturn, 1) := by decide +kernel
theorem dX11_behind_0 : decode cX11_behind 0 = .ok (.iconst 1, 1) := by decide +kernel
theorem dX11_behind_1 : decode cX11_behind 1 = .ok (.istore_n 2, 1) := by decide +kernel
theorem dX11_behind_2 : decode cX11_behind 2 = .ok (.iload_n 1, 1) := by decide +kernel
theorem dX11_behind_3 : decode cX11_behind 3 = .ok (.istore_n 3, 1) := by decide +kernel
theorem dX11_behind_4 : decode cX11_behind 4 = .ok (.iload_n 2, 1) := by decide +kernel
theorem dX11_behind_5 : decode cX11_behind 5 = .ok (.ifCond .le 24, 3) := by decide +kernel
theorem dX11_behind_8 : decode cX11_behind 8 = .ok (.iload_n 2, 1) := by decide +kernel
theorem dX11_behind_9 : decode cX11_behind 9 = .ok (.aload_n 0, 1) := by decide +kernel
theorem dX11_behind_10 : decode cX11_behind 10 = .ok (.aload_n 0, 1) := by decide +kernel
theorem dX11_behind_11 : decode cX11_behind 11 = .ok (.getfield 7, 3) := by decide +kernel
theorem dX11_behind_14 : decode cX11_behind 14 = .ok (.iload_n 3, 1) := by decide +kernel
theorem dX11_behind_15 : decode cX11_behind 15 = .ok (.iaload, 1) := by decide +kernel
theorem dX11_behind_16 : decode cX11_behind 16 = .ok (.invokevirtual 123, 3) := by decide +kernel
theorem dX11_behind_19 : decode cX11_behind 19 = .ok (.iconst 1, 1) := by decide +kernel
theorem dX11_behind_20 : decode cX11_behind 20 = .ok (.isub, 1) := by decide +kernel
theorem dX11_behind_21 : decode cX11_behind 21 = .ok (.iadd, 1) := by decide +kernel
theorem dX11_behind_22 : decode cX11_behind 22 = .ok (.istore_n 2, 1) := by decide +kernel
theorem dX11_behind_23 : decode cX11_behind 23 = .ok (.iinc 3 1, 3) := by decide +kernel
theorem dX11_behind_26 : decode cX11_behind 26 = .ok (.goto (-22), 3) := by decide +kernel
theorem dX11_behind_29 : decode cX11_behind 29 = .ok (.iload_n 3, 1) := by decide +kernel
theorem dX11_behind_30 : decode cX11_behind 30 = .ok (.ireturn, 1) := by decide +kernel
theorem dX11_longOf_0 : decode cX11_longOf 0 = .ok (.aload_n 0, 1) := by decide +kernel
theorem dX11_longOf_1 : decode cX11_longOf 1 = .ok (.iload_n 1, 1) := by decide +kernel
theorem dX11_longOf_2 : decode cX11_longOf 2 = .ok (.invokevirtual 127, 3) := by decide +kernel
theorem dX11_longOf_5 : decode cX11_longOf 5 = .ok (.iload_n 1, 1) := by decide +kernel
theorem dX11_longOf_6 : decode cX11_longOf 6 = .ok (.isub, 1) := by decide +kernel
theorem dX11_longOf_7 : decode cX11_longOf 7 = .ok (.ireturn, 1) := by decide +kernel
theorem dX11_isData_0 : decode cX11_isData 0 = .ok (.iconst 1, 1) := by decide +kernel
theorem dX11_isData_1 : decode cX11_isData 1 = .ok (.istore_n 2, 1) := by decide +kernel
theorem dX11_isData_2 : decode cX11_isData 2 = .ok (.iload_n 1, 1) := by decide +kernel
theorem dX11_isData_3 : decode cX11_isData 3 = .ok (.istore_n 3, 1) := by decide +kernel
theorem dX11_isData_4 : decode cX11_isData 4 = .ok (.iload_n 3, 1) := by decide +kernel
theorem dX11_isData_5 : decode cX11_isData 5 = .ok (.aload_n 0, 1) := by decide +kernel
theorem dX11_isData_6 : decode cX11_isData 6 = .ok (.iload_n 1, 1) := by decide +kernel
theorem dX11_isData_7 : decode cX11_isData 7 = .ok (.invokevirtual 127, 3) := by decide +kernel
theorem dX11_isData_10 : decode cX11_isData 10 = .ok (.if_icmp .ge 30, 3) := by decide +kernel
theorem dX11_isData_13 : decode cX11_isData 13 = .ok (.iload_n 2, 1) := by decide +kernel
theorem dX11_isData_14 : decode cX11_isData 14 = .ok (.ifCond .eq 18, 3) := by decide +kernel
theorem dX11_isData_17 : decode cX11_isData 17 = .ok (.aload_n 0, 1) := by decide +kernel
theorem dX11_isData_18 : decode cX11_isData 18 = .ok (.getfield 7, 3) := by decide +kernel
theorem dX11_isData_21 : decode cX11_isData 21 = .ok (.iload_n 3, 1) := by decide +kernel
theorem dX11_isData_22 : decode cX11_isData 22 = .ok (.iaload, 1) := by decide +kernel
theorem dX11_isData_23 : decode cX11_isData 23 = .ok (.bipush 80, 2) := by decide +kernel
theorem dX11_isData_25 : decode cX11_isData 25 = .ok (.if_icmp .eq 7, 3) := by decide +kernel
theorem dX11_isData_28 : decode cX11_isData 28 = .ok (.iconst 1, 1) := by decide +kernel
theorem dX11_isData_29 : decode cX11_isData 29 = .ok (.goto 4, 3) := by decide +kernel
theorem dX11_isData_32 : decode cX11_isData 32 = .ok (.iconst 0, 1) := by decide +kernel
theorem dX11_isData_33 : decode cX11_isData 33 = .ok (.istore_n 2, 1) := by decide +kernel
theorem dX11_isData_34 : decode cX11_isData 34 = .ok (.iinc 3 1, 3) := by decide +kernel
theorem dX11_isData_37 : decode cX11_isData 37 = .ok (.goto (-33), 3) := by decide +kernel
theorem dX11_isData_40 : decode cX11_isData 40 = .ok (.iload_n 2, 1) := by decide +kernel
theorem dX11_isData_41 : decode cX11_isData 41 = .ok (.ireturn, 1) := by decide +kernel
theorem dX11_isSame_0 : decode cX11_isSame 0 = .ok (.aload_n 0, 1) := by decide +kernel
theorem dX11_isSame_1 : decode cX11_isSame 1 = .ok (.iload_n 1, 1) := by decide +kernel
theorem dX11_isSame_2 : decode cX11_isSame 2 = .ok (.invokevirtual 130, 3) := by decide +kernel
theorem dX11_isSame_5 : decode cX11_isSame 5 = .ok (.istore_n 3, 1) := by decide +kernel
theorem dX11_isSame_6 : decode cX11_isSame 6 = .ok (.iload_n 3, 1) := by decide +kernel
theorem dX11_isSame_7 : decode cX11_isSame 7 = .ok (.aload_n 0, 1) := by decide +kernel
theorem dX11_isSame_8 : decode cX11_isSame 8 = .ok (.iload_n 2, 1) := by decide +kernel
theorem dX11_isSame_9 : decode cX11_isSame 9 = .ok (.invokevirtual 130, 3) := by decide +kernel
theorem dX11_isSame_12 : decode cX11_isSame 12 = .ok (.if_icmp .ne 7, 3) := by decide +kernel
theorem dX11_isSame_15 : decode cX11_isSame 15 = .ok (.iconst 1, 1) := by decide +kernel
theorem dX11_isSame_16 : decode cX11_isSame 16 = .ok (.goto 4, 3) := by decide +kernel
theorem dX11_isSame_19 : decode cX11_isSame 19 = .ok (.iconst 0, 1) := by decide +kernel
theorem dX11_isSame_20 : decode cX11_isSame 20 = .ok (.istore 4, 2) := by decide +kernel
theorem dX11_isSame_22 : decode cX11_isSame 22 = .ok (.iconst 0, 1) := by decide +kernel
theorem dX11_isSame_23 : decode cX11_isSame 23 = .ok (.istore 5, 2) := by decide +kernel
theorem dX11_isSame_25 : decode cX11_isSame 25 = .ok (.iload 5, 2) := by decide +kernel
theorem dX11_isSame_27 : decode cX11_isSame 27 = .ok (.iload_n 3, 1) := by decide +kernel
theorem dX11_isSame_28 : decode cX11_isSame 28 = .ok (.if_icmp .ge 42, 3) := by decide +kernel
theorem dX11_isSame_31 : decode cX11_isSame 31 = .ok (.iload 4, 2) := by decide +kernel
theorem dX11_isSame_33 : decode cX11_isSame 33 = .ok (.ifCond .eq 37, 3) := by decide +kernel
theorem dX11_isSame_36 : decode cX11_isSame 36 = .ok (.aload_n 0, 1) := by decide +kernel
theorem dX11_isSame_37 : decode cX11_isSame 37 = .ok (.getfield 7, 3) := by decide +kernel
theorem dX11_isSame_40 : decode cX11_isSame 40 = .ok (.iload_n 1, 1) := by decide +kernel
theorem dX11_isSame_41 : decode cX11_isSame 41 = .ok (.iload 5, 2) := by decide +kernel
theorem dX11_isSame_43 : decode cX11_isSame 43 = .ok (.iadd, 1) := by decide +kernel
theorem dX11_isSame_44 : decode cX11_isSame 44 = .ok (.iaload, 1) := by decide +kernel
theorem dX11_isSame_45 : decode cX11_isSame 45 = .ok (.aload_n 0, 1) := by decide +kernel
theorem dX11_isSame_46 : decode cX11_isSame 46 = .ok (.getfield 7, 3) := by decide +kernel
theorem dX11_isSame_49 : decode cX11_isSame 49 = .ok (.iload_n 2, 1) := by decide +kernel
theorem dX11_isSame_50 : decode cX11_isSame 50 = .ok (.iload 5, 2) := by decide +kernel
theorem dX11_isSame_52 : decode cX11_isSame 52 = .ok (.iadd, 1) := by decide +kernel
theorem dX11_isSame_53 : decode cX11_isSame 53 = .ok (.iaload, 1) := by decide +kernel
theorem dX11_isSame_54 : decode cX11_isSame 54 = .ok (.if_icmp .ne 7, 3) := by decide +kernel
theorem dX11_isSame_57 : decode cX11_isSame 57 = .ok (.iconst 1, 1) := by decide +kernel
theorem dX11_isSame_58 : decode cX11_isSame 58 = .ok (.goto 4, 3) := by decide +kernel
theorem dX11_isSame_61 : decode cX11_isSame 61 = .ok (.iconst 0, 1) := by decide +kernel
theorem dX11_isSame_62 : decode cX11_isSame 62 = .ok (.istore 4, 2) := by decide +kernel
theorem dX11_isSame_64 : decode cX11_isSame 64 = .ok (.iinc 5 1, 3) := by decide +kernel
theorem dX11_isSame_67 : decode cX11_isSame 67 = .ok (.goto (-42), 3) := by decide +kernel
theorem dX11_isSame_70 : decode cX11_isSame 70 = .ok (.iload 4, 2) := by decide +kernel
theorem dX11_isSame_72 : decode cX11_isSame 72 = .ok (.ireturn, 1) := by decide +kernel
theorem dX11_puts_0 : decode cX11_puts 0 = .ok (.aload_n 0, 1) := by decide +kernel
theorem dX11_puts_1 : decode cX11_puts 1 = .ok (.getfield 7, 3) := by decide +kernel
theorem dX11_puts_4 : decode cX11_puts 4 = .ok (.aload_n 0, 1) := by decide +kernel
theorem dX11_puts_5 : decode cX11_puts 5 = .ok (.getfield 133, 3) := by decide +kernel
theorem dX11_puts_8 : decode cX11_puts 8 = .ok (.iload_n 1, 1) := by decide +kernel
theorem dX11_puts_9 : decode cX11_puts 9 = .ok (.iastore, 1) := by decide +kernel
theorem dX11_puts_10 : decode cX11_puts 10 = .ok (.aload_n 0, 1) := by decide +kernel
theorem dX11_puts_11 : decode cX11_puts 11 = .ok (.dup, 1) := by decide +kernel
theorem dX11_puts_12 : decode cX11_puts 12 = .ok (.getfield 133, 3) := by decide +kernel
theorem dX11_puts_15 : decode cX11_puts 15 = .ok (.iconst 1, 1) := by decide +kernel
theorem dX11_puts_16 : decode cX11_puts 16 = .ok (.iadd, 1) := by decide +kernel
theorem dX11_puts_17 : decode cX11_puts 17 = .ok (.putfield 133, 3) := by decide +kernel
theorem dX11_puts_20 : decode cX11_puts 20 = .ok (.return_, 1) := by decide +kernel
theorem dX11_putsForm_0 : decode cX11_putsForm 0 = .ok (.aload_n 0, 1) := by decide +kernel
theorem dX11_putsForm_1 : decode cX11_putsForm 1 = .ok (.iload_n 1, 1) := by decide +kernel
theorem dX11_putsForm_2 : decode cX11_putsForm 2 = .ok (.invokevirtual 130, 3) := by decide +kernel
theorem dX11_putsForm_5 : decode cX11_putsForm 5 = .ok (.istore_n 2, 1) := by decide +kernel
theorem dX11_putsForm_6 : decode cX11_putsForm 6 = .ok (.iconst 0, 1) := by decide +kernel
theorem dX11_putsForm_7 : decode cX11_putsForm 7 = .ok (.istore_n 3, 1) := by decide +kernel
theorem dX11_putsForm_8 : decode cX11_putsForm 8 = .ok (.iload_n 3, 1) := by decide +kernel
theorem dX11_putsForm_9 : decode cX11_putsForm 9 = .ok (.iload_n 2, 1) := by decide +kernel
theorem dX11_putsForm_10 : decode cX11_putsForm 10 = .ok (.if_icmp .ge 21, 3) := by decide +kernel
theorem dX11_putsForm_13 : decode cX11_putsForm 13 = .ok (.aload_n 0, 1) := by decide +kernel
theorem dX11_putsForm_14 : decode cX11_putsForm 14 = .ok (.aload_n 0, 1) := by decide +kernel
theorem dX11_putsForm_15 : decode cX11_putsForm 15 = .ok (.getfield 7, 3) := by decide +kernel
theorem dX11_putsForm_18 : decode cX11_putsForm 18 = .ok (.iload_n 1, 1) := by decide +kernel
theorem dX11_putsForm_19 : decode cX11_putsForm 19 = .ok (.iload_n 3, 1) := by decide +kernel
theorem dX11_putsForm_20 : decode cX11_putsForm 20 = .ok (.iadd, 1) := by decide +kernel
theorem dX11_putsForm_21 : decode cX11_putsForm 21 = .ok (.iaload, 1) := by decide +kernel
theorem dX11_putsForm_22 : decode cX11_putsForm 22 = .ok (.invokevirtual 136, 3) := by decide +kernel
theorem dX11_putsForm_25 : decode cX11_putsForm 25 = .ok (.iinc 3 1, 3) := by decide +kernel
theorem dX11_putsForm_28 : decode cX11_putsForm 28 = .ok (.goto (-20), 3) := by decide +kernel
theorem dX11_putsForm_31 : decode cX11_putsForm 31 = .ok (.return_, 1) := by decide +kernel
theorem dX11_toSlot_0 : decode cX11_toSlot 0 = .ok (.aload_n 0, 1) := by decide +kernel
theorem dX11_toSlot_1 : decode cX11_toSlot 1 = .ok (.iload_n 1, 1) := by decide +kernel
theorem dX11_toSlot_2 : decode cX11_toSlot 2 = .ok (.invokevirtual 130, 3) := by decide +kernel
theorem dX11_toSlot_5 : decode cX11_toSlot 5 = .ok (.istore_n 3, 1) := by decide +kernel
theorem dX11_toSlot_6 : decode cX11_toSlot 6 = .ok (.iconst 0, 1) := by decide +kernel
theorem dX11_toSlot_7 : decode cX11_toSlot 7 = .ok (.istore 4, 2) := by decide +kernel
theorem dX11_toSlot_9 : decode cX11_toSlot 9 = .ok (.iload 4, 2) := by decide +kernel
theorem dX11_toSlot_11 : decode cX11_toSlot 11 = .ok (.iload_n 3, 1) := by decide +kernel
theorem dX11_toSlot_12 : decode cX11_toSlot 12 = .ok (.if_icmp .ge 27, 3) := by decide +kernel
theorem dX11_toSlot_15 : decode cX11_toSlot 15 = .ok (.aload_n 0, 1) := by decide +kernel
theorem dX11_toSlot_16 : decode cX11_toSlot 16 = .ok (.getfield 7, 3) := by decide +kernel
theorem dX11_toSlot_19 : decode cX11_toSlot 19 = .ok (.iload_n 2, 1) := by decide +kernel
theorem dX11_toSlot_20 : decode cX11_toSlot 20 = .ok (.iload 4, 2) := by decide +kernel
theorem dX11_toSlot_22 : decode cX11_toSlot 22 = .ok (.iadd, 1) := by decide +kernel
theorem dX11_toSlot_23 : decode cX11_toSlot 23 = .ok (.aload_n 0, 1) := by decide +kernel
theorem dX11_toSlot_24 : decode cX11_toSlot 24 = .ok (.getfield 7, 3) := by decide +kernel
theorem dX11_toSlot_27 : decode cX11_toSlot 27 = .ok (.iload_n 1, 1) := by decide +kernel
theorem dX11_toSlot_28 : decode cX11_toSlot 28 = .ok (.iload 4, 2) := by decide +kernel
theorem dX11_toSlot_30 : decode cX11_toSlot 30 = .ok (.iadd, 1) := by decide +kernel
theorem dX11_toSlot_31 : decode cX11_toSlot 31 = .ok (.iaload, 1) := by decide +kernel
theorem dX11_toSlot_32 : decode cX11_toSlot 32 = .ok (.iastore, 1) := by decide +kernel
theorem dX11_toSlot_33 : decode cX11_toSlot 33 = .ok (.iinc 4 1, 3) := by decide +kernel
theorem dX11_toSlot_36 : decode cX11_toSlot 36 = .ok (.goto (-27), 3) := by decide +kernel
theorem dX11_toSlot_39 : decode cX11_toSlot 39 = .ok (.return_, 1) := by decide +kernel
theorem dX11_lays_0 : decode cX11_lays 0 = .ok (.aload_n 0, 1) := by decide +kernel
theorem dX11_lays_1 : decode cX11_lays 1 = .ok (.getfield 38, 3) := by decide +kernel
theorem dX11_lays_4 : decode cX11_lays 4 = .ok (.aload_n 0, 1) := by decide +kernel
theorem dX11_lays_5 : decode cX11_lays 5 = .ok (.getfield 140, 3) := by decide +kernel
theorem dX11_lays_8 : decode cX11_lays 8 = .ok (.iload_n 1, 1) := by decide +kernel
theorem dX11_lays_9 : decode cX11_lays 9 = .ok (.i2l, 1) := by decide +kernel
theorem dX11_lays_10 : decode cX11_lays 10 = .ok (.iload_n 2, 1) := by decide +kernel
theorem dX11_lays_11 : decode cX11_lays 11 = .ok (.i2l, 1) := by decide +kernel
theorem dX11_lays_12 : decode cX11_lays 12 = .ok (.iconst 4, 1) := by decide +kernel
theorem dX11_lays_13 : decode cX11_lays 13 = .ok (.lshl, 1) := by decide +kernel
theorem dX11_lays_14 : decode cX11_lays 14 = .ok (.lor, 1) := by decide +kernel
theorem dX11_lays_15 : decode cX11_lays 15 = .ok (.iload_n 3, 1) := by decide +kernel
theorem dX11_lays_16 : decode cX11_lays 16 = .ok (.i2l, 1) := by decide +kernel
theorem dX11_lays_17 : decode cX11_lays 17 = .ok (.bipush 20, 2) := by decide +kernel
theorem dX11_lays_19 : decode cX11_lays 19 = .ok (.lshl, 1) := by decide +kernel
theorem dX11_lays_20 : decode cX11_lays 20 = .ok (.lor, 1) := by decide +kernel
theorem dX11_lays_21 : decode cX11_lays 21 = .ok (.iload 4, 2) := by decide +kernel
theorem dX11_lays_23 : decode cX11_lays 23 = .ok (.i2l, 1) := by decide +kernel
theorem dX11_lays_24 : decode cX11_lays 24 = .ok (.bipush 36, 2) := by decide +kernel
theorem dX11_lays_26 : decode cX11_lays 26 = .ok (.lshl, 1) := by decide +kernel
theorem dX11_lays_27 : decode cX11_lays 27 = .ok (.lor, 1) := by decide +kernel
theorem dX11_lays_28 : decode cX11_lays 28 = .ok (.lastore, 1) := by decide +kernel
theorem dX11_lays_29 : decode cX11_lays 29 = .ok (.aload_n 0, 1) := by decide +kernel
theorem dX11_lays_30 : decode cX11_lays 30 = .ok (.dup, 1) := by decide +kernel
theorem dX11_lays_31 : decode cX11_lays 31 = .ok (.getfield 140, 3) := by decide +kernel
theorem dX11_lays_34 : decode cX11_lays 34 = .ok (.iconst 1, 1) := by decide +kernel
theorem dX11_lays_35 : decode cX11_lays 35 = .ok (.iadd, 1) := by decide +kernel
theorem dX11_lays_36 : decode cX11_lays 36 = .ok (.putfield 140, 3) := by decide +kernel
theorem dX11_lays_39 : decode cX11_lays 39 = .ok (.aload_n 0, 1) := by decide +kernel
theorem dX11_lays_40 : decode cX11_lays 40 = .ok (.getfield 140, 3) := by decide +kernel
theorem dX11_lays_43 : decode cX11_lays 43 = .ok (.iconst 1, 1) := by decide +kernel
theorem dX11_lays_44 : decode cX11_lays 44 = .ok (.isub, 1) := by decide +kernel
theorem dX11_lays_45 : decode cX11_lays 45 = .ok (.ireturn, 1) := by decide +kernel
theorem dX11_sortOf_0 : decode cX11_sortOf 0 = .ok (.aload_n 0, 1) := by decide +kernel
theorem dX11_sortOf_1 : decode cX11_sortOf 1 = .ok (.getfield 38, 3) := by decide +kernel
theorem dX11_sortOf_4 : decode cX11_sortOf 4 = .ok (.iload_n 1, 1) := by decide +kernel
theorem dX11_sortOf_5 : decode cX11_sortOf 5 = .ok (.laload, 1) := by decide +kernel
theorem dX11_sortOf_6 : decode cX11_sortOf 6 = .ok (.ldc2_w 143, 3) := by decide +kernel
theorem dX11_sortOf_9 : decode cX11_sortOf 9 = .ok (.land, 1) := by decide +kernel
theorem dX11_sortOf_10 : decode cX11_sortOf 10 = .ok (.l2i, 1) := by decide +kernel
theorem dX11_sortOf_11 : decode cX11_sortOf 11 = .ok (.ireturn, 1) := by decide +kernel
theorem dX11_aOf_0 : decode cX11_aOf 0 = .ok (.aload_n 0, 1) := by decide +kernel
theorem dX11_aOf_1 : decode cX11_aOf 1 = .ok (.getfield 38, 3) := by decide +kernel
theorem dX11_aOf_4 : decode cX11_aOf 4 = .ok (.iload_n 1, 1) := by decide +kernel
theorem dX11_aOf_5 : decode cX11_aOf 5 = .ok (.laload, 1) := by decide +kernel
theorem dX11_aOf_6 : decode cX11_aOf 6 = .ok (.iconst 4, 1) := by decide +kernel
theorem dX11_aOf_7 : decode cX11_aOf 7 = .ok (.lshr, 1) := by decide +kernel
theorem dX11_aOf_8 : decode cX11_aOf 8 = .ok (.ldc2_w 145, 3) := by decide +kernel
theorem dX11_aOf_11 : decode cX11_aOf 11 = .ok (.land, 1) := by decide +kernel
theorem dX11_aOf_12 : decode cX11_aOf 12 = .ok (.l2i, 1) := by decide +kernel
theorem dX11_aOf_13 : decode cX11_aOf 13 = .ok (.ireturn, 1) := by decide +kernel
theorem dX11_bOf_0 : decode cX11_bOf 0 = .ok (.aload_n 0, 1) := by decide +kernel
theorem dX11_bOf_1 : decode cX11_bOf 1 = .ok (.getfield 38, 3) := by decide +kernel
theorem dX11_bOf_4 : decode cX11_bOf 4 = .ok (.iload_n 1, 1) := by decide +kernel
theorem dX11_bOf_5 : decode cX11_bOf 5 = .ok (.laload, 1) := by decide +kernel
theorem dX11_bOf_6 : decode cX11_bOf 6 = .ok (.bipush 20, 2) := by decide +kernel
theorem dX11_bOf_8 : decode cX11_bOf 8 = .ok (.lshr, 1) := by decide +kernel
theorem dX11_bOf_9 : decode cX11_bOf 9 = .ok (.ldc2_w 145, 3) := by decide +kernel
theorem dX11_bOf_12 : decode cX11_bOf 12 = .ok (.land, 1) := by decide +kernel
theorem dX11_bOf_13 : decode cX11_bOf 13 = .ok (.l2i, 1) := by decide +kernel
theorem dX11_bOf_14 : decode cX11_bOf 14 = .ok (.ireturn, 1) := by decide +kernel
theorem dX11_levelOf_0 : decode cX11_levelOf 0 = .ok (.aload_n 0, 1) := by decide +kernel
theorem dX11_levelOf_1 : decode cX11_levelOf 1 = .ok (.getfield 38, 3) := by decide +kernel
theorem dX11_levelOf_4 : decode cX11_levelOf 4 = .ok (.iload_n 1, 1) := by decide +kernel
theorem dX11_levelOf_5 : decode cX11_levelOf 5 = .ok (.laload, 1) := by decide +kernel
theorem dX11_levelOf_6 : decode cX11_levelOf 6 = .ok (.bipush 36, 2) := by decide +kernel
theorem dX11_levelOf_8 : decode cX11_levelOf 8 = .ok (.lshr, 1) := by decide +kernel
theorem dX11_levelOf_9 : decode cX11_levelOf 9 = .ok (.l2i, 1) := by decide +kernel
theorem dX11_levelOf_10 : decode cX11_levelOf 10 = .ok (.ireturn, 1) := by decide +kernel
theorem dX11_with_0 : decode cX11_with 0 = .ok (.aload_n 0, 1) := by decide +kernel
theorem dX11_with_1 : decode cX11_with 1 = .ok (.getfield 45, 3) := by decide +kernel
theorem dX11_with_4 : decode cX11_with 4 = .ok (.istore 4, 2) := by decide +kernel
theorem dX11_with_6 : decode cX11_with 6 = .ok (.aload_n 0, 1) := by decide +kernel
theorem dX11_with_7 : decode cX11_with 7 = .ok (.dup, 1) := by decide +kernel
theorem dX11_with_8 : decode cX11_with 8 = .ok (.getfield 45, 3) := by decide +kernel
theorem dX11_with_11 : decode cX11_with 11 = .ok (.iconst 1, 1) := by decide +kernel
theorem dX11_with_12 : decode cX11_with 12 = .ok (.iadd, 1) := by decide +kernel
theorem dX11_with_13 : decode cX11_with 13 = .ok (.putfield 45, 3) := by decide +kernel
theorem dX11_with_16 : decode cX11_with 16 = .ok (.aload_n 0, 1) := by decide +kernel
theorem dX11_with_17 : decode cX11_with 17 = .ok (.getfield 42, 3) := by decide +kernel
theorem dX11_with_20 : decode cX11_with 20 = .ok (.bipush 10, 2) := by decide +kernel
theorem dX11_with_22 : decode cX11_with 22 = .ok (.iload_n 1, 1) := by decide +kernel
theorem dX11_with_23 : decode cX11_with 23 = .ok (.imul, 1) := by decide +kernel
theorem dX11_with_24 : decode cX11_with 24 = .ok (.aload_n 0, 1) := by decide +kernel
theorem dX11_with_25 : decode cX11_with 25 = .ok (.getfield 42, 3) := by decide +kernel
theorem dX11_with_28 : decode cX11_with 28 = .ok (.bipush 10, 2) := by decide +kernel
theorem dX11_with_30 : decode cX11_with 30 = .ok (.iload 4, 2) := by decide +kernel
theorem dX11_with_32 : decode cX11_with 32 = .ok (.imul, 1) := by decide +kernel
theorem dX11_with_33 : decode cX11_with 33 = .ok (.bipush 10, 2) := by decide +kernel
theorem dX11_with_35 : decode cX11_with 35 = .ok (.invokestatic 147, 3) := by decide +kernel
theorem dX11_with_38 : decode cX11_with 38 = .ok (.aload_n 0, 1) := by decide +kernel
theorem dX11_with_39 : decode cX11_with 39 = .ok (.getfield 42, 3) := by decide +kernel
theorem dX11_with_42 : decode cX11_with 42 = .ok (.bipush 10, 2) := by decide +kernel
theorem dX11_with_44 : decode cX11_with 44 = .ok (.iload 4, 2) := by decide +kernel
theorem dX11_with_46 : decode cX11_with 46 = .ok (.imul, 1) := by decide +kernel
theorem dX11_with_47 : decode cX11_with 47 = .ok (.iload_n 2, 1) := by decide +kernel
theorem dX11_with_48 : decode cX11_with 48 = .ok (.iadd, 1) := by decide +kernel
theorem dX11_with_49 : decode cX11_with 49 = .ok (.iload_n 3, 1) := by decide +kernel
theorem dX11_with_50 : decode cX11_with 50 = .ok (.iastore, 1) := by decide +kernel
theorem dX11_with_51 : decode cX11_with 51 = .ok (.iload 4, 2) := by decide +kernel
theorem dX11_with_53 : decode cX11_with 53 = .ok (.ireturn, 1) := by decide +kernel
theorem dX11_taken_0 : decode cX11_taken 0 = .ok (.aload_n 0, 1) := by decide +kernel
theorem dX11_taken_1 : decode cX11_taken 1 = .ok (.iload_n 1, 1) := by decide +kernel
theorem dX11_taken_2 : decode cX11_taken 2 = .ok (.invokevirtual 151, 3) := by decide +kernel
theorem dX11_taken_5 : decode cX11_taken 5 = .ok (.iconst 5, 1) := by decide +kernel
theorem dX11_taken_6 : decode cX11_taken 6 = .ok (.if_icmp .ne 22, 3) := by decide +kernel
theorem dX11_taken_9 : decode cX11_taken 9 = .ok (.iload_n 2, 1) := by decide +kernel
theorem dX11_taken_10 : decode cX11_taken 10 = .ok (.iconst 3, 1) := by decide +kernel
theorem dX11_taken_11 : decode cX11_taken 11 = .ok (.if_icmp .ne 11, 3) := by decide +kernel
theorem dX11_taken_14 : decode cX11_taken 14 = .ok (.aload_n 0, 1) := by decide +kernel
theorem dX11_taken_15 : decode cX11_taken 15 = .ok (.iload_n 1, 1) := by decide +kernel
theorem dX11_taken_16 : decode cX11_taken 16 = .ok (.invokevirtual 154, 3) := by decide +kernel
theorem dX11_taken_19 : decode cX11_taken 19 = .ok (.goto 8, 3) := by decide +kernel
theorem dX11_taken_22 : decode cX11_taken 22 = .ok (.aload_n 0, 1) := by decide +kernel
theorem dX11_taken_23 : decode cX11_taken 23 = .ok (.iload_n 1, 1) := by decide +kernel
theorem dX11_taken_24 : decode cX11_taken 24 = .ok (.invokevirtual 157, 3) := by decide +kernel
theorem dX11_taken_27 : decode cX11_taken 27 = .ok (.ireturn, 1) := by decide +kernel
theorem dX11_taken_28 : decode cX11_taken 28 = .ok (.aload_n 0, 1) := by decide +kernel
theorem dX11_taken_29 : decode cX11_taken 29 = .ok (.iload_n 2, 1) := by decide +kernel
theorem dX11_taken_30 : decode cX11_taken 30 = .ok (.iload_n 1, 1) := by decide +kernel
theorem dX11_taken_31 : decode cX11_taken 31 = .ok (.iconst 0, 1) := by decide +kernel
theorem dX11_taken_32 : decode cX11_taken 32 = .ok (.iconst 0, 1) := by decide +kernel
theorem dX11_taken_33 : decode cX11_taken 33 = .ok (.invokevirtual 115, 3) := by decide +kernel
theorem dX11_taken_36 : decode cX11_taken 36 = .ok (.ireturn, 1) := by decide +kernel
theorem dX11_valueAt_0 : decode cX11_valueAt 0 = .ok (.aload_n 0, 1) := by decide +kernel
theorem dX11_valueAt_1 : decode cX11_valueAt 1 = .ok (.getfield 7, 3) := by decide +kernel
theorem dX11_valueAt_4 : decode cX11_valueAt 4 = .ok (.iload_n 1, 1) := by decide +kernel
theorem dX11_valueAt_5 : decode cX11_valueAt 5 = .ok (.iaload, 1) := by decide +kernel
theorem dX11_valueAt_6 : decode cX11_valueAt 6 = .ok (.istore 4, 2) := by decide +kernel
theorem dX11_valueAt_8 : decode cX11_valueAt 8 = .ok (.iload 4, 2) := by decide +kernel
theorem dX11_valueAt_10 : decode cX11_valueAt 10 = .ok (.bipush 92, 2) := by decide +kernel
theorem dX11_valueAt_12 : decode cX11_valueAt 12 = .ok (.if_icmp .ne 15, 3) := by decide +kernel
theorem dX11_valueAt_15 : decode cX11_valueAt 15 = .ok (.aload_n 0, 1) := by decide +kernel
theorem dX11_valueAt_16 : decode cX11_valueAt 16 = .ok (.bipush 7, 2) := by decide +kernel
theorem dX11_valueAt_18 : decode cX11_valueAt 18 = .ok (.iload_n 1, 1) := by decide +kernel
theorem dX11_valueAt_19 : decode cX11_valueAt 19 = .ok (.iconst 1, 1) := by decide +kernel
theorem dX11_valueAt_20 : decode cX11_valueAt 20 = .ok (.iadd, 1) := by decide +kernel
theorem dX11_valueAt_21 : decode cX11_valueAt 21 = .ok (.iload_n 3, 1) := by decide +kernel
theorem dX11_valueAt_22 : decode cX11_valueAt 22 = .ok (.iload_n 2, 1) := by decide +kernel
theorem dX11_valueAt_23 : decode cX11_valueAt 23 = .ok (.invokevirtual 115, 3) := by decide +kernel
theorem dX11_valueAt_26 : decode cX11_valueAt 26 = .ok (.ireturn, 1) := by decide +kernel
theorem dX11_valueAt_27 : decode cX11_valueAt 27 = .ok (.iload 4, 2) := by decide +kernel
theorem dX11_valueAt_29 : decode cX11_valueAt 29 = .ok (.bipush 42, 2) := by decide +kernel
theorem dX11_valueAt_31 : decode cX11_valueAt 31 = .ok (.if_icmp .ne 13, 3) := by decide +kernel
theorem dX11_valueAt_34 : decode cX11_valueAt 34 = .ok (.aload_n 0, 1) := by decide +kernel
theorem dX11_valueAt_35 : decode cX11_valueAt 35 = .ok (.bipush 6, 2) := by decide +kernel
theorem dX11_valueAt_37 : decode cX11_valueAt 37 = .ok (.iconst 0, 1) := by decide +kernel
theorem dX11_valueAt_38 : decode cX11_valueAt 38 = .ok (.iconst 0, 1) := by decide +kernel
theorem dX11_valueAt_39 : decode cX11_valueAt 39 = .ok (.iconst 0, 1) := by decide +kernel
theorem dX11_valueAt_40 : decode cX11_valueAt 40 = .ok (.invokevirtual 115, 3) := by decide +kernel
theorem dX11_valueAt_43 : decode cX11_valueAt 43 = .ok (.ireturn, 1) := by decide +kernel
theorem dX11_valueAt_44 : decode cX11_valueAt 44 = .ok (.iload 4, 2) := by decide +kernel
theorem dX11_valueAt_46 : decode cX11_valueAt 46 = .ok (.bipush 57, 2) := by decide +kernel
theorem dX11_valueAt_48 : decode cX11_valueAt 48 = .ok (.if_icmp .gt 21, 3) := by decide +kernel
theorem dX11_valueAt_51 : decode cX11_valueAt 51 = .ok (.aload_n 0, 1) := by decide +kernel
theorem dX11_valueAt_52 : decode cX11_valueAt 52 = .ok (.getfield 42, 3) := by decide +kernel
theorem dX11_valueAt_55 : decode cX11_valueAt 55 = .ok (.bipush 10, 2) := by decide +kernel
theorem dX11_valueAt_57 : decode cX11_valueAt 57 = .ok (.iload_n 3, 1) := by decide +kernel
theorem dX11_valueAt_58 : decode cX11_valueAt 58 = .ok (.imul, 1) := by decide +kernel
theorem dX11_valueAt_59 : decode cX11_valueAt 59 = .ok (.iload 4, 2) := by decide +kernel
theorem dX11_valueAt_61 : decode cX11_valueAt 61 = .ok (.iadd, 1) := by decide +kernel
theorem dX11_valueAt_62 : decode cX11_valueAt 62 = .ok (.bipush 48, 2) := by decide +kernel
theorem dX11_valueAt_64 : decode cX11_valueAt 64 = .ok (.isub, 1) := by decide +kernel
theorem dX11_valueAt_65 : decode cX11_valueAt 65 = .ok (.iaload, 1) := by decide +kernel
theorem dX11_valueAt_66 : decode cX11_valueAt 66 = .ok (.goto 12, 3) := by decide +kernel
theorem dX11_valueAt_69 : decode cX11_valueAt 69 = .ok (.aload_n 0, 1) := by decide +kernel
theorem dX11_valueAt_70 : decode cX11_valueAt 70 = .ok (.iconst 1, 1) := by decide +kernel
theorem dX11_valueAt_71 : decode cX11_valueAt 71 = .ok (.iload 4, 2) := by decide +kernel
theorem dX11_valueAt_73 : decode cX11_valueAt 73 = .ok (.iconst 0, 1) := by decide +kernel
theorem dX11_valueAt_74 : decode cX11_valueAt 74 = .ok (.iconst 0, 1) := by decide +kernel
theorem dX11_valueAt_75 : decode cX11_valueAt 75 = .ok (.invokevirtual 115, 3) := by decide +kernel
theorem dX11_valueAt_78 : decode cX11_valueAt 78 = .ok (.ireturn, 1) := by decide +kernel
theorem dX11_isOpen_0 : decode cX11_isOpen 0 = .ok (.iload_n 0, 1) := by decide +kernel
theorem dX11_isOpen_1 : decode cX11_isOpen 1 = .ok (.bipush 46, 2) := by decide +kernel
theorem dX11_isOpen_3 : decode cX11_isOpen 3 = .ok (.if_icmp .eq 21, 3) := by decide +kernel
theorem dX11_isOpen_6 : decode cX11_isOpen 6 = .ok (.iload_n 0, 1) := by decide +kernel
theorem dX11_isOpen_7 : decode cX11_isOpen 7 = .ok (.bipush 44, 2) := by decide +kernel
theorem dX11_isOpen_9 : decode cX11_isOpen 9 = .ok (.if_icmp .eq 15, 3) := by decide +kernel
theorem dX11_isOpen_12 : decode cX11_isOpen 12 = .ok (.iload_n 0, 1) := by decide +kernel
theorem dX11_isOpen_13 : decode cX11_isOpen 13 = .ok (.bipush 60, 2) := by decide +kernel
theorem dX11_isOpen_15 : decode cX11_isOpen 15 = .ok (.if_icmp .eq 9, 3) := by decide +kernel
theorem dX11_isOpen_18 : decode cX11_isOpen 18 = .ok (.iload_n 0, 1) := by decide +kernel
theorem dX11_isOpen_19 : decode cX11_isOpen 19 = .ok (.bipush 62, 2) := by decide +kernel
theorem dX11_isOpen_21 : decode cX11_isOpen 21 = .ok (.if_icmp .ne 7, 3) := by decide +kernel
theorem dX11_isOpen_24 : decode cX11_isOpen 24 = .ok (.iconst 1, 1) := by decide +kernel
theorem dX11_isOpen_25 : decode cX11_isOpen 25 = .ok (.goto 4, 3) := by decide +kernel
theorem dX11_isOpen_28 : decode cX11_isOpen 28 = .ok (.iconst 0, 1) := by decide +kernel
theorem dX11_isOpen_29 : decode cX11_isOpen 29 = .ok (.ireturn, 1) := by decide +kernel
set_option maxHeartbeats 4000000 in
set_option maxRecDepth 20000 in
theorem b_in_15 {p : Program} {l : Launch} {e : Env} {s : State} {m : MethodId} {args : Array Value} {below : List Frame} {meth : Method} {c : Code} {D : va_G} {cy : Nat → ClassId} {ad : Nat → Nat} {q : Int32 × MS} (C : vC p s m args meth c cX11_in 3 (some .boolean) RX11 D (cyT cy)) (hi : ∀ i j, i < 34 → j < 34 → ad i = ad j → i = j) : ∀ (s0 : Int32) (σ : MS), B_in_15 s0 σ = some q → V p l e { frames := 0, cells := 0, slots := 0, locals := 0 } s m args below meth c D (inAd ad) 3 (MQ below (vQ D (inAd ad) (some (.int q.1)) (wm cy ad q.2)) args s 0 0 (inAd ad)) 0 0 (wm cy ad σ) 15 [] [.int s0] := by
  intro s0 σ h
  rw [B_in_15] at h
  obtain ⟨g1, h⟩ := gd_of h
  obtain rfl := Option.some.inj h
  exact v_zret C (bzb_in g1) dX11_in_15
set_option maxHeartbeats 4000000 in
set_option maxRecDepth 20000 in
theorem b_in_14 {p : Program} {l : Launch} {e : Env} {s : State} {m : MethodId} {args : Array Value} {below : List Frame} {meth : Method} {c : Code} {D : va_G} {cy : Nat → ClassId} {ad : Nat → Nat} {q : Int32 × MS} (C : vC p s m args meth c cX11_in 3 (some .boolean) RX11 D (cyT cy)) (hi : ∀ i j, i < 34 → j < 34 → ad i = ad j → i = j) {k15 : Int32 → MS → Option (Int32 × MS)} (hk15 : ∀ (s0 : Int32)  (σ : MS), k15 s0 σ = some q → V p l e { frames := 0, cells := 0, slots := 0, locals := 0 } s m args below meth c D (inAd ad) 3 (MQ below (vQ D (inAd ad) (some (.int q.1)) (wm cy ad q.2)) args s 0 0 (inAd ad)) 0 0 (wm cy ad σ) 15 [] [.int s0]) : ∀ (σ : MS), B_in_14 k15 σ = some q → V p l e { frames := 0, cells := 0, slots := 0, locals := 0 } s m args below meth c D (inAd ad) 3 (MQ below (vQ D (inAd ad) (some (.int q.1)) (wm cy ad q.2)) args s 0 0 (inAd ad)) 0 0 (wm cy ad σ) 14 [] [] := by
  intro σ h
  rw [B_in_14] at h
  refine v_iconst C 0 dX11_in_14 (by decide) ?_
  exact v_sub [] rfl (hk15 _ _ h)
set_option maxHeartbeats 4000000 in
set_option maxRecDepth 20000 in
theorem c_in {l : Launch} {D : va_G} {cy : Nat → ClassId} {ad : Nat → Nat} {q : Int32 × MS} (hi : ∀ i j, i < 34 → j < 34 → ad i = ad j → i = j) (x0 : Int32) (x1 : Int32) (x2 : Int32) (σ : MS) (h : f_in x0 x1 x2 σ = some q) : MV l D (cyT cy) (inAd ad) yX11_in cX11_in 3 (some .boolean) 0 0 0 0 [.int x0, .int x1, .int x2] (wm cy ad σ) (some (.int q.1)) (wm cy ad q.2) := by
  refine MV.of (by decide) (wm_inj hi cy σ) (Nat.le_of_ble_eq_true rfl) [(0, .int x0), (1, .int x1), (2, .int x2)] rfl ?_
  intro p e s m args below meth c C
  rw [f_in] at h
  refine v_iload_n C 0 dX11_in_0 rfl rfl ?_
  refine v_iload_n C 1 dX11_in_1 rfl rfl ?_
  refine v_icmp_lt C 14 dX11_in_2 (by decide) (fun c1 => ?_) (fun c1 => ?_)
  · rw [if_pos c1] at h
    exact v_sub [] rfl ((b_in_14 C hi (b_in_15 C hi)) _ h)
  · rw [if_neg c1] at h
    refine v_iload_n C 0 dX11_in_5 rfl rfl ?_
    refine v_iload_n C 2 dX11_in_6 rfl rfl ?_
    refine v_icmp_gt C 14 dX11_in_7 (by decide) (fun c2 => ?_) (fun c2 => ?_)
    · rw [if_pos c2] at h
      exact v_sub [] rfl ((b_in_14 C hi (b_in_15 C hi)) _ h)
    · rw [if_neg c2] at h
      refine v_iconst C 1 dX11_in_10 (by decide) ?_
      refine v_goto C 15 dX11_in_11 (by decide) ?_
      exact v_sub [] rfl ((b_in_15 C hi) _ _ h)
set_option maxHeartbeats 4000000 in
set_option maxRecDepth 20000 in
theorem l_bring_3 {p : Program} {l : Launch} {e : Env} {s : State} {m : MethodId} {args : Array Value} {below : List Frame} {meth : Method} {c : Code} {D : va_G} {cy : Nat → ClassId} {ad : Nat → Nat} {q : Int32 × MS} (C : vC p s m args meth c cX11_bring 6 none RX11 D (cyT cy)) (hi : ∀ i j, i < 34 → j < 34 → ad i = ad j → i = j) : ∀ (n : Nat) (a0 : Nat) (x1 : Int32) (a2 : Nat) (x3 : Int32) (x4 : Int32) (x5 : Int32) (σ : MS), isI a0 → isI a2 → L_bring_3 n a0 x1 a2 x3 x4 x5 σ = some q → V p l e { frames := 0, cells := 0, slots := 0, locals := 0 } s m args below meth c D (inAd ad) 6 (MQ below (vQ D (inAd ad) none (wm cy ad q.2)) args s 0 0 (inAd ad)) 0 0 (wm cy ad σ) 3 [(0, .ref (ad a0)), (1, .int x1), (2, .ref (ad a2)), (3, .int x3), (4, .int x4), (5, .int x5)] [] := by
  intro n
  induction n with
  | zero =>
    intro a0 x1 a2 x3 x4 x5 σ hI0 hI2 h
    rw [L_bring_3.eq_1] at h
    cases h
  | succ n ih =>
    intro a0 x1 a2 x3 x4 x5 σ hI0 hI2 h
    rw [L_bring_3.eq_2] at h
    refine v_iload C 5 dX11_bring_3 rfl ?_
    refine v_iload C 4 dX11_bring_5 rfl ?_
    refine v_icmp_ge C 28 dX11_bring_7 (by decide) (fun c1 => ?_) (fun c1 => ?_)
    · rw [if_pos c1] at h
      obtain rfl := Option.some.inj h
      exact v_vret C dX11_bring_28
    · rw [if_neg c1] at h
      refine v_aload_n C 2 dX11_bring_10 rfl rfl ?_
      refine v_iload_n C 3 dX11_bring_11 rfl rfl ?_
      refine v_iload C 5 dX11_bring_12 rfl ?_
      refine v_iadd C dX11_bring_14 ?_
      refine v_aload_n C 0 dX11_bring_15 rfl rfl ?_
      refine v_iload_n C 1 dX11_bring_16 rfl rfl ?_
      refine v_iload C 5 dX11_bring_17 rfl ?_
      refine v_iadd C dX11_bring_19 ?_
      obtain ⟨g1, h⟩ := gd_of h
      refine vm_iald C a0 hI0 (ix_in g1) dX11_bring_20 ?_
      obtain ⟨g2, h⟩ := gd_of h
      refine vm_iast C a2 hI2 (ix_in g2) dX11_bring_21 ?_
      refine v_iinc C (x5 + 1) 5 [(5, .int (x5 + 1)), (0, .ref (ad a0)), (1, .int x1), (2, .ref (ad a2)), (3, .int x3), (4, .int x4)] dX11_bring_22 rfl rfl (by decide) rfl ?_
      refine v_goto C 3 dX11_bring_25 (by decide) ?_
      exact v_sub [1, 2, 3, 4, 5, 0] rfl (ih _ _ _ _ _ _ _ hI0 hI2 h)
set_option maxHeartbeats 4000000 in
set_option maxRecDepth 20000 in
theorem c_bring {l : Launch} {D : va_G} {cy : Nat → ClassId} {ad : Nat → Nat} {q : Int32 × MS} (hi : ∀ i j, i < 34 → j < 34 → ad i = ad j → i = j) {a0 a2 : Nat} (hI0 : isI a0) (hI2 : isI a2) (x1 x3 x4 : Int32) (σ : MS) (h : f_bring a0 x1 a2 x3 x4 σ = some q) : MV l D (cyT cy) (inAd ad) yX11_bring cX11_bring 6 none 0 0 0 0 [.ref (ad a0), .int x1, .ref (ad a2), .int x3, .int x4] (wm cy ad σ) none (wm cy ad q.2) := by
  refine MV.of (by decide) (wm_inj hi cy σ) (Nat.le_of_ble_eq_true rfl) [(0, .ref (ad a0)), (1, .int x1), (2, .ref (ad a2)), (3, .int x3), (4, .int x4)] rfl ?_
  intro p e s m args below meth c C
  rw [f_bring] at h
  refine v_iconst C 0 dX11_bring_0 (by decide) ?_
  refine v_istore C [(5, .int 0), (0, .ref (ad a0)), (1, .int x1), (2, .ref (ad a2)), (3, .int x3), (4, .int x4)] dX11_bring_1 (by decide) rfl ?_
  exact v_sub [1, 2, 3, 4, 5, 0] rfl ((l_bring_3 C hi 10000) _ _ _ _ _ _ _ hI0 hI2 h)
set_option maxHeartbeats 4000000 in
set_option maxRecDepth 20000 in
theorem b_isFamily_17 {p : Program} {l : Launch} {e : Env} {s : State} {m : MethodId} {args : Array Value} {below : List Frame} {meth : Method} {c : Code} {D : va_G} {cy : Nat → ClassId} {ad : Nat → Nat} {q : Int32 × MS} (C : vC p s m args meth c cX11_isFamily 1 (some .boolean) RX11 D (cyT cy)) (hi : ∀ i j, i < 34 → j < 34 → ad i = ad j → i = j) : ∀ (s0 : Int32) (σ : MS), B_isFamily_17 s0 σ = some q → V p l e { frames := 0, cells := 0, slots := 0, locals := 0 } s m args below meth c D (inAd ad) 1 (MQ below (vQ D (inAd ad) (some (.int q.1)) (wm cy ad q.2)) args s 0 0 (inAd ad)) 0 0 (wm cy ad σ) 17 [] [.int s0] := by
  intro s0 σ h
  rw [B_isFamily_17] at h
  obtain ⟨g1, h⟩ := gd_of h
  obtain rfl := Option.some.inj h
  exact v_zret C (bzb_in g1) dX11_isFamily_17
set_option maxHeartbeats 4000000 in
set_option maxRecDepth 20000 in
theorem b_isFamily_16 {p : Program} {l : Launch} {e : Env} {s : State} {m : MethodId} {args : Array Value} {below : List Frame} {meth : Method} {c : Code} {D : va_G} {cy : Nat → ClassId} {ad : Nat → Nat} {q : Int32 × MS} (C : vC p s m args meth c cX11_isFamily 1 (some .boolean) RX11 D (cyT cy)) (hi : ∀ i j, i < 34 → j < 34 → ad i = ad j → i = j) {k17 : Int32 → MS → Option (Int32 × MS)} (hk17 : ∀ (s0 : Int32)  (σ : MS), k17 s0 σ = some q → V p l e { frames := 0, cells := 0, slots := 0, locals := 0 } s m args below meth c D (inAd ad) 1 (MQ below (vQ D (inAd ad) (some (.int q.1)) (wm cy ad q.2)) args s 0 0 (inAd ad)) 0 0 (wm cy ad σ) 17 [] [.int s0]) : ∀ (σ : MS), B_isFamily_16 k17 σ = some q → V p l e { frames := 0, cells := 0, slots := 0, locals := 0 } s m args below meth c D (inAd ad) 1 (MQ below (vQ D (inAd ad) (some (.int q.1)) (wm cy ad q.2)) args s 0 0 (inAd ad)) 0 0 (wm cy ad σ) 16 [] [] := by
  intro σ h
  rw [B_isFamily_16] at h
  refine v_iconst C 0 dX11_isFamily_16 (by decide) ?_
  exact v_sub [] rfl (hk17 _ _ h)
set_option maxHeartbeats 4000000 in
set_option maxRecDepth 20000 in
theorem c_isFamily {l : Launch} {D : va_G} {cy : Nat → ClassId} {ad : Nat → Nat} {q : Int32 × MS} (hi : ∀ i j, i < 34 → j < 34 → ad i = ad j → i = j) (x0 : Int32) (σ : MS) (h : f_isFamily x0 σ = some q) : MV l D (cyT cy) (inAd ad) yX11_isFamily cX11_isFamily 1 (some .boolean) 0 0 0 0 [.int x0] (wm cy ad σ) (some (.int q.1)) (wm cy ad q.2) := by
  refine MV.of (by decide) (wm_inj hi cy σ) (Nat.le_of_ble_eq_true rfl) [(0, .int x0)] rfl ?_
  intro p e s m args below meth c C
  rw [f_isFamily] at h
  refine v_iload_n C 0 dX11_isFamily_0 rfl rfl ?_
  refine v_bipush C 65 dX11_isFamily_1 (by decide) ?_
  refine v_icmp_lt C 16 dX11_isFamily_3 (by decide) (fun c1 => ?_) (fun c1 => ?_)
  · rw [if_pos c1] at h
    exact v_sub [] rfl ((b_isFamily_16 C hi (b_isFamily_17 C hi)) _ h)
  · rw [if_neg c1] at h
    refine v_iload_n C 0 dX11_isFamily_6 rfl rfl ?_
    refine v_bipush C 67 dX11_isFamily_7 (by decide) ?_
    refine v_icmp_gt C 16 dX11_isFamily_9 (by decide) (fun c2 => ?_) (fun c2 => ?_)
    · rw [if_pos c2] at h
      exact v_sub [] rfl ((b_isFamily_16 C hi (b_isFamily_17 C hi)) _ h)
    · rw [if_neg c2] at h
      refine v_iconst C 1 dX11_isFamily_12 (by decide) ?_
      refine v_goto C 17 dX11_isFamily_13 (by decide) ?_
      exact v_sub [] rfl ((b_isFamily_17 C hi) _ _ h)
set_option maxHeartbeats 4000000 in
set_option maxRecDepth 20000 in
theorem b_partsOf_96 {p : Program} {l : Launch} {e : Env} {s : State} {m : MethodId} {args : Array Value} {below : List Frame} {meth : Method} {c : Code} {D : va_G} {cy : Nat → ClassId} {ad : Nat → Nat} {q : Int32 × MS} (C : vC p s m args meth c cX11_partsOf 2 (some .int) RX11 D (cyT cy)) (hi : ∀ i j, i < 34 → j < 34 → ad i = ad j → i = j) : ∀ (s0 : Int32) (σ : MS), B_partsOf_96 s0 σ = some q → V p l e { frames := 1, cells := 0, slots := 0, locals := 20 } s m args below meth c D (inAd ad) 2 (MQ below (vQ D (inAd ad) (some (.int q.1)) (wm cy ad q.2)) args s 0 0 (inAd ad)) 0 0 (wm cy ad σ) 96 [(0, .ref (ad 0))] [.int s0] := by
  intro s0 σ h
  rw [B_partsOf_96] at h
  obtain rfl := Option.some.inj h
  exact v_iret C dX11_partsOf_96
set_option maxHeartbeats 4000000 in
set_option maxRecDepth 20000 in
theorem b_partsOf_95 {p : Program} {l : Launch} {e : Env} {s : State} {m : MethodId} {args : Array Value} {below : List Frame} {meth : Method} {c : Code} {D : va_G} {cy : Nat → ClassId} {ad : Nat → Nat} {q : Int32 × MS} (C : vC p s m args meth c cX11_partsOf 2 (some .int) RX11 D (cyT cy)) (hi : ∀ i j, i < 34 → j < 34 → ad i = ad j → i = j) {k96 : Int32 → MS → Option (Int32 × MS)} (hk96 : ∀ (s0 : Int32)  (σ : MS), k96 s0 σ = some q → V p l e { frames := 1, cells := 0, slots := 0, locals := 20 } s m args below meth c D (inAd ad) 2 (MQ below (vQ D (inAd ad) (some (.int q.1)) (wm cy ad q.2)) args s 0 0 (inAd ad)) 0 0 (wm cy ad σ) 96 [(0, .ref (ad 0))] [.int s0]) : ∀ (σ : MS), B_partsOf_95 k96 σ = some q → V p l e { frames := 1, cells := 0, slots := 0, locals := 20 } s m args below meth c D (inAd ad) 2 (MQ below (vQ D (inAd ad) (some (.int q.1)) (wm cy ad q.2)) args s 0 0 (inAd ad)) 0 0 (wm cy ad σ) 95 [(0, .ref (ad 0))] [] := by
  intro σ h
  rw [B_partsOf_95] at h
  refine v_iconst C 0 dX11_partsOf_95 (by decide) ?_
  exact v_sub [0] rfl (hk96 _ _ h)
set_option maxHeartbeats 4000000 in
set_option maxRecDepth 20000 in
theorem c_partsOf {l : Launch} {D : va_G} {cy : Nat → ClassId} {ad : Nat → Nat} {q : Int32 × MS} (hi : ∀ i j, i < 34 → j < 34 → ad i = ad j → i = j) (x1 : Int32) (σ : MS) (h : f_partsOf x1 σ = some q) : MV l D (cyT cy) (inAd ad) yX11_partsOf cX11_partsOf 2 (some .int) 1 20 0 0 [.ref (ad 0), .int x1] (wm cy ad σ) (some (.int q.1)) (wm cy ad q.2) := by
  refine MV.of (by decide) (wm_inj hi cy σ) (Nat.le_of_ble_eq_true rfl) [(0, .ref (ad 0)), (1, .int x1)] rfl ?_
  intro p e s m args below meth c C
  rw [f_partsOf] at h
  refine v_iload_n C 1 dX11_partsOf_0 rfl rfl ?_
  by_cases c1 : x1 = 44
  · rw [if_pos c1] at h
    refine v_lookup C 68 dX11_partsOf_1 (by decide) (by rw [c1]; try rfl) (by decide) ?_
    refine v_iconst C 2 dX11_partsOf_68 (by decide) ?_
    obtain rfl := Option.some.inj h
    exact v_iret C dX11_partsOf_69
  rw [if_neg c1] at h
  by_cases c2 : x1 = 46
  · rw [if_pos c2] at h
    refine v_lookup C 68 dX11_partsOf_1 (by decide) (by rw [c2]; try rfl) (by decide) ?_
    refine v_iconst C 2 dX11_partsOf_68 (by decide) ?_
    obtain rfl := Option.some.inj h
    exact v_iret C dX11_partsOf_69
  rw [if_neg c2] at h
  by_cases c3 : x1 = 60
  · rw [if_pos c3] at h
    refine v_lookup C 70 dX11_partsOf_1 (by decide) (by rw [c3]; try rfl) (by decide) ?_
    refine v_iconst C 1 dX11_partsOf_70 (by decide) ?_
    obtain rfl := Option.some.inj h
    exact v_iret C dX11_partsOf_71
  rw [if_neg c3] at h
  by_cases c4 : x1 = 62
  · rw [if_pos c4] at h
    refine v_lookup C 70 dX11_partsOf_1 (by decide) (by rw [c4]; try rfl) (by decide) ?_
    refine v_iconst C 1 dX11_partsOf_70 (by decide) ?_
    obtain rfl := Option.some.inj h
    exact v_iret C dX11_partsOf_71
  rw [if_neg c4] at h
  by_cases c5 : x1 = 80
  · rw [if_pos c5] at h
    refine v_lookup C 68 dX11_partsOf_1 (by decide) (by rw [c5]; try rfl) (by decide) ?_
    refine v_iconst C 2 dX11_partsOf_68 (by decide) ?_
    obtain rfl := Option.some.inj h
    exact v_iret C dX11_partsOf_69
  rw [if_neg c5] at h
  by_cases c6 : x1 = 83
  · rw [if_pos c6] at h
    refine v_lookup C 68 dX11_partsOf_1 (by decide) (by rw [c6]; try rfl) (by decide) ?_
    refine v_iconst C 2 dX11_partsOf_68 (by decide) ?_
    obtain rfl := Option.some.inj h
    exact v_iret C dX11_partsOf_69
  rw [if_neg c6] at h
  by_cases c7 : x1 = 92
  · rw [if_pos c7] at h
    refine v_lookup C 70 dX11_partsOf_1 (by decide) (by rw [c7]; try rfl) (by decide) ?_
    refine v_iconst C 1 dX11_partsOf_70 (by decide) ?_
    obtain rfl := Option.some.inj h
    exact v_iret C dX11_partsOf_71
  rw [if_neg c7] at h
  refine v_lookup C 72 dX11_partsOf_1 (by decide) (show Op.lookupswitch.offset [(44, 67), (46, 67), (60, 69), (62, 69), (80, 67), (83, 67), (92, 69)] 71 (x1 : Int32).toInt = 71 from by rw [lv_osw (a := 44) c1 (by decide), lv_osw (a := 46) c2 (by decide), lv_osw (a := 60) c3 (by decide), lv_osw (a := 62) c4 (by decide), lv_osw (a := 80) c5 (by decide), lv_osw (a := 83) c6 (by decide), lv_osw (a := 92) c7 (by decide)]; try rfl) (by decide) ?_
  refine v_iload_n C 1 dX11_partsOf_72 rfl rfl ?_
  obtain ⟨q1, hq1, h⟩ := bd_of h
  refine vm_callS C [.int x1] [] (c_isFamily hi _ _ hq1) hY_isFamily ml_119 ⟨Nat.le_of_ble_eq_true rfl, Nat.le_of_ble_eq_true rfl⟩ ⟨Nat.zero_le _, Nat.zero_le _⟩ rfl rfl (Nat.le_of_ble_eq_true rfl) dX11_partsOf_73 (wm_inj hi cy _) ?_
  refine v_if_eq C 95 dX11_partsOf_76 (by decide) (fun c8 => ?_) (fun c8 => ?_)
  · rw [if_pos c8] at h
    exact v_sub [0] rfl ((b_partsOf_95 C hi (b_partsOf_96 C hi)) _ h)
  · rw [if_neg c8] at h
    refine v_aload_n C 0 dX11_partsOf_79 rfl rfl ?_
    refine n_getR C fl_16 dX11_partsOf_80 ?_
    refine v_iload_n C 1 dX11_partsOf_83 rfl rfl ?_
    refine v_bipush C 65 dX11_partsOf_84 (by decide) ?_
    refine v_isub C dX11_partsOf_86 ?_
    obtain ⟨g1, h⟩ := gd_of h
    refine vm_zald C 3 (by decide) (by decide) rfl (ix_in g1) dX11_partsOf_87 ?_
    refine v_if_eq C 95 dX11_partsOf_88 (by decide) (fun c9 => ?_) (fun c9 => ?_)
    · rw [if_pos c9] at h
      exact v_sub [0] rfl ((b_partsOf_95 C hi (b_partsOf_96 C hi)) _ h)
    · rw [if_neg c9] at h
      refine v_iconst C 1 dX11_partsOf_91 (by decide) ?_
      refine v_goto C 96 dX11_partsOf_92 (by decide) ?_
      exact v_sub [0] rfl ((b_partsOf_96 C hi) _ _ h)
set_option maxHeartbeats 4000000 in
set_option maxRecDepth 20000 in
theorem l_behind_4 {p : Program} {l : Launch} {e : Env} {s : State} {m : MethodId} {args : Array Value} {below : List Frame} {meth : Method} {c : Code} {D : va_G} {cy : Nat → ClassId} {ad : Nat → Nat} {q : Int32 × MS} (C : vC p s m args meth c cX11_behind 4 (some .int) RX11 D (cyT cy)) (hi : ∀ i j, i < 34 → j < 34 → ad i = ad j → i = j) : ∀ (n : Nat) (x2 : Int32) (x3 : Int32) (σ : MS), L_behind_4 n x2 x3 σ = some q → V p l e { frames := 2, cells := 0, slots := 0, locals := 41 } s m args below meth c D (inAd ad) 4 (MQ below (vQ D (inAd ad) (some (.int q.1)) (wm cy ad q.2)) args s 0 0 (inAd ad)) 0 0 (wm cy ad σ) 4 [(0, .ref (ad 0)), (2, .int x2), (3, .int x3)] [] := by
  intro n
  induction n with
  | zero =>
    intro x2 x3 σ h
    rw [L_behind_4.eq_1] at h
    cases h
  | succ n ih =>
    intro x2 x3 σ h
    rw [L_behind_4.eq_2] at h
    refine v_iload_n C 1 dX11_behind_4 rfl rfl ?_
    refine v_if_le C 29 dX11_behind_5 (by decide) (fun c1 => ?_) (fun c1 => ?_)
    · rw [if_pos c1] at h
      refine v_iload_n C 2 dX11_behind_29 rfl rfl ?_
      obtain rfl := Option.some.inj h
      exact v_iret C dX11_behind_30
    · rw [if_neg c1] at h
      refine v_iload_n C 1 dX11_behind_8 rfl rfl ?_
      refine v_aload_n C 0 dX11_behind_9 rfl rfl ?_
      refine v_aload_n C 0 dX11_behind_10 rfl rfl ?_
      refine n_getR C fl_7 dX11_behind_11 ?_
      refine v_iload_n C 2 dX11_behind_14 rfl rfl ?_
      obtain ⟨g1, h⟩ := gd_of h
      refine vm_iald C 1 iI_1 (ix_in g1) dX11_behind_15 ?_
      obtain ⟨q1, hq1, h⟩ := bd_of h
      refine vm_call C [.int (σ.2.1 1 (x3 : Int32).toNatClampNeg)] [.int x2] (c_partsOf hi _ _ hq1) hY_partsOf ml_123 ⟨Nat.le_of_ble_eq_true rfl, Nat.le_of_ble_eq_true rfl⟩ ⟨Nat.zero_le _, Nat.zero_le _⟩ rfl rfl (Nat.le_of_ble_eq_true rfl) dX11_behind_16 (wm_inj hi cy _) ?_
      refine v_iconst C 1 dX11_behind_19 (by decide) ?_
      refine v_isub C dX11_behind_20 ?_
      refine v_iadd C dX11_behind_21 ?_
      refine v_istore_n C [(2, .int (x2 + (q1.1 - 1))), (0, .ref (ad 0)), (3, .int x3)] dX11_behind_22 rfl (by decide) rfl ?_
      refine v_iinc C (x3 + 1) 2 [(3, .int (x3 + 1)), (2, .int (x2 + (q1.1 - 1))), (0, .ref (ad 0))] dX11_behind_23 rfl rfl (by decide) rfl ?_
      refine v_goto C 4 dX11_behind_26 (by decide) ?_
      exact v_sub [2, 1, 0] rfl (ih _ _ _ h)
set_option maxHeartbeats 4000000 in
set_option maxRecDepth 20000 in
theorem c_behind {l : Launch} {D : va_G} {cy : Nat → ClassId} {ad : Nat → Nat} {q : Int32 × MS} (hi : ∀ i j, i < 34 → j < 34 → ad i = ad j → i = j) (x1 : Int32) (σ : MS) (h : f_behind x1 σ = some q) : MV l D (cyT cy) (inAd ad) yX11_behind cX11_behind 4 (some .int) 2 41 0 0 [.ref (ad 0), .int x1] (wm cy ad σ) (some (.int q.1)) (wm cy ad q.2) := by
  refine MV.of (by decide) (wm_inj hi cy σ) (Nat.le_of_ble_eq_true rfl) [(0, .ref (ad 0)), (1, .int x1)] rfl ?_
  intro p e s m args below meth c C
  rw [f_behind] at h
  refine v_iconst C 1 dX11_behind_0 (by decide) ?_
  refine v_istore_n C [(2, .int 1), (0, .ref (ad 0)), (1, .int x1)] dX11_behind_1 rfl (by decide) rfl ?_
  refine v_iload_n C 2 dX11_behind_2 rfl rfl ?_
  refine v_istore_n C [(3, .int x1), (2, .int 1), (0, .ref (ad 0)), (1, .int x1)] dX11_behind_3 rfl (by decide) rfl ?_
  exact v_sub [2, 1, 0] rfl ((l_behind_4 C hi 10000) _ _ _ h)
set_option maxHeartbeats 4000000 in
set_option maxRecDepth 20000 in
theorem c_longOf {l : Launch} {D : va_G} {cy : Nat → ClassId} {ad : Nat → Nat} {q : Int32 × MS} (hi : ∀ i j, i < 34 → j < 34 → ad i = ad j → i = j) (x1 : Int32) (σ : MS) (h : f_longOf x1 σ = some q) : MV l D (cyT cy) (inAd ad) yX11_longOf cX11_longOf 2 (some .int) 3 64 0 0 [.ref (ad 0), .int x1] (wm cy ad σ) (some (.int q.1)) (wm cy ad q.2) := by
  refine MV.of (by decide) (wm_inj hi cy σ) (Nat.le_of_ble_eq_true rfl) [(0, .ref (ad 0)), (1, .int x1)] rfl ?_
  intro p e s m args below meth c C
  rw [f_longOf] at h
  refine v_aload_n C 0 dX11_longOf_0 rfl rfl ?_
  refine v_iload_n C 1 dX11_longOf_1 rfl rfl ?_
  obtain ⟨q1, hq1, h⟩ := bd_of h
  refine vm_call C [.int x1] [] (c_behind hi _ _ hq1) hY_behind ml_127 ⟨Nat.le_of_ble_eq_true rfl, Nat.le_of_ble_eq_true rfl⟩ ⟨Nat.zero_le _, Nat.zero_le _⟩ rfl rfl (Nat.le_of_ble_eq_true rfl) dX11_longOf_2 (wm_inj hi cy _) ?_
  refine v_iload_n C 1 dX11_longOf_5 rfl rfl ?_
  refine v_isub C dX11_longOf_6 ?_
  obtain rfl := Option.some.inj h
  exact v_iret C dX11_longOf_7
set_option maxHeartbeats 4000000 in
set_option maxRecDepth 20000 in
theorem b_isData_33 {p : Program} {l : Launch} {e : Env} {s : State} {m : MethodId} {args : Array Value} {below : List Frame} {meth : Method} {c : Code} {D : va_G} {cy : Nat → ClassId} {ad : Nat → Nat} {q : Int32 × MS} (C : vC p s m args meth c cX11_isData 4 (some .boolean) RX11 D (cyT cy)) (hi : ∀ i j, i < 34 → j < 34 → ad i = ad j → i = j) {k4 : Int32 → Int32 → Int32 → MS → Option (Int32 × MS)} (hk4 : ∀ (x1 : Int32) (x2 : Int32) (x3 : Int32)  (σ : MS), k4 x1 x2 x3 σ = some q → V p l e { frames := 3, cells := 0, slots := 0, locals := 64 } s m args below meth c D (inAd ad) 4 (MQ below (vQ D (inAd ad) (some (.int q.1)) (wm cy ad q.2)) args s 0 0 (inAd ad)) 0 0 (wm cy ad σ) 4 [(0, .ref (ad 0)), (1, .int x1), (2, .int x2), (3, .int x3)] []) : ∀ (x1 : Int32) (x3 : Int32) (s0 : Int32) (σ : MS), B_isData_33 k4 x1 x3 s0 σ = some q → V p l e { frames := 3, cells := 0, slots := 0, locals := 64 } s m args below meth c D (inAd ad) 4 (MQ below (vQ D (inAd ad) (some (.int q.1)) (wm cy ad q.2)) args s 0 0 (inAd ad)) 0 0 (wm cy ad σ) 33 [(0, .ref (ad 0)), (1, .int x1), (3, .int x3)] [.int s0] := by
  intro x1 x3 s0 σ h
  rw [B_isData_33] at h
  refine v_istore_n C [(2, .int s0), (0, .ref (ad 0)), (1, .int x1), (3, .int x3)] dX11_isData_33 rfl (by decide) rfl ?_
  refine v_iinc C (x3 + 1) 3 [(3, .int (x3 + 1)), (2, .int s0), (0, .ref (ad 0)), (1, .int x1)] dX11_isData_34 rfl rfl (by decide) rfl ?_
  refine v_goto C 4 dX11_isData_37 (by decide) ?_
  exact v_sub [2, 3, 1, 0] rfl (hk4 _ _ _ _ h)
set_option maxHeartbeats 4000000 in
set_option maxRecDepth 20000 in
theorem b_isData_32 {p : Program} {l : Launch} {e : Env} {s : State} {m : MethodId} {args : Array Value} {below : List Frame} {meth : Method} {c : Code} {D : va_G} {cy : Nat → ClassId} {ad : Nat → Nat} {q : Int32 × MS} (C : vC p s m args meth c cX11_isData 4 (some .boolean) RX11 D (cyT cy)) (hi : ∀ i j, i < 34 → j < 34 → ad i = ad j → i = j) {k33 : Int32 → Int32 → Int32 → MS → Option (Int32 × MS)} (hk33 : ∀ (x1 : Int32) (x3 : Int32) (s0 : Int32)  (σ : MS), k33 x1 x3 s0 σ = some q → V p l e { frames := 3, cells := 0, slots := 0, locals := 64 } s m args below meth c D (inAd ad) 4 (MQ below (vQ D (inAd ad) (some (.int q.1)) (wm cy ad q.2)) args s 0 0 (inAd ad)) 0 0 (wm cy ad σ) 33 [(0, .ref (ad 0)), (1, .int x1), (3, .int x3)] [.int s0]) : ∀ (x1 : Int32) (x3 : Int32) (σ : MS), B_isData_32 k33 x1 x3 σ = some q → V p l e { frames := 3, cells := 0, slots := 0, locals := 64 } s m args below meth c D (inAd ad) 4 (MQ below (vQ D (inAd ad) (some (.int q.1)) (wm cy ad q.2)) args s 0 0 (inAd ad)) 0 0 (wm cy ad σ) 32 [(0, .ref (ad 0)), (1, .int x1), (3, .int x3)] [] := by
  intro x1 x3 σ h
  rw [B_isData_32] at h
  refine v_iconst C 0 dX11_isData_32 (by decide) ?_
  exact v_sub [0, 1, 2] rfl (hk33 _ _ _ _ h)
set_option maxHeartbeats 4000000 in
set_option maxRecDepth 20000 in
theorem l_isData_4 {p : Program} {l : Launch} {e : Env} {s : State} {m : MethodId} {args : Array Value} {below : List Frame} {meth : Method} {c : Code} {D : va_G} {cy : Nat → ClassId} {ad : Nat → Nat} {q : Int32 × MS} (C : vC p s m args meth c cX11_isData 4 (some .boolean) RX11 D (cyT cy)) (hi : ∀ i j, i < 34 → j < 34 → ad i = ad j → i = j) : ∀ (n : Nat) (x1 : Int32) (x2 : Int32) (x3 : Int32) (σ : MS), L_isData_4 n x1 x2 x3 σ = some q → V p l e { frames := 3, cells := 0, slots := 0, locals := 64 } s m args below meth c D (inAd ad) 4 (MQ below (vQ D (inAd ad) (some (.int q.1)) (wm cy ad q.2)) args s 0 0 (inAd ad)) 0 0 (wm cy ad σ) 4 [(0, .ref (ad 0)), (1, .int x1), (2, .int x2), (3, .int x3)] [] := by
  intro n
  induction n with
  | zero =>
    intro x1 x2 x3 σ h
    rw [L_isData_4.eq_1] at h
    cases h
  | succ n ih =>
    intro x1 x2 x3 σ h
    rw [L_isData_4.eq_2] at h
    refine v_iload_n C 3 dX11_isData_4 rfl rfl ?_
    refine v_aload_n C 0 dX11_isData_5 rfl rfl ?_
    refine v_iload_n C 1 dX11_isData_6 rfl rfl ?_
    obtain ⟨q1, hq1, h⟩ := bd_of h
    refine vm_call C [.int x1] [.int x3] (c_behind hi _ _ hq1) hY_behind ml_127 ⟨Nat.le_of_ble_eq_true rfl, Nat.le_of_ble_eq_true rfl⟩ ⟨Nat.zero_le _, Nat.zero_le _⟩ rfl rfl (Nat.le_of_ble_eq_true rfl) dX11_isData_7 (wm_inj hi cy _) ?_
    refine v_icmp_ge C 40 dX11_isData_10 (by decide) (fun c1 => ?_) (fun c1 => ?_)
    · rw [if_pos c1] at h
      refine v_iload_n C 2 dX11_isData_40 rfl rfl ?_
      obtain ⟨g1, h⟩ := gd_of h
      obtain rfl := Option.some.inj h
      exact v_zret C (bzb_in g1) dX11_isData_41
    · rw [if_neg c1] at h
      refine v_iload_n C 2 dX11_isData_13 rfl rfl ?_
      refine v_if_eq C 32 dX11_isData_14 (by decide) (fun c2 => ?_) (fun c2 => ?_)
      · rw [if_pos c2] at h
        exact v_sub [0, 1, 3] rfl ((b_isData_32 C hi (b_isData_33 C hi ih)) _ _ _ h)
      · rw [if_neg c2] at h
        refine v_aload_n C 0 dX11_isData_17 rfl rfl ?_
        refine n_getR C fl_7 dX11_isData_18 ?_
        refine v_iload_n C 3 dX11_isData_21 rfl rfl ?_
        obtain ⟨g2, h⟩ := gd_of h
        refine vm_iald C 1 iI_1 (ix_in g2) dX11_isData_22 ?_
        refine v_bipush C 80 dX11_isData_23 (by decide) ?_
        refine v_icmp_eq C 32 dX11_isData_25 (by decide) (fun c3 => ?_) (fun c3 => ?_)
        · rw [if_pos c3] at h
          exact v_sub [0, 1, 3] rfl ((b_isData_32 C hi (b_isData_33 C hi ih)) _ _ _ h)
        · rw [if_neg c3] at h
          refine v_iconst C 1 dX11_isData_28 (by decide) ?_
          refine v_goto C 33 dX11_isData_29 (by decide) ?_
          exact v_sub [0, 1, 3] rfl ((b_isData_33 C hi ih) _ _ _ _ h)
set_option maxHeartbeats 4000000 in
set_option maxRecDepth 20000 in
theorem c_isData {l : Launch} {D : va_G} {cy : Nat → ClassId} {ad : Nat → Nat} {q : Int32 × MS} (hi : ∀ i j, i < 34 → j < 34 → ad i = ad j → i = j) (x1 : Int32) (σ : MS) (h : f_isData x1 σ = some q) : MV l D (cyT cy) (inAd ad) yX11_isData cX11_isData 4 (some .boolean) 3 64 0 0 [.ref (ad 0), .int x1] (wm cy ad σ) (some (.int q.1)) (wm cy ad q.2) := by
  refine MV.of (by decide) (wm_inj hi cy σ) (Nat.le_of_ble_eq_true rfl) [(0, .ref (ad 0)), (1, .int x1)] rfl ?_
  intro p e s m args below meth c C
  rw [f_isData] at h
  refine v_iconst C 1 dX11_isData_0 (by decide) ?_
  refine v_istore_n C [(2, .int 1), (0, .ref (ad 0)), (1, .int x1)] dX11_isData_1 rfl (by decide) rfl ?_
  refine v_iload_n C 2 dX11_isData_2 rfl rfl ?_
  refine v_istore_n C [(3, .int x1), (2, .int 1), (0, .ref (ad 0)), (1, .int x1)] dX11_isData_3 rfl (by decide) rfl ?_
  exact v_sub [2, 3, 1, 0] rfl ((l_isData_4 C hi 10000) _ _ _ _ h)
set_option maxHeartbeats 4000000 in
set_option maxRecDepth 20000 in
theorem b_isSame_62 {p : Program} {l : Launch} {e : Env} {s : State} {m : MethodId} {args : Array Value} {below : List Frame} {meth : Method} {c : Code} {D : va_G} {cy : Nat → ClassId} {ad : Nat → Nat} {q : Int32 × MS} (C : vC p s m args meth c cX11_isSame 6 (some .boolean) RX11 D (cyT cy)) (hi : ∀ i j, i < 34 → j < 34 → ad i = ad j → i = j) {k25 : Int32 → Int32 → Int32 → Int32 → Int32 → MS → Option (Int32 × MS)} (hk25 : ∀ (x1 : Int32) (x2 : Int32) (x3 : Int32) (x4 : Int32) (x5 : Int32)  (σ : MS), k25 x1 x2 x3 x4 x5 σ = some q → V p l e { frames := 4, cells := 0, slots := 0, locals := 85 } s m args below meth c D (inAd ad) 6 (MQ below (vQ D (inAd ad) (some (.int q.1)) (wm cy ad q.2)) args s 0 0 (inAd ad)) 0 0 (wm cy ad σ) 25 [(0, .ref (ad 0)), (1, .int x1), (2, .int x2), (3, .int x3), (4, .int x4), (5, .int x5)] []) : ∀ (x1 : Int32) (x2 : Int32) (x3 : Int32) (x5 : Int32) (s0 : Int32) (σ : MS), B_isSame_62 k25 x1 x2 x3 x5 s0 σ = some q → V p l e { frames := 4, cells := 0, slots := 0, locals := 85 } s m args below meth c D (inAd ad) 6 (MQ below (vQ D (inAd ad) (some (.int q.1)) (wm cy ad q.2)) args s 0 0 (inAd ad)) 0 0 (wm cy ad σ) 62 [(0, .ref (ad 0)), (1, .int x1), (2, .int x2), (3, .int x3), (5, .int x5)] [.int s0] := by
  intro x1 x2 x3 x5 s0 σ h
  rw [B_isSame_62] at h
  refine v_istore C [(4, .int s0), (0, .ref (ad 0)), (1, .int x1), (2, .int x2), (3, .int x3), (5, .int x5)] dX11_isSame_62 (by decide) rfl ?_
  refine v_iinc C (x5 + 1) 5 [(5, .int (x5 + 1)), (4, .int s0), (0, .ref (ad 0)), (1, .int x1), (2, .int x2), (3, .int x3)] dX11_isSame_64 rfl rfl (by decide) rfl ?_
  refine v_goto C 25 dX11_isSame_67 (by decide) ?_
  exact v_sub [2, 3, 4, 5, 1, 0] rfl (hk25 _ _ _ _ _ _ h)
set_option maxHeartbeats 4000000 in
set_option maxRecDepth 20000 in
theorem b_isSame_70 {p : Program} {l : Launch} {e : Env} {s : State} {m : MethodId} {args : Array Value} {below : List Frame} {meth : Method} {c : Code} {D : va_G} {cy : Nat → ClassId} {ad : Nat → Nat} {q : Int32 × MS} (C : vC p s m args meth c cX11_isSame 6 (some .boolean) RX11 D (cyT cy)) (hi : ∀ i j, i < 34 → j < 34 → ad i = ad j → i = j) : ∀ (x4 : Int32) (σ : MS), B_isSame_70 x4 σ = some q → V p l e { frames := 4, cells := 0, slots := 0, locals := 85 } s m args below meth c D (inAd ad) 6 (MQ below (vQ D (inAd ad) (some (.int q.1)) (wm cy ad q.2)) args s 0 0 (inAd ad)) 0 0 (wm cy ad σ) 70 [(0, .ref (ad 0)), (4, .int x4)] [] := by
  intro x4 σ h
  rw [B_isSame_70] at h
  refine v_iload C 1 dX11_isSame_70 rfl ?_
  obtain ⟨g1, h⟩ := gd_of h
  obtain rfl := Option.some.inj h
  exact v_zret C (bzb_in g1) dX11_isSame_72
set_option maxHeartbeats 4000000 in
set_option maxRecDepth 20000 in
theorem l_isSame_25 {p : Program} {l : Launch} {e : Env} {s : State} {m : MethodId} {args : Array Value} {below : List Frame} {meth : Method} {c : Code} {D : va_G} {cy : Nat → ClassId} {ad : Nat → Nat} {q : Int32 × MS} (C : vC p s m args meth c cX11_isSame 6 (some .boolean) RX11 D (cyT cy)) (hi : ∀ i j, i < 34 → j < 34 → ad i = ad j → i = j) : ∀ (n : Nat) (x1 : Int32) (x2 : Int32) (x3 : Int32) (x4 : Int32) (x5 : Int32) (σ : MS), L_isSame_25 n x1 x2 x3 x4 x5 σ = some q → V p l e { frames := 4, cells := 0, slots := 0, locals := 85 } s m args below meth c D (inAd ad) 6 (MQ below (vQ D (inAd ad) (some (.int q.1)) (wm cy ad q.2)) args s 0 0 (inAd ad)) 0 0 (wm cy ad σ) 25 [(0, .ref (ad 0)), (1, .int x1), (2, .int x2), (3, .int x3), (4, .int x4), (5, .int x5)] [] := by
  intro n
  induction n with
  | zero =>
    intro x1 x2 x3 x4 x5 σ h
    rw [L_isSame_25.eq_1] at h
    cases h
  | succ n ih =>
    intro x1 x2 x3 x4 x5 σ h
    rw [L_isSame_25.eq_2] at h
    refine v_iload C 5 dX11_isSame_25 rfl ?_
    refine v_iload_n C 3 dX11_isSame_27 rfl rfl ?_
    refine v_icmp_ge C 70 dX11_isSame_28 (by decide) (fun c1 => ?_) (fun c1 => ?_)
    · rw [if_pos c1] at h
      exact v_sub [0, 4] rfl ((b_isSame_70 C hi) _ _ h)
    · rw [if_neg c1] at h
      refine v_iload C 4 dX11_isSame_31 rfl ?_
      refine v_if_eq C 70 dX11_isSame_33 (by decide) (fun c2 => ?_) (fun c2 => ?_)
      · rw [if_pos c2] at h
        exact v_sub [0, 4] rfl ((b_isSame_70 C hi) _ _ h)
      · rw [if_neg c2] at h
        refine v_aload_n C 0 dX11_isSame_36 rfl rfl ?_
        refine n_getR C fl_7 dX11_isSame_37 ?_
        refine v_iload_n C 1 dX11_isSame_40 rfl rfl ?_
        refine v_iload C 5 dX11_isSame_41 rfl ?_
        refine v_iadd C dX11_isSame_43 ?_
        obtain ⟨g1, h⟩ := gd_of h
        refine vm_iald C 1 iI_1 (ix_in g1) dX11_isSame_44 ?_
        refine v_aload_n C 0 dX11_isSame_45 rfl rfl ?_
        refine n_getR C fl_7 dX11_isSame_46 ?_
        refine v_iload_n C 2 dX11_isSame_49 rfl rfl ?_
        refine v_iload C 5 dX11_isSame_50 rfl ?_
        refine v_iadd C dX11_isSame_52 ?_
        obtain ⟨g2, h⟩ := gd_of h
        refine vm_iald C 1 iI_1 (ix_in g2) dX11_isSame_53 ?_
        refine v_icmp_ne C 61 dX11_isSame_54 (by decide) (fun c3 => ?_) (fun c3 => ?_)
        · rw [if_neg c3] at h
          refine v_iconst C 0 dX11_isSame_61 (by decide) ?_
          exact v_sub [0, 1, 2, 3, 5] rfl ((b_isSame_62 C hi ih) _ _ _ _ _ _ h)
        · rw [if_pos c3] at h
          refine v_iconst C 1 dX11_isSame_57 (by decide) ?_
          refine v_goto C 62 dX11_isSame_58 (by decide) ?_
          exact v_sub [0, 1, 2, 3, 5] rfl ((b_isSame_62 C hi ih) _ _ _ _ _ _ h)
set_option maxHeartbeats 4000000 in
set_option maxRecDepth 20000 in
theorem b_isSame_20 {p : Program} {l : Launch} {e : Env} {s : State} {m : MethodId} {args : Array Value} {below : List Frame} {meth : Method} {c : Code} {D : va_G} {cy : Nat → ClassId} {ad : Nat → Nat} {q : Int32 × MS} (C : vC p s m args meth c cX11_isSame 6 (some .boolean) RX11 D (cyT cy)) (hi : ∀ i j, i < 34 → j < 34 → ad i = ad j → i = j) : ∀ (x1 : Int32) (x2 : Int32) (x3 : Int32) (s0 : Int32) (σ : MS), B_isSame_20 x1 x2 x3 s0 σ = some q → V p l e { frames := 4, cells := 0, slots := 0, locals := 85 } s m args below meth c D (inAd ad) 6 (MQ below (vQ D (inAd ad) (some (.int q.1)) (wm cy ad q.2)) args s 0 0 (inAd ad)) 0 0 (wm cy ad σ) 20 [(0, .ref (ad 0)), (1, .int x1), (2, .int x2), (3, .int x3)] [.int s0] := by
  intro x1 x2 x3 s0 σ h
  rw [B_isSame_20] at h
  refine v_istore C [(4, .int s0), (0, .ref (ad 0)), (1, .int x1), (2, .int x2), (3, .int x3)] dX11_isSame_20 (by decide) rfl ?_
  refine v_iconst C 0 dX11_isSame_22 (by decide) ?_
  refine v_istore C [(5, .int 0), (4, .int s0), (0, .ref (ad 0)), (1, .int x1), (2, .int x2), (3, .int x3)] dX11_isSame_23 (by decide) rfl ?_
  exact v_sub [2, 3, 4, 5, 1, 0] rfl ((l_isSame_25 C hi 10000) _ _ _ _ _ _ h)
set_option maxHeartbeats 4000000 in
set_option maxRecDepth 20000 in
theorem c_isSame {l : Launch} {D : va_G} {cy : Nat → ClassId} {ad : Nat → Nat} {q : Int32 × MS} (hi : ∀ i j, i < 34 → j < 34 → ad i = ad j → i = j) (x1 : Int32) (x2 : Int32) (σ : MS) (h : f_isSame x1 x2 σ = some q) : MV l D (cyT cy) (inAd ad) yX11_isSame cX11_isSame 6 (some .boolean) 4 85 0 0 [.ref (ad 0), .int x1, .int x2] (wm cy ad σ) (some (.int q.1)) (wm cy ad q.2) := by
  refine MV.of (by decide) (wm_inj hi cy σ) (Nat.le_of_ble_eq_true rfl) [(0, .ref (ad 0)), (1, .int x1), (2, .int x2)] rfl ?_
  intro p e s m args below meth c C
  rw [f_isSame] at h
  refine v_aload_n C 0 dX11_isSame_0 rfl rfl ?_
  refine v_iload_n C 1 dX11_isSame_1 rfl rfl ?_
  obtain ⟨q1, hq1, h⟩ := bd_of h
  refine vm_call C [.int x1] [] (c_longOf hi _ _ hq1) hY_longOf ml_130 ⟨Nat.le_of_ble_eq_true rfl, Nat.le_of_ble_eq_true rfl⟩ ⟨Nat.zero_le _, Nat.zero_le _⟩ rfl rfl (Nat.le_of_ble_eq_true rfl) dX11_isSame_2 (wm_inj hi cy _) ?_
  refine v_istore_n C [(3, .int q1.1), (0, .ref (ad 0)), (1, .int x1), (2, .int x2)] dX11_isSame_5 rfl (by decide) rfl ?_
  refine v_iload_n C 0 dX11_isSame_6 rfl rfl ?_
  refine v_aload_n C 1 dX11_isSame_7 rfl rfl ?_
  refine v_iload_n C 3 dX11_isSame_8 rfl rfl ?_
  obtain ⟨q2, hq2, h⟩ := bd_of h
  refine vm_call C [.int x2] [.int q1.1] (c_longOf hi _ _ hq2) hY_longOf ml_130 ⟨Nat.le_of_ble_eq_true rfl, Nat.le_of_ble_eq_true rfl⟩ ⟨Nat.zero_le _, Nat.zero_le _⟩ rfl rfl (Nat.le_of_ble_eq_true rfl) dX11_isSame_9 (wm_inj hi cy _) ?_
  refine v_icmp_ne C 19 dX11_isSame_12 (by decide) (fun c1 => ?_) (fun c1 => ?_)
  · rw [if_neg c1] at h
    refine v_iconst C 0 dX11_isSame_19 (by decide) ?_
    exact v_sub [1, 2, 3, 0] rfl ((b_isSame_20 C hi) _ _ _ _ _ h)
  · rw [if_pos c1] at h
    refine v_iconst C 1 dX11_isSame_15 (by decide) ?_
    refine v_goto C 20 dX11_isSame_16 (by decide) ?_
    exact v_sub [1, 2, 3, 0] rfl ((b_isSame_20 C hi) _ _ _ _ _ h)
set_option maxHeartbeats 4000000 in
set_option maxRecDepth 20000 in
theorem c_puts {l : Launch} {D : va_G} {cy : Nat → ClassId} {ad : Nat → Nat} {q : Int32 × MS} (hi : ∀ i j, i < 34 → j < 34 → ad i = ad j → i = j) (x1 : Int32) (σ : MS) (h : f_puts x1 σ = some q) : MV l D (cyT cy) (inAd ad) yX11_puts cX11_puts 2 none 0 0 0 0 [.ref (ad 0), .int x1] (wm cy ad σ) none (wm cy ad q.2) := by
  refine MV.of (by decide) (wm_inj hi cy σ) (Nat.le_of_ble_eq_true rfl) [(0, .ref (ad 0)), (1, .int x1)] rfl ?_
  intro p e s m args below meth c C
  rw [f_puts] at h
  refine v_aload_n C 0 dX11_puts_0 rfl rfl ?_
  refine n_getR C fl_7 dX11_puts_1 ?_
  refine v_aload_n C 0 dX11_puts_4 rfl rfl ?_
  refine n_getI C fl_133 dX11_puts_5 ?_
  refine v_iload_n C 1 dX11_puts_8 rfl rfl ?_
  obtain ⟨g1, h⟩ := gd_of h
  refine vm_iast C 1 iI_1 (ix_in g1) dX11_puts_9 ?_
  refine v_aload_n C 0 dX11_puts_10 rfl rfl ?_
  refine v_dup C dX11_puts_11 rfl ?_
  refine n_getI C fl_133 dX11_puts_12 ?_
  refine v_iconst C 1 dX11_puts_15 (by decide) ?_
  refine v_iadd C dX11_puts_16 ?_
  refine n_putI C fl_133 dX11_puts_17 ?_
  obtain rfl := Option.some.inj h
  exact v_vret C dX11_puts_20
set_option maxHeartbeats 4000000 in
set_option maxRecDepth 20000 in
theorem l_putsForm_8 {p : Program} {l : Launch} {e : Env} {s : State} {m : MethodId} {args : Array Value} {below : List Frame} {meth : Method} {c : Code} {D : va_G} {cy : Nat → ClassId} {ad : Nat → Nat} {q : Int32 × MS} (C : vC p s m args meth c cX11_putsForm 4 none RX11 D (cyT cy)) (hi : ∀ i j, i < 34 → j < 34 → ad i = ad j → i = j) : ∀ (n : Nat) (x1 : Int32) (x2 : Int32) (x3 : Int32) (σ : MS), L_putsForm_8 n x1 x2 x3 σ = some q → V p l e { frames := 4, cells := 0, slots := 0, locals := 85 } s m args below meth c D (inAd ad) 4 (MQ below (vQ D (inAd ad) none (wm cy ad q.2)) args s 0 0 (inAd ad)) 0 0 (wm cy ad σ) 8 [(0, .ref (ad 0)), (1, .int x1), (2, .int x2), (3, .int x3)] [] := by
  intro n
  induction n with
  | zero =>
    intro x1 x2 x3 σ h
    rw [L_putsForm_8.eq_1] at h
    cases h
  | succ n ih =>
    intro x1 x2 x3 σ h
    rw [L_putsForm_8.eq_2] at h
    refine v_iload_n C 3 dX11_putsForm_8 rfl rfl ?_
    refine v_iload_n C 2 dX11_putsForm_9 rfl rfl ?_
    refine v_icmp_ge C 31 dX11_putsForm_10 (by decide) (fun c1 => ?_) (fun c1 => ?_)
    · rw [if_pos c1] at h
      obtain rfl := Option.some.inj h
      exact v_vret C dX11_putsForm_31
    · rw [if_neg c1] at h
      refine v_aload_n C 0 dX11_putsForm_13 rfl rfl ?_
      refine v_aload_n C 0 dX11_putsForm_14 rfl rfl ?_
      refine n_getR C fl_7 dX11_putsForm_15 ?_
      refine v_iload_n C 1 dX11_putsForm_18 rfl rfl ?_
      refine v_iload_n C 3 dX11_putsForm_19 rfl rfl ?_
      refine v_iadd C dX11_putsForm_20 ?_
      obtain ⟨g1, h⟩ := gd_of h
      refine vm_iald C 1 iI_1 (ix_in g1) dX11_putsForm_21 ?_
      obtain ⟨q1, hq1, h⟩ := bd_of h
      refine vm_call C [.int (σ.2.1 1 ((x1 + x3) : Int32).toNatClampNeg)] [] (c_puts hi _ _ hq1) hY_puts ml_136 ⟨Nat.le_of_ble_eq_true rfl, Nat.le_of_ble_eq_true rfl⟩ ⟨Nat.zero_le _, Nat.zero_le _⟩ rfl rfl (Nat.le_of_ble_eq_true rfl) dX11_putsForm_22 (wm_inj hi cy _) ?_
      refine v_iinc C (x3 + 1) 3 [(3, .int (x3 + 1)), (0, .ref (ad 0)), (1, .int x1), (2, .int x2)] dX11_putsForm_25 rfl rfl (by decide) rfl ?_
      refine v_goto C 8 dX11_putsForm_28 (by decide) ?_
      exact v_sub [1, 2, 3, 0] rfl (ih _ _ _ _ h)
set_option maxHeartbeats 4000000 in
set_option maxRecDepth 20000 in
theorem c_putsForm {l : Launch} {D : va_G} {cy : Nat → ClassId} {ad : Nat → Nat} {q : Int32 × MS} (hi : ∀ i j, i < 34 → j < 34 → ad i = ad j → i = j) (x1 : Int32) (σ : MS) (h : f_putsForm x1 σ = some q) : MV l D (cyT cy) (inAd ad) yX11_putsForm cX11_putsForm 4 none 4 85 0 0 [.ref (ad 0), .int x1] (wm cy ad σ) none (wm cy ad q.2) := by
  refine MV.of (by decide) (wm_inj hi cy σ) (Nat.le_of_ble_eq_true rfl) [(0, .ref (ad 0)), (1, .int x1)] rfl ?_
  intro p e s m args below meth c C
  rw [f_putsForm] at h
  refine v_aload_n C 0 dX11_putsForm_0 rfl rfl ?_
  refine v_iload_n C 1 dX11_putsForm_1 rfl rfl ?_
  obtain ⟨q1, hq1, h⟩ := bd_of h
  refine vm_call C [.int x1] [] (c_longOf hi _ _ hq1) hY_longOf ml_130 ⟨Nat.le_of_ble_eq_true rfl, Nat.le_of_ble_eq_true rfl⟩ ⟨Nat.zero_le _, Nat.zero_le _⟩ rfl rfl (Nat.le_of_ble_eq_true rfl) dX11_putsForm_2 (wm_inj hi cy _) ?_
  refine v_istore_n C [(2, .int q1.1), (0, .ref (ad 0)), (1, .int x1)] dX11_putsForm_5 rfl (by decide) rfl ?_
  refine v_iconst C 0 dX11_putsForm_6 (by decide) ?_
  refine v_istore_n C [(3, .int 0), (2, .int q1.1), (0, .ref (ad 0)), (1, .int x1)] dX11_putsForm_7 rfl (by decide) rfl ?_
  exact v_sub [2, 3, 1, 0] rfl ((l_putsForm_8 C hi 10000) _ _ _ _ h)
set_option maxHeartbeats 4000000 in
set_option maxRecDepth 20000 in
theorem l_toSlot_9 {p : Program} {l : Launch} {e : Env} {s : State} {m : MethodId} {args : Array Value} {below : List Frame} {meth : Method} {c : Code} {D : va_G} {cy : Nat → ClassId} {ad : Nat → Nat} {q : Int32 × MS} (C : vC p s m args meth c cX11_toSlot 5 none RX11 D (cyT cy)) (hi : ∀ i j, i < 34 → j < 34 → ad i = ad j → i = j) : ∀ (n : Nat) (x1 : Int32) (x2 : Int32) (x3 : Int32) (x4 : Int32) (σ : MS), L_toSlot_9 n x1 x2 x3 x4 σ = some q → V p l e { frames := 4, cells := 0, slots := 0, locals := 85 } s m args below meth c D (inAd ad) 5 (MQ below (vQ D (inAd ad) none (wm cy ad q.2)) args s 0 0 (inAd ad)) 0 0 (wm cy ad σ) 9 [(0, .ref (ad 0)), (1, .int x1), (2, .int x2), (3, .int x3), (4, .int x4)] [] := by
  intro n
  induction n with
  | zero =>
    intro x1 x2 x3 x4 σ h
    rw [L_toSlot_9.eq_1] at h
    cases h
  | succ n ih =>
    intro x1 x2 x3 x4 σ h
    rw [L_toSlot_9.eq_2] at h
    refine v_iload C 4 dX11_toSlot_9 rfl ?_
    refine v_iload_n C 3 dX11_toSlot_11 rfl rfl ?_
    refine v_icmp_ge C 39 dX11_toSlot_12 (by decide) (fun c1 => ?_) (fun c1 => ?_)
    · rw [if_pos c1] at h
      obtain rfl := Option.some.inj h
      exact v_vret C dX11_toSlot_39
    · rw [if_neg c1] at h
      refine v_aload_n C 0 dX11_toSlot_15 rfl rfl ?_
      refine n_getR C fl_7 dX11_toSlot_16 ?_
      refine v_iload_n C 2 dX11_toSlot_19 rfl rfl ?_
      refine v_iload C 4 dX11_toSlot_20 rfl ?_
      refine v_iadd C dX11_toSlot_22 ?_
      refine v_aload_n C 0 dX11_toSlot_23 rfl rfl ?_
      refine n_getR C fl_7 dX11_toSlot_24 ?_
      refine v_iload_n C 1 dX11_toSlot_27 rfl rfl ?_
      refine v_iload C 4 dX11_toSlot_28 rfl ?_
      refine v_iadd C dX11_toSlot_30 ?_
      obtain ⟨g1, h⟩ := gd_of h
      refine vm_iald C 1 iI_1 (ix_in g1) dX11_toSlot_31 ?_
      obtain ⟨g2, h⟩ := gd_of h
      refine vm_iast C 1 iI_1 (ix_in g2) dX11_toSlot_32 ?_
      refine v_iinc C (x4 + 1) 4 [(4, .int (x4 + 1)), (0, .ref (ad 0)), (1, .int x1), (2, .int x2), (3, .int x3)] dX11_toSlot_33 rfl rfl (by decide) rfl ?_
      refine v_goto C 9 dX11_toSlot_36 (by decide) ?_
      exact v_sub [1, 2, 3, 4, 0] rfl (ih _ _ _ _ _ h)
set_option maxHeartbeats 4000000 in
set_option maxRecDepth 20000 in
theorem c_toSlot {l : Launch} {D : va_G} {cy : Nat → ClassId} {ad : Nat → Nat} {q : Int32 × MS} (hi : ∀ i j, i < 34 → j < 34 → ad i = ad j → i = j) (x1 : Int32) (x2 : Int32) (σ : MS) (h : f_toSlot x1 x2 σ = some q) : MV l D (cyT cy) (inAd ad) yX11_toSlot cX11_toSlot 5 none 4 85 0 0 [.ref (ad 0), .int x1, .int x2] (wm cy ad σ) none (wm cy ad q.2) := by
  refine MV.of (by decide) (wm_inj hi cy σ) (Nat.le_of_ble_eq_true rfl) [(0, .ref (ad 0)), (1, .int x1), (2, .int x2)] rfl ?_
  intro p e s m args below meth c C
  rw [f_toSlot] at h
  refine v_aload_n C 0 dX11_toSlot_0 rfl rfl ?_
  refine v_iload_n C 1 dX11_toSlot_1 rfl rfl ?_
  obtain ⟨q1, hq1, h⟩ := bd_of h
  refine vm_call C [.int x1] [] (c_longOf hi _ _ hq1) hY_longOf ml_130 ⟨Nat.le_of_ble_eq_true rfl, Nat.le_of_ble_eq_true rfl⟩ ⟨Nat.zero_le _, Nat.zero_le _⟩ rfl rfl (Nat.le_of_ble_eq_true rfl) dX11_toSlot_2 (wm_inj hi cy _) ?_
  refine v_istore_n C [(3, .int q1.1), (0, .ref (ad 0)), (1, .int x1), (2, .int x2)] dX11_toSlot_5 rfl (by decide) rfl ?_
  refine v_iconst C 0 dX11_toSlot_6 (by decide) ?_
  refine v_istore C [(4, .int 0), (3, .int q1.1), (0, .ref (ad 0)), (1, .int x1), (2, .int x2)] dX11_toSlot_7 (by decide) rfl ?_
  exact v_sub [2, 3, 4, 1, 0] rfl ((l_toSlot_9 C hi 10000) _ _ _ _ _ h)
set_option maxHeartbeats 4000000 in
set_option maxRecDepth 20000 in
theorem c_lays {l : Launch} {D : va_G} {cy : Nat → ClassId} {ad : Nat → Nat} {q : Int32 × MS} (hi : ∀ i j, i < 34 → j < 34 → ad i = ad j → i = j) (x1 : Int32) (x2 : Int32) (x3 : Int32) (x4 : Int32) (σ : MS) (h : f_lays x1 x2 x3 x4 σ = some q) : MV l D (cyT cy) (inAd ad) yX11_lays cX11_lays 5 (some .int) 0 0 0 0 [.ref (ad 0), .int x1, .int x2, .int x3, .int x4] (wm cy ad σ) (some (.int q.1)) (wm cy ad q.2) := by
  refine MV.of (by decide) (wm_inj hi cy σ) (Nat.le_of_ble_eq_true rfl) [(0, .ref (ad 0)), (1, .int x1), (2, .int x2), (3, .int x3), (4, .int x4)] rfl ?_
  intro p e s m args below meth c C
  rw [f_lays] at h
  refine v_aload_n C 0 dX11_lays_0 rfl rfl ?_
  refine n_getR C fl_38 dX11_lays_1 ?_
  refine v_aload_n C 0 dX11_lays_4 rfl rfl ?_
  refine n_getI C fl_140 dX11_lays_5 ?_
  refine v_iload_n C 1 dX11_lays_8 rfl rfl ?_
  refine v_i2l C dX11_lays_9 ?_
  refine v_iload_n C 2 dX11_lays_10 rfl rfl ?_
  refine v_i2l C dX11_lays_11 ?_
  refine v_iconst C 4 dX11_lays_12 (by decide) ?_
  refine v_lshl C dX11_lays_13 ?_
  refine v_lor C dX11_lays_14 ?_
  refine v_iload_n C 3 dX11_lays_15 rfl rfl ?_
  refine v_i2l C dX11_lays_16 ?_
  refine v_bipush C 20 dX11_lays_17 (by decide) ?_
  refine v_lshl C dX11_lays_19 ?_
  refine v_lor C dX11_lays_20 ?_
  refine v_iload C 4 dX11_lays_21 rfl ?_
  refine v_i2l C dX11_lays_23 ?_
  refine v_bipush C 36 dX11_lays_24 (by decide) ?_
  refine v_lshl C dX11_lays_26 ?_
  refine v_lor C dX11_lays_27 ?_
  obtain ⟨g1, h⟩ := gd_of h
  refine vm_last C (ix_in g1) dX11_lays_28 ?_
  refine v_aload_n C 0 dX11_lays_29 rfl rfl ?_
  refine v_dup C dX11_lays_30 rfl ?_
  refine n_getI C fl_140 dX11_lays_31 ?_
  refine v_iconst C 1 dX11_lays_34 (by decide) ?_
  refine v_iadd C dX11_lays_35 ?_
  refine n_putI C fl_140 dX11_lays_36 ?_
  refine v_aload_n C 0 dX11_lays_39 rfl rfl ?_
  refine n_getI C fl_140 dX11_lays_40 ?_
  refine v_iconst C 1 dX11_lays_43 (by decide) ?_
  refine v_isub C dX11_lays_44 ?_
  obtain rfl := Option.some.inj h
  exact v_iret C dX11_lays_45
set_option maxHeartbeats 4000000 in
set_option maxRecDepth 20000 in
theorem c_sortOf {l : Launch} {D : va_G} {cy : Nat → ClassId} {ad : Nat → Nat} {q : Int32 × MS} (hi : ∀ i j, i < 34 → j < 34 → ad i = ad j → i = j) (x1 : Int32) (σ : MS) (h : f_sortOf x1 σ = some q) : MV l D (cyT cy) (inAd ad) yX11_sortOf cX11_sortOf 2 (some .int) 0 0 0 0 [.ref (ad 0), .int x1] (wm cy ad σ) (some (.int q.1)) (wm cy ad q.2) := by
  refine MV.of (by decide) (wm_inj hi cy σ) (Nat.le_of_ble_eq_true rfl) [(0, .ref (ad 0)), (1, .int x1)] rfl ?_
  intro p e s m args below meth c C
  rw [f_sortOf] at h
  refine v_aload_n C 0 dX11_sortOf_0 rfl rfl ?_
  refine n_getR C fl_38 dX11_sortOf_1 ?_
  refine v_iload_n C 1 dX11_sortOf_4 rfl rfl ?_
  obtain ⟨g1, h⟩ := gd_of h
  refine vm_lald C (ix_in g1) dX11_sortOf_5 ?_
  refine v_ldc2 C 15 cl_143 dX11_sortOf_6 ?_
  refine v_land C dX11_sortOf_9 ?_
  refine v_l2i C dX11_sortOf_10 ?_
  obtain rfl := Option.some.inj h
  exact v_iret C dX11_sortOf_11
set_option maxHeartbeats 4000000 in
set_option maxRecDepth 20000 in
theorem c_aOf {l : Launch} {D : va_G} {cy : Nat → ClassId} {ad : Nat → Nat} {q : Int32 × MS} (hi : ∀ i j, i < 34 → j < 34 → ad i = ad j → i = j) (x1 : Int32) (σ : MS) (h : f_aOf x1 σ = some q) : MV l D (cyT cy) (inAd ad) yX11_aOf cX11_aOf 2 (some .int) 0 0 0 0 [.ref (ad 0), .int x1] (wm cy ad σ) (some (.int q.1)) (wm cy ad q.2) := by
  refine MV.of (by decide) (wm_inj hi cy σ) (Nat.le_of_ble_eq_true rfl) [(0, .ref (ad 0)), (1, .int x1)] rfl ?_
  intro p e s m args below meth c C
  rw [f_aOf] at h
  refine v_aload_n C 0 dX11_aOf_0 rfl rfl ?_
  refine n_getR C fl_38 dX11_aOf_1 ?_
  refine v_iload_n C 1 dX11_aOf_4 rfl rfl ?_
  obtain ⟨g1, h⟩ := gd_of h
  refine vm_lald C (ix_in g1) dX11_aOf_5 ?_
  refine v_iconst C 4 dX11_aOf_6 (by decide) ?_
  refine v_lshr C dX11_aOf_7 ?_
  refine v_ldc2 C 65535 cl_145 dX11_aOf_8 ?_
  refine v_land C dX11_aOf_11 ?_
  refine v_l2i C dX11_aOf_12 ?_
  obtain rfl := Option.some.inj h
  exact v_iret C dX11_aOf_13
set_option maxHeartbeats 4000000 in
set_option maxRecDepth 20000 in
theorem c_bOf {l : Launch} {D : va_G} {cy : Nat → ClassId} {ad : Nat → Nat} {q : Int32 × MS} (hi : ∀ i j, i < 34 → j < 34 → ad i = ad j → i = j) (x1 : Int32) (σ : MS) (h : f_bOf x1 σ = some q) : MV l D (cyT cy) (inAd ad) yX11_bOf cX11_bOf 2 (some .int) 0 0 0 0 [.ref (ad 0), .int x1] (wm cy ad σ) (some (.int q.1)) (wm cy ad q.2) := by
  refine MV.of (by decide) (wm_inj hi cy σ) (Nat.le_of_ble_eq_true rfl) [(0, .ref (ad 0)), (1, .int x1)] rfl ?_
  intro p e s m args below meth c C
  rw [f_bOf] at h
  refine v_aload_n C 0 dX11_bOf_0 rfl rfl ?_
  refine n_getR C fl_38 dX11_bOf_1 ?_
  refine v_iload_n C 1 dX11_bOf_4 rfl rfl ?_
  obtain ⟨g1, h⟩ := gd_of h
  refine vm_lald C (ix_in g1) dX11_bOf_5 ?_
  refine v_bipush C 20 dX11_bOf_6 (by decide) ?_
  refine v_lshr C dX11_bOf_8 ?_
  refine v_ldc2 C 65535 cl_145 dX11_bOf_9 ?_
  refine v_land C dX11_bOf_12 ?_
  refine v_l2i C dX11_bOf_13 ?_
  obtain rfl := Option.some.inj h
  exact v_iret C dX11_bOf_14
set_option maxHeartbeats 4000000 in
set_option maxRecDepth 20000 in
theorem c_levelOf {l : Launch} {D : va_G} {cy : Nat → ClassId} {ad : Nat → Nat} {q : Int32 × MS} (hi : ∀ i j, i < 34 → j < 34 → ad i = ad j → i = j) (x1 : Int32) (σ : MS) (h : f_levelOf x1 σ = some q) : MV l D (cyT cy) (inAd ad) yX11_levelOf cX11_levelOf 2 (some .int) 0 0 0 0 [.ref (ad 0), .int x1] (wm cy ad σ) (some (.int q.1)) (wm cy ad q.2) := by
  refine MV.of (by decide) (wm_inj hi cy σ) (Nat.le_of_ble_eq_true rfl) [(0, .ref (ad 0)), (1, .int x1)] rfl ?_
  intro p e s m args below meth c C
  rw [f_levelOf] at h
  refine v_aload_n C 0 dX11_levelOf_0 rfl rfl ?_
  refine n_getR C fl_38 dX11_levelOf_1 ?_
  refine v_iload_n C 1 dX11_levelOf_4 rfl rfl ?_
  obtain ⟨g1, h⟩ := gd_of h
  refine vm_lald C (ix_in g1) dX11_levelOf_5 ?_
  refine v_bipush C 36 dX11_levelOf_6 (by decide) ?_
  refine v_lshr C dX11_levelOf_8 ?_
  refine v_l2i C dX11_levelOf_9 ?_
  obtain rfl := Option.some.inj h
  exact v_iret C dX11_levelOf_10
set_option maxHeartbeats 4000000 in
set_option maxRecDepth 20000 in
theorem c_with {l : Launch} {D : va_G} {cy : Nat → ClassId} {ad : Nat → Nat} {q : Int32 × MS} (hi : ∀ i j, i < 34 → j < 34 → ad i = ad j → i = j) (x1 : Int32) (x2 : Int32) (x3 : Int32) (σ : MS) (h : f_with x1 x2 x3 σ = some q) : MV l D (cyT cy) (inAd ad) yX11_with cX11_with 5 (some .int) 1 25 0 0 [.ref (ad 0), .int x1, .int x2, .int x3] (wm cy ad σ) (some (.int q.1)) (wm cy ad q.2) := by
  refine MV.of (by decide) (wm_inj hi cy σ) (Nat.le_of_ble_eq_true rfl) [(0, .ref (ad 0)), (1, .int x1), (2, .int x2), (3, .int x3)] rfl ?_
  intro p e s m args below meth c C
  rw [f_with] at h
  refine v_aload_n C 0 dX11_with_0 rfl rfl ?_
  refine n_getI C fl_45 dX11_with_1 ?_
  refine v_istore C [(4, .int (σ.1 21)), (0, .ref (ad 0)), (1, .int x1), (2, .int x2), (3, .int x3)] dX11_with_4 (by decide) rfl ?_
  refine v_aload_n C 1 dX11_with_6 rfl rfl ?_
  refine v_dup C dX11_with_7 rfl ?_
  refine n_getI C fl_45 dX11_with_8 ?_
  refine v_iconst C 1 dX11_with_11 (by decide) ?_
  refine v_iadd C dX11_with_12 ?_
  refine n_putI C fl_45 dX11_with_13 ?_
  refine v_aload_n C 1 dX11_with_16 rfl rfl ?_
  refine n_getR C fl_42 dX11_with_17 ?_
  refine v_bipush C 10 dX11_with_20 (by decide) ?_
  refine v_iload_n C 2 dX11_with_22 rfl rfl ?_
  refine v_imul C dX11_with_23 ?_
  refine v_aload_n C 1 dX11_with_24 rfl rfl ?_
  refine n_getR C fl_42 dX11_with_25 ?_
  refine v_bipush C 10 dX11_with_28 (by decide) ?_
  refine v_iload C 0 dX11_with_30 rfl ?_
  refine v_imul C dX11_with_32 ?_
  refine v_bipush C 10 dX11_with_33 (by decide) ?_
  obtain ⟨q1, hq1, h⟩ := bd_of h
  refine vm_callS C [.ref (ad 11), .int (10 * x1), .ref (ad 11), .int (10 * (σ.1 21)), .int 10] [] (c_bring hi iI_11 iI_11 _ _ _ _ hq1) hY_bring ml_147 ⟨Nat.le_of_ble_eq_true rfl, Nat.le_of_ble_eq_true rfl⟩ ⟨Nat.zero_le _, Nat.zero_le _⟩ rfl rfl (Nat.le_of_ble_eq_true rfl) dX11_with_35 (wm_inj hi cy _) ?_
  refine v_aload_n C 1 dX11_with_38 rfl rfl ?_
  refine n_getR C fl_42 dX11_with_39 ?_
  refine v_bipush C 10 dX11_with_42 (by decide) ?_
  refine v_iload C 0 dX11_with_44 rfl ?_
  refine v_imul C dX11_with_46 ?_
  refine v_iload_n C 3 dX11_with_47 rfl rfl ?_
  refine v_iadd C dX11_with_48 ?_
  refine v_iload_n C 4 dX11_with_49 rfl rfl ?_
  obtain ⟨g1, h⟩ := gd_of h
  refine vm_iast C 11 iI_11 (ix_in g1) dX11_with_50 ?_
  refine v_iload C 0 dX11_with_51 rfl ?_
  obtain rfl := Option.some.inj h
  exact v_iret C dX11_with_53
set_option maxHeartbeats 4000000 in
set_option maxRecDepth 20000 in
theorem b_taken_27 {p : Program} {l : Launch} {e : Env} {s : State} {m : MethodId} {args : Array Value} {below : List Frame} {meth : Method} {c : Code} {D : va_G} {cy : Nat → ClassId} {ad : Nat → Nat} {q : Int32 × MS} (C : vC p s m args meth c cX11_taken 3 (some .int) RX11 D (cyT cy)) (hi : ∀ i j, i < 34 → j < 34 → ad i = ad j → i = j) : ∀ (s0 : Int32) (σ : MS), B_taken_27 s0 σ = some q → V p l e { frames := 1, cells := 0, slots := 0, locals := 24 } s m args below meth c D (inAd ad) 3 (MQ below (vQ D (inAd ad) (some (.int q.1)) (wm cy ad q.2)) args s 0 0 (inAd ad)) 0 0 (wm cy ad σ) 27 [(0, .ref (ad 0))] [.int s0] := by
  intro s0 σ h
  rw [B_taken_27] at h
  obtain rfl := Option.some.inj h
  exact v_iret C dX11_taken_27
set_option maxHeartbeats 4000000 in
set_option maxRecDepth 20000 in
theorem c_taken {l : Launch} {D : va_G} {cy : Nat → ClassId} {ad : Nat → Nat} {q : Int32 × MS} (hi : ∀ i j, i < 34 → j < 34 → ad i = ad j → i = j) (x1 : Int32) (x2 : Int32) (σ : MS) (h : f_taken x1 x2 σ = some q) : MV l D (cyT cy) (inAd ad) yX11_taken cX11_taken 3 (some .int) 1 24 0 0 [.ref (ad 0), .int x1, .int x2] (wm cy ad σ) (some (.int q.1)) (wm cy ad q.2) := by
  refine MV.of (by decide) (wm_inj hi cy σ) (Nat.le_of_ble_eq_true rfl) [(0, .ref (ad 0)), (1, .int x1), (2, .int x2)] rfl ?_
  intro p e s m args below meth c C
  rw [f_taken] at h
  refine v_aload_n C 0 dX11_taken_0 rfl rfl ?_
  refine v_iload_n C 1 dX11_taken_1 rfl rfl ?_
  obtain ⟨q1, hq1, h⟩ := bd_of h
  refine vm_call C [.int x1] [] (c_sortOf hi _ _ hq1) hY_sortOf ml_151 ⟨Nat.le_of_ble_eq_true rfl, Nat.le_of_ble_eq_true rfl⟩ ⟨Nat.zero_le _, Nat.zero_le _⟩ rfl rfl (Nat.le_of_ble_eq_true rfl) dX11_taken_2 (wm_inj hi cy _) ?_
  refine v_iconst C 5 dX11_taken_5 (by decide) ?_
  refine v_icmp_ne C 28 dX11_taken_6 (by decide) (fun c1 => ?_) (fun c1 => ?_)
  · rw [if_neg c1] at h
    refine v_aload_n C 0 dX11_taken_28 rfl rfl ?_
    refine v_iload_n C 2 dX11_taken_29 rfl rfl ?_
    refine v_iload_n C 1 dX11_taken_30 rfl rfl ?_
    refine v_iconst C 0 dX11_taken_31 (by decide) ?_
    refine v_iconst C 0 dX11_taken_32 (by decide) ?_
    obtain ⟨q2, hq2, h⟩ := bd_of h
    refine vm_call C [.int x2, .int x1, .int 0, .int 0] [] (c_lays hi _ _ _ _ _ hq2) hY_lays ml_115 ⟨Nat.le_of_ble_eq_true rfl, Nat.le_of_ble_eq_true rfl⟩ ⟨Nat.zero_le _, Nat.zero_le _⟩ rfl rfl (Nat.le_of_ble_eq_true rfl) dX11_taken_33 (wm_inj hi cy _) ?_
    obtain rfl := Option.some.inj h
    exact v_iret C dX11_taken_36
  · rw [if_pos c1] at h
    refine v_iload_n C 2 dX11_taken_9 rfl rfl ?_
    refine v_iconst C 3 dX11_taken_10 (by decide) ?_
    refine v_icmp_ne C 22 dX11_taken_11 (by decide) (fun c2 => ?_) (fun c2 => ?_)
    · rw [if_neg c2] at h
      refine v_aload_n C 0 dX11_taken_22 rfl rfl ?_
      refine v_iload_n C 1 dX11_taken_23 rfl rfl ?_
      obtain ⟨q3, hq3, h⟩ := bd_of h
      refine vm_call C [.int x1] [] (c_bOf hi _ _ hq3) hY_bOf ml_157 ⟨Nat.le_of_ble_eq_true rfl, Nat.le_of_ble_eq_true rfl⟩ ⟨Nat.zero_le _, Nat.zero_le _⟩ rfl rfl (Nat.le_of_ble_eq_true rfl) dX11_taken_24 (wm_inj hi cy _) ?_
      exact v_sub [0] rfl ((b_taken_27 C hi) _ _ h)
    · rw [if_pos c2] at h
      refine v_aload_n C 0 dX11_taken_14 rfl rfl ?_
      refine v_iload_n C 1 dX11_taken_15 rfl rfl ?_
      obtain ⟨q4, hq4, h⟩ := bd_of h
      refine vm_call C [.int x1] [] (c_aOf hi _ _ hq4) hY_aOf ml_154 ⟨Nat.le_of_ble_eq_true rfl, Nat.le_of_ble_eq_true rfl⟩ ⟨Nat.zero_le _, Nat.zero_le _⟩ rfl rfl (Nat.le_of_ble_eq_true rfl) dX11_taken_16 (wm_inj hi cy _) ?_
      refine v_goto C 27 dX11_taken_19 (by decide) ?_
      exact v_sub [0] rfl ((b_taken_27 C hi) _ _ h)
set_option maxHeartbeats 4000000 in
set_option maxRecDepth 20000 in
theorem b_valueAt_78 {p : Program} {l : Launch} {e : Env} {s : State} {m : MethodId} {args : Array Value} {below : List Frame} {meth : Method} {c : Code} {D : va_G} {cy : Nat → ClassId} {ad : Nat → Nat} {q : Int32 × MS} (C : vC p s m args meth c cX11_valueAt 5 (some .int) RX11 D (cyT cy)) (hi : ∀ i j, i < 34 → j < 34 → ad i = ad j → i = j) : ∀ (s0 : Int32) (σ : MS), B_valueAt_78 s0 σ = some q → V p l e { frames := 1, cells := 0, slots := 0, locals := 24 } s m args below meth c D (inAd ad) 5 (MQ below (vQ D (inAd ad) (some (.int q.1)) (wm cy ad q.2)) args s 0 0 (inAd ad)) 0 0 (wm cy ad σ) 78 [(0, .ref (ad 0))] [.int s0] := by
  intro s0 σ h
  rw [B_valueAt_78] at h
  obtain rfl := Option.some.inj h
  exact v_iret C dX11_valueAt_78
set_option maxHeartbeats 4000000 in
set_option maxRecDepth 20000 in
theorem c_valueAt {l : Launch} {D : va_G} {cy : Nat → ClassId} {ad : Nat → Nat} {q : Int32 × MS} (hi : ∀ i j, i < 34 → j < 34 → ad i = ad j → i = j) (x1 : Int32) (x2 : Int32) (x3 : Int32) (σ : MS) (h : f_valueAt x1 x2 x3 σ = some q) : MV l D (cyT cy) (inAd ad) yX11_valueAt cX11_valueAt 5 (some .int) 1 24 0 0 [.ref (ad 0), .int x1, .int x2, .int x3] (wm cy ad σ) (some (.int q.1)) (wm cy ad q.2) := by
  refine MV.of (by decide) (wm_inj hi cy σ) (Nat.le_of_ble_eq_true rfl) [(0, .ref (ad 0)), (1, .int x1), (2, .int x2), (3, .int x3)] rfl ?_
  intro p e s m args below meth c C
  rw [f_valueAt] at h
  refine v_aload_n C 0 dX11_valueAt_0 rfl rfl ?_
  refine n_getR C fl_7 dX11_valueAt_1 ?_
  refine v_iload_n C 1 dX11_valueAt_4 rfl rfl ?_
  obtain ⟨g1, h⟩ := gd_of h
  refine vm_iald C 1 iI_1 (ix_in g1) dX11_valueAt_5 ?_
  refine v_istore C [(4, .int (σ.2.1 1 (x1 : Int32).toNatClampNeg)), (0, .ref (ad 0)), (1, .int x1), (2, .int x2), (3, .int x3)] dX11_valueAt_6 (by decide) rfl ?_
  refine v_iload C 0 dX11_valueAt_8 rfl ?_
  refine v_bipush C 92 dX11_valueAt_10 (by decide) ?_
  refine v_icmp_ne C 27 dX11_valueAt_12 (by decide) (fun c1 => ?_) (fun c1 => ?_)
  · rw [if_neg c1] at h
    refine v_iload C 0 dX11_valueAt_27 rfl ?_
    refine v_bipush C 42 dX11_valueAt_29 (by decide) ?_
    refine v_icmp_ne C 44 dX11_valueAt_31 (by decide) (fun c2 => ?_) (fun c2 => ?_)
    · rw [if_neg c2] at h
      refine v_iload C 0 dX11_valueAt_44 rfl ?_
      refine v_bipush C 57 dX11_valueAt_46 (by decide) ?_
      refine v_icmp_gt C 69 dX11_valueAt_48 (by decide) (fun c3 => ?_) (fun c3 => ?_)
      · rw [if_pos c3] at h
        refine v_aload_n C 1 dX11_valueAt_69 rfl rfl ?_
        refine v_iconst C 1 dX11_valueAt_70 (by decide) ?_
        refine v_iload C 0 dX11_valueAt_71 rfl ?_
        refine v_iconst C 0 dX11_valueAt_73 (by decide) ?_
        refine v_iconst C 0 dX11_valueAt_74 (by decide) ?_
        obtain ⟨q1, hq1, h⟩ := bd_of h
        refine vm_call C [.int 1, .int (σ.2.1 1 (x1 : Int32).toNatClampNeg), .int 0, .int 0] [] (c_lays hi _ _ _ _ _ hq1) hY_lays ml_115 ⟨Nat.le_of_ble_eq_true rfl, Nat.le_of_ble_eq_true rfl⟩ ⟨Nat.zero_le _, Nat.zero_le _⟩ rfl rfl (Nat.le_of_ble_eq_true rfl) dX11_valueAt_75 (wm_inj hi cy _) ?_
        exact v_sub [1] rfl ((b_valueAt_78 C hi) _ _ h)
      · rw [if_neg c3] at h
        refine v_aload_n C 1 dX11_valueAt_51 rfl rfl ?_
        refine n_getR C fl_42 dX11_valueAt_52 ?_
        refine v_bipush C 10 dX11_valueAt_55 (by decide) ?_
        refine v_iload_n C 4 dX11_valueAt_57 rfl rfl ?_
        refine v_imul C dX11_valueAt_58 ?_
        refine v_iload C 0 dX11_valueAt_59 rfl ?_
        refine v_iadd C dX11_valueAt_61 ?_
        refine v_bipush C 48 dX11_valueAt_62 (by decide) ?_
        refine v_isub C dX11_valueAt_64 ?_
        obtain ⟨g2, h⟩ := gd_of h
        refine vm_iald C 11 iI_11 (ix_in g2) dX11_valueAt_65 ?_
        refine v_goto C 78 dX11_valueAt_66 (by decide) ?_
        exact v_sub [1] rfl ((b_valueAt_78 C hi) _ _ h)
    · rw [if_pos c2] at h
      refine v_aload_n C 1 dX11_valueAt_34 rfl rfl ?_
      refine v_bipush C 6 dX11_valueAt_35 (by decide) ?_
      refine v_iconst C 0 dX11_valueAt_37 (by decide) ?_
      refine v_iconst C 0 dX11_valueAt_38 (by decide) ?_
      refine v_iconst C 0 dX11_valueAt_39 (by decide) ?_
      obtain ⟨q2, hq2, h⟩ := bd_of h
      refine vm_call C [.int 6, .int 0, .int 0, .int 0] [] (c_lays hi _ _ _ _ _ hq2) hY_lays ml_115 ⟨Nat.le_of_ble_eq_true rfl, Nat.le_of_ble_eq_true rfl⟩ ⟨Nat.zero_le _, Nat.zero_le _⟩ rfl rfl (Nat.le_of_ble_eq_true rfl) dX11_valueAt_40 (wm_inj hi cy _) ?_
      obtain rfl := Option.some.inj h
      exact v_iret C dX11_valueAt_43
  · rw [if_pos c1] at h
    refine v_aload_n C 1 dX11_valueAt_15 rfl rfl ?_
    refine v_bipush C 7 dX11_valueAt_16 (by decide) ?_
    refine v_iload_n C 2 dX11_valueAt_18 rfl rfl ?_
    refine v_iconst C 1 dX11_valueAt_19 (by decide) ?_
    refine v_iadd C dX11_valueAt_20 ?_
    refine v_iload_n C 4 dX11_valueAt_21 rfl rfl ?_
    refine v_iload_n C 3 dX11_valueAt_22 rfl rfl ?_
    obtain ⟨q3, hq3, h⟩ := bd_of h
    refine vm_call C [.int 7, .int (x1 + 1), .int x3, .int x2] [] (c_lays hi _ _ _ _ _ hq3) hY_lays ml_115 ⟨Nat.le_of_ble_eq_true rfl, Nat.le_of_ble_eq_true rfl⟩ ⟨Nat.zero_le _, Nat.zero_le _⟩ rfl rfl (Nat.le_of_ble_eq_true rfl) dX11_valueAt_23 (wm_inj hi cy _) ?_
    obtain rfl := Option.some.inj h
    exact v_iret C dX11_valueAt_26
set_option maxHeartbeats 4000000 in
set_option maxRecDepth 20000 in
theorem b_isOpen_29 {p : Program} {l : Launch} {e : Env} {s : State} {m : MethodId} {args : Array Value} {below : List Frame} {meth : Method} {c : Code} {D : va_G} {cy : Nat → ClassId} {ad : Nat → Nat} {q : Int32 × MS} (C : vC p s m args meth c cX11_isOpen 1 (some .boolean) RX11 D (cyT cy)) (hi : ∀ i j, i < 34 → j < 34 → ad i = ad j → i = j) : ∀ (s0 : Int32) (σ : MS), B_isOpen_29 s0 σ = some q → V p l e { frames := 0, cells := 0, slots := 0, locals := 0 } s m args below meth c D (inAd ad) 1 (MQ below (vQ D (inAd ad) (some (.int q.1)) (wm cy ad q.2)) args s 0 0 (inAd ad)) 0 0 (wm cy ad σ) 29 [] [.int s0] := by
  intro s0 σ h
  rw [B_isOpen_29] at h
  obtain ⟨g1, h⟩ := gd_of h
  obtain rfl := Option.some.inj h
  exact v_zret C (bzb_in g1) dX11_isOpen_29
set_option maxHeartbeats 4000000 in
set_option maxRecDepth 20000 in
theorem b_isOpen_24 {p : Program} {l : Launch} {e : Env} {s : State} {m : MethodId} {args : Array Value} {below : List Frame} {meth : Method} {c : Code} {D : va_G} {cy : Nat → ClassId} {ad : Nat → Nat} {q : Int32 × MS} (C : vC p s m args meth c cX11_isOpen 1 (some .boolean) RX11 D (cyT cy)) (hi : ∀ i j, i < 34 → j < 34 → ad i = ad j → i = j) {k29 : Int32 → MS → Option (Int32 × MS)} (hk29 : ∀ (s0 : Int32)  (σ : MS), k29 s0 σ = some q → V p l e { frames := 0, cells := 0, slots := 0, locals := 0 } s m args below meth c D (inAd ad) 1 (MQ below (vQ D (inAd ad) (some (.int q.1)) (wm cy ad q.2)) args s 0 0 (inAd ad)) 0 0 (wm cy ad σ) 29 [] [.int s0]) : ∀ (σ : MS), B_isOpen_24 k29 σ = some q → V p l e { frames := 0, cells := 0, slots := 0, locals := 0 } s m args below meth c D (inAd ad) 1 (MQ below (vQ D (inAd ad) (some (.int q.1)) (wm cy ad q.2)) args s 0 0 (inAd ad)) 0 0 (wm cy ad σ) 24 [] [] := by
  intro σ h
  rw [B_isOpen_24] at h
  refine v_iconst C 1 dX11_isOpen_24 (by decide) ?_
  refine v_goto C 29 dX11_isOpen_25 (by decide) ?_
  exact v_sub [] rfl (hk29 _ _ h)
set_option maxHeartbeats 4000000 in
set_option maxRecDepth 20000 in
theorem c_isOpen {l : Launch} {D : va_G} {cy : Nat → ClassId} {ad : Nat → Nat} {q : Int32 × MS} (hi : ∀ i j, i < 34 → j < 34 → ad i = ad j → i = j) (x0 : Int32) (σ : MS) (h : f_isOpen x0 σ = some q) : MV l D (cyT cy) (inAd ad) yX11_isOpen cX11_isOpen 1 (some .boolean) 0 0 0 0 [.int x0] (wm cy ad σ) (some (.int q.1)) (wm cy ad q.2) := by
  refine MV.of (by decide) (wm_inj hi cy σ) (Nat.le_of_ble_eq_true rfl) [(0, .int x0)] rfl ?_
  intro p e s m args below meth c C
  rw [f_isOpen] at h
  refine v_iload_n C 0 dX11_isOpen_0 rfl rfl ?_
  refine v_bipush C 46 dX11_isOpen_1 (by decide) ?_
  refine v_icmp_eq C 24 dX11_isOpen_3 (by decide) (fun c1 => ?_) (fun c1 => ?_)
  · rw [if_pos c1] at h
    exact v_sub [] rfl ((b_isOpen_24 C hi (b_isOpen_29 C hi)) _ h)
  · rw [if_neg c1] at h
    refine v_iload_n C 0 dX11_isOpen_6 rfl rfl ?_
    refine v_bipush C 44 dX11_isOpen_7 (by decide) ?_
    refine v_icmp_eq C 24 dX11_isOpen_9 (by decide) (fun c2 => ?_) (fun c2 => ?_)
    · rw [if_pos c2] at h
      exact v_sub [] rfl ((b_isOpen_24 C hi (b_isOpen_29 C hi)) _ h)
    · rw [if_neg c2] at h
      refine v_iload_n C 0 dX11_isOpen_12 rfl rfl ?_
      refine v_bipush C 60 dX11_isOpen_13 (by decide) ?_
      refine v_icmp_eq C 24 dX11_isOpen_15 (by decide) (fun c3 => ?_) (fun c3 => ?_)
      · rw [if_pos c3] at h
        exact v_sub [] rfl ((b_isOpen_24 C hi (b_isOpen_29 C hi)) _ h)
      · rw [if_neg c3] at h
        refine v_iload_n C 0 dX11_isOpen_18 rfl rfl ?_
        refine v_bipush C 62 dX11_isOpen_19 (by decide) ?_
        refine v_icmp_ne C 28 dX11_isOpen_21 (by decide) (fun c4 => ?_) (fun c4 => ?_)
        · rw [if_neg c4] at h
          refine v_iconst C 0 dX11_isOpen_28 (by decide) ?_
          exact v_sub [] rfl ((b_isOpen_29 C hi) _ _ h)
        · rw [if_pos c4] at h
          exact v_sub [] rfl ((b_isOpen_24 C hi (b_isOpen_29 C hi)) _ h)
