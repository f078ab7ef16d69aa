theorem dX4_readEntry_0 : decode cX4_readEntry 0 = .ok (.aload_n 0, 1) := by decide +kernel
theorem dX4_readEntry_1 : decode cX4_readEntry 1 = .ok (.getfield 41, 3) := by decide +kernel
theorem dX4_readEntry_4 : decode cX4_readEntry 4 = .ok (.istore_n 2, 1) := by decide +kernel
theorem dX4_readEntry_5 : decode cX4_readEntry 5 = .ok (.aload_n 0, 1) := by decide +kernel
theorem dX4_readEntry_6 : decode cX4_readEntry 6 = .ok (.dup, 1) := by decide +kernel
theorem dX4_readEntry_7 : decode cX4_readEntry 7 = .ok (.getfield 41, 3) := by decide +kernel
theorem dX4_readEntry_10 : decode cX4_readEntry 10 = .ok (.iconst 1, 1) := by decide +kernel
theorem dX4_readEntry_11 : decode cX4_readEntry 11 = .ok (.iadd, 1) := by decide +kernel
theorem dX4_readEntry_12 : decode cX4_readEntry 12 = .ok (.putfield 41, 3) := by decide +kernel
theorem dX4_readEntry_15 : decode cX4_readEntry 15 = .ok (.aload_n 0, 1) := by decide +kernel
theorem dX4_readEntry_16 : decode cX4_readEntry 16 = .ok (.getfield 21, 3) := by decide +kernel
theorem dX4_readEntry_19 : decode cX4_readEntry 19 = .ok (.aload_n 0, 1) := by decide +kernel
theorem dX4_readEntry_20 : decode cX4_readEntry 20 = .ok (.invokevirtual 98, 3) := by decide +kernel
theorem dX4_readEntry_23 : decode cX4_readEntry 23 = .ok (.bipush 48, 2) := by decide +kernel
theorem dX4_readEntry_25 : decode cX4_readEntry 25 = .ok (.isub, 1) := by decide +kernel
theorem dX4_readEntry_26 : decode cX4_readEntry 26 = .ok (.invokevirtual 227, 3) := by decide +kernel
theorem dX4_readEntry_29 : decode cX4_readEntry 29 = .ok (.astore_n 3, 1) := by decide +kernel
theorem dX4_readEntry_30 : decode cX4_readEntry 30 = .ok (.aload_n 3, 1) := by decide +kernel
theorem dX4_readEntry_31 : decode cX4_readEntry 31 = .ok (.ifnonnull 12, 3) := by decide +kernel
theorem dX4_readEntry_34 : decode cX4_readEntry 34 = .ok (.aload_n 0, 1) := by decide +kernel
theorem dX4_readEntry_35 : decode cX4_readEntry 35 = .ok (.aload_n 0, 1) := by decide +kernel
theorem dX4_readEntry_36 : decode cX4_readEntry 36 = .ok (.getfield 41, 3) := by decide +kernel
theorem dX4_readEntry_39 : decode cX4_readEntry 39 = .ok (.invokevirtual 95, 3) := by decide +kernel
theorem dX4_readEntry_42 : decode cX4_readEntry 42 = .ok (.ireturn, 1) := by decide +kernel
theorem dX4_readEntry_43 : decode cX4_readEntry 43 = .ok (.aload_n 0, 1) := by decide +kernel
theorem dX4_readEntry_44 : decode cX4_readEntry 44 = .ok (.dup, 1) := by decide +kernel
theorem dX4_readEntry_45 : decode cX4_readEntry 45 = .ok (.getfield 41, 3) := by decide +kernel
theorem dX4_readEntry_48 : decode cX4_readEntry 48 = .ok (.iconst 1, 1) := by decide +kernel
theorem dX4_readEntry_49 : decode cX4_readEntry 49 = .ok (.iadd, 1) := by decide +kernel
theorem dX4_readEntry_50 : decode cX4_readEntry 50 = .ok (.putfield 41, 3) := by decide +kernel
theorem dX4_readEntry_53 : decode cX4_readEntry 53 = .ok (.aload_n 0, 1) := by decide +kernel
theorem dX4_readEntry_54 : decode cX4_readEntry 54 = .ok (.getfield 25, 3) := by decide +kernel
theorem dX4_readEntry_57 : decode cX4_readEntry 57 = .ok (.aload_n 3, 1) := by decide +kernel
theorem dX4_readEntry_58 : decode cX4_readEntry 58 = .ok (.getfield 231, 3) := by decide +kernel
theorem dX4_readEntry_61 : decode cX4_readEntry 61 = .ok (.invokevirtual 235, 3) := by decide +kernel
theorem dX4_readEntry_64 : decode cX4_readEntry 64 = .ok (.istore 4, 2) := by decide +kernel
theorem dX4_readEntry_66 : decode cX4_readEntry 66 = .ok (.aload_n 0, 1) := by decide +kernel
theorem dX4_readEntry_67 : decode cX4_readEntry 67 = .ok (.getfield 25, 3) := by decide +kernel
theorem dX4_readEntry_70 : decode cX4_readEntry 70 = .ok (.aload_n 3, 1) := by decide +kernel
theorem dX4_readEntry_71 : decode cX4_readEntry 71 = .ok (.getfield 239, 3) := by decide +kernel
theorem dX4_readEntry_74 : decode cX4_readEntry 74 = .ok (.invokevirtual 235, 3) := by decide +kernel
theorem dX4_readEntry_77 : decode cX4_readEntry 77 = .ok (.istore 5, 2) := by decide +kernel
theorem dX4_readEntry_79 : decode cX4_readEntry 79 = .ok (.aload_n 0, 1) := by decide +kernel
theorem dX4_readEntry_80 : decode cX4_readEntry 80 = .ok (.getfield 29, 3) := by decide +kernel
theorem dX4_readEntry_83 : decode cX4_readEntry 83 = .ok (.iload 5, 2) := by decide +kernel
theorem dX4_readEntry_85 : decode cX4_readEntry 85 = .ok (.iconst 0, 1) := by decide +kernel
theorem dX4_readEntry_86 : decode cX4_readEntry 86 = .ok (.bipush 104, 2) := by decide +kernel
theorem dX4_readEntry_88 : decode cX4_readEntry 88 = .ok (.invokevirtual 184, 3) := by decide +kernel
theorem dX4_readEntry_91 : decode cX4_readEntry 91 = .ok (.istore 6, 2) := by decide +kernel
theorem dX4_readEntry_93 : decode cX4_readEntry 93 = .ok (.aload_n 0, 1) := by decide +kernel
theorem dX4_readEntry_94 : decode cX4_readEntry 94 = .ok (.aload_n 0, 1) := by decide +kernel
theorem dX4_readEntry_95 : decode cX4_readEntry 95 = .ok (.getfield 29, 3) := by decide +kernel
theorem dX4_readEntry_98 : decode cX4_readEntry 98 = .ok (.iload 4, 2) := by decide +kernel
theorem dX4_readEntry_100 : decode cX4_readEntry 100 = .ok (.iconst 0, 1) := by decide +kernel
theorem dX4_readEntry_101 : decode cX4_readEntry 101 = .ok (.invokevirtual 66, 3) := by decide +kernel
theorem dX4_readEntry_104 : decode cX4_readEntry 104 = .ok (.iload 6, 2) := by decide +kernel
theorem dX4_readEntry_106 : decode cX4_readEntry 106 = .ok (.iload_n 1, 1) := by decide +kernel
theorem dX4_readEntry_107 : decode cX4_readEntry 107 = .ok (.iload_n 2, 1) := by decide +kernel
theorem dX4_readEntry_108 : decode cX4_readEntry 108 = .ok (.invokevirtual 215, 3) := by decide +kernel
theorem dX4_readEntry_111 : decode cX4_readEntry 111 = .ok (.ireturn, 1) := by decide +kernel
theorem dX4_readName_0 : decode cX4_readName 0 = .ok (.aload_n 0, 1) := by decide +kernel
theorem dX4_readName_1 : decode cX4_readName 1 = .ok (.getfield 41, 3) := by decide +kernel
theorem dX4_readName_4 : decode cX4_readName 4 = .ok (.istore_n 2, 1) := by decide +kernel
theorem dX4_readName_5 : decode cX4_readName 5 = .ok (.aload_n 0, 1) := by decide +kernel
theorem dX4_readName_6 : decode cX4_readName 6 = .ok (.invokevirtual 98, 3) := by decide +kernel
theorem dX4_readName_9 : decode cX4_readName 9 = .ok (.istore_n 3, 1) := by decide +kernel
theorem dX4_readName_10 : decode cX4_readName 10 = .ok (.iload_n 3, 1) := by decide +kernel
theorem dX4_readName_11 : decode cX4_readName 11 = .ok (.bipush 48, 2) := by decide +kernel
theorem dX4_readName_13 : decode cX4_readName 13 = .ok (.isub, 1) := by decide +kernel
theorem dX4_readName_14 : decode cX4_readName 14 = .ok (.istore 4, 2) := by decide +kernel
theorem dX4_readName_16 : decode cX4_readName 16 = .ok (.iload 4, 2) := by decide +kernel
theorem dX4_readName_18 : decode cX4_readName 18 = .ok (.ifCond .lt 53, 3) := by decide +kernel
theorem dX4_readName_21 : decode cX4_readName 21 = .ok (.iload 4, 2) := by decide +kernel
theorem dX4_readName_23 : decode cX4_readName 23 = .ok (.iload_n 1, 1) := by decide +kernel
theorem dX4_readName_24 : decode cX4_readName 24 = .ok (.if_icmp .ge 47, 3) := by decide +kernel
theorem dX4_readName_27 : decode cX4_readName 27 = .ok (.aload_n 0, 1) := by decide +kernel
theorem dX4_readName_28 : decode cX4_readName 28 = .ok (.dup, 1) := by decide +kernel
theorem dX4_readName_29 : decode cX4_readName 29 = .ok (.getfield 41, 3) := by decide +kernel
theorem dX4_readName_32 : decode cX4_readName 32 = .ok (.iconst 1, 1) := by decide +kernel
theorem dX4_readName_33 : decode cX4_readName 33 = .ok (.iadd, 1) := by decide +kernel
theorem dX4_readName_34 : decode cX4_readName 34 = .ok (.putfield 41, 3) := by decide +kernel
theorem dX4_readName_37 : decode cX4_readName 37 = .ok (.aload_n 0, 1) := by decide +kernel
theorem dX4_readName_38 : decode cX4_readName 38 = .ok (.getfield 29, 3) := by decide +kernel
theorem dX4_readName_41 : decode cX4_readName 41 = .ok (.aload_n 0, 1) := by decide +kernel
theorem dX4_readName_42 : decode cX4_readName 42 = .ok (.iload_n 1, 1) := by decide +kernel
theorem dX4_readName_43 : decode cX4_readName 43 = .ok (.invokevirtual 142, 3) := by decide +kernel
theorem dX4_readName_46 : decode cX4_readName 46 = .ok (.iload 4, 2) := by decide +kernel
theorem dX4_readName_48 : decode cX4_readName 48 = .ok (.invokevirtual 209, 3) := by decide +kernel
theorem dX4_readName_51 : decode cX4_readName 51 = .ok (.istore 5, 2) := by decide +kernel
theorem dX4_readName_53 : decode cX4_readName 53 = .ok (.aload_n 0, 1) := by decide +kernel
theorem dX4_readName_54 : decode cX4_readName 54 = .ok (.aload_n 0, 1) := by decide +kernel
theorem dX4_readName_55 : decode cX4_readName 55 = .ok (.getfield 29, 3) := by decide +kernel
theorem dX4_readName_58 : decode cX4_readName 58 = .ok (.iload 4, 2) := by decide +kernel
theorem dX4_readName_60 : decode cX4_readName 60 = .ok (.invokevirtual 212, 3) := by decide +kernel
theorem dX4_readName_63 : decode cX4_readName 63 = .ok (.iload 5, 2) := by decide +kernel
theorem dX4_readName_65 : decode cX4_readName 65 = .ok (.iload_n 1, 1) := by decide +kernel
theorem dX4_readName_66 : decode cX4_readName 66 = .ok (.iload_n 2, 1) := by decide +kernel
theorem dX4_readName_67 : decode cX4_readName 67 = .ok (.invokevirtual 215, 3) := by decide +kernel
theorem dX4_readName_70 : decode cX4_readName 70 = .ok (.ireturn, 1) := by decide +kernel
theorem dX4_readName_71 : decode cX4_readName 71 = .ok (.aload_n 0, 1) := by decide +kernel
theorem dX4_readName_72 : decode cX4_readName 72 = .ok (.getfield 25, 3) := by decide +kernel
theorem dX4_readName_75 : decode cX4_readName 75 = .ok (.iload_n 3, 1) := by decide +kernel
theorem dX4_readName_76 : decode cX4_readName 76 = .ok (.invokevirtual 218, 3) := by decide +kernel
theorem dX4_readName_79 : decode cX4_readName 79 = .ok (.ifCond .eq 36, 3) := by decide +kernel
theorem dX4_readName_82 : decode cX4_readName 82 = .ok (.aload_n 0, 1) := by decide +kernel
theorem dX4_readName_83 : decode cX4_readName 83 = .ok (.dup, 1) := by decide +kernel
theorem dX4_readName_84 : decode cX4_readName 84 = .ok (.getfield 41, 3) := by decide +kernel
theorem dX4_readName_87 : decode cX4_readName 87 = .ok (.iconst 1, 1) := by decide +kernel
theorem dX4_readName_88 : decode cX4_readName 88 = .ok (.iadd, 1) := by decide +kernel
theorem dX4_readName_89 : decode cX4_readName 89 = .ok (.putfield 41, 3) := by decide +kernel
theorem dX4_readName_92 : decode cX4_readName 92 = .ok (.aload_n 0, 1) := by decide +kernel
theorem dX4_readName_93 : decode cX4_readName 93 = .ok (.aload_n 0, 1) := by decide +kernel
theorem dX4_readName_94 : decode cX4_readName 94 = .ok (.getfield 29, 3) := by decide +kernel
theorem dX4_readName_97 : decode cX4_readName 97 = .ok (.iload_n 3, 1) := by decide +kernel
theorem dX4_readName_98 : decode cX4_readName 98 = .ok (.invokevirtual 221, 3) := by decide +kernel
theorem dX4_readName_101 : decode cX4_readName 101 = .ok (.aload_n 0, 1) := by decide +kernel
theorem dX4_readName_102 : decode cX4_readName 102 = .ok (.getfield 29, 3) := by decide +kernel
theorem dX4_readName_105 : decode cX4_readName 105 = .ok (.iload_n 3, 1) := by decide +kernel
theorem dX4_readName_106 : decode cX4_readName 106 = .ok (.invokevirtual 224, 3) := by decide +kernel
theorem dX4_readName_109 : decode cX4_readName 109 = .ok (.iload_n 1, 1) := by decide +kernel
theorem dX4_readName_110 : decode cX4_readName 110 = .ok (.iload_n 2, 1) := by decide +kernel
theorem dX4_readName_111 : decode cX4_readName 111 = .ok (.invokevirtual 215, 3) := by decide +kernel
theorem dX4_readName_114 : decode cX4_readName 114 = .ok (.ireturn, 1) := by decide +kernel
theorem dX4_readName_115 : decode cX4_readName 115 = .ok (.aload_n 0, 1) := by decide +kernel
theorem dX4_readName_116 : decode cX4_readName 116 = .ok (.iload_n 2, 1) := by decide +kernel
theorem dX4_readName_117 : decode cX4_readName 117 = .ok (.invokevirtual 95, 3) := by decide +kernel
theorem dX4_readName_120 : decode cX4_readName 120 = .ok (.ireturn, 1) := by decide +kernel
set_option maxHeartbeats 4000000 in
set_option maxRecDepth 20000 in
theorem c_Reader_readEntry {l : Launch} {D : va_G} {cy : Nat → ClassId} {ad : Nat → Nat} {q : Int32 × CS} (hA : adOK ad) (x1 : Int32) (σ : CS) (h : f_Reader_readEntry x1 σ = some q) : MV l D (cyT cy) (inC ad) yX4_readEntry cX4_readEntry 7 (some .int) (345) (13726) 0 0 [.ref (ad 43), .int x1] (wc cy ad σ) (some (.int q.1)) (wc cy ad q.2) := by
  refine MV.of (by decide) (wc_D hA cy σ) (Nat.le_of_ble_eq_true rfl) [(0, .ref (ad 43)), (1, .int x1)] rfl ?_
  intro p e s m args below meth c C
  rw [f_Reader_readEntry] at h
  refine v_aload_n C 0 dX4_readEntry_0 rfl rfl ?_
  refine c_getI C fl_4_41 rfl (okS _ 43 (by decide) rfl) dX4_readEntry_1 ?_
  refine v_istore_n C [(2, .int (σ.1 43 7)), (0, .ref (ad 43)), (1, .int x1)] dX4_readEntry_4 rfl (by decide) rfl ?_
  refine v_aload_n C 1 dX4_readEntry_5 rfl rfl ?_
  refine v_dup C dX4_readEntry_6 rfl ?_
  refine c_getI C fl_4_41 rfl (okS _ 43 (by decide) rfl) dX4_readEntry_7 ?_
  refine v_iconst C 1 dX4_readEntry_10 (by decide) ?_
  refine v_iadd C dX4_readEntry_11 ?_
  refine c_putI C fl_4_41 fw_4_7 rfl (by decide) (okS _ 43 (by decide) rfl) dX4_readEntry_12 ?_
  refine v_aload_n C 1 dX4_readEntry_15 rfl rfl ?_
  refine c_getR C fl_4_21 rfl (okS _ 43 (by decide) rfl) dX4_readEntry_16 ?_
  refine v_aload_n C 1 dX4_readEntry_19 rfl rfl ?_
  obtain ⟨q1, hq1, h⟩ := bd_of h
  refine c_call C [] [va_rf (Option.map ad (rfv (sI σ 43 7 ((σ.1 43 7) + 1)) 43 6))] (c_Reader_peek hA _ hq1) hY_Reader_peek rfl (by decide) (okS _ 43 (by decide) rfl) ml_4_98 ⟨(by omega : 0 + 1 ≤ 345), (by omega : 8 + (1 + 11) + 0 ≤ 13726)⟩ ⟨Nat.zero_le _, Nat.zero_le _⟩ rfl rfl (by simp only [List.map, cat_rf]; exact Nat.le_of_ble_eq_true rfl) dX4_readEntry_20 (wc_D hA cy _) ?_
  refine v_bipush C 48 dX4_readEntry_23 (by decide) ?_
  refine v_isub C dX4_readEntry_25 ?_
  obtain ⟨a1, ha1, h⟩ := bd_of h
  rw [ha1]
  obtain ⟨g1, h⟩ := gd_of h
  obtain ⟨q2, hq2, h⟩ := bd_of h
  refine c_call C [.int (q1.1 - 48)] [] (c_Shelf_at hA _ _ _ hq2) hY_Shelf_at rfl (by decide) g1 ml_4_227 ⟨(by omega : 0 + 1 ≤ 345), (by omega : 8 + (2 + 11) + 0 ≤ 13726)⟩ ⟨Nat.zero_le _, Nat.zero_le _⟩ rfl rfl (Nat.le_of_ble_eq_true rfl) dX4_readEntry_26 (wc_D hA cy _) ?_
  refine c_astore_n C q2.1 [(3, va_rf (Option.map ad q2.1)), (2, .int (σ.1 43 7)), (0, .ref (ad 43)), (1, .int x1)] dX4_readEntry_29 rfl (by decide) rfl ?_
  refine c_aload_n C q2.1 0 dX4_readEntry_30 rfl rfl ?_
  refine c_ifnonnull C 43 dX4_readEntry_31 (by decide) (fun a2 c1 => ?_) (fun c1 => ?_)
  · try rw [c1]
    replace h := el_s c1 h
    refine v_aload_n C 2 dX4_readEntry_43 rfl rfl ?_
    refine v_dup C dX4_readEntry_44 rfl ?_
    refine c_getI C fl_4_41 rfl (okS _ 43 (by decide) rfl) dX4_readEntry_45 ?_
    refine v_iconst C 1 dX4_readEntry_48 (by decide) ?_
    refine v_iadd C dX4_readEntry_49 ?_
    refine c_putI C fl_4_41 fw_4_7 rfl (by decide) (okS _ 43 (by decide) rfl) dX4_readEntry_50 ?_
    refine v_aload_n C 2 dX4_readEntry_53 rfl rfl ?_
    refine c_getS C 34 fl_4_25 rfl rfl (by decide) (okS _ 43 (by decide) rfl) dX4_readEntry_54 ?_
    refine v_aload_n C 0 dX4_readEntry_57 rfl rfl ?_
    obtain ⟨g2, h⟩ := gd_of h
    refine c_getRN C fl_4_231 rfl g2 dX4_readEntry_58 ?_
    obtain ⟨q4, hq4, h⟩ := bd_of h
    refine c_call C [va_rf (Option.map ad (rfv (sI q2.2 43 7 ((q2.2.1 43 7) + 1)) a2 0))] [] (c_Signs_copyOf hA _ _ hq4) hY_Signs_copyOf rfl (by decide) (okS _ 34 (by decide) rfl) ml_4_235 ⟨(by omega : 1 + 1 ≤ 345), (by omega : 8 + (4 + 11) + 21 ≤ 13726)⟩ ⟨Nat.zero_le _, Nat.zero_le _⟩ rfl rfl (Nat.le_of_ble_eq_true rfl) dX4_readEntry_61 (wc_D hA cy _) ?_
    refine v_istore C [(4, .int q4.1), (3, .ref (ad a2)), (2, .int (σ.1 43 7)), (0, .ref (ad 43)), (1, .int x1)] dX4_readEntry_64 (by decide) rfl ?_
    refine v_aload_n C 3 dX4_readEntry_66 rfl rfl ?_
    refine c_getS C 34 fl_4_25 rfl rfl (by decide) (okS _ 43 (by decide) rfl) dX4_readEntry_67 ?_
    refine v_aload_n C 1 dX4_readEntry_70 rfl rfl ?_
    obtain ⟨g3, h⟩ := gd_of h
    refine c_getRN C fl_4_239 rfl g3 dX4_readEntry_71 ?_
    obtain ⟨q5, hq5, h⟩ := bd_of h
    refine c_call C [va_rf (Option.map ad (rfv q4.2 a2 1))] [] (c_Signs_copyOf hA _ _ hq5) hY_Signs_copyOf rfl (by decide) (okS _ 34 (by decide) rfl) ml_4_235 ⟨(by omega : 1 + 1 ≤ 345), (by omega : 8 + (4 + 11) + 21 ≤ 13726)⟩ ⟨Nat.zero_le _, Nat.zero_le _⟩ rfl rfl (Nat.le_of_ble_eq_true rfl) dX4_readEntry_74 (wc_D hA cy _) ?_
    refine v_istore C [(5, .int q5.1), (4, .int q4.1), (3, .ref (ad a2)), (2, .int (σ.1 43 7)), (0, .ref (ad 43)), (1, .int x1)] dX4_readEntry_77 (by decide) rfl ?_
    refine v_aload_n C 4 dX4_readEntry_79 rfl rfl ?_
    refine c_getS C 38 fl_4_29 rfl rfl (by decide) (okS _ 43 (by decide) rfl) dX4_readEntry_80 ?_
    refine v_iload C 0 dX4_readEntry_83 rfl ?_
    refine v_iconst C 0 dX4_readEntry_85 (by decide) ?_
    refine v_bipush C 104 dX4_readEntry_86 (by decide) ?_
    obtain ⟨q6, hq6, h⟩ := bd_of h
    refine c_callN C [.int q5.1, .int 0, .int 104] [] (c_Values_evaluate hA _ _ _ _ hq6) hY_Values_evaluate rfl (by decide) (okS _ 38 (by decide) rfl) ml_4_184 ⟨(by omega : 222 + 1 ≤ 345), (by omega : 8 + (9 + 11) + 8846 ≤ 13726)⟩ ⟨Nat.zero_le _, Nat.zero_le _⟩ rfl rfl (Nat.le_of_ble_eq_true rfl) dX4_readEntry_88 (wc_D hA cy _) ?_
    refine v_istore C [(6, .int q6.1), (5, .int q5.1), (4, .int q4.1), (3, .ref (ad a2)), (2, .int (σ.1 43 7)), (0, .ref (ad 43)), (1, .int x1)] dX4_readEntry_91 (by decide) rfl ?_
    refine v_aload_n C 5 dX4_readEntry_93 rfl rfl ?_
    refine v_aload_n C 5 dX4_readEntry_94 rfl rfl ?_
    refine c_getS C 38 fl_4_29 rfl rfl (by decide) (okS _ 43 (by decide) rfl) dX4_readEntry_95 ?_
    refine v_iload C 2 dX4_readEntry_98 rfl ?_
    refine v_iconst C 0 dX4_readEntry_100 (by decide) ?_
    obtain ⟨q7, hq7, h⟩ := bd_of h
    refine c_call C [.int q4.1, .int 0] [.ref (ad 43)] (c_Values_typeAt hA _ _ _ hq7) hY_Values_typeAt rfl (by decide) (okS _ 38 (by decide) rfl) ml_4_66 ⟨(by omega : 1 + 1 ≤ 345), (by omega : 8 + (3 + 11) + 23 ≤ 13726)⟩ ⟨Nat.zero_le _, Nat.zero_le _⟩ rfl rfl (Nat.le_of_ble_eq_true rfl) dX4_readEntry_101 (wc_D hA cy _) ?_
    refine v_iload C 0 dX4_readEntry_104 rfl ?_
    refine v_iload_n C 6 dX4_readEntry_106 rfl rfl ?_
    refine v_iload_n C 4 dX4_readEntry_107 rfl rfl ?_
    obtain ⟨q8, hq8, h⟩ := bd_of h
    refine c_call C [.int q7.1, .int q6.1, .int x1, .int (σ.1 43 7)] [] (c_Reader_settle hA _ _ _ _ _ hq8) hY_Reader_settle rfl (by decide) (okS _ 43 (by decide) rfl) ml_4_215 ⟨(by omega : 344 + 1 ≤ 345), (by omega : 8 + (7 + 11) + 13700 ≤ 13726)⟩ ⟨Nat.zero_le _, Nat.zero_le _⟩ rfl rfl (Nat.le_of_ble_eq_true rfl) dX4_readEntry_108 (wc_D hA cy _) ?_
    obtain rfl := Option.some.inj h
    exact v_iret C dX4_readEntry_111
  · try rw [c1]
    replace h := el_n c1 h
    refine v_aload_n C 2 dX4_readEntry_34 rfl rfl ?_
    refine v_aload_n C 2 dX4_readEntry_35 rfl rfl ?_
    refine c_getI C fl_4_41 rfl (okS _ 43 (by decide) rfl) dX4_readEntry_36 ?_
    obtain ⟨q3, hq3, h⟩ := bd_of h
    refine c_call C [.int (q2.2.1 43 7)] [] (c_Reader_refuse hA _ _ hq3) hY_Reader_refuse rfl (by decide) (okS _ 43 (by decide) rfl) ml_4_95 ⟨(by omega : 0 + 1 ≤ 345), (by omega : 8 + (2 + 11) + 0 ≤ 13726)⟩ ⟨Nat.zero_le _, Nat.zero_le _⟩ rfl rfl (Nat.le_of_ble_eq_true rfl) dX4_readEntry_39 (wc_D hA cy _) ?_
    obtain rfl := Option.some.inj h
    exact v_iret C dX4_readEntry_42
set_option maxHeartbeats 4000000 in
set_option maxRecDepth 20000 in
theorem b_Reader_readName_71 {p : Program} {l : Launch} {e : Env} {s : State} {m : MethodId} {args : Array Value} {below : List Frame} {meth : Method} {c : Code} {D : va_G} {cy : Nat → ClassId} {ad : Nat → Nat} {q : Int32 × CS}  (C : vC p s m args meth c cX4_readName 6 (some .int) RX4 D (cyT cy)) (hA : adOK ad) : ∀ (x1 : Int32) (x2 : Int32) (x3 : Int32) (σ : CS), B_Reader_readName_71 x1 x2 x3 σ = some q → V p l e { frames := 345, cells := 0, slots := 0, locals := 13726 } s m args below meth c D (inC ad) 6 (MQ below (vQ D (inC ad) (some (.int q.1)) (wc cy ad q.2)) args s 0 0 (inC ad)) 0 0 (wc cy ad σ) 71 [(0, .ref (ad 43)), (1, .int x1), (2, .int x2), (3, .int x3)] [] := by
  intro x1 x2 x3 σ h
  rw [B_Reader_readName_71] at h
  refine v_aload_n C 0 dX4_readName_71 rfl rfl ?_
  refine c_getS C 34 fl_4_25 rfl rfl (by decide) (okS _ 43 (by decide) rfl) dX4_readName_72 ?_
  refine v_iload_n C 3 dX4_readName_75 rfl rfl ?_
  obtain ⟨q1, hq1, h⟩ := bd_of h
  refine c_call C [.int x3] [] (c_Signs_isConstant hA _ _ hq1) hY_Signs_isConstant rfl (by decide) (okS _ 34 (by decide) rfl) ml_4_218 ⟨(by omega : 0 + 1 ≤ 345), (by omega : 8 + (2 + 11) + 0 ≤ 13726)⟩ ⟨Nat.zero_le _, Nat.zero_le _⟩ rfl rfl (Nat.le_of_ble_eq_true rfl) dX4_readName_76 (wc_D hA cy _) ?_
  refine v_if_eq C 115 dX4_readName_79 (by decide) (fun c1 => ?_) (fun c1 => ?_)
  · rw [if_pos c1] at h
    refine v_aload_n C 0 dX4_readName_115 rfl rfl ?_
    refine v_iload_n C 2 dX4_readName_116 rfl rfl ?_
    obtain ⟨q2, hq2, h⟩ := bd_of h
    refine c_call C [.int x2] [] (c_Reader_refuse hA _ _ hq2) hY_Reader_refuse rfl (by decide) (okS _ 43 (by decide) rfl) ml_4_95 ⟨(by omega : 0 + 1 ≤ 345), (by omega : 8 + (2 + 11) + 0 ≤ 13726)⟩ ⟨Nat.zero_le _, Nat.zero_le _⟩ rfl rfl (Nat.le_of_ble_eq_true rfl) dX4_readName_117 (wc_D hA cy _) ?_
    obtain rfl := Option.some.inj h
    exact v_iret C dX4_readName_120
  · rw [if_neg c1] at h
    refine v_aload_n C 0 dX4_readName_82 rfl rfl ?_
    refine v_dup C dX4_readName_83 rfl ?_
    refine c_getI C fl_4_41 rfl (okS _ 43 (by decide) rfl) dX4_readName_84 ?_
    refine v_iconst C 1 dX4_readName_87 (by decide) ?_
    refine v_iadd C dX4_readName_88 ?_
    refine c_putI C fl_4_41 fw_4_7 rfl (by decide) (okS _ 43 (by decide) rfl) dX4_readName_89 ?_
    refine v_aload_n C 0 dX4_readName_92 rfl rfl ?_
    refine v_aload_n C 0 dX4_readName_93 rfl rfl ?_
    refine c_getS C 38 fl_4_29 rfl rfl (by decide) (okS _ 43 (by decide) rfl) dX4_readName_94 ?_
    refine v_iload_n C 3 dX4_readName_97 rfl rfl ?_
    obtain ⟨q3, hq3, h⟩ := bd_of h
    refine c_call C [.int x3] [.ref (ad 43)] (c_Values_typeOfConstant hA _ _ hq3) hY_Values_typeOfConstant rfl (by decide) (okS _ 38 (by decide) rfl) ml_4_221 ⟨(by omega : 2 + 1 ≤ 345), (by omega : 8 + (2 + 11) + 45 ≤ 13726)⟩ ⟨Nat.zero_le _, Nat.zero_le _⟩ rfl rfl (Nat.le_of_ble_eq_true rfl) dX4_readName_98 (wc_D hA cy _) ?_
    refine v_aload_n C 0 dX4_readName_101 rfl rfl ?_
    refine c_getS C 38 fl_4_29 rfl rfl (by decide) (okS _ 43 (by decide) rfl) dX4_readName_102 ?_
    refine v_iload_n C 3 dX4_readName_105 rfl rfl ?_
    obtain ⟨q4, hq4, h⟩ := bd_of h
    refine c_call C [.int x3] [.int q3.1, .ref (ad 43)] (c_Values_constantOf hA _ _ hq4) hY_Values_constantOf rfl (by decide) (okS _ 38 (by decide) rfl) ml_4_224 ⟨(by omega : 1 + 1 ≤ 345), (by omega : 8 + (2 + 11) + 23 ≤ 13726)⟩ ⟨Nat.zero_le _, Nat.zero_le _⟩ rfl rfl (Nat.le_of_ble_eq_true rfl) dX4_readName_106 (wc_D hA cy _) ?_
    refine v_iload_n C 1 dX4_readName_109 rfl rfl ?_
    refine v_iload_n C 2 dX4_readName_110 rfl rfl ?_
    obtain ⟨q5, hq5, h⟩ := bd_of h
    refine c_call C [.int q3.1, .int q4.1, .int x1, .int x2] [] (c_Reader_settle hA _ _ _ _ _ hq5) hY_Reader_settle rfl (by decide) (okS _ 43 (by decide) rfl) ml_4_215 ⟨(by omega : 344 + 1 ≤ 345), (by omega : 8 + (7 + 11) + 13700 ≤ 13726)⟩ ⟨Nat.zero_le _, Nat.zero_le _⟩ rfl rfl (Nat.le_of_ble_eq_true rfl) dX4_readName_111 (wc_D hA cy _) ?_
    obtain rfl := Option.some.inj h
    exact v_iret C dX4_readName_114
set_option maxHeartbeats 4000000 in
set_option maxRecDepth 20000 in
theorem c_Reader_readName {l : Launch} {D : va_G} {cy : Nat → ClassId} {ad : Nat → Nat} {q : Int32 × CS} (hA : adOK ad) (x1 : Int32) (σ : CS) (h : f_Reader_readName x1 σ = some q) : MV l D (cyT cy) (inC ad) yX4_readName cX4_readName 6 (some .int) (345) (13726) 0 0 [.ref (ad 43), .int x1] (wc cy ad σ) (some (.int q.1)) (wc cy ad q.2) := by
  refine MV.of (by decide) (wc_D hA cy σ) (Nat.le_of_ble_eq_true rfl) [(0, .ref (ad 43)), (1, .int x1)] rfl ?_
  intro p e s m args below meth c C
  rw [f_Reader_readName] at h
  refine v_aload_n C 0 dX4_readName_0 rfl rfl ?_
  refine c_getI C fl_4_41 rfl (okS _ 43 (by decide) rfl) dX4_readName_1 ?_
  refine v_istore_n C [(2, .int (σ.1 43 7)), (0, .ref (ad 43)), (1, .int x1)] dX4_readName_4 rfl (by decide) rfl ?_
  refine v_aload_n C 1 dX4_readName_5 rfl rfl ?_
  obtain ⟨q1, hq1, h⟩ := bd_of h
  refine c_call C [] [] (c_Reader_peek hA _ hq1) hY_Reader_peek rfl (by decide) (okS _ 43 (by decide) rfl) ml_4_98 ⟨(by omega : 0 + 1 ≤ 345), (by omega : 8 + (1 + 11) + 0 ≤ 13726)⟩ ⟨Nat.zero_le _, Nat.zero_le _⟩ rfl rfl (Nat.le_of_ble_eq_true rfl) dX4_readName_6 (wc_D hA cy _) ?_
  refine v_istore_n C [(3, .int q1.1), (2, .int (σ.1 43 7)), (0, .ref (ad 43)), (1, .int x1)] dX4_readName_9 rfl (by decide) rfl ?_
  refine v_iload_n C 0 dX4_readName_10 rfl rfl ?_
  refine v_bipush C 48 dX4_readName_11 (by decide) ?_
  refine v_isub C dX4_readName_13 ?_
  refine v_istore C [(4, .int (q1.1 - 48)), (3, .int q1.1), (2, .int (σ.1 43 7)), (0, .ref (ad 43)), (1, .int x1)] dX4_readName_14 (by decide) rfl ?_
  refine v_iload C 0 dX4_readName_16 rfl ?_
  refine v_if_lt C 71 dX4_readName_18 (by decide) (fun c1 => ?_) (fun c1 => ?_)
  · rw [if_pos c1] at h
    exact v_sub [3, 4, 2, 1] rfl ((b_Reader_readName_71 C hA) _ _ _ _ h)
  · rw [if_neg c1] at h
    refine v_iload C 0 dX4_readName_21 rfl ?_
    refine v_iload_n C 4 dX4_readName_23 rfl rfl ?_
    refine v_icmp_ge C 71 dX4_readName_24 (by decide) (fun c2 => ?_) (fun c2 => ?_)
    · rw [if_pos c2] at h
      exact v_sub [3, 4, 2, 1] rfl ((b_Reader_readName_71 C hA) _ _ _ _ h)
    · rw [if_neg c2] at h
      refine v_aload_n C 3 dX4_readName_27 rfl rfl ?_
      refine v_dup C dX4_readName_28 rfl ?_
      refine c_getI C fl_4_41 rfl (okS _ 43 (by decide) rfl) dX4_readName_29 ?_
      refine v_iconst C 1 dX4_readName_32 (by decide) ?_
      refine v_iadd C dX4_readName_33 ?_
      refine c_putI C fl_4_41 fw_4_7 rfl (by decide) (okS _ 43 (by decide) rfl) dX4_readName_34 ?_
      refine v_aload_n C 3 dX4_readName_37 rfl rfl ?_
      refine c_getS C 38 fl_4_29 rfl rfl (by decide) (okS _ 43 (by decide) rfl) dX4_readName_38 ?_
      refine v_aload_n C 3 dX4_readName_41 rfl rfl ?_
      refine v_iload_n C 4 dX4_readName_42 rfl rfl ?_
      obtain ⟨q2, hq2, h⟩ := bd_of h
      refine c_call C [.int x1] [.ref (ad 38)] (c_Reader_scope hA _ _ hq2) hY_Reader_scope rfl (by decide) (okS _ 43 (by decide) rfl) ml_4_142 ⟨(by omega : 0 + 1 ≤ 345), (by omega : 8 + (2 + 11) + 0 ≤ 13726)⟩ ⟨Nat.zero_le _, Nat.zero_le _⟩ rfl rfl (Nat.le_of_ble_eq_true rfl) dX4_readName_43 (wc_D hA cy _) ?_
      refine v_iload C 0 dX4_readName_46 rfl ?_
      obtain ⟨q3, hq3, h⟩ := bd_of h
      refine c_call C [.int q2.1, .int (q1.1 - 48)] [] (c_Values_variableIn hA _ _ _ hq3) hY_Values_variableIn rfl (by decide) (okS _ 38 (by decide) rfl) ml_4_209 ⟨(by omega : 1 + 1 ≤ 345), (by omega : 8 + (6 + 11) + 21 ≤ 13726)⟩ ⟨Nat.zero_le _, Nat.zero_le _⟩ rfl rfl (Nat.le_of_ble_eq_true rfl) dX4_readName_48 (wc_D hA cy _) ?_
      refine v_istore C [(5, .int q3.1), (4, .int (q1.1 - 48)), (3, .int q1.1), (2, .int (σ.1 43 7)), (0, .ref (ad 43)), (1, .int x1)] dX4_readName_51 (by decide) rfl ?_
      refine v_aload_n C 4 dX4_readName_53 rfl rfl ?_
      refine v_aload_n C 4 dX4_readName_54 rfl rfl ?_
      refine c_getS C 38 fl_4_29 rfl rfl (by decide) (okS _ 43 (by decide) rfl) dX4_readName_55 ?_
      refine v_iload C 1 dX4_readName_58 rfl ?_
      obtain ⟨q4, hq4, h⟩ := bd_of h
      refine c_call C [.int (q1.1 - 48)] [.ref (ad 43)] (c_Values_typeOfVariable hA _ _ hq4) hY_Values_typeOfVariable rfl (by decide) (okS _ 38 (by decide) rfl) ml_4_212 ⟨(by omega : 0 + 1 ≤ 345), (by omega : 8 + (2 + 11) + 0 ≤ 13726)⟩ ⟨Nat.zero_le _, Nat.zero_le _⟩ rfl rfl (Nat.le_of_ble_eq_true rfl) dX4_readName_60 (wc_D hA cy _) ?_
      refine v_iload C 0 dX4_readName_63 rfl ?_
      refine v_iload_n C 5 dX4_readName_65 rfl rfl ?_
      refine v_iload_n C 3 dX4_readName_66 rfl rfl ?_
      obtain ⟨q5, hq5, h⟩ := bd_of h
      refine c_call C [.int q4.1, .int q3.1, .int x1, .int (σ.1 43 7)] [] (c_Reader_settle hA _ _ _ _ _ hq5) hY_Reader_settle rfl (by decide) (okS _ 43 (by decide) rfl) ml_4_215 ⟨(by omega : 344 + 1 ≤ 345), (by omega : 8 + (7 + 11) + 13700 ≤ 13726)⟩ ⟨Nat.zero_le _, Nat.zero_le _⟩ rfl rfl (Nat.le_of_ble_eq_true rfl) dX4_readName_67 (wc_D hA cy _) ?_
      obtain rfl := Option.some.inj h
      exact v_iret C dX4_readName_70
