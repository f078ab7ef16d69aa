theorem dX11_count_0 : decode cX11_count 0 = .ok (.iload_n 1, 1) := by decide +kernel
theorem dX11_count_1 : decode cX11_count 1 = .ok (.tableswitch 69 0 5 #[39, 44, 49, 54, 59, 64], 39) := by decide +kernel
theorem dX11_count_40 : decode cX11_count 40 = .ok (.aload_n 0, 1) := by decide +kernel
theorem dX11_count_41 : decode cX11_count 41 = .ok (.getfield 268, 3) := by decide +kernel
theorem dX11_count_44 : decode cX11_count 44 = .ok (.ireturn, 1) := by decide +kernel
theorem dX11_count_45 : decode cX11_count 45 = .ok (.aload_n 0, 1) := by decide +kernel
theorem dX11_count_46 : decode cX11_count 46 = .ok (.getfield 313, 3) := by decide +kernel
theorem dX11_count_49 : decode cX11_count 49 = .ok (.ireturn, 1) := by decide +kernel
theorem dX11_count_50 : decode cX11_count 50 = .ok (.aload_n 0, 1) := by decide +kernel
theorem dX11_count_51 : decode cX11_count 51 = .ok (.getfield 364, 3) := by decide +kernel
theorem dX11_count_54 : decode cX11_count 54 = .ok (.ireturn, 1) := by decide +kernel
theorem dX11_count_55 : decode cX11_count 55 = .ok (.aload_n 0, 1) := by decide +kernel
theorem dX11_count_56 : decode cX11_count 56 = .ok (.getfield 404, 3) := by decide +kernel
theorem dX11_count_59 : decode cX11_count 59 = .ok (.ireturn, 1) := by decide +kernel
theorem dX11_count_60 : decode cX11_count 60 = .ok (.aload_n 0, 1) := by decide +kernel
theorem dX11_count_61 : decode cX11_count 61 = .ok (.getfield 216, 3) := by decide +kernel
theorem dX11_count_64 : decode cX11_count 64 = .ok (.ireturn, 1) := by decide +kernel
theorem dX11_count_65 : decode cX11_count 65 = .ok (.aload_n 0, 1) := by decide +kernel
theorem dX11_count_66 : decode cX11_count 66 = .ok (.getfield 407, 3) := by decide +kernel
theorem dX11_count_69 : decode cX11_count 69 = .ok (.ireturn, 1) := by decide +kernel
theorem dX11_count_70 : decode cX11_count 70 = .ok (.iconst (-1), 1) := by decide +kernel
theorem dX11_count_71 : decode cX11_count 71 = .ok (.ireturn, 1) := by decide +kernel
set_option maxHeartbeats 4000000 in
set_option maxRecDepth 20000 in
theorem c_count {l : Launch} {D : va_G} {cy : Nat → ClassId} {ad : Nat → Nat} {q : Int32 × MS} (hi : ∀ i j, i < 34 → j < 34 → ad i = ad j → i = j) (x1 : Int32) (σ : MS) (h : f_count x1 σ = some q) : MV l D (cyT cy) (inAd ad) yX11_count cX11_count 2 (some .int) 0 0 0 0 [.ref (ad 0), .int x1] (wm cy ad σ) (some (.int q.1)) (wm cy ad q.2) := by
  refine MV.of (by decide) (wm_inj hi cy σ) (Nat.le_of_ble_eq_true rfl) [(0, .ref (ad 0)), (1, .int x1)] rfl ?_
  intro p e s m args below meth c C
  rw [f_count] at h
  refine v_iload_n C 1 dX11_count_0 rfl rfl ?_
  by_cases c1 : x1 = 0
  · rw [if_pos c1] at h
    refine v_tableIn C 40 dX11_count_1 (by rw [c1]; decide) (by rw [c1]; decide) (by rw [c1]; try rfl) (by decide) ?_
    refine v_aload_n C 0 dX11_count_40 rfl rfl ?_
    refine n_getI C fl_268 dX11_count_41 ?_
    obtain rfl := Option.some.inj h
    exact v_iret C dX11_count_44
  rw [if_neg c1] at h
  by_cases c2 : x1 = 1
  · rw [if_pos c2] at h
    refine v_tableIn C 45 dX11_count_1 (by rw [c2]; decide) (by rw [c2]; decide) (by rw [c2]; try rfl) (by decide) ?_
    refine v_aload_n C 0 dX11_count_45 rfl rfl ?_
    refine n_getI C fl_313 dX11_count_46 ?_
    obtain rfl := Option.some.inj h
    exact v_iret C dX11_count_49
  rw [if_neg c2] at h
  by_cases c3 : x1 = 2
  · rw [if_pos c3] at h
    refine v_tableIn C 50 dX11_count_1 (by rw [c3]; decide) (by rw [c3]; decide) (by rw [c3]; try rfl) (by decide) ?_
    refine v_aload_n C 0 dX11_count_50 rfl rfl ?_
    refine n_getI C fl_364 dX11_count_51 ?_
    obtain rfl := Option.some.inj h
    exact v_iret C dX11_count_54
  rw [if_neg c3] at h
  by_cases c4 : x1 = 3
  · rw [if_pos c4] at h
    refine v_tableIn C 55 dX11_count_1 (by rw [c4]; decide) (by rw [c4]; decide) (by rw [c4]; try rfl) (by decide) ?_
    refine v_aload_n C 0 dX11_count_55 rfl rfl ?_
    refine n_getI C fl_404 dX11_count_56 ?_
    obtain rfl := Option.some.inj h
    exact v_iret C dX11_count_59
  rw [if_neg c4] at h
  by_cases c5 : x1 = 4
  · rw [if_pos c5] at h
    refine v_tableIn C 60 dX11_count_1 (by rw [c5]; decide) (by rw [c5]; decide) (by rw [c5]; try rfl) (by decide) ?_
    refine v_aload_n C 0 dX11_count_60 rfl rfl ?_
    refine n_getI C fl_216 dX11_count_61 ?_
    obtain rfl := Option.some.inj h
    exact v_iret C dX11_count_64
  rw [if_neg c5] at h
  by_cases c6 : x1 = 5
  · rw [if_pos c6] at h
    refine v_tableIn C 65 dX11_count_1 (by rw [c6]; decide) (by rw [c6]; decide) (by rw [c6]; try rfl) (by decide) ?_
    refine v_aload_n C 0 dX11_count_65 rfl rfl ?_
    refine n_getI C fl_407 dX11_count_66 ?_
    obtain rfl := Option.some.inj h
    exact v_iret C dX11_count_69
  rw [if_neg c6] at h
  refine v_tableOut C 70 dX11_count_1 (sw_out 5 (by decide) (fun i hi9 => by have k0 := lv_neT c1 (show (0 : Int32).toInt = 0 from by decide); have k1 := lv_neT c2 (show (1 : Int32).toInt = 1 from by decide); have k2 := lv_neT c3 (show (2 : Int32).toInt = 2 from by decide); have k3 := lv_neT c4 (show (3 : Int32).toInt = 3 from by decide); have k4 := lv_neT c5 (show (4 : Int32).toInt = 4 from by decide); have k5 := lv_neT c6 (show (5 : Int32).toInt = 5 from by decide); omega)) (by decide) ?_
  refine v_iconst C (-1) dX11_count_70 (by decide) ?_
  obtain rfl := Option.some.inj h
  exact v_iret C dX11_count_71
