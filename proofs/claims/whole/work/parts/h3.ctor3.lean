set_option maxHeartbeats 4000000 in
set_option maxRecDepth 20000 in
theorem cd_Shelf {l : Launch} {D : va_G} {cy : Nat → ClassId} {ad : Nat → Nat} (hA : adC ad) (t : Nat) (σ : CS) (ho : okd (nwD σ 15 6) t 5 = true) : MVD l D cy ad yX5_init cX5_init 1 none 1 20 1 6 [.ref (ad t)] σ none (kShelf t σ) := by
  refine MVD.of (by decide) (wd_D hA cy σ) (Nat.le_of_ble_eq_true rfl) [(0, .ref (ad t))] rfl ?_
  intro p e s m args below meth c C hz hnm
  refine v_aload_n C 0 dX5_init_0 rfl rfl ?_
  refine rd_obj C oi_5_3 oi_1 oi_2 (Nat.le_of_ble_eq_true rfl) (Nat.le_of_ble_eq_true rfl) dX5_init_1 ?_
  refine v_aload_n C 0 dX5_init_4 rfl rfl ?_
  refine v_bipush C 6 dX5_init_5 (by decide) ?_
  refine rd_newr (σ := σ) C hA hz (n0 := ndC σ) (Nat.add_zero _).symm (K := 15) (n := 6) (by decide) rfl cl_5_9 ao_0 (by decide) (N := 6) (by decide) (by decide) (Nat.le_of_ble_eq_true rfl) (Nat.le_of_ble_eq_true rfl) dX5_init_7 (jn := ndC σ) rfl ?_
  refine rd_putF (σ := nwD σ 15 6) C hnm (some (ndC σ)) fl_5_11 ⟨_, _, rfl⟩ ff_5_0 rfl rfl ho dX5_init_10 ?_
  exact rd_vret (σ := kShelf t σ) C hA hz (n0 := ndC σ) (show ndC σ + 1 = ndC σ + (0 + 1) from rfl) (Nat.le_of_ble_eq_true rfl) (Nat.le_of_ble_eq_true rfl) dX5_init_13
set_option maxHeartbeats 4000000 in
set_option maxRecDepth 20000 in
theorem cd_3 {l : Launch} {D : va_G} {cy : Nat → ClassId} {ad : Nat → Nat} (hA : adC ad) : MVD l D cy ad yX3_init cX3_init 1 none 1 20 2 7 [.ref (ad 2)] js4 none js8 := by
  refine MVD.of (by decide) (wd_D hA cy _) (Nat.le_of_ble_eq_true rfl) [(0, .ref (ad 2))] rfl ?_
  intro p e s m args below meth c C hz hnm
  replace hz : s.heap.size = ad 3 := hz.trans (congrArg ad (show ndC js4 = 3 from by decide +kernel))
  refine v_aload_n C 0 dX3_init_0 rfl rfl ?_
  refine rd_obj C oi_3_3 oi_1 oi_2 (Nat.le_of_ble_eq_true rfl) (Nat.le_of_ble_eq_true rfl) dX3_init_1 ?_
  refine v_aload_n C 0 dX3_init_4 rfl rfl ?_
  refine v_iconst C 3 dX3_init_5 (by decide) ?_
  refine rd_newr (σ := js4) C hA hz (n0 := 3) (by decide +kernel) (K := 16) (n := 3) (by decide) rfl cl_3_9 ao_1 (by decide) (N := 3) (by decide) (by decide) (Nat.le_of_ble_eq_true rfl) (Nat.le_of_ble_eq_true rfl) dX3_init_6 (jn := 3) (by decide +kernel) ?_
  refine rd_putF (σ := js5) C hnm (some 3) fl_3_11 ⟨_, _, rfl⟩ ff_3_0 rfl rfl (by decide +kernel) dX3_init_9 ?_
  refine v_aload_n C 0 dX3_init_12 rfl rfl ?_
  refine v_iconst C 4 dX3_init_13 (by decide) ?_
  refine rd_newr (σ := js6) C hA hz (n0 := 3) (by decide +kernel) (K := 16) (n := 4) (by decide) rfl cl_3_9 ao_1 (by decide) (N := 4) (by decide) (by decide) (Nat.le_of_ble_eq_true rfl) (Nat.le_of_ble_eq_true rfl) dX3_init_14 (jn := 4) (by decide +kernel) ?_
  refine rd_putF (σ := js7) C hnm (some 4) fl_3_17 ⟨_, _, rfl⟩ ff_3_1 rfl rfl (by decide +kernel) dX3_init_17 ?_
  exact rd_vret (σ := js8) C hA hz (n0 := 3) (by decide +kernel) (Nat.le_of_ble_eq_true rfl) (Nat.le_of_ble_eq_true rfl) dX3_init_20
set_option maxHeartbeats 4000000 in
set_option maxRecDepth 20000 in
theorem cd_2 {l : Launch} {D : va_G} {cy : Nat → ClassId} {ad : Nat → Nat} (hA : adC ad) : MVD l D cy ad yX2_init cX2_init 2 none 2 40 17 72 [.ref (ad 7)] js13 none js39 := by
  refine MVD.of (by decide) (wd_D hA cy _) (Nat.le_of_ble_eq_true rfl) [(0, .ref (ad 7))] rfl ?_
  intro p e s m args below meth c C hz hnm
  replace hz : s.heap.size = ad 8 := hz.trans (congrArg ad (show ndC js13 = 8 from by decide +kernel))
  refine v_aload_n C 0 dX2_init_0 rfl rfl ?_
  refine rd_obj C oi_2_3 oi_1 oi_2 (Nat.le_of_ble_eq_true rfl) (Nat.le_of_ble_eq_true rfl) dX2_init_1 ?_
  refine v_aload_n C 0 dX2_init_4 rfl rfl ?_
  refine v_bipush C 8 dX2_init_5 (by decide) ?_
  refine rd_newr (σ := js13) C hA hz (n0 := 8) (by decide +kernel) (K := 17) (n := 8) (by decide) rfl cl_2_9 ao_5 (by decide) (N := 8) (by decide) (by decide) (Nat.le_of_ble_eq_true rfl) (Nat.le_of_ble_eq_true rfl) dX2_init_7 (jn := 8) (by decide +kernel) ?_
  refine rd_putF (σ := js14) C hnm (some 8) fl_2_11 ⟨_, _, rfl⟩ ff_2_0 rfl rfl (by decide +kernel) dX2_init_10 ?_
  refine v_iconst C 0 dX2_init_13 (by decide) ?_
  refine v_istore_n C [(1, .int 0), (0, .ref (ad 7))] dX2_init_14 rfl (by decide) rfl ?_
  refine v_iload_n C 0 dX2_init_15 rfl rfl ?_
  refine v_bipush C 8 dX2_init_16 (by decide) ?_
  refine v_icmp_ge C 40 dX2_init_18 (by decide) (fun c1 => absurd (show (8 : Int32) ≤ 0 from c1) (by decide)) (fun _ => ?_)
  refine v_aload_n C 1 dX2_init_21 rfl rfl ?_
  refine rd_getR (σ := js15) C (some 8) fl_2_11 rfl (by decide +kernel) (by decide +kernel) dX2_init_22 ?_
  refine v_iload_n C 0 dX2_init_25 rfl rfl ?_
  refine rd_new (σ := js15) C hA hz (n0 := 8) (by decide +kernel) (ci := 5) rfl (by decide) rfl ixX5 tyX5_ok df_5 cl_2_9 in_5 ini_5 (Nat.le_of_ble_eq_true rfl) (Nat.le_of_ble_eq_true rfl) dX2_init_26 (jn := 9) (by decide +kernel) ?_
  refine v_dup C dX2_init_29 rfl ?_
  refine rd_initN (σ := js16) (σ' := js17) C hA hz (n0 := 8) (by decide +kernel) [] [.ref (ad 9), .int 0, .ref (ad 8)] (cd_Shelf hA 9 js16 (by decide +kernel)) (kc' := 3) (by decide +kernel) hYI_5 ml_2_17 ⟨(Nat.le_of_ble_eq_true rfl), (Nat.le_of_ble_eq_true rfl)⟩ ⟨(Nat.le_of_ble_eq_true rfl), (Nat.le_of_ble_eq_true rfl)⟩ rfl rfl (Nat.le_of_ble_eq_true rfl) dX2_init_30 ?_
  refine rd_aast (σ := js17) C (q := (RX5, TX5, 2)) (ci := 5) (by decide +kernel) (K := 17) (by decide) rfl rfl (by decide) (by decide +kernel) (ix_in (by decide +kernel)) dX2_init_33 ?_
  refine v_iinc C 1 0 [(1, .int 1), (0, .ref (ad 7))] dX2_init_34 rfl (by decide) (by decide) rfl ?_
  refine v_goto C 15 dX2_init_37 (by decide) ?_
  refine v_iload_n C 0 dX2_init_15 rfl rfl ?_
  refine v_bipush C 8 dX2_init_16 (by decide) ?_
  refine v_icmp_ge C 40 dX2_init_18 (by decide) (fun c1 => absurd (show (8 : Int32) ≤ 1 from c1) (by decide)) (fun _ => ?_)
  refine v_aload_n C 1 dX2_init_21 rfl rfl ?_
  refine rd_getR (σ := js18) C (some 8) fl_2_11 rfl (by decide +kernel) (by decide +kernel) dX2_init_22 ?_
  refine v_iload_n C 0 dX2_init_25 rfl rfl ?_
  refine rd_new (σ := js18) C hA hz (n0 := 8) (by decide +kernel) (ci := 5) rfl (by decide) rfl ixX5 tyX5_ok df_5 cl_2_9 in_5 ini_5 (Nat.le_of_ble_eq_true rfl) (Nat.le_of_ble_eq_true rfl) dX2_init_26 (jn := 11) (by decide +kernel) ?_
  refine v_dup C dX2_init_29 rfl ?_
  refine rd_initN (σ := js19) (σ' := js20) C hA hz (n0 := 8) (by decide +kernel) [] [.ref (ad 11), .int 1, .ref (ad 8)] (cd_Shelf hA 11 js19 (by decide +kernel)) (kc' := 5) (by decide +kernel) hYI_5 ml_2_17 ⟨(Nat.le_of_ble_eq_true rfl), (Nat.le_of_ble_eq_true rfl)⟩ ⟨(Nat.le_of_ble_eq_true rfl), (Nat.le_of_ble_eq_true rfl)⟩ rfl rfl (Nat.le_of_ble_eq_true rfl) dX2_init_30 ?_
  refine rd_aast (σ := js20) C (q := (RX5, TX5, 2)) (ci := 5) (by decide +kernel) (K := 17) (by decide) rfl rfl (by decide) (by decide +kernel) (ix_in (by decide +kernel)) dX2_init_33 ?_
  refine v_iinc C 2 0 [(1, .int 2), (0, .ref (ad 7))] dX2_init_34 rfl (by decide) (by decide) rfl ?_
  refine v_goto C 15 dX2_init_37 (by decide) ?_
  refine v_iload_n C 0 dX2_init_15 rfl rfl ?_
  refine v_bipush C 8 dX2_init_16 (by decide) ?_
  refine v_icmp_ge C 40 dX2_init_18 (by decide) (fun c1 => absurd (show (8 : Int32) ≤ 2 from c1) (by decide)) (fun _ => ?_)
  refine v_aload_n C 1 dX2_init_21 rfl rfl ?_
  refine rd_getR (σ := js21) C (some 8) fl_2_11 rfl (by decide +kernel) (by decide +kernel) dX2_init_22 ?_
  refine v_iload_n C 0 dX2_init_25 rfl rfl ?_
  refine rd_new (σ := js21) C hA hz (n0 := 8) (by decide +kernel) (ci := 5) rfl (by decide) rfl ixX5 tyX5_ok df_5 cl_2_9 in_5 ini_5 (Nat.le_of_ble_eq_true rfl) (Nat.le_of_ble_eq_true rfl) dX2_init_26 (jn := 13) (by decide +kernel) ?_
  refine v_dup C dX2_init_29 rfl ?_
  refine rd_initN (σ := js22) (σ' := js23) C hA hz (n0 := 8) (by decide +kernel) [] [.ref (ad 13), .int 2, .ref (ad 8)] (cd_Shelf hA 13 js22 (by decide +kernel)) (kc' := 7) (by decide +kernel) hYI_5 ml_2_17 ⟨(Nat.le_of_ble_eq_true rfl), (Nat.le_of_ble_eq_true rfl)⟩ ⟨(Nat.le_of_ble_eq_true rfl), (Nat.le_of_ble_eq_true rfl)⟩ rfl rfl (Nat.le_of_ble_eq_true rfl) dX2_init_30 ?_
  refine rd_aast (σ := js23) C (q := (RX5, TX5, 2)) (ci := 5) (by decide +kernel) (K := 17) (by decide) rfl rfl (by decide) (by decide +kernel) (ix_in (by decide +kernel)) dX2_init_33 ?_
  refine v_iinc C 3 0 [(1, .int 3), (0, .ref (ad 7))] dX2_init_34 rfl (by decide) (by decide) rfl ?_
  refine v_goto C 15 dX2_init_37 (by decide) ?_
  refine v_iload_n C 0 dX2_init_15 rfl rfl ?_
  refine v_bipush C 8 dX2_init_16 (by decide) ?_
  refine v_icmp_ge C 40 dX2_init_18 (by decide) (fun c1 => absurd (show (8 : Int32) ≤ 3 from c1) (by decide)) (fun _ => ?_)
  refine v_aload_n C 1 dX2_init_21 rfl rfl ?_
  refine rd_getR (σ := js24) C (some 8) fl_2_11 rfl (by decide +kernel) (by decide +kernel) dX2_init_22 ?_
  refine v_iload_n C 0 dX2_init_25 rfl rfl ?_
  refine rd_new (σ := js24) C hA hz (n0 := 8) (by decide +kernel) (ci := 5) rfl (by decide) rfl ixX5 tyX5_ok df_5 cl_2_9 in_5 ini_5 (Nat.le_of_ble_eq_true rfl) (Nat.le_of_ble_eq_true rfl) dX2_init_26 (jn := 15) (by decide +kernel) ?_
  refine v_dup C dX2_init_29 rfl ?_
  refine rd_initN (σ := js25) (σ' := js26) C hA hz (n0 := 8) (by decide +kernel) [] [.ref (ad 15), .int 3, .ref (ad 8)] (cd_Shelf hA 15 js25 (by decide +kernel)) (kc' := 9) (by decide +kernel) hYI_5 ml_2_17 ⟨(Nat.le_of_ble_eq_true rfl), (Nat.le_of_ble_eq_true rfl)⟩ ⟨(Nat.le_of_ble_eq_true rfl), (Nat.le_of_ble_eq_true rfl)⟩ rfl rfl (Nat.le_of_ble_eq_true rfl) dX2_init_30 ?_
  refine rd_aast (σ := js26) C (q := (RX5, TX5, 2)) (ci := 5) (by decide +kernel) (K := 17) (by decide) rfl rfl (by decide) (by decide +kernel) (ix_in (by decide +kernel)) dX2_init_33 ?_
  refine v_iinc C 4 0 [(1, .int 4), (0, .ref (ad 7))] dX2_init_34 rfl (by decide) (by decide) rfl ?_
  refine v_goto C 15 dX2_init_37 (by decide) ?_
  refine v_iload_n C 0 dX2_init_15 rfl rfl ?_
  refine v_bipush C 8 dX2_init_16 (by decide) ?_
  refine v_icmp_ge C 40 dX2_init_18 (by decide) (fun c1 => absurd (show (8 : Int32) ≤ 4 from c1) (by decide)) (fun _ => ?_)
  refine v_aload_n C 1 dX2_init_21 rfl rfl ?_
  refine rd_getR (σ := js27) C (some 8) fl_2_11 rfl (by decide +kernel) (by decide +kernel) dX2_init_22 ?_
  refine v_iload_n C 0 dX2_init_25 rfl rfl ?_
  refine rd_new (σ := js27) C hA hz (n0 := 8) (by decide +kernel) (ci := 5) rfl (by decide) rfl ixX5 tyX5_ok df_5 cl_2_9 in_5 ini_5 (Nat.le_of_ble_eq_true rfl) (Nat.le_of_ble_eq_true rfl) dX2_init_26 (jn := 17) (by decide +kernel) ?_
  refine v_dup C dX2_init_29 rfl ?_
  refine rd_initN (σ := js28) (σ' := js29) C hA hz (n0 := 8) (by decide +kernel) [] [.ref (ad 17), .int 4, .ref (ad 8)] (cd_Shelf hA 17 js28 (by decide +kernel)) (kc' := 11) (by decide +kernel) hYI_5 ml_2_17 ⟨(Nat.le_of_ble_eq_true rfl), (Nat.le_of_ble_eq_true rfl)⟩ ⟨(Nat.le_of_ble_eq_true rfl), (Nat.le_of_ble_eq_true rfl)⟩ rfl rfl (Nat.le_of_ble_eq_true rfl) dX2_init_30 ?_
  refine rd_aast (σ := js29) C (q := (RX5, TX5, 2)) (ci := 5) (by decide +kernel) (K := 17) (by decide) rfl rfl (by decide) (by decide +kernel) (ix_in (by decide +kernel)) dX2_init_33 ?_
  refine v_iinc C 5 0 [(1, .int 5), (0, .ref (ad 7))] dX2_init_34 rfl (by decide) (by decide) rfl ?_
  refine v_goto C 15 dX2_init_37 (by decide) ?_
  refine v_iload_n C 0 dX2_init_15 rfl rfl ?_
  refine v_bipush C 8 dX2_init_16 (by decide) ?_
  refine v_icmp_ge C 40 dX2_init_18 (by decide) (fun c1 => absurd (show (8 : Int32) ≤ 5 from c1) (by decide)) (fun _ => ?_)
  refine v_aload_n C 1 dX2_init_21 rfl rfl ?_
  refine rd_getR (σ := js30) C (some 8) fl_2_11 rfl (by decide +kernel) (by decide +kernel) dX2_init_22 ?_
  refine v_iload_n C 0 dX2_init_25 rfl rfl ?_
  refine rd_new (σ := js30) C hA hz (n0 := 8) (by decide +kernel) (ci := 5) rfl (by decide) rfl ixX5 tyX5_ok df_5 cl_2_9 in_5 ini_5 (Nat.le_of_ble_eq_true rfl) (Nat.le_of_ble_eq_true rfl) dX2_init_26 (jn := 19) (by decide +kernel) ?_
  refine v_dup C dX2_init_29 rfl ?_
  refine rd_initN (σ := js31) (σ' := js32) C hA hz (n0 := 8) (by decide +kernel) [] [.ref (ad 19), .int 5, .ref (ad 8)] (cd_Shelf hA 19 js31 (by decide +kernel)) (kc' := 13) (by decide +kernel) hYI_5 ml_2_17 ⟨(Nat.le_of_ble_eq_true rfl), (Nat.le_of_ble_eq_true rfl)⟩ ⟨(Nat.le_of_ble_eq_true rfl), (Nat.le_of_ble_eq_true rfl)⟩ rfl rfl (Nat.le_of_ble_eq_true rfl) dX2_init_30 ?_
  refine rd_aast (σ := js32) C (q := (RX5, TX5, 2)) (ci := 5) (by decide +kernel) (K := 17) (by decide) rfl rfl (by decide) (by decide +kernel) (ix_in (by decide +kernel)) dX2_init_33 ?_
  refine v_iinc C 6 0 [(1, .int 6), (0, .ref (ad 7))] dX2_init_34 rfl (by decide) (by decide) rfl ?_
  refine v_goto C 15 dX2_init_37 (by decide) ?_
  refine v_iload_n C 0 dX2_init_15 rfl rfl ?_
  refine v_bipush C 8 dX2_init_16 (by decide) ?_
  refine v_icmp_ge C 40 dX2_init_18 (by decide) (fun c1 => absurd (show (8 : Int32) ≤ 6 from c1) (by decide)) (fun _ => ?_)
  refine v_aload_n C 1 dX2_init_21 rfl rfl ?_
  refine rd_getR (σ := js33) C (some 8) fl_2_11 rfl (by decide +kernel) (by decide +kernel) dX2_init_22 ?_
  refine v_iload_n C 0 dX2_init_25 rfl rfl ?_
  refine rd_new (σ := js33) C hA hz (n0 := 8) (by decide +kernel) (ci := 5) rfl (by decide) rfl ixX5 tyX5_ok df_5 cl_2_9 in_5 ini_5 (Nat.le_of_ble_eq_true rfl) (Nat.le_of_ble_eq_true rfl) dX2_init_26 (jn := 21) (by decide +kernel) ?_
  refine v_dup C dX2_init_29 rfl ?_
  refine rd_initN (σ := js34) (σ' := js35) C hA hz (n0 := 8) (by decide +kernel) [] [.ref (ad 21), .int 6, .ref (ad 8)] (cd_Shelf hA 21 js34 (by decide +kernel)) (kc' := 15) (by decide +kernel) hYI_5 ml_2_17 ⟨(Nat.le_of_ble_eq_true rfl), (Nat.le_of_ble_eq_true rfl)⟩ ⟨(Nat.le_of_ble_eq_true rfl), (Nat.le_of_ble_eq_true rfl)⟩ rfl rfl (Nat.le_of_ble_eq_true rfl) dX2_init_30 ?_
  refine rd_aast (σ := js35) C (q := (RX5, TX5, 2)) (ci := 5) (by decide +kernel) (K := 17) (by decide) rfl rfl (by decide) (by decide +kernel) (ix_in (by decide +kernel)) dX2_init_33 ?_
  refine v_iinc C 7 0 [(1, .int 7), (0, .ref (ad 7))] dX2_init_34 rfl (by decide) (by decide) rfl ?_
  refine v_goto C 15 dX2_init_37 (by decide) ?_
  refine v_iload_n C 0 dX2_init_15 rfl rfl ?_
  refine v_bipush C 8 dX2_init_16 (by decide) ?_
  refine v_icmp_ge C 40 dX2_init_18 (by decide) (fun c1 => absurd (show (8 : Int32) ≤ 7 from c1) (by decide)) (fun _ => ?_)
  refine v_aload_n C 1 dX2_init_21 rfl rfl ?_
  refine rd_getR (σ := js36) C (some 8) fl_2_11 rfl (by decide +kernel) (by decide +kernel) dX2_init_22 ?_
  refine v_iload_n C 0 dX2_init_25 rfl rfl ?_
  refine rd_new (σ := js36) C hA hz (n0 := 8) (by decide +kernel) (ci := 5) rfl (by decide) rfl ixX5 tyX5_ok df_5 cl_2_9 in_5 ini_5 (Nat.le_of_ble_eq_true rfl) (Nat.le_of_ble_eq_true rfl) dX2_init_26 (jn := 23) (by decide +kernel) ?_
  refine v_dup C dX2_init_29 rfl ?_
  refine rd_initN (σ := js37) (σ' := js38) C hA hz (n0 := 8) (by decide +kernel) [] [.ref (ad 23), .int 7, .ref (ad 8)] (cd_Shelf hA 23 js37 (by decide +kernel)) (kc' := 17) (by decide +kernel) hYI_5 ml_2_17 ⟨(Nat.le_of_ble_eq_true rfl), (Nat.le_of_ble_eq_true rfl)⟩ ⟨(Nat.le_of_ble_eq_true rfl), (Nat.le_of_ble_eq_true rfl)⟩ rfl rfl (Nat.le_of_ble_eq_true rfl) dX2_init_30 ?_
  refine rd_aast (σ := js38) C (q := (RX5, TX5, 2)) (ci := 5) (by decide +kernel) (K := 17) (by decide) rfl rfl (by decide) (by decide +kernel) (ix_in (by decide +kernel)) dX2_init_33 ?_
  refine v_iinc C 8 0 [(1, .int 8), (0, .ref (ad 7))] dX2_init_34 rfl (by decide) (by decide) rfl ?_
  refine v_goto C 15 dX2_init_37 (by decide) ?_
  refine v_iload_n C 0 dX2_init_15 rfl rfl ?_
  refine v_bipush C 8 dX2_init_16 (by decide) ?_
  refine v_icmp_ge C 40 dX2_init_18 (by decide) (fun _ => ?_) (fun c1 => absurd (show (8 : Int32) ≤ 8 from by decide) c1)
  exact rd_vret (σ := js39) C hA hz (n0 := 8) (by decide +kernel) (Nat.le_of_ble_eq_true rfl) (Nat.le_of_ble_eq_true rfl) dX2_init_40
set_option maxHeartbeats 4000000 in
set_option maxRecDepth 20000 in
theorem cd_6 {l : Launch} {D : va_G} {cy : Nat → ClassId} {ad : Nat → Nat} (hA : adC ad) : MVD l D cy ad yX6_init cX6_init 1 none 1 20 2 8 [.ref (ad 25)] js41 none js45 := by
  refine MVD.of (by decide) (wd_D hA cy _) (Nat.le_of_ble_eq_true rfl) [(0, .ref (ad 25))] rfl ?_
  intro p e s m args below meth c C hz hnm
  replace hz : s.heap.size = ad 26 := hz.trans (congrArg ad (show ndC js41 = 26 from by decide +kernel))
  refine v_aload_n C 0 dX6_init_0 rfl rfl ?_
  refine rd_obj C oi_6_3 oi_1 oi_2 (Nat.le_of_ble_eq_true rfl) (Nat.le_of_ble_eq_true rfl) dX6_init_1 ?_
  refine v_aload_n C 0 dX6_init_4 rfl rfl ?_
  refine v_iconst C 4 dX6_init_5 (by decide) ?_
  refine rd_newr (σ := js41) C hA hz (n0 := 26) (by decide +kernel) (K := 15) (n := 4) (by decide) rfl cl_6_9 ao_0 (by decide) (N := 4) (by decide) (by decide) (Nat.le_of_ble_eq_true rfl) (Nat.le_of_ble_eq_true rfl) dX6_init_6 (jn := 26) (by decide +kernel) ?_
  refine rd_putF (σ := js42) C hnm (some 26) fl_6_11 ⟨_, _, rfl⟩ ff_6_0 rfl rfl (by decide +kernel) dX6_init_9 ?_
  refine v_aload_n C 0 dX6_init_12 rfl rfl ?_
  refine v_iconst C 4 dX6_init_13 (by decide) ?_
  refine rd_newi (σ := js43) C hA hz (n0 := 26) (by decide +kernel) (n := 4) ja_int (by decide) (N := 4) (by decide) (by decide) (Nat.le_of_ble_eq_true rfl) (Nat.le_of_ble_eq_true rfl) dX6_init_14 (jn := 27) (by decide +kernel) ?_
  refine rd_putF (σ := js44) C hnm (some 27) fl_6_17 ⟨_, _, rfl⟩ ff_6_1 rfl rfl (by decide +kernel) dX6_init_16 ?_
  exact rd_vret (σ := js45) C hA hz (n0 := 26) (by decide +kernel) (Nat.le_of_ble_eq_true rfl) (Nat.le_of_ble_eq_true rfl) dX6_init_19
set_option maxHeartbeats 4000000 in
set_option maxRecDepth 20000 in
theorem cd_7 {l : Launch} {D : va_G} {cy : Nat → ClassId} {ad : Nat → Nat} (hA : adC ad) : MVD l D cy ad yX7_init cX7_init 1 none 1 20 3 3607 [.ref (ad 34)] js57 none js63 := by
  refine MVD.of (by decide) (wd_D hA cy _) (Nat.le_of_ble_eq_true rfl) [(0, .ref (ad 34))] rfl ?_
  intro p e s m args below meth c C hz hnm
  replace hz : s.heap.size = ad 35 := hz.trans (congrArg ad (show ndC js57 = 35 from by decide +kernel))
  refine v_aload_n C 0 dX7_init_0 rfl rfl ?_
  refine rd_obj C oi_7_3 oi_1 oi_2 (Nat.le_of_ble_eq_true rfl) (Nat.le_of_ble_eq_true rfl) dX7_init_1 ?_
  refine v_aload_n C 0 dX7_init_4 rfl rfl ?_
  refine v_sipush C 3600 dX7_init_5 (by decide) ?_
  refine rd_newi (σ := js57) C hA hz (n0 := 35) (by decide +kernel) (n := 3600) ja_int (by decide) (N := 3600) (by decide) (by decide) (Nat.le_of_ble_eq_true rfl) (Nat.le_of_ble_eq_true rfl) dX7_init_8 (jn := 35) (by decide +kernel) ?_
  refine rd_putF (σ := js58) C hnm (some 35) fl_7_11 ⟨_, _, rfl⟩ ff_7_0 rfl rfl (by decide +kernel) dX7_init_10 ?_
  refine v_aload_n C 0 dX7_init_13 rfl rfl ?_
  refine v_iconst C 3 dX7_init_14 (by decide) ?_
  refine rd_newi (σ := js59) C hA hz (n0 := 35) (by decide +kernel) (n := 3) ja_int (by decide) (N := 3) (by decide) (by decide) (Nat.le_of_ble_eq_true rfl) (Nat.le_of_ble_eq_true rfl) dX7_init_15 (jn := 36) (by decide +kernel) ?_
  refine rd_putF (σ := js60) C hnm (some 36) fl_7_15 ⟨_, _, rfl⟩ ff_7_2 rfl rfl (by decide +kernel) dX7_init_17 ?_
  refine v_aload_n C 0 dX7_init_20 rfl rfl ?_
  refine v_iconst C 4 dX7_init_21 (by decide) ?_
  refine rd_newi (σ := js61) C hA hz (n0 := 35) (by decide +kernel) (n := 4) ja_int (by decide) (N := 4) (by decide) (by decide) (Nat.le_of_ble_eq_true rfl) (Nat.le_of_ble_eq_true rfl) dX7_init_22 (jn := 37) (by decide +kernel) ?_
  refine rd_putF (σ := js62) C hnm (some 37) fl_7_18 ⟨_, _, rfl⟩ ff_7_4 rfl rfl (by decide +kernel) dX7_init_24 ?_
  exact rd_vret (σ := js63) C hA hz (n0 := 35) (by decide +kernel) (Nat.le_of_ble_eq_true rfl) (Nat.le_of_ble_eq_true rfl) dX7_init_27
set_option maxHeartbeats 4000000 in
set_option maxRecDepth 20000 in
theorem cd_8 {l : Launch} {D : va_G} {cy : Nat → ClassId} {ad : Nat → Nat} (hA : adC ad) : MVD l D cy ad yX8_init cX8_init 2 none 1 20 4 9226 [.ref (ad 38), .ref (ad 34)] js64 none js74 := by
  refine MVD.of (by decide) (wd_D hA cy _) (Nat.le_of_ble_eq_true rfl) [(0, .ref (ad 38)), (1, .ref (ad 34))] rfl ?_
  intro p e s m args below meth c C hz hnm
  replace hz : s.heap.size = ad 39 := hz.trans (congrArg ad (show ndC js64 = 39 from by decide +kernel))
  refine v_aload_n C 0 dX8_init_0 rfl rfl ?_
  refine rd_obj C oi_8_3 oi_1 oi_2 (Nat.le_of_ble_eq_true rfl) (Nat.le_of_ble_eq_true rfl) dX8_init_1 ?_
  refine v_aload_n C 0 dX8_init_4 rfl rfl ?_
  refine v_sipush C 3072 dX8_init_5 (by decide) ?_
  refine rd_newi (σ := js64) C hA hz (n0 := 39) (by decide +kernel) (n := 3072) ja_int (by decide) (N := 3072) (by decide) (by decide) (Nat.le_of_ble_eq_true rfl) (Nat.le_of_ble_eq_true rfl) dX8_init_8 (jn := 39) (by decide +kernel) ?_
  refine rd_putF (σ := js65) C hnm (some 39) fl_8_11 ⟨_, _, rfl⟩ ff_8_1 rfl rfl (by decide +kernel) dX8_init_10 ?_
  refine v_aload_n C 0 dX8_init_13 rfl rfl ?_
  refine v_sipush C 3072 dX8_init_14 (by decide) ?_
  refine rd_newi (σ := js66) C hA hz (n0 := 39) (by decide +kernel) (n := 3072) ja_int (by decide) (N := 3072) (by decide) (by decide) (Nat.le_of_ble_eq_true rfl) (Nat.le_of_ble_eq_true rfl) dX8_init_17 (jn := 40) (by decide +kernel) ?_
  refine rd_putF (σ := js67) C hnm (some 40) fl_8_15 ⟨_, _, rfl⟩ ff_8_2 rfl rfl (by decide +kernel) dX8_init_19 ?_
  refine v_aload_n C 0 dX8_init_22 rfl rfl ?_
  refine v_sipush C 3072 dX8_init_23 (by decide) ?_
  refine rd_newi (σ := js68) C hA hz (n0 := 39) (by decide +kernel) (n := 3072) ja_int (by decide) (N := 3072) (by decide) (by decide) (Nat.le_of_ble_eq_true rfl) (Nat.le_of_ble_eq_true rfl) dX8_init_26 (jn := 41) (by decide +kernel) ?_
  refine rd_putF (σ := js69) C hnm (some 41) fl_8_18 ⟨_, _, rfl⟩ ff_8_3 rfl rfl (by decide +kernel) dX8_init_28 ?_
  refine v_aload_n C 0 dX8_init_31 rfl rfl ?_
  refine v_iconst C 1 dX8_init_32 (by decide) ?_
  refine rd_putI (σ := js70) C fl_8_21 fw_8_4 rfl (by decide) (by decide +kernel) dX8_init_33 ?_
  refine v_aload_n C 0 dX8_init_36 rfl rfl ?_
  refine v_bipush C 10 dX8_init_37 (by decide) ?_
  refine rd_newi (σ := js71) C hA hz (n0 := 39) (by decide +kernel) (n := 10) ja_int (by decide) (N := 10) (by decide) (by decide) (Nat.le_of_ble_eq_true rfl) (Nat.le_of_ble_eq_true rfl) dX8_init_39 (jn := 42) (by decide +kernel) ?_
  refine rd_putF (σ := js72) C hnm (some 42) fl_8_25 ⟨_, _, rfl⟩ ff_8_5 rfl rfl (by decide +kernel) dX8_init_41 ?_
  refine v_aload_n C 0 dX8_init_44 rfl rfl ?_
  refine v_aload_n C 1 dX8_init_45 rfl rfl ?_
  refine rd_putF (σ := js73) C hnm (some 34) fl_8_28 ⟨_, _, rfl⟩ ff_8_0 rfl rfl (by decide +kernel) dX8_init_46 ?_
  exact rd_vret (σ := js74) C hA hz (n0 := 39) (by decide +kernel) (Nat.le_of_ble_eq_true rfl) (Nat.le_of_ble_eq_true rfl) dX8_init_49
set_option maxHeartbeats 4000000 in
set_option maxRecDepth 20000 in
theorem cd_9 {l : Launch} {D : va_G} {cy : Nat → ClassId} {ad : Nat → Nat} (hA : adC ad) : MVD l D cy ad yX9_init cX9_init 3 none 1 20 0 0 [.ref (ad 44), .ref (ad 34), .ref (ad 38)] js76 none js78 := by
  refine MVD.of (by decide) (wd_D hA cy _) (Nat.le_of_ble_eq_true rfl) [(0, .ref (ad 44)), (1, .ref (ad 34)), (2, .ref (ad 38))] rfl ?_
  intro p e s m args below meth c C hz hnm
  replace hz : s.heap.size = ad 45 := hz.trans (congrArg ad (show ndC js76 = 45 from by decide +kernel))
  refine v_aload_n C 0 dX9_init_0 rfl rfl ?_
  refine rd_obj C oi_9_3 oi_1 oi_2 (Nat.le_of_ble_eq_true rfl) (Nat.le_of_ble_eq_true rfl) dX9_init_1 ?_
  refine v_aload_n C 0 dX9_init_4 rfl rfl ?_
  refine v_aload_n C 1 dX9_init_5 rfl rfl ?_
  refine rd_putF (σ := js76) C hnm (some 34) fl_9_9 ⟨_, _, rfl⟩ ff_9_0 rfl rfl (by decide +kernel) dX9_init_6 ?_
  refine v_aload_n C 0 dX9_init_9 rfl rfl ?_
  refine v_aload_n C 2 dX9_init_10 rfl rfl ?_
  refine rd_putF (σ := js77) C hnm (some 38) fl_9_15 ⟨_, _, rfl⟩ ff_9_1 rfl rfl (by decide +kernel) dX9_init_11 ?_
  exact rd_vret (σ := js78) C hA hz (n0 := 45) (by decide +kernel) (Nat.le_of_ble_eq_true rfl) (Nat.le_of_ble_eq_true rfl) dX9_init_14
set_option maxHeartbeats 4000000 in
set_option maxRecDepth 20000 in
theorem cd_4 {l : Launch} {D : va_G} {cy : Nat → ClassId} {ad : Nat → Nat} (hA : adC ad) : MVD l D cy ad yX4_init cX4_init 4 none 2 40 4 19 [.ref (ad 43), .ref (ad 34), .ref (ad 38), .ref (ad 44)] js78 none js88 := by
  refine MVD.of (by decide) (wd_D hA cy _) (Nat.le_of_ble_eq_true rfl) [(0, .ref (ad 43)), (1, .ref (ad 34)), (2, .ref (ad 38)), (3, .ref (ad 44))] rfl ?_
  intro p e s m args below meth c C hz hnm
  replace hz : s.heap.size = ad 45 := hz.trans (congrArg ad (show ndC js78 = 45 from by decide +kernel))
  refine v_aload_n C 0 dX4_init_0 rfl rfl ?_
  refine rd_obj C oi_4_3 oi_1 oi_2 (Nat.le_of_ble_eq_true rfl) (Nat.le_of_ble_eq_true rfl) dX4_init_1 ?_
  refine v_aload_n C 0 dX4_init_4 rfl rfl ?_
  refine v_bipush C 11 dX4_init_5 (by decide) ?_
  refine rd_newi (σ := js78) C hA hz (n0 := 45) (by decide +kernel) (n := 11) ja_int (by decide) (N := 11) (by decide) (by decide) (Nat.le_of_ble_eq_true rfl) (Nat.le_of_ble_eq_true rfl) dX4_init_7 (jn := 45) (by decide +kernel) ?_
  refine rd_putF (σ := js79) C hnm (some 45) fl_4_9 ⟨_, _, rfl⟩ ff_4_3 rfl rfl (by decide +kernel) dX4_init_9 ?_
  refine v_aload_n C 0 dX4_init_12 rfl rfl ?_
  refine v_iconst C 0 dX4_init_13 (by decide) ?_
  refine rd_newi (σ := js80) C hA hz (n0 := 45) (by decide +kernel) (n := 0) ja_int (by decide) (N := 0) (by decide) (by decide) (Nat.le_of_ble_eq_true rfl) (Nat.le_of_ble_eq_true rfl) dX4_init_14 (jn := 46) (by decide +kernel) ?_
  refine rd_putR (σ := js81) C (some 46) fl_4_15 fw_4_4 rfl rfl (by decide) (by decide +kernel) dX4_init_16 ?_
  refine v_aload_n C 0 dX4_init_19 rfl rfl ?_
  refine rd_new (σ := js82) C hA hz (n0 := 45) (by decide +kernel) (ci := 5) rfl (by decide) rfl ixX5 tyX5_ok df_5 cl_4_18 in_5 ini_5 (Nat.le_of_ble_eq_true rfl) (Nat.le_of_ble_eq_true rfl) dX4_init_20 (jn := 47) (by decide +kernel) ?_
  refine v_dup C dX4_init_23 rfl ?_
  refine rd_initN (σ := js83) (σ' := js84) C hA hz (n0 := 45) (by decide +kernel) [] [.ref (ad 47), .ref (ad 43)] (cd_Shelf hA 47 js83 (by decide +kernel)) (kc' := 4) (by decide +kernel) hYI_5 ml_4_20 ⟨(Nat.le_of_ble_eq_true rfl), (Nat.le_of_ble_eq_true rfl)⟩ ⟨(Nat.le_of_ble_eq_true rfl), (Nat.le_of_ble_eq_true rfl)⟩ rfl rfl (Nat.le_of_ble_eq_true rfl) dX4_init_24 ?_
  refine rd_putR (σ := js84) C (some 47) fl_4_21 fw_4_6 rfl rfl (by decide) (by decide +kernel) dX4_init_27 ?_
  refine v_aload_n C 0 dX4_init_30 rfl rfl ?_
  refine v_aload_n C 1 dX4_init_31 rfl rfl ?_
  refine rd_putF (σ := js85) C hnm (some 34) fl_4_25 ⟨_, _, rfl⟩ ff_4_0 rfl rfl (by decide +kernel) dX4_init_32 ?_
  refine v_aload_n C 0 dX4_init_35 rfl rfl ?_
  refine v_aload_n C 2 dX4_init_36 rfl rfl ?_
  refine rd_putF (σ := js86) C hnm (some 38) fl_4_29 ⟨_, _, rfl⟩ ff_4_1 rfl rfl (by decide +kernel) dX4_init_37 ?_
  refine v_aload_n C 0 dX4_init_40 rfl rfl ?_
  refine v_aload_n C 3 dX4_init_41 rfl rfl ?_
  refine rd_putF (σ := js87) C hnm (some 44) fl_4_33 ⟨_, _, rfl⟩ ff_4_2 rfl rfl (by decide +kernel) dX4_init_42 ?_
  exact rd_vret (σ := js88) C hA hz (n0 := 45) (by decide +kernel) (Nat.le_of_ble_eq_true rfl) (Nat.le_of_ble_eq_true rfl) dX4_init_45
set_option maxHeartbeats 4000000 in
set_option maxRecDepth 20000 in
theorem cd_10 {l : Launch} {D : va_G} {cy : Nat → ClassId} {ad : Nat → Nat} (hA : adC ad) : MVD l D cy ad yX10_init cX10_init 3 none 3 63 48 13041 [.ref (ad 0)] js1 none js89 := by
  refine MVD.of (by decide) (wd_D hA cy _) (Nat.le_of_ble_eq_true rfl) [(0, .ref (ad 0))] rfl ?_
  intro p e s m args below meth c C hz hnm
  replace hz : s.heap.size = ad 1 := hz.trans (congrArg ad (show ndC js1 = 1 from by decide +kernel))
  refine v_aload_n C 0 dX10_init_0 rfl rfl ?_
  refine rd_obj C oi_10_1 oi_1 oi_2 (Nat.le_of_ble_eq_true rfl) (Nat.le_of_ble_eq_true rfl) dX10_init_1 ?_
  refine v_aload_n C 0 dX10_init_4 rfl rfl ?_
  refine v_bipush C 32 dX10_init_5 (by decide) ?_
  refine rd_newi (σ := js1) C hA hz (n0 := 1) (by decide +kernel) (n := 32) ja_int (by decide) (N := 32) (by decide) (by decide) (Nat.le_of_ble_eq_true rfl) (Nat.le_of_ble_eq_true rfl) dX10_init_7 (jn := 1) (by decide +kernel) ?_
  refine rd_putF (σ := js2) C hnm (some 1) fl_10_9 ⟨_, _, rfl⟩ ff_10_0 rfl rfl (by decide +kernel) dX10_init_9 ?_
  refine v_aload_n C 0 dX10_init_12 rfl rfl ?_
  refine rd_new (σ := js3) C hA hz (n0 := 1) (by decide +kernel) (ci := 3) rfl (by decide) rfl ixX3 tyX3_ok df_3 cl_10_13 in_3 ini_3 (Nat.le_of_ble_eq_true rfl) (Nat.le_of_ble_eq_true rfl) dX10_init_13 (jn := 2) (by decide +kernel) ?_
  refine v_dup C dX10_init_16 rfl ?_
  refine rd_initN (σ := js4) (σ' := js8) C hA hz (n0 := 1) (by decide +kernel) [] [.ref (ad 2), .ref (ad 0)] (cd_3 hA) (kc' := 4) (by decide +kernel) hYI_3 ml_10_15 ⟨(Nat.le_of_ble_eq_true rfl), (Nat.le_of_ble_eq_true rfl)⟩ ⟨(Nat.le_of_ble_eq_true rfl), (Nat.le_of_ble_eq_true rfl)⟩ rfl rfl (Nat.le_of_ble_eq_true rfl) dX10_init_17 ?_
  refine rd_putR (σ := js8) C (some 2) fl_10_16 fw_10_2 rfl rfl (by decide) (by decide +kernel) dX10_init_20 ?_
  refine v_aload_n C 0 dX10_init_23 rfl rfl ?_
  refine rd_new (σ := js9) C hA hz (n0 := 1) (by decide +kernel) (ci := 5) rfl (by decide) rfl ixX5 tyX5_ok df_5 cl_10_20 in_5 ini_5 (Nat.le_of_ble_eq_true rfl) (Nat.le_of_ble_eq_true rfl) dX10_init_24 (jn := 5) (by decide +kernel) ?_
  refine v_dup C dX10_init_27 rfl ?_
  refine rd_initN (σ := js10) (σ' := js11) C hA hz (n0 := 1) (by decide +kernel) [] [.ref (ad 5), .ref (ad 0)] (cd_Shelf hA 5 js10 (by decide +kernel)) (kc' := 6) (by decide +kernel) hYI_5 ml_10_22 ⟨(Nat.le_of_ble_eq_true rfl), (Nat.le_of_ble_eq_true rfl)⟩ ⟨(Nat.le_of_ble_eq_true rfl), (Nat.le_of_ble_eq_true rfl)⟩ rfl rfl (Nat.le_of_ble_eq_true rfl) dX10_init_28 ?_
  refine rd_putF (σ := js11) C hnm (some 5) fl_10_23 ⟨_, _, rfl⟩ ff_10_3 rfl rfl (by decide +kernel) dX10_init_31 ?_
  refine v_aload_n C 0 dX10_init_34 rfl rfl ?_
  refine rd_new (σ := js12) C hA hz (n0 := 1) (by decide +kernel) (ci := 2) rfl (by decide) rfl ixX2 tyX2_ok df_2 cl_10_27 in_2 ini_2 (Nat.le_of_ble_eq_true rfl) (Nat.le_of_ble_eq_true rfl) dX10_init_35 (jn := 7) (by decide +kernel) ?_
  refine v_dup C dX10_init_38 rfl ?_
  refine rd_init (σ := js13) (σ' := js39) C hA hz (n0 := 1) (by decide +kernel) [] [.ref (ad 7), .ref (ad 0)] (cd_2 hA) (kc' := 24) (by decide +kernel) hYI_2 ml_10_29 ⟨(Nat.le_of_ble_eq_true rfl), (Nat.le_of_ble_eq_true rfl)⟩ ⟨(Nat.le_of_ble_eq_true rfl), (Nat.le_of_ble_eq_true rfl)⟩ rfl rfl (Nat.le_of_ble_eq_true rfl) dX10_init_39 ?_
  refine rd_putF (σ := js39) C hnm (some 7) fl_10_30 ⟨_, _, rfl⟩ ff_10_4 rfl rfl (by decide +kernel) dX10_init_42 ?_
  refine v_aload_n C 0 dX10_init_45 rfl rfl ?_
  refine rd_new (σ := js40) C hA hz (n0 := 1) (by decide +kernel) (ci := 6) rfl (by decide) rfl ixX6 tyX6_ok df_6 cl_10_34 in_6 ini_6 (Nat.le_of_ble_eq_true rfl) (Nat.le_of_ble_eq_true rfl) dX10_init_46 (jn := 25) (by decide +kernel) ?_
  refine v_dup C dX10_init_49 rfl ?_
  refine rd_initN (σ := js41) (σ' := js45) C hA hz (n0 := 1) (by decide +kernel) [] [.ref (ad 25), .ref (ad 0)] (cd_6 hA) (kc' := 27) (by decide +kernel) hYI_6 ml_10_36 ⟨(Nat.le_of_ble_eq_true rfl), (Nat.le_of_ble_eq_true rfl)⟩ ⟨(Nat.le_of_ble_eq_true rfl), (Nat.le_of_ble_eq_true rfl)⟩ rfl rfl (Nat.le_of_ble_eq_true rfl) dX10_init_50 ?_
  refine rd_putF (σ := js45) C hnm (some 25) fl_10_37 ⟨_, _, rfl⟩ ff_10_5 rfl rfl (by decide +kernel) dX10_init_53 ?_
  refine v_aload_n C 0 dX10_init_56 rfl rfl ?_
  refine v_iconst C 2 dX10_init_57 (by decide) ?_
  refine rd_newr (σ := js46) C hA hz (n0 := 1) (by decide +kernel) (K := 17) (n := 2) (by decide) rfl cl_10_20 ao_5 (by decide) (N := 2) (by decide) (by decide) (Nat.le_of_ble_eq_true rfl) (Nat.le_of_ble_eq_true rfl) dX10_init_58 (jn := 28) (by decide +kernel) ?_
  refine rd_putF (σ := js47) C hnm (some 28) fl_10_41 ⟨_, _, rfl⟩ ff_10_6 rfl rfl (by decide +kernel) dX10_init_61 ?_
  refine v_aload_n C 0 dX10_init_64 rfl rfl ?_
  refine v_iconst C 2 dX10_init_65 (by decide) ?_
  refine rd_newz (σ := js48) C hA hz (n0 := 1) (by decide +kernel) (n := 2) mi_z (by decide) (N := 2) (by decide) (by decide) (Nat.le_of_ble_eq_true rfl) (Nat.le_of_ble_eq_true rfl) dX10_init_66 (jn := 29) (by decide +kernel) ?_
  refine rd_putF (σ := js49) C hnm (some 29) fl_10_45 ⟨_, _, rfl⟩ ff_10_7 rfl rfl (by decide +kernel) dX10_init_68 ?_
  refine v_iconst C 0 dX10_init_71 (by decide) ?_
  refine v_istore_n C [(1, .int 0), (0, .ref (ad 0))] dX10_init_72 rfl (by decide) rfl ?_
  refine v_iload_n C 0 dX10_init_73 rfl rfl ?_
  refine v_iconst C 2 dX10_init_74 (by decide) ?_
  refine v_icmp_ge C 97 dX10_init_75 (by decide) (fun c1 => absurd (show (2 : Int32) ≤ 0 from c1) (by decide)) (fun _ => ?_)
  refine v_aload_n C 1 dX10_init_78 rfl rfl ?_
  refine rd_getR (σ := js50) C (some 28) fl_10_41 rfl (by decide +kernel) (by decide +kernel) dX10_init_79 ?_
  refine v_iload_n C 0 dX10_init_82 rfl rfl ?_
  refine rd_new (σ := js50) C hA hz (n0 := 1) (by decide +kernel) (ci := 5) rfl (by decide) rfl ixX5 tyX5_ok df_5 cl_10_20 in_5 ini_5 (Nat.le_of_ble_eq_true rfl) (Nat.le_of_ble_eq_true rfl) dX10_init_83 (jn := 30) (by decide +kernel) ?_
  refine v_dup C dX10_init_86 rfl ?_
  refine rd_initN (σ := js51) (σ' := js52) C hA hz (n0 := 1) (by decide +kernel) [] [.ref (ad 30), .int 0, .ref (ad 28)] (cd_Shelf hA 30 js51 (by decide +kernel)) (kc' := 31) (by decide +kernel) hYI_5 ml_10_22 ⟨(Nat.le_of_ble_eq_true rfl), (Nat.le_of_ble_eq_true rfl)⟩ ⟨(Nat.le_of_ble_eq_true rfl), (Nat.le_of_ble_eq_true rfl)⟩ rfl rfl (Nat.le_of_ble_eq_true rfl) dX10_init_87 ?_
  refine rd_aast (σ := js52) C (q := (RX5, TX5, 2)) (ci := 5) (by decide +kernel) (K := 17) (by decide) rfl rfl (by decide) (by decide +kernel) (ix_in (by decide +kernel)) dX10_init_90 ?_
  refine v_iinc C 1 0 [(1, .int 1), (0, .ref (ad 0))] dX10_init_91 rfl (by decide) (by decide) rfl ?_
  refine v_goto C 73 dX10_init_94 (by decide) ?_
  refine v_iload_n C 0 dX10_init_73 rfl rfl ?_
  refine v_iconst C 2 dX10_init_74 (by decide) ?_
  refine v_icmp_ge C 97 dX10_init_75 (by decide) (fun c1 => absurd (show (2 : Int32) ≤ 1 from c1) (by decide)) (fun _ => ?_)
  refine v_aload_n C 1 dX10_init_78 rfl rfl ?_
  refine rd_getR (σ := js53) C (some 28) fl_10_41 rfl (by decide +kernel) (by decide +kernel) dX10_init_79 ?_
  refine v_iload_n C 0 dX10_init_82 rfl rfl ?_
  refine rd_new (σ := js53) C hA hz (n0 := 1) (by decide +kernel) (ci := 5) rfl (by decide) rfl ixX5 tyX5_ok df_5 cl_10_20 in_5 ini_5 (Nat.le_of_ble_eq_true rfl) (Nat.le_of_ble_eq_true rfl) dX10_init_83 (jn := 32) (by decide +kernel) ?_
  refine v_dup C dX10_init_86 rfl ?_
  refine rd_initN (σ := js54) (σ' := js55) C hA hz (n0 := 1) (by decide +kernel) [] [.ref (ad 32), .int 1, .ref (ad 28)] (cd_Shelf hA 32 js54 (by decide +kernel)) (kc' := 33) (by decide +kernel) hYI_5 ml_10_22 ⟨(Nat.le_of_ble_eq_true rfl), (Nat.le_of_ble_eq_true rfl)⟩ ⟨(Nat.le_of_ble_eq_true rfl), (Nat.le_of_ble_eq_true rfl)⟩ rfl rfl (Nat.le_of_ble_eq_true rfl) dX10_init_87 ?_
  refine rd_aast (σ := js55) C (q := (RX5, TX5, 2)) (ci := 5) (by decide +kernel) (K := 17) (by decide) rfl rfl (by decide) (by decide +kernel) (ix_in (by decide +kernel)) dX10_init_90 ?_
  refine v_iinc C 2 0 [(1, .int 2), (0, .ref (ad 0))] dX10_init_91 rfl (by decide) (by decide) rfl ?_
  refine v_goto C 73 dX10_init_94 (by decide) ?_
  refine v_iload_n C 0 dX10_init_73 rfl rfl ?_
  refine v_iconst C 2 dX10_init_74 (by decide) ?_
  refine v_icmp_ge C 97 dX10_init_75 (by decide) (fun _ => ?_) (fun c1 => absurd (show (2 : Int32) ≤ 2 from by decide) c1)
  refine rd_new (σ := js56) C hA hz (n0 := 1) (by decide +kernel) (ci := 7) rfl (by decide) rfl ixX7 tyX7_ok df_7 cl_10_49 in_7 ini_7 (Nat.le_of_ble_eq_true rfl) (Nat.le_of_ble_eq_true rfl) dX10_init_97 (jn := 34) (by decide +kernel) ?_
  refine v_dup C dX10_init_100 rfl ?_
  refine rd_initN (σ := js57) (σ' := js63) C hA hz (n0 := 1) (by decide +kernel) [] [.ref (ad 34)] (cd_7 hA) (kc' := 37) (by decide +kernel) hYI_7 ml_10_51 ⟨(Nat.le_of_ble_eq_true rfl), (Nat.le_of_ble_eq_true rfl)⟩ ⟨(Nat.le_of_ble_eq_true rfl), (Nat.le_of_ble_eq_true rfl)⟩ rfl rfl (Nat.le_of_ble_eq_true rfl) dX10_init_101 ?_
  refine v_astore_n C [(1, .ref (ad 34)), (0, .ref (ad 0))] dX10_init_104 rfl (by decide) rfl ?_
  refine rd_new (σ := js63) C hA hz (n0 := 1) (by decide +kernel) (ci := 8) rfl (by decide) rfl ixX8 tyX8_ok df_8 cl_10_52 in_8 ini_8 (Nat.le_of_ble_eq_true rfl) (Nat.le_of_ble_eq_true rfl) dX10_init_105 (jn := 38) (by decide +kernel) ?_
  refine v_dup C dX10_init_108 rfl ?_
  refine v_aload_n C 0 dX10_init_109 rfl rfl ?_
  refine rd_init (σ := js64) (σ' := js74) C hA hz (n0 := 1) (by decide +kernel) [.ref (ad 34)] [.ref (ad 38)] (cd_8 hA) (kc' := 42) (by decide +kernel) hYI_8 ml_10_54 ⟨(Nat.le_of_ble_eq_true rfl), (Nat.le_of_ble_eq_true rfl)⟩ ⟨(Nat.le_of_ble_eq_true rfl), (Nat.le_of_ble_eq_true rfl)⟩ rfl rfl (Nat.le_of_ble_eq_true rfl) dX10_init_110 ?_
  refine v_astore_n C [(2, .ref (ad 38)), (1, .ref (ad 34)), (0, .ref (ad 0))] dX10_init_113 rfl (by decide) rfl ?_
  refine v_aload_n C 2 dX10_init_114 rfl rfl ?_
  refine rd_new (σ := js74) C hA hz (n0 := 1) (by decide +kernel) (ci := 4) rfl (by decide) rfl ixX4 tyX4_ok df_4 cl_10_57 in_4 ini_4 (Nat.le_of_ble_eq_true rfl) (Nat.le_of_ble_eq_true rfl) dX10_init_115 (jn := 43) (by decide +kernel) ?_
  refine v_dup C dX10_init_118 rfl ?_
  refine v_aload_n C 1 dX10_init_119 rfl rfl ?_
  refine v_aload_n C 0 dX10_init_120 rfl rfl ?_
  refine rd_new (σ := js75) C hA hz (n0 := 1) (by decide +kernel) (ci := 9) rfl (by decide) rfl ixX9 tyX9_ok df_9 cl_10_59 in_9 ini_9 (Nat.le_of_ble_eq_true rfl) (Nat.le_of_ble_eq_true rfl) dX10_init_121 (jn := 44) (by decide +kernel) ?_
  refine v_dup C dX10_init_124 rfl ?_
  refine v_aload_n C 1 dX10_init_125 rfl rfl ?_
  refine v_aload_n C 0 dX10_init_126 rfl rfl ?_
  refine rd_init (σ := js76) (σ' := js78) C hA hz (n0 := 1) (by decide +kernel) [.ref (ad 34), .ref (ad 38)] [.ref (ad 44), .ref (ad 38), .ref (ad 34), .ref (ad 43), .ref (ad 43), .ref (ad 0)] (cd_9 hA) (kc' := 44) (by decide +kernel) hYI_9 ml_10_61 ⟨(Nat.le_of_ble_eq_true rfl), (Nat.le_of_ble_eq_true rfl)⟩ ⟨(Nat.le_of_ble_eq_true rfl), (Nat.le_of_ble_eq_true rfl)⟩ rfl rfl (Nat.le_of_ble_eq_true rfl) dX10_init_127 ?_
  refine rd_init (σ := js78) (σ' := js88) C hA hz (n0 := 1) (by decide +kernel) [.ref (ad 34), .ref (ad 38), .ref (ad 44)] [.ref (ad 43), .ref (ad 0)] (cd_4 hA) (kc' := 48) (by decide +kernel) hYI_4 ml_10_64 ⟨(Nat.le_of_ble_eq_true rfl), (Nat.le_of_ble_eq_true rfl)⟩ ⟨(Nat.le_of_ble_eq_true rfl), (Nat.le_of_ble_eq_true rfl)⟩ rfl rfl (Nat.le_of_ble_eq_true rfl) dX10_init_130 ?_
  refine rd_putF (σ := js88) C hnm (some 43) fl_10_67 ⟨_, _, rfl⟩ ff_10_8 rfl rfl (by decide +kernel) dX10_init_133 ?_
  exact rd_vret (σ := js89) C hA hz (n0 := 1) (by decide +kernel) (Nat.le_of_ble_eq_true rfl) (Nat.le_of_ble_eq_true rfl) dX10_init_136
