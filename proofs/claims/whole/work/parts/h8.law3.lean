theorem li4 {i L : Nat} (hi : i < 100000) (hL : L < 100000) (h : ¬ (i32 L - 4 < i32 i)) : i + 4 ≤ L := by
  have e1 : i32 L - 4 = Int32.ofInt ((L : Int) - 4) := by
    unfold i32
    rw [← Int32.ofInt_eq_ofNat, show (4 : Int32) = Int32.ofInt 4 from rfl, ← Int32.ofInt_sub]
  have e2 : i32 i = Int32.ofInt (i : Int) := by
    unfold i32
    rw [← Int32.ofInt_eq_ofNat]
  rw [Int32.not_lt, Int32.le_iff_toInt_le, e1, e2, Int32.toInt_ofInt_of_le (by omega) (by omega), Int32.toInt_ofInt_of_le (by omega) (by omega)] at h
  omega
set_option maxHeartbeats 4000000 in
set_option maxRecDepth 20000 in
/-- the law's loop -/
theorem law_loop {p : Program} {l : Launch} {e : Env} {s : State} {m : MethodId} {below : List Frame} {meth : Method} {c : Code} {D : va_G} {cy : Nat → ClassId} {b b0 L : Nat} {xs : Nat → Int32} (C : vC p s m #[Value.ref b] meth c code 4 ret R_law D (cyT cy)) (hz : s.heap.size = b0) (hX : va_X b L xs s s.heap) (hbl : b < s.heap.size) (hbA : ¬ geA b0 b) (hL : L ≤ 2048) : ∀ (n i : Nat) (S : Sta) (σ : CS) (μ : MS) (ks : Nat), L + 4 ≤ i + 4 * n → i ≤ L + 3 → SOK S → KA σ S → KV σ → MA μ S → 4 * ndC σ ≤ 22 * i → 4 * ks ≤ 160000 + 1100 * i → V p l e room_1 s m #[Value.ref b] below meth c D (geA b0) 4 (lw_Z below #[Value.ref b] s) (83 + ndC σ) ks (wl cy b0 σ μ) 18 [(0, .ref b), (1, .ref (adL b0 0)), (2, .ref (adM b0 0)), (3, .int (i32 i))] [] := by
  intro n
  induction n with
  | zero => intro i S σ μ ks h1 h2; omega
  | succ n ih =>
    intro i S σ μ ks h1 h2 hs hk hv hm hc hks
    refine v_iload_n C 3 dL_18 rfl rfl ?_
    refine v_aload_n C 0 dL_19 rfl rfl ?_
    refine ls_len C hX hbl hbA dL_20 ?_
    refine v_iconst C 4 dL_21 (by decide) ?_
    refine v_isub C dL_22 ?_
    refine v_icmp_gt C 520 dL_23 (by decide) (fun c1 => ?_) (fun c1 => ?_)
    · refine v_iconst C 1 dL_520 (by decide) ?_
      exact fun H locs la hP hD hS hl => va_forget (fun q hq => by have h9 : b0 ≤ q.base := hS.2.2 q hq; omega) (W.widen (k := 600000) (n := 7302250) (by omega) (by omega) (lw_ret C.1 C.2.1 C.2.2.2.2.2.1 C.2.2.2.2.2.2.1 dL_521))
    · have hi := li4 (by omega) (by omega) c1
      have K : ∀ (S' : Sta) (σ' : CS) (μ' : MS) (ks' : Nat), SOK S' → KA σ' S' → KV σ' → MA μ' S' → ndC σ' ≤ ndC σ + 22 → ks' ≤ ks + 1100 → V p l e room_1 s m #[Value.ref b] below meth c D (geA b0) 4 (lw_Z below #[Value.ref b] s) (83 + ndC σ') ks' (wl cy b0 σ' μ') 514 [(0, .ref b), (1, .ref (adL b0 0)), (2, .ref (adM b0 0)), (3, .int (i32 i))] [] := fun S' σ' μ' ks' g1 g2 g3 g4 g5 g6 => by
        refine v_iinc C (i32 (i + 4)) 3 [(3, .int (i32 (i + 4))), (0, .ref b), (1, .ref (adL b0 0)), (2, .ref (adM b0 0))] dL_514 rfl (show i32 i + i32 4 = i32 (i + 4) from z_add i 4) (by decide) rfl ?_
        refine v_goto C 18 dL_517 (by decide) ?_
        exact v_sub [1, 2, 3, 0] rfl (ih (i + 4) S' σ' μ' ks' (by omega) (by omega) g1 g2 g3 g4 (by omega) (by omega))
      refine v_aload_n C 0 dL_26 rfl rfl ?_
      refine v_iload_n C 3 dL_27 rfl rfl ?_
      refine ls_ald C hX hbl hbA (ix_in (c_ix (show i < L by omega) (by omega))) dL_28 ?_
      refine v_bipush C 31 dL_29 (by decide) ?_
      refine v_iand C dL_31 ?_
      generalize xs (i32 i).toNatClampNeg &&& 31 = x
      by_cases c10 : x = 0
      · refine v_tableIn C 120 dL_32 (by rw [c10]; decide) (by rw [c10]; decide) (by rw [c10]; try rfl) (by decide) ?_
        exact lcase_0 C hz hX hbl hbA hL i hi hs hk hv hm (by omega) (by omega) K
      by_cases c11 : x = 1
      · refine v_tableIn C 143 dL_32 (by rw [c11]; decide) (by rw [c11]; decide) (by rw [c11]; try rfl) (by decide) ?_
        exact lcase_1 C hz hX hbl hbA hL i hi hs hk hv hm (by omega) (by omega) K
      by_cases c12 : x = 2
      · refine v_tableIn C 156 dL_32 (by rw [c12]; decide) (by rw [c12]; decide) (by rw [c12]; try rfl) (by decide) ?_
        exact lcase_2 C hz hX hbl hbA hL i hi hs hk hv hm (by omega) (by omega) K
      by_cases c13 : x = 3
      · refine v_tableIn C 169 dL_32 (by rw [c13]; decide) (by rw [c13]; decide) (by rw [c13]; try rfl) (by decide) ?_
        exact lcase_3 C hz hX hbl hbA hL i hi hs hk hv hm (by omega) (by omega) K
      by_cases c14 : x = 4
      · refine v_tableIn C 212 dL_32 (by rw [c14]; decide) (by rw [c14]; decide) (by rw [c14]; try rfl) (by decide) ?_
        exact lcase_4 C hz hX hbl hbA hL i hi hs hk hv hm (by omega) (by omega) K
      by_cases c15 : x = 5
      · refine v_tableIn C 235 dL_32 (by rw [c15]; decide) (by rw [c15]; decide) (by rw [c15]; try rfl) (by decide) ?_
        exact lcase_5 C hz hX hbl hbA hL i hi hs hk hv hm (by omega) (by omega) K
      by_cases c16 : x = 6
      · refine v_tableIn C 258 dL_32 (by rw [c16]; decide) (by rw [c16]; decide) (by rw [c16]; try rfl) (by decide) ?_
        exact lcase_6 C hz hX hbl hbA hL i hi hs hk hv hm (by omega) (by omega) K
      by_cases c17 : x = 7
      · refine v_tableIn C 271 dL_32 (by rw [c17]; decide) (by rw [c17]; decide) (by rw [c17]; try rfl) (by decide) ?_
        exact lcase_7 C hz hX hbl hbA hL i hi hs hk hv hm (by omega) (by omega) K
      by_cases c18 : x = 8
      · refine v_tableIn C 284 dL_32 (by rw [c18]; decide) (by rw [c18]; decide) (by rw [c18]; try rfl) (by decide) ?_
        exact lcase_8 C hz hX hbl hbA hL i hi hs hk hv hm (by omega) (by omega) K
      by_cases c19 : x = 9
      · refine v_tableIn C 307 dL_32 (by rw [c19]; decide) (by rw [c19]; decide) (by rw [c19]; try rfl) (by decide) ?_
        exact lcase_9 C hz hX hbl hbA hL i hi hs hk hv hm (by omega) (by omega) K
      by_cases c20 : x = 10
      · refine v_tableIn C 320 dL_32 (by rw [c20]; decide) (by rw [c20]; decide) (by rw [c20]; try rfl) (by decide) ?_
        exact lcase_10 C hz hX hbl hbA hL i hi hs hk hv hm (by omega) (by omega) K
      by_cases c21 : x = 11
      · refine v_tableIn C 363 dL_32 (by rw [c21]; decide) (by rw [c21]; decide) (by rw [c21]; try rfl) (by decide) ?_
        exact lcase_11 C hz hX hbl hbA hL i hi hs hk hv hm (by omega) (by omega) K
      by_cases c22 : x = 12
      · refine v_tableIn C 396 dL_32 (by rw [c22]; decide) (by rw [c22]; decide) (by rw [c22]; try rfl) (by decide) ?_
        exact lcase_12 C hz hX hbl hbA hL i hi hs hk hv hm (by omega) (by omega) K
      by_cases c23 : x = 13
      · refine v_tableIn C 419 dL_32 (by rw [c23]; decide) (by rw [c23]; decide) (by rw [c23]; try rfl) (by decide) ?_
        exact lcase_13 C hz hX hbl hbA hL i hi hs hk hv hm (by omega) (by omega) K
      by_cases c24 : x = 14
      · refine v_tableIn C 432 dL_32 (by rw [c24]; decide) (by rw [c24]; decide) (by rw [c24]; try rfl) (by decide) ?_
        exact lcase_14 C hz hX hbl hbA hL i hi hs hk hv hm (by omega) (by omega) K
      by_cases c25 : x = 15
      · refine v_tableIn C 445 dL_32 (by rw [c25]; decide) (by rw [c25]; decide) (by rw [c25]; try rfl) (by decide) ?_
        exact lcase_15 C hz hX hbl hbA hL i hi hs hk hv hm (by omega) (by omega) K
      by_cases c26 : x = 16
      · refine v_tableIn C 468 dL_32 (by rw [c26]; decide) (by rw [c26]; decide) (by rw [c26]; try rfl) (by decide) ?_
        exact lcase_16 C hz hX hbl hbA hL i hi hs hk hv hm (by omega) (by omega) K
      by_cases c27 : x = 17
      · refine v_tableIn C 491 dL_32 (by rw [c27]; decide) (by rw [c27]; decide) (by rw [c27]; try rfl) (by decide) ?_
        exact lcase_17 C hz hX hbl hbA hL i hi hs hk hv hm (by omega) (by omega) K
      refine v_tableOut C 514 dL_32 (sw_out 17 (by decide) (fun i9 hi9 => by have k0 := lv_neT c10 (show (0 : Int32).toInt = 0 from by decide); have k1 := lv_neT c11 (show (1 : Int32).toInt = 1 from by decide); have k2 := lv_neT c12 (show (2 : Int32).toInt = 2 from by decide); have k3 := lv_neT c13 (show (3 : Int32).toInt = 3 from by decide); have k4 := lv_neT c14 (show (4 : Int32).toInt = 4 from by decide); have k5 := lv_neT c15 (show (5 : Int32).toInt = 5 from by decide); have k6 := lv_neT c16 (show (6 : Int32).toInt = 6 from by decide); have k7 := lv_neT c17 (show (7 : Int32).toInt = 7 from by decide); have k8 := lv_neT c18 (show (8 : Int32).toInt = 8 from by decide); have k9 := lv_neT c19 (show (9 : Int32).toInt = 9 from by decide); have k10 := lv_neT c20 (show (10 : Int32).toInt = 10 from by decide); have k11 := lv_neT c21 (show (11 : Int32).toInt = 11 from by decide); have k12 := lv_neT c22 (show (12 : Int32).toInt = 12 from by decide); have k13 := lv_neT c23 (show (13 : Int32).toInt = 13 from by decide); have k14 := lv_neT c24 (show (14 : Int32).toInt = 14 from by decide); have k15 := lv_neT c25 (show (15 : Int32).toInt = 15 from by decide); have k16 := lv_neT c26 (show (16 : Int32).toInt = 16 from by decide); have k17 := lv_neT c27 (show (17 : Int32).toInt = 17 from by decide); omega)) (by decide) ?_
      exact K S σ μ ks hs hk hv hm (by omega) (by omega)
set_option maxHeartbeats 4000000 in
set_option maxRecDepth 20000 in
/-- the law, from its entry -/
theorem whole_start {p : Program} {e : Env} {s : State} {m : MethodId} {below : List Frame} {meth : Method} {c : Code} (l : Launch) (hflags : l.flags = flags0) {b L : Nat} {xs : Nat → Int32} (hL : L ≤ 2048) (C0 : lw_At p s m meth c b L xs) : W p l e room_1 s m #[Value.ref b] below meth c s.heap [] 0 0 (lw_Z below #[Value.ref b] s) (entryFrame m ([Value.ref b] : List Value).toArray 4) := by
  obtain ⟨D, cy, C⟩ := lw_C C0
  obtain ⟨hx, hb, hr, hml, hown, hts, hX, hbl, hlocks, hgv⟩ := id C0
  obtain ⟨b0, hz⟩ : ∃ b0, s.heap.size = b0 := ⟨_, rfl⟩
  have hbA : ¬ geA b0 b := by
    show ¬ b0 ≤ b
    omega
  have hA : adC (fun j => b0 + j) := fun i => by
    show b0 + i = b0 + 0 + i
    omega
  have hz0 : s.heap.size = (fun j => b0 + j) 0 := hz.trans (Nat.add_zero b0).symm
  have key : V p l e room_1 s m #[Value.ref b] below meth c D (geA b0) 4 (lw_Z below #[Value.ref b] s) 0 0 (wd cy (fun j => b0 + j) ke) 0 [(0, .ref b)] [] := by
    refine rd_new (ad := fun j => b0 + j) (σ := ke) C hA hz0 (n0 := 0) rfl (ci := 10) rfl (by decide) rfl ixX10 tyX10_ok df_10 cl_L_7 in_10 ini_10 (Nat.le_of_ble_eq_true rfl) (Nat.le_of_ble_eq_true rfl) dL_0 (jn := 0) rfl ?_
    refine v_dup C dL_3 rfl ?_
    refine rd_init (ad := fun j => b0 + j) (σ := js1) (σ' := js89) C hA hz0 (n0 := 0) (by decide +kernel) [] [.ref ((fun j => b0 + j) 0)] (cd_10 hA) (kc' := 49) (by decide +kernel) hYI_10 ml_L_9 ⟨(Nat.le_of_ble_eq_true rfl), (Nat.le_of_ble_eq_true rfl)⟩ ⟨(Nat.le_of_ble_eq_true rfl), (Nat.le_of_ble_eq_true rfl)⟩ rfl rfl (Nat.le_of_ble_eq_true rfl) dL_4 ?_
    rw [wd_wc cy (b := adL b0) (fun j hj => (adL_lo hj).symm)]
    refine v_astore_n C [(1, .ref (adL b0 0)), (0, .ref b)] dL_7 rfl (by decide) rfl ?_
    refine lm_new C hz cl_L_10 (Nat.le_of_ble_eq_true rfl) (Nat.le_of_ble_eq_true rfl) dL_8 ?_
    refine v_dup C dL_11 rfl ?_
    refine lm_init C hz ml_L_12 ⟨(Nat.le_of_ble_eq_true rfl), (Nat.le_of_ble_eq_true rfl)⟩ ⟨(Nat.le_of_ble_eq_true rfl), (Nat.le_of_ble_eq_true rfl)⟩ (Nat.le_of_ble_eq_true rfl) dL_12 ?_
    refine v_astore_n C [(2, .ref (adM b0 0)), (1, .ref (adL b0 0)), (0, .ref b)] dL_15 rfl (by decide) rfl ?_
    refine v_iconst C 0 dL_16 (by decide) ?_
    refine v_istore_n C [(3, .int 0), (2, .ref (adM b0 0)), (1, .ref (adL b0 0)), (0, .ref b)] dL_17 rfl (by decide) rfl ?_
    exact v_sub [3, 2, 1, 0] rfl (law_loop C hz hX hbl hbA hL (L + 1) 0 s0 kz mu0 _ (by omega) (by omega) SOK_0 KA_0.1 KA_0.2 MA_0 (by decide) (Nat.le_of_ble_eq_true rfl))
  have hl := lv_entry ([.ref b]) (n := 4) (Nat.le_of_ble_eq_true rfl)
  rw [lg_entry_eq]
  exact key s.heap [] _ (fun k q hk => absurd (wd_len cy _ ke hk).1 (Nat.not_lt_zero _)) (wd_D hA cy ke) va_S.rf hl
