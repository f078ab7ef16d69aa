theorem dJ7_checkLength_df160_0 : decode cJ7_checkLength_df160 0 = .ok (.iload_n 1, 1) := by decide +kernel
theorem dJ7_checkLength_df160_1 : decode cJ7_checkLength_df160 1 = .ok (.iload_n 0, 1) := by decide +kernel
theorem dJ7_checkLength_df160_2 : decode cJ7_checkLength_df160 2 = .ok (.if_icmp .ge 35, 3) := by decide +kernel
theorem dJ7_checkLength_df160_37 : decode cJ7_checkLength_df160 37 = .ok (.return_, 1) := by decide +kernel
theorem dJ7_copyOfRange_feecc_0 : decode cJ7_copyOfRange_feecc 0 = .ok (.iload_n 1, 1) := by decide +kernel
theorem dJ7_copyOfRange_feecc_1 : decode cJ7_copyOfRange_feecc 1 = .ok (.ifCond .ne 9, 3) := by decide +kernel
theorem dJ7_copyOfRange_feecc_4 : decode cJ7_copyOfRange_feecc 4 = .ok (.iload_n 2, 1) := by decide +kernel
theorem dJ7_copyOfRange_feecc_5 : decode cJ7_copyOfRange_feecc 5 = .ok (.aload_n 0, 1) := by decide +kernel
theorem dJ7_copyOfRange_feecc_6 : decode cJ7_copyOfRange_feecc 6 = .ok (.arraylength, 1) := by decide +kernel
theorem dJ7_copyOfRange_feecc_7 : decode cJ7_copyOfRange_feecc 7 = .ok (.if_icmp .eq 10, 3) := by decide +kernel
theorem dJ7_copyOfRange_feecc_10 : decode cJ7_copyOfRange_feecc 10 = .ok (.aload_n 0, 1) := by decide +kernel
theorem dJ7_copyOfRange_feecc_11 : decode cJ7_copyOfRange_feecc 11 = .ok (.iload_n 1, 1) := by decide +kernel
theorem dJ7_copyOfRange_feecc_12 : decode cJ7_copyOfRange_feecc 12 = .ok (.iload_n 2, 1) := by decide +kernel
theorem dJ7_copyOfRange_feecc_13 : decode cJ7_copyOfRange_feecc 13 = .ok (.invokestatic 351, 3) := by decide +kernel
theorem dJ7_copyOfRange_feecc_16 : decode cJ7_copyOfRange_feecc 16 = .ok (.areturn, 1) := by decide +kernel
theorem dJ7_copyOfRange_feecc_17 : decode cJ7_copyOfRange_feecc 17 = .ok (.aload_n 0, 1) := by decide +kernel
theorem dJ7_copyOfRange_feecc_18 : decode cJ7_copyOfRange_feecc 18 = .ok (.invokevirtual 316, 3) := by decide +kernel
theorem dJ7_copyOfRange_feecc_21 : decode cJ7_copyOfRange_feecc 21 = .ok (.checkcast 317, 3) := by decide +kernel
theorem dJ7_copyOfRange_feecc_24 : decode cJ7_copyOfRange_feecc 24 = .ok (.areturn, 1) := by decide +kernel
theorem dJ7_copyOfRangeInt_feecc_0 : decode cJ7_copyOfRangeInt_feecc 0 = .ok (.iload_n 1, 1) := by decide +kernel
theorem dJ7_copyOfRangeInt_feecc_1 : decode cJ7_copyOfRangeInt_feecc 1 = .ok (.iload_n 2, 1) := by decide +kernel
theorem dJ7_copyOfRangeInt_feecc_2 : decode cJ7_copyOfRangeInt_feecc 2 = .ok (.invokestatic 343, 3) := by decide +kernel
theorem dJ7_copyOfRangeInt_feecc_5 : decode cJ7_copyOfRangeInt_feecc 5 = .ok (.iload_n 2, 1) := by decide +kernel
theorem dJ7_copyOfRangeInt_feecc_6 : decode cJ7_copyOfRangeInt_feecc 6 = .ok (.iload_n 1, 1) := by decide +kernel
theorem dJ7_copyOfRangeInt_feecc_7 : decode cJ7_copyOfRangeInt_feecc 7 = .ok (.isub, 1) := by decide +kernel
theorem dJ7_copyOfRangeInt_feecc_8 : decode cJ7_copyOfRangeInt_feecc 8 = .ok (.istore_n 3, 1) := by decide +kernel
theorem dJ7_copyOfRangeInt_feecc_9 : decode cJ7_copyOfRangeInt_feecc 9 = .ok (.iload_n 3, 1) := by decide +kernel
theorem dJ7_copyOfRangeInt_feecc_10 : decode cJ7_copyOfRangeInt_feecc 10 = .ok (.newarray .int, 2) := by decide +kernel
theorem dJ7_copyOfRangeInt_feecc_12 : decode cJ7_copyOfRangeInt_feecc 12 = .ok (.astore 4, 2) := by decide +kernel
theorem dJ7_copyOfRangeInt_feecc_14 : decode cJ7_copyOfRangeInt_feecc 14 = .ok (.aload_n 0, 1) := by decide +kernel
theorem dJ7_copyOfRangeInt_feecc_15 : decode cJ7_copyOfRangeInt_feecc 15 = .ok (.iload_n 1, 1) := by decide +kernel
theorem dJ7_copyOfRangeInt_feecc_16 : decode cJ7_copyOfRangeInt_feecc 16 = .ok (.aload 4, 2) := by decide +kernel
theorem dJ7_copyOfRangeInt_feecc_18 : decode cJ7_copyOfRangeInt_feecc 18 = .ok (.iconst 0, 1) := by decide +kernel
theorem dJ7_copyOfRangeInt_feecc_19 : decode cJ7_copyOfRangeInt_feecc 19 = .ok (.aload_n 0, 1) := by decide +kernel
theorem dJ7_copyOfRangeInt_feecc_20 : decode cJ7_copyOfRangeInt_feecc 20 = .ok (.arraylength, 1) := by decide +kernel
theorem dJ7_copyOfRangeInt_feecc_21 : decode cJ7_copyOfRangeInt_feecc 21 = .ok (.iload_n 1, 1) := by decide +kernel
theorem dJ7_copyOfRangeInt_feecc_22 : decode cJ7_copyOfRangeInt_feecc 22 = .ok (.isub, 1) := by decide +kernel
theorem dJ7_copyOfRangeInt_feecc_23 : decode cJ7_copyOfRangeInt_feecc 23 = .ok (.iload_n 3, 1) := by decide +kernel
theorem dJ7_copyOfRangeInt_feecc_24 : decode cJ7_copyOfRangeInt_feecc 24 = .ok (.invokestatic 304, 3) := by decide +kernel
theorem dJ7_copyOfRangeInt_feecc_27 : decode cJ7_copyOfRangeInt_feecc 27 = .ok (.invokestatic 150, 3) := by decide +kernel
theorem dJ7_copyOfRangeInt_feecc_30 : decode cJ7_copyOfRangeInt_feecc 30 = .ok (.aload 4, 2) := by decide +kernel
theorem dJ7_copyOfRangeInt_feecc_32 : decode cJ7_copyOfRangeInt_feecc 32 = .ok (.areturn, 1) := by decide +kernel
set_option maxRecDepth 20000 in
theorem hY_checkLength : vYS RJ7 yJ7_checkLength_df160 cJ7_checkLength_df160 2 none 2 := ⟨tg_at 714 (by decide +kernel) rfl, tg_at 109 (by decide +kernel) rfl, tg_at 715 (by rfl) rfl, rfl, by decide, by decide, by decide +kernel⟩
set_option maxRecDepth 20000 in
theorem hY_copyOfRangeInt : vYS RJ7 yJ7_copyOfRangeInt_feecc cJ7_copyOfRangeInt_feecc 5 (some (.array .int)) 3 := ⟨tg_at 711 (by decide +kernel) rfl, tg_at 109 (by decide +kernel) rfl, tg_at 712 (by rfl) rfl, rfl, by decide, by decide, by decide +kernel⟩
set_option maxRecDepth 20000 in
theorem hY_copyOfRange : vYS RJ7 yJ7_copyOfRange_feecc cJ7_copyOfRange_feecc 3 (some (.array .int)) 3 := ⟨tg_at 708 (by decide +kernel) rfl, tg_at 109 (by decide +kernel) rfl, tg_at 709 (by rfl) rfl, rfl, by decide, by decide, by decide +kernel⟩
set_option maxRecDepth 20000 in
theorem jl_351 : Cond.methodLink RJ7 351 yJ7_copyOfRangeInt_feecc ∈ tg := tg_at 710 (by decide +kernel) rfl
set_option maxRecDepth 20000 in
theorem jl_343 : Cond.methodLink RJ7 343 yJ7_checkLength_df160 ∈ tg := tg_at 713 (by decide +kernel) rfl
set_option maxRecDepth 20000 in
theorem jl_304 : Cond.methodLink RJ7 304 Lib.Math.min.name ∈ tg := tg_at 716 (by decide +kernel) rfl
set_option maxRecDepth 20000 in
theorem jl_150 : Cond.methodLink RJ7 150 arraycopyName ∈ tg := tg_at 719 (by decide +kernel) rfl
set_option maxRecDepth 20000 in
theorem jy_n : Cond.native arraycopyName ∈ tg := tg_at 721 (by decide +kernel) rfl
set_option maxRecDepth 20000 in
theorem jy_s : Cond.static arraycopyName ∈ tg := tg_at 720 (by decide +kernel) rfl
set_option maxRecDepth 20000 in
theorem jy_i : Cond.initialized "java/lang/System" ∈ tg := tg_at 111 (by decide +kernel) rfl
set_option maxRecDepth 20000 in
theorem ja_int : Cond.arrayClass .int ∈ tg := tg_at 146 (by decide +kernel) rfl
def sA (σ : CS) (t : Nat) (f : Nat → Int32) : CS := ((fun a => if a = t then f else σ.1 a), σ.2)
theorem sA_cell {cy : Nat → ClassId} {ad : Nat → Nat} {σ : CS} {t : Nat} {f : Nat → Int32} (i : Nat) (hi : i ≠ t) : cellC cy ad (sA σ t f) i = cellC cy ad σ i := by
  have h1 : (sA σ t f).1 i = σ.1 i := by simp [sA, hi]
  have h2 : ∀ ci, fvC ad (sA σ t f) i ci = fvC ad σ i ci := fun ci => by
    funext q
    unfold fvC
    rw [h1]
    rfl
  have h3 : knd (sA σ t f) i = knd σ i := rfl
  have h4 : lnC (sA σ t f) i = lnC σ i := rfl
  have h5 : rfv (sA σ t f) i = rfv σ i := rfl
  simp only [cellC, h1, h2, h3, h4, h5]
theorem wc_sAll (cy : Nat → ClassId) (ad : Nat → Nat) (σ : CS) {j : Nat} (f : Nat → Int32) (h : okc σ j 12 = true) : (wc cy ad σ).set j (ad j, .inl (cy 0, lnC σ j, .inl f)) = wc cy ad (sA σ j f) := by
  refine wc_cong (σ := σ) (σ' := sA σ j f) rfl j _ ?_ (fun i hi => sA_cell i hi)
  have h3 : knd (sA σ j f) j = 12 := okc_k h
  have h4 : lnC (sA σ j f) j = lnC σ j := rfl
  simp only [cellC, h3, h4]
  simp [sA]
/-- a copy of a part of the row of signs, in a new row -/
def cpC (σ : CS) (f N : Nat) : CS := sA (nwC σ 12 N) (49 + ndC σ) (va_cpy ((nwC σ 12 N).1 35) ((nwC σ 12 N).1 (49 + ndC σ)) f 0 N)
def cpok (f t : Int32) : Bool := decide (0 ≤ f) && decide (f ≤ t) && decide (t ≤ 3600) && decide (t - f ≤ 50)
theorem cpok_of {f t : Int32} (h : cpok f t = true) : ∃ a b : Nat, f = nI a ∧ t = nI b ∧ a ≤ b ∧ b ≤ 3600 ∧ b - a ≤ 50 := by
  simp only [cpok, Bool.and_eq_true, decide_eq_true_eq] at h
  obtain ⟨⟨⟨h1, h2⟩, h3⟩, h4⟩ := h
  have k1 : ¬ f < 0 := Int32.not_lt.mpr h1
  have k2 : ¬ t < 0 := Int32.not_lt.mpr (Int32.le_trans h1 h2)
  obtain ⟨b, hb, rfl⟩ := nI_of2 (M := 3600) (n := 3600) rfl k2 h3
  obtain ⟨a, ha, rfl⟩ := nI_of2 (M := 3600) (n := 3600) rfl k1 (Int32.le_trans h2 h3)
  have hab : a ≤ b := (nI_leI (by omega) (by omega)).mp h2
  rw [pk_sub hab, show (50 : Int32) = nI 50 from rfl] at h4
  exact ⟨a, b, rfl, rfl, hab, hb, (nI_leI (by omega) (by omega)).mp h4⟩
theorem c_checkLength {l : Launch} {D : va_G} {cy : Nat → ClassId} {ad : Nat → Nat} (hA : adOK ad) (f t : Int32) (σ : CS) (h : f ≤ t) : MV l D (cyT cy) (inC ad) yJ7_checkLength_df160 cJ7_checkLength_df160 2 none 0 0 0 0 [.int f, .int t] (wc cy ad σ) none (wc cy ad σ) := by
  refine MV.of (by decide) (wc_D hA cy σ) (Nat.le_of_ble_eq_true rfl) [(0, .int f), (1, .int t)] rfl ?_
  intro p e s m args below meth c C
  refine v_iload_n C 1 dJ7_checkLength_df160_0 rfl rfl ?_
  refine v_iload_n C 0 dJ7_checkLength_df160_1 rfl rfl ?_
  refine v_icmp_ge C 37 dJ7_checkLength_df160_2 (by decide) (fun c1 => ?_) (fun c1 => absurd h c1)
  exact v_vret C dJ7_checkLength_df160_37
section JC
variable {p : Program} {l : Launch} {e : Env} {R : Room} {s : State} {m : MethodId} {args : Array Value} {below : List Frame} {meth : Method} {c : Code} {Q : State → Prop} {cc : ByteArray} {nL kc ks pc n0 : Nat} {ret : Option FieldType} {own : String} {D : va_G} {ls : List (Nat × Value)} {st : List Value} {cy : Nat → ClassId} {ad : Nat → Nat} {σ : CS}
theorem r_copy (C : vC p s m args meth c cc nL ret own D (cyT cy)) {idx j t a b N : Nat} (h1 : Cond.methodLink own idx arraycopyName ∈ tg) (ho : okc σ j 12 = true) (ho2 : okc σ t 12 = true) (ha : a < 2 ^ 31) (hN : N < 2 ^ 31) (h4 : a + N ≤ lnC σ j) (h5 : N ≤ lnC σ t) (hfr : 1 ≤ R.frames) (hlo : (st.map fun v => v.category).sum + 18 ≤ R.locals) (d : decode cc pc = .ok (.invokestatic idx, 3)) (k : V p l e R s m args below meth c D (inC ad) nL Q kc ks (wc cy ad (sA σ t (va_cpy (σ.1 j) (σ.1 t) a 0 N))) (pc + 3) ls st) : V p l e R s m args below meth c D (inC ad) nL Q kc ks (wc cy ad σ) pc ls (.int (nI N) :: .int 0 :: .ref (ad t) :: .int (nI a) :: .ref (ad j) :: st) := fun H locs la hP hD hS hl => by
  have e := wc_sAll cy ad σ (va_cpy (σ.1 j) (σ.1 t) a 0 N) ho2
  refine va_copyi C.1 C.2.1 (C.2.2.1.trans hl.1.symm) C.2.2.2.1 (C.2.2.2.2.1 _ h1) (C.2.2.2.2.1 _ jy_n) (C.2.2.2.2.1 _ jy_s) (C.2.2.2.2.1 _ jy_i) C.2.2.2.2.2.2.2.1 hP hD hS j t 0 0 (wc_int cy ad σ ho) (wc_int cy ad σ ho2) rfl rfl rfl (nI_pos ha) (by decide) (nI_pos hN) (by rw [nI_clamp ha, nI_clamp hN]; exact h4) (by rw [nI_clamp hN]; show 0 + N ≤ _; omega) (fun _ _ => rfl) hfr (by simpa [nativeFrameWords] using hlo) d (fun H1 locs1 hP1 hD1 hS1 => ?_)
  rw [nI_clamp ha, nI_clamp hN, show (0 : Int32).toNatClampNeg = 0 from rfl, e] at hP1 hD1
  exact k H1 locs1 la hP1 hD1 hS1 hl
end JC
theorem c_copyInt {l : Launch} {D : va_G} {cy : Nat → ClassId} {ad : Nat → Nat} (hA : adOK ad) (a b : Nat) (h1 : a ≤ b) (h2 : b ≤ 3600) (h3 : b - a ≤ 50) (σ : CS) : MVA l D cy ad yJ7_copyOfRangeInt_feecc cJ7_copyOfRangeInt_feecc 5 (some (.array .int)) 2 40 1 50 [.ref (ad 35), .int (nI a), .int (nI b)] σ (some (va_rf (Option.map ad (some (49 + ndC σ))))) (cpC σ a (b - a)) := by
  refine MVA.of (by decide) (wc_D hA cy σ) (Nat.le_of_ble_eq_true rfl) [(0, .ref (ad 35)), (1, .int (nI a)), (2, .int (nI b))] rfl ?_
  intro p e s m args below meth c C hz hnm
  obtain ⟨n0, hn⟩ : ∃ n0, ndC σ = n0 + 0 := ⟨_, rfl⟩
  have hz : s.heap.size = ad (49 + n0) := by rw [hz, hn, Nat.add_zero]
  have hle : nI a ≤ nI b := nI_le h1 (by omega)
  refine v_iload_n C 1 dJ7_copyOfRangeInt_feecc_0 rfl rfl ?_
  refine v_iload_n C 2 dJ7_copyOfRangeInt_feecc_1 rfl rfl ?_
  refine v_callS C [.int (nI a), .int (nI b)] [] (c_checkLength hA _ _ σ hle) hY_checkLength jl_343 ⟨Nat.le_of_ble_eq_true rfl, Nat.le_of_ble_eq_true rfl⟩ ⟨Nat.zero_le _, Nat.zero_le _⟩ rfl rfl (Nat.le_of_ble_eq_true rfl) dJ7_copyOfRangeInt_feecc_2 (fun _ => wc_D hA cy _) ?_
  refine v_iload_n C 2 dJ7_copyOfRangeInt_feecc_5 rfl rfl ?_
  refine v_iload_n C 1 dJ7_copyOfRangeInt_feecc_6 rfl rfl ?_
  refine v_isub C dJ7_copyOfRangeInt_feecc_7 ?_
  rw [pk_sub h1]
  refine v_istore_n C [(3, .int (nI (b - a))), (0, .ref (ad 35)), (1, .int (nI a)), (2, .int (nI b))] dJ7_copyOfRangeInt_feecc_8 rfl (by decide) rfl ?_
  refine v_iload_n C 0 dJ7_copyOfRangeInt_feecc_9 rfl rfl ?_
  refine r_newi C hA hz hn ja_int (nI_pos (by omega)) (nI_clamp (by omega)) (by omega) (by omega : 0 + 1 ≤ 1) (by show 0 + (b - a) ≤ 50; omega) dJ7_copyOfRangeInt_feecc_10 ?_
  have hn2 : ndC (nwC σ 12 (b - a)) = n0 + (0 + 1) := by have h9 : ndC (nwC σ 12 (b - a)) = ndC σ + 1 := rfl; omega
  refine v_astore C [(4, .ref (ad (49 + ndC σ))), (3, .int (nI (b - a))), (0, .ref (ad 35)), (1, .int (nI a)), (2, .int (nI b))] dJ7_copyOfRangeInt_feecc_12 (by decide) rfl ?_
  refine v_aload_n C 2 dJ7_copyOfRangeInt_feecc_14 rfl rfl ?_
  refine v_iload_n C 3 dJ7_copyOfRangeInt_feecc_15 rfl rfl ?_
  refine v_aload C 0 dJ7_copyOfRangeInt_feecc_16 rfl ?_
  refine v_iconst C 0 dJ7_copyOfRangeInt_feecc_18 (by decide) ?_
  refine v_aload_n C 2 dJ7_copyOfRangeInt_feecc_19 rfl rfl ?_
  refine c_alen C (okS _ 35 (by decide) rfl) dJ7_copyOfRangeInt_feecc_20 ?_
  rw [show lnC (nwC σ 12 (b - a)) 35 = 3600 from rfl, show Int32.ofNat 3600 = nI 3600 from rfl]
  refine v_iload_n C 3 dJ7_copyOfRangeInt_feecc_21 rfl rfl ?_
  refine v_isub C dJ7_copyOfRangeInt_feecc_22 ?_
  rw [pk_sub (show a ≤ 3600 by omega)]
  refine v_iload_n C 1 dJ7_copyOfRangeInt_feecc_23 rfl rfl ?_
  refine c_min C jl_304 mm_1 mm_2 mm_3 (Nat.le_of_ble_eq_true rfl) (Nat.le_of_ble_eq_true rfl) (Nat.le_of_ble_eq_true rfl) (by show 0 + (b - a) ≤ 50; omega) dJ7_copyOfRangeInt_feecc_24 ?_
  rw [show (if nI (b - a) < nI (3600 - a) then nI (b - a) else nI (3600 - a)) = nI (b - a) by
    by_cases h9 : b - a < 3600 - a
    · rw [if_pos (nI_lt h9 (by omega))]
    · rw [if_neg (nI_nlt (by omega) (by omega)), show 3600 - a = b - a by omega]]
  refine r_copy C (a := a) (b := b) jl_150 (okS _ 35 (by decide) rfl) (ok_new σ 12 (b - a)) (by omega) (by omega) (show a + (b - a) ≤ 3600 by omega) (by rw [nw_ln]; omega) (Nat.le_of_ble_eq_true rfl) (Nat.le_of_ble_eq_true rfl) dJ7_copyOfRangeInt_feecc_27 ?_
  refine v_aload C 0 dJ7_copyOfRangeInt_feecc_30 rfl ?_
  exact r_aret C rfl (Or.inr ⟨_, rfl⟩) (some (49 + ndC σ)) hA hz (σ := cpC σ a (b - a)) hn2 (Nat.le_refl _) (by show 0 + (b - a) ≤ 50; omega) dJ7_copyOfRangeInt_feecc_32
theorem c_copy {l : Launch} {D : va_G} {cy : Nat → ClassId} {ad : Nat → Nat} (hA : adOK ad) (a b : Nat) (h1 : a ≤ b) (h2 : b ≤ 3600) (h3 : b - a ≤ 50) (σ : CS) : MVA l D cy ad yJ7_copyOfRange_feecc cJ7_copyOfRange_feecc 3 (some (.array .int)) 3 70 1 50 [.ref (ad 35), .int (nI a), .int (nI b)] σ (some (va_rf (Option.map ad (some (49 + ndC σ))))) (cpC σ a (b - a)) := by
  refine MVA.of (by decide) (wc_D hA cy σ) (Nat.le_of_ble_eq_true rfl) [(0, .ref (ad 35)), (1, .int (nI a)), (2, .int (nI b))] rfl ?_
  intro p e s m args below meth c C hz hnm
  obtain ⟨n0, hn⟩ : ∃ n0, ndC σ = n0 + 0 := ⟨_, rfl⟩
  have hz : s.heap.size = ad (49 + n0) := by rw [hz, hn, Nat.add_zero]
  have hn2 : ndC (cpC σ a (b - a)) = n0 + 1 := by have h9 : ndC (cpC σ a (b - a)) = ndC σ + 1 := rfl; omega
  have key : V p l e { frames := 3, cells := 1, slots := 50, locals := 70 } s m args below meth c D (inC ad) 3 (MQ below (vQA D cy ad (some (va_rf (Option.map ad (some (49 + ndC σ))))) (cpC σ a (b - a))) args s 1 50 (inC ad)) 0 0 (wc cy ad σ) 10 [(0, .ref (ad 35)), (1, .int (nI a)), (2, .int (nI b))] [] := by
    refine v_aload_n C 0 dJ7_copyOfRange_feecc_10 rfl rfl ?_
    refine v_iload_n C 1 dJ7_copyOfRange_feecc_11 rfl rfl ?_
    refine v_iload_n C 2 dJ7_copyOfRange_feecc_12 rfl rfl ?_
    refine r_callS C hA hz hn [.ref (ad 35), .int (nI a), .int (nI b)] [] (c_copyInt hA a b h1 h2 h3 σ) hn2 hY_copyOfRangeInt jl_351 ⟨Nat.le_of_ble_eq_true rfl, Nat.le_of_ble_eq_true rfl⟩ ⟨Nat.le_refl _, Nat.le_refl _⟩ rfl rfl (Nat.le_of_ble_eq_true rfl) dJ7_copyOfRange_feecc_13 ?_
    exact r_aret C rfl (Or.inr ⟨_, rfl⟩) (some (49 + ndC σ)) hA hz hn2 (Nat.le_refl _) (Nat.le_refl _) dJ7_copyOfRange_feecc_16
  refine v_iload_n C 1 dJ7_copyOfRange_feecc_0 rfl rfl ?_
  refine v_if_ne C 10 dJ7_copyOfRange_feecc_1 (by decide) (fun c1 => ?_) (fun c1 => ?_)
  · exact key
  · refine v_iload_n C 2 dJ7_copyOfRange_feecc_4 rfl rfl ?_
    refine v_aload_n C 0 dJ7_copyOfRange_feecc_5 rfl rfl ?_
    refine c_alen C (okS _ 35 (by decide) rfl) dJ7_copyOfRange_feecc_6 ?_
    rw [show lnC σ 35 = 3600 from rfl, show Int32.ofNat 3600 = nI 3600 from rfl]
    refine v_icmp_eq C 17 dJ7_copyOfRange_feecc_7 (by decide) (fun c2 => ?_) (fun c2 => ?_)
    · have ha : a = 0 := (nI_eq (by omega) (by omega)).mp (show nI a = nI 0 from c1)
      have hb : b = 3600 := (nI_eq (by omega) (by omega)).mp c2
      omega
    · exact key
