section KREAD2
variable {L : Lw} {ents : List (Tr × Tr)} {tx : List Nat}
/-- a sign of a kept form -/
theorem k_signAt {σ : CS} {f k : Nat} {t : Tr} (h : formK σ f t) (hk : k < ln t) (hl : ln t ≤ 50) : f_Form_signAt f (i32 k) σ = some (i32 ((enc t).getD k 0), σ) := by
  obtain ⟨a1, r, a2, a3, a4, a5, a6⟩ := h
  unfold f_Form_signAt B_Form_signAt_24
  rw [if_neg (show ¬ (i32 k < 0) from by rw [show (0 : Int32) = i32 0 from rfl, z_lt (by omega) (by omega)]; omega), if_pos a1, a2, Option.bind_some, if_pos a4, a5, if_neg (show ¬ (Int32.ofNat (ln t) ≤ i32 k) from by rw [show Int32.ofNat (ln t) = i32 (ln t) from rfl, z_le (by omega) (by omega)]; omega), if_pos a1, Option.bind_some, if_pos a4, a5, if_pos (show ix (i32 k) (ln t) = true from c_ix hk (by omega)), z_nn (by omega), a6 k hk]
theorem k_add {σ : CS} {T : Nat} (x : Int32) (hT : σ.1 34 1 = i32 T) (h : T < 3600) : f_Signs_add x σ = some (1, sI (sI σ 35 T x) 34 1 (i32 (T + 1))) := by
  have e1 : (sI σ 35 T x).1 34 1 = i32 T := by rw [sI_ne _ _ (Or.inl (by decide))]; exact hT
  unfold f_Signs_add
  rw [hT, if_neg (show ¬ (i32 T < 0) from by rw [show (0 : Int32) = i32 0 from rfl, z_lt (by omega) (by omega)]; omega), if_pos (show i32 T < 3600 from by rw [show (3600 : Int32) = i32 3600 from rfl, z_lt (by omega) (by omega)]; exact h), if_pos (show ix (i32 T) (lS 35) = true from c_ix (show T < lS 35 from h) (by omega)), z_nn (by omega), e1, show i32 T + 1 = i32 (T + 1) from by rw [z1, z_add]]
def AC : List Nat := [34, 35]
theorem AC_lt : ∀ j ∈ AC, j < 49 := by decide
theorem cCK {σ τ : CS} (h : chK AC σ τ) : chK AK σ τ := cK_mo h (by simp [AC, AK])
theorem k_copyOf_l {f : Nat} {t : Tr} (hl : ln t ≤ 50) (x2 : Int32) : ∀ (d F k T : Nat) (σ : CS), formK σ f t → k + d = ln t → d < F → σ.1 34 1 = i32 (T + k) → T + ln t ≤ 3600 → (∀ j, j < k → σ.1 35 (T + j) = i32 ((enc t).getD j 0)) → ∃ τ, L_Signs_copyOf_13 F (some f) x2 (i32 k) σ = some (x2, τ) ∧ τ.1 34 1 = i32 (T + ln t) ∧ (∀ j, j < ln t → τ.1 35 (T + j) = i32 ((enc t).getD j 0)) ∧ (∀ j, j < T → τ.1 35 j = σ.1 35 j) ∧ chK AC σ τ := by
  intro d
  induction d with
  | zero =>
    intro F k T σ hf hk hF hT hT2 hj
    obtain ⟨G, rfl⟩ : ∃ G, F = G + 1 := ⟨F - 1, by omega⟩
    obtain ⟨a1, r, a2, a3, a4, a5, a6⟩ := hf
    refine ⟨σ, ?_, by rw [hT]; congr 1; omega, fun j hj' => hj j (by omega), fun j _ => rfl, cK_rf _ _⟩
    rw [L_Signs_copyOf_13, Option.bind_some, if_pos a1, a2, Option.bind_some, if_pos a4, a5, if_pos (show Int32.ofNat (ln t) ≤ i32 k from by rw [show Int32.ofNat (ln t) = i32 (ln t) from rfl, z_le (by omega) (by omega)]; omega)]
  | succ d ih =>
    intro F k T σ hf hk hF hT hT2 hj
    obtain ⟨G, rfl⟩ : ∃ G, F = G + 1 := ⟨F - 1, by omega⟩
    have hsg := k_signAt (k := k) hf (by omega) hl
    have hf' := hf
    obtain ⟨a1, r, a2, a3, a4, a5, a6⟩ := hf
    have c1 : chK AC σ (sI (sI σ 35 (T + k) (i32 ((enc t).getD k 0))) 34 1 (i32 (T + k + 1))) := cK_tr (cK_sI σ _ (by decide) (by omega) (by omega)) (cK_sI _ _ (by decide) (fun _ => rfl) (by omega))
    obtain ⟨τ, e1, e2, e3, e4, e5⟩ := ih G (k + 1) T _ (formK_ch hf' c1 AC_lt) (by omega) (by omega) (by rw [sI_at, Nat.add_assoc]) hT2 (fun j hj' => by
      rw [sI_ne _ _ (Or.inl (by decide))]
      by_cases hjk : j = k
      · rw [hjk, sI_at]
      · rw [sI_ne _ _ (Or.inr (by omega))]
        exact hj j (by omega))
    refine ⟨τ, ?_, e2, e3, fun j hj' => ?_, cK_tr c1 e5⟩
    · rw [L_Signs_copyOf_13, Option.bind_some, if_pos a1, a2, Option.bind_some, if_pos a4, a5, if_neg (show ¬ (Int32.ofNat (ln t) ≤ i32 k) from by rw [show Int32.ofNat (ln t) = i32 (ln t) from rfl, z_le (by omega) (by omega)]; omega), if_pos a1, hsg, Option.bind_some]
      dsimp only
      rw [k_add _ hT (by omega), Option.bind_some]
      dsimp only
      rw [show i32 k + 1 = i32 (k + 1) from by rw [z1, z_add]]
      exact e1
    · rw [e4 j hj', sI_ne _ _ (Or.inl (by decide)), sI_ne _ _ (Or.inr (by omega))]
/-- a kept form is copied to the rows -/
theorem k_copyOf {σ : CS} {f T : Nat} {t : Tr} (V : Nat) (hf : formK σ f t) (hl : ln t ≤ 50) (hT : σ.1 34 1 = i32 T) (hT2 : T + ln t ≤ 3600) : ∃ τ, f_Signs_copyOf (some f) σ = some (i32 T, τ) ∧ τ.1 34 1 = i32 (T + ln t) ∧ fm (τ.1 35) t T ∧ kpK σ τ V T ∧ chK AC σ τ := by
  obtain ⟨τ, e1, e2, e3, e4, e5⟩ := k_copyOf_l hl (i32 T) (ln t) 10000 0 T σ hf (by omega) (by omega) hT hT2 (fun j hj => absurd hj (by omega))
  refine ⟨τ, ?_, e2, (fm_iff t T).mpr e3, ⟨fun i _ => ⟨by rw [e5.2.1 39 (by decide)], by rw [e5.2.1 40 (by decide)], by rw [e5.2.1 41 (by decide)]⟩, fun i hi => e4 i hi⟩, e5⟩
  unfold f_Signs_copyOf
  show L_Signs_copyOf_13 10000 (some f) (σ.1 34 1) 0 σ = _
  rw [hT, show (0 : Int32) = i32 0 from rfl, e1]
/-- an entry by its number -/
theorem k_shelfAt {σ : CS} {a c : Nat} {x : Tr × Tr} (h : shK σ a ents) (hx : ents[c]? = some x) : ∃ e, f_Shelf_at a (i32 c) σ = some (some e, σ) ∧ entK σ e x := by
  obtain ⟨a1, a2, a3, r, a4, a5, a6, a7⟩ := h
  obtain ⟨e, b1, b2⟩ := a7 c x hx
  have hlt := (List.getElem?_eq_some_iff.mp hx).1
  refine ⟨e, ?_, b2⟩
  unfold f_Shelf_at B_Shelf_at_28
  rw [if_neg (show ¬ (i32 c < 0) from by rw [show (0 : Int32) = i32 0 from rfl, z_lt (by omega) (by omega)]; omega), if_pos a1, a2, if_neg (show ¬ (i32 ents.length ≤ i32 c) from by rw [z_le (by omega) (by omega)]; omega), if_neg (show ¬ ((6 : Int32) ≤ i32 c) from by rw [show (6 : Int32) = i32 6 from rfl, z_le (by omega) (by omega)]; omega), if_pos a1, a4, Option.bind_some, if_pos a5, a6, if_pos (show ix (i32 c) 6 = true from c_ix (by omega) (by omega)), z_nn (by omega), b1]
theorem k_shelfNo {σ : CS} {a : Nat} {x : Int32} (h : shK σ a ents) (hx : x < 0 ∨ i32 ents.length ≤ x) : f_Shelf_at a x σ = some (none, σ) := by
  obtain ⟨a1, a2, a3, r, a4, a5, a6, a7⟩ := h
  unfold f_Shelf_at B_Shelf_at_27 B_Shelf_at_28
  by_cases h0 : x < 0
  · rw [if_pos h0]
  · rw [if_neg h0, if_pos a1, a2, if_pos (hx.resolve_left h0)]
/-- an entry -/
theorem k_readEntry (hw : WL L ents tx) {vt : List Rq} {σ : CS} {p V T : Nat} (hv : vtOK L vt) (hs : RK L ents tx σ T) (hd : DK vt σ V T p) (hp : p < tx.length) : InO L ents tx (f_Reader_readEntry σ) vt.length σ p V T (match (if 48 ≤ byt tx (p + 1) then ents[byt tx (p + 1) - 48]? else none) with
      | some e => stl (nft e.1 [] vt.length) (qs (shp e.1) (evD e.2 []) vt.length) vt.length p (p + 2)
      | none => .error (p + 1)) := by
  have hl := hw.2.2.2.1
  have hl3 := (W34 hw).1
  have hL := (W34 hw).2
  have hv10 := hv.1
  have hd' := hd
  obtain ⟨d1, d2, d3, d4, d5, d6, d7, d8⟩ := hd
  have h437 : (sI σ 43 7 (i32 (p + 1))).1 43 7 = i32 (p + 1) := sI_at _ _ _ _
  have f7 := FK_43 σ 7 (i32 (p + 1)) V T vt.length (by omega)
  have hs7 := RK_go hs f7.1 f7.2.1 (Nat.le_refl T)
  have hgo0 : f_Reader_readEntry σ = (f_Reader_peek (sI σ 43 7 (i32 (p + 1)))).bind fun q1 => ((rfv (sI σ 43 7 (i32 (p + 1))) 43 6)).bind fun a1 => if okc q1.2 a1 5 then (f_Shelf_at a1 (q1.1 - 48) q1.2).bind fun q2 => (Option.elim q2.1 ((f_Reader_fail (q2.2.1 43 7) q2.2).bind fun q3 => if bzb q3.1 then some (q3.1, q3.2) else none) (fun a2 => if okc (sI q2.2 43 7 ((q2.2.1 43 7) + 1)) a2 0 then (f_Signs_copyOf (rfv (sI q2.2 43 7 ((q2.2.1 43 7) + 1)) a2 0) (sI q2.2 43 7 ((q2.2.1 43 7) + 1))).bind fun q4 => if okc q4.2 a2 0 then (f_Signs_copyOf (rfv q4.2 a2 1) q4.2).bind fun q5 => (f_Values_evaluate 220 q5.1 0 104 q5.2).bind fun q6 => (f_Values_typeAt q4.1 0 q6.2).bind fun q7 => (f_Reader_hasRead q7.1 q6.1 q7.2).bind fun q8 => if bzb q8.1 then some (q8.1, q8.2) else none else none else none)) else none := by
    unfold f_Reader_readEntry
    rw [d6, show i32 p + 1 = i32 (p + 1) from by rw [z1, z_add]]
  obtain ⟨x1, x2, x3, x4, a, x5, x6, x7⟩ := hs7
  have hs7 : RK L ents tx (sI σ 43 7 (i32 (p + 1))) T := ⟨x1, x2, x3, x4, a, x5, x6, x7⟩
  cases he : (if 48 ≤ byt tx (p + 1) then ents[byt tx (p + 1) - 48]? else none) with
  | none =>
    refine In_bad (τ := sI (sI σ 43 7 (i32 (p + 1))) 43 8 (i32 (p + 1))) (by omega) ?_ (sI_at _ _ _ _) (cK_tr f7.2.1 (FK_43 _ 8 _ V T vt.length (by omega)).2.1)
    rw [hgo0]
    have key : ∀ c : Int32, f_Reader_peek (sI σ 43 7 (i32 (p + 1))) = some (c, sI σ 43 7 (i32 (p + 1))) → (c - 48 < 0 ∨ i32 ents.length ≤ c - 48) → ((f_Reader_peek (sI σ 43 7 (i32 (p + 1)))).bind fun q1 => ((rfv (sI σ 43 7 (i32 (p + 1))) 43 6)).bind fun a1 => if okc q1.2 a1 5 then (f_Shelf_at a1 (q1.1 - 48) q1.2).bind fun q2 => (Option.elim q2.1 ((f_Reader_fail (q2.2.1 43 7) q2.2).bind fun q3 => if bzb q3.1 then some (q3.1, q3.2) else none) (fun a2 => if okc (sI q2.2 43 7 ((q2.2.1 43 7) + 1)) a2 0 then (f_Signs_copyOf (rfv (sI q2.2 43 7 ((q2.2.1 43 7) + 1)) a2 0) (sI q2.2 43 7 ((q2.2.1 43 7) + 1))).bind fun q4 => if okc q4.2 a2 0 then (f_Signs_copyOf (rfv q4.2 a2 1) q4.2).bind fun q5 => (f_Values_evaluate 220 q5.1 0 104 q5.2).bind fun q6 => (f_Values_typeAt q4.1 0 q6.2).bind fun q7 => (f_Reader_hasRead q7.1 q6.1 q7.2).bind fun q8 => if bzb q8.1 then some (q8.1, q8.2) else none else none else none)) else none) = some (0, sI (sI σ 43 7 (i32 (p + 1))) 43 8 (i32 (p + 1))) := by
      intro c hc hx
      rw [hc, Option.bind_some, x5, Option.bind_some]
      dsimp only
      rw [if_pos x6.1, k_shelfNo x6 hx, Option.bind_some]
      show (f_Reader_fail ((sI σ 43 7 (i32 (p + 1))).1 43 7) (sI σ 43 7 (i32 (p + 1)))).bind (fun q3 => if bzb q3.1 then some (q3.1, q3.2) else none) = _
      rw [h437, fail_go]
    by_cases hp1 : p + 1 < tx.length
    · have h256 := byt_256 hw hp1
      refine key _ (k_peek hs7 h437 hl hp1) ?_
      by_cases h48 : 48 ≤ byt tx (p + 1)
      · rw [if_pos h48] at he
        have := List.getElem?_eq_none_iff.mp he
        refine Or.inr ?_
        rw [z_sub48 h48, z_le (by omega) (by omega)]
        exact this
      · refine Or.inl ?_
        rw [z48, show (0 : Int32) = i32 0 from rfl, z_neg (by omega) (by omega)]
        trivial
    · exact key _ (k_peek0 hs7 h437 hl (by omega) (by omega)) (Or.inl (by decide))
  | some e =>
    have h48 : 48 ≤ byt tx (p + 1) := by
      by_cases h : 48 ≤ byt tx (p + 1)
      · exact h
      · rw [if_neg h] at he; simp at he
    rw [if_pos h48] at he
    have hlt := (List.getElem?_eq_some_iff.mp he).1
    have hl6 := hw.2.2.1
    have hp1 : p + 1 < tx.length := byt_lt (by omega)
    obtain ⟨g1, g2, g3, g4⟩ := hw.2.1 e (List.mem_of_getElem? he)
    obtain ⟨c, b1, b2⟩ := k_shelfAt x6 he
    have f77 := FK_43 (sI σ 43 7 (i32 (p + 1))) 7 (i32 (p + 2)) V T vt.length (by omega)
    have h4372 : (sI (sI σ 43 7 (i32 (p + 1))) 43 7 (i32 (p + 2))).1 43 7 = i32 (p + 2) := sI_at _ _ _ _
    have f2 := FK_tr f7 f77 (Nat.le_refl _) (Nat.le_refl _) (Nat.le_refl _)
    have e2 := entK_ch b2 f77.2.1 AK_lt
    have hT77 : (sI (sI σ 43 7 (i32 (p + 1))) 43 7 (i32 (p + 2))).1 34 1 = i32 T := by rw [sI_ne _ _ (Or.inl (by decide)), sI_ne _ _ (Or.inl (by decide))]; exact d1
    have hV77 : (sI (sI σ 43 7 (i32 (p + 1))) 43 7 (i32 (p + 2))).1 38 4 = i32 V := by rw [sI_ne _ _ (Or.inl (by decide)), sI_ne _ _ (Or.inl (by decide))]; exact d2
    have hR0 : RdP L (ctx vt) (sI (sI σ 43 7 (i32 (p + 1))) 43 7 (i32 (p + 2))) V T := RdP_go (RdP_of hv hs hd' (by omega)) f2.1 f2.2.1 (fun k hk => f2.2.2.1 k (by rw [ctx_len] at hk; exact hk)) hT77 (Nat.le_refl _) hV77 (Nat.le_refl _) (by omega)
    have hgo := hgo0
    rw [k_peek hs7 h437 hl hp1, Option.bind_some, x5, Option.bind_some] at hgo
    dsimp only at hgo
    rw [if_pos x6.1, z_sub48 h48, b1, Option.bind_some] at hgo
    dsimp only [Option.elim] at hgo
    rw [h437, show i32 (p + 1) + 1 = i32 (p + 2) from by rw [z1, z_add]] at hgo
    generalize sI (sI σ 43 7 (i32 (p + 1))) 43 7 (i32 (p + 2)) = σ2 at hgo f2 e2 hT77 hV77 h4372 hR0
    obtain ⟨y1, fA, gA, y2, y3, y4, y5⟩ := e2
    rw [if_pos y1, y2] at hgo
    have lA : ln e.1 ≤ 50 := g2.1
    have lB : ln e.2 ≤ 50 := g4.1
    obtain ⟨σ3, c1, c2, c3, c4, c5⟩ := k_copyOf V y4 lA hT77 (by omega)
    rw [c1, Option.bind_some] at hgo
    dsimp only at hgo
    rw [okc_2 c5.1, if_pos y1, rfv_2 c5.1, y3] at hgo
    obtain ⟨σ4, j1, j2, j3, j4, j5⟩ := k_copyOf V (formK_ch y5 c5 AC_lt) lB c2 (by omega)
    rw [j1, Option.bind_some] at hgo
    dsimp only at hgo
    have cc := cK_tr c5 j5
    have kk := kK_tr c4 j4 (Nat.le_refl V) (show T ≤ T + ln e.1 by omega)
    have o4 : ∀ j k, j ≠ 34 → j ≠ 35 → σ4.1 j k = σ2.1 j k := fun j k h1 h2 => by rw [cc.2.1 j (by simp [AC]; omega)]
    have hV4 : σ4.1 38 4 = i32 V := by rw [o4 38 4 (by decide) (by decide)]; exact hV77
    have hR4 : RdP L (ctx vt) σ4 V (T + ln e.1 + ln e.2) := RdP_go hR0 kk (cCK cc) (fun k _ => o4 42 k (by decide) (by decide)) j2 (by omega) hV4 (Nat.le_refl _) (by omega)
    have hE4 : EvP σ4 V (T + ln e.1 + ln e.2) L.2.length := ⟨j2, by omega, hR4.1.2.1, hV4, d3⟩
    have fx4 : ∀ k, k < L.1.length → fxK σ4 k = fxL L k := lwP_fx hl3 hR4.1 (by omega)
    obtain ⟨v, τ, V1, k1, k2, k3, k4⟩ := k_evD hL e.2 [] true (shp e.1) g3 220 104 (T + ln e.1) V (T + ln e.1 + ln e.2) 0 [] σ4 (HT_pr hL _ _ _ _ _ g3) j3 (by omega) hE4 (enE_nil L (ctx vt)) g4.2 rfl (fun u hu => by simp at hu) (by omega) lB (by omega) (by omega) (by omega)
    rw [eval220, show (0 : Int32) = i32 0 from rfl, show (104 : Int32) = i32 104 from rfl, k1, Option.bind_some] at hgo
    dsimp only at hgo
    have hV1 := k2.2.1
    unfold f_Values_typeAt at hgo
    rw [obid, k_make _ _ _ k2.1 (by omega) (by omega), Option.bind_some] at hgo
    dsimp only at hgo
    rw [has_go] at hgo
    have cM := mkn_ch (A := AV) τ V1 10 (i32 T) (i32 0) (fun _ h => h)
    have kM := mkn_kp τ V1 10 (i32 T) (i32 0) (T + ln e.1 + ln e.2)
    have cV := cK_tr k2.2.2.2.2 cM
    have kV := kK_tr k2.2.2.2.1 kM hV1 (Nat.le_refl _)
    have hvv : (mkn τ V1 10 (i32 T) (i32 0)).1 38 4 = i32 (V1 + 1) := mkn_V _ _ _ _ _
    have hrv : rpK (mkn τ V1 10 (i32 T) (i32 0)) (V1 + 1) (T + ln e.1 + ln e.2) false (evD e.2 []) v := mk_rp _ _ _ k2.2.2.1
    have hty : tyK (mkn τ V1 10 (i32 T) (i32 0)) (V1 + 1) (T + ln e.1 + ln e.2) e.1 [] V1 := ⟨by omega, by omega, mkn_39 _ _ _ _ _, T, 0, mkn_40 _ _ _ _ _, mkn_41 _ _ _ _ _, kK_fm kV (kK_fm j4 c3 (by omega)) (by omega), by omega, by rw [cK_fx cV n36V]; exact WT_pr (W34 hw) fx4 _ _ g1, rfl⟩
    have hRM : RdP L (ctx vt) (mkn τ V1 10 (i32 T) (i32 0)) (V1 + 1) (T + ln e.1 + ln e.2) := RdP_go hR4 kV (cVK cV) (fun k _ => by rw [cV.2.1 42 (by decide)]) (by rw [cV.2.1 34 (by decide)]; exact j2) (Nat.le_refl _) hvv (by omega) (by omega)
    have fM : FK σ (mkn τ V1 10 (i32 T) (i32 0)) V T vt.length := FK_tr f2 (FK_tr ⟨kk, cCK cc, fun k _ => o4 42 k (by decide) (by decide), fun k _ => o4 45 k (by decide) (by decide)⟩ (FK_AV kV cV) (Nat.le_refl V) (show T ≤ T + ln e.1 + ln e.2 by omega) (Nat.le_refl _)) (Nat.le_refl V) (Nat.le_refl T) (Nat.le_refl _)
    have hRV := (T1 _ _ _ _ _ g3 (enE_nil L (ctx vt))).2.1 rfl
    have hWr := Wr_val hL (shp e.1) (evD e.2 []) (ctx vt) vt.length hRV (ctx_len vt)
    have h7M : (mkn τ V1 10 (i32 T) (i32 0)).1 43 7 = i32 (p + 2) := by rw [cV.2.1 43 (by decide), o4 43 7 (by decide) (by decide)]; exact h4372
    generalize mkn τ V1 10 (i32 T) (i32 0) = σ5 at hgo hrv hty hRM fM h7M
    obtain ⟨r, τ2, s1, s2⟩ := k_settle hw.1 (p := p) (ρ := []) g1 (enV_nil L (ctx vt)) (ctx_len vt) g2.2 (Nat.zero_le _) lA hWr (rK_P _) d3 (show V ≤ V1 + 1 by omega) hRM (by omega) (by omega) hty hrv
    exact Set_In (vt := vt) fM (by omega) h7M (by omega) (by omega) hgo s1 s2
end KREAD2
