section KTY
theorem apply220 : f_Values_apply 220 = (G_Values (219 + 1)).2 := rfl
theorem eval220 : f_Values_evaluate 220 = (G_Values 220).1 := rfl
/-- what is left is written long -/
theorem Wr_long {L : Lw} (hL : L.2.length ≤ 4) : ∀ (s w : Tr) (N : List Tr) (n : Nat), wfs s → HT L w N false s → N.length = n → Wr L N s n (fun σ V T v => rpK σ V T false w v) (et s w n) 0 := by
  intro s
  induction s with
  | leaf f =>
    intro w N n _ h hN
    simp only [et]
    by_cases hf : f = 49
    · subst hf
      rw [if_pos rfl]
      exact Wr_star _
    · rw [if_neg hf]
      exact Wr_fam hN hf (k_AB hL w).1 h
  | branch s x y ihx ihy =>
    intro w N n hw h hN
    obtain ⟨hs, hx, hy⟩ := hw
    rcases hs with rfl | ⟨rfl, hdx⟩
    · simp only [et, if_true]
      refine Wr_pair (w1 := 0) (w2 := 0) ?_ ?_ (Nat.le_refl _) hN
      · rw [fstV_ne h]; exact ihx _ _ _ hx (HT_fst h) hN
      · rw [sndV_ne h]; exact ihy _ _ _ hy (HT_snd h) hN
    · simp only [et, show ¬ (80 = 83) by decide, if_false]
      refine Wr_fun (w2 := 0) (P2 := fun σ V T v => rpK σ V T false (.branch 46 w (et x (nm n) (n + 1))) v) hN (fun σ τ V T V' T' v hk hf hV hT hr => rK_kp hk hf hV hT _ _ _ hr) (fun σ τ V T V' T' v hk hf hV hT hr => rK_kp hk hf hV hT _ _ _ hr) (fun h10 σ V T v q hE hr q1 q2 q3 q4 hb => ?_) (fun h10 => ?_)
      · have kM := mkn_kp σ V 3 (i32 v) (i32 q) T
        obtain ⟨k1, k2, _⟩ := kM.1 q q2
        refine ⟨V, mkn σ V 3 (i32 v) (i32 q), V + 1, ?_, mkn_V _ _ _ _ _, by omega, by omega, ⟨by omega, by omega, Or.inl ⟨rfl, mkn_39 _ _ _ _ _, v, q, mkn_40 _ _ _ _ _, mkn_41 _ _ _ _ _, mk_rp _ _ _ hr, Or.inr ⟨n, x, h10, hdx, et_d _ _ _ _ hdx, q1, by omega, by rw [k1]; exact q3, by rw [k2]; exact q4⟩⟩⟩, kM, mkn_ch _ _ _ _ _ (fun _ h => h)⟩
        rw [apply220]
        exact k_givesN h _ _ hr hE (by omega)
      · exact ihy _ _ _ hy (HT_app (HT_wk _ _ _ _ h (fun h => by simp at h)) hdx (et_dta _ _ _ _ hdx (HT_nm hN h10))) (by simp [hN])
/-- a long value is written by its type -/
theorem Wr_val {L : Lw} (hL : L.2.length ≤ 4) : ∀ (s v : Tr) (N : List Tr) (n : Nat), RV L N s v → N.length = n → Wr L N s n (fun σ V T q => rpK σ V T false v q) (qs s v n) (wv v) := by
  intro s
  induction s with
  | leaf f =>
    intro v N n h hN
    simp only [qs]
    by_cases hf : f = 49
    · rw [h.1 hf, hf]
      exact Wr_star _
    · have h' := h.2 hf
      rw [wv_HT _ _ _ _ h' (fun h => by simp at h)]
      exact Wr_fam hN hf (k_AB hL v).1 h'
  | branch s x y ihx ihy =>
    intro v N n h hN
    rcases h with ⟨rfl, a, b, rfl, h3, h4⟩ | ⟨rfl, hc⟩
    · simp only [qs, if_true]
      have e1 : fstV (.branch 44 a b) = a := by simp [fstV]
      have e2 : sndV (.branch 44 a b) = b := by simp [sndV]
      have e3 : wv (.branch 44 a b) = wv a + wv b := by simp [wv]
      refine Wr_pair (w1 := wv a) (w2 := wv b) ?_ ?_ (by rw [e3]; exact Nat.le_refl _) hN
      · rw [e1]; exact ihx _ _ _ h3 hN
      · rw [e2]; exact ihy _ _ _ h4 hN
    · simp only [qs, show ¬ (80 = 83) by decide, if_false]
      refine Wr_fun (w2 := wv (gvD v (nm n))) (P2 := fun σ V T q => rpK σ V T false (gvD v (nm n)) q) hN (fun σ τ V T V' T' v hk hf hV hT hr => rK_kp hk hf hV hT _ _ _ hr) (fun σ τ V T V' T' v hk hf hV hT hr => rK_kp hk hf hV hT _ _ _ hr) (fun h10 σ V T p q hE hr q1 q2 q3 q4 hb => ?_) (fun h10 => ?_)
      · have hq : rpK σ V T false (nm n) q := ⟨q1, q2, Or.inl ⟨by omega, by omega, q3, by rw [show 48 + n - 48 = n by omega]; exact q4⟩⟩
        obtain ⟨_, w, τ, V', r1, r2, r3⟩ := k_gives (d := 219) (n := 104) hL (clo_wk [x] hc) (HT_EF (HT_nm hN h10)) hr hq hE (by omega) (by omega) (by omega) (by omega)
        refine ⟨w, τ, V', ?_, r2.1, r2.2.1, r3, r2.2.2.1, r2.2.2.2.1, r2.2.2.2.2⟩
        rw [apply220]
        exact r1
      · exact ihy _ _ _ (clo_gv (clo_wk [x] hc) (HT_EF (HT_nm hN h10))) (by simp [hN])
/-- a type node with its scope -/
def tyK (σ : CS) (V T : Nat) (A : Tr) (ρ : List Tr) (v : Nat) : Prop := 1 ≤ v ∧ v < V ∧ σ.1 39 v = i32 10 ∧ ∃ p e, σ.1 40 v = i32 p ∧ σ.1 41 v = i32 e ∧ fm (σ.1 35) A p ∧ p + ln A ≤ T ∧ pr (fxK σ) A ∧ rpK σ V T true (eL ρ) e
theorem tyK_S {σ : CS} {V T v : Nat} {A : Tr} {ρ : List Tr} (h : tyK σ V T A ρ v) : tyS σ V T (shp A) v := by
  obtain ⟨a1, a2, a3, p, e, a4, a5, a6, a7, a8, a9⟩ := h
  exact ⟨a1, a2, a3, p, A, a4, a6, a7, a8, rfl⟩
theorem tyK_kp {σ τ : CS} {V T V' T' : Nat} (k : kpK σ τ V T) (hf : fxK τ = fxK σ) (hV : V ≤ V') (hT : T ≤ T') {A : Tr} {ρ : List Tr} {v : Nat} (h : tyK σ V T A ρ v) : tyK τ V' T' A ρ v := by
  obtain ⟨a1, a2, a3, p, e, a4, a5, a6, a7, a8, a9⟩ := h
  obtain ⟨k1, k2, k3⟩ := k.1 v a2
  exact ⟨a1, by omega, by rw [k1]; exact a3, p, e, by rw [k2]; exact a4, by rw [k3]; exact a5, kK_fm k a6 a7, by omega, by rw [hf]; exact a8, rK_kp k hf hV hT _ _ _ a9⟩
theorem k_firstTypeK {σ : CS} {V T v c : Nat} {a b : Tr} {ρ : List Tr} (hc : c = 83 ∨ c = 80) (hV : σ.1 38 4 = i32 V) (h1 : 1 ≤ V) (hV2 : V < 3072) (h : tyK σ V T (.branch c a b) ρ v) : ∃ l r, f_Values_firstType (i32 v) σ = some (i32 V, mkn σ V 10 l r) ∧ tyK (mkn σ V 10 l r) (V + 1) T a ρ V := by
  obtain ⟨a1, a2, a3, p, e, a4, a5, a6, a7, a8, a9⟩ := h
  have hln := ln_br c a b
  have cM := mkn_ch (A := AV) σ V 10 (i32 (p + 1)) (i32 e) (fun _ h => h)
  have kM := mkn_kp σ V 10 (i32 (p + 1)) (i32 e) T
  refine ⟨i32 (p + 1), i32 e, ?_, h1, by omega, mkn_39 _ _ _ _ _, p + 1, e, mkn_40 _ _ _ _ _, mkn_41 _ _ _ _ _, kK_fm kM a6.2.1 (by omega), by omega, by rw [cK_fx cM n36V]; exact (pr2 a8 (by omega)).1, mk_rp _ _ _ a9⟩
  unfold f_Values_firstType f_Values_typeAt
  rw [k_leftOf hV a1 a2 (by omega), Option.bind_some]
  dsimp only
  rw [k_rightOf hV a1 a2 (by omega), Option.bind_some]
  dsimp only
  rw [obid, obid, a4, a5, show i32 p + 1 = i32 (p + 1) from by rw [z1, z_add], k_make _ _ _ hV h1 hV2]
theorem k_secondTypeK {σ : CS} {V T v c w : Nat} {a b U : Tr} {ρ : List Tr} (hc : c = 83 ∨ c = 80) (hT : σ.1 34 1 = i32 T) (hT2 : T ≤ 3600) (hV : σ.1 38 4 = i32 V) (h1 : 1 ≤ V) (hV2 : V + 1 < 3072) (h : tyK σ V T (.branch c a b) ρ v) (hw : rpK σ V T false U w) (hρ : ρ.length < 10) : ∃ r l, f_Values_secondType (i32 v) (i32 w) σ = some (i32 (V + 1), mkn (mkn σ V 9 (i32 w) r) (V + 1) 10 l (i32 V)) ∧ tyK (mkn (mkn σ V 9 (i32 w) r) (V + 1) 10 l (i32 V)) (V + 2) T b (ρ ++ [U]) (V + 1) := by
  obtain ⟨a1, a2, a3, p, e, a4, a5, a6, a7, a8, a9⟩ := h
  have hln := ln_br c a b
  obtain ⟨pa, pb⟩ := pr2 a8 (by omega)
  have cM := mkn_ch (A := AV) σ V 9 (i32 w) (i32 e) (fun _ h => h)
  have kM := mkn_kp σ V 9 (i32 w) (i32 e) T
  have cM2 := mkn_ch (A := AV) (mkn σ V 9 (i32 w) (i32 e)) (V + 1) 10 (i32 (p + 1 + ln a)) (i32 V) (fun _ h => h)
  have kM2 := mkn_kp (mkn σ V 9 (i32 w) (i32 e)) (V + 1) 10 (i32 (p + 1 + ln a)) (i32 V) T
  have sc : rpK (mkn σ V 9 (i32 w) (i32 e)) (V + 1) T true (eL (ρ ++ [U])) V := by
    rw [eL_snoc]
    exact ⟨h1, by omega, mkn_39 _ _ _ _ _, by rw [dL_eL]; exact hρ, w, e, mkn_40 _ _ _ _ _, mkn_41 _ _ _ _ _, mk_rp _ _ _ hw, mk_rp _ _ _ a9⟩
  refine ⟨i32 e, i32 (p + 1 + ln a), ?_, by omega, by omega, mkn_39 _ _ _ _ _, p + 1 + ln a, V, mkn_40 _ _ _ _ _, mkn_41 _ _ _ _ _, kK_fm kM2 (kK_fm kM a6.2.2 (by omega)) (by omega), by omega, by rw [cK_fx cM2 n36V, cK_fx cM n36V]; exact pb, mk_rp _ _ _ sc⟩
  unfold f_Values_secondType f_Values_typeAt f_Values_extended
  rw [k_leftOf hV a1 a2 (by omega), Option.bind_some]
  dsimp only
  rw [a4, show i32 p + 1 = i32 (p + 1) from by rw [z1, z_add], k_behind hT hT2 pa a6.2.1 (by omega), Option.bind_some]
  dsimp only
  rw [k_rightOf hV a1 a2 (by omega), Option.bind_some]
  dsimp only
  rw [obid, a5, k_make _ _ _ hV h1 (by omega), Option.bind_some]
  dsimp only
  rw [obid, obid, k_make _ _ _ (mkn_V _ _ _ _ _) (by omega) (by omega)]
/-- the index type of a family -/
theorem k_indexNo {L : Lw} (hl : L.1.length ≤ 3) {σ : CS} {T c : Nat} (hP : lwP L σ T) (hc : c < 1000) (h : c < 65 ∨ L.1[c - 65]? = some none) : f_Signs_indexTypeOf (i32 c) σ = some (-1, σ) := by
  unfold f_Signs_indexTypeOf B_Signs_indexTypeOf_31 B_Signs_indexTypeOf_32
  by_cases h65 : c < 65
  · rw [if_pos (show i32 c - 65 < 0 from by rw [z65, show (0 : Int32) = i32 0 from rfl, z_neg (by omega) (by omega)]; trivial)]
  · have hn := h.resolve_left h65
    have hlt := (List.getElem?_eq_some_iff.mp hn).1
    rw [show i32 c - 65 = i32 (c - 65) from by rw [z65, z_sub (by omega)], if_neg (show ¬ (i32 (c - 65) < 0) from by rw [show (0 : Int32) = i32 0 from rfl, z_lt (by omega) (by omega)]; omega), hP.1, if_neg (show ¬ (i32 L.1.length ≤ i32 (c - 65)) from by rw [z_le (by omega) (by omega)]; omega), if_neg (show ¬ ((3 : Int32) ≤ i32 (c - 65)) from by rw [show (3 : Int32) = i32 3 from rfl, z_le (by omega) (by omega)]; omega), if_pos (show ix (i32 (c - 65)) (lS 36) = true from c_ix (show c - 65 < lS 36 by show c - 65 < 3; omega) (by omega)), z_nn (by omega), hP.2.2.2.1 _ hn]
theorem k_indexYes {L : Lw} (hl : L.1.length ≤ 3) {σ : CS} {T c : Nat} {I : Tr} (hP : lwP L σ T) (hc : 65 ≤ c) (h : L.1[c - 65]? = some (some I)) : ∃ q, f_Signs_indexTypeOf (i32 c) σ = some (i32 q, σ) ∧ fm (σ.1 35) I q ∧ q + ln I ≤ T ∧ pr (fxK σ) I := by
  obtain ⟨q, b1, b2, b3, b4⟩ := hP.2.2.1 _ _ h
  have hlt := (List.getElem?_eq_some_iff.mp h).1
  refine ⟨q, ?_, b2, b3, b4⟩
  unfold f_Signs_indexTypeOf B_Signs_indexTypeOf_32
  rw [show i32 c - 65 = i32 (c - 65) from by rw [z65, z_sub hc], if_neg (show ¬ (i32 (c - 65) < 0) from by rw [show (0 : Int32) = i32 0 from rfl, z_lt (by omega) (by omega)]; omega), hP.1, if_neg (show ¬ (i32 L.1.length ≤ i32 (c - 65)) from by rw [z_le (by omega) (by omega)]; omega), if_neg (show ¬ ((3 : Int32) ≤ i32 (c - 65)) from by rw [show (3 : Int32) = i32 3 from rfl, z_le (by omega) (by omega)]; omega), if_pos (show ix (i32 (c - 65)) (lS 36) = true from c_ix (show c - 65 < lS 36 by show c - 65 < 3; omega) (by omega)), z_nn (by omega), b1]
end KTY
