section KBASE
theorem sI_at (σ : CS) (j k : Nat) (x : Int32) : (sI σ j k x).1 j k = x := by simp [sI, upd]
theorem sI_ne (σ : CS) {j k a b : Nat} (x : Int32) (h : a ≠ j ∨ b ≠ k) : (sI σ j k x).1 a b = σ.1 a b := by
  unfold sI
  dsimp only
  by_cases ha : a = j
  · subst ha
    rw [if_pos rfl]
    unfold upd
    rw [if_neg (by omega)]
  · rw [if_neg ha]
theorem sI_row (σ : CS) {j k a : Nat} (x : Int32) (h : a ≠ j) : (sI σ j k x).1 a = σ.1 a := by
  unfold sI
  dsimp only
  rw [if_neg h]
theorem sI_2 (σ : CS) (j k : Nat) (x : Int32) : (sI σ j k x).2 = σ.2 := Eq.trans rfl rfl
/-- the class's families that have an index -/
def fxK (σ : CS) (k : Nat) : Bool := decide (i32 k < σ.1 34 3) && !(σ.1 36 k == -1)
/-- what stands stays -/
def kpK (σ τ : CS) (V T : Nat) : Prop := (∀ i, i < V → τ.1 39 i = σ.1 39 i ∧ τ.1 40 i = σ.1 40 i ∧ τ.1 41 i = σ.1 41 i) ∧ (∀ i, i < T → τ.1 35 i = σ.1 35 i)
theorem kK_rf (σ : CS) (V T : Nat) : kpK σ σ V T := ⟨fun _ _ => ⟨rfl, rfl, rfl⟩, fun _ _ => rfl⟩
theorem kK_tr {σ τ υ : CS} {V T V' T' : Nat} (h : kpK σ τ V T) (g : kpK τ υ V' T') (hV : V ≤ V') (hT : T ≤ T') : kpK σ υ V T :=
  ⟨fun i hi => ⟨(g.1 i (by omega)).1.trans (h.1 i hi).1, (g.1 i (by omega)).2.1.trans (h.1 i hi).2.1, (g.1 i (by omega)).2.2.trans (h.1 i hi).2.2⟩, fun i hi => (g.2 i (by omega)).trans (h.2 i hi)⟩
theorem kK_le {σ τ : CS} {V T V' T' : Nat} (h : kpK σ τ V' T') (hV : V ≤ V') (hT : T ≤ T') : kpK σ τ V T := ⟨fun i hi => h.1 i (by omega), fun i hi => h.2 i (by omega)⟩
theorem kK_fm {σ τ : CS} {V T : Nat} (h : kpK σ τ V T) {t : Tr} {p : Nat} (hf : fm (σ.1 35) t p) (hp : p + ln t ≤ T) : fm (τ.1 35) t p := fm_ext t p (fun k _ h2 => h.2 k (by omega)) hf
/-- cells that may change -/
def chK (A : List Nat) (σ τ : CS) : Prop := τ.2 = σ.2 ∧ (∀ j, j ∉ A → τ.1 j = σ.1 j) ∧ (∀ k, k ≠ 1 → τ.1 34 k = σ.1 34 k) ∧ (∀ k, k < 7 ∨ 11 < k → τ.1 43 k = σ.1 43 k) ∧ ((1 : Int32) ≤ σ.1 38 4 → (1 : Int32) ≤ τ.1 38 4)
theorem cK_rf (A : List Nat) (σ : CS) : chK A σ σ := ⟨rfl, fun _ _ => rfl, fun _ _ => rfl, fun _ _ => rfl, fun h => h⟩
theorem cK_tr {A : List Nat} {σ τ υ : CS} (h : chK A σ τ) (g : chK A τ υ) : chK A σ υ := ⟨g.1.trans h.1, fun j hj => (g.2.1 j hj).trans (h.2.1 j hj), fun k hk => (g.2.2.1 k hk).trans (h.2.2.1 k hk), fun k h1 => (g.2.2.2.1 k h1).trans (h.2.2.2.1 k h1), fun x => g.2.2.2.2 (h.2.2.2.2 x)⟩
theorem cK_mo {A B : List Nat} {σ τ : CS} (h : chK A σ τ) (hA : ∀ k, k ∈ A → k ∈ B) : chK B σ τ := ⟨h.1, fun j hj => h.2.1 j (fun h => hj (hA j h)), h.2.2.1, h.2.2.2⟩
theorem cK_sI {A : List Nat} (σ : CS) {j k : Nat} (x : Int32) (h : j ∈ A) (h34 : j = 34 → k = 1) (h43 : j = 43 → 6 < k ∧ k < 12) (h38 : j = 38 → k = 4 → (1 : Int32) ≤ x := by intro h1 h2; omega) : chK A σ (sI σ j k x) := ⟨sI_2 _ _ _ _, fun a ha => sI_row _ _ (fun e => ha (by rw [e]; exact h)), fun a ha => sI_ne _ _ (by
  by_cases e : 34 = j
  · exact Or.inr (by rw [h34 e.symm]; exact ha)
  · exact Or.inl e), fun a h1 => sI_ne _ _ (by
  by_cases e : 43 = j
  · have := h43 e.symm
    exact Or.inr (by omega)
  · exact Or.inl e), fun h1 => by
  by_cases e : j = 38 ∧ k = 4
  · rw [e.1, e.2, sI_at]
    exact h38 e.1 e.2
  · rw [sI_ne _ _ (by omega)]
    exact h1⟩
def AV : List Nat := [38, 39, 40, 41]
def AW : List Nat := [34, 35, 38, 39, 40, 41, 42, 44]
def AK : List Nat := [34, 35, 38, 39, 40, 41, 42, 43, 44, 45]
theorem cVW {σ τ : CS} (h : chK AV σ τ) : chK AW σ τ := cK_mo h (by simp [AV, AW])
theorem cVK {σ τ : CS} (h : chK AV σ τ) : chK AK σ τ := cK_mo h (by simp [AV, AK])
theorem cWK {σ τ : CS} (h : chK AW σ τ) : chK AK σ τ := cK_mo h (by simp only [AW, AK]; intro k hk; simp at hk ⊢; omega)
theorem cK_fx {A : List Nat} {σ τ : CS} (h : chK A σ τ) (h36 : 36 ∉ A) : fxK τ = fxK σ := by
  funext k
  unfold fxK
  rw [h.2.1 36 h36, h.2.2.1 3 (by decide)]
theorem n36V : 36 ∉ AV := by decide
theorem n36W : 36 ∉ AW := by decide
theorem n36K : 36 ∉ AK := by decide
/-- a sign at a place -/
theorem k_at {σ : CS} {p T : Nat} (hT : σ.1 34 1 = i32 T) (hp : p < T) (h : T ≤ 3600) : f_Signs_at (i32 p) σ = some (σ.1 35 p, σ) := by
  unfold f_Signs_at B_Signs_at_29
  rw [if_neg (show ¬ (i32 p < 0) from by rw [show (0 : Int32) = i32 0 from rfl, z_lt (by omega) (by omega)]; omega), hT, if_neg (show ¬ (i32 T ≤ i32 p) from by rw [z_le (by omega) (by omega)]; omega), if_neg (show ¬ ((3600 : Int32) ≤ i32 p) from by rw [show (3600 : Int32) = i32 3600 from rfl, z_le (by omega) (by omega)]; omega), if_pos (c_ix (show p < lS 35 by show p < 3600; omega) (by omega)), z_nn (by omega)]
theorem k_partsOf (c : Nat) (hc : c < 2147483648) (σ : CS) : f_Signs_partsOf (i32 c) σ = some (i32 (ar (fxK σ) c), σ) := by
  unfold f_Signs_partsOf B_Signs_partsOf_108 B_Signs_partsOf_109 ar
  by_cases h44 : c = 44
  · subst h44; rfl
  rw [if_neg (show ¬ (i32 c = 44) from c_eq (b := 44) h44 hc (by omega))]
  by_cases h46 : c = 46
  · subst h46; rfl
  rw [if_neg (show ¬ (i32 c = 46) from c_eq (b := 46) h46 hc (by omega))]
  by_cases h60 : c = 60
  · subst h60; rfl
  rw [if_neg (show ¬ (i32 c = 60) from c_eq (b := 60) h60 hc (by omega))]
  by_cases h62 : c = 62
  · subst h62; rfl
  rw [if_neg (show ¬ (i32 c = 62) from c_eq (b := 62) h62 hc (by omega))]
  by_cases h80 : c = 80
  · subst h80; rfl
  rw [if_neg (show ¬ (i32 c = 80) from c_eq (b := 80) h80 hc (by omega))]
  by_cases h83 : c = 83
  · subst h83; rfl
  rw [if_neg (show ¬ (i32 c = 83) from c_eq (b := 83) h83 hc (by omega))]
  by_cases h92 : c = 92
  · subst h92; rfl
  rw [if_neg (show ¬ (i32 c = 92) from c_eq (b := 92) h92 hc (by omega)), if_neg (show ¬ (c = 83 ∨ c = 80 ∨ c = 46 ∨ c = 44) by omega), if_neg (show ¬ (c = 60 ∨ c = 62 ∨ c = 92) by omega)]
  by_cases h65 : 65 ≤ c
  · have e : i32 c - 65 = i32 (c - 65) := by rw [z65, z_sub h65]
    rw [e, if_neg (show ¬ (i32 (c - 65) < 0) from by rw [show (0 : Int32) = i32 0 from rfl, z_lt (by omega) (by omega)]; omega)]
    by_cases hf : σ.1 34 3 ≤ i32 (c - 65)
    · rw [if_pos hf, if_neg]
      · rfl
      · rintro ⟨_, _, h⟩
        unfold fxK at h
        simp only [Bool.and_eq_true, decide_eq_true_eq] at h
        exact absurd h.1 (Int32.not_lt.mpr hf)
    · rw [if_neg hf]
      by_cases h67 : c ≤ 67
      · rw [if_neg (show ¬ ((3 : Int32) ≤ i32 (c - 65)) from by rw [show (3 : Int32) = i32 3 from rfl, z_le (by omega) (by omega)]; omega), if_pos (c_ix (show c - 65 < lS 36 by show c - 65 < 3; omega) (by omega)), z_nn (by omega)]
        by_cases hi : σ.1 36 (c - 65) = -1
        · rw [if_pos hi, if_neg]
          · rfl
          · rintro ⟨_, _, h⟩
            unfold fxK at h
            rw [hi] at h
            simp at h
        · rw [if_neg hi, if_pos]
          · rfl
          · refine ⟨h65, h67, ?_⟩
            unfold fxK
            simp only [Bool.and_eq_true, decide_eq_true_eq, Bool.not_eq_true', beq_eq_false_iff_ne]
            exact ⟨Int32.not_le.mp hf, hi⟩
      · rw [if_pos (show (3 : Int32) ≤ i32 (c - 65) from by rw [show (3 : Int32) = i32 3 from rfl, z_le (by omega) (by omega)]; omega), if_neg (show ¬ (65 ≤ c ∧ c ≤ 67 ∧ fxK σ (c - 65) = true) by omega)]
        rfl
  · rw [if_neg (show ¬ (65 ≤ c ∧ c ≤ 67 ∧ fxK σ (c - 65) = true) by omega), if_pos (show i32 c - 65 < 0 from by rw [z65, show (0 : Int32) = i32 0 from rfl, z_neg (by omega) (by omega)]; trivial)]
    rfl
theorem k_behind_l {σ : CS} {T : Nat} (hT : σ.1 34 1 = i32 T) (h : T ≤ 3600) : ∀ (t : Tr) (p m F : Nat), pr (fxK σ) t → fm (σ.1 35) t p → p + ln t ≤ T → m + ln t < 100000 → L_Signs_behind_4 (F + ln t) (i32 (m + 1)) (i32 p) σ = L_Signs_behind_4 F (i32 m) (i32 (p + ln t)) σ := by
  have one : ∀ (c p m F : Nat), c < 128 → σ.1 35 p = i32 c → p < T → m < 100000 → L_Signs_behind_4 (F + 1) (i32 (m + 1)) (i32 p) σ = L_Signs_behind_4 F (i32 (m + ar (fxK σ) c)) (i32 (p + 1)) σ := by
    intro c p m F hc hg hp hm
    have ha : ar (fxK σ) c ≤ 2 := by
      unfold ar
      split
      · omega
      · split
        · omega
        · split <;> omega
    rw [L_Signs_behind_4, if_neg (show ¬ (i32 (m + 1) ≤ 0) from by rw [show (0 : Int32) = i32 0 from rfl, z_le (by omega) (by omega)]; omega), hT, if_neg (show ¬ (i32 T ≤ i32 p) from by rw [z_le (by omega) (by omega)]; omega), k_at hT hp h, Option.bind_some]
    dsimp only
    rw [hg, k_partsOf c (by omega), Option.bind_some]
    dsimp only
    rw [z_dec, show i32 p + 1 = i32 (p + 1) from by rw [z1, z_add]]
  intro t
  induction t with
  | leaf s =>
    intro p m F hp hf hl hm
    have hs := ln_leaf hp.1
    rw [hs] at hl ⊢
    rw [one s p m F hp.2.1 (hf hp.1) (by omega) (by omega), hp.2.2]
    rfl
  | branch s a b iha ihb =>
    intro p m F hp hf hl hm
    rw [ln_br] at hl hm ⊢
    obtain ⟨h0, h1, h2⟩ := hp
    rw [show F + (1 + ln a + ln b) = F + ln b + ln a + 1 by omega, one s p m _ h1 hf.1 (by omega) (by omega)]
    rcases h2 with ⟨e, ha, hb⟩ | ⟨e, ha, hb⟩
    · rw [e, show m + 2 = m + 1 + 1 by omega, iha (p + 1) (m + 1) (F + ln b) ha hf.2.1 (by omega) (by omega), ihb (p + 1 + ln a) m F hb hf.2.2 (by omega) (by omega)]
      congr 2
      omega
    · subst hb
      rw [ln_0] at hl ⊢
      rw [e, iha (p + 1) m (F + 0) ha hf.2.1 (by omega) (by omega)]
      congr 2
      omega
theorem k_behind {σ : CS} {t : Tr} {p T : Nat} (hT : σ.1 34 1 = i32 T) (h : T ≤ 3600) (hp : pr (fxK σ) t) (hf : fm (σ.1 35) t p) (hl : p + ln t ≤ T) : f_Signs_behind (i32 p) σ = some (i32 (p + ln t), σ) := by
  unfold f_Signs_behind
  have hn : ln t < 10000 := by omega
  obtain ⟨F, hF⟩ : ∃ F, 10000 = (F + 1) + ln t := ⟨9999 - ln t, by omega⟩
  have e := k_behind_l hT h t p 0 (F + 1) hp hf hl (by omega)
  rw [← hF] at e
  rw [show (1 : Int32) = i32 (0 + 1) from rfl, e, L_Signs_behind_4, if_pos (show i32 0 ≤ 0 from by decide)]
  rfl
/-- a node made -/
def mkn (σ : CS) (V : Nat) (k l r : Int32) : CS := sI (sI (sI (sI σ 39 V k) 40 V l) 41 V r) 38 4 (i32 (V + 1))
theorem k_make {σ : CS} {V : Nat} (k l r : Int32) (hV : σ.1 38 4 = i32 V) (h1 : 1 ≤ V) (h : V < 3072) : f_Values_make k l r σ = some (i32 V, mkn σ V k l r) := by
  have e1 : (sI σ 39 V k).1 38 4 = i32 V := by rw [sI_ne _ _ (Or.inl (by decide))]; exact hV
  have e2 : (sI (sI σ 39 V k) 40 V l).1 38 4 = i32 V := by rw [sI_ne _ _ (Or.inl (by decide))]; exact e1
  have e3 : (sI (sI (sI σ 39 V k) 40 V l) 41 V r).1 38 4 = i32 V := by rw [sI_ne _ _ (Or.inl (by decide))]; exact e2
  unfold f_Values_make
  rw [hV, if_neg (show ¬ (i32 V < 1) from by rw [show (1 : Int32) = i32 1 from rfl, z_lt (by omega) (by omega)]; omega), if_pos (show i32 V < 3072 from by rw [show (3072 : Int32) = i32 3072 from rfl, z_lt (by omega) (by omega)]; exact h), if_pos (c_ix (show V < lS 39 from h) (by omega)), z_nn (show V < 2147483648 by omega), e1, if_pos (c_ix (show V < lS 40 from h) (by omega)), z_nn (show V < 2147483648 by omega), e2, if_pos (c_ix (show V < lS 41 from h) (by omega)), z_nn (show V < 2147483648 by omega), e3, sI_at, show i32 V + 1 = i32 (V + 1) from by rw [z1, z_add], z_sub1]
  rfl
theorem mkn_V (σ : CS) (V : Nat) (k l r : Int32) : (mkn σ V k l r).1 38 4 = i32 (V + 1) := sI_at _ _ _ _
theorem mkn_39 (σ : CS) (V : Nat) (k l r : Int32) : (mkn σ V k l r).1 39 V = k := by
  unfold mkn
  rw [sI_ne _ _ (Or.inl (by decide)), sI_ne _ _ (Or.inl (by decide)), sI_ne _ _ (Or.inl (by decide)), sI_at]
theorem mkn_40 (σ : CS) (V : Nat) (k l r : Int32) : (mkn σ V k l r).1 40 V = l := by
  unfold mkn
  rw [sI_ne _ _ (Or.inl (by decide)), sI_ne _ _ (Or.inl (by decide)), sI_at]
theorem mkn_41 (σ : CS) (V : Nat) (k l r : Int32) : (mkn σ V k l r).1 41 V = r := by
  unfold mkn
  rw [sI_ne _ _ (Or.inl (by decide)), sI_at]
theorem mkn_386 (σ : CS) (V : Nat) (k l r : Int32) : (mkn σ V k l r).1 38 6 = σ.1 38 6 := by
  unfold mkn
  rw [sI_ne _ _ (Or.inr (by decide)), sI_ne _ _ (Or.inl (by decide)), sI_ne _ _ (Or.inl (by decide)), sI_ne _ _ (Or.inl (by decide))]
theorem mkn_ch {A : List Nat} (σ : CS) (V : Nat) (k l r : Int32) (hA : ∀ j, j ∈ AV → j ∈ A) (hV : V < 3072 := by omega) : chK A σ (mkn σ V k l r) :=
  cK_mo (A := AV) (cK_tr (cK_sI σ k (by decide) (by omega) (by omega)) (cK_tr (cK_sI _ l (by decide) (by omega) (by omega)) (cK_tr (cK_sI _ r (by decide) (by omega) (by omega)) (cK_sI _ _ (by decide) (by omega) (by omega) (fun _ _ => by rw [z1, z_le (by omega) (by omega)]; omega))))) hA
theorem mkn_fx (σ : CS) (V : Nat) (k l r : Int32) : fxK (mkn σ V k l r) = fxK σ := by
  funext i
  unfold fxK mkn
  rw [sI_row _ _ (show 36 ≠ 38 by decide), sI_row _ _ (show 36 ≠ 41 by decide), sI_row _ _ (show 36 ≠ 40 by decide), sI_row _ _ (show 36 ≠ 39 by decide), sI_row _ _ (show 34 ≠ 38 by decide), sI_row _ _ (show 34 ≠ 41 by decide), sI_row _ _ (show 34 ≠ 40 by decide), sI_row _ _ (show 34 ≠ 39 by decide)]
theorem mkn_kp (σ : CS) (V : Nat) (k l r : Int32) (T : Nat) : kpK σ (mkn σ V k l r) V T := by
  refine ⟨fun i hi => ⟨?_, ?_, ?_⟩, fun i hi => ?_⟩
  · unfold mkn
    rw [sI_ne _ _ (Or.inl (by decide)), sI_ne _ _ (Or.inl (by decide)), sI_ne _ _ (Or.inl (by decide)), sI_ne _ _ (Or.inr (by omega))]
  · unfold mkn
    rw [sI_ne _ _ (Or.inl (by decide)), sI_ne _ _ (Or.inl (by decide)), sI_ne _ _ (Or.inr (by omega)), sI_ne _ _ (Or.inl (by decide))]
  · unfold mkn
    rw [sI_ne _ _ (Or.inl (by decide)), sI_ne _ _ (Or.inr (by omega)), sI_ne _ _ (Or.inl (by decide)), sI_ne _ _ (Or.inl (by decide))]
  · unfold mkn
    rw [sI_row _ _ (by decide), sI_row _ _ (by decide), sI_row _ _ (by decide), sI_row _ _ (by decide)]
theorem k_kindOf {σ : CS} {v V : Nat} (hV : σ.1 38 4 = i32 V) (h0 : 1 ≤ v) (hv : v < V) (h : V ≤ 3072) : f_Values_kindOf (i32 v) σ = some (σ.1 39 v, σ) := by
  unfold f_Values_kindOf B_Values_kindOf_29
  rw [if_neg (show ¬ (i32 v ≤ 0) from by rw [show (0 : Int32) = i32 0 from rfl, z_le (by omega) (by omega)]; omega), hV, if_neg (show ¬ (i32 V ≤ i32 v) from by rw [z_le (by omega) (by omega)]; omega), if_neg (show ¬ ((3072 : Int32) ≤ i32 v) from by rw [show (3072 : Int32) = i32 3072 from rfl, z_le (by omega) (by omega)]; omega), if_pos (c_ix (show v < lS 39 by show v < 3072; omega) (by omega)), z_nn (by omega)]
theorem k_leftOf {σ : CS} {v V : Nat} (hV : σ.1 38 4 = i32 V) (h0 : 1 ≤ v) (hv : v < V) (h : V ≤ 3072) : f_Values_leftOf (i32 v) σ = some (σ.1 40 v, σ) := by
  unfold f_Values_leftOf B_Values_leftOf_29
  rw [if_neg (show ¬ (i32 v ≤ 0) from by rw [show (0 : Int32) = i32 0 from rfl, z_le (by omega) (by omega)]; omega), hV, if_neg (show ¬ (i32 V ≤ i32 v) from by rw [z_le (by omega) (by omega)]; omega), if_neg (show ¬ ((3072 : Int32) ≤ i32 v) from by rw [show (3072 : Int32) = i32 3072 from rfl, z_le (by omega) (by omega)]; omega), if_pos (c_ix (show v < lS 40 by show v < 3072; omega) (by omega)), z_nn (by omega)]
theorem k_rightOf {σ : CS} {v V : Nat} (hV : σ.1 38 4 = i32 V) (h0 : 1 ≤ v) (hv : v < V) (h : V ≤ 3072) : f_Values_rightOf (i32 v) σ = some (σ.1 41 v, σ) := by
  unfold f_Values_rightOf B_Values_rightOf_29
  rw [if_neg (show ¬ (i32 v ≤ 0) from by rw [show (0 : Int32) = i32 0 from rfl, z_le (by omega) (by omega)]; omega), hV, if_neg (show ¬ (i32 V ≤ i32 v) from by rw [z_le (by omega) (by omega)]; omega), if_neg (show ¬ ((3072 : Int32) ≤ i32 v) from by rw [show (3072 : Int32) = i32 3072 from rfl, z_le (by omega) (by omega)]; omega), if_pos (c_ix (show v < lS 41 by show v < 3072; omega) (by omega)), z_nn (by omega)]
theorem k_kind0 (σ : CS) : f_Values_kindOf (i32 0) σ = some (i32 0, σ) := by
  unfold f_Values_kindOf B_Values_kindOf_28 B_Values_kindOf_29
  rw [if_pos (show i32 0 ≤ 0 from by decide)]
  rfl
end KBASE
