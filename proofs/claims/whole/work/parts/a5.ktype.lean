section KTYPE
theorem ix_of {x : Int32} {n : Nat} (hn : n < 2147483648) (h0 : ¬ (x < 0)) (h1 : ¬ (i32 n ≤ x)) : ix x n = true := by
  have e : x = i32 x.toNatClampNeg := by
    have hx : 0 ≤ x := Int32.not_lt.mp h0
    have : x.toInt = (x.toNatClampNeg : Int) := by
      unfold Int32.toNatClampNeg
      have := Int32.le_iff_toInt_le.mp hx
      simp at this
      omega
    apply Int32.toInt_inj.mp
    rw [this]
    have hb : x.toNatClampNeg < 2147483648 := by
      have := Int32.toInt_lt x
      omega
    unfold i32
    rw [Int32.toInt_ofNat_of_lt (by omega)]
  have hb : x.toNatClampNeg < 2147483648 := by
    have := Int32.toInt_lt x
    have h2 : x.toInt.toNat = x.toNatClampNeg := rfl
    omega
  rw [e] at h1 ⊢
  rw [z_le hn (by omega)] at h1
  exact c_ix (by omega) (by omega)
theorem k_partsT (x : Int32) (σ : CS) : ∃ y, f_Signs_partsOf x σ = some (y, σ) := by
  unfold f_Signs_partsOf B_Signs_partsOf_108 B_Signs_partsOf_109
  by_cases h1 : x = 44
  · exact ⟨_, if_pos h1⟩
  rw [if_neg h1]
  by_cases h2 : x = 46
  · exact ⟨_, if_pos h2⟩
  rw [if_neg h2]
  by_cases h3 : x = 60
  · exact ⟨_, if_pos h3⟩
  rw [if_neg h3]
  by_cases h4 : x = 62
  · exact ⟨_, if_pos h4⟩
  rw [if_neg h4]
  by_cases h5 : x = 80
  · exact ⟨_, if_pos h5⟩
  rw [if_neg h5]
  by_cases h6 : x = 83
  · exact ⟨_, if_pos h6⟩
  rw [if_neg h6]
  by_cases h7 : x = 92
  · exact ⟨_, if_pos h7⟩
  rw [if_neg h7]
  by_cases h8 : x - 65 < 0
  · exact ⟨_, if_pos h8⟩
  rw [if_neg h8]
  by_cases h9 : σ.1 34 3 ≤ x - 65
  · exact ⟨_, if_pos h9⟩
  rw [if_neg h9]
  by_cases h10 : 3 ≤ x - 65
  · exact ⟨_, if_pos h10⟩
  rw [if_neg h10, if_pos (show ix (x - 65) (lS 36) = true from ix_of (n := 3) (by omega) h8 h10)]
  by_cases h11 : σ.1 36 (x - 65).toNatClampNeg = -1
  · exact ⟨_, if_pos h11⟩
  · exact ⟨_, if_neg h11⟩
theorem k_atT (x : Int32) (σ : CS) : ∃ y, f_Signs_at x σ = some (y, σ) ∧ (x < 0 → y = 0) := by
  unfold f_Signs_at B_Signs_at_28 B_Signs_at_29
  by_cases h1 : x < 0
  · exact ⟨_, if_pos h1, fun _ => rfl⟩
  rw [if_neg h1]
  by_cases h2 : σ.1 34 1 ≤ x
  · exact ⟨_, if_pos h2, fun h => absurd h h1⟩
  rw [if_neg h2]
  by_cases h3 : 3600 ≤ x
  · exact ⟨_, if_pos h3, fun h => absurd h h1⟩
  rw [if_neg h3, if_pos (show ix x (lS 35) = true from ix_of (n := 3600) (by omega) h1 h3)]
  exact ⟨_, rfl, fun h => absurd h h1⟩
theorem k_behindT_l {σ : CS} {T : Nat} (hT : σ.1 34 1 = i32 T) (h : T ≤ 3600) : ∀ (d F p : Nat) (m : Int32), p + d = T → ∃ y, L_Signs_behind_4 (F + d + 1) m (i32 p) σ = some (y, σ) := by
  intro d
  induction d with
  | zero =>
    intro F p m hp
    rw [L_Signs_behind_4]
    by_cases hm : m ≤ 0
    · exact ⟨_, if_pos hm⟩
    rw [if_neg hm, hT, if_pos (show i32 T ≤ i32 p from by rw [z_le (by omega) (by omega)]; omega)]
    exact ⟨_, rfl⟩
  | succ d ih =>
    intro F p m hp
    rw [L_Signs_behind_4]
    by_cases hm : m ≤ 0
    · exact ⟨_, if_pos hm⟩
    rw [if_neg hm, hT, if_neg (show ¬ (i32 T ≤ i32 p) from by rw [z_le (by omega) (by omega)]; omega)]
    obtain ⟨y, e1, _⟩ := k_atT (i32 p) σ
    obtain ⟨z, e2⟩ := k_partsT y σ
    rw [e1, Option.bind_some]
    dsimp only
    rw [e2, Option.bind_some]
    dsimp only
    rw [show i32 p + 1 = i32 (p + 1) from by rw [z1, z_add], show F + (d + 1) = F + d + 1 by omega]
    exact ih F (p + 1) _ (by omega)
theorem i32_of {x : Int32} (h : ¬ (x < 0)) : ∃ p, x = i32 p ∧ p < 2147483648 := by
  have hx : 0 ≤ x := Int32.not_lt.mp h
  have hb : x.toNatClampNeg < 2147483648 := by
    have := Int32.toInt_lt x
    have h2 : x.toInt.toNat = x.toNatClampNeg := rfl
    omega
  refine ⟨x.toNatClampNeg, ?_, hb⟩
  have : x.toInt = (x.toNatClampNeg : Int) := by
    unfold Int32.toNatClampNeg
    have := Int32.le_iff_toInt_le.mp hx
    simp at this
    omega
  apply Int32.toInt_inj.mp
  rw [this]
  unfold i32
  rw [Int32.toInt_ofNat_of_lt (by omega)]
theorem k_behindT {σ : CS} {T : Nat} (hT : σ.1 34 1 = i32 T) (h : T ≤ 3600) (x : Int32) : ∃ y, f_Signs_behind x σ = some (y, σ) := by
  unfold f_Signs_behind
  by_cases h0 : x < 0
  · obtain ⟨y, e1, e2⟩ := k_atT x σ
    have := e2 h0
    subst this
    obtain ⟨F, hF⟩ : ∃ F, 10000 = F + 2 := ⟨9998, rfl⟩
    rw [hF]
    rw [L_Signs_behind_4, if_neg (show ¬ ((1 : Int32) ≤ 0) from by decide)]
    have hlt : ¬ (σ.1 34 1 ≤ x) := by
      rw [hT]
      intro hle
      have h1 : (0 : Int32) ≤ i32 T := i_nn (by omega)
      exact absurd (Int32.le_trans h1 hle) (Int32.not_le.mpr h0)
    rw [if_neg hlt, e1, Option.bind_some]
    dsimp only
    rw [show (0 : Int32) = i32 0 from rfl, k_partsOf 0 (by omega), Option.bind_some]
    dsimp only
    rw [show i32 (ar (fxK σ) 0) = 0 from by unfold ar; simp; rfl]
    rw [L_Signs_behind_4, if_pos (show (1 : Int32) + (0 - 1) ≤ 0 from by decide)]
    exact ⟨_, rfl⟩
  · obtain ⟨p, rfl, hp⟩ := i32_of h0
    by_cases hpT : p ≤ T
    · obtain ⟨F, hF⟩ : ∃ F, 10000 = F + (T - p) + 1 := ⟨9999 - (T - p), by omega⟩
      rw [hF]
      exact k_behindT_l hT h (T - p) F p 1 (by omega)
    · obtain ⟨F, hF⟩ : ∃ F, 10000 = F + 1 := ⟨9999, rfl⟩
      rw [hF, L_Signs_behind_4, if_neg (show ¬ ((1 : Int32) ≤ 0) from by decide), hT, if_pos (show i32 T ≤ i32 p from by rw [z_le (by omega) (by omega)]; omega)]
      exact ⟨_, rfl⟩
theorem k_kindT (x : Int32) (σ : CS) : ∃ y, f_Values_kindOf x σ = some (y, σ) := by
  unfold f_Values_kindOf B_Values_kindOf_28 B_Values_kindOf_29
  by_cases h1 : x ≤ 0
  · exact ⟨_, if_pos h1⟩
  rw [if_neg h1]
  by_cases h2 : σ.1 38 4 ≤ x
  · exact ⟨_, if_pos h2⟩
  rw [if_neg h2]
  by_cases h3 : 3072 ≤ x
  · exact ⟨_, if_pos h3⟩
  rw [if_neg h3, if_pos (show ix x (lS 39) = true from ix_of (n := 3072) (by omega) (fun h => h1 (Int32.le_of_lt h)) h3)]
  exact ⟨_, rfl⟩
theorem k_leftT (x : Int32) (σ : CS) : ∃ y, f_Values_leftOf x σ = some (y, σ) := by
  unfold f_Values_leftOf B_Values_leftOf_28 B_Values_leftOf_29
  by_cases h1 : x ≤ 0
  · exact ⟨_, if_pos h1⟩
  rw [if_neg h1]
  by_cases h2 : σ.1 38 4 ≤ x
  · exact ⟨_, if_pos h2⟩
  rw [if_neg h2]
  by_cases h3 : 3072 ≤ x
  · exact ⟨_, if_pos h3⟩
  rw [if_neg h3, if_pos (show ix x (lS 40) = true from ix_of (n := 3072) (by omega) (fun h => h1 (Int32.le_of_lt h)) h3)]
  exact ⟨_, rfl⟩
theorem k_rightT (x : Int32) (σ : CS) : ∃ y, f_Values_rightOf x σ = some (y, σ) := by
  unfold f_Values_rightOf B_Values_rightOf_28 B_Values_rightOf_29
  by_cases h1 : x ≤ 0
  · exact ⟨_, if_pos h1⟩
  rw [if_neg h1]
  by_cases h2 : σ.1 38 4 ≤ x
  · exact ⟨_, if_pos h2⟩
  rw [if_neg h2]
  by_cases h3 : 3072 ≤ x
  · exact ⟨_, if_pos h3⟩
  rw [if_neg h3, if_pos (show ix x (lS 41) = true from ix_of (n := 3072) (by omega) (fun h => h1 (Int32.le_of_lt h)) h3)]
  exact ⟨_, rfl⟩
/-- nodes made that nobody reads -/
def JK (σ τ : CS) (V c : Nat) : Prop := ∃ V', τ.1 38 4 = i32 V' ∧ V ≤ V' ∧ V' ≤ V + c ∧ V' ≤ 3072 ∧ (∀ T, kpK σ τ V T) ∧ chK AV σ τ
theorem JK_rf {σ : CS} {V : Nat} (hV : σ.1 38 4 = i32 V) (h : V ≤ 3072) (c : Nat) : JK σ σ V c := ⟨V, hV, Nat.le_refl _, by omega, h, fun _ => kK_rf _ _ _, cK_rf _ _⟩
theorem k_makeT {σ : CS} {V : Nat} (k l r : Int32) (hV : σ.1 38 4 = i32 V) (h1 : 1 ≤ V) (h : V ≤ 3072) : ∃ y τ, f_Values_make k l r σ = some (y, τ) ∧ JK σ τ V 1 := by
  by_cases hV2 : V < 3072
  · exact ⟨_, _, k_make k l r hV h1 hV2, V + 1, mkn_V _ _ _ _ _, by omega, by omega, by omega, fun T => mkn_kp _ _ _ _ _ T, mkn_ch _ _ _ _ _ (fun _ h => h)⟩
  · refine ⟨0, σ, ?_, JK_rf hV h 1⟩
    unfold f_Values_make B_Values_make_18
    rw [hV, if_neg (show ¬ (i32 V < 1) from by rw [show (1 : Int32) = i32 1 from rfl, z_lt (by omega) (by omega)]; omega), if_neg (show ¬ (i32 V < 3072) from by rw [show (3072 : Int32) = i32 3072 from rfl, z_lt (by omega) (by omega)]; omega)]
theorem JK_tr {σ τ υ : CS} {V c d : Nat} (h : JK σ τ V c) (g : ∀ V', τ.1 38 4 = i32 V' → V ≤ V' → V' ≤ 3072 → JK τ υ V' d) : JK σ υ V (c + d) := by
  obtain ⟨V', h1, h2, h3, h4, h5, h6⟩ := h
  obtain ⟨V2, g1, g2, g3, g4, g5, g6⟩ := g V' h1 h2 h4
  exact ⟨V2, g1, by omega, by omega, g4, fun T => kK_tr (h5 T) (g5 T) h2 (Nat.le_refl _), cK_tr h6 g6⟩
theorem JK_V {σ τ : CS} {V c : Nat} (h : JK σ τ V c) (h1 : 1 ≤ V) : ∃ V', τ.1 38 4 = i32 V' ∧ 1 ≤ V' ∧ V' ≤ 3072 := by
  obtain ⟨V', a, b, _, d, _⟩ := h
  exact ⟨V', a, by omega, d⟩
section TOT
variable {σ : CS} {V T : Nat} (hV : σ.1 38 4 = i32 V) (h1 : 1 ≤ V) (h : V ≤ 3072) (hT : σ.1 34 1 = i32 T) (hT2 : T ≤ 3600)
theorem k_firstTypeT (hV : σ.1 38 4 = i32 V) (h1 : 1 ≤ V) (h : V ≤ 3072) (x : Int32) : ∃ y τ, f_Values_firstType x σ = some (y, τ) ∧ JK σ τ V 1 := by
  obtain ⟨a, ea⟩ := k_leftT x σ
  obtain ⟨b, eb⟩ := k_rightT x σ
  obtain ⟨y, τ, e, j⟩ := k_makeT 10 (a + 1) b hV h1 h
  refine ⟨y, τ, ?_, j⟩
  unfold f_Values_firstType f_Values_typeAt
  rw [ea, Option.bind_some]
  dsimp only
  rw [eb, Option.bind_some]
  dsimp only
  rw [obid, obid, e]
theorem k_secondTypeT (hV : σ.1 38 4 = i32 V) (h1 : 1 ≤ V) (h : V ≤ 3072) (hT : σ.1 34 1 = i32 T) (hT2 : T ≤ 3600) (x x2 : Int32) : ∃ y τ, f_Values_secondType x x2 σ = some (y, τ) ∧ JK σ τ V 2 := by
  obtain ⟨a, ea⟩ := k_leftT x σ
  obtain ⟨c, ec⟩ := k_behindT hT hT2 (a + 1)
  obtain ⟨b, eb⟩ := k_rightT x σ
  obtain ⟨y, τ, e, j⟩ := k_makeT 9 x2 b hV h1 h
  obtain ⟨V', v1, v2, v3⟩ := JK_V j h1
  obtain ⟨z, υ, f, g⟩ := k_makeT 10 c y v1 v2 v3
  refine ⟨z, υ, ?_, JK_tr (c := 1) (d := 1) j (fun W hW _ hW3 => ?_)⟩
  · unfold f_Values_secondType f_Values_typeAt f_Values_extended
    rw [ea, Option.bind_some]
    dsimp only
    rw [ec, Option.bind_some]
    dsimp only
    rw [eb, Option.bind_some]
    dsimp only
    rw [obid, e, Option.bind_some]
    dsimp only
    rw [obid, obid, f]
  · have hVW : W = V' := by
      rw [v1] at hW
      have hb := z_eq (a := V') (b := W) (by omega) (by omega)
      exact (hb ▸ hW).symm
    subst hVW
    exact g
theorem k_firstOfT (hV : σ.1 38 4 = i32 V) (h1 : 1 ≤ V) (h : V ≤ 3072) (x : Int32) : ∃ y τ, f_Values_firstOf x σ = some (y, τ) ∧ JK σ τ V 1 := by
  obtain ⟨a, ea⟩ := k_kindT x σ
  unfold f_Values_firstOf B_Values_firstOf_25
  rw [ea, Option.bind_some]
  dsimp only
  by_cases h7 : a = 7
  · obtain ⟨b, eb⟩ := k_leftT x σ
    exact ⟨b, σ, by rw [if_pos h7, eb, Option.bind_some], JK_rf hV h 1⟩
  · obtain ⟨y, τ, e, j⟩ := k_makeT 4 x 0 hV h1 h
    exact ⟨y, τ, by rw [if_neg h7, e, Option.bind_some], j⟩
theorem k_secondOfT (hV : σ.1 38 4 = i32 V) (h1 : 1 ≤ V) (h : V ≤ 3072) (x : Int32) : ∃ y τ, f_Values_secondOf x σ = some (y, τ) ∧ JK σ τ V 1 := by
  obtain ⟨a, ea⟩ := k_kindT x σ
  unfold f_Values_secondOf B_Values_secondOf_25
  rw [ea, Option.bind_some]
  dsimp only
  by_cases h7 : a = 7
  · obtain ⟨b, eb⟩ := k_rightT x σ
    exact ⟨b, σ, by rw [if_pos h7, eb, Option.bind_some], JK_rf hV h 1⟩
  · obtain ⟨y, τ, e, j⟩ := k_makeT 5 x 0 hV h1 h
    exact ⟨y, τ, by rw [if_neg h7, e, Option.bind_some], j⟩
end TOT
/-- a type node: where its form stands, of which shape -/
def tyS (σ : CS) (V T : Nat) (s : Tr) (v : Nat) : Prop := 1 ≤ v ∧ v < V ∧ σ.1 39 v = i32 10 ∧ ∃ p A, σ.1 40 v = i32 p ∧ fm (σ.1 35) A p ∧ p + ln A ≤ T ∧ pr (fxK σ) A ∧ shp A = s
theorem tyS_kp {σ τ : CS} {V T V' T' : Nat} (k : kpK σ τ V T) (hf : fxK τ = fxK σ) (hV : V ≤ V') (hT : T ≤ T') {s : Tr} {v : Nat} (h : tyS σ V T s v) : tyS τ V' T' s v := by
  obtain ⟨a1, a2, a3, p, A, a4, a5, a6, a7, a8⟩ := h
  obtain ⟨k1, k2, k3⟩ := k.1 v a2
  exact ⟨a1, by omega, by rw [k1]; exact a3, p, A, by rw [k2]; exact a4, kK_fm k a5 a6, by omega, by rw [hf]; exact a7, a8⟩
theorem shp_leaf {A : Tr} {f : Nat} (h : shp A = .leaf f) : hdr A = f := by
  cases A with
  | leaf s => simp only [shp] at h; injection h
  | branch s a b =>
    simp only [shp] at h
    split at h
    · cases h
    · injection h
theorem shp_br {A x y : Tr} {s : Nat} (h : shp A = .branch s x y) : ∃ a b, A = .branch s a b ∧ shp a = x ∧ shp b = y ∧ (s = 83 ∨ s = 80) := by
  cases A with
  | leaf s => simp only [shp] at h; cases h
  | branch s a b =>
    simp only [shp] at h
    split at h
    · rename_i hs
      injection h with h1 h2 h3
      exact ⟨a, b, by rw [h1], h2, h3, by omega⟩
    · cases h
/-- the first sign of a type -/
def hs : Tr → Nat
  | .leaf s => s
  | .branch s _ _ => s
theorem shp_hs (A : Tr) : hs (shp A) = hdr A := by
  cases A with
  | leaf s => rfl
  | branch s a b =>
    simp only [shp]
    split <;> rfl
theorem k_formOf {σ : CS} {V T v : Nat} {s : Tr} (hT : σ.1 34 1 = i32 T) (hT2 : T ≤ 3600) (hV : σ.1 38 4 = i32 V) (hV2 : V ≤ 3072) (h : tyS σ V T s v) : f_Values_formOf (i32 v) σ = some (i32 (hs s), σ) ∧ hs s < 128 := by
  obtain ⟨a1, a2, a3, p, A, a4, a5, a6, a7, a8⟩ := h
  have hpos := pr_pos a7
  refine ⟨?_, by rw [← a8, shp_hs]; exact hdr_lt a7⟩
  unfold f_Values_formOf B_Values_formOf_26
  rw [k_kindOf hV a1 a2 hV2, Option.bind_some]
  dsimp only
  rw [a3, if_pos (show i32 10 = 10 from rfl), k_leftOf hV a1 a2 hV2, Option.bind_some]
  dsimp only
  rw [a4, k_at hT (by omega) hT2, Option.bind_some]
  dsimp only
  rw [hdr_fm a5 a7, ← a8, shp_hs]
theorem k_firstType {σ : CS} {V T v s : Nat} {x y : Tr} (hV : σ.1 38 4 = i32 V) (h1 : 1 ≤ V) (hV2 : V < 3072) (h : tyS σ V T (.branch s x y) v) : ∃ l r, f_Values_firstType (i32 v) σ = some (i32 V, mkn σ V 10 l r) ∧ tyS (mkn σ V 10 l r) (V + 1) T x V := by
  obtain ⟨a1, a2, a3, p, A, a4, a5, a6, a7, a8⟩ := h
  obtain ⟨a, b, rfl, b1, b2, b3⟩ := shp_br a8
  have hln := ln_br s a b
  have cM := mkn_ch (A := AV) σ V 10 (i32 (p + 1)) (σ.1 41 v) (fun _ h => h)
  have kM := mkn_kp σ V 10 (i32 (p + 1)) (σ.1 41 v) T
  refine ⟨i32 (p + 1), σ.1 41 v, ?_, h1, by omega, mkn_39 _ _ _ _ _, p + 1, a, mkn_40 _ _ _ _ _, kK_fm kM a5.2.1 (by omega), by omega, by rw [cK_fx cM n36V]; exact (pr2 a7 (by omega)).1, b1⟩
  unfold f_Values_firstType f_Values_typeAt
  rw [k_leftOf hV a1 a2 (by omega), Option.bind_some]
  dsimp only
  rw [k_rightOf hV a1 a2 (by omega), Option.bind_some]
  dsimp only
  rw [obid, obid, a4, show i32 p + 1 = i32 (p + 1) from by rw [z1, z_add], k_make _ _ _ hV h1 hV2]
theorem k_secondType {σ : CS} {V T v s : Nat} {x y : Tr} (w : Int32) (hT : σ.1 34 1 = i32 T) (hT2 : T ≤ 3600) (hV : σ.1 38 4 = i32 V) (h1 : 1 ≤ V) (hV2 : V + 1 < 3072) (h : tyS σ V T (.branch s x y) v) : ∃ l r l', f_Values_secondType (i32 v) w σ = some (i32 (V + 1), mkn (mkn σ V 9 w r) (V + 1) 10 l' (i32 V)) ∧ r = σ.1 41 v ∧ l = l' ∧ tyS (mkn (mkn σ V 9 w r) (V + 1) 10 l' (i32 V)) (V + 2) T y (V + 1) := by
  obtain ⟨a1, a2, a3, p, A, a4, a5, a6, a7, a8⟩ := h
  obtain ⟨a, b, rfl, b1, b2, b3⟩ := shp_br a8
  have hln := ln_br s a b
  obtain ⟨pa, pb⟩ := pr2 a7 (by omega)
  have cM := mkn_ch (A := AV) σ V 9 w (σ.1 41 v) (fun _ h => h)
  have kM := mkn_kp σ V 9 w (σ.1 41 v) T
  have cM2 := mkn_ch (A := AV) (mkn σ V 9 w (σ.1 41 v)) (V + 1) 10 (i32 (p + 1 + ln a)) (i32 V) (fun _ h => h)
  have kM2 := mkn_kp (mkn σ V 9 w (σ.1 41 v)) (V + 1) 10 (i32 (p + 1 + ln a)) (i32 V) T
  refine ⟨_, σ.1 41 v, i32 (p + 1 + ln a), ?_, rfl, rfl, by omega, by omega, mkn_39 _ _ _ _ _, p + 1 + ln a, b, mkn_40 _ _ _ _ _, kK_fm kM2 (kK_fm kM a5.2.2 (by omega)) (by omega), by omega, by rw [cK_fx cM2 n36V, cK_fx cM n36V]; exact pb, b2⟩
  unfold f_Values_secondType f_Values_typeAt f_Values_extended
  rw [k_leftOf hV a1 a2 (by omega), Option.bind_some]
  dsimp only
  rw [a4, show i32 p + 1 = i32 (p + 1) from by rw [z1, z_add], k_behind hT hT2 pa a5.2.1 (by omega), Option.bind_some]
  dsimp only
  rw [k_rightOf hV a1 a2 (by omega), Option.bind_some]
  dsimp only
  rw [obid, k_make _ _ _ hV h1 (by omega), Option.bind_some]
  dsimp only
  rw [obid, obid, k_make _ _ _ (mkn_V _ _ _ _ _) (by omega) (by omega)]
end KTYPE
