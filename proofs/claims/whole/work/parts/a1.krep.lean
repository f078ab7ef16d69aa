section KREP
/-- the class's values: a value (false) or a scope (true) stands at a node; what a function is given by its own long form may stand as a name -/
def rpK (σ : CS) (V T : Nat) : Bool → Tr → Nat → Prop
  | false, .leaf s, v => 1 ≤ v ∧ v < V ∧ ((48 ≤ s ∧ s < 58 ∧ σ.1 39 v = i32 1 ∧ σ.1 40 v = i32 (s - 48)) ∨ (97 ≤ s ∧ s ≤ 100 ∧ σ.1 39 v = i32 2 ∧ σ.1 40 v = i32 s) ∨ (s = 42 ∧ σ.1 39 v = i32 6))
  | false, .branch s a b, v => 1 ≤ v ∧ v < V ∧ ((s = 46 ∧ σ.1 39 v = i32 3 ∧ ∃ p q, σ.1 40 v = i32 p ∧ σ.1 41 v = i32 q ∧ rpK σ V T false a p ∧ (rpK σ V T false b q ∨ (∃ k x, k < 10 ∧ dta x ∧ b = et x (nm k) 0 ∧ 1 ≤ q ∧ q < V ∧ σ.1 39 q = i32 1 ∧ σ.1 40 q = i32 k)))
      ∨ (s = 44 ∧ σ.1 39 v = i32 7 ∧ ∃ p q, σ.1 40 v = i32 p ∧ σ.1 41 v = i32 q ∧ rpK σ V T false a p ∧ rpK σ V T false b q)
      ∨ (s = 60 ∧ b = .leaf 0 ∧ σ.1 39 v = i32 4 ∧ ∃ p, σ.1 40 v = i32 p ∧ rpK σ V T false a p)
      ∨ (s = 62 ∧ b = .leaf 0 ∧ σ.1 39 v = i32 5 ∧ ∃ p, σ.1 40 v = i32 p ∧ rpK σ V T false a p)
      ∨ (s = 92 ∧ σ.1 39 v = i32 8 ∧ ∃ p e, σ.1 40 v = i32 p ∧ σ.1 41 v = i32 e ∧ fm (σ.1 35) a p ∧ pr (fxK σ) a ∧ p + ln a ≤ T ∧ ln a ≤ 49 ∧ (dL b).length < 10 ∧ dp a ((dL b).length + 1) ∧ rpK σ V T true b e))
  | true, .leaf _, e => e = 0
  | true, .branch _ u b, e => 1 ≤ e ∧ e < V ∧ σ.1 39 e = i32 9 ∧ (dL b).length < 10 ∧ ∃ q r, σ.1 40 e = i32 q ∧ σ.1 41 e = i32 r ∧ rpK σ V T false u q ∧ rpK σ V T true b r
theorem rK_V {σ : CS} {V T : Nat} {t : Tr} {v : Nat} (h : rpK σ V T false t v) : 1 ≤ v ∧ v < V := by
  cases t with
  | leaf s => exact ⟨h.1, h.2.1⟩
  | branch s a b => exact ⟨h.1, h.2.1⟩
theorem rK_kp {σ τ : CS} {V T V' T' : Nat} (k : kpK σ τ V T) (hf : fxK τ = fxK σ) (hV : V ≤ V') (hT : T ≤ T') : ∀ (t : Tr) (m : Bool) (v : Nat), rpK σ V T m t v → rpK τ V' T' m t v := by
  intro t
  induction t with
  | leaf s =>
    intro m v h
    cases m with
    | false =>
      obtain ⟨h0, h1, h2⟩ := h
      obtain ⟨k1, k2, k3⟩ := k.1 v h1
      refine ⟨h0, by omega, ?_⟩
      rw [k1, k2]; exact h2
    | true => exact h
  | branch s a b iha ihb =>
    intro m v h
    cases m with
    | false =>
      obtain ⟨h0, h1, h2⟩ := h
      obtain ⟨k1, k2, k3⟩ := k.1 v h1
      refine ⟨h0, by omega, ?_⟩
      rw [k1, k2, k3]
      rcases h2 with ⟨a1, a2, p, q, a3, a4, a5, a6⟩ | ⟨a1, a2, p, q, a3, a4, a5, a6⟩ | ⟨a1, a2, a3, p, a4, a5⟩ | ⟨a1, a2, a3, p, a4, a5⟩ | ⟨a1, a2, p, e, a3, a4, a5, a6, a7, a8, a9, a10, a11⟩
      · refine Or.inl ⟨a1, a2, p, q, a3, a4, iha _ _ a5, ?_⟩
        rcases a6 with a6 | ⟨i, x, b1, b2, b3, b4, b5, b6, b7⟩
        · exact Or.inl (ihb _ _ a6)
        · obtain ⟨g1, g2, _⟩ := k.1 q b5
          exact Or.inr ⟨i, x, b1, b2, b3, b4, by omega, by rw [g1]; exact b6, by rw [g2]; exact b7⟩
      · exact Or.inr (Or.inl ⟨a1, a2, p, q, a3, a4, iha _ _ a5, ihb _ _ a6⟩)
      · exact Or.inr (Or.inr (Or.inl ⟨a1, a2, a3, p, a4, iha _ _ a5⟩))
      · exact Or.inr (Or.inr (Or.inr (Or.inl ⟨a1, a2, a3, p, a4, iha _ _ a5⟩)))
      · exact Or.inr (Or.inr (Or.inr (Or.inr ⟨a1, a2, p, e, a3, a4, kK_fm k a5 a7, by rw [hf]; exact a6, by omega, a8, a9, a10, ihb _ _ a11⟩)))
    | true =>
      obtain ⟨h0, h1, h2, h3, q, r, h4, h5, h6, h7⟩ := h
      obtain ⟨k1, k2, k3⟩ := k.1 v h1
      exact ⟨h0, by omega, by rw [k1]; exact h2, h3, q, r, by rw [k2]; exact h4, by rw [k3]; exact h5, iha _ _ h6, ihb _ _ h7⟩
/-- the kind of a value -/
def kdT : Tr → Nat
  | .leaf s => if 48 ≤ s ∧ s < 58 then 1 else if s = 42 then 6 else 2
  | .branch s _ _ => if s = 46 then 3 else if s = 44 then 7 else if s = 60 then 4 else if s = 62 then 5 else 8
theorem rK_kd {σ : CS} {V T : Nat} {t : Tr} {v : Nat} (h : rpK σ V T false t v) : σ.1 39 v = i32 (kdT t) := by
  cases t with
  | leaf s =>
    obtain ⟨_, _, h⟩ := h
    simp only [kdT]
    rcases h with ⟨a1, a2, a3, a4⟩ | ⟨a1, a2, a3, a4⟩ | ⟨a1, a2⟩
    · rw [if_pos ⟨a1, a2⟩]; exact a3
    · rw [if_neg (by omega), if_neg (by omega)]; exact a3
    · rw [if_neg (by omega), if_pos a1]; exact a2
  | branch s a b =>
    obtain ⟨_, _, h⟩ := h
    simp only [kdT]
    rcases h with ⟨a1, a2, _⟩ | ⟨a1, a2, _⟩ | ⟨a1, _, a2, _⟩ | ⟨a1, _, a2, _⟩ | ⟨a1, a2, _⟩
    · subst a1; exact a2
    · subst a1; exact a2
    · subst a1; exact a2
    · subst a1; exact a2
    · subst a1; exact a2
theorem kdT_lt (t : Tr) : kdT t < 9 := by
  cases t with
  | leaf s =>
    simp only [kdT]
    split
    · omega
    · split <;> omega
  | branch s a b =>
    simp only [kdT]
    split
    · omega
    · split
      · omega
      · split
        · omega
        · split <;> omega
theorem kdT_8 {t : Tr} (h : ∀ a b, t ≠ .branch 92 a b) {σ : CS} {V T v : Nat} (hr : rpK σ V T false t v) : kdT t ≠ 8 := by
  cases t with
  | leaf s =>
    simp only [kdT]
    split
    · omega
    · split <;> omega
  | branch s a b =>
    obtain ⟨_, _, h2⟩ := hr
    rcases h2 with ⟨a1, _⟩ | ⟨a1, _⟩ | ⟨a1, _⟩ | ⟨a1, _⟩ | ⟨a1, _⟩
    · subst a1; simp [kdT]
    · subst a1; simp [kdT]
    · subst a1; simp [kdT]
    · subst a1; simp [kdT]
    · subst a1; exact absurd rfl (h a b)
theorem rK_len {σ : CS} {V T : Nat} : ∀ (ρ : List Tr) (e : Nat), rpK σ V T true (eL ρ) e → ρ.length ≤ 10 := by
  intro ρ
  induction ρ using rev_ind with
  | h0 => intro e _; simp
  | h1 ρ u ih =>
    intro e h
    rw [eL_snoc] at h
    have := h.2.2.2.1
    rw [dL_eL] at this
    simp
    omega
theorem k_var5 {σ : CS} {V T : Nat} (hV : σ.1 38 4 = i32 V) (hV2 : V ≤ 3072) (x1 x2 : Int32) : ∀ (ρ : List Tr) (e j F : Nat), rpK σ V T true (eL ρ) e → j + ρ.length ≤ 10 → L_Values_variableIn_5 (F + ρ.length + 1) x1 x2 (i32 j) (i32 e) σ = B_Values_variableIn_36 x1 x2 (i32 (j + ρ.length)) σ := by
  intro ρ
  induction ρ using rev_ind with
  | h0 =>
    intro e j F h _
    have h0 : e = 0 := h
    subst h0
    rw [L_Values_variableIn_5, k_kind0, Option.bind_some]
    dsimp only
    rw [if_neg (show ¬ (i32 0 = 9) from by decide)]
    rfl
  | h1 ρ u ih =>
    intro e j F h hj
    rw [eL_snoc] at h
    obtain ⟨h0, h1, h2, h3, q, r, h4, h5, h6, h7⟩ := h
    simp at hj
    rw [show F + (ρ ++ [u]).length + 1 = (F + ρ.length + 1) + 1 by simp; omega, L_Values_variableIn_5, k_kindOf hV h0 h1 hV2, Option.bind_some]
    dsimp only
    rw [h2, if_pos (show i32 9 = 9 from rfl), if_neg (show ¬ ((10 : Int32) < i32 j) from by rw [show (10 : Int32) = i32 10 from rfl, z_lt (by omega) (by omega)]; omega), k_rightOf hV h0 h1 hV2, Option.bind_some]
    dsimp only
    rw [h5, show i32 j + 1 = i32 (j + 1) from by rw [z1, z_add], ih r (j + 1) F h7 (by omega), show j + 1 + ρ.length = j + (ρ ++ [u]).length by simp; omega]
theorem k_var44 {σ : CS} {V T : Nat} (hV : σ.1 38 4 = i32 V) (hV2 : V ≤ 3072) {m n : Nat} (hm : m ≤ 10) (hnm : n < m) : ∀ (ρ : List Tr) (e i F : Nat), rpK σ V T true (eL ρ) e → n < ρ.length → i + ρ.length = m + n + 1 → ∃ q, L_Values_variableIn_44 (F + ρ.length + 1) (i32 n) (i32 m) (i32 e) (i32 i) σ = some (i32 q, σ) ∧ rpK σ V T false (lk ρ n) q := by
  intro ρ
  induction ρ using rev_ind with
  | h0 => intro e i F _ h _; simp at h
  | h1 ρ u ih =>
    intro e i F h hn hi
    rw [eL_snoc] at h
    obtain ⟨h0, h1, h2, h3, q, r, h4, h5, h6, h7⟩ := h
    simp at hn hi
    rw [dL_eL] at h3
    rw [show F + (ρ ++ [u]).length + 1 = (F + ρ.length + 1) + 1 by simp; omega]
    by_cases hmi : m ≤ i
    · obtain rfl : n = ρ.length := by omega
      refine ⟨q, ?_, by rw [lk_last]; exact h6⟩
      rw [L_Values_variableIn_44, if_pos (show i32 m ≤ i32 i from by rw [z_le (by omega) (by omega)]; exact hmi), if_neg (show ¬ (i32 ρ.length < 0) from by rw [show (0 : Int32) = i32 0 from rfl, z_lt (by omega) (by omega)]; omega), if_neg (show ¬ (i32 m ≤ i32 ρ.length) from by rw [z_le (by omega) (by omega)]; omega), k_leftOf hV h0 h1 hV2, Option.bind_some]
      dsimp only
      rw [h4]
      rfl
    · obtain ⟨q', e1, e2⟩ := ih r (i + 1) F h7 (by omega) (by omega)
      refine ⟨q', ?_, by rw [lk_lt _ (by omega)]; exact e2⟩
      rw [L_Values_variableIn_44, if_neg (show ¬ (i32 m ≤ i32 i) from by rw [z_le (by omega) (by omega)]; exact hmi), k_rightOf hV h0 h1 hV2, Option.bind_some]
      dsimp only
      rw [h5, show i32 i + 1 = i32 (i + 1) from by rw [z1, z_add]]
      exact e1
/-- the value of a name in a scope -/
theorem k_varIn {σ : CS} {V T e n : Nat} {ρ : List Tr} (hV : σ.1 38 4 = i32 V) (hV2 : V ≤ 3072) (h : rpK σ V T true (eL ρ) e) (hn : n < ρ.length) : ∃ q, f_Values_variableIn (i32 e) (i32 n) σ = some (i32 q, σ) ∧ rpK σ V T false (lk ρ n) q := by
  have hl := rK_len ρ e h
  obtain ⟨q, e1, e2⟩ := k_var44 (m := ρ.length) hV hV2 hl hn ρ e (n + 1) (9999 - ρ.length) h hn (by omega)
  refine ⟨q, ?_, e2⟩
  have e5 := k_var5 hV hV2 (i32 e) (i32 n) ρ e 0 (9999 - ρ.length) h (by omega)
  rw [show 9999 - ρ.length + ρ.length + 1 = 10000 by omega] at e1 e5
  unfold f_Values_variableIn
  rw [show (0 : Int32) = i32 0 from rfl, e5, Nat.zero_add]
  unfold B_Values_variableIn_36
  rw [show i32 n + 1 = i32 (n + 1) from by rw [z1, z_add]]
  exact e1
/-- components taken -/
theorem k_first {σ : CS} {V T v : Nat} {t : Tr} (h : rpK σ V T false t v) (hV : σ.1 38 4 = i32 V) (h1 : 1 ≤ V) (hv : V < 3072) : ∃ v' τ V', f_Values_firstOf (i32 v) σ = some (i32 v', τ) ∧ τ.1 38 4 = i32 V' ∧ V ≤ V' ∧ (V' ≤ V + 1 ∧ V' + wv (fstV t) ≤ V + 1 + wv t) ∧ rpK τ V' T false (fstV t) v' ∧ kpK σ τ V T ∧ chK AV σ τ ∧ τ.1 38 6 = σ.1 38 6 := by
  obtain ⟨g0, g1⟩ := rK_V h
  have hk := rK_kd h
  have hlt := kdT_lt t
  unfold f_Values_firstOf B_Values_firstOf_25
  rw [k_kindOf hV g0 g1 (by omega), Option.bind_some]
  dsimp only
  rw [hk]
  by_cases h7 : kdT t = 7
  · cases t with
    | leaf s =>
      exfalso
      simp only [kdT] at h7
      split at h7
      · omega
      · split at h7 <;> omega
    | branch s a b =>
      obtain ⟨_, _, h⟩ := h
      rcases h with ⟨a1, a2, _⟩ | ⟨a1, a2, p, q, a3, a4, a5, a6⟩ | ⟨a1, _⟩ | ⟨a1, _⟩ | ⟨a1, _⟩
      · subst a1; exact absurd h7 (by simp [kdT])
      · subst a1
        refine ⟨p, σ, V, ?_, hV, Nat.le_refl _, ⟨by omega, ?_⟩, ?_, kK_rf _ _ _, cK_rf _ _, rfl⟩
        · rw [if_pos (show i32 (kdT (.branch 44 a b)) = 7 from rfl), k_leftOf hV g0 g1 (by omega), Option.bind_some, a3]
        · have e1 : fstV (.branch 44 a b) = a := by simp [fstV]
          have e2 : wv (.branch 44 a b) = wv a + wv b := by simp [wv]
          rw [e1, e2]; omega
        · rw [show fstV (.branch 44 a b) = a by simp [fstV]]; exact a5
      · subst a1; exact absurd h7 (by simp [kdT])
      · subst a1; exact absurd h7 (by simp [kdT])
      · subst a1; exact absurd h7 (by simp [kdT])
  · have ef : fstV t = un 60 t := by
      cases t with
      | leaf s => rfl
      | branch s a b =>
        have : s ≠ 44 := fun e => h7 (by subst e; rfl)
        simp [fstV, this]
    have cA := mkn_ch (A := AV) σ V 4 (i32 v) 0 (fun _ h => h)
    refine ⟨V, mkn σ V 4 (i32 v) 0, V + 1, ?_, mkn_V _ _ _ _ _, by omega, ⟨by omega, ?_⟩, ?_, mkn_kp _ _ _ _ _ _, cA, mkn_386 _ _ _ _ _⟩
    · rw [if_neg (show ¬ (i32 (kdT t) = 7) from c_eq (b := 7) h7 (by omega) (by omega)), k_make _ _ _ hV h1 hv, Option.bind_some]
    · rw [ef]
      have : wv (un 60 t) = wv t := by simp [un, wv]
      omega
    · rw [ef]
      exact ⟨by omega, by omega, Or.inr (Or.inr (Or.inl ⟨rfl, rfl, mkn_39 _ _ _ _ _, v, mkn_40 _ _ _ _ _, rK_kp (mkn_kp _ _ _ _ _ _) (cK_fx cA n36V) (by omega) (Nat.le_refl _) _ _ _ h⟩))⟩
theorem k_second {σ : CS} {V T v : Nat} {t : Tr} (h : rpK σ V T false t v) (hV : σ.1 38 4 = i32 V) (h1 : 1 ≤ V) (hv : V < 3072) : ∃ v' τ V', f_Values_secondOf (i32 v) σ = some (i32 v', τ) ∧ τ.1 38 4 = i32 V' ∧ V ≤ V' ∧ (V' ≤ V + 1 ∧ V' + wv (sndV t) ≤ V + 1 + wv t) ∧ rpK τ V' T false (sndV t) v' ∧ kpK σ τ V T ∧ chK AV σ τ ∧ τ.1 38 6 = σ.1 38 6 := by
  obtain ⟨g0, g1⟩ := rK_V h
  have hk := rK_kd h
  have hlt := kdT_lt t
  unfold f_Values_secondOf B_Values_secondOf_25
  rw [k_kindOf hV g0 g1 (by omega), Option.bind_some]
  dsimp only
  rw [hk]
  by_cases h7 : kdT t = 7
  · cases t with
    | leaf s =>
      exfalso
      simp only [kdT] at h7
      split at h7
      · omega
      · split at h7 <;> omega
    | branch s a b =>
      obtain ⟨_, _, h⟩ := h
      rcases h with ⟨a1, a2, _⟩ | ⟨a1, a2, p, q, a3, a4, a5, a6⟩ | ⟨a1, _⟩ | ⟨a1, _⟩ | ⟨a1, _⟩
      · subst a1; exact absurd h7 (by simp [kdT])
      · subst a1
        refine ⟨q, σ, V, ?_, hV, Nat.le_refl _, ⟨by omega, ?_⟩, ?_, kK_rf _ _ _, cK_rf _ _, rfl⟩
        · rw [if_pos (show i32 (kdT (.branch 44 a b)) = 7 from rfl), k_rightOf hV g0 g1 (by omega), Option.bind_some, a4]
        · have e1 : sndV (.branch 44 a b) = b := by simp [sndV]
          have e2 : wv (.branch 44 a b) = wv a + wv b := by simp [wv]
          rw [e1, e2]; omega
        · rw [show sndV (.branch 44 a b) = b by simp [sndV]]; exact a6
      · subst a1; exact absurd h7 (by simp [kdT])
      · subst a1; exact absurd h7 (by simp [kdT])
      · subst a1; exact absurd h7 (by simp [kdT])
  · have ef : sndV t = un 62 t := by
      cases t with
      | leaf s => rfl
      | branch s a b =>
        have : s ≠ 44 := fun e => h7 (by subst e; rfl)
        simp [sndV, this]
    have cA := mkn_ch (A := AV) σ V 5 (i32 v) 0 (fun _ h => h)
    refine ⟨V, mkn σ V 5 (i32 v) 0, V + 1, ?_, mkn_V _ _ _ _ _, by omega, ⟨by omega, ?_⟩, ?_, mkn_kp _ _ _ _ _ _, cA, mkn_386 _ _ _ _ _⟩
    · rw [if_neg (show ¬ (i32 (kdT t) = 7) from c_eq (b := 7) h7 (by omega) (by omega)), k_make _ _ _ hV h1 hv, Option.bind_some]
    · rw [ef]
      have : wv (un 62 t) = wv t := by simp [un, wv]
      omega
    · rw [ef]
      exact ⟨by omega, by omega, Or.inr (Or.inr (Or.inr (Or.inl ⟨rfl, rfl, mkn_39 _ _ _ _ _, v, mkn_40 _ _ _ _ _, rK_kp (mkn_kp _ _ _ _ _ _) (cK_fx cA n36V) (by omega) (Nat.le_refl _) _ _ _ h⟩)))⟩
end KREP
