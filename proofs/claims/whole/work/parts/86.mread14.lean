section MREAD14
theorem cm_kp (σ : MS) (p T n V E : Nat) : kp σ (cm σ p T n) V E T := by
  refine ⟨fun _ _ => rfl, fun i _ => ?_, fun i hi => ?_, ?_⟩
  · show (if 11 = 1 then (fun q => if T ≤ q ∧ q < T + n then σ.2.1 1 (p + (q - T)) else σ.2.1 1 q) else σ.2.1 11) i = _
    rw [if_neg (by decide)]
  · show (if 1 = 1 then (fun q => if T ≤ q ∧ q < T + n then σ.2.1 1 (p + (q - T)) else σ.2.1 1 q) else σ.2.1 1) i = _
    rw [if_pos rfl, if_neg (by omega)]
  · show (if 3 = 1 then (fun q => if T ≤ q ∧ q < T + n then σ.2.1 1 (p + (q - T)) else σ.2.1 1 q) else σ.2.1 3) = _
    rw [if_neg (by decide)]
theorem cm_ch {F A : List Nat} (σ : MS) (p T n : Nat) (h1 : 1 ∈ F) (h2 : 1 ∈ A) : ch F A σ (cm σ p T n) := by
  refine ⟨fun k hk => ?_, fun j hj => ?_⟩
  · unfold cm
    rw [setF_ne _ _ (show k ≠ 1 from fun h => hk (by rw [h]; exact h1))]
    rfl
  · show (if j = 1 then (fun q => if T ≤ q ∧ q < T + n then σ.2.1 1 (p + (q - T)) else σ.2.1 1 q) else σ.2.1 j) = _
    rw [if_neg (show ¬ (j = 1) from fun h => hj (by rw [h]; exact h2))]
theorem cm_1 (σ : MS) (p T n : Nat) : (cm σ p T n).1 1 = i32 (T + n) := setF_eq _ _ _
theorem cm_at (σ : MS) (p T n k : Nat) (h : k < n) : (cm σ p T n).2.1 1 (T + k) = σ.2.1 1 (p + k) := by
  show (if 1 = 1 then (fun q => if T ≤ q ∧ q < T + n then σ.2.1 1 (p + (q - T)) else σ.2.1 1 q) else σ.2.1 1) (T + k) = _
  rw [if_pos rfl, if_pos (by omega), show T + k - T = k by omega]
theorem cm_fm {σ : MS} {t : Tr} {p : Nat} (T : Nat) (h : fm (σ.2.1 1) t p) : fm ((cm σ p T (ln t)).2.1 1) t T := by
  rw [fm_iff] at h ⊢
  intro k hk
  rw [cm_at _ _ _ _ _ hk]
  exact h k hk
/-- a part put together of two -/
theorem m_joined2 {σ : MS} {A B : Tr} {T s a b : Nat} (V E : Nat) (h1 : σ.1 1 = i32 T) (pA : pr (fxM σ) A) (pB : pr (fxM σ) B) (fA : fm (σ.2.1 1) A a) (fB : fm (σ.2.1 1) B b) (bA : a + ln A ≤ T) (bB : b + ln B ≤ T) (hT : T + 1 + ln A + ln B ≤ 9400) : ∃ τ, f_joined (i32 s) (i32 a) (i32 b) σ = some (i32 T, τ) ∧ kp σ τ V E T ∧ ch [1] [1] σ τ ∧ τ.1 1 = i32 (T + ln (.branch s A B)) ∧ fm (τ.2.1 1) (.branch s A B) T := by
  have k1 := pt_kp σ T (i32 s) V E
  have p1 := pt_1 σ T (i32 s)
  have hA1 := kp_fm k1 fA bA
  have hB1 := kp_fm k1 fB bB
  have e1 := m_putsForm (T := T + 1) (by rw [kp_fx k1]; exact pA) hA1 (by omega) (by omega) p1
  have k2 := cm_kp (pt σ T (i32 s)) a (T + 1) (ln A) V E
  have k12 := kp_tr k1 k2 (Nat.le_refl _) (Nat.le_refl _) (show T ≤ T + 1 by omega)
  have p2 := cm_1 (pt σ T (i32 s)) a (T + 1) (ln A)
  have f2 := cm_fm (T + 1) hA1
  have e2 := m_putsForm (T := T + 1 + ln A) (by rw [kp_fx k12]; exact pB) (kp_fm k12 fB bB) (by omega) (by omega) p2
  have k3 := cm_kp (cm (pt σ T (i32 s)) a (T + 1) (ln A)) b (T + 1 + ln A) (ln B) V E
  have f3 := cm_fm (T + 1 + ln A) (kp_fm k12 fB bB)
  have at0 : (cm (cm (pt σ T (i32 s)) a (T + 1) (ln A)) b (T + 1 + ln A) (ln B)).2.1 1 T = i32 s := by
    rw [k3.2.2.1 T (by omega), k2.2.2.1 T (by omega)]
    exact pt_at _ _ _
  refine ⟨_, ?_, kp_tr k12 k3 (Nat.le_refl _) (Nat.le_refl _) (by omega), ch_tr (pt_ch _ _ _ (by simp) (by simp)) (ch_tr (cm_ch _ _ _ _ (by simp) (by simp)) (cm_ch _ _ _ _ (by simp) (by simp))), ?_, at0, kp_fm k3 f2 (Nat.le_refl _), f3⟩
  · unfold f_joined B_joined_20
    rw [m_puts (i32 s) h1 (by omega), Option.bind_some]
    dsimp only
    rw [if_neg (show ¬ (i32 a < 0) from by rw [show (0 : Int32) = i32 0 from rfl, z_lt (by omega) (by omega)]; omega), e1, Option.bind_some]
    dsimp only
    rw [e2, Option.bind_some, h1]
  · rw [cm_1, ln_br]
    congr 1
    omega
/-- a part put together of one -/
theorem m_joined1 {σ : MS} {A : Tr} {T s a : Nat} (V E : Nat) (h1 : σ.1 1 = i32 T) (pA : pr (fxM σ) A) (fA : fm (σ.2.1 1) A a) (bA : a + ln A ≤ T) (hT : T + 1 + ln A ≤ 9400) : ∃ τ, f_joined (i32 s) (-9) (i32 a) σ = some (i32 T, τ) ∧ kp σ τ V E T ∧ ch [1] [1] σ τ ∧ τ.1 1 = i32 (T + ln (un s A)) ∧ fm (τ.2.1 1) (un s A) T := by
  have k1 := pt_kp σ T (i32 s) V E
  have p1 := pt_1 σ T (i32 s)
  have hA1 := kp_fm k1 fA bA
  have e1 := m_putsForm (T := T + 1) (by rw [kp_fx k1]; exact pA) hA1 (by omega) (by omega) p1
  have k2 := cm_kp (pt σ T (i32 s)) a (T + 1) (ln A) V E
  have f2 := cm_fm (T + 1) hA1
  have at0 : (cm (pt σ T (i32 s)) a (T + 1) (ln A)).2.1 1 T = i32 s := by
    rw [k2.2.2.1 T (by omega)]
    exact pt_at _ _ _
  refine ⟨_, ?_, kp_tr k1 k2 (Nat.le_refl _) (Nat.le_refl _) (by omega), ch_tr (pt_ch _ _ _ (by simp) (by simp)) (cm_ch _ _ _ _ (by simp) (by simp)), ?_, at0, f2, fun h => absurd rfl h⟩
  · unfold f_joined B_joined_20
    rw [m_puts (i32 s) h1 (by omega), Option.bind_some]
    dsimp only
    rw [if_pos (show (-9 : Int32) < 0 from by decide), e1, Option.bind_some, h1]
  · rw [cm_1]
    show _ = i32 (T + ln (.branch s A (.leaf 0)))
    rw [ln_br, ln_0]
    congr 1
    omega
end MREAD14
