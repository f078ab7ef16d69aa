section MSPREAD
theorem sp_done {k8 : Int32 → Int32 → Int32 → MS → Option (Int32 × MS)} (I : Nat) (x3 x4 v : Int32) (σ : MS) : L_spread_100 k8 (I + 1) x3 x4 (i32 0) v (i32 1) σ = some (v, σ) := by
  rw [L_spread_100, if_pos (show i32 0 ≤ 0 from Int32.le_refl _), B_spread_175, if_neg (show ¬ (i32 1 = 0) from by decide)]
theorem sp_again {k8 : Int32 → Int32 → Int32 → MS → Option (Int32 × MS)} (I : Nat) (x3 x4 v : Int32) {n : Nat} {σ : MS} (hn : n < 60) : L_spread_100 k8 (I + 1) x3 x4 (i32 (n + 1)) v (i32 0) σ = k8 x3 x4 (i32 (n + 1)) σ := by
  rw [L_spread_100, if_neg (c_le n (by omega)), if_pos (show i32 0 = 0 from rfl), B_spread_175, if_pos (show i32 0 = 0 from rfl)]
theorem z_sub1 (n : Nat) : i32 (n + 1) - 1 = i32 n := by rw [z1, z_sub (by omega), Nat.add_sub_cancel]
theorem sp_first {k8 : Int32 → Int32 → Int32 → MS → Option (Int32 × MS)} (I : Nat) (x3 x4 v : Int32) {n : Nat} {σ : MS} (hn : n < 60) (h : σ.2.1 20 n = -9) : L_spread_100 k8 (I + 1) x3 x4 (i32 (n + 1)) v (i32 1) σ = L_spread_100 k8 I x3 (σ.2.1 19 n) (i32 (n + 1)) v (i32 0) (setA σ 20 n v) := by
  have h1 : (setA σ 20 n v).2.1 19 n = σ.2.1 19 n := setA_ne σ v (Or.inl (by decide))
  rw [L_spread_100, if_neg (c_le n (by omega)), if_neg (show ¬ (i32 1 = 0) from by decide), z_sub1, if_pos (c_ix (show n < aln 20 from hn) (by omega)), z_nn (by omega), h, if_neg (show ¬ ((0 : Int32) ≤ -9) from by decide), if_pos (c_ix (show n < aln 20 from hn) (by omega)), if_pos (c_ix (show n < aln 19 from hn) (by omega)), h1]
  rfl
theorem sp_pair {k8 : Int32 → Int32 → Int32 → MS → Option (Int32 × MS)} (I : Nat) (x3 x4 v : Int32) {n a : Nat} {σ : MS} (hn : n < 60) (ha : a < 2400) (h : σ.2.1 20 n = i32 a) : L_spread_100 k8 (I + 1) x3 x4 (i32 (n + 1)) v (i32 1) σ = (f_lays (i32 5) (i32 a) v (i32 0) σ).bind fun q => L_spread_100 k8 I x3 x4 (i32 n) q.1 (i32 1) q.2 := by
  rw [L_spread_100, if_neg (c_le n (by omega)), if_neg (show ¬ (i32 1 = 0) from by decide), z_sub1, if_pos (c_ix (show n < aln 20 from hn) (by omega)), z_nn (by omega), h, if_pos (show (0 : Int32) ≤ i32 a from by rw [show (0 : Int32) = i32 0 from rfl, z_le (by omega) (by omega)]; omega), if_pos (c_ix (show n < aln 20 from hn) (by omega)), z_pred]
  rfl
theorem sp_S {F p v n V : Nat} {σ : MS} (hp : p < 9400) (hn : n < 60) (hg : σ.2.1 1 p = i32 83) (hV : σ.1 19 = i32 V) (hv : V + 1 < 2400) (hv2 : v < 2400) : L_spread_8 (F + 1) (i32 p) (i32 v) (i32 n) σ = L_spread_8 F (i32 (p + 1)) (i32 (V + 1)) (i32 (n + 1)) (lay (setA (setA (lay σ V (pk 4 v 0 0)) 19 n (i32 V)) 20 n (-9)) (V + 1) (pk 3 v 0 0)) := by
  have e1 : f_lays 4 (i32 v) 0 0 σ = some (i32 V, lay σ V (pk 4 v 0 0)) := m_lays (s := 4) (a := v) (b := 0) (l := 0) hV (by omega) (by omega) (by omega) (by omega) (by omega)
  have e2 : f_lays 3 (i32 v) 0 0 (setA (setA (lay σ V (pk 4 v 0 0)) 19 n (i32 V)) 20 n (-9)) = some (i32 (V + 1), lay (setA (setA (lay σ V (pk 4 v 0 0)) 19 n (i32 V)) 20 n (-9)) (V + 1) (pk 3 v 0 0)) := m_lays (s := 3) (a := v) (b := 0) (l := 0) (by show (lay σ V (pk 4 v 0 0)).1 19 = _; exact lay_19 _ _ _) hv (by omega) (by omega) (by omega) (by omega)
  rw [L_spread_8, if_pos (c_ix (show p < aln 1 from hp) (by omega)), z_nn (show p < 2147483648 by omega), hg, if_pos (show i32 83 = 83 from rfl), e1, Option.bind_some]
  dsimp only
  rw [if_pos (c_ix (show n < aln 19 from hn) (by omega)), if_pos (c_ix (show n < aln 20 from hn) (by omega)), z_nn (show n < 2147483648 by omega), e2, Option.bind_some, show i32 p + 1 = i32 (p + 1) from by rw [z1, z_add], show i32 n + 1 = i32 (n + 1) from by rw [z1, z_add]]
theorem sp_1 {F p v n V : Nat} {σ : MS} {t : Tr} (hp : p < 9400) (hg : σ.2.1 1 p = i32 49) (hV : σ.1 19 = i32 V) (hv : V < 2400) (ht : pr (fxM σ) t) (hf : fm (σ.2.1 1) t p) (hl : p + ln t ≤ 9400) : L_spread_8 (F + 1) (i32 p) (i32 v) (i32 n) σ = L_spread_100 (L_spread_8 F) 10000 (i32 (p + ln t)) (i32 v) (i32 n) (i32 V) (i32 1) (lay σ V (pk 6 0 0 0)) := by
  have e1 : f_lays 6 0 0 0 σ = some (i32 V, lay σ V (pk 6 0 0 0)) := m_lays (s := 6) (a := 0) (b := 0) (l := 0) hV hv (by omega) (by omega) (by omega) (by omega)
  have kl := lay_kp σ V (pk 6 0 0 0) 0 9400
  rw [L_spread_8, if_pos (c_ix (show p < aln 1 from hp) (by omega)), z_nn (show p < 2147483648 by omega), hg, if_neg (show ¬ (i32 49 = 83) from by decide), if_pos (show i32 49 = 49 from rfl), e1, Option.bind_some, B_spread_89]
  dsimp only
  rw [m_behind (by rw [kp_fx kl]; exact ht) (kp_fm kl hf hl) hl, Option.bind_some]
  rfl
theorem sp_f {F p v n c : Nat} {σ : MS} {t : Tr} (hp : p < 9400) (hg : σ.2.1 1 p = i32 c) (hc : c ≠ 83) (hc2 : c ≠ 49) (hc3 : c < 128) (ht : pr (fxM σ) t) (hf : fm (σ.2.1 1) t p) (hl : p + ln t ≤ 9400) : L_spread_8 (F + 1) (i32 p) (i32 v) (i32 n) σ = L_spread_100 (L_spread_8 F) 10000 (i32 (p + ln t)) (i32 v) (i32 n) (i32 v) (i32 1) σ := by
  rw [L_spread_8, if_pos (c_ix (show p < aln 1 from hp) (by omega)), z_nn (show p < 2147483648 by omega), hg, if_neg (show ¬ (i32 c = 83) from c_eq (b := 83) hc (by omega) (by omega)), if_neg (show ¬ (i32 c = 49) from c_eq (b := 49) hc2 (by omega) (by omega)), B_spread_89, m_behind ht hf hl, Option.bind_some]
  rfl
/-- spread: the long form of a name of data, as a value -/
theorem m_sp {L : Lw} : ∀ (T' : Tr) (Γ : List Tr), WT L T' Γ → dta (shp T') → ∀ (w : Tr) (k F p n v V E T : Nat) (σ : MS), rpM σ V E T false w v → pr (fxM σ) T' → fm (σ.2.1 1) T' p → p + ln T' ≤ T → T ≤ 9400 → σ.1 19 = i32 V → V + 3 * ln T' ≤ 2400 → n + ln T' ≤ 60 → ln T' ≤ 50 → ln T' ≤ F →
    ∃ F' I' v' x4 τ V', F ≤ F' + ln T' ∧ 10000 ≤ I' + ln T' ∧ L_spread_8 F (i32 p) (i32 v) (i32 n) σ = L_spread_100 (L_spread_8 F') I' (i32 (p + ln T')) x4 (i32 n) (i32 v') (i32 1) τ ∧ τ.1 19 = i32 V' ∧ V ≤ V' ∧ V' ≤ V + 3 * ln T' ∧ rpM τ V' E T false (et (shp T') w k) v' ∧ kp σ τ V E T ∧ ch [19] [19, 20] σ τ ∧ (∀ i, i < n → τ.2.1 19 i = σ.2.1 19 i ∧ τ.2.1 20 i = σ.2.1 20 i) := by
  intro T'
  induction T' with
  | leaf c =>
    intro Γ hW hd w k F p n v V E T σ hr hp hf hT hT' hV hv hn hl hF
    rw [ln_leaf hp.1] at hT hv hn hl hF
    have hl1 : ln (.leaf c) = 1 := ln_leaf hp.1
    obtain ⟨F, rfl⟩ : ∃ F', F = F' + 1 := ⟨F - 1, by omega⟩
    by_cases h49 : c = 49
    · subst h49
      refine ⟨F, 10000, V, i32 v, _, V + 1, by omega, by omega, sp_1 (by omega) (hf hp.1) hV (by omega) hp hf (by omega), lay_19 _ _ _, by omega, by omega, ?_, lay_kp _ _ _ _ _, lay_ch _ _ _ _ (by simp), fun _ _ => ⟨rfl, rfl⟩⟩
      simp only [shp, et, if_true]
      exact ⟨by omega, Or.inr (Or.inr ⟨rfl, lay_V _ _ _⟩)⟩
    · have h83 : c ≠ 83 := fun e => absurd (show 2 = 0 from by rw [e] at hp; exact hp.2.2) (by decide)
      refine ⟨F, 10000, v, i32 v, σ, V, by omega, by omega, sp_f (by omega) (hf hp.1) h83 h49 hp.2.1 hp hf (by omega), hV, by omega, by omega, ?_, kp_rf _ _ _ _, ch_rf _ _ _, fun _ _ => ⟨rfl, rfl⟩⟩
      simp only [shp, et, if_neg h49]
      exact hr
  | branch c a b iha ihb =>
    intro Γ hW hd w k F p n v V E T σ hr hp hf hT hT' hV hv hn hl hF
    have hf1 := hf.1
    have hvV := rp_V hr
    obtain ⟨F, rfl⟩ : ∃ F', F = F' + 1 := ⟨F - 1, by have := pr_pos hp; omega⟩
    by_cases hs : c = 83 ∨ c = 80
    · obtain ⟨_, hWa, hWb⟩ := WT_SP hW hs
      rw [shp, if_pos hs] at hd ⊢
      obtain ⟨hc, hda, hdb⟩ := hd
      subst hc
      have hpab : pr (fxM σ) a ∧ pr (fxM σ) b := by
        rcases hp.2.2 with h | h
        · exact h.2
        · exact absurd (show 2 = 1 from h.1) (by decide)
      have hla := pr_pos hpab.1
      have hlb := pr_pos hpab.2
      rw [ln_br] at hT hv hn hl hF ⊢
      have step := sp_S (F := F) (p := p) (v := v) (n := n) (by omega) (by omega) hf1 hV (by omega) (by omega)
      generalize hσ1 : lay (setA (setA (lay σ V (pk 4 v 0 0)) 19 n (i32 V)) 20 n (-9)) (V + 1) (pk 3 v 0 0) = σ1 at step
      have k0 : kp σ (setA (setA (lay σ V (pk 4 v 0 0)) 19 n (i32 V)) 20 n (-9)) V E T := kp_tr (lay_kp _ _ _ _ _) (kp_tr (kp_setA _ n _ V E T (by decide) (by decide) (by decide)) (kp_setA _ n _ V E T (by decide) (by decide) (by decide)) (Nat.le_refl _) (Nat.le_refl _) (Nat.le_refl _)) (Nat.le_refl _) (Nat.le_refl _) (Nat.le_refl _)
      have k1' : kp (setA (setA (lay σ V (pk 4 v 0 0)) 19 n (i32 V)) 20 n (-9)) σ1 (V + 1) E T := by rw [← hσ1]; exact lay_kp _ _ _ _ _
      have k1 : kp σ σ1 V E T := kp_tr k0 k1' (by omega) (Nat.le_refl _) (Nat.le_refl _)
      have c1 : ch [19] [19, 20] σ σ1 := by
        rw [← hσ1]
        exact ch_tr (lay_ch _ _ _ _ (by simp)) (ch_tr (ch_setA _ _ (by simp)) (ch_tr (ch_setA _ _ (by simp)) (lay_ch _ _ _ _ (by simp))))
      have fV : σ1.2.2 V = pk 4 v 0 0 := by
        rw [k1'.1 V (by omega)]
        show (lay σ V (pk 4 v 0 0)).2.2 V = _
        exact lay_V _ _ _
      have fV1 : σ1.2.2 (V + 1) = pk 3 v 0 0 := by rw [← hσ1]; exact lay_V _ _ _
      have f19 : σ1.1 19 = i32 (V + 2) := by rw [← hσ1]; exact lay_19 _ _ _
      have a19 : σ1.2.1 19 n = i32 V := by
        rw [← hσ1]
        show (setA (setA (lay σ V (pk 4 v 0 0)) 19 n (i32 V)) 20 n (-9)).2.1 19 n = _
        rw [setA_ne _ _ (Or.inl (by decide)), setA_at]
      have a20 : σ1.2.1 20 n = -9 := by
        rw [← hσ1]
        show (setA (setA (lay σ V (pk 4 v 0 0)) 19 n (i32 V)) 20 n (-9)).2.1 20 n = _
        rw [setA_at]
      have alt : ∀ i, i < n → σ1.2.1 19 i = σ.2.1 19 i ∧ σ1.2.1 20 i = σ.2.1 20 i := by
        intro i hi
        rw [← hσ1]
        show (setA (setA (lay σ V (pk 4 v 0 0)) 19 n (i32 V)) 20 n (-9)).2.1 19 i = _ ∧ (setA (setA (lay σ V (pk 4 v 0 0)) 19 n (i32 V)) 20 n (-9)).2.1 20 i = _
        rw [setA_ne _ _ (Or.inl (by decide)), setA_ne _ _ (Or.inr (by omega)), setA_ne _ _ (Or.inr (by omega)), setA_ne _ _ (Or.inl (by decide))]
        exact ⟨rfl, rfl⟩
      have rw1 : rpM σ1 (V + 2) E T false w v := rp_kp k1 (by omega) (Nat.le_refl _) (Nat.le_refl _) _ _ _ hr
      have r60 : rpM σ1 (V + 2) E T false (un 60 w) (V + 1) := ⟨by omega, Or.inr (Or.inr (Or.inl ⟨rfl, rfl, v, fV1, rw1⟩))⟩
      have r62 : rpM σ1 (V + 2) E T false (un 62 w) V := ⟨by omega, Or.inr (Or.inr (Or.inr (Or.inl ⟨rfl, rfl, v, fV, rw1⟩)))⟩
      obtain ⟨F1, I1, va, xa, τ, V1, g1, g2, g3, g4, g5, g6, g7, g8, g9, g10⟩ := iha Γ hWa hda (un 60 w) k F (p + 1) (n + 1) (V + 1) (V + 2) E T σ1 r60 (by rw [kp_fx k1]; exact hpab.1) (kp_fm k1 hf.2.1 (by omega)) (by omega) hT' f19 (by omega) (by omega) (by omega) (by omega)
      obtain ⟨J, rfl⟩ : ∃ J, I1 = (J + 1) + 1 := ⟨I1 - 2, by omega⟩
      have t20 : τ.2.1 20 n = -9 := by rw [(g10 n (by omega)).2]; exact a20
      have t19 : τ.2.1 19 n = i32 V := by rw [(g10 n (by omega)).1]; exact a19
      have k2 : kp τ (setA τ 20 n (i32 va)) V1 E T := kp_setA τ n _ V1 E T (by decide) (by decide) (by decide)
      have k3 : kp σ1 (setA τ 20 n (i32 va)) (V + 2) E T := kp_tr g8 k2 g5 (Nat.le_refl _) (Nat.le_refl _)
      have k4 : kp σ (setA τ 20 n (i32 va)) V E T := kp_tr k1 k3 (by omega) (Nat.le_refl _) (Nat.le_refl _)
      obtain ⟨F2, I2, vb, xb, υ, V2, j1, j2, j3, j4, j5, j6, j7, j8, j9, j10⟩ := ihb (Γ ++ [shp a]) hWb hdb (un 62 w) k F1 (p + 1 + ln a) (n + 1) V V1 E T (setA τ 20 n (i32 va)) (rp_kp k3 g5 (Nat.le_refl _) (Nat.le_refl _) _ _ _ r62) (by rw [kp_fx k4]; exact hpab.2) (kp_fm k4 hf.2.2 (by omega)) (by omega) hT' g4 (by omega) (by omega) (by omega) (by omega)
      obtain ⟨K, rfl⟩ : ∃ K, I2 = K + 1 := ⟨I2 - 1, by omega⟩
      have u20 : υ.2.1 20 n = i32 va := by rw [(j10 n (by omega)).2, setA_at]
      have hva := rp_V g7
      have hvb := rp_V j7
      have kl : kp υ (lay υ V2 (pk 5 va vb 0)) V2 E T := lay_kp _ _ _ _ _
      refine ⟨F2, K, V2, xb, lay υ V2 (pk 5 va vb 0), V2 + 1, by omega, by omega, ?_, lay_19 _ _ _, by omega, by omega, ?_, kp_tr k4 (kp_tr j8 kl j5 (Nat.le_refl _) (Nat.le_refl _)) (by omega) (Nat.le_refl _) (Nat.le_refl _), ch_tr c1 (ch_tr g9 (ch_tr (ch_setA τ _ (by simp)) (ch_tr j9 (lay_ch _ _ _ _ (by simp))))), fun i hi => ?_⟩
      · rw [step, g3, sp_first (J + 1) _ _ _ (by omega) t20, t19, sp_again J _ _ _ (by omega), j3, sp_pair K _ _ _ (by omega) (by omega) u20, m_lays j4 (by omega) (by omega) (by omega) (by omega) (by omega), Option.bind_some, show p + 1 + ln a + ln b = p + (1 + ln a + ln b) by omega]
      · rw [et, if_pos rfl]
        exact ⟨by omega, Or.inr (Or.inl ⟨rfl, va, vb, lay_V _ _ _, rp_kp kl (by omega) (Nat.le_refl _) (Nat.le_refl _) _ _ _ (rp_kp (kp_tr k2 j8 (Nat.le_refl _) (Nat.le_refl _) (Nat.le_refl _)) j5 (Nat.le_refl _) (Nat.le_refl _) _ _ _ g7), rp_kp kl (by omega) (Nat.le_refl _) (Nat.le_refl _) _ _ _ j7⟩)⟩
      · show υ.2.1 19 i = _ ∧ υ.2.1 20 i = _
        rw [(j10 i (by omega)).1, (j10 i (by omega)).2, setA_ne _ _ (Or.inl (by decide)), setA_ne _ _ (Or.inr (by omega)), (g10 i (by omega)).1, (g10 i (by omega)).2]
        exact alt i hi
    · simp only [WT] at hW
      rcases hW with ⟨h1, _⟩ | ⟨h1, h2, h3, _⟩
      · exact absurd (h1.imp_right And.left) hs
      have hpp := pr_pos hp
      refine ⟨F, 10000, v, i32 v, σ, V, by omega, by omega, sp_f (by omega) hf1 (by omega) (by omega) (by omega) hp hf (by omega), hV, by omega, by omega, ?_, kp_rf _ _ _ _, ch_rf _ _ _, fun _ _ => ⟨rfl, rfl⟩⟩
      rw [shp, if_neg hs, et, if_neg (by omega)]
      exact hr
theorem m_spread {L : Lw} {T' : Tr} {Γ : List Tr} (hW : WT L T' Γ) (hd : dta (shp T')) (k : Nat) {w : Tr} {p v V E T : Nat} {σ : MS} (hr : rpM σ V E T false w v) (hp : pr (fxM σ) T') (hf : fm (σ.2.1 1) T' p) (hT : p + ln T' ≤ T) (hT' : T ≤ 9400) (hV : σ.1 19 = i32 V) (hv : V + 3 * ln T' ≤ 2400) (hl : ln T' ≤ 50) : ∃ v' τ V', f_spread (i32 v) (i32 p) σ = some (i32 v', τ) ∧ τ.1 19 = i32 V' ∧ V ≤ V' ∧ V' ≤ V + 3 * ln T' ∧ rpM τ V' E T false (et (shp T') w k) v' ∧ kp σ τ V E T ∧ ch [19] [19, 20] σ τ := by
  obtain ⟨F', I', v', x4, τ, V', g1, g2, g3, g4, g5, g6, g7, g8, g9, _⟩ := m_sp T' Γ hW hd w k 10000 p 0 v V E T σ hr hp hf hT hT' hV hv (by omega) hl (by omega)
  obtain ⟨J, rfl⟩ : ∃ J, I' = J + 1 := ⟨I' - 1, by omega⟩
  refine ⟨v', τ, V', ?_, g4, g5, g6, g7, g8, g9⟩
  unfold f_spread
  rw [show (0 : Int32) = i32 0 from rfl, g3, sp_done]
end MSPREAD
