section MWK
/-- works on a form of data -/
theorem m_wA {L : Lw} (hL : L.2.length ≤ 4) {N : List Tr} : ∀ (t : Tr) (Γ : List Tr) (m : Bool) (s : Tr), HT L t Γ m s → (m = true → dta s) → ∀ (F p n V E T e : Nat) (ρ : List Tr) (σ : MS), pr (fxM σ) t → fm (σ.2.1 1) t p → p + ln t ≤ T → T ≤ 9400 → enV L N ρ Γ → rpM σ V E T true (eL ρ) e → σ.1 19 = i32 V → σ.1 21 = i32 E → V + 26 * ln t ≤ 2400 → 2 * E + ln t ≤ 240 → n + ln t ≤ 60 → ln t ≤ 50 → ln t ≤ F →
    ∃ F' I' v τ V' E', F ≤ F' + ln t ∧ 10000 ≤ I' + ln t ∧ L_works_6 F (i32 ρ.length) (i32 e) (i32 p) (i32 n) σ = L_works_71 (L_works_6 F') I' (i32 ρ.length) (i32 e) (i32 (p + ln t)) (i32 n) (i32 v) (i32 1) τ ∧ τ.1 19 = i32 V' ∧ τ.1 21 = i32 E' ∧ V ≤ V' ∧ V' + 25 ≤ V + 26 * ln t ∧ E ≤ E' ∧ 2 * E' + 1 ≤ 2 * E + ln t ∧ rpM τ V' E' T false (evA t ρ) v ∧ kp σ τ V E T ∧ ch [19, 21, 24] [11, 12, 13, 14, 15] σ τ ∧ (∀ i, i < n → τ.2.1 14 i = σ.2.1 14 i ∧ τ.2.1 15 i = σ.2.1 15 i) := by
  intro t
  induction t with
  | leaf c =>
    intro Γ m s h hdd F p n V E T e ρ σ hp hf hT hT' hen hr hV hE hv he hn hl hF
    rw [ln_leaf hp.1] at hT hv he hn hl hF ⊢
    obtain ⟨F, rfl⟩ : ∃ F', F = F' + 1 := ⟨F - 1, by omega⟩
    have hg := hf hp.1
    obtain ⟨v, τ, V', h1, h2, h3, ⟨h4, _⟩, h5, h6, h7⟩ := m_valueL (lv := ρ.length) h hL hg (by omega) hr hen.1 (by omega) hV (by omega)
    have hc : ¬ (c = 46 ∨ c = 44 ∨ c = 60 ∨ c = 62) := by
      simp only [HT] at h
      rcases h with ⟨_, h, _⟩ | ⟨_, h⟩
      · omega
      · unfold hdS at h
        split at h
        · omega
        · split at h
          · omega
          · simp at h
    have hp' : pr (fxM τ) (.leaf c) := by rw [kp_fx h6]; exact hp
    have hf' : fm (τ.2.1 1) (.leaf c) p := kp_fm h6 hf (by rw [ln_leaf hp.1]; exact hT)
    have e1 := works_shut (F := F) (lv := ρ.length) (e := e) (n := n) (by omega) hp.2.1 hc hg h1 hp' hf' (by rw [ln_leaf hp.1]; omega)
    rw [ln_leaf hp.1] at e1
    exact ⟨F, 10000, v, τ, V', E, by omega, by omega, e1, h2, by rw [h7.1 21 (by simp)]; exact hE, h3, by omega, Nat.le_refl _, by omega, h5, h6, ch_mo h7 (by simp) (by simp), fun i _ => ⟨by rw [ch_arr h7 (by simp)], by rw [ch_arr h7 (by simp)]⟩⟩
  | branch c a b iha ihb =>
    intro Γ m s h hdd F p n V E T e ρ σ hp hf hT hT' hen hr hV hE hv he hn hl hF
    have hf1 := hf.1
    have hc128 := hp.2.1
    rw [ln_br] at hT hv he hn hl hF ⊢
    obtain ⟨F, rfl⟩ : ∃ F', F = F' + 1 := ⟨F - 1, by omega⟩
    have hA : ∀ (m' : Bool) (s' : Tr), (c = 46 ∨ c = 44 ∨ c = 60 ∨ c = 62) → pr (fxM σ) a → HT L a Γ m' s' → (m' = true → dta s') → ∃ F' J va τ V1 E1, F ≤ F' + ln a ∧ 9900 ≤ J ∧ 10000 ≤ J + 2 + ln a ∧ L_works_6 (F + 1) (i32 ρ.length) (i32 e) (i32 p) (i32 n) σ = L_works_71 (L_works_6 F') (J + 2) (i32 ρ.length) (i32 e) (i32 (p + 1 + ln a)) (i32 (n + 1)) (i32 va) (i32 1) τ ∧ τ.1 19 = i32 V1 ∧ τ.1 21 = i32 E1 ∧ V ≤ V1 ∧ V1 + 25 ≤ V + 26 * ln a ∧ E ≤ E1 ∧ 2 * E1 + 1 ≤ 2 * E + ln a ∧ rpM τ V1 E1 T false (evA a ρ) va ∧ kp σ τ V E T ∧ ch [19, 21, 24] [11, 12, 13, 14, 15] σ τ ∧ (∀ i, i < n → τ.2.1 14 i = σ.2.1 14 i ∧ τ.2.1 15 i = σ.2.1 15 i) ∧ τ.2.1 14 n = i32 c ∧ τ.2.1 15 n = -9 := by
      intro m' s' hc hpa ha hda
      have k1 : kp σ (setA (setA σ 14 n (i32 c)) 15 n (-9)) V E T := kp_tr (kp_setA σ n _ V E T (by decide) (by decide) (by decide)) (kp_setA _ n _ V E T (by decide) (by decide) (by decide)) (Nat.le_refl _) (Nat.le_refl _) (Nat.le_refl _)
      have c1 : ch [19, 21, 24] [11, 12, 13, 14, 15] σ (setA (setA σ 14 n (i32 c)) 15 n (-9)) := ch_tr (ch_setA σ _ (by simp)) (ch_setA _ _ (by simp))
      obtain ⟨F', I', va, τ, V1, E1, g1, g2, g3, g4, g4', g5, g6, g6', g6'', g7, g8, g9, g10⟩ := iha Γ m' s' ha hda F (p + 1) (n + 1) V E T e ρ (setA (setA σ 14 n (i32 c)) 15 n (-9)) (by rw [kp_fx k1]; exact hpa) (kp_fm k1 hf.2.1 (by omega)) (by omega) hT' hen (rp_kp k1 (Nat.le_refl _) (Nat.le_refl _) (Nat.le_refl _) _ _ _ hr) hV hE (by omega) (by omega) (by omega) (by omega) (by omega)
      refine ⟨F', I' - 2, va, τ, V1, E1, g1, by omega, by omega, ?_, g4, g4', g5, g6, g6', g6'', g7, kp_tr k1 g8 (Nat.le_refl _) (Nat.le_refl _) (Nat.le_refl _), ch_tr c1 g9, ?_, ?_, ?_⟩
      · rw [works_open _ _ (by omega) (by omega) hc hf1, g3, show I' - 2 + 2 = I' by omega]
      · intro i hi
        rw [(g10 i (by omega)).1, (g10 i (by omega)).2, setA_ne _ _ (Or.inl (by decide)), setA_ne _ _ (Or.inr (by omega)), setA_ne _ _ (Or.inr (by omega)), setA_ne _ _ (Or.inl (by decide))]
        exact ⟨rfl, rfl⟩
      · rw [(g10 n (by omega)).1, setA_ne _ _ (Or.inl (by decide)), setA_at]
      · rw [(g10 n (by omega)).2, setA_at]
    have hB : ∀ (m' : Bool) (s' : Tr), (c = 46 ∨ c = 44) → pr (fxM σ) b → HT L b Γ m' s' → (m' = true → dta s') → ∀ (F' J va : Nat) (τ : MS) (V1 E1 : Nat), F ≤ F' + ln a → 9900 ≤ J → τ.1 19 = i32 V1 → τ.1 21 = i32 E1 → V ≤ V1 → V1 + 25 ≤ V + 26 * ln a → E ≤ E1 → 2 * E1 + 1 ≤ 2 * E + ln a → rpM τ V1 E1 T false (evA a ρ) va → kp σ τ V E T → ch [19, 21, 24] [11, 12, 13, 14, 15] σ τ → (∀ i, i < n → τ.2.1 14 i = σ.2.1 14 i ∧ τ.2.1 15 i = σ.2.1 15 i) → τ.2.1 14 n = i32 c → τ.2.1 15 n = -9 →
        ∃ F2 K vb υ V2 E2, F ≤ F2 + ln a + ln b ∧ 10000 ≤ K + 1 + ln b ∧ L_works_71 (L_works_6 F') (J + 2) (i32 ρ.length) (i32 e) (i32 (p + 1 + ln a)) (i32 (n + 1)) (i32 va) (i32 1) τ = L_works_71 (L_works_6 F2) (K + 1) (i32 ρ.length) (i32 e) (i32 (p + (1 + ln a + ln b))) (i32 (n + 1)) (i32 vb) (i32 1) υ ∧ υ.1 19 = i32 V2 ∧ υ.1 21 = i32 E2 ∧ V1 ≤ V2 ∧ V2 + 25 ≤ V1 + 26 * ln b ∧ E1 ≤ E2 ∧ 2 * E2 + 1 ≤ 2 * E1 + ln b ∧ rpM υ V2 E2 T false (evA a ρ) va ∧ rpM υ V2 E2 T false (evA b ρ) vb ∧ kp σ υ V E T ∧ ch [19, 21, 24] [11, 12, 13, 14, 15] σ υ ∧ (∀ i, i < n → υ.2.1 14 i = σ.2.1 14 i ∧ υ.2.1 15 i = σ.2.1 15 i) ∧ υ.2.1 14 n = i32 c ∧ υ.2.1 15 n = i32 va := by
      intro m' s' hc hpb hb hdb F' J va τ V1 E1 i1 i2 i3 i3' i4 i5 i5' i5'' i6 i7 i8 i9 i10 i11
      have k1 : kp τ (setA τ 15 n (i32 va)) V1 E1 T := kp_setA τ n _ V1 E1 T (by decide) (by decide) (by decide)
      have k2 : kp σ (setA τ 15 n (i32 va)) V E T := kp_tr i7 k1 i4 i5' (Nat.le_refl _)
      have hlb := pr_pos hpb
      obtain ⟨F2, I', vb, υ, V2, E2, g1, g2, g3, g4, g4', g5, g6, g6', g6'', g7, g8, g9, g10⟩ := ihb Γ m' s' hb hdb F' (p + 1 + ln a) (n + 1) V1 E1 T e ρ (setA τ 15 n (i32 va)) (by rw [kp_fx k2]; exact hpb) (kp_fm k2 hf.2.2 (by omega)) (by omega) hT' hen (rp_kp k2 i4 i5' (Nat.le_refl _) _ _ _ hr) i3 i3' (by omega) (by omega) (by omega) (by omega) (by omega)
      refine ⟨F2, I' - 1, vb, υ, V2, E2, by omega, by omega, ?_, g4, g4', g5, g6, g6', g6'', rp_kp (kp_tr k1 g8 (Nat.le_refl _) (Nat.le_refl _) (Nat.le_refl _)) g5 g6' (Nat.le_refl _) _ _ _ i6, g7, kp_tr k2 g8 i4 i5' (Nat.le_refl _), ch_tr i8 (ch_tr (ch_setA τ _ (by simp)) g9), ?_, ?_, ?_⟩
      · rw [works_first (J + 1) _ _ _ _ (by omega) hc i10 i11, works_again J _ _ _ _ (by omega), g3, show I' - 1 + 1 = I' by omega, show p + 1 + ln a + ln b = p + (1 + ln a + ln b) by omega]
      · intro i hi
        rw [(g10 i (by omega)).1, (g10 i (by omega)).2, setA_ne _ _ (Or.inl (by decide)), setA_ne _ _ (Or.inr (by omega))]
        exact i9 i hi
      · rw [(g10 n (by omega)).1, setA_ne _ _ (Or.inl (by decide))]; exact i10
      · rw [(g10 n (by omega)).2, setA_at]
    simp only [HT] at h
    rcases h with ⟨h1, h2, x, y, h3, h4, h5⟩ | ⟨h1, h2, h3, x, y, h4, h5, h6⟩ | ⟨h0, ⟨h1, x, h2, h3, h4⟩ | ⟨h1, h2, y, h3⟩ | ⟨h1, h2, x, h3⟩⟩
    · have hpab : pr (fxM σ) a ∧ pr (fxM σ) b := by
        rcases hp.2.2 with h | h
        · exact h.2
        · subst h2; exact absurd (show 2 = 1 from h.1) (by decide)
      have hd' := hdd h1
      rw [h3] at hd'
      obtain ⟨F', J, va, τ, V1, E1, i1, i2, i2', e1, i3, i3', i4, i5, i5', i5'', i6, i7, i8, i9, i10, i11⟩ := hA true x (by omega) hpab.1 h4 (fun _ => hd'.2.1)
      obtain ⟨F2, K, vb, υ, V2, E2, j1, j2, e2, j3, j3', j4, j5, j5', j5'', j6, j7, j8, j9, j10, j11, j12⟩ := hB true y (by omega) hpab.2 h5 (fun _ => hd'.2.2) F' J va τ V1 E1 i1 i2 i3 i3' i4 i5 i5' i5'' i6 i7 i8 i9 i10 i11
      have va' := rp_V j6
      have vb' := rp_V j7
      have kl : kp υ (lay υ V2 (pk 5 va vb 0)) V2 E2 T := lay_kp _ _ _ _ _
      have evb : evA (.branch c a b) ρ = .branch 44 (evA a ρ) (evA b ρ) := by subst h2; simp [evA]
      refine ⟨F2, K, V2, lay υ V2 (pk 5 va vb 0), V2 + 1, E2, by omega, by omega, ?_, lay_19 _ _ _, ?_, by omega, by omega, by omega, by omega, ?_, kp_tr j8 kl (by omega) (by omega) (Nat.le_refl _), ch_tr j9 (lay_ch _ _ _ _ (by simp)), fun i hi => j10 i hi⟩
      · subst h2
        rw [e1, e2, works_pair K _ _ _ _ (by omega) (by omega) j11 j12, m_lays j3 (by omega) (by omega) (by omega) (by omega) (by omega)]
        rfl
      · rw [(lay_ch (F := [19]) [] υ V2 _ (by simp)).1 21 (by simp)]; exact j3'
      · rw [evb]
        exact ⟨by omega, Or.inr (Or.inl ⟨rfl, va, vb, lay_V _ _ _, rp_kp kl (show V2 ≤ V2 + 1 by omega) (Nat.le_refl _) (Nat.le_refl _) _ _ _ j6, rp_kp kl (show V2 ≤ V2 + 1 by omega) (Nat.le_refl _) (Nat.le_refl _) _ _ _ j7⟩)⟩
    · subst h4
      exact absurd (hdd h1).1 (by decide)
    · have hpab : pr (fxM σ) a ∧ pr (fxM σ) b := by
        rcases hp.2.2 with h | h
        · exact h.2
        · subst h1; exact absurd (show 2 = 1 from h.1) (by decide)
      obtain ⟨F', J, va, τ, V1, E1, i1, i2, i2', e1, i3, i3', i4, i5, i5', i5'', i6, i7, i8, i9, i10, i11⟩ := hA false _ (by omega) hpab.1 h3 (fun h => by simp at h)
      obtain ⟨F2, K, vb, υ, V2, E2, j1, j2, e2, j3, j3', j4, j5, j5', j5'', j6, j7, j8, j9, j10, j11, j12⟩ := hB true x (by omega) hpab.2 h4 (fun _ => h2) F' J va τ V1 E1 i1 i2 i3 i3' i4 i5 i5' i5'' i6 i7 i8 i9 i10 i11
      have va' := rp_V j6
      have vb' := rp_V j7
      have tya := (T2 _ _ _ _ _ h3 hen (fun h => by simp at h)).2 rfl
      have tyb := RV_HT _ _ h2 ((T2 _ _ _ _ _ h4 hen (fun _ => h2)).1 rfl)
      have hwb := wv_HT _ _ _ _ tyb (fun _ => h2)
      have evb : evA (.branch c a b) ρ = gvD (evA a ρ) (evA b ρ) := by subst h1; simp [evA]
      subst h1
      have call : ∃ v ω V3 E3, f_gives (i32 va) (i32 vb) υ = some (i32 v, ω) ∧ ω.1 19 = i32 V3 ∧ ω.1 21 = i32 E3 ∧ V2 ≤ V3 ∧ V3 ≤ V2 + 50 ∧ E2 ≤ E3 ∧ E3 ≤ E2 + 1 ∧ rpM ω V3 E3 T false (gvD (evA a ρ) (evA b ρ)) v ∧ kp υ ω V2 E2 T ∧ ch [19, 21, 24] [11, 12, 13] υ ω := by
        rcases tya with ⟨h, _⟩ | ⟨_, hc⟩ | hc
        · exact absurd h (by decide)
        · have hw : wv (evA a ρ) ≤ 50 := by
            obtain ⟨bb, ρ', Γ', heq, _⟩ := hc
            rw [heq] at j6 ⊢
            rcases j6.2 with ⟨h, _⟩ | ⟨h, _⟩ | ⟨h, _⟩ | ⟨h, _⟩ | ⟨_, _, _, _, _, _, _, h, _⟩
            · simp at h
            · simp at h
            · simp at h
            · simp at h
            · rw [wv, if_pos rfl]; omega
          obtain ⟨hw49, v, ω, V3, k1, k2, k3, k4, k5, k6, k7, k8⟩ := m_gives1 hL hc hwb j6 j7 j3 (by omega) j3' (by omega) hT'
          exact ⟨v, ω, V3, E2 + 1, k1, k2, k3, k4, by omega, by omega, by omega, k6, k7, k8⟩
        · obtain ⟨ω, k1, k2, k3, k4, k5⟩ := m_gives2 hc j6 j7 j3 (by omega) (by omega) hT'
          refine ⟨V2, ω, V2 + 1, E2, k1, k2, by rw [k5.1 21 (by simp)]; exact j3', by omega, by omega, by omega, by omega, ?_, k4, ch_mo k5 (by simp) (by simp)⟩
          rw [gvD_ne _ hc]; exact k3
      obtain ⟨v, ω, V3, E3, k1, k2, k3, k4, k5, k5', k5'', k6, k7, k8⟩ := call
      refine ⟨F2, K, v, ω, V3, E3, by omega, by omega, ?_, k2, k3, by omega, by omega, by omega, by omega, by rw [evb]; exact k6, kp_tr j8 k7 (by omega) (by omega) (Nat.le_refl _), ch_tr j9 (ch_mo k8 (by simp) (by simp)), fun i hi => ?_⟩
      · rw [e1, e2, works_app K _ _ _ _ (by omega) (by omega) j11 j12, k1]
        rfl
      · rw [ch_arr k8 (by simp), ch_arr k8 (by simp)]; exact j10 i hi
    · subst h1 h2
      have hpa : pr (fxM σ) a := by
        rcases hp.2.2 with h | h
        · exact h.2.1
        · exact h.2.1
      obtain ⟨F', J, va, τ, V1, E1, i1, i2, i2', e1, i3, i3', i4, i5, i5', i5'', i6, i7, i8, i9, i10, i11⟩ := hA false _ (by omega) hpa h3 (fun h => by simp at h)
      have va' := rp_V i6
      obtain ⟨v', υ, V2, j1, j2, j3, ⟨j4, _⟩, j5, j6, j7⟩ := m_taken1 i6 i3 (by omega) (by omega) hT'
      have hev : evA (.branch 60 a (.leaf 0)) ρ = fstV (evA a ρ) := by simp [evA]
      rw [ln_0] at hT hv he hn hl hF ⊢
      refine ⟨F', J + 1, v', υ, V2, E1, by omega, by omega, ?_, j2, by rw [j7.1 21 (by simp)]; exact i3', by omega, by omega, by omega, by omega, by rw [hev]; exact j5, kp_tr i7 j6 i4 i5' (Nat.le_refl _), ch_tr i8 (ch_mo j7 (by simp) (by simp)), fun i hi => ?_⟩
      · rw [e1, works_fst (J + 1) _ _ _ _ (by omega) i10, j1, show p + 1 + ln a = p + (1 + ln a + 0) by omega]
        rfl
      · rw [ch_arr j7 (by simp), ch_arr j7 (by simp)]; exact i9 i hi
    · subst h1 h2
      have hpa : pr (fxM σ) a := by
        rcases hp.2.2 with h | h
        · exact h.2.1
        · exact h.2.1
      obtain ⟨F', J, va, τ, V1, E1, i1, i2, i2', e1, i3, i3', i4, i5, i5', i5'', i6, i7, i8, i9, i10, i11⟩ := hA false _ (by omega) hpa h3 (fun h => by simp at h)
      have va' := rp_V i6
      obtain ⟨v', υ, V2, j1, j2, j3, ⟨j4, _⟩, j5, j6, j7⟩ := m_taken2 i6 i3 (by omega) (by omega) hT'
      have hev : evA (.branch 62 a (.leaf 0)) ρ = sndV (evA a ρ) := by simp [evA]
      rw [ln_0] at hT hv he hn hl hF ⊢
      refine ⟨F', J + 1, v', υ, V2, E1, by omega, by omega, ?_, j2, by rw [j7.1 21 (by simp)]; exact i3', by omega, by omega, by omega, by omega, by rw [hev]; exact j5, kp_tr i7 j6 i4 i5' (Nat.le_refl _), ch_tr i8 (ch_mo j7 (by simp) (by simp)), fun i hi => ?_⟩
      · rw [e1, works_snd (J + 1) _ _ _ _ (by omega) i10, j1, show p + 1 + ln a = p + (1 + ln a + 0) by omega]
        rfl
      · rw [ch_arr j7 (by simp), ch_arr j7 (by simp)]; exact i9 i hi
/-- works: the value of a form of data, its place behind told aside -/
theorem m_works {L : Lw} (hL : L.2.length ≤ 4) {N : List Tr} {t : Tr} {Γ : List Tr} {m : Bool} {s : Tr} (h : HT L t Γ m s) (hd : m = true → dta s) {p V E T e : Nat} {ρ : List Tr} {σ : MS} (hp : pr (fxM σ) t) (hf : fm (σ.2.1 1) t p) (hT : p + ln t ≤ T) (hT' : T ≤ 9400) (hen : enV L N ρ Γ) (hr : rpM σ V E T true (eL ρ) e) (hV : σ.1 19 = i32 V) (hE : σ.1 21 = i32 E) (hv : V + 26 * ln t ≤ 2400) (he : 2 * E + ln t ≤ 240) (hl : ln t ≤ 50) :
    ∃ v τ V' E', f_works (i32 p) (i32 ρ.length) (i32 e) σ = some (i32 v, τ) ∧ τ.1 19 = i32 V' ∧ τ.1 21 = i32 E' ∧ V ≤ V' ∧ V' + 25 ≤ V + 26 * ln t ∧ E ≤ E' ∧ 2 * E' + 1 ≤ 2 * E + ln t ∧ rpM τ V' E' T false (evA t ρ) v ∧ kp σ τ V E T ∧ ch [19, 21, 24] [11, 12, 13, 14, 15] σ τ ∧ τ.1 24 = i32 (p + ln t) := by
  obtain ⟨F', I', v, τ, V', E', g1, g2, g3, g4, g4', g5, g6, g6', g6'', g7, g8, g9, g10⟩ := m_wA hL t Γ m s h hd 10000 p 0 V E T e ρ σ hp hf hT hT' hen hr hV hE hv he (by omega) hl (by omega)
  obtain ⟨J, rfl⟩ : ∃ J, I' = J + 1 := ⟨I' - 1, by omega⟩
  have k1 : kp τ (setF τ 24 (i32 (p + ln t))) V' E' T := kp_setF _ _ _ _ _ _
  refine ⟨v, setF τ 24 (i32 (p + ln t)), V', E', ?_, ?_, ?_, g5, g6, g6', g6'', rp_kp k1 (Nat.le_refl _) (Nat.le_refl _) (Nat.le_refl _) _ _ _ g7, kp_tr g8 k1 g5 g6' (Nat.le_refl _), ch_tr g9 (ch_setF τ _ (by simp)), ?_⟩
  · unfold f_works
    rw [z0, g3, works_done]
  · simp only [setF, upd]; exact g4
  · simp only [setF, upd]; exact g4'
  · simp [setF, upd]
end MWK
