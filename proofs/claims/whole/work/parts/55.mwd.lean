section MWD
theorem ch_arr {F A : List Nat} {σ τ : MS} (h : ch F A σ τ) {j : Nat} (hj : j ∉ A) : τ.2.1 j = σ.2.1 j := h.2 j hj
/-- worksData on a form of data or functions -/
theorem m_wD {L : Lw} (hL : L.2.length ≤ 4) : ∀ (t : Tr) (Γ : List Tr) (m : Bool) (s : Tr), HT L t Γ m s → ∀ (F p n V E T e : Nat) (ρ : List Tr) (σ : MS), pr (fxM σ) t → fm (σ.2.1 1) t p → p + ln t ≤ T → T ≤ 9400 → ρ.length = Γ.length → dp t ρ.length → rpM σ V E T true (eL ρ) e → E ≤ 120 → (∀ u ∈ ρ, wv u = 0) → σ.1 19 = i32 V → V + ln t ≤ 2400 → n + ln t ≤ 60 → ln t ≤ 50 → ln t ≤ F →
    ∃ F' I' v τ V', F ≤ F' + ln t ∧ 10000 ≤ I' + ln t ∧ L_worksData_6 F (i32 ρ.length) (i32 e) (i32 p) (i32 n) σ = L_worksData_71 (L_worksData_6 F') I' (i32 ρ.length) (i32 e) (i32 (p + ln t)) (i32 n) (i32 v) (i32 1) τ ∧ τ.1 19 = i32 V' ∧ V ≤ V' ∧ V' + wv (evD t ρ) ≤ V + ln t ∧ rpM τ V' E T false (evD t ρ) v ∧ kp σ τ V E T ∧ ch [19] [12, 13] σ τ ∧ (∀ i, i < n → τ.2.1 12 i = σ.2.1 12 i ∧ τ.2.1 13 i = σ.2.1 13 i) := by
  intro t
  induction t with
  | leaf c =>
    intro Γ m s h F p n V E T e ρ σ hp hf hT hT' hρ hd hr hE hW hV hv hn hl hF
    rw [ln_leaf hp.1] at hT hv hn hl hF ⊢
    obtain ⟨F, rfl⟩ : ∃ F', F = F' + 1 := ⟨F - 1, by omega⟩
    have hg := hf hp.1
    obtain ⟨v, τ, V', h1, h2, h3, ⟨_, h4⟩, h5, h6, h7⟩ := m_valueL (lv := ρ.length) h hL hg (by omega) hr hρ hE hV (by omega)
    have h4 := h4 hW
    have hc : ¬ (c = 46 ∨ c = 44 ∨ c = 60 ∨ c = 62) := by
      simp only [HT] at h
      rcases h with ⟨_, h, _⟩ | ⟨_, h⟩
      · omega
      · unfold hdS at h
        split at h
        · omega
        · split at h
          · omega
          · simp at h
    have hp' : pr (fxM τ) (.leaf c) := by rw [kp_fx h6]; exact hp
    have hf' : fm (τ.2.1 1) (.leaf c) p := kp_fm h6 hf (by rw [ln_leaf hp.1]; exact hT)
    have e1 := worksData_shut (F := F) (lv := ρ.length) (e := e) (n := n) (by omega) hp.2.1 hc hg h1 hp' hf' (by rw [ln_leaf hp.1]; omega)
    rw [ln_leaf hp.1] at e1
    exact ⟨F, 10000, v, τ, V', by omega, by omega, e1, h2, h3, h4, h5, h6, ch_mo h7 (fun _ h => h) (fun _ h => by simp at h), fun i _ => ⟨by rw [ch_arr h7 (by simp)], by rw [ch_arr h7 (by simp)]⟩⟩
  | branch c a b iha ihb =>
    intro Γ m s h F p n V E T e ρ σ hp hf hT hT' hρ hd hr hE hW hV hv hn hl hF
    have hf1 := hf.1
    have hc128 := hp.2.1
    rw [ln_br] at hT hv hn hl hF ⊢
    obtain ⟨F, rfl⟩ : ∃ F', F = F' + 1 := ⟨F - 1, by omega⟩
    -- the first part
    have hA : ∀ (Γ' : List Tr) (m' : Bool) (s' : Tr), (c = 46 ∨ c = 44 ∨ c = 60 ∨ c = 62) → pr (fxM σ) a → dp a ρ.length → ρ.length = Γ'.length → HT L a Γ' m' s' → ∃ F' J va τ V1, F ≤ F' + ln a ∧ 9900 ≤ J ∧ 10000 ≤ J + 2 + ln a ∧ L_worksData_6 (F + 1) (i32 ρ.length) (i32 e) (i32 p) (i32 n) σ = L_worksData_71 (L_worksData_6 F') (J + 2) (i32 ρ.length) (i32 e) (i32 (p + 1 + ln a)) (i32 (n + 1)) (i32 va) (i32 1) τ ∧ τ.1 19 = i32 V1 ∧ V ≤ V1 ∧ V1 + wv (evD a ρ) ≤ V + ln a ∧ rpM τ V1 E T false (evD a ρ) va ∧ kp σ τ V E T ∧ ch [19] [12, 13] σ τ ∧ (∀ i, i < n → τ.2.1 12 i = σ.2.1 12 i ∧ τ.2.1 13 i = σ.2.1 13 i) ∧ τ.2.1 12 n = i32 c ∧ τ.2.1 13 n = -9 := by
      intro Γ' m' s' hc hpa hda hρ' ha
      have k1 : kp σ (setA (setA σ 12 n (i32 c)) 13 n (-9)) V E T := kp_tr (kp_setA σ n _ V E T (by decide) (by decide) (by decide)) (kp_setA _ n _ V E T (by decide) (by decide) (by decide)) (Nat.le_refl _) (Nat.le_refl _) (Nat.le_refl _)
      have c1 : ch [19] [12, 13] σ (setA (setA σ 12 n (i32 c)) 13 n (-9)) := ch_tr (ch_setA σ _ (by simp)) (ch_setA _ _ (by simp))
      obtain ⟨F', I', va, τ, V1, g1, g2, g3, g4, g5, g6, g7, g8, g9, g10⟩ := iha Γ' m' s' ha F (p + 1) (n + 1) V E T e ρ (setA (setA σ 12 n (i32 c)) 13 n (-9)) (by rw [kp_fx k1]; exact hpa) (kp_fm k1 hf.2.1 (by omega)) (by omega) hT' hρ' hda (rp_kp k1 (Nat.le_refl _) (Nat.le_refl _) (Nat.le_refl _) _ _ _ hr) hE hW hV (by omega) (by omega) (by omega) (by omega)
      refine ⟨F', I' - 2, va, τ, V1, g1, by omega, by omega, ?_, g4, g5, g6, g7, kp_tr k1 g8 (Nat.le_refl _) (Nat.le_refl _) (Nat.le_refl _), ch_tr c1 g9, ?_, ?_, ?_⟩
      · rw [worksData_open _ _ (by omega) (by omega) hc hf1, g3, show I' - 2 + 2 = I' by omega]
      · intro i hi
        rw [(g10 i (by omega)).1, (g10 i (by omega)).2, setA_ne _ _ (Or.inl (by decide)), setA_ne _ _ (Or.inr (by omega)), setA_ne _ _ (Or.inr (by omega)), setA_ne _ _ (Or.inl (by decide))]
        exact ⟨rfl, rfl⟩
      · rw [(g10 n (by omega)).1, setA_ne _ _ (Or.inl (by decide)), setA_at]
      · rw [(g10 n (by omega)).2, setA_at]
    -- the second part
    have hB : ∀ (Γ' : List Tr) (m' : Bool) (s' : Tr), (c = 46 ∨ c = 44) → pr (fxM σ) b → dp b ρ.length → ρ.length = Γ'.length → HT L b Γ' m' s' → ∀ (F' J va : Nat) (τ : MS) (V1 : Nat), F ≤ F' + ln a → 9900 ≤ J → τ.1 19 = i32 V1 → V ≤ V1 → V1 ≤ V + ln a → rpM τ V1 E T false (evD a ρ) va → kp σ τ V E T → ch [19] [12, 13] σ τ → (∀ i, i < n → τ.2.1 12 i = σ.2.1 12 i ∧ τ.2.1 13 i = σ.2.1 13 i) → τ.2.1 12 n = i32 c → τ.2.1 13 n = -9 →
        ∃ F2 K vb υ V2, F ≤ F2 + ln a + ln b ∧ 10000 ≤ K + 1 + ln b ∧ L_worksData_71 (L_worksData_6 F') (J + 2) (i32 ρ.length) (i32 e) (i32 (p + 1 + ln a)) (i32 (n + 1)) (i32 va) (i32 1) τ = L_worksData_71 (L_worksData_6 F2) (K + 1) (i32 ρ.length) (i32 e) (i32 (p + (1 + ln a + ln b))) (i32 (n + 1)) (i32 vb) (i32 1) υ ∧ υ.1 19 = i32 V2 ∧ V1 ≤ V2 ∧ V2 + wv (evD b ρ) ≤ V1 + ln b ∧ rpM υ V2 E T false (evD a ρ) va ∧ rpM υ V2 E T false (evD b ρ) vb ∧ kp σ υ V E T ∧ ch [19] [12, 13] σ υ ∧ (∀ i, i < n → υ.2.1 12 i = σ.2.1 12 i ∧ υ.2.1 13 i = σ.2.1 13 i) ∧ υ.2.1 12 n = i32 c ∧ υ.2.1 13 n = i32 va := by
      intro Γ' m' s' hc hpb hdb hρ' hb F' J va τ V1 i1 i2 i3 i4 i5 i6 i7 i8 i9 i10 i11
      have k1 : kp τ (setA τ 13 n (i32 va)) V1 E T := kp_setA τ n _ V1 E T (by decide) (by decide) (by decide)
      have k2 : kp σ (setA τ 13 n (i32 va)) V E T := kp_tr i7 k1 i4 (Nat.le_refl _) (Nat.le_refl _)
      have hlb := pr_pos hpb
      obtain ⟨F2, I', vb, υ, V2, g1, g2, g3, g4, g5, g6, g7, g8, g9, g10⟩ := ihb Γ' m' s' hb F' (p + 1 + ln a) (n + 1) V1 E T e ρ (setA τ 13 n (i32 va)) (by rw [kp_fx k2]; exact hpb) (kp_fm k2 hf.2.2 (by omega)) (by omega) hT' hρ' hdb (rp_kp k2 i4 (Nat.le_refl _) (Nat.le_refl _) _ _ _ hr) hE hW i3 (by omega) (by omega) (by omega) (by omega)
      refine ⟨F2, I' - 1, vb, υ, V2, by omega, by omega, ?_, g4, g5, g6, rp_kp (kp_tr k1 g8 (Nat.le_refl _) (Nat.le_refl _) (Nat.le_refl _)) g5 (Nat.le_refl _) (Nat.le_refl _) _ _ _ i6, g7, kp_tr k2 g8 i4 (Nat.le_refl _) (Nat.le_refl _), ch_tr i8 (ch_tr (ch_setA τ _ (by simp)) g9), ?_, ?_, ?_⟩
      · rw [worksData_first (J + 1) _ _ _ _ (by omega) hc i10 i11, worksData_again J _ _ _ _ (by omega), g3, show I' - 1 + 1 = I' by omega, show p + 1 + ln a + ln b = p + (1 + ln a + ln b) by omega]
      · intro i hi
        rw [(g10 i (by omega)).1, (g10 i (by omega)).2, setA_ne _ _ (Or.inl (by decide)), setA_ne _ _ (Or.inr (by omega))]
        exact i9 i hi
      · rw [(g10 n (by omega)).1, setA_ne _ _ (Or.inl (by decide))]; exact i10
      · rw [(g10 n (by omega)).2, setA_at]
    -- two parts together
    have hC : ∀ (Γ1 Γ2 : List Tr) (m1 m2 : Bool) (s1 s2 : Tr) (q : Nat), (c = 46 ∧ q = 2) ∨ (c = 44 ∧ q = 5) → ρ.length = Γ1.length → ρ.length = Γ2.length → HT L a Γ1 m1 s1 → HT L b Γ2 m2 s2 → ∃ F' I' v τ V', F + 1 ≤ F' + (1 + ln a + ln b) ∧ 10000 ≤ I' + (1 + ln a + ln b) ∧ L_worksData_6 (F + 1) (i32 ρ.length) (i32 e) (i32 p) (i32 n) σ = L_worksData_71 (L_worksData_6 F') I' (i32 ρ.length) (i32 e) (i32 (p + (1 + ln a + ln b))) (i32 n) (i32 v) (i32 1) τ ∧ τ.1 19 = i32 V' ∧ V ≤ V' ∧ V' + wv (evD (.branch c a b) ρ) ≤ V + (1 + ln a + ln b) ∧ rpM τ V' E T false (evD (.branch c a b) ρ) v ∧ kp σ τ V E T ∧ ch [19] [12, 13] σ τ ∧ (∀ i, i < n → τ.2.1 12 i = σ.2.1 12 i ∧ τ.2.1 13 i = σ.2.1 13 i) := by
      intro Γ1 Γ2 m1 m2 s1 s2 q hq r1 r2 ha hb
      have har : ar (fxM σ) c = 2 := by rcases hq with ⟨h, _⟩ | ⟨h, _⟩ <;> subst h <;> rfl
      have hpab : pr (fxM σ) a ∧ pr (fxM σ) b := by
        rcases hp.2.2 with h | h
        · exact h.2
        · rw [har] at h; exact absurd h.1 (by decide)
      have hdd : dp a ρ.length ∧ dp b ρ.length := by
        rcases hq with ⟨h, _⟩ | ⟨h, _⟩ <;> subst h <;> exact hd
      obtain ⟨F', J, va, τ, V1, i1, i2, i2', e1, i3, i4, i5, i6, i7, i8, i9, i10, i11⟩ := hA Γ1 m1 s1 (by omega) hpab.1 hdd.1 r1 ha
      obtain ⟨F2, K, vb, υ, V2, j1, j2, e2, j3, j4, j5, j6, j7, j8, j9, j10, j11, j12⟩ := hB Γ2 m2 s2 (by omega) hpab.2 hdd.2 r2 hb F' J va τ V1 i1 i2 i3 i4 (by omega) i6 i7 i8 i9 i10 i11
      have va' := rp_V j6
      have vb' := rp_V j7
      have kl : kp υ (lay υ V2 (pk q va vb 0)) V2 E T := lay_kp _ _ _ _ _
      have evb : evD (.branch c a b) ρ = .branch c (evD a ρ) (evD b ρ) := by rcases hq with ⟨h, _⟩ | ⟨h, _⟩ <;> subst h <;> simp [evD]
      refine ⟨F2, K, V2, lay υ V2 (pk q va vb 0), V2 + 1, by omega, by omega, ?_, lay_19 _ _ _, by omega, ?_, ?_, kp_tr j8 kl (by omega) (Nat.le_refl _) (Nat.le_refl _), ch_tr j9 (lay_ch _ _ _ _ (by simp)), fun i hi => j10 i hi⟩
      · rw [e1, e2]
        rcases hq with ⟨h, h'⟩ | ⟨h, h'⟩
        · subst h h'
          rw [worksData_app K _ _ _ _ (by omega) (by omega) j11 j12, m_lays j3 (by omega) (by omega) (by omega) (by omega) (by omega)]
          rfl
        · subst h h'
          rw [worksData_pair K _ _ _ _ (by omega) (by omega) j11 j12, m_lays j3 (by omega) (by omega) (by omega) (by omega) (by omega)]
          rfl
      · rw [evb, wv, if_neg (by omega)]; omega
      · rw [evb]
        refine ⟨by omega, ?_⟩
        have ra := rp_kp kl (show V2 ≤ V2 + 1 by omega) (Nat.le_refl _) (Nat.le_refl _) _ _ _ j6
        have rb := rp_kp kl (show V2 ≤ V2 + 1 by omega) (Nat.le_refl _) (Nat.le_refl _) _ _ _ j7
        rcases hq with ⟨h, h'⟩ | ⟨h, h'⟩
        · exact Or.inl ⟨h, va, vb, by rw [lay_V, h'], ra, rb⟩
        · exact Or.inr (Or.inl ⟨h, va, vb, by rw [lay_V, h'], ra, rb⟩)
    simp only [HT] at h
    rcases h with ⟨h1, h2, x, y, h3, h4, h5⟩ | ⟨h1, h2, h3, x, y, h4, h5, h6⟩ | ⟨h0, ⟨h1, x, h2, h3, h4⟩ | ⟨h1, h2, y, h3⟩ | ⟨h1, h2, x, h3⟩⟩
    · exact hC Γ Γ _ _ _ _ 5 (Or.inr ⟨h2, rfl⟩) hρ hρ h4 h5
    · subst h2 h3
      have hpa : pr (fxM σ) a := by
        rcases hp.2.2 with h | h
        · exact h.2.1
        · exact h.2.1
      have he := rp_E _ _ hr
      have hd' : ρ.length < 10 ∧ dp a (ρ.length + 1) := by simpa [dp] using hd
      have e0 : f_valueAt (i32 p) (i32 ρ.length) (i32 e) σ = some (i32 V, lay σ V (pk 7 (p + 1) e ρ.length)) := by
        unfold f_valueAt
        simp (disch := omega) only [z_nn, z_ixT, al1, al2, al3, al4, al5, al6, al7, al8, al9, al10, al11, al12, al13, al14, al15, al16, al17, al18, al19, al20, al21, al22, al23, al24, al25, al26, al27, al28, al29, al30, al31, al32, al33, if_true, hf1, z92, z_eqT, z7, z1, z_add, m_lays hV, Option.bind_some]
      have kl : kp σ (lay σ V (pk 7 (p + 1) e ρ.length)) V E T := lay_kp _ _ _ _ _
      have hl0 : ln (.branch 92 a (.leaf 0)) = 1 + ln a := by rw [ln_br, ln_0]; rfl
      have e1 := worksData_shut (F := F) (lv := ρ.length) (e := e) (n := n) (t := .branch 92 a (.leaf 0)) (by omega) (by decide) (by decide) hf1 e0 (by rw [kp_fx kl]; exact hp) (kp_fm kl hf (by rw [hl0, ln_0] at *; omega)) (by rw [hl0]; omega)
      have hev : evD (.branch 92 a (.leaf 0)) ρ = .branch 92 a (eL ρ) := by simp [evD]
      rw [hl0] at e1
      rw [ln_0] at hT hv hn hl hF ⊢
      refine ⟨F, 10000, V, _, V + 1, by omega, by omega, by rw [Nat.add_zero]; exact e1, lay_19 _ _ _, by omega, ?_, ?_, kl, lay_ch _ _ _ _ (by simp), fun i _ => ⟨rfl, rfl⟩⟩
      · rw [hev, wv, if_pos rfl]; omega
      · rw [hev]
        refine ⟨by omega, Or.inr (Or.inr (Or.inr (Or.inr ⟨rfl, p + 1, e, ?_, kp_fm kl hf.2.1 (by omega), by rw [kp_fx kl]; exact hpa, by omega, by omega, by rw [dL_eL]; exact hd'.1, by rw [dL_eL]; exact hd'.2, ?_⟩)))⟩
        · rw [lay_V, dL_eL]
        · exact rp_kp kl (by omega) (Nat.le_refl _) (Nat.le_refl _) _ _ _ hr
    · exact hC Γ Γ _ _ _ _ 2 (Or.inl ⟨h1, rfl⟩) hρ hρ h3 h4
    · subst h1 h2
      have hpa : pr (fxM σ) a := by
        rcases hp.2.2 with h | h
        · exact h.2.1
        · exact h.2.1
      have hda : dp a ρ.length := hd.1
      obtain ⟨F', J, va, τ, V1, i1, i2, i2', e1, i3, i4, i5, i6, i7, i8, i9, i10, i11⟩ := hA Γ _ _ (by omega) hpa hda hρ h3
      have va' := rp_V i6
      obtain ⟨v', υ, V2, j1, j2, j3, j4, j5, j6, j7⟩ := m_taken1 i6 i3 (by omega) hE hT'
      have hev : evD (.branch 60 a (.leaf 0)) ρ = fstV (evD a ρ) := by simp [evD]
      rw [ln_0] at hT hv hn hl hF ⊢
      refine ⟨F', J + 1, v', υ, V2, by omega, by omega, ?_, j2, by omega, by rw [hev]; omega, by rw [hev]; exact j5, kp_tr i7 j6 i4 (Nat.le_refl _) (Nat.le_refl _), ch_tr i8 (ch_mo j7 (fun _ h => h) (fun _ h => by simp at h)), fun i hi => ?_⟩
      · rw [e1, worksData_fst (J + 1) _ _ _ _ (by omega) i10, j1, show p + 1 + ln a = p + (1 + ln a + 0) by omega]
        rfl
      · rw [ch_arr j7 (by simp), ch_arr j7 (by simp)]; exact i9 i hi
    · subst h1 h2
      have hpa : pr (fxM σ) a := by
        rcases hp.2.2 with h | h
        · exact h.2.1
        · exact h.2.1
      have hda : dp a ρ.length := hd.1
      obtain ⟨F', J, va, τ, V1, i1, i2, i2', e1, i3, i4, i5, i6, i7, i8, i9, i10, i11⟩ := hA Γ _ _ (by omega) hpa hda hρ h3
      have va' := rp_V i6
      obtain ⟨v', υ, V2, j1, j2, j3, j4, j5, j6, j7⟩ := m_taken2 i6 i3 (by omega) hE hT'
      have hev : evD (.branch 62 a (.leaf 0)) ρ = sndV (evD a ρ) := by simp [evD]
      rw [ln_0] at hT hv hn hl hF ⊢
      refine ⟨F', J + 1, v', υ, V2, by omega, by omega, ?_, j2, by omega, by rw [hev]; omega, by rw [hev]; exact j5, kp_tr i7 j6 i4 (Nat.le_refl _) (Nat.le_refl _), ch_tr i8 (ch_mo j7 (fun _ h => h) (fun _ h => by simp at h)), fun i hi => ?_⟩
      · rw [e1, worksData_snd (J + 1) _ _ _ _ (by omega) i10, j1, show p + 1 + ln a = p + (1 + ln a + 0) by omega]
        rfl
      · rw [ch_arr j7 (by simp), ch_arr j7 (by simp)]; exact i9 i hi
/-- worksData: the value of a form, its place behind told aside -/
theorem m_worksData {L : Lw} (hL : L.2.length ≤ 4) {t : Tr} {Γ : List Tr} {m : Bool} {s : Tr} (h : HT L t Γ m s) {p V E T e : Nat} {ρ : List Tr} {σ : MS} (hp : pr (fxM σ) t) (hf : fm (σ.2.1 1) t p) (hT : p + ln t ≤ T) (hT' : T ≤ 9400) (hρ : ρ.length = Γ.length) (hd : dp t ρ.length) (hr : rpM σ V E T true (eL ρ) e) (hE : E ≤ 120) (hW : ∀ u ∈ ρ, wv u = 0) (hV : σ.1 19 = i32 V) (hv : V + ln t ≤ 2400) (hl : ln t ≤ 50) :
    ∃ v τ V', f_worksData (i32 p) (i32 ρ.length) (i32 e) σ = some (i32 v, τ) ∧ τ.1 19 = i32 V' ∧ V ≤ V' ∧ V' + wv (evD t ρ) ≤ V + ln t ∧ rpM τ V' E T false (evD t ρ) v ∧ kp σ τ V E T ∧ ch [19, 24] [12, 13] σ τ ∧ τ.1 24 = i32 (p + ln t) := by
  obtain ⟨F', I', v, τ, V', g1, g2, g3, g4, g5, g6, g7, g8, g9, g10⟩ := m_wD hL t Γ m s h 10000 p 0 V E T e ρ σ hp hf hT hT' hρ hd hr hE hW hV hv (by omega) hl (by omega)
  obtain ⟨J, rfl⟩ : ∃ J, I' = J + 1 := ⟨I' - 1, by omega⟩
  have k1 : kp τ (setF τ 24 (i32 (p + ln t))) V' E T := kp_setF _ _ _ _ _ _
  refine ⟨v, setF τ 24 (i32 (p + ln t)), V', ?_, ?_, g5, g6, rp_kp k1 (Nat.le_refl _) (Nat.le_refl _) (Nat.le_refl _) _ _ _ g7, kp_tr g8 k1 g5 (Nat.le_refl _) (Nat.le_refl _), ch_tr (ch_mo g9 (fun _ h => by simp at h; simp [h]) (fun _ h => h)) (ch_setF τ _ (by simp)), ?_⟩
  · unfold f_worksData
    rw [z0, g3, worksData_done]
  · simp only [setF, upd]; exact g4
  · simp [setF, upd]
end MWD
