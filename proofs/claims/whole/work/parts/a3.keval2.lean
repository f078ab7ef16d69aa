section KEVAL2
theorem pr2 {f : Nat → Bool} {c : Nat} {a b : Tr} (h : pr f (.branch c a b)) (hc : c = 83 ∨ c = 80 ∨ c = 46 ∨ c = 44) : pr f a ∧ pr f b := by
  have e : ar f c = 2 := by unfold ar; rw [if_pos hc]
  rcases h.2.2 with h | h
  · exact h.2
  · rw [e] at h; omega
theorem pr1 {f : Nat → Bool} {c : Nat} {a b : Tr} (h : pr f (.branch c a b)) (hc : c = 60 ∨ c = 62 ∨ c = 92) : pr f a ∧ b = .leaf 0 := by
  have e : ar f c = 1 := by unfold ar; rw [if_neg (by omega), if_pos hc]
  rcases h.2.2 with h | h
  · rw [e] at h; omega
  · exact h.2
theorem EvR_V {σ τ : CS} {V V' T v : Nat} {t : Tr} (h : EvR σ τ V V' T t v) : V ≤ V' := h.2.1
theorem EvR_P {σ τ : CS} {V V' T v m : Nat} {t : Tr} (h : EvR σ τ V V' T t v) (hP : EvP σ V T m) : EvP τ V' T m := EvP_ch hP h.2.2.2.2 h.1 h.2.1
theorem EvR_fx {σ τ : CS} {V V' T v : Nat} {t : Tr} (h : EvR σ τ V V' T t v) : fxK τ = fxK σ := cK_fx h.2.2.2.2 n36V
theorem EvR_rp {σ τ : CS} {V V' T v : Nat} {t : Tr} (h : EvR σ τ V V' T t v) {m : Bool} {u : Tr} {w : Nat} (hr : rpK σ V T m u w) : rpK τ V' T m u w := rK_kp h.2.2.2.1 (EvR_fx h) h.2.1 (Nat.le_refl _) _ _ _ hr
theorem EvR_fm {σ τ : CS} {V V' T v : Nat} {t : Tr} (h : EvR σ τ V V' T t v) {u : Tr} {p : Nat} (hf : fm (σ.1 35) u p) (hp : p + ln u ≤ T) : fm (τ.1 35) u p := kK_fm h.2.2.2.1 hf hp
theorem EvR_pre {σ σ' τ : CS} {V V' T v : Nat} {t : Tr} (hk : kpK σ σ' V T) (hc : chK AV σ σ') (h : EvR σ' τ V V' T t v) : EvR σ τ V V' T t v := ⟨h.1, h.2.1, h.2.2.1, kK_tr hk h.2.2.2.1 (Nat.le_refl _) (Nat.le_refl _), cK_tr hc h.2.2.2.2⟩
/-- a node made behind others -/
theorem mk_R {σ τ : CS} {V V1 T : Nat} {t : Tr} (k l r : Int32) (hk : kpK σ τ V T) (hc : chK AV σ τ) (hV : V ≤ V1) (hr : rpK (mkn τ V1 k l r) (V1 + 1) T false t V1) (hV1 : V1 < 3072 := by omega) : EvR σ (mkn τ V1 k l r) V (V1 + 1) T t V1 := ⟨mkn_V _ _ _ _ _, by omega, hr, kK_tr hk (mkn_kp _ _ _ _ _ _) hV (Nat.le_refl _), cK_tr hc (mkn_ch _ _ _ _ _ (fun _ h => h))⟩
theorem mk_rp {τ : CS} {V T : Nat} (k l r : Int32) {m : Bool} {u : Tr} {w : Nat} (h : rpK τ V T m u w) : rpK (mkn τ V k l r) (V + 1) T m u w := rK_kp (mkn_kp _ _ _ _ _ _) (mkn_fx _ _ _ _ _) (by omega) (Nat.le_refl _) _ _ _ h
/-- what is left is given something -/
theorem k_apply0 {re ra : Int32 → Int32 → Int32 → CS → Option (Int32 × CS)} {σ : CS} {V T v : Nat} {f : Tr} (x2 x3 : Int32) (hr : rpK σ V T false f v) (h8 : kdT f ≠ 8) (hV : σ.1 38 4 = i32 V) (h1 : 1 ≤ V) (h : V < 3072) : F_Values_apply re ra (i32 v) x2 x3 σ = some (i32 V, mkn σ V 3 (i32 v) x2) := by
  obtain ⟨g0, g1⟩ := rK_V hr
  have hlt := kdT_lt f
  unfold F_Values_apply
  rw [k_kindOf hV g0 g1 (by omega), Option.bind_some]
  dsimp only
  rw [rK_kd hr, if_neg (show ¬ (i32 (kdT f) = 8) from c_eq (b := 8) h8 (by omega) (by omega)), obid, k_make _ _ _ hV h1 h]
/-- a function is given something -/
theorem k_apply1 {re ra : Int32 → Int32 → Int32 → CS → Option (Int32 × CS)} {σ : CS} {V T v : Nat} {b : Tr} {ρ : List Tr} (x2 x3 : Int32) (hr : rpK σ V T false (.branch 92 b (eL ρ)) v) (hV : σ.1 38 4 = i32 V) (h1 : 1 ≤ V) (h : V < 3072) : ∃ p e, F_Values_apply re ra (i32 v) x2 x3 σ = re (i32 p) (i32 V) x3 (mkn σ V 9 x2 (i32 e)) ∧ fm (σ.1 35) b p ∧ pr (fxK σ) b ∧ p + ln b ≤ T ∧ ln b ≤ 49 ∧ ρ.length < 10 ∧ dp b (ρ.length + 1) ∧ rpK σ V T true (eL ρ) e := by
  obtain ⟨g0, g1, hr⟩ := hr
  rcases hr with ⟨a1, _⟩ | ⟨a1, _⟩ | ⟨a1, _⟩ | ⟨a1, _⟩ | ⟨a1, a2, p, e, a3, a4, a5, a6, a7, a8, a9, a10, a11⟩
  · omega
  · omega
  · omega
  · omega
  rw [dL_eL] at a9 a10
  refine ⟨p, e, ?_, a5, a6, a7, a8, a9, a10, a11⟩
  unfold F_Values_apply f_Values_extended
  rw [k_kindOf hV g0 g1 (by omega), Option.bind_some]
  dsimp only
  rw [a2, if_pos (show i32 8 = 8 from rfl), k_leftOf hV g0 g1 (by omega), Option.bind_some]
  dsimp only
  rw [k_rightOf hV g0 g1 (by omega), Option.bind_some]
  dsimp only
  rw [a3, a4, obid, k_make _ _ _ hV h1 h, Option.bind_some]
  dsimp only
  rw [obid]
/-- evaluating where no function is named -/
theorem k_evD {L : Lw} (hL : L.2.length ≤ 4) {N : List Tr} : ∀ (t : Tr) (Γ : List Tr) (m : Bool) (s : Tr), HT L t Γ m s → ∀ (d n p V T e : Nat) (ρ : List Tr) (σ : CS), pr (fxK σ) t → fm (σ.1 35) t p → p + ln t ≤ T → EvP σ V T L.2.length → enE L N ρ Γ → dp t ρ.length → rpK σ V T true (eL ρ) e → (∀ u ∈ ρ, wv u = 0) → V + ln t ≤ 3072 → ln t ≤ 50 → ln t ≤ n → n < 1000 → ln t + 1 ≤ d →
    ∃ v τ V', (G_Values d).1 (i32 p) (i32 e) (i32 n) σ = some (i32 v, τ) ∧ EvR σ τ V V' T (evD t ρ) v ∧ V' + wv (evD t ρ) ≤ V + ln t ∧ τ.1 38 6 = i32 (p + ln t) := by
  intro t
  induction t with
  | leaf c =>
    intro Γ m s h d n p V T e ρ σ hp hf hT hE hen hd hr hW hv hl hn hn2 hd2
    rw [ln_leaf hp.1] at hT hv hl hn hd2 ⊢
    obtain ⟨n, rfl⟩ : ∃ k, n = k + 1 := ⟨n - 1, by omega⟩
    obtain ⟨d, rfl⟩ : ∃ k, d = k + 1 := ⟨d - 1, by omega⟩
    obtain ⟨v, τ, V', h1, h2, h3, h4, h5⟩ := k_leaf (re := (G_Values d).1) (ra := (G_Values d).2) (n := n) hL h hE (hf hp.1) (by omega) (by omega) hen.1 hr (by omega)
    exact ⟨v, τ, V', h1, h2, h4 hW, h5⟩
  | branch c a b iha ihb =>
    intro Γ m s h d n p V T e ρ σ hp hf hT hE hen hd hr hW hv hl hn hn2 hd2
    have hf1 := hf.1
    have hb4 := ln_br c a b
    have hpt := hp
    rw [ln_br] at hT hv hl hn hd2 ⊢
    obtain ⟨n, rfl⟩ : ∃ k, n = k + 1 := ⟨n - 1, by omega⟩
    obtain ⟨d, rfl⟩ : ∃ k, d = k + 1 := ⟨d - 1, by omega⟩
    have c1 := bh_kp σ (i32 (p + 1)) V T
    have c2 := bh_ch σ (i32 (p + 1))
    have c3 := bh_V σ (i32 (p + 1))
    have hE1 : EvP (sI σ 38 6 (i32 (p + 1))) V T L.2.length := EvP_ch hE c2 (by rw [c3]; exact hE.2.2.2.1) (Nat.le_refl _)
    have hfx := cK_fx c2 n36V
    -- the first part
    have hA : ∀ (m' : Bool) (s' : Tr), pr (fxK σ) a → dp a ρ.length → HT L a Γ m' s' → ∃ va τ V1, (G_Values d).1 (i32 (p + 1)) (i32 e) (i32 n) (sI σ 38 6 (i32 (p + 1))) = some (i32 va, τ) ∧ EvR σ τ V V1 T (evD a ρ) va ∧ V1 + wv (evD a ρ) ≤ V + ln a ∧ τ.1 38 6 = i32 (p + 1 + ln a) := by
      intro m' s' hpa hda ha
      obtain ⟨va, τ, V1, g1, g2, g3, g4⟩ := iha Γ m' s' ha d n (p + 1) V T e ρ _ (by rw [hfx]; exact hpa) (kK_fm c1 hf.2.1 (by omega)) (by omega) hE1 hen hda (rK_kp c1 hfx (Nat.le_refl _) (Nat.le_refl _) _ _ _ hr) hW (by omega) (by omega) (by omega) (by omega) (by omega)
      exact ⟨va, τ, V1, g1, EvR_pre c1 c2 g2, g3, g4⟩
    have hB : ∀ (m' : Bool) (s' : Tr) (τ : CS) (V1 va : Nat), EvR σ τ V V1 T (evD a ρ) va → V1 ≤ V + ln a → pr (fxK σ) b → dp b ρ.length → HT L b Γ m' s' → ∃ vb υ V2, (G_Values d).1 (i32 (p + 1 + ln a)) (i32 e) (i32 n) τ = some (i32 vb, υ) ∧ EvR τ υ V1 V2 T (evD b ρ) vb ∧ V2 + wv (evD b ρ) ≤ V1 + ln b ∧ υ.1 38 6 = i32 (p + (1 + ln a + ln b)) := by
      intro m' s' τ V1 va gr gv hpb hdb hb
      obtain ⟨vb, υ, V2, g1, g2, g3, g4⟩ := ihb Γ m' s' hb d n (p + 1 + ln a) V1 T e ρ τ (by rw [EvR_fx gr]; exact hpb) (EvR_fm gr hf.2.2 (by omega)) (by omega) (EvR_P gr hE) hen hdb (EvR_rp gr hr) hW (by omega) (by omega) (by omega) (by omega) (by omega)
      exact ⟨vb, υ, V2, g1, g2, g3, by rw [g4]; congr 1; omega⟩
    simp only [HT] at h
    rcases h with ⟨h1, h2, x, y, h3, h4, h5⟩ | ⟨h1, h2, h3, x, y, h4, h5, h6⟩ | ⟨h0, h⟩
    · -- a pair
      subst h2
      obtain ⟨pa, pb⟩ := pr2 hp (by omega)
      have hd' : dp a ρ.length ∧ dp b ρ.length := hd
      obtain ⟨va, τ, V1, a1, a2, a3, a4⟩ := hA true x pa hd'.1 h4
      obtain ⟨vb, υ, V2, b1, b2, b3, b4⟩ := hB true y τ V1 va a2 (by omega) pb hd'.2 h5
      have ev : evD (.branch 44 a b) ρ = .branch 44 (evD a ρ) (evD b ρ) := by simp [evD]
      have hV2 := b2.1
      have v12 := EvR_V b2
      have v01 := EvR_V a2
      have hV1' := hE.2.2.2.2
      have mr := mk_R (σ := σ) (τ := υ) (V := V) (V1 := V2) (T := T) (t := .branch 44 (evD a ρ) (evD b ρ)) 7 (i32 va) (i32 vb) (kK_tr a2.2.2.2.1 b2.2.2.2.1 a2.2.1 (Nat.le_refl _)) (cK_tr a2.2.2.2.2 b2.2.2.2.2) (by omega) ⟨by omega, by omega, Or.inr (Or.inl ⟨rfl, mkn_39 _ _ _ _ _, va, vb, mkn_40 _ _ _ _ _, mkn_41 _ _ _ _ _, mk_rp _ _ _ (EvR_rp b2 a2.2.2.1), mk_rp _ _ _ b2.2.2.1⟩)⟩
      have wp : wv (.branch 44 (evD a ρ) (evD b ρ)) = wv (evD a ρ) + wv (evD b ρ) := by simp [wv]
      refine ⟨V2, sI (mkn υ V2 7 (i32 va) (i32 vb)) 38 6 (i32 (p + (1 + ln a + ln b))), V2 + 1, ?_, ?_, by rw [ev, wp]; omega, sI_at _ _ _ _⟩
      · show F_Values_evaluate _ _ _ _ _ _ = _
        rw [ev_pair hE.1 (by omega) hE.2.1 hf1 (by omega), a1, Option.bind_some]
        dsimp only
        rw [a4, b1, Option.bind_some]
        dsimp only
        rw [k_make _ _ _ hV2 (by omega) (by omega), Option.bind_some]
        dsimp only
        rw [b4]
      · rw [ev]
        exact ⟨by rw [bh_V]; exact mr.1, mr.2.1, rK_kp (bh_kp _ _ _ _) (cK_fx (bh_ch _ _) n36V) (Nat.le_refl _) (Nat.le_refl _) _ _ _ mr.2.2.1, kK_tr mr.2.2.2.1 (bh_kp _ _ V T) (Nat.le_refl _) (Nat.le_refl _), cK_tr mr.2.2.2.2 (bh_ch _ _)⟩
    · -- a function
      subst h2
      obtain ⟨pa, _⟩ := pr1 hp (by omega)
      subst h3
      rw [ln_0] at hT hv hl hn hd2 hb4 ⊢
      have hd' : ρ.length < 10 ∧ dp a (ρ.length + 1) := by
        have := hd
        simp only [dp, if_true] at this
        exact this
      have eb := k_behind (σ := sI σ 38 6 (i32 (p + 1))) (t := .branch 92 a (.leaf 0)) (p := p) hE1.1 hE1.2.1 (by rw [hfx]; exact hpt) (kK_fm c1 hf (by omega)) (by omega)
      have e1 := bh_kp (sI σ 38 6 (i32 (p + 1))) (i32 (p + ln (.branch 92 a (.leaf 0)))) V T
      have e2 := bh_ch (sI σ 38 6 (i32 (p + 1))) (i32 (p + ln (.branch 92 a (.leaf 0))))
      have e3 := bh_V (sI σ 38 6 (i32 (p + 1))) (i32 (p + ln (.branch 92 a (.leaf 0))))
      have e4 : (sI (sI σ 38 6 (i32 (p + 1))) 38 6 (i32 (p + ln (.branch 92 a (.leaf 0))))).1 38 6 = i32 (p + ln (.branch 92 a (.leaf 0))) := sI_at _ _ _ _
      have ev : evD (.branch 92 a (.leaf 0)) ρ = .branch 92 a (eL ρ) := by simp [evD]
      have hV1' := hE.2.2.2.2
      have hgo : (G_Values (d + 1)).1 (i32 p) (i32 e) (i32 (n + 1)) σ = f_Values_make 8 (i32 (p + 1)) (i32 e) (sI (sI σ 38 6 (i32 (p + 1))) 38 6 (i32 (p + ln (.branch 92 a (.leaf 0))))) := by
        show F_Values_evaluate _ _ _ _ _ _ = _
        rw [ev_lam hE.1 (by omega) hE.2.1 hf1 (by omega), eb, Option.bind_some]
      generalize sI (sI σ 38 6 (i32 (p + 1))) 38 6 (i32 (p + ln (.branch 92 a (.leaf 0)))) = υ at e1 e2 e3 e4 hgo
      have k12 := kK_tr c1 e1 (Nat.le_refl _) (Nat.le_refl _)
      have c12 := cK_tr c2 e2
      have fx2 := cK_fx c12 n36V
      have hVu : υ.1 38 4 = i32 V := by rw [e3, c3]; exact hE.2.2.2.1
      have cM := mkn_ch (A := AV) υ V 8 (i32 (p + 1)) (i32 e) (fun _ h => h)
      have kM := mkn_kp υ V 8 (i32 (p + 1)) (i32 e) T
      refine ⟨V, mkn υ V 8 (i32 (p + 1)) (i32 e), V + 1, by rw [hgo, k_make _ _ _ hVu (by omega) (by omega)], ?_, ?_, by rw [mkn_386, e4, hb4]⟩
      · rw [ev]
        refine mk_R 8 _ _ k12 c12 (Nat.le_refl _) ⟨by omega, by omega, Or.inr (Or.inr (Or.inr (Or.inr ⟨rfl, mkn_39 _ _ _ _ _, p + 1, e, mkn_40 _ _ _ _ _, mkn_41 _ _ _ _ _, kK_fm (kK_tr k12 kM (Nat.le_refl _) (Nat.le_refl _)) hf.2.1 (by omega), by rw [cK_fx (cK_tr c12 cM) n36V]; exact pa, by omega, by omega, by rw [dL_eL]; exact hd'.1, by rw [dL_eL]; exact hd'.2, mk_rp _ _ _ (rK_kp k12 fx2 (Nat.le_refl _) (Nat.le_refl _) _ _ _ hr)⟩)))⟩
      · rw [ev]
        have : wv (.branch 92 a (eL ρ)) = ln a := by simp [wv]
        omega
    · rcases h with ⟨h1, x, h2, h3, h4⟩ | ⟨h1, h2, y, h3⟩ | ⟨h1, h2, x, h3⟩
      · -- given
        subst h1
        obtain ⟨pa, pb⟩ := pr2 hp (by omega)
        have hd' : dp a ρ.length ∧ dp b ρ.length := hd
        obtain ⟨va, τ, V1, a1, a2, a3, a4⟩ := hA false _ pa hd'.1 h3
        obtain ⟨vb, υ, V2, b1, b2, b3, b4⟩ := hB true x τ V1 va a2 (by omega) pb hd'.2 h4
        have hpa := pr_pos pa
        obtain ⟨d, rfl⟩ : ∃ k, d = k + 1 := ⟨d - 1, by omega⟩
        have hf' : HT L (evD a ρ) N false (.branch 80 x s) := ((T1 _ _ _ _ _ h3 hen).2.2 rfl).resolve_left (fun h => absurd h.1 (by decide))
        have n8 : kdT (evD a ρ) ≠ 8 := kdT_8 (fun q r e => by rw [e] at hf'; exact HT_92 hf') a2.2.2.1
        have ev : evD (.branch 46 a b) ρ = .branch 46 (evD a ρ) (evD b ρ) := by simp [evD]
        have hV2 := b2.1
        have v12 := EvR_V b2
        have v01 := EvR_V a2
        have hV1' := hE.2.2.2.2
        have mr := mk_R (σ := σ) (τ := υ) (V := V) (V1 := V2) (T := T) (t := .branch 46 (evD a ρ) (evD b ρ)) 3 (i32 va) (i32 vb) (kK_tr a2.2.2.2.1 b2.2.2.2.1 a2.2.1 (Nat.le_refl _)) (cK_tr a2.2.2.2.2 b2.2.2.2.2) (by omega) ⟨by omega, by omega, Or.inl ⟨rfl, mkn_39 _ _ _ _ _, va, vb, mkn_40 _ _ _ _ _, mkn_41 _ _ _ _ _, mk_rp _ _ _ (EvR_rp b2 a2.2.2.1), Or.inl (mk_rp _ _ _ b2.2.2.1)⟩⟩
        have wp : wv (.branch 46 (evD a ρ) (evD b ρ)) = wv (evD a ρ) + wv (evD b ρ) := by simp [wv]
        refine ⟨V2, sI (mkn υ V2 3 (i32 va) (i32 vb)) 38 6 (i32 (p + (1 + ln a + ln b))), V2 + 1, ?_, ?_, by rw [ev, wp]; omega, sI_at _ _ _ _⟩
        · show F_Values_evaluate _ _ _ _ _ _ = _
          rw [ev_app hE.1 (by omega) hE.2.1 hf1 (by omega), a1, Option.bind_some]
          dsimp only
          rw [a4, b1, Option.bind_some]
          dsimp only
          rw [show (G_Values (d + 1)).2 = F_Values_apply (G_Values d).1 (G_Values d).2 from rfl, k_apply0 _ _ (EvR_rp b2 a2.2.2.1) n8 hV2 (by omega) (by omega), Option.bind_some]
          dsimp only
          rw [b4]
        · rw [ev]
          exact ⟨by rw [bh_V]; exact mr.1, mr.2.1, rK_kp (bh_kp _ _ _ _) (cK_fx (bh_ch _ _) n36V) (Nat.le_refl _) (Nat.le_refl _) _ _ _ mr.2.2.1, kK_tr mr.2.2.2.1 (bh_kp _ _ V T) (Nat.le_refl _) (Nat.le_refl _), cK_tr mr.2.2.2.2 (bh_ch _ _)⟩
      · -- a first component
        subst h1 h2
        obtain ⟨pa, _⟩ := pr1 hp (by omega)
        rw [ln_0] at hT hv hl hn hd2 ⊢
        have hd' : dp a ρ.length := hd.1
        obtain ⟨va, τ, V1, a1, a2, a3, a4⟩ := hA false _ pa hd' h3
        have ev : evD (.branch 60 a (.leaf 0)) ρ = fstV (evD a ρ) := by simp [evD]
        have hV1' := hE.2.2.2.2
        have v01 := EvR_V a2
        obtain ⟨v', υ, V2, b1, b2, b3, ⟨b4, b5⟩, b6, b7, b8, b9⟩ := k_first a2.2.2.1 a2.1 (by omega) (by omega)
        refine ⟨v', υ, V2, ?_, ?_, by rw [ev]; omega, by rw [b9, a4]; congr 1; omega⟩
        · show F_Values_evaluate _ _ _ _ _ _ = _
          rw [ev_fst hE.1 (by omega) hE.2.1 hf1 (by omega), a1, Option.bind_some]
          exact b1
        · rw [ev]
          exact ⟨b2, by omega, b6, kK_tr a2.2.2.2.1 b7 v01 (Nat.le_refl _), cK_tr a2.2.2.2.2 b8⟩
      · subst h1 h2
        obtain ⟨pa, _⟩ := pr1 hp (by omega)
        rw [ln_0] at hT hv hl hn hd2 ⊢
        have hd' : dp a ρ.length := hd.1
        obtain ⟨va, τ, V1, a1, a2, a3, a4⟩ := hA false _ pa hd' h3
        have ev : evD (.branch 62 a (.leaf 0)) ρ = sndV (evD a ρ) := by simp [evD]
        have hV1' := hE.2.2.2.2
        have v01 := EvR_V a2
        obtain ⟨v', υ, V2, b1, b2, b3, ⟨b4, b5⟩, b6, b7, b8, b9⟩ := k_second a2.2.2.1 a2.1 (by omega) (by omega)
        refine ⟨v', υ, V2, ?_, ?_, by rw [ev]; omega, by rw [b9, a4]; congr 1; omega⟩
        · show F_Values_evaluate _ _ _ _ _ _ = _
          rw [ev_snd hE.1 (by omega) hE.2.1 hf1 (by omega), a1, Option.bind_some]
          exact b1
        · rw [ev]
          exact ⟨b2, by omega, b6, kK_tr a2.2.2.2.1 b7 v01 (Nat.le_refl _), cK_tr a2.2.2.2.2 b8⟩
end KEVAL2
