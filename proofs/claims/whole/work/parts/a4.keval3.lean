section KEVAL3
theorem enE_wv {L : Lw} {N ρ Γ : List Tr} (h : enE L N ρ Γ) : ∀ u ∈ ρ, wv u = 0 := by
  intro u hu
  obtain ⟨i, hi, rfl⟩ := List.mem_iff_getElem.mp hu
  have hi2 : i < Γ.length := by rw [← h.1]; exact hi
  have := h.2 i Γ[i] (List.getElem?_eq_getElem hi2)
  have e : lk ρ i = ρ[i] := by simp [lk, List.getElem?_eq_getElem hi]
  rw [e] at this
  exact wv_EF _ _ this
/-- a function given data -/
theorem k_gives {L : Lw} (hL : L.2.length ≤ 4) {N : List Tr} {f u x y : Tr} (hc : clo L N f x y) (hu : EF L N x u) {σ : CS} {V T v q d n : Nat} (hv : rpK σ V T false f v) (hq : rpK σ V T false u q) (hE : EvP σ V T L.2.length) (hb : V + 1 + wv f ≤ 3072) (hd : 51 ≤ d) (hn : 50 ≤ n) (hn2 : n < 1000) : wv f ≤ 49 ∧ ∃ w τ V', (G_Values (d + 1)).2 (i32 v) (i32 q) (i32 n) σ = some (i32 w, τ) ∧ EvR σ τ V V' T (gvD f u) w ∧ V' + wv (gvD f u) ≤ V + 1 + wv f := by
  obtain ⟨b, ρ, Γ, rfl, h1, h2, h3⟩ := hc
  have hwv : wv (.branch 92 b (eL ρ)) = ln b := by simp [wv]
  rw [hwv] at hb ⊢
  obtain ⟨hT, hT2, h5, hV, hV1⟩ := hE
  have hpos : 1 ≤ ln b := by
    obtain ⟨_, _, hr⟩ := hv
    rcases hr with ⟨a1, _⟩ | ⟨a1, _⟩ | ⟨a1, _⟩ | ⟨a1, _⟩ | ⟨a1, a2, p, e, a3, a4, a5, a6, a7⟩
    · omega
    · omega
    · omega
    · omega
    · exact pr_pos a6
  obtain ⟨p, e, g1, g2, g3, g4, g5, g6, g7, g8⟩ := k_apply1 (re := (G_Values d).1) (ra := (G_Values d).2) (i32 q) (i32 n) hv hV hV1 (by omega)
  have cM := mkn_ch (A := AV) σ V 9 (i32 q) (i32 e) (fun _ h => h)
  have kM := mkn_kp σ V 9 (i32 q) (i32 e) T
  have hfx := cK_fx cM n36V
  have hE1 : EvP (mkn σ V 9 (i32 q) (i32 e)) (V + 1) T L.2.length := EvP_ch ⟨hT, hT2, h5, hV, hV1⟩ cM (mkn_V _ _ _ _ _) (by omega)
  have hsc : rpK (mkn σ V 9 (i32 q) (i32 e)) (V + 1) T true (eL (ρ ++ [u])) V := by
    rw [eL_snoc]
    exact ⟨hV1, by omega, mkn_39 _ _ _ _ _, by rw [dL_eL]; exact g6, q, e, mkn_40 _ _ _ _ _, mkn_41 _ _ _ _ _, mk_rp _ _ _ hq, mk_rp _ _ _ g8⟩
  have hen := enE_snoc h1 hu
  obtain ⟨w, τ, V', r1, r2, r3, r4⟩ := k_evD hL b (Γ ++ [x]) true y h3 d n p (V + 1) T V (ρ ++ [u]) _ (by rw [hfx]; exact g3) (kK_fm kM g2 g4) g4 hE1 hen (by simpa using g7) hsc (enE_wv hen) (by omega) (by omega) (by omega) hn2 (by omega)
  have ev : gvD (.branch 92 b (eL ρ)) u = evD b (ρ ++ [u]) := by simp [gvD, dL_eL]
  refine ⟨g5, w, τ, V', ?_, ?_, by rw [ev]; exact r3⟩
  · show F_Values_apply (G_Values d).1 (G_Values d).2 _ _ _ _ = _
    rw [g1, r1]
  · rw [ev]
    exact ⟨r2.1, by have := r2.2.1; omega, r2.2.2.1, kK_tr kM r2.2.2.2.1 (by omega) (Nat.le_refl _), cK_tr cM r2.2.2.2.2⟩
/-- what is left given something -/
theorem k_givesN {L : Lw} {N : List Tr} {f s : Tr} (hf : HT L f N false s) {σ : CS} {V T v d m : Nat} (x2 x3 : Int32) (hv : rpK σ V T false f v) (hE : EvP σ V T m) (hb : V < 3072) : (G_Values (d + 1)).2 (i32 v) x2 x3 σ = some (i32 V, mkn σ V 3 (i32 v) x2) := by
  show F_Values_apply (G_Values d).1 (G_Values d).2 _ _ _ _ = _
  exact k_apply0 _ _ hv (kdT_8 (fun q r e => by rw [e] at hf; exact HT_92 hf) hv) hE.2.2.2.1 hE.2.2.2.2 hb
/-- evaluating data, or what is left, where functions may be named -/
theorem k_evA {L : Lw} (hL : L.2.length ≤ 4) {N : List Tr} : ∀ (t : Tr) (Γ : List Tr) (m : Bool) (s : Tr), HT L t Γ m s → (m = true → dta s) → ∀ (d n p V T e : Nat) (ρ : List Tr) (σ : CS), pr (fxK σ) t → fm (σ.1 35) t p → p + ln t ≤ T → EvP σ V T L.2.length → enV L N ρ Γ → rpK σ V T true (eL ρ) e → V + 26 * ln t ≤ 3072 → ln t ≤ 50 → ln t + 50 ≤ n → n < 1000 → ln t + 52 ≤ d →
    ∃ v τ V', (G_Values d).1 (i32 p) (i32 e) (i32 n) σ = some (i32 v, τ) ∧ EvR σ τ V V' T (evA t ρ) v ∧ V' + 25 ≤ V + 26 * ln t ∧ τ.1 38 6 = i32 (p + ln t) := by
  intro t
  induction t with
  | leaf c =>
    intro Γ m s h hdt d n p V T e ρ σ hp hf hT hE hen hr hv hl hn hn2 hd2
    rw [ln_leaf hp.1] at hT hv hl hn hd2 ⊢
    obtain ⟨n, rfl⟩ : ∃ k, n = k + 1 := ⟨n - 1, by omega⟩
    obtain ⟨d, rfl⟩ : ∃ k, d = k + 1 := ⟨d - 1, by omega⟩
    obtain ⟨v, τ, V', h1, h2, h3, h4, h5⟩ := k_leaf (re := (G_Values d).1) (ra := (G_Values d).2) (n := n) hL h hE (hf hp.1) (by omega) (by omega) hen.1 hr (by omega)
    have ev : evA (.leaf c) ρ = evD (.leaf c) ρ := by simp only [evA, evD]
    exact ⟨v, τ, V', h1, by rw [ev]; exact h2, by omega, h5⟩
  | branch c a b iha ihb =>
    intro Γ m s h hdt d n p V T e ρ σ hp hf hT hE hen hr hv hl hn hn2 hd2
    have hf1 := hf.1
    rw [ln_br] at hT hv hl hn hd2 ⊢
    obtain ⟨n, rfl⟩ : ∃ k, n = k + 1 := ⟨n - 1, by omega⟩
    obtain ⟨d, rfl⟩ : ∃ k, d = k + 1 := ⟨d - 1, by omega⟩
    have c1 := bh_kp σ (i32 (p + 1)) V T
    have c2 := bh_ch σ (i32 (p + 1))
    have c3 := bh_V σ (i32 (p + 1))
    have hE1 : EvP (sI σ 38 6 (i32 (p + 1))) V T L.2.length := EvP_ch hE c2 (by rw [c3]; exact hE.2.2.2.1) (Nat.le_refl _)
    have hfx := cK_fx c2 n36V
    have hV1' := hE.2.2.2.2
    have hA : ∀ (m' : Bool) (s' : Tr), pr (fxK σ) a → HT L a Γ m' s' → (m' = true → dta s') → ∃ va τ V1, (G_Values d).1 (i32 (p + 1)) (i32 e) (i32 n) (sI σ 38 6 (i32 (p + 1))) = some (i32 va, τ) ∧ EvR σ τ V V1 T (evA a ρ) va ∧ V1 + 25 ≤ V + 26 * ln a ∧ τ.1 38 6 = i32 (p + 1 + ln a) := by
      intro m' s' hpa ha hda
      obtain ⟨va, τ, V1, g1, g2, g3, g4⟩ := iha Γ m' s' ha hda d n (p + 1) V T e ρ _ (by rw [hfx]; exact hpa) (kK_fm c1 hf.2.1 (by omega)) (by omega) hE1 hen (rK_kp c1 hfx (Nat.le_refl _) (Nat.le_refl _) _ _ _ hr) (by omega) (by omega) (by omega) (by omega) (by omega)
      exact ⟨va, τ, V1, g1, EvR_pre c1 c2 g2, g3, g4⟩
    have hB : ∀ (m' : Bool) (s' : Tr) (τ : CS) (V1 va : Nat), EvR σ τ V V1 T (evA a ρ) va → V1 + 25 ≤ V + 26 * ln a → pr (fxK σ) b → HT L b Γ m' s' → (m' = true → dta s') → ∃ vb υ V2, (G_Values d).1 (i32 (p + 1 + ln a)) (i32 e) (i32 n) τ = some (i32 vb, υ) ∧ EvR τ υ V1 V2 T (evA b ρ) vb ∧ V2 + 25 ≤ V1 + 26 * ln b ∧ υ.1 38 6 = i32 (p + (1 + ln a + ln b)) := by
      intro m' s' τ V1 va gr gv hpb hb hdb
      obtain ⟨vb, υ, V2, g1, g2, g3, g4⟩ := ihb Γ m' s' hb hdb d n (p + 1 + ln a) V1 T e ρ τ (by rw [EvR_fx gr]; exact hpb) (EvR_fm gr hf.2.2 (by omega)) (by omega) (EvR_P gr hE) hen (EvR_rp gr hr) (by omega) (by omega) (by omega) (by omega) (by omega)
      exact ⟨vb, υ, V2, g1, g2, g3, by rw [g4]; congr 1; omega⟩
    have hbe : ∀ {τ : CS} {V2 : Nat} {u : Tr} {w : Nat} (x : Int32), EvR σ τ V V2 T u w → EvR σ (sI τ 38 6 x) V V2 T u w := fun x mr => ⟨by rw [bh_V]; exact mr.1, mr.2.1, rK_kp (bh_kp _ _ _ _) (cK_fx (bh_ch _ _) n36V) (Nat.le_refl _) (Nat.le_refl _) _ _ _ mr.2.2.1, kK_tr mr.2.2.2.1 (bh_kp _ _ V T) (Nat.le_refl _) (Nat.le_refl _), cK_tr mr.2.2.2.2 (bh_ch _ _)⟩
    simp only [HT] at h
    rcases h with ⟨h1, h2, x, y, h3, h4, h5⟩ | ⟨h1, h2, h3, x, y, h4, h5, h6⟩ | ⟨h0, h⟩
    · subst h2 h3
      have hdd := hdt h1
      obtain ⟨pa, pb⟩ := pr2 hp (by omega)
      obtain ⟨va, τ, V1, a1, a2, a3, a4⟩ := hA true x pa h4 (fun _ => hdd.2.1)
      obtain ⟨vb, υ, V2, b1, b2, b3, b4⟩ := hB true y τ V1 va a2 a3 pb h5 (fun _ => hdd.2.2)
      have ev : evA (.branch 44 a b) ρ = .branch 44 (evA a ρ) (evA b ρ) := by simp [evA]
      have hV2 := b2.1
      have v12 := EvR_V b2
      have v01 := EvR_V a2
      have mr := mk_R (σ := σ) (τ := υ) (V := V) (V1 := V2) (T := T) (t := .branch 44 (evA a ρ) (evA b ρ)) 7 (i32 va) (i32 vb) (kK_tr a2.2.2.2.1 b2.2.2.2.1 a2.2.1 (Nat.le_refl _)) (cK_tr a2.2.2.2.2 b2.2.2.2.2) (by omega) ⟨by omega, by omega, Or.inr (Or.inl ⟨rfl, mkn_39 _ _ _ _ _, va, vb, mkn_40 _ _ _ _ _, mkn_41 _ _ _ _ _, mk_rp _ _ _ (EvR_rp b2 a2.2.2.1), mk_rp _ _ _ b2.2.2.1⟩)⟩
      refine ⟨V2, sI (mkn υ V2 7 (i32 va) (i32 vb)) 38 6 (i32 (p + (1 + ln a + ln b))), V2 + 1, ?_, by rw [ev]; exact hbe _ mr, by omega, sI_at _ _ _ _⟩
      show F_Values_evaluate _ _ _ _ _ _ = _
      rw [ev_pair hE.1 (by omega) hE.2.1 hf1 (by omega), a1, Option.bind_some]
      dsimp only
      rw [a4, b1, Option.bind_some]
      dsimp only
      rw [k_make _ _ _ hV2 (by omega) (by omega), Option.bind_some]
      dsimp only
      rw [b4]
    · subst h4
      exact absurd (hdt h1).1 (by decide)
    · rcases h with ⟨h1, x, h2, h3, h4⟩ | ⟨h1, h2, y, h3⟩ | ⟨h1, h2, x, h3⟩
      · subst h1
        obtain ⟨pa, pb⟩ := pr2 hp (by omega)
        obtain ⟨va, τ, V1, a1, a2, a3, a4⟩ := hA false _ pa h3 (fun h => by simp at h)
        obtain ⟨vb, υ, V2, b1, b2, b3, b4⟩ := hB true x τ V1 va a2 a3 pb h4 (fun _ => h2)
        have hpa := pr_pos pa
        have hpb := pr_pos pb
        obtain ⟨d, rfl⟩ : ∃ k, d = k + 1 := ⟨d - 1, by omega⟩
        have hfv := (T2 _ _ _ _ _ h3 hen (fun h => by simp at h)).2 rfl
        have hbv := (T2 _ _ _ _ _ h4 hen (fun _ => h2)).1 rfl
        have ev : evA (.branch 46 a b) ρ = gvD (evA a ρ) (evA b ρ) := by simp [evA]
        have hV2 := b2.1
        have v12 := EvR_V b2
        have v01 := EvR_V a2
        have hE2 := EvR_P b2 (EvR_P a2 hE)
        have fin : ∃ w ω V3, (G_Values (d + 1)).2 (i32 va) (i32 vb) (i32 n) υ = some (i32 w, ω) ∧ EvR υ ω V2 V3 T (gvD (evA a ρ) (evA b ρ)) w ∧ V3 ≤ V2 + 50 := by
          rcases hfv with hh | ⟨_, hh⟩ | hh
          · exact absurd hh.1 (by decide)
          · have h49 : wv (evA a ρ) ≤ 49 := by
              obtain ⟨b', ρ', Γ', e', _⟩ := hh
              have hvv := EvR_rp b2 a2.2.2.1
              rw [e'] at hvv ⊢
              obtain ⟨_, _, hr'⟩ := hvv
              have : wv (.branch 92 b' (eL ρ')) = ln b' := by simp [wv]
              rw [this]
              rcases hr' with ⟨a1, _⟩ | ⟨a1, _⟩ | ⟨a1, _⟩ | ⟨a1, _⟩ | ⟨a1, a2, p, e, a3, a4, a5, a6, a7, a8, _⟩
              · omega
              · omega
              · omega
              · omega
              · exact a8
            obtain ⟨_, w, ω, V3, w1, w2, w3⟩ := k_gives (d := d) (n := n) hL hh (RV_EF _ _ h2 hbv) (EvR_rp b2 a2.2.2.1) b2.2.2.1 hE2 (by omega) (by omega) (by omega) (by omega)
            exact ⟨w, ω, V3, w1, w2, by omega⟩
          · refine ⟨V2, _, V2 + 1, k_givesN hh _ _ (EvR_rp b2 a2.2.2.1) hE2 (by omega), ?_, by omega⟩
            rw [gvD_ne _ hh]
            exact mk_R 3 _ _ (kK_rf _ _ _) (cK_rf _ _) (Nat.le_refl _) ⟨by omega, by omega, Or.inl ⟨rfl, mkn_39 _ _ _ _ _, va, vb, mkn_40 _ _ _ _ _, mkn_41 _ _ _ _ _, mk_rp _ _ _ (EvR_rp b2 a2.2.2.1), Or.inl (mk_rp _ _ _ b2.2.2.1)⟩⟩
        obtain ⟨w, ω, V3, w1, w2, w3⟩ := fin
        have mr : EvR σ ω V V3 T (gvD (evA a ρ) (evA b ρ)) w := ⟨w2.1, by have := w2.2.1; omega, w2.2.2.1, kK_tr (kK_tr a2.2.2.2.1 b2.2.2.2.1 a2.2.1 (Nat.le_refl _)) w2.2.2.2.1 (by omega) (Nat.le_refl _), cK_tr (cK_tr a2.2.2.2.2 b2.2.2.2.2) w2.2.2.2.2⟩
        refine ⟨w, sI ω 38 6 (i32 (p + (1 + ln a + ln b))), V3, ?_, by rw [ev]; exact hbe _ mr, by omega, sI_at _ _ _ _⟩
        show F_Values_evaluate _ _ _ _ _ _ = _
        rw [ev_app hE.1 (by omega) hE.2.1 hf1 (by omega), a1, Option.bind_some]
        dsimp only
        rw [a4, b1, Option.bind_some]
        dsimp only
        rw [w1, Option.bind_some]
        dsimp only
        rw [b4]
      · subst h1 h2
        obtain ⟨pa, _⟩ := pr1 hp (by omega)
        have hpa := pr_pos pa
        rw [ln_0] at hT hv hl hn hd2 ⊢
        obtain ⟨va, τ, V1, a1, a2, a3, a4⟩ := hA false _ pa h3 (fun h => by simp at h)
        have ev : evA (.branch 60 a (.leaf 0)) ρ = fstV (evA a ρ) := by simp [evA]
        have v01 := EvR_V a2
        obtain ⟨v', υ, V2, b1, b2, b3, ⟨b4, b5⟩, b6, b7, b8, b9⟩ := k_first a2.2.2.1 a2.1 (by omega) (by omega)
        refine ⟨v', υ, V2, ?_, ?_, by omega, by rw [b9, a4]; congr 1; omega⟩
        · show F_Values_evaluate _ _ _ _ _ _ = _
          rw [ev_fst hE.1 (by omega) hE.2.1 hf1 (by omega), a1, Option.bind_some]
          exact b1
        · rw [ev]
          exact ⟨b2, by omega, b6, kK_tr a2.2.2.2.1 b7 v01 (Nat.le_refl _), cK_tr a2.2.2.2.2 b8⟩
      · subst h1 h2
        obtain ⟨pa, _⟩ := pr1 hp (by omega)
        have hpa := pr_pos pa
        rw [ln_0] at hT hv hl hn hd2 ⊢
        obtain ⟨va, τ, V1, a1, a2, a3, a4⟩ := hA false _ pa h3 (fun h => by simp at h)
        have ev : evA (.branch 62 a (.leaf 0)) ρ = sndV (evA a ρ) := by simp [evA]
        have v01 := EvR_V a2
        obtain ⟨v', υ, V2, b1, b2, b3, ⟨b4, b5⟩, b6, b7, b8, b9⟩ := k_second a2.2.2.1 a2.1 (by omega) (by omega)
        refine ⟨v', υ, V2, ?_, ?_, by omega, by rw [b9, a4]; congr 1; omega⟩
        · show F_Values_evaluate _ _ _ _ _ _ = _
          rw [ev_snd hE.1 (by omega) hE.2.1 hf1 (by omega), a1, Option.bind_some]
          exact b1
        · rw [ev]
          exact ⟨b2, by omega, b6, kK_tr a2.2.2.2.1 b7 v01 (Nat.le_refl _), cK_tr a2.2.2.2.2 b8⟩
end KEVAL3
