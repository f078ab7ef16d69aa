section MTY
/-- the loop's state before a type that is due -/
def YPre (σ : MS) (B T V E F n d names Er base : Nat) (ρ : List Tr) (w : Nat) : Prop := σ.1 27 = i32 0 ∧ σ.1 1 = i32 T ∧ σ.1 19 = i32 V ∧ σ.1 21 = i32 E ∧ B ≤ T ∧ T ≤ B + 50 ∧ B + 60 ≤ 9400 ∧ 60 ≤ F + (T - B) ∧ n ≤ T - B ∧ 2 * E + w ≤ 136 + 2 * (T - B) ∧ V + 26 * w ≤ 2400 ∧ 20 ≤ V ∧ (∀ k, k < 20 → σ.2.2 k = pk 0 k 0 0) ∧ rpM σ V E T true (eL ρ) Er ∧ (∀ k, base ≤ k → k < 10 → σ.2.1 11 (10 * Er + k) = i32 (names + k - base)) ∧ σ.2.1 18 n = i32 d
def YOk (σ τ : MS) (T V E n w : Nat) (t : Tr) : Prop := ∃ V' E', τ.1 27 = i32 0 ∧ τ.1 1 = i32 (T + ln t) ∧ fm (τ.2.1 1) t T ∧ τ.1 19 = i32 V' ∧ τ.1 21 = i32 E' ∧ V ≤ V' ∧ V' ≤ V + 26 * w ∧ E ≤ E' ∧ 2 * E' ≤ 2 * E + w + 2 * ln t ∧ kp σ τ V E T ∧ ch FY AY σ τ ∧ ∀ i, i < n → τ.2.1 18 i = σ.2.1 18 i
theorem m_ty {L : Lw} (hL : L.2.length ≤ 4) {names base B Er : Nat} {ρ : List Tr} (hρ : ρ.length = base) (x5 x6 : Int32) : ∀ (T' : Tr) (Γ N : List Tr) (d : Nat), WT L T' Γ → enV L N (nms ρ names d) Γ → N.length = names + d → names + d ≤ 10 → dp T' (base + d) → base + d ≤ 10 → ∀ (p n F T V E : Nat) (σ : MS), pr (fxM σ) T' → fm (σ.2.1 1) T' p → p + ln T' ≤ B → ln T' ≤ 50 → YPre σ B T V E F n d names Er base ρ (ln T') →
    (T + ln (nft T' (nms ρ names d) (names + d)) ≤ B + 50 ∧ dp (nft T' (nms ρ names d) (names + d)) (names + d) → ∃ F' τ, F ≤ F' + ln (nft T' (nms ρ names d) (names + d)) ∧ L_typeBy_111 F (i32 base) (i32 names) x5 x6 (i32 B) (i32 Er) (i32 p) (i32 (n + 1)) σ = L_typeBy_111 F' (i32 base) (i32 names) x5 x6 (i32 B) (i32 Er) (i32 (p + ln T')) (i32 n) τ ∧ YOk σ τ T V E n (ln T') (nft T' (nms ρ names d) (names + d)))
    ∧ (¬ (T + ln (nft T' (nms ρ names d) (names + d)) ≤ B + 50 ∧ dp (nft T' (nms ρ names d) (names + d)) (names + d)) → ∃ τ, L_typeBy_111 F (i32 base) (i32 names) x5 x6 (i32 B) (i32 Er) (i32 p) (i32 (n + 1)) σ = B_typeBy_280 x5 x6 (i32 B) τ ∧ τ.1 27 = i32 1 ∧ kp σ τ V E T ∧ ch FY AY σ τ) := by
  have psd_1 : ∀ (σ : MS) (n d : Nat), (psd σ n d).1 = σ.1 := fun _ _ _ => rfl
  have cm : ∀ {a b : MS}, ch FT AT a b → ch FY AY a b := fun h => ch_mo h (by simp [FT, FY]) (by simp only [AT, AY]; intro k hk; simp at hk ⊢; omega)
  intro T'
  induction T' with
  | leaf s =>
    intro Γ N d hW hen hN hd1 hdp hd2 p n F T V E σ hp hf hpB hln hY
    obtain ⟨y1, y2, y3, y4, y5, y6, y7, y8, y9, y10, y11, y12, y13, y14, y15, y16⟩ := hY
    have hs : 83 ≠ s ∧ 80 ≠ s := by
      simp only [WT] at hW
      have := hp.2.2
      constructor
      · rintro rfl; exact absurd (show 2 = 0 from this) (by decide)
      · rintro rfl; exact absurd (show 2 = 0 from this) (by decide)
    have hl1 : ln (.leaf s) = 1 := ln_leaf hp.1
    rw [nft]
    rw [hl1] at y10 y11 hpB ⊢
    obtain ⟨G, rfl⟩ : ∃ G, F = (G + 1) + 1 := ⟨F - 2, by omega⟩
    have step := ty_leaf (F := G + 1) (i32 base) (i32 names) x5 x6 (i32 Er) (by omega) (by omega) y1 y2 (by omega) y5 y16 (hf hp.1) hp.2.1 (Ne.symm hs.1) (Ne.symm hs.2) hp.2.2
    constructor
    · rintro ⟨h, _⟩
      refine ⟨G + 1, sgn σ T s B, by omega, step, V, E, by rw [sgn_27, bg0 (by omega)], by rw [hl1]; exact sgn_T _ _ _ _, fun _ => sgn_at _ _ _ _, by rw [sgn_1 _ _ _ _ (by decide) (by decide)]; exact y3, by rw [sgn_1 _ _ _ _ (by decide) (by decide)]; exact y4, Nat.le_refl _, by omega, Nat.le_refl _, by omega, sgn_kp _ _ _ _ _ _, cm (sgn_ch _ _ _ _), fun i _ => by rw [sgn_arr _ _ _ _ (by decide)]⟩
    · intro h
      have h27 : (sgn σ T s B).1 27 = i32 1 := by rw [sgn_27, bg1 (fun h2 => h ⟨by omega, trivial⟩)]
      exact ⟨sgn σ T s B, by rw [step, ty_big _ _ _ _ _ _ _ _ h27], h27, sgn_kp _ _ _ _ _ _, cm (sgn_ch _ _ _ _)⟩
  | branch s a b iha ihb =>
    intro Γ N d hW hen hN hd1 hdp hd2 p n F T V E σ hp hf hpB hln hY
    obtain ⟨y1, y2, y3, y4, y5, y6, y7, y8, y9, y10, y11, y12, y13, y14, y15, y16⟩ := hY
    have hf1 := hf.1
    have hlen := nms_len ρ names d
    rw [hρ] at hlen
    rw [ln_br] at y10 y11 hpB hln ⊢
    by_cases hs : s = 83 ∨ s = 80
    · -- pairs and functions
      obtain ⟨_, hWa, hWb⟩ := WT_SP hW hs
      obtain ⟨dpa, dpl, dpb⟩ := (dp_SP hs).mp hdp
      have har : ar (fxM σ) s = 2 := by rcases hs with rfl | rfl <;> rfl
      have hpab : pr (fxM σ) a ∧ pr (fxM σ) b := by
        rcases hp.2.2 with h | h
        · exact h.2
        · rw [har] at h; exact absurd h.1 (by decide)
      have hla := pr_pos hpab.1
      have hlb := pr_pos hpab.2
      have ent : nft (.branch s a b) (nms ρ names d) (names + d) = .branch s (nft a (nms ρ names d) (names + d)) (nft b (nms ρ names (d + 1)) (names + (d + 1))) := by
        rw [nft, if_pos hs, nms_s]; rfl
      rw [ent, ln_br, dp_SP hs]
      obtain ⟨G, rfl⟩ : ∃ G, F = (G + 1) + 1 := ⟨F - 2, by omega⟩
      have step := ty_sp (F := G + 1) (i32 base) x5 x6 (i32 Er) (by omega) (by omega) (show names ≤ 10 by omega) (by omega) y1 y2 (by omega) y5 y16 hf1 hs
      generalize hσ1 : psd (setF (sgn σ T s B) 27 (if T + 1 - B ≤ 50 ∧ names + d < 10 then i32 0 else i32 1)) n d = σ1 at step
      have kk : kp σ σ1 V E T := by
        rw [← hσ1]
        exact kp_tr (sgn_kp _ _ _ _ _ _) (kp_tr (kp_setF _ 27 _ V E T) (psd_kp _ _ _ _ _ _) (Nat.le_refl _) (Nat.le_refl _) (Nat.le_refl _)) (Nat.le_refl _) (Nat.le_refl _) (Nat.le_refl _)
      have cc : ch FY AY σ σ1 := by
        rw [← hσ1]
        exact ch_tr (cm (sgn_ch _ _ _ _)) (ch_tr (ch_setF _ _ (by simp [FY])) (psd_ch _ _ _))
      have f27 : σ1.1 27 = (if T + 1 - B ≤ 50 ∧ names + d < 10 then i32 0 else i32 1) := by
        rw [← hσ1, psd_1]
        simp only [setF, upd, if_true]
      by_cases hok : T + 1 - B ≤ 50 ∧ names + d < 10
      · rw [if_pos hok] at f27
        have f1 : σ1.1 1 = i32 (T + 1) := by
          rw [← hσ1, psd_1]
          simp only [setF, upd]
          rw [if_neg (by decide)]
          exact sgn_T σ T s B
        have f19 : σ1.1 19 = i32 V := by
          rw [← hσ1, psd_1]
          simp only [setF, upd]
          rw [if_neg (by decide), sgn_1 _ _ _ _ (by decide) (by decide)]; exact y3
        have f21 : σ1.1 21 = i32 E := by
          rw [← hσ1, psd_1]
          simp only [setF, upd]
          rw [if_neg (by decide), sgn_1 _ _ _ _ (by decide) (by decide)]; exact y4
        have fT : σ1.2.1 1 T = i32 s := by
          rw [← hσ1, psd_ne _ _ _ (by decide)]
          exact sgn_at σ T s B
        have g18 : σ1.2.1 18 n = i32 (d + 1) ∧ σ1.2.1 18 (n + 1) = i32 d := by
          rw [← hσ1]
          exact ⟨psd_n _ _ _, psd_s _ _ _⟩
        have glt : ∀ i, i < n → σ1.2.1 18 i = σ.2.1 18 i := by
          intro i hi
          rw [← hσ1, psd_lt _ _ hi]
          show (sgn σ T s B).2.1 18 i = _
          rw [sgn_arr _ _ _ _ (by decide)]
        have nmk : ∀ k, k < 20 → σ1.2.2 k = pk 0 k 0 0 := fun k hk => by rw [kk.1 k (by omega)]; exact y13 k hk
        have hEr := rp_E _ _ y14
        have row : ∀ k, base ≤ k → k < 10 → σ1.2.1 11 (10 * Er + k) = i32 (names + k - base) := fun k h1 h2 => by rw [kk.2.1 _ (by omega)]; exact y15 k h1 h2
        have run := iha Γ N d hWa hen hN hd1 dpa hd2 (p + 1) (n + 1) (G + 1) (T + 1) V E σ1 (by rw [kp_fx kk]; exact hpab.1) (kp_fm kk hf.2.1 (by omega)) (by omega) (by omega) ⟨f27, f1, f19, f21, by omega, by omega, y7, by omega, by omega, by omega, by omega, y12, nmk, rp_kp kk (Nat.le_refl _) (Nat.le_refl _) (by omega) _ _ _ y14, row, g18.2⟩
        by_cases hfa : T + 1 + ln (nft a (nms ρ names d) (names + d)) ≤ B + 50 ∧ dp (nft a (nms ρ names d) (names + d)) (names + d)
        · obtain ⟨F', τ, r1, r2, V', E', r3, r4, r5, r6, r7, r8, r9, r10, r11, r12, r13, r14⟩ := run.1 hfa
          clear run
          have kτ : kp σ τ V E T := kp_tr kk (kp_le r12 (Nat.le_refl _) (Nat.le_refl _) (by omega)) (Nat.le_refl _) (Nat.le_refl _) (Nat.le_refl _)
          have cτ : ch FY AY σ τ := ch_tr cc r13
          have run2 := ihb (Γ ++ [shp a]) (N ++ [shp a]) (d + 1) hWb (by rw [nms_s]; exact enV_nm hen hN hok.2) (by simp [hN]; omega) (by omega) dpb (by omega) (p + 1 + ln a) n F' (T + 1 + ln (nft a (nms ρ names d) (names + d))) V' E' τ (by rw [kp_fx kτ]; exact hpab.2) (kp_fm kτ hf.2.2 (by omega)) (by omega) (by omega) ⟨r3, r4, r6, r7, by omega, by omega, y7, by omega, by omega, by omega, by omega, by omega, fun k hk => by rw [kτ.1 k (by omega)]; exact y13 k hk, rp_kp kτ r8 r10 (by omega) _ _ _ y14, fun k h1 h2 => by rw [kτ.2.1 _ (by omega)]; exact y15 k h1 h2, by rw [r14 n (Nat.lt_succ_self n)]; exact g18.1⟩
          constructor
          · rintro ⟨hfit, hd⟩
            obtain ⟨F2, υ, s1, s2, V2, E2, s3, s4, s5, s6, s7, s8, s9, s10, s11, s12, s13, s14⟩ := run2.1 ⟨by omega, hd.2.2⟩
            refine ⟨F2, υ, by omega, by rw [step, r2, s2, show p + 1 + ln a + ln b = p + (1 + ln a + ln b) by omega], V2, E2, s3, by rw [s4, ln_br]; congr 1; omega, ⟨?_, kp_fm s12 r5 (by omega), s5⟩, s6, s7, by omega, by omega, by omega, by rw [ln_br]; omega, kp_tr kτ (kp_le s12 (Nat.le_refl _) (Nat.le_refl _) (by omega)) r8 r10 (Nat.le_refl _), ch_tr cτ s13, fun i hi => ?_⟩
            · rw [s12.2.2.1 T (by omega), r12.2.2.1 T (by omega)]; exact fT
            · rw [s14 i hi, r14 i (by omega)]; exact glt i hi
          · intro hfit
            obtain ⟨υ, s1, s2, s3, s4⟩ := run2.2 (fun h => hfit ⟨by omega, hfa.2, hok.2, h.2⟩)
            exact ⟨υ, by rw [step, r2, s1], s2, kp_tr kτ (kp_le s3 (Nat.le_refl _) (Nat.le_refl _) (by omega)) r8 r10 (Nat.le_refl _), ch_tr cτ s4⟩
        · constructor
          · rintro ⟨hfit, hd⟩
            exact absurd ⟨by omega, hd.1⟩ hfa
          · intro _
            obtain ⟨τ, r1, r2, r3, r4⟩ := run.2 hfa
            exact ⟨τ, by rw [step, r1], r2, kp_tr kk (kp_le r3 (Nat.le_refl _) (Nat.le_refl _) (by omega)) (Nat.le_refl _) (Nat.le_refl _) (Nat.le_refl _), ch_tr cc r4⟩
      · rw [if_neg hok] at f27
        constructor
        · rintro ⟨hfit, hd⟩
          exact absurd ⟨by omega, hd.2.1⟩ hok
        · intro _
          exact ⟨σ1, by rw [step, ty_big _ _ _ _ _ _ _ _ f27], f27, kk, cc⟩
    · -- a family with an index
      simp only [WT] at hW
      rcases hW with ⟨h1, _⟩ | ⟨h1, h2, h3, I, h4, h5, h6⟩
      · exact absurd (h1.imp_right And.left) hs
      subst h3
      have ent : nft (.branch s a (.leaf 0)) (nms ρ names d) (names + d) = un s (evA a (nms ρ names d)) := by rw [nft, if_neg hs]
      have hpa : ar (fxM σ) s = 1 ∧ pr (fxM σ) a := by
        rcases hp.2.2 with h | h
        · have : ar (fxM σ) s ≤ 1 := by
            unfold ar
            rw [if_neg (by omega), if_neg (by omega)]
            split <;> omega
          omega
        · exact ⟨h.1, h.2.1⟩
      have hla := pr_pos hpa.2
      have hval := (T2 _ _ _ _ _ h6 hen (fun _ => h5)).1 rfl
      have hdat := RV_HT _ _ h5 hval
      have hw0 : wv (evA a (nms ρ names d)) = 0 := wv_HT _ _ _ _ hdat (fun _ => h5)
      have hdpv : dp (evA a (nms ρ names d)) (names + d) := dp_HT _ _ _ _ _ hdat (fun _ => h5)
      rw [ent, show ln (un s (evA a (nms ρ names d))) = 1 + ln (evA a (nms ρ names d)) by rw [un, ln_br, ln_0]; rfl, un, dp_F h1 h2]
      rw [ln_0] at y10 y11 hpB hln ⊢
      obtain ⟨G, rfl⟩ : ∃ G, F = (G + 1) + 1 := ⟨F - 2, by omega⟩
      by_cases h50 : T + 1 - B ≤ 50
      · have ks := sgn_kp σ T s B V E
        have f27 : (sgn σ T s B).1 27 = i32 0 := by rw [sgn_27, bg0 h50]
        have f19 : (sgn σ T s B).1 19 = i32 V := by rw [sgn_1 _ _ _ _ (by decide) (by decide)]; exact y3
        have f21 : (sgn σ T s B).1 21 = i32 E := by rw [sgn_1 _ _ _ _ (by decide) (by decide)]; exact y4
        have rr := rp_nms (rp_kp ks (Nat.le_refl _) (Nat.le_refl _) (Nat.le_refl _) _ _ _ y14) (fun k g1 g2 => by rw [ks.2.1 _ (by have := rp_E _ _ y14; omega)]; rw [hρ] at g1 ⊢; exact y15 k g1 g2) y12 (fun k hk => by rw [ks.1 k (by omega)]; exact y13 k hk) d (by omega) hd1
        obtain ⟨v, τ, V1, E1, w1, w2, w3, w4, w5, w6, w7, w8, w9, w10, w11⟩ := m_works hL h6 (fun _ => h5) (T := T) (by rw [kp_fx ks]; exact hpa.2) (kp_fm ks hf.2.1 (by omega)) (by omega) (by omega) hen rr f19 f21 (by omega) (by omega) (by omega)
        rw [hlen] at w1
        have t1 : τ.1 1 = i32 (T + 1) := by rw [w10.1 1 (by simp)]; exact sgn_T _ _ _ _
        have t27 : τ.1 27 = i32 0 := by rw [w10.1 27 (by simp)]; exact f27
        have kτ : kp σ τ V E T := kp_tr ks w9 (Nat.le_refl _) (Nat.le_refl _) (Nat.le_refl _)
        have cτ : ch FY AY σ τ := ch_tr (cm (sgn_ch _ _ _ _)) (ch_mo w10 (by simp [FY]) (by simp only [AY]; intro k hk; simp at hk ⊢; omega))
        have tT : τ.2.1 1 T = i32 s := by rw [w10.2 1 (by simp)]; exact sgn_at σ T s B
        have t18 : ∀ i, τ.2.1 18 i = σ.2.1 18 i := fun i => by rw [w10.2 18 (by simp), sgn_arr _ _ _ _ (by decide)]
        have tl := m_tells (B := B) (T := T + 1) (E := E1) (q := v) (TN (lev := names + d) _ _ _ _ hdat (fun _ => h5)) (TPre_of (W := wv (evA a (nms ρ names d))) t27 t1 w2 w3 (by omega) (by omega) y7 (by omega) (by omega) (by omega) (by omega) hd1 (by omega) (fun k hk => by rw [kτ.1 k (by omega)]; exact y13 k hk)) (rp_kp (kp_rf τ V1 E1 T) (Nat.le_refl _) (Nat.le_refl _) (by omega) _ _ _ w8)
        constructor
        · rintro ⟨hfit, _⟩
          obtain ⟨υ, r1, V', E', r3, r4, r5, r6, r7, r8, r9, r10, r11, r12, r13, r14⟩ := tl.1 ⟨by omega, hdpv⟩
          refine ⟨G + 1, υ, by omega, ?_, V', E', r3, by rw [r4]; congr 1; rw [ln_br, ln_0]; omega, ⟨?_, r5, fun h => absurd rfl h⟩, r6, r7, by omega, by omega, by omega, by rw [ln_br, ln_0]; omega, kp_tr kτ (kp_le r12 (Nat.le_refl _) (Nat.le_refl _) (by omega)) w4 w6 (Nat.le_refl _), ch_tr cτ (cm r13), fun i _ => ?_⟩
          · rw [ty_fam1 x5 x6 (i32 Er) (by omega) (by omega) y1 y2 (by omega) y5 y16 hf1 ⟨h1, h2⟩ hpa.1 h50 w1 w11 r1, show p + 1 + ln a = p + (1 + ln a + 0) by omega]
          · rw [r12.2.2.1 T (by omega)]; exact tT
          · rw [r13.2 18 (by simp [AT])]; exact t18 i
        · intro hfit
          obtain ⟨υ, r1, r2, r3, r4⟩ := tl.2 (fun h => hfit ⟨by omega, hdpv, trivial⟩)
          refine ⟨υ, ?_, r2, kp_tr kτ (kp_le r3 (Nat.le_refl _) (Nat.le_refl _) (by omega)) w4 w6 (Nat.le_refl _), ch_tr cτ (cm r4)⟩
          rw [ty_fam1 x5 x6 (i32 Er) (by omega) (by omega) y1 y2 (by omega) y5 y16 hf1 ⟨h1, h2⟩ hpa.1 h50 w1 w11 r1, ty_big _ _ _ _ _ _ _ _ r2]
      · have f27 : (sgn σ T s B).1 27 = i32 1 := by rw [sgn_27, bg1 h50]
        constructor
        · rintro ⟨hfit, _⟩
          omega
        · intro _
          refine ⟨sgn σ T s B, ?_, f27, sgn_kp _ _ _ _ _ _, cm (sgn_ch _ _ _ _)⟩
          rw [ty_fam0 _ _ x5 x6 _ (by omega) (by omega) y1 y2 (by omega) y5 y16 hf1 ⟨h1, h2⟩ hpa.1 h50, ty_big _ _ _ _ _ _ _ _ f27]
end MTY
