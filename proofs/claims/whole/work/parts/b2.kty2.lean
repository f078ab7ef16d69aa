section KTY2
theorem type_go {d f : Nat} {a : Int32} {σ τ : CS} (x2 y : Int32) (hf : f_Values_formOf a σ = some (i32 f, σ)) (hp : f_Writer_put (i32 f) σ = some (y, τ)) : (G_Writer (d + 1)).1 a x2 σ = (if (τ.1 44 3) = 0 then (if i32 f = 83 then B_Writer_putType_34 (G_Writer d).1 (G_Writer d).2.1 (G_Writer d).2.2 a x2 τ else (if i32 f = 80 then B_Writer_putType_34 (G_Writer d).1 (G_Writer d).2.1 (G_Writer d).2.2 a x2 τ else (f_Signs_indexTypeOf (i32 f) τ).bind fun q3 => (if q3.1 = (-1) then some (0, q3.2) else (f_Values_leftOf a q3.2).bind fun q4 => (f_Values_rightOf a q4.2).bind fun q5 => (f_Values_evaluate 220 (q4.1 + 1) q5.1 104 q5.2).bind fun q6 => (f_Values_typeAt q3.1 0 q6.2).bind fun q7 => ((G_Writer d).2.1 q7.1 q6.1 x2 q7.2).bind fun q8 => some (0, q8.2)))) else some (0, τ)) := by
  show F_Writer_putType (G_Writer d).1 (G_Writer d).2.1 (G_Writer d).2.2 _ _ _ = _
  unfold F_Writer_putType B_Writer_putType_153
  rw [hf, Option.bind_some]
  dsimp only
  rw [hp, Option.bind_some]
/-- a type node of which the shape is known, whole -/
theorem k_formOfK {σ : CS} {V T v : Nat} {A : Tr} {ρ : List Tr} (hT : σ.1 34 1 = i32 T) (hT2 : T ≤ 3600) (hV : σ.1 38 4 = i32 V) (hV2 : V ≤ 3072) (h : tyK σ V T A ρ v) : f_Values_formOf (i32 v) σ = some (i32 (hdr A), σ) ∧ hdr A < 128 := by
  have := k_formOf hT hT2 hV hV2 (tyK_S h)
  rw [shp_hs] at this
  exact this
def TRunK (σ : CS) (V T B n w : Nat) (t : Tr) (f : Option (Int32 × CS)) : Prop := (T + ln t ≤ B + 50 ∧ dp t n → ∃ τ V', f = some (0, τ) ∧ WOk σ τ V T (w + 5 * ln t) n t V') ∧ (¬ (T + ln t ≤ B + 50 ∧ dp t n) → ∃ τ, f = some (0, τ) ∧ WBig σ τ V T B (w + 5 * (51 - (T - B))) n)
/-- a type is written -/
theorem k_putType {L : Lw} (hlw : lwOK L) : ∀ (A : Tr) (Γ ρ N : List Tr) (n : Nat), WT L A Γ → enV L N ρ Γ → N.length = n → dp A ρ.length → ρ.length ≤ 10 → ln A ≤ 50 → ∀ (d V T B v : Nat) (σ : CS), WP L N σ V T B → V + 26 * ln A + 5 * (51 - (T - B)) ≤ 3072 → 2 * (51 - (T - B)) + 1 ≤ d → tyK σ V T A ρ v → TRunK σ V T B n (26 * ln A) (nft A ρ n) ((G_Writer d).1 (i32 v) (i32 n) σ) := by
  have hl3 := hlw.1
  have hL := hlw.2.1
  intro A
  induction A with
  | leaf s =>
    intro Γ ρ N n hA hen hN hdp hρ hl d V T B v σ hW hb hd ht
    have hW' := hW
    obtain ⟨w1, w2, w3, w4, w5, w6, w7, w8, w9, w10, w11, w12⟩ := hW
    obtain ⟨d, rfl⟩ : ∃ k, d = k + 1 := ⟨d - 1, by omega⟩
    obtain ⟨e1, e2⟩ := k_formOfK w2 (by omega) w6 w8 ht
    have hs : s = 49 ∨ (65 ≤ s ∧ L.1[s - 65]? = some none) := hA
    have hs2 : s ≠ 0 ∧ s < 128 ∧ s ≠ 83 ∧ s ≠ 80 := by
      rcases hs with h | ⟨h1, h2⟩
      · omega
      · have := (List.getElem?_eq_some_iff.mp h2).1
        omega
    have hen : nft (.leaf s) ρ n = .leaf s := rfl
    rw [hen]
    rw [show hdr (.leaf s) = s from rfl] at e1
    unfold TRunK
    have l1 : ln (.leaf s) = 1 := ln_leaf hs2.1
    by_cases hT : T < B + 50
    · refine ⟨fun _ => ?_, fun h => absurd ⟨by rw [l1]; omega, trivial⟩ h⟩
      have hgo := type_go (d := d) (i32 n) _ e1 (k_put1 hW' (by omega) hs2.1 hT)
      have hPw := WP_pw hW' hT s
      rw [if_pos (show (pw σ T s).1 44 3 = 0 from hPw.2.2.2.2.2.2.2.2.2.1), if_neg (show ¬ (i32 s = 83) from c_eq (b := 83) hs2.2.2.1 (by omega) (by omega)), if_neg (show ¬ (i32 s = 80) from c_eq (b := 80) hs2.2.2.2 (by omega) (by omega)), k_indexNo hl3 hPw.1 (by omega) (by
        rcases hs with h | ⟨h1, h2⟩
        · exact Or.inl (by omega)
        · exact Or.inr h2), Option.bind_some] at hgo
      dsimp only at hgo
      rw [if_pos rfl] at hgo
      exact ⟨_, V, hgo, hPw.2.2.2.2.2.1, Nat.le_refl _, by omega, by rw [l1]; exact pw_341 _ _ _, fun _ => pw_35 _ _ _, hPw.2.2.2.2.2.2.2.2.2.1, pw_WF _ _ _ _ _⟩
    · refine ⟨fun h => absurd h.1 (by rw [l1]; omega), fun _ => ?_⟩
      have hgo := type_go (d := d) (i32 n) _ e1 (k_put0 _ hW' (by omega))
      have hB := tl_Big hW' n
      rw [if_neg (tl_ne hB)] at hgo
      exact ⟨_, hgo, WBig_c hB (by omega)⟩
  | branch c a b iha ihb =>
    intro Γ ρ N n hA hen hN hdp hρ hl d V T B v σ hW hb hd ht
    have hW' := hW
    obtain ⟨w1, w2, w3, w4, w5, w6, w7, w8, w9, w10, w11, w12⟩ := hW
    obtain ⟨d, rfl⟩ : ∃ k, d = k + 1 + 1 := ⟨d - 2, by omega⟩
    obtain ⟨e1, e2⟩ := k_formOfK w2 (by omega) w6 w8 ht
    rw [show hdr (.branch c a b) = c from rfl] at e1 e2
    have hlb := ln_br c a b
    by_cases hc : c = 83 ∨ c = 80
    · -- pairs and functions
      obtain ⟨hd3, hWa, hWb⟩ := WT_SP hA hc
      obtain ⟨hda, hρ10, hdb⟩ := (dp_SP hc).mp hdp
      have en : nft (.branch c a b) ρ n = .branch c (nft a ρ n) (nft b (ρ ++ [nm n]) (n + 1)) := by simp only [nft]; rw [if_pos hc]
      rw [en]
      have ln2 := ln_br c (nft a ρ n) (nft b (ρ ++ [nm n]) (n + 1))
      have dp2 := dp_SP (s := c) (a := nft a ρ n) (b := nft b (ρ ++ [nm n]) (n + 1)) (n := n) hc
      unfold TRunK
      rw [ln2, dp2]
      by_cases hT : T < B + 50
      · have hgo := type_go (d := d + 1) (i32 n) _ e1 (k_put1 hW' (by omega) (by omega) hT)
        have hPw := WP_pw hW' hT c
        have hgo2 : (G_Writer (d + 1 + 1)).1 (i32 v) (i32 n) σ = B_Writer_putType_34 (G_Writer (d + 1)).1 (G_Writer (d + 1)).2.1 (G_Writer (d + 1)).2.2 (i32 v) (i32 n) (pw σ T c) := by
          rw [hgo, if_pos (show (pw σ T c).1 44 3 = 0 from hPw.2.2.2.2.2.2.2.2.2.1)]
          rcases hc with rfl | rfl
          · rw [if_pos (show i32 83 = 83 from rfl)]
          · rw [if_neg (show ¬ (i32 80 = 83) from by decide), if_pos (show i32 80 = 80 from rfl)]
        clear hgo
        unfold B_Writer_putType_34 B_Writer_putType_86 at hgo2
        have hf := pw_WF σ T c V n
        have htu := tyK_kp hf.1 (WF_fx hf) (Nat.le_refl V) (show T ≤ T + 1 by omega) ht
        obtain ⟨l, r, f1, f2⟩ := k_firstTypeK hc hPw.2.2.2.2.2.1 w7 (by omega) htu
        rw [f1, Option.bind_some] at hgo2
        dsimp only at hgo2
        have cM := mkn_ch (A := AV) (pw σ T c) V 10 l r (fun _ h => h)
        have kM := mkn_kp (pw σ T c) V 10 l r (T + 1)
        have hf1 : WF (pw σ T c) (mkn (pw σ T c) V 10 l r) V (T + 1) n := WF_AV kM cM
        have hP1 : WP L N (mkn (pw σ T c) V 10 l r) (V + 1) (T + 1) B := WP_go hPw hf1 (by omega) (by rw [cM.2.1 34 (by decide)]; exact pw_341 _ _ _) (Nat.le_refl _) (by omega) (mkn_V _ _ _ _ _) (by omega) (by omega) (by rw [cM.2.1 44 (by decide)]; exact hPw.2.2.2.2.2.2.2.2.2.1)
        have h01 := WF_tr hf hf1 (Nat.le_refl _) (by omega) (Nat.le_refl _)
        have htm := tyK_kp hf1.1 (WF_fx hf1) (show V ≤ V + 1 by omega) (Nat.le_refl _) htu
        have hT0 : (mkn (pw σ T c) V 10 l r).1 35 T = i32 c := by rw [cM.2.1 35 (by decide)]; exact pw_35 _ _ _
        generalize mkn (pw σ T c) V 10 l r = τ1 at hgo2 hP1 h01 htm f2 hT0
        have run1 := iha Γ ρ N n hWa hen hN hda hρ (by omega) (d + 1) (V + 1) (T + 1) B V τ1 hP1 (by omega) (by omega) f2
        by_cases hc1 : T + 1 + ln (nft a ρ n) ≤ B + 50 ∧ dp (nft a ρ n) n
        · obtain ⟨υ, V2, r1, ⟨r2, r3, r4, r5, r6, r7, r8⟩⟩ := run1.1 hc1
          rw [r1, Option.bind_some] at hgo2
          dsimp only at hgo2
          have hP2 := WP_go hP1 r8 (by omega) r5 (by omega) hc1.1 r2 r3 (by omega) r7
          have htu2 := tyK_kp r8.1 (WF_fx r8) r3 (show T + 1 ≤ T + 1 + ln (nft a ρ n) by omega) htm
          obtain ⟨l2, x2, g1, g2⟩ := k_firstTypeK hc r2 (by omega) (by omega) htu2
          rw [g1, Option.bind_some] at hgo2
          dsimp only at hgo2
          have cN := mkn_ch (A := AV) υ V2 10 l2 x2 (fun _ h => h)
          have kN := mkn_kp υ V2 10 l2 x2 (T + 1 + ln (nft a ρ n))
          have hf2 : WF υ (mkn υ V2 10 l2 x2) V2 (T + 1 + ln (nft a ρ n)) n := WF_AV kN cN
          have hP3 : WP L N (mkn υ V2 10 l2 x2) (V2 + 1) (T + 1 + ln (nft a ρ n)) B := WP_go hP2 hf2 (by omega) (by rw [cN.2.1 34 (by decide)]; exact r5) (Nat.le_refl _) hc1.1 (mkn_V _ _ _ _ _) (by omega) (by omega) (by rw [cN.2.1 44 (by decide)]; exact r7)
          have h02 := WF_tr (WF_tr h01 r8 (show V ≤ V + 1 by omega) (show T ≤ T + 1 by omega) (Nat.le_refl _)) hf2 (show V ≤ V2 by omega) (show T ≤ T + 1 + ln (nft a ρ n) by omega) (Nat.le_refl _)
          have htm2 := tyK_kp hf2.1 (WF_fx hf2) (show V2 ≤ V2 + 1 by omega) (Nat.le_refl _) htu2
          have hTa : (mkn υ V2 10 l2 x2).1 35 T = i32 c := by rw [cN.2.1 35 (by decide), r8.1.2 T (by omega)]; exact hT0
          have hfa : fm ((mkn υ V2 10 l2 x2).1 35) (nft a ρ n) (T + 1) := by rw [cN.2.1 35 (by decide)]; exact r6
          generalize mkn υ V2 10 l2 x2 = τ3 at hgo2 hP3 h02 htm2 hTa hfa g2
          by_cases h10 : n < 10
          · obtain ⟨hP4, hf3⟩ := WP_snoc hP3 hN h10 (tyK_S g2) (by omega)
            rw [k_bound (i32 V2) h10 hP3.2.2.2.2.2.1 (by omega) (by omega), Option.bind_some] at hgo2
            dsimp only at hgo2
            have hnv : rpK (mkn (sI τ3 42 n (i32 V2)) (V2 + 1) 1 (i32 n) 0) (V2 + 1 + 1) (T + 1 + ln (nft a ρ n)) false (nm n) (V2 + 1) := ⟨by omega, by omega, Or.inl ⟨by omega, by omega, mkn_39 _ _ _ _ _, by rw [show 48 + n - 48 = n by omega]; exact mkn_40 _ _ _ _ _⟩⟩
            have htm3 := tyK_kp hf3.1 (WF_fx hf3) (show V2 + 1 ≤ V2 + 1 + 1 by omega) (Nat.le_refl _) htm2
            have h03 := WF_tr h02 hf3 (show V ≤ V2 + 1 by omega) (show T ≤ T + 1 + ln (nft a ρ n) by omega) (Nat.le_refl _)
            have hTb : (mkn (sI τ3 42 n (i32 V2)) (V2 + 1) 1 (i32 n) 0).1 35 T = i32 c := by rw [hf3.1.2 T (by omega)]; exact hTa
            have hfb : fm ((mkn (sI τ3 42 n (i32 V2)) (V2 + 1) 1 (i32 n) 0).1 35) (nft a ρ n) (T + 1) := kK_fm hf3.1 hfa (by omega)
            generalize mkn (sI τ3 42 n (i32 V2)) (V2 + 1) 1 (i32 n) 0 = τ4 at hgo2 hP4 hnv htm3 h03 hTb hfb
            rw [if_pos (show τ4.1 44 3 = 0 from hP4.2.2.2.2.2.2.2.2.2.1)] at hgo2
            obtain ⟨r', l', s1, s2⟩ := k_secondTypeK hc hP4.2.1 (by omega) hP4.2.2.2.2.2.1 (by omega) (by omega) htm3 hnv hρ10
            rw [s1, Option.bind_some] at hgo2
            dsimp only at hgo2
            have cM1 := mkn_ch (A := AV) τ4 (V2 + 1 + 1) 9 (i32 (V2 + 1)) r' (fun _ h => h)
            have kM1 := mkn_kp τ4 (V2 + 1 + 1) 9 (i32 (V2 + 1)) r' (T + 1 + ln (nft a ρ n))
            have cM2 := mkn_ch (A := AV) (mkn τ4 (V2 + 1 + 1) 9 (i32 (V2 + 1)) r') (V2 + 1 + 1 + 1) 10 l' (i32 (V2 + 1 + 1)) (fun _ h => h)
            have kM2 := mkn_kp (mkn τ4 (V2 + 1 + 1) 9 (i32 (V2 + 1)) r') (V2 + 1 + 1 + 1) 10 l' (i32 (V2 + 1 + 1)) (T + 1 + ln (nft a ρ n))
            have kk2 := kK_tr kM1 kM2 (by omega) (Nat.le_refl _)
            have cc2 := cK_tr cM1 cM2
            have vv2 : (mkn (mkn τ4 (V2 + 1 + 1) 9 (i32 (V2 + 1)) r') (V2 + 1 + 1 + 1) 10 l' (i32 (V2 + 1 + 1))).1 38 4 = i32 (V2 + 4) := mkn_V _ _ _ _ _
            generalize mkn (mkn τ4 (V2 + 1 + 1) 9 (i32 (V2 + 1)) r') (V2 + 1 + 1 + 1) 10 l' (i32 (V2 + 1 + 1)) = τ5 at hgo2 kk2 cc2 vv2 s2
            have hf5 : WF τ4 τ5 (V2 + 1 + 1) (T + 1 + ln (nft a ρ n)) (n + 1) := WF_AV kk2 cc2
            have hP5 : WP L (N ++ [shp a]) τ5 (V2 + 4) (T + 1 + ln (nft a ρ n)) B := WP_go hP4 hf5 (by simp; omega) (by rw [cc2.2.1 34 (by decide)]; exact hP4.2.1) (Nat.le_refl _) hc1.1 vv2 (by omega) (by omega) (by rw [cc2.2.1 44 (by decide)]; exact hP4.2.2.2.2.2.2.2.2.2.1)
            have h05 : WF σ τ5 V T n := WF_tr h03 hf5 (by omega) (by omega) (by omega)
            rw [show i32 n + 1 = i32 (n + 1) from by rw [z1, z_add]] at hgo2
            have run2 := ihb (Γ ++ [shp a]) (ρ ++ [nm n]) (N ++ [shp a]) (n + 1) hWb (enV_nm hen hN h10) (by simp [hN]) (by simpa using hdb) (by simp; omega) (by omega) (d + 1) (V2 + 4) (T + 1 + ln (nft a ρ n)) B (V2 + 1 + 1 + 1) τ5 hP5 (by omega) (by omega) s2
            constructor
            · intro hT3
              obtain ⟨ω, V4, q1, ⟨q2, q3, q4, q5, q6, q7, q8⟩⟩ := run2.1 ⟨by omega, hT3.2.2.2⟩
              rw [q1, Option.bind_some] at hgo2
              refine ⟨ω, V4, hgo2, q2, by omega, by omega, by rw [q5, ln2]; congr 1; omega, ⟨?_, ?_, q6⟩, q7, WF_tr h05 q8 (by omega) (by omega) (by omega)⟩
              · rw [q8.1.2 T (by omega), hf5.1.2 T (by omega)]; exact hTb
              · exact kK_fm q8.1 (kK_fm hf5.1 hfb (by omega)) (by omega)
            · intro hT3
              obtain ⟨ω, q1, q2⟩ := run2.2 (fun h => hT3 ⟨by omega, hc1.2, h10, h.2⟩)
              rw [q1, Option.bind_some] at hgo2
              exact ⟨ω, hgo2, WBig_tr h05 (by omega) (by omega) (by omega) (by omega) q2⟩
          · refine ⟨fun h => absurd h.2.2.1 h10, fun _ => ?_⟩
            rw [k_bound10 (i32 V2) (by omega), Option.bind_some] at hgo2
            dsimp only at hgo2
            have hB := tl_Big hP3 n
            rw [if_neg (tl_ne hB)] at hgo2
            exact ⟨_, hgo2, WBig_tr h02 (by omega) (by omega) (Nat.le_refl _) (by omega) hB⟩
        · refine ⟨fun h => absurd ⟨by omega, h.2.1⟩ hc1, fun _ => ?_⟩
          obtain ⟨υ, r1, r2⟩ := run1.2 hc1
          rw [r1, Option.bind_some] at hgo2
          dsimp only at hgo2
          obtain ⟨V2, u1, u2, u3, T2, s1, s2⟩ := WBig_V r2 (by omega) (by omega)
          obtain ⟨z, υ2, g3, g4⟩ := k_firstTypeT u1 u2 u3 (i32 v)
          rw [g3, Option.bind_some] at hgo2
          dsimp only at hgo2
          have B2 := Big_step r2 (by omega) u1 u3 g4
          obtain ⟨z2, υ3, g5, g6⟩ := k_boundT z B2 (by omega) (by omega) (by omega)
          rw [g5, Option.bind_some] at hgo2
          dsimp only at hgo2
          rw [if_neg (tl_ne g6)] at hgo2
          exact ⟨υ3, hgo2, WBig_tr h01 (by omega) (by omega) (Nat.le_refl _) (by omega) g6⟩
      · refine ⟨fun h => absurd h.1 (by omega), fun _ => ?_⟩
        have hgo := type_go (d := d + 1) (i32 n) _ e1 (k_put0 _ hW' (by omega))
        have hB := tl_Big hW' n
        rw [if_neg (tl_ne hB)] at hgo
        exact ⟨_, hgo, WBig_c hB (by omega)⟩
    · -- a family with its index
      obtain ⟨h1, h2, hb0, I, h3, h4, h5⟩ : 65 ≤ c ∧ c ≤ 67 ∧ b = .leaf 0 ∧ ∃ I, L.1[c - 65]? = some (some I) ∧ dta (shp I) ∧ HT L a Γ true (shp I) := by
        rcases hA with ⟨h, _⟩ | h
        · exfalso
          rcases h with h | ⟨h, _⟩
          · exact hc (Or.inl h)
          · exact hc (Or.inr h)
        · exact h
      subst hb0
      rw [ln_0] at hlb
      have en : nft (.branch c a (.leaf 0)) ρ n = un c (evA a ρ) := by simp only [nft]; rw [if_neg hc]
      rw [en]
      have ln2 : ln (un c (evA a ρ)) = 1 + ln (evA a ρ) := by
        show ln (.branch c (evA a ρ) (.leaf 0)) = _
        rw [ln_br, ln_0, Nat.add_zero]
      have hev := (T2 _ _ _ _ _ h5 hen (fun _ => h4)).1 rfl
      have hHT := RV_HT _ _ h4 hev
      have hdp2 : dp (un c (evA a ρ)) n := (dp_F h1 h2).mpr ⟨dp_HT _ _ _ _ n hHT (fun _ => h4), trivial⟩
      unfold TRunK
      rw [ln2]
      by_cases hT : T < B + 50
      · have hgo := type_go (d := d + 1) (i32 n) _ e1 (k_put1 hW' (by omega) (by omega) hT)
        have hPw := WP_pw hW' hT c
        obtain ⟨q, i1, i2, i3, i4⟩ := k_indexYes hl3 hPw.1 h1 h3
        rw [if_pos (show (pw σ T c).1 44 3 = 0 from hPw.2.2.2.2.2.2.2.2.2.1), if_neg (show ¬ (i32 c = 83) from c_eq (b := 83) (by omega) (by omega) (by omega)), if_neg (show ¬ (i32 c = 80) from c_eq (b := 80) (by omega) (by omega) (by omega)), i1, Option.bind_some] at hgo
        dsimp only at hgo
        rw [if_neg (i_ne1 (a := q) (by omega))] at hgo
        have hf := pw_WF σ T c V n
        have htu := tyK_kp hf.1 (WF_fx hf) (Nat.le_refl V) (show T ≤ T + 1 by omega) ht
        obtain ⟨a1, a2, a3, p, e, a4, a5, a6, a7, a8, a9⟩ := htu
        rw [k_leftOf hPw.2.2.2.2.2.1 a1 a2 w8, Option.bind_some] at hgo
        dsimp only at hgo
        rw [k_rightOf hPw.2.2.2.2.2.1 a1 a2 w8, Option.bind_some] at hgo
        dsimp only at hgo
        rw [a4, a5, show i32 p + 1 = i32 (p + 1) from by rw [z1, z_add], eval220] at hgo
        have pra : pr (fxK (pw σ T c)) a := by
          rcases a8.2.2 with ⟨_, x, _⟩ | ⟨_, x, _⟩
          · exact x
          · exact x
        obtain ⟨w, τ, V1, k1, k2, k3, k4⟩ := k_evA hL a Γ true (shp I) h5 (fun _ => h4) 220 104 (p + 1) V (T + 1) e ρ (pw σ T c) pra a6.2.1 (by omega) (WP_EvP hPw) hen a9 (by omega) (by omega) (by omega) (by omega) (by omega)
        rw [show (104 : Int32) = i32 104 from rfl, k1, Option.bind_some] at hgo
        dsimp only at hgo
        have hV1 := k2.2.1
        unfold f_Values_typeAt at hgo
        rw [obid, k_make _ _ _ k2.1 (by omega) (by omega), Option.bind_some] at hgo
        dsimp only at hgo
        have cM := mkn_ch (A := AV) τ V1 10 (i32 q) 0 (fun _ h => h)
        have kM := mkn_kp τ V1 10 (i32 q) 0 (T + 1)
        have kk := kK_tr k2.2.2.2.1 kM hV1 (Nat.le_refl _)
        have cc := cK_tr k2.2.2.2.2 cM
        have hf1 : WF (pw σ T c) (mkn τ V1 10 (i32 q) 0) V (T + 1) n := WF_AV kk cc
        have hP1 : WP L N (mkn τ V1 10 (i32 q) 0) (V1 + 1) (T + 1) B := WP_go hPw hf1 (by omega) (by rw [cc.2.1 34 (by decide)]; exact pw_341 _ _ _) (Nat.le_refl _) (by omega) (mkn_V _ _ _ _ _) (by omega) (by omega) (by rw [cc.2.1 44 (by decide)]; exact hPw.2.2.2.2.2.2.2.2.2.1)
        have h01 := WF_tr hf hf1 (Nat.le_refl _) (by omega) (Nat.le_refl _)
        have hti : tyS (mkn τ V1 10 (i32 q) 0) (V1 + 1) (T + 1) (shp I) V1 := ⟨by omega, by omega, mkn_39 _ _ _ _ _, q, I, mkn_40 _ _ _ _ _, kK_fm kk i2 (by omega), by omega, by rw [cK_fx cc n36V]; exact i4, rfl⟩
        have hrw : rpK (mkn τ V1 10 (i32 q) 0) (V1 + 1) (T + 1) false (evA a ρ) w := mk_rp _ _ _ k2.2.2.1
        have hT0 : (mkn τ V1 10 (i32 q) 0).1 35 T = i32 c := by rw [cc.2.1 35 (by decide)]; exact pw_35 _ _ _
        generalize mkn τ V1 10 (i32 q) 0 = τ1 at hgo hP1 h01 hti hrw hT0
        have run := (k_AB hL (evA a ρ)).2 N (shp I) n hHT h4 hN (d + 1) (V1 + 1) (T + 1) B V1 w τ1 hP1 (by omega) (by omega) hti (Or.inl hrw)
        have hde := dp_HT _ _ _ _ n hHT (fun _ => h4)
        constructor
        · intro hT3
          obtain ⟨ω, V4, q1, ⟨q2, q3, q4, q5, q6, q7, q8⟩⟩ := run.1 ⟨by omega, hde⟩
          rw [q1, Option.bind_some] at hgo
          refine ⟨ω, V4, hgo, q2, by omega, by omega, by rw [q5, ln2]; congr 1; omega, ⟨?_, q6, fun h => absurd rfl h⟩, q7, WF_tr h01 q8 (by omega) (by omega) (by omega)⟩
          rw [q8.1.2 T (by omega)]; exact hT0
        · intro hT3
          obtain ⟨ω, q1, q2⟩ := run.2 (fun h => hT3 ⟨by omega, hdp2⟩)
          rw [q1, Option.bind_some] at hgo
          exact ⟨ω, hgo, WBig_tr h01 (by omega) (by omega) (by omega) (by omega) q2⟩
      · refine ⟨fun h => absurd h.1 (by omega), fun _ => ?_⟩
        have hgo := type_go (d := d + 1) (i32 n) _ e1 (k_put0 _ hW' (by omega))
        have hB := tl_Big hW' n
        rw [if_neg (tl_ne hB)] at hgo
        exact ⟨_, hgo, WBig_c hB (by omega)⟩
end KTY2
