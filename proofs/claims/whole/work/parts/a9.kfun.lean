section KFUN
/-- a name is brought in force for writing -/
theorem k_bound {σ : CS} {V n : Nat} (x : Int32) (hn : n < 10) (hV : σ.1 38 4 = i32 V) (h1 : 1 ≤ V) (hV2 : V < 3072) : f_Writer_bound x (i32 n) σ = some (i32 V, mkn (sI σ 42 n x) V 1 (i32 n) 0) := by
  have hV' : (sI σ 42 n x).1 38 4 = i32 V := by rw [sI_ne _ _ (Or.inl (by decide))]; exact hV
  unfold f_Writer_bound B_Writer_bound_11 f_Values_newVariable
  rw [if_pos (show i32 n < 10 from by rw [show (10 : Int32) = i32 10 from rfl, z_lt (by omega) (by omega)]; exact hn), obid, if_neg (show ¬ (i32 n < 0) from by rw [show (0 : Int32) = i32 0 from rfl, z_lt (by omega) (by omega)]; omega), if_pos (show i32 n < 10 from by rw [show (10 : Int32) = i32 10 from rfl, z_lt (by omega) (by omega)]; exact hn), if_pos (show ix (i32 n) (lS 42) = true from c_ix (show n < lS 42 from hn) (by omega)), z_nn (by omega), obid, k_make _ _ _ hV' h1 hV2]
theorem k_bound10 {σ : CS} {n : Nat} (x : Int32) (hn : n = 10) : f_Writer_bound x (i32 n) σ = some (0, sI σ 44 3 1) := by
  subst hn
  rfl
theorem WBig_42 {σ τ : CS} {V T B c n : Nat} (x : Int32) (h : WBig σ τ V T B c n) : WBig σ (sI τ 42 n x) V T B c n := by
  obtain ⟨V', T', a1, a2, a3, a4, a5, a6, a7, a8⟩ := h
  refine ⟨V', T', by rw [sI_ne _ _ (Or.inl (by decide))]; exact a1, a2, a3, by rw [sI_ne _ _ (Or.inl (by decide))]; exact a4, a5, a6, by rw [sI_ne _ _ (Or.inl (by decide))]; exact a7, WF_tr a8 (V' := V) (T' := T) (n' := n) ⟨⟨fun i _ => ⟨sI_ne _ _ (Or.inl (by decide)), sI_ne _ _ (Or.inl (by decide)), sI_ne _ _ (Or.inl (by decide))⟩, fun i _ => sI_ne _ _ (Or.inl (by decide))⟩, cK_sI τ x (by decide) (by omega) (by omega), sI_ne _ _ (Or.inl (by decide)), fun k hk => sI_ne _ _ (Or.inr (by omega))⟩ (Nat.le_refl _) (Nat.le_refl _) (Nat.le_refl _)⟩
theorem WBig_44 {σ τ : CS} {V T B c n : Nat} (h : WBig σ τ V T B c n) : WBig σ (sI τ 44 3 1) V T B c n := by
  obtain ⟨V', T', a1, a2, a3, a4, a5, a6, a7, a8⟩ := h
  exact ⟨V', T', by rw [sI_ne _ _ (Or.inl (by decide))]; exact a1, a2, a3, by rw [sI_ne _ _ (Or.inl (by decide))]; exact a4, a5, a6, sI_at _ _ _ _, WF_tr a8 (tl_WF τ V T n) (Nat.le_refl _) (Nat.le_refl _) (Nat.le_refl _)⟩
theorem k_boundT {σ τ : CS} {V T B c n : Nat} (x : Int32) (h : WBig σ τ V T B c n) (h1 : 1 ≤ V) (hc : V + c ≤ 3072) (hn : n ≤ 10) : ∃ y υ, f_Writer_bound x (i32 n) τ = some (y, υ) ∧ WBig σ υ V T B (c + 1) n := by
  by_cases h10 : n < 10
  · obtain ⟨V', v1, v2, v3, T', t1, t2⟩ := WBig_V h h1 hc
    have hV' : (sI τ 42 n x).1 38 4 = i32 V' := by rw [sI_ne _ _ (Or.inl (by decide))]; exact v1
    obtain ⟨y, υ, e, j⟩ := k_makeT 1 (i32 n) 0 hV' v2 v3
    refine ⟨y, υ, ?_, Big_step (WBig_42 x h) hc hV' v3 j⟩
    unfold f_Writer_bound B_Writer_bound_11 f_Values_newVariable
    rw [if_pos (show i32 n < 10 from by rw [show (10 : Int32) = i32 10 from rfl, z_lt (by omega) (by omega)]; exact h10), obid, if_neg (show ¬ (i32 n < 0) from by rw [show (0 : Int32) = i32 0 from rfl, z_lt (by omega) (by omega)]; omega), if_pos (show i32 n < 10 from by rw [show (10 : Int32) = i32 10 from rfl, z_lt (by omega) (by omega)]; exact h10), if_pos (show ix (i32 n) (lS 42) = true from c_ix (show n < lS 42 from h10) (by omega)), z_nn (by omega), obid, e]
  · exact ⟨0, _, k_bound10 x (by omega), WBig_c (WBig_44 h) (by omega)⟩
/-- one name more -/
theorem WP_snoc {L : Lw} {N : List Tr} {σ : CS} {V T B n q : Nat} {x : Tr} (h : WP L N σ V T B) (hN : N.length = n) (hn : n < 10) (hq : tyS σ V T x q) (hV2 : V < 3072) : WP L (N ++ [x]) (mkn (sI σ 42 n (i32 q)) V 1 (i32 n) 0) (V + 1) T B ∧ WF σ (mkn (sI σ 42 n (i32 q)) V 1 (i32 n) 0) V T n := by
  have f1 : WF σ (sI σ 42 n (i32 q)) V T n := ⟨⟨fun i _ => ⟨sI_ne _ _ (Or.inl (by decide)), sI_ne _ _ (Or.inl (by decide)), sI_ne _ _ (Or.inl (by decide))⟩, fun i _ => sI_ne _ _ (Or.inl (by decide))⟩, cK_sI σ _ (by decide) (by omega) (by omega), sI_ne _ _ (Or.inl (by decide)), fun k hk => sI_ne _ _ (Or.inr (by omega))⟩
  have cM := mkn_ch (A := AV) (sI σ 42 n (i32 q)) V 1 (i32 n) 0 (fun _ h => h)
  have kM := mkn_kp (sI σ 42 n (i32 q)) V 1 (i32 n) 0 T
  have f2 : WF (sI σ 42 n (i32 q)) (mkn (sI σ 42 n (i32 q)) V 1 (i32 n) 0) V T n := WF_AV kM cM
  have ff := WF_tr f1 f2 (Nat.le_refl _) (Nat.le_refl _) (Nat.le_refl _)
  have o : ∀ j k, j ≠ 38 → j ≠ 39 → j ≠ 40 → j ≠ 41 → j ≠ 42 → (mkn (sI σ 42 n (i32 q)) V 1 (i32 n) 0).1 j k = σ.1 j k := fun j k h1 h2 h3 h4 h5 => by
    rw [cM.2.1 j (by simp [AV]; omega)]
    exact sI_ne _ _ (Or.inl h5)
  have g := WP_go (V' := V + 1) h ff (by omega) (by rw [o 34 1 (by decide) (by decide) (by decide) (by decide) (by decide)]; exact h.2.1) (Nat.le_refl _) h.2.2.2.1 (mkn_V _ _ _ _ _) (by omega) (by omega) (by rw [o 44 3 (by decide) (by decide) (by decide) (by decide) (by decide)]; exact h.2.2.2.2.2.2.2.2.2.1)
  refine ⟨?_, ff⟩
  obtain ⟨a1, a2, a3, a4, a5, a6, a7, a8, a9, a10, a11, a12⟩ := g
  refine ⟨a1, a2, a3, a4, a5, a6, a7, a8, a9, a10, by simp; omega, fun k y hk => ?_⟩
  by_cases hl : k < N.length
  · rw [List.getElem?_append_left hl] at hk
    exact a12 k y hk
  · have := (List.getElem?_eq_some_iff.mp hk).1
    simp at this
    obtain rfl : k = n := by omega
    rw [← hN] at hk
    simp at hk
    subst hk
    refine ⟨q, ?_, tyS_kp ff.1 (WF_fx ff) (by omega) (Nat.le_refl _) hq⟩
    rw [cM.2.1 42 (by decide)]
    exact sI_at _ _ _ _
/-- a place of a function type -/
theorem Wr_fun {L : Lw} {N : List Tr} {n : Nat} {x y : Tr} {P P2 : CS → Nat → Nat → Nat → Prop} {t2 : Tr} {w w2 : Nat} (hN : N.length = n)
    (hP : ∀ (σ τ : CS) (V T V' T' v : Nat), kpK σ τ V T → fxK τ = fxK σ → V ≤ V' → T ≤ T' → P σ V T v → P τ V' T' v)
    (hP2 : ∀ (σ τ : CS) (V T V' T' v : Nat), kpK σ τ V T → fxK τ = fxK σ → V ≤ V' → T ≤ T' → P2 σ V T v → P2 τ V' T' v)
    (hap : n < 10 → ∀ (σ : CS) (V T v q : Nat), EvP σ V T L.2.length → P σ V T v → 1 ≤ q → q < V → σ.1 39 q = i32 1 → σ.1 40 q = i32 n → V + 1 + w ≤ 3072 → ∃ r τ V', f_Values_apply 220 (i32 v) (i32 q) 104 σ = some (i32 r, τ) ∧ τ.1 38 4 = i32 V' ∧ V ≤ V' ∧ V' + w2 ≤ V + 1 + w ∧ P2 τ V' T r ∧ kpK σ τ V T ∧ chK AV σ τ)
    (h2 : n < 10 → Wr L (N ++ [x]) y (n + 1) P2 t2 w2) : Wr L N (.branch 80 x y) n P (un 92 t2) w := by
  intro d V T B a v σ hW hb hd ht hr
  have hW' := hW
  obtain ⟨w1', w2', w3, w4, w5, w6, w7, w8, w9, w10, w11, w12⟩ := hW
  obtain ⟨d, rfl⟩ : ∃ k, d = k + 1 + 1 := ⟨d - 2, by omega⟩
  have hgo := term_go (d := d + 1) (i32 v) (i32 n) w10 (k_formOf w2' (by omega) w6 w8 ht).1
  rw [show hs (.branch 80 x y) = 80 from rfl, if_neg (show ¬ (i32 80 = 49) from by decide), if_pos (show i32 80 = 80 from rfl)] at hgo
  have hln : ln (un 92 t2) = 1 + ln t2 := by
    show ln (.branch 92 t2 (.leaf 0)) = _
    rw [ln_br, ln_0, Nat.add_zero]
  rw [hln]
  have hdpp : dp (un 92 t2) n = (n < 10 ∧ dp t2 (n + 1)) := by simp [un, dp]
  rw [hdpp]
  by_cases hT : T < B + 50
  · rw [show (92 : Int32) = i32 92 from rfl, k_put1 hW' (by omega) (by omega) hT, Option.bind_some] at hgo
    dsimp only at hgo
    have hPw := WP_pw hW' hT 92
    have hf := pw_WF σ T 92 V n
    have hfx := WF_fx hf
    have hru := hP _ _ _ _ V (T + 1) _ hf.1 hfx (Nat.le_refl _) (by omega) hr
    have htu := tyS_kp hf.1 hfx (Nat.le_refl V) (show T ≤ T + 1 by omega) ht
    obtain ⟨l, r, e1, e2⟩ := k_firstType hPw.2.2.2.2.2.1 w7 (by omega) htu
    rw [e1, Option.bind_some] at hgo
    dsimp only at hgo
    have cM := mkn_ch (A := AV) (pw σ T 92) V 10 l r (fun _ h => h)
    have kM := mkn_kp (pw σ T 92) V 10 l r (T + 1)
    have hf1 : WF (pw σ T 92) (mkn (pw σ T 92) V 10 l r) V (T + 1) n := WF_AV kM cM
    have fx1 := WF_fx hf1
    have h0 := WF_tr hf hf1 (Nat.le_refl _) (by omega) (Nat.le_refl _)
    have hP1 : WP L N (mkn (pw σ T 92) V 10 l r) (V + 1) (T + 1) B := WP_go hPw hf1 (by omega) (by rw [cM.2.1 34 (by decide)]; exact pw_341 _ _ _) (Nat.le_refl _) (by omega) (mkn_V _ _ _ _ _) (by omega) (by omega) (by rw [cM.2.1 44 (by decide)]; exact hPw.2.2.2.2.2.2.2.2.2.1)
    have hr1 := hP _ _ _ _ (V + 1) (T + 1) _ hf1.1 fx1 (by omega) (Nat.le_refl _) hru
    have ht1 := tyS_kp hf1.1 fx1 (show V ≤ V + 1 by omega) (Nat.le_refl (T + 1)) htu
    have hT0 : (mkn (pw σ T 92) V 10 l r).1 35 T = i32 92 := by rw [hf1.1.2 T (by omega)]; exact pw_35 _ _ _
    generalize mkn (pw σ T 92) V 10 l r = τ at hgo hP1 hr1 ht1 h0 hT0 e2
    by_cases h10 : n < 10
    · obtain ⟨hP2', hf2⟩ := WP_snoc hP1 hN h10 e2 (by omega)
      rw [k_bound (i32 V) h10 hP1.2.2.2.2.2.1 (by omega) (by omega), Option.bind_some] at hgo
      dsimp only at hgo
      have k39 : (mkn (sI τ 42 n (i32 V)) (V + 1) 1 (i32 n) 0).1 39 (V + 1) = i32 1 := mkn_39 _ _ _ _ _
      have k40 : (mkn (sI τ 42 n (i32 V)) (V + 1) 1 (i32 n) 0).1 40 (V + 1) = i32 n := mkn_40 _ _ _ _ _
      have fx2 := WF_fx hf2
      have hr2 := hP _ _ _ _ (V + 1 + 1) (T + 1) _ hf2.1 fx2 (by omega) (Nat.le_refl _) hr1
      have ht2 := tyS_kp hf2.1 fx2 (show V + 1 ≤ V + 1 + 1 by omega) (Nat.le_refl (T + 1)) ht1
      have h02 := WF_tr h0 hf2 (show V ≤ V + 1 by omega) (show T ≤ T + 1 by omega) (Nat.le_refl _)
      have hT2 : (mkn (sI τ 42 n (i32 V)) (V + 1) 1 (i32 n) 0).1 35 T = i32 92 := by rw [hf2.1.2 T (by omega)]; exact hT0
      generalize mkn (sI τ 42 n (i32 V)) (V + 1) 1 (i32 n) 0 = τ2 at hgo hP2' hr2 ht2 h02 hT2 k39 k40
      rw [if_pos (show τ2.1 44 3 = 0 from hP2'.2.2.2.2.2.2.2.2.2.1)] at hgo
      obtain ⟨r', τ3, V3, f1, f2, f3, f4, f5, f6, f7⟩ := hap h10 τ2 (V + 1 + 1) (T + 1) v (V + 1) (WP_EvP hP2') hr2 (by omega) (by omega) k39 k40 (by omega)
      rw [f1, Option.bind_some] at hgo
      dsimp only at hgo
      have fx3 := cK_fx f7 n36V
      obtain ⟨l1, x1, l2, s1, _, _, s4⟩ := k_secondType (i32 (V + 1)) (T := T + 1) (by rw [f7.2.1 34 (by decide)]; exact hP2'.2.1) (by omega) f2 (by omega) (by omega) (tyS_kp f6 fx3 f3 (Nat.le_refl _) ht2)
      rw [s1, Option.bind_some] at hgo
      dsimp only at hgo
      have cM1 := mkn_ch (A := AV) τ3 V3 9 (i32 (V + 1)) x1 (fun _ h => h)
      have kM1 := mkn_kp τ3 V3 9 (i32 (V + 1)) x1 (T + 1)
      have cM2 := mkn_ch (A := AV) (mkn τ3 V3 9 (i32 (V + 1)) x1) (V3 + 1) 10 l2 (i32 V3) (fun _ h => h)
      have kM2 := mkn_kp (mkn τ3 V3 9 (i32 (V + 1)) x1) (V3 + 1) 10 l2 (i32 V3) (T + 1)
      have kk2 := kK_tr kM1 kM2 (by omega) (Nat.le_refl _)
      have cc2 := cK_tr cM1 cM2
      have vv2 : (mkn (mkn τ3 V3 9 (i32 (V + 1)) x1) (V3 + 1) 10 l2 (i32 V3)).1 38 4 = i32 (V3 + 2) := mkn_V _ _ _ _ _
      generalize mkn (mkn τ3 V3 9 (i32 (V + 1)) x1) (V3 + 1) 10 l2 (i32 V3) = τ4 at hgo kk2 cc2 vv2 s4
      have fx4 := cK_fx cc2 n36V
      have kk3 := kK_tr f6 kk2 f3 (Nat.le_refl _)
      have cc3 := cK_tr f7 cc2
      have hf3 : WF τ2 τ4 (V + 1 + 1) (T + 1) (n + 1) := WF_AV kk3 cc3
      have hP3 : WP L (N ++ [x]) τ4 (V3 + 2) (T + 1) B := WP_go hP2' hf3 (by simp; omega) (by rw [cc3.2.1 34 (by decide)]; exact hP2'.2.1) (Nat.le_refl _) (by omega) vv2 (by omega) (by omega) (by rw [cc3.2.1 44 (by decide)]; exact hP2'.2.2.2.2.2.2.2.2.2.1)
      have run2 := h2 h10 (d + 1) (V3 + 2) (T + 1) B (V3 + 1) r' τ4 hP3 (by omega) (by omega) s4 (hP2 _ _ _ _ (V3 + 2) (T + 1) _ kk2 fx4 (by omega) (Nat.le_refl _) f5)
      rw [show i32 n + 1 = i32 (n + 1) from by rw [z1, z_add]] at hgo
      have h03 : WF σ τ4 V T n := WF_tr h02 hf3 (by omega) (by omega) (by omega)
      constructor
      · intro hT3
        obtain ⟨ω, V4, q1, ⟨q2, q3, q4, q5, q6, q7, q8⟩⟩ := run2.1 ⟨by omega, hT3.2.2⟩
        rw [q1, Option.bind_some] at hgo
        refine ⟨ω, V4, hgo, q2, by omega, by omega, by rw [q5, hln]; congr 1; omega, ⟨?_, q6, fun h => absurd rfl h⟩, q7, WF_tr h03 q8 (by omega) (by omega) (by omega)⟩
        rw [q8.1.2 T (by omega), kk3.2 T (by omega)]
        exact hT2
      · intro hT3
        obtain ⟨ω, q1, q2⟩ := run2.2 (fun h => hT3 ⟨by omega, h10, h.2⟩)
        rw [q1, Option.bind_some] at hgo
        exact ⟨ω, hgo, WBig_tr h03 (by omega) (by omega) (by omega) (by omega) q2⟩
    · refine ⟨fun h => absurd h.2.1 h10, fun _ => ?_⟩
      rw [k_bound10 (i32 V) (by omega), Option.bind_some] at hgo
      dsimp only at hgo
      have hB := tl_Big hP1 n
      rw [if_neg (tl_ne hB)] at hgo
      exact ⟨_, hgo, WBig_tr h0 (by omega) (by omega) (Nat.le_refl _) (by omega) hB⟩
  · refine ⟨fun h => absurd h.1 (by omega), fun _ => ?_⟩
    rw [k_put0 _ hW' (by omega), Option.bind_some] at hgo
    dsimp only at hgo
    have hB := tl_Big hW' n
    have hV' : (sI σ 44 3 1).1 38 4 = i32 V := by rw [sI_ne _ _ (Or.inl (by decide))]; exact w6
    obtain ⟨y1, τ1, e1, e2⟩ := k_firstTypeT hV' w7 w8 (i32 a)
    rw [e1, Option.bind_some] at hgo
    dsimp only at hgo
    have B1 := Big_step hB (by omega) hV' w8 e2
    obtain ⟨y2, τ2, e3, e4⟩ := k_boundT y1 B1 w7 (by omega) (by omega)
    rw [e3, Option.bind_some] at hgo
    dsimp only at hgo
    rw [if_neg (tl_ne e4)] at hgo
    exact ⟨τ2, hgo, WBig_c e4 (by omega)⟩
end KFUN
