section KWR
theorem term_go {d f : Nat} {a : Int32} {σ : CS} (x2 x3 : Int32) (h0 : σ.1 44 3 = i32 0) (hf : f_Values_formOf a σ = some (i32 f, σ)) : (G_Writer (d + 1)).2.1 a x2 x3 σ = (if i32 f = 49 then (f_Writer_put 42 σ).bind fun q2 => some (0, q2.2) else if i32 f = 80 then (f_Writer_put 92 σ).bind fun q3 => (f_Values_firstType a q3.2).bind fun q4 => (f_Writer_bound q4.1 x3 q4.2).bind fun q5 => (if (q5.2.1 44 3) = 0 then (f_Values_apply 220 x2 q5.1 104 q5.2).bind fun q6 => (f_Values_secondType a q5.1 q6.2).bind fun q7 => ((G_Writer d).2.1 q7.1 q6.1 (x3 + 1) q7.2).bind fun q8 => some (0, q8.2) else some (0, q5.2)) else if i32 f = 83 then (f_Writer_put 44 σ).bind fun q9 => (f_Values_firstOf x2 q9.2).bind fun q10 => (f_Values_firstType a q10.2).bind fun q11 => ((G_Writer d).2.1 q11.1 q10.1 x3 q11.2).bind fun q12 => (f_Values_secondType a q10.1 q12.2).bind fun q13 => (f_Values_secondOf x2 q13.2).bind fun q14 => ((G_Writer d).2.1 q13.1 q14.1 x3 q14.2).bind fun q15 => some (0, q15.2) else ((G_Writer d).2.2 x2 x3 σ).bind fun q16 => some (0, q16.2)) := by
  show F_Writer_putTerm (G_Writer d).1 (G_Writer d).2.1 (G_Writer d).2.2 _ _ _ _ = _
  unfold F_Writer_putTerm B_Writer_putTerm_175
  rw [if_pos (show σ.1 44 3 = 0 from h0), hf, Option.bind_some]
theorem tyS_f {σ : CS} {V T f v : Nat} (h : tyS σ V T (.leaf f) v) : f ≠ 80 ∧ f ≠ 83 := by
  obtain ⟨a1, a2, a3, p, A, a4, a5, a6, a7, a8⟩ := h
  cases A with
  | leaf s =>
    have : s = f := by simp only [shp] at a8; injection a8
    subst this
    have := a7.2.2
    refine ⟨fun e => ?_, fun e => ?_⟩
    · subst e; simp [ar] at this
    · subst e; simp [ar] at this
  | branch s a b =>
    simp only [shp] at a8
    split at a8
    · cases a8
    · rename_i hs
      have : s = f := by injection a8
      omega
theorem Wr_P {L : Lw} {N : List Tr} {s : Tr} {n : Nat} {P Q : CS → Nat → Nat → Nat → Prop} {t : Tr} {w : Nat} (h : Wr L N s n P t w) (hPQ : ∀ σ V T v, Q σ V T v → P σ V T v) : Wr L N s n Q t w := fun d V T B a v σ hW hb hd ht hq => h d V T B a v σ hW hb hd ht (hPQ _ _ _ _ hq)
/-- of the unit type -/
theorem Wr_star {L : Lw} {N : List Tr} {n : Nat} (P : CS → Nat → Nat → Nat → Prop) : Wr L N (.leaf 49) n P (.leaf 42) 0 := by
  intro d V T B a v σ hW hb hd ht _
  have hW' := hW
  obtain ⟨w1, w2, w3, w4, w5, w6, w7, w8, w9, w10, w11, w12⟩ := hW
  obtain ⟨d, rfl⟩ : ∃ k, d = k + 1 := ⟨d - 1, by omega⟩
  have hgo := term_go (d := d) (i32 v) (i32 n) w10 (k_formOf w2 (by omega) w6 w8 ht).1
  rw [show hs (.leaf 49) = 49 from rfl, if_pos (show i32 49 = 49 from rfl)] at hgo
  rw [ln_leaf (by decide)]
  constructor
  · intro hT
    rw [show (42 : Int32) = i32 42 from rfl, k_put1 hW' (by omega) (by omega) (by omega), Option.bind_some] at hgo
    exact ⟨_, V, hgo, by rw [pw_row _ _ _ (by decide) (by decide)]; exact w6, Nat.le_refl _, by omega, by rw [pw_341, ln_leaf (by decide)], fun _ => pw_35 _ _ _, by rw [pw_row _ _ _ (by decide) (by decide)]; exact w10, pw_WF _ _ _ _ _⟩
  · intro hT
    have hT' : T = B + 50 := by
      by_cases h : T = B + 50
      · exact h
      · exact absurd ⟨by omega, trivial⟩ hT
    rw [k_put0 _ hW' hT', Option.bind_some] at hgo
    exact ⟨_, hgo, WBig_c (tl_Big hW' n) (by omega)⟩
/-- of a family -/
theorem Wr_fam {L : Lw} {N : List Tr} {n f : Nat} {w : Tr} (hn : N.length = n) (hf : f ≠ 49) (hp : PLft L w) (hw : HT L w N false (.leaf f)) : Wr L N (.leaf f) n (fun σ V T v => rpK σ V T false w v) w 0 := by
  intro d V T B a v σ hW hb hd ht hr
  have hW' := hW
  obtain ⟨w1, w2, w3, w4, w5, w6, w7, w8, w9, w10, w11, w12⟩ := hW
  obtain ⟨d, rfl⟩ : ∃ k, d = k + 1 := ⟨d - 1, by omega⟩
  obtain ⟨e1, e2⟩ := k_formOf w2 (by omega) w6 w8 ht
  have hgo := term_go (d := d) (i32 v) (i32 n) w10 e1
  obtain ⟨f80, f83⟩ := tyS_f ht
  rw [show hs (.leaf f) = f from rfl] at e2 hgo
  rw [if_neg (show ¬ (i32 f = 49) from c_eq (b := 49) hf (by omega) (by omega)), if_neg (show ¬ (i32 f = 80) from c_eq (b := 80) f80 (by omega) (by omega)), if_neg (show ¬ (i32 f = 83) from c_eq (b := 83) f83 (by omega) (by omega))] at hgo
  have run := hp N (.leaf f) d n V T B v σ hw hn hW' (by omega) (by omega) hr
  have hdp : dp w n := dp_HT _ _ _ _ n hw (fun h => by simp at h)
  constructor
  · intro hT
    obtain ⟨r, τ, V', r1, ⟨r2, r3, r4, r5⟩, _⟩ := run.1 hT.1
    rw [r1, Option.bind_some] at hgo
    exact ⟨τ, V', hgo, r2, r3, by omega, r5⟩
  · intro hT
    obtain ⟨r, τ, r1, r2⟩ := run.2 (fun h => hT ⟨h, hdp⟩)
    rw [r1, Option.bind_some] at hgo
    exact ⟨τ, hgo, WBig_c r2 (by omega)⟩
/-- a place of a pair type -/
theorem Wr_pair {L : Lw} {N : List Tr} {n : Nat} {x y u t1 t2 : Tr} {w w1 w2 : Nat} (h1 : Wr L N x n (fun σ V T v => rpK σ V T false (fstV u) v) t1 w1) (h2 : Wr L N y n (fun σ V T v => rpK σ V T false (sndV u) v) t2 w2) (hww : w1 + w2 ≤ w) (hNn : N.length = n) : Wr L N (.branch 83 x y) n (fun σ V T v => rpK σ V T false u v) (.branch 44 t1 t2) w := by
  intro d V T B a v σ hW hb hd ht hr
  have hW' := hW
  obtain ⟨w1', w2', w3, w4, w5, w6, w7, w8, w9, w10, w11, w12⟩ := hW
  obtain ⟨d, rfl⟩ : ∃ k, d = k + 1 + 1 := ⟨d - 2, by omega⟩
  have hgo := term_go (d := d + 1) (i32 v) (i32 n) w10 (k_formOf w2' (by omega) w6 w8 ht).1
  rw [show hs (.branch 83 x y) = 83 from rfl, if_neg (show ¬ (i32 83 = 49) from by decide), if_neg (show ¬ (i32 83 = 80) from by decide), if_pos (show i32 83 = 83 from rfl)] at hgo
  rw [ln_br]
  have hdpp : dp (.branch 44 t1 t2) n = (dp t1 n ∧ dp t2 n) := by simp [dp]
  rw [hdpp]
  by_cases hT : T < B + 50
  · rw [show (44 : Int32) = i32 44 from rfl, k_put1 hW' (by omega) (by omega) hT, Option.bind_some] at hgo
    dsimp only at hgo
    have hP := WP_pw hW' hT 44
    have hf := pw_WF σ T 44 V n
    have hfx := WF_fx hf
    have hru := rK_kp hf.1 hfx (Nat.le_refl V) (show T ≤ T + 1 by omega) _ _ _ hr
    have htu := tyS_kp hf.1 hfx (Nat.le_refl V) (show T ≤ T + 1 by omega) ht
    obtain ⟨v1, τ1, V1, f1, f2, f3, ⟨f4, _⟩, f5, f6, f7, _⟩ := k_first hru hP.2.2.2.2.2.1 w7 (by omega)
    rw [f1, Option.bind_some] at hgo
    dsimp only at hgo
    have fx1 := cK_fx f7 n36V
    obtain ⟨l, r, e1, e2⟩ := k_firstType f2 (by omega) (by omega) (tyS_kp f6 fx1 f3 (Nat.le_refl _) htu)
    rw [e1, Option.bind_some] at hgo
    dsimp only at hgo
    have cM := mkn_ch (A := AV) τ1 V1 10 l r (fun _ h => h)
    have kM := mkn_kp τ1 V1 10 l r (T + 1)
    have kk := kK_tr f6 kM f3 (Nat.le_refl _)
    have cc := cK_tr f7 cM
    have hf1 : WF (pw σ T 44) (mkn τ1 V1 10 l r) V (T + 1) n := WF_AV kk cc
    have fx2 := WF_fx hf1
    have hP1 : WP L N (mkn τ1 V1 10 l r) (V1 + 1) (T + 1) B := WP_go hP hf1 (by omega) (by rw [cc.2.1 34 (by decide)]; exact pw_341 _ _ _) (Nat.le_refl _) (by omega) (mkn_V _ _ _ _ _) (by omega) (by omega) (by rw [cc.2.1 44 (by decide)]; exact hP.2.2.2.2.2.2.2.2.2.1)
    have hrv : rpK (mkn τ1 V1 10 l r) (V1 + 1) (T + 1) false (fstV u) v1 := mk_rp _ _ _ f5
    have hr2 := rK_kp hf1.1 fx2 (show V ≤ V1 + 1 by omega) (Nat.le_refl (T + 1)) _ _ _ hru
    have ht2 := tyS_kp hf1.1 fx2 (show V ≤ V1 + 1 by omega) (Nat.le_refl (T + 1)) htu
    have run1 := h1 (d + 1) (V1 + 1) (T + 1) B V1 v1 _ hP1 (by omega) (by omega) e2 hrv
    have h0 := WF_tr hf hf1 (Nat.le_refl _) (by omega) (Nat.le_refl _)
    have hT0 : (mkn τ1 V1 10 l r).1 35 T = i32 44 := by rw [hf1.1.2 T (by omega)]; exact pw_35 _ _ _
    generalize mkn τ1 V1 10 l r = τ at hgo hP1 hr2 ht2 run1 h0 hT0
    by_cases hc1 : T + 1 + ln t1 ≤ B + 50 ∧ dp t1 n
    · obtain ⟨υ, V2, r1, ⟨r2, r3, r4, r5, r6, r7, r8⟩⟩ := run1.1 hc1
      rw [r1, Option.bind_some] at hgo
      dsimp only at hgo
      have fx3 := WF_fx r8
      have ht3 := tyS_kp r8.1 fx3 r3 (show T + 1 ≤ T + 1 + ln t1 by omega) ht2
      have hr3 := rK_kp r8.1 fx3 r3 (show T + 1 ≤ T + 1 + ln t1 by omega) _ _ _ hr2
      have hP2 := WP_go hP1 r8 (by omega) r5 (by omega) hc1.1 r2 r3 (by omega) r7
      obtain ⟨l1, x1, l2, s1, _, _, s4⟩ := k_secondType (i32 v1) r5 (by omega) r2 (by omega) (by omega) ht3
      rw [s1, Option.bind_some] at hgo
      dsimp only at hgo
      have cM1 := mkn_ch (A := AV) υ V2 9 (i32 v1) x1 (fun _ h => h)
      have kM1 := mkn_kp υ V2 9 (i32 v1) x1 (T + 1 + ln t1)
      have cM2 := mkn_ch (A := AV) (mkn υ V2 9 (i32 v1) x1) (V2 + 1) 10 l2 (i32 V2) (fun _ h => h)
      have kM2 := mkn_kp (mkn υ V2 9 (i32 v1) x1) (V2 + 1) 10 l2 (i32 V2) (T + 1 + ln t1)
      have kk2 := kK_tr kM1 kM2 (by omega) (Nat.le_refl _)
      have cc2 := cK_tr cM1 cM2
      have vv2 : (mkn (mkn υ V2 9 (i32 v1) x1) (V2 + 1) 10 l2 (i32 V2)).1 38 4 = i32 (V2 + 2) := mkn_V _ _ _ _ _
      generalize mkn (mkn υ V2 9 (i32 v1) x1) (V2 + 1) 10 l2 (i32 V2) = υ2 at hgo kk2 cc2 vv2 s4
      have fx4 := cK_fx cc2 n36V
      obtain ⟨v2, υ3, V3, g1, g2, g3, ⟨g4, _⟩, g5, g6, g7, _⟩ := k_second (rK_kp kk2 fx4 (show V2 ≤ V2 + 2 by omega) (Nat.le_refl _) _ _ _ hr3) vv2 (by omega) (by omega)
      rw [g1, Option.bind_some] at hgo
      dsimp only at hgo
      have kk3 := kK_tr kk2 g6 (show V2 ≤ V2 + 2 by omega) (Nat.le_refl _)
      have cc3 := cK_tr cc2 g7
      have hf3 : WF υ υ3 V2 (T + 1 + ln t1) n := WF_AV kk3 cc3
      have hP3 : WP L N υ3 V3 (T + 1 + ln t1) B := WP_go hP2 hf3 (by omega) (by rw [cc3.2.1 34 (by decide)]; exact r5) (Nat.le_refl _) hc1.1 g2 (by omega) (by omega) (by rw [cc3.2.1 44 (by decide)]; exact r7)
      have run2 := h2 (d + 1) V3 (T + 1 + ln t1) B (V2 + 1) v2 υ3 hP3 (by omega) (by omega) (tyS_kp g6 (cK_fx g7 n36V) g3 (Nat.le_refl _) s4) g5
      have h03 := WF_tr h0 (WF_tr r8 hf3 r3 (by omega) (Nat.le_refl _)) (show V ≤ V1 + 1 by omega) (show T ≤ T + 1 by omega) (Nat.le_refl _)
      constructor
      · intro hT2
        obtain ⟨ω, V4, q1, ⟨q2, q3, q4, q5, q6, q7, q8⟩⟩ := run2.1 ⟨by omega, hT2.2.2⟩
        rw [q1, Option.bind_some] at hgo
        refine ⟨ω, V4, hgo, q2, by omega, by omega, by rw [q5, ln_br]; congr 1; omega, ⟨?_, ?_, q6⟩, q7, WF_tr h03 q8 (by omega) (by omega) (Nat.le_refl _)⟩
        · rw [q8.1.2 T (by omega), hf3.1.2 T (by omega), r8.1.2 T (by omega)]
          exact hT0
        · exact kK_fm q8.1 (kK_fm hf3.1 r6 (by omega)) (by omega)
      · intro hT2
        obtain ⟨ω, q1, q2⟩ := run2.2 (fun h => hT2 ⟨by omega, hc1.2, h.2⟩)
        rw [q1, Option.bind_some] at hgo
        exact ⟨ω, hgo, WBig_tr h03 (by omega) (by omega) (Nat.le_refl _) (by omega) q2⟩
    · refine ⟨fun h => absurd ⟨by omega, h.2.1⟩ hc1, fun _ => ?_⟩
      obtain ⟨υ, r1, r2⟩ := run1.2 hc1
      rw [r1, Option.bind_some] at hgo
      dsimp only at hgo
      obtain ⟨V2, u1, u2, u3, T2, s1, s2⟩ := WBig_V r2 (by omega) (by omega)
      obtain ⟨z, υ2, e3, e4⟩ := k_secondTypeT u1 u2 u3 s1 (by omega) (i32 a) (i32 v1)
      rw [e3, Option.bind_some] at hgo
      dsimp only at hgo
      have B2 := Big_step r2 (by omega) u1 u3 e4
      obtain ⟨V3, u4, u5, u6, T3, s3, s4⟩ := WBig_V B2 (by omega) (by omega)
      obtain ⟨z2, υ3, e5, e6⟩ := k_secondOfT u4 u5 u6 (i32 v)
      rw [e5, Option.bind_some] at hgo
      dsimp only at hgo
      have B3 := Big_step B2 (by omega) u4 u6 e6
      rw [term_big _ _ _ (tl_ne B3), Option.bind_some] at hgo
      exact ⟨υ3, hgo, WBig_tr h0 (by omega) (by omega) (Nat.le_refl _) (by omega) B3⟩
  · refine ⟨fun h => absurd h.1 (by omega), fun _ => ?_⟩
    rw [k_put0 _ hW' (by omega), Option.bind_some] at hgo
    dsimp only at hgo
    have hB := tl_Big hW' n
    have hV' : (sI σ 44 3 1).1 38 4 = i32 V := by rw [sI_ne _ _ (Or.inl (by decide))]; exact w6
    obtain ⟨y1, τ1, e1, e2⟩ := k_firstOfT hV' w7 w8 (i32 v)
    rw [e1, Option.bind_some] at hgo
    dsimp only at hgo
    have B1 := Big_step hB (by omega) hV' w8 e2
    obtain ⟨V1, u1, u2, u3, T1, s1, s2⟩ := WBig_V B1 w7 (by omega)
    obtain ⟨y2, τ2, e3, e4⟩ := k_firstTypeT u1 u2 u3 (i32 a)
    rw [e3, Option.bind_some] at hgo
    dsimp only at hgo
    have B2 := Big_step B1 (by omega) u1 u3 e4
    rw [term_big _ _ _ (tl_ne B2), Option.bind_some] at hgo
    dsimp only at hgo
    obtain ⟨V2, u4, u5, u6, T2, s3, s4⟩ := WBig_V B2 w7 (by omega)
    obtain ⟨y3, τ3, e5, e6⟩ := k_secondTypeT u4 u5 u6 s3 (by omega) (i32 a) y1
    rw [e5, Option.bind_some] at hgo
    dsimp only at hgo
    have B3 := Big_step B2 (by omega) u4 u6 e6
    obtain ⟨V3, u7, u8, u9, T3, s5, s6⟩ := WBig_V B3 w7 (by omega)
    obtain ⟨y4, τ4, e7, e8⟩ := k_secondOfT u7 u8 u9 (i32 v)
    rw [e7, Option.bind_some] at hgo
    dsimp only at hgo
    have B4 := Big_step B3 (by omega) u7 u9 e8
    rw [term_big _ _ _ (tl_ne B4), Option.bind_some] at hgo
    exact ⟨τ4, hgo, WBig_c B4 (by omega)⟩
end KWR
