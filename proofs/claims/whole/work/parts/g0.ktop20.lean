section KTOP20
variable {L : Lw} {ents : List (Tr × Tr)} {tx : List Nat}
/-- a term is read by a type that was read -/
theorem k_part (hw : WL L ents tx) {σ : CS} {p V T g : Nat} {A : Tr} (hb : BK L ents tx [] σ p V T) (hV : V + 1 ≤ 1 + 27 * p) (rqA : rqOK L [] (A, [])) (pA : pr (fxK σ) A) (hg : fm (σ.1 35) A g) (hg2 : g + ln A ≤ T) : ∃ v τ, f_Values_typeAt (i32 g) 0 σ = some (v, τ) ∧ match (RD L ents tx 70).2.1 [] (A, []) p with
  | .error e => e ≤ 40 ∧ ∃ υ, f_Reader_checkTerm 140 v 0 τ = some (-1, υ) ∧ υ.1 43 8 = i32 e ∧ RF σ υ ∧ (KV σ → KV υ)
  | .ok b => b.2 ≤ tx.length ∧ ∃ h υ V' T', f_Reader_checkTerm 140 v 0 τ = some (i32 h, υ) ∧ BK L ents tx [] υ b.2 V' T' ∧ V' + 1 ≤ 1 + 27 * b.2 ∧ T ≤ T' ∧ RF σ υ ∧ (KV σ → KV υ) ∧ (∀ k, k < 7 ∨ 11 < k → υ.1 43 k = σ.1 43 k) ∧ fm (υ.1 35) b.1 h ∧ h + ln b.1 ≤ T' ∧ T' ≤ 3600 ∧ kpK σ υ V T := by
  have hl := hw.2.2.2.1
  have oC := (okRD (tx := tx) hw.1 hw.2.1 hw.2.2.1 70).2.1
  have K := KRD (tx := tx) hw 70
  have hp := hb.2.2.2
  have hV1 := hb.2.2.1.2.1
  have hV0 := hb.2.2.1.2.2.1
  have hT0 := hb.2.2.1.2.2.2.2.1
  obtain ⟨m1, m2⟩ := k_typeAt0 hV1 (by omega) (by omega) hg hg2 pA
  have cM := mkn_ch (A := AK) σ V 10 (i32 g) 0 (by simp [AV, AK])
  have kM := mkn_kp σ V 10 (i32 g) 0 T
  have hV2 := mkn_V σ V 10 (i32 g) 0
  have e34 : (mkn σ V 10 (i32 g) 0).1 34 1 = i32 T := by
    unfold mkn
    rw [sI_ne _ _ (Or.inl (by decide)), sI_ne _ _ (Or.inl (by decide)), sI_ne _ _ (Or.inl (by decide)), sI_ne _ _ (Or.inl (by decide))]
    exact hb.2.2.1.1
  have e43 : (mkn σ V 10 (i32 g) 0).1 43 = σ.1 43 := by
    unfold mkn
    rw [sI_row _ _ (by decide), sI_row _ _ (by decide), sI_row _ _ (by decide), sI_row _ _ (by decide)]
  have e45 : (mkn σ V 10 (i32 g) 0).1 45 = σ.1 45 := by
    unfold mkn
    rw [sI_row _ _ (by decide), sI_row _ _ (by decide), sI_row _ _ (by decide), sI_row _ _ (by decide)]
  have fM : FK σ (mkn σ V 10 (i32 g) 0) V T 0 := ⟨kM, cM, fun k hk => absurd hk (Nat.not_lt_zero _), fun k _ => by rw [e45]⟩
  refine ⟨i32 V, mkn σ V 10 (i32 g) 0, m1, ?_⟩
  clear m1
  generalize mkn σ V 10 (i32 g) 0 = τ2 at m2 cM kM hV2 e34 e43 fM
  have hb3 := BK_go0 hw hb fM e34 hV2 (by omega) (q := p) (by omega) (Nat.le_refl _) (by omega) (by rw [e43]; exact hb.2.2.1.2.2.2.2.2.1) hp
  have r2 : RF σ τ2 := RF_ch cM
  have run2 := K.2.1 140 (by omega) [] (A, []) p (V + 1) T V τ2 hb3 rqA m2 (by omega)
  rw [cT0]
  cases h2 : (RD L ents tx 70).2.1 [] (A, []) p with
  | error e =>
    rw [h2] at run2
    obtain ⟨he, υ, u1, u2, u3⟩ := run2
    exact ⟨he, υ, u1, u2, RF_tr r2 (RF_ch u3), fun hv => KV_ch (KV_ch hv cM) u3⟩
  | ok b =>
    obtain ⟨z1', z2', z3', z4'⟩ := oC [] (A, []) p b (vtOK_nil L) rqA h2
    rw [h2] at run2
    obtain ⟨h, υ, V2, T2, u1, u2, u3, u4, u5, u6, u7, u8, u9, u10, u11⟩ := run2
    have hb4 := BK_go0 hw hb3 u9 u5 u2 u3 (q := b.2) (by omega) u6 (by omega) u8 z4'
    exact ⟨z4', h, υ, V2, T2, u1, hb4, by omega, u6, RF_tr r2 (RF_ch u9.2.1), fun hv => KV_ch (KV_ch hv cM) u9.2.1, fun k k1 => by rw [u9.2.1.2.2.2.1 k k1, e43], u10, u11, by omega, kK_tr kM u9.1 (by omega) (Nat.le_refl _)⟩
theorem RF_fx {σ τ : CS} (h : RF σ τ) (h36 : τ.1 36 = σ.1 36) (h34 : τ.1 34 3 = σ.1 34 3) : fxK τ = fxK σ := by
  funext k
  unfold fxK
  rw [h36, h34]
/-- what reading a type and two terms leaves -/
def TwK (L : Lw) (σ : CS) (f : Option (Int32 × CS)) (r : Except Nat (Tr × Tr × Tr)) : Prop := match r with
  | .ok y => ∃ τ T g h, f = some (1, τ) ∧ RF σ τ ∧ KV τ ∧ T ≤ 3600 ∧ τ.1 34 1 = i32 T ∧ τ.1 43 13 = i32 g ∧ fm (τ.1 35) y.2.1 g ∧ g + ln y.2.1 ≤ T ∧ τ.1 43 14 = i32 h ∧ fm (τ.1 35) y.2.2 h ∧ h + ln y.2.2 ≤ T ∧ ∀ k, k < L.1.length → fxK τ k = fxL L k
  | .error e => e ≤ 40 ∧ ∃ τ, f = some (0, τ) ∧ τ.1 43 8 = i32 e ∧ RF σ τ ∧ KV τ
theorem k_readTwo (hw : WL L ents tx) {σ : CS} {T : Nat} (hb : BK L ents tx [] σ 0 1 T) (hT : T ≤ 350) (hv : KV σ) : TwK L σ (f_Reader_readTwo σ) (spG L ents tx true) := by
  have hl := hw.2.2.2.1
  have oT := (okRD (tx := tx) hw.1 hw.2.1 hw.2.2.1 70).1
  have oC := (okRD (tx := tx) hw.1 hw.2.1 hw.2.2.1 70).2.1
  have K := KRD (tx := tx) hw 70
  have run := K.1 140 (by omega) [] 0 1 T σ hb (by omega)
  unfold f_Reader_readTwo spG
  rw [rT0]
  cases h1 : (RD L ents tx 70).1 [] 0 with
  | error e =>
    rw [h1] at run
    obtain ⟨he, τ, e1, e2, e3⟩ := run
    rw [e1, Option.bind_some]
    dsimp only
    rw [sI_at, if_pos rfl]
    exact ⟨he, sI τ 43 12 (-1), rfl, by rw [sI_ne _ _ (Or.inr (by decide))]; exact e2, RF_tr (RF_ch e3) (RF_43 _ _ _), KV_43 (KV_ch hv e3) _ _⟩
  | ok a =>
    obtain ⟨y1, y2, y3, y4⟩ := oT [] 0 a (vtOK_nil L) h1
    have rqA : rqOK L [] (a.1, []) := ⟨[], y1, enV_nil _ _, y2.2, Nat.zero_le _, y2.1⟩
    rw [h1] at run
    obtain ⟨g, τ, V', T', e1, e2, e3, e4, e5, e6, e7, e8, e9, e10, e11⟩ := run
    have hb1 := BK_go0 hw hb e9 e5 e2 e3 (q := a.2) (by omega) e6 (by omega) e8 y4
    have hb2 := BK_43 hb1 (k := 12) (i32 g) (by omega)
    have r1 : RF σ (sI τ 43 12 (i32 g)) := RF_tr (RF_ch e9.2.1) (RF_43 _ _ _)
    have v1 : KV (sI τ 43 12 (i32 g)) := KV_43 (KV_ch hv e9.2.1) _ _
    have p10 : (sI τ 43 12 (i32 g)).1 43 12 = i32 g := sI_at _ _ _ _
    have fA : fm ((sI τ 43 12 (i32 g)).1 35) a.1 g := by rw [sI_row _ _ (by decide)]; exact e10
    rw [e1, Option.bind_some]
    dsimp only
    rw [p10, if_neg (i32_1 (by omega))]
    generalize sI τ 43 12 (i32 g) = τ1 at hb2 r1 v1 p10 fA
    have fx1 := lwP_fx hw.1.1 hb2.2.1.1 (by omega)
    have pA : pr (fxK τ1) a.1 := WT_pr ⟨hw.1.1, hw.1.2.1⟩ fx1 _ _ y1
    obtain ⟨v, τ2, m1, m2⟩ := k_part hw hb2 (by omega) rqA pA fA e11
    rw [m1, Option.bind_some]
    dsimp only
    show TwK L σ _ (((RD L ents tx 70).2.1 [] (a.1, []) a.2).bind fun b => if true = true then ((RD L ents tx 70).2.1 [] (a.1, []) b.2).bind fun c => if c.2 = tx.length then .ok (a.1, b.1, c.1) else .error c.2 else if b.2 = tx.length then .ok (a.1, b.1, b.1) else .error b.2)
    cases h2 : (RD L ents tx 70).2.1 [] (a.1, []) a.2 with
    | error e =>
      rw [h2] at m2
      obtain ⟨he, υ, u1, u2, u3, u4⟩ := m2
      rw [u1, Option.bind_some]
      dsimp only
      rw [sI_at, if_pos rfl]
      exact ⟨he, sI υ 43 13 (-1), rfl, by rw [sI_ne _ _ (Or.inr (by decide))]; exact u2, RF_tr r1 (RF_tr u3 (RF_43 _ _ _)), KV_43 (u4 v1) _ _⟩
    | ok b =>
      rw [h2] at m2
      obtain ⟨x1, h, υ, V2, T2, u1, u2, u3, u4, u5, u6, u7, u8, u9, u10, u11⟩ := m2
      have hb5 := BK_43 u2 (k := 13) (i32 h) (by omega)
      rw [u1, Option.bind_some]
      dsimp only
      have r3 : RF σ (sI υ 43 13 (i32 h)) := RF_tr r1 (RF_tr u5 (RF_43 _ _ _))
      have v3 : KV (sI υ 43 13 (i32 h)) := KV_43 (u6 v1) _ _
      have p11 : (sI υ 43 13 (i32 h)).1 43 13 = i32 h := sI_at _ _ _ _
      have p10c : (sI υ 43 13 (i32 h)).1 43 12 = i32 g := by rw [sI_ne _ _ (Or.inr (by decide)), u7 12 (by decide)]; exact p10
      have fB : fm ((sI υ 43 13 (i32 h)).1 35) b.1 h := by rw [sI_row _ _ (by decide)]; exact u8
      have fA3 : fm ((sI υ 43 13 (i32 h)).1 35) a.1 g := by rw [sI_row _ _ (by decide)]; exact kK_fm u11 fA e11
      rw [p11, p10c, if_neg (i32_1 (by omega))]
      generalize sI υ 43 13 (i32 h) = υ1 at hb5 r3 v3 p11 p10c fB fA3
      have fx2 := lwP_fx hw.1.1 hb5.2.1.1 (by omega)
      have pA2 : pr (fxK υ1) a.1 := WT_pr ⟨hw.1.1, hw.1.2.1⟩ fx2 _ _ y1
      obtain ⟨v', τ3, n1, n2⟩ := k_part hw hb5 u3 rqA pA2 fA3 (by omega)
      rw [n1, Option.bind_some]
      dsimp only
      show TwK L σ _ (if true = true then ((RD L ents tx 70).2.1 [] (a.1, []) b.2).bind fun c => if c.2 = tx.length then .ok (a.1, b.1, c.1) else .error c.2 else if b.2 = tx.length then .ok (a.1, b.1, b.1) else .error b.2)
      rw [if_pos rfl]
      cases h3 : (RD L ents tx 70).2.1 [] (a.1, []) b.2 with
      | error e =>
        rw [h3] at n2
        obtain ⟨he, ω, w1, w2, w3, w4⟩ := n2
        rw [w1, Option.bind_some]
        dsimp only
        unfold B_Reader_readTwo_90 B_Reader_readTwo_91
        rw [sI_at, if_pos rfl, if_pos (show bzb 0 = true from by decide)]
        exact ⟨he, sI ω 43 14 (-1), rfl, by rw [sI_ne _ _ (Or.inr (by decide))]; exact w2, RF_tr r3 (RF_tr w3 (RF_43 _ _ _)), KV_43 (w4 v3) _ _⟩
      | ok c =>
        rw [h3] at n2
        obtain ⟨x2, h', ω, V3, T3, w1, w2, w3, w4, w5, w6, w7, w8, w9, w10, w11⟩ := n2
        have hb6 := BK_43 w2 (k := 14) (i32 h') (by omega)
        rw [w1, Option.bind_some]
        dsimp only
        have r4 : RF σ (sI ω 43 14 (i32 h')) := RF_tr r3 (RF_tr w5 (RF_43 _ _ _))
        have v4 : KV (sI ω 43 14 (i32 h')) := KV_43 (w6 v3) _ _
        have p12 : (sI ω 43 14 (i32 h')).1 43 14 = i32 h' := sI_at _ _ _ _
        have p11c : (sI ω 43 14 (i32 h')).1 43 13 = i32 h := by rw [sI_ne _ _ (Or.inr (by decide)), w7 13 (by decide)]; exact p11
        have fC : fm ((sI ω 43 14 (i32 h')).1 35) c.1 h' := by rw [sI_row _ _ (by decide)]; exact w8
        have fB3 : fm ((sI ω 43 14 (i32 h')).1 35) b.1 h := by rw [sI_row _ _ (by decide)]; exact kK_fm w11 fB u9
        rw [p12, if_neg (i32_1 (by omega))]
        generalize sI ω 43 14 (i32 h') = ω1 at hb6 r4 v4 p12 p11c fC fB3
        rw [k_readEnd hb6.2.1.2.1 hb6.2.2.1.2.2.2.2.2.1 (by omega) x2, Option.bind_some]
        unfold B_Reader_readTwo_90 B_Reader_readTwo_91
        show TwK L σ _ (if c.2 = tx.length then .ok (a.1, b.1, c.1) else .error c.2)
        by_cases hbe : c.2 = tx.length
        · rw [if_pos hbe, if_pos hbe]
          dsimp only
          rw [if_neg (show ¬ ((1 : Int32) = 0) from by decide), if_pos (show bzb 1 = true from by decide)]
          exact ⟨ω1, T3, h, h', rfl, r4, v4, w10, hb6.2.2.1.1, p11c, fB3, by show h + ln b.1 ≤ T3; omega, p12, fC, w9, lwP_fx hw.1.1 hb6.2.1.1 (by omega)⟩
        · rw [if_neg hbe, if_neg hbe]
          dsimp only
          rw [if_pos rfl, if_pos (show bzb 0 = true from by decide)]
          exact ⟨by omega, _, rfl, sI_at _ _ _ _, RF_tr r4 (RF_43 _ _ _), KV_43 v4 _ _⟩
theorem k_same {σ : CS} {s : Sta} (hs : SOK s) (h : KA σ s) (hv : KV σ) : KQ σ (f_J_same σ) (aSame s) := by
  unfold f_J_same aSame B_J_same_76
  obtain ⟨τ, T, b1, b2, b3, b4⟩ := k_begin hs h hv
  have g := k_readTwo (SOK_WL hs) b4 b3 (BK_KV b4)
  rw [b1, Option.bind_some]
  dsimp only
  cases hsp : spG s.L s.en s.tx true with
  | error e =>
    rw [hsp] at g
    obtain ⟨he, υ, g1, g2, g3, g4⟩ := g
    rw [g1, Option.bind_some]
    dsimp only
    rw [if_pos rfl, g2]
    exact ⟨υ, rfl, KA_RF h (RF_tr b2 g3), g4, (RF_tr b2 g3).1⟩
  | ok y =>
    rw [hsp] at g
    obtain ⟨υ, T', p, q, g1, g2, g3, g4, g5, g6, g7, g8, g9, g10, g11, g12⟩ := g
    have pB : pr (fxK υ) y.2.1 := (GiK_pr hs.2.2.1 g12 (okG (SOK_WL hs) hsp).1).2
    have pC : pr (fxK υ) y.2.2 := (GiK_pr hs.2.2.1 g12 (okG (SOK_WL hs) hsp).2).2
    rw [g1, Option.bind_some]
    dsimp only
    rw [if_neg (show ¬ ((1 : Int32) = 0) from by decide), g6, g9, k_equal g5 g4 pB pC g7 g10 g8 g11, Option.bind_some]
    dsimp only
    by_cases he : enc y.2.1 = enc y.2.2
    · rw [if_pos he, if_neg (show ¬ (i32 1 = 0) from by decide)]
      refine ⟨υ, ?_, KA_RF h (RF_tr b2 g2), g3, (RF_tr b2 g2).1⟩
      dsimp only
      rw [if_pos he]
    · rw [if_neg he, if_pos (show i32 0 = 0 from rfl)]
      refine ⟨υ, ?_, KA_RF h (RF_tr b2 g2), g3, (RF_tr b2 g2).1⟩
      dsimp only
      rw [if_neg he]
end KTOP20
