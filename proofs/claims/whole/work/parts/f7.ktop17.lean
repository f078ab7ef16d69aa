section KTOP17
variable {L : Lw} {ents : List (Tr × Tr)} {tx : List Nat}
/-- what reading a type and a term leaves -/
def GiK (L : Lw) (σ : CS) (f : Option (Int32 × CS)) (r : Except Nat (Tr × Tr × Tr)) : Prop := match r with
  | .ok y => ∃ τ T g h, f = some (1, τ) ∧ RF σ τ ∧ KV τ ∧ T ≤ 3600 ∧ τ.1 34 1 = i32 T ∧ τ.1 43 12 = i32 g ∧ fm (τ.1 35) y.1 g ∧ g + ln y.1 ≤ T ∧ τ.1 43 13 = i32 h ∧ fm (τ.1 35) y.2.1 h ∧ h + ln y.2.1 ≤ T ∧ ∀ k, k < L.1.length → fxK τ k = fxL L k
  | .error e => e ≤ 40 ∧ ∃ τ, f = some (0, τ) ∧ τ.1 43 8 = i32 e ∧ RF σ τ ∧ KV τ
theorem KV_43 {σ : CS} (h : KV σ) (k : Nat) (x : Int32) : KV (sI σ 43 k x) := by
  unfold KV
  rw [sI_ne _ _ (Or.inl (by decide))]
  exact h
theorem KV_V {σ : CS} {V : Nat} (h : σ.1 38 4 = i32 V) (h1 : 1 ≤ V) (h2 : V < 100000) : KV σ := by
  unfold KV
  rw [h, z1, z_le (by omega) (by omega)]
  exact h1
theorem rT0 (σ : CS) : f_Reader_readType 140 0 σ = f_Reader_readType 140 (i32 ([] : List Rq).length) σ := congrArg (fun z => f_Reader_readType 140 z σ) (show (0 : Int32) = i32 0 from rfl)
theorem cT0 (a : Int32) (σ : CS) : f_Reader_checkTerm 140 a 0 σ = f_Reader_checkTerm 140 a (i32 ([] : List Rq).length) σ := congrArg (fun z => f_Reader_checkTerm 140 a z σ) (show (0 : Int32) = i32 0 from rfl)
theorem i32_1 {g : Nat} (h : g < 2147483648) : ¬ (i32 g = -1) := i_ne1 h
theorem k_readGiven (hw : WL L ents tx) {σ : CS} {T : Nat} (hb : BK L ents tx [] σ 0 1 T) (hT : T ≤ 350) (hv : KV σ) : GiK L σ (f_Reader_readGiven σ) (spG L ents tx false) := by
  have hl := hw.2.2.2.1
  have oT := (okRD (tx := tx) hw.1 hw.2.1 hw.2.2.1 70).1
  have oC := (okRD (tx := tx) hw.1 hw.2.1 hw.2.2.1 70).2.1
  have K := KRD (tx := tx) hw 70
  have run := K.1 140 (by omega) [] 0 1 T σ hb (by omega)
  unfold f_Reader_readGiven spG
  rw [rT0]
  cases h1 : (RD L ents tx 70).1 [] 0 with
  | error e =>
    rw [h1] at run
    obtain ⟨he, τ, e1, e2, e3⟩ := run
    rw [e1, Option.bind_some]
    dsimp only
    rw [sI_at, if_pos rfl]
    exact ⟨he, sI τ 43 12 (-1), rfl, by rw [sI_ne _ _ (Or.inr (by decide))]; exact e2, RF_tr (RF_ch e3) (RF_43 _ _ _), KV_43 (KV_ch hv e3) _ _⟩
  | ok a =>
    obtain ⟨y1, y2, y3, y4⟩ := oT [] 0 a (vtOK_nil L) h1
    have rqA : rqOK L [] (a.1, []) := ⟨[], y1, enV_nil _ _, y2.2, Nat.zero_le _, y2.1⟩
    rw [h1] at run
    obtain ⟨g, τ, V', T', e1, e2, e3, e4, e5, e6, e7, e8, e9, e10, e11⟩ := run
    have hb1 := BK_go0 hw hb e9 e5 e2 e3 (q := a.2) (by omega) e6 (by omega) e8 y4
    have hb2 := BK_43 hb1 (k := 12) (i32 g) (by omega)
    have r1 : RF σ (sI τ 43 12 (i32 g)) := RF_tr (RF_ch e9.2.1) (RF_43 _ _ _)
    have v1 : KV (sI τ 43 12 (i32 g)) := KV_43 (KV_ch hv e9.2.1) _ _
    have p10 : (sI τ 43 12 (i32 g)).1 43 12 = i32 g := sI_at _ _ _ _
    have fA : fm ((sI τ 43 12 (i32 g)).1 35) a.1 g := by rw [sI_row _ _ (by decide)]; exact e10
    rw [e1, Option.bind_some]
    dsimp only
    rw [p10, if_neg (i32_1 (by omega))]
    generalize sI τ 43 12 (i32 g) = τ1 at hb2 r1 v1 p10 fA
    have hV1 := hb2.2.2.1.2.1
    have fx1 := lwP_fx hw.1.1 hb2.2.1.1 (by omega)
    have pA : pr (fxK τ1) a.1 := WT_pr ⟨hw.1.1, hw.1.2.1⟩ fx1 _ _ y1
    obtain ⟨m1, m2⟩ := k_typeAt0 hV1 (by omega) (by omega) fA e11 pA
    have cM := mkn_ch (A := AK) τ1 V' 10 (i32 g) 0 (by simp [AV, AK])
    have kM := mkn_kp τ1 V' 10 (i32 g) 0 T'
    have hV2 := mkn_V τ1 V' 10 (i32 g) 0
    rw [m1, Option.bind_some]
    dsimp only
    have e34 : (mkn τ1 V' 10 (i32 g) 0).1 34 1 = i32 T' := by
      unfold mkn
      rw [sI_ne _ _ (Or.inl (by decide)), sI_ne _ _ (Or.inl (by decide)), sI_ne _ _ (Or.inl (by decide)), sI_ne _ _ (Or.inl (by decide))]
      exact hb2.2.2.1.1
    have e43 : (mkn τ1 V' 10 (i32 g) 0).1 43 = τ1.1 43 := by
      unfold mkn
      rw [sI_row _ _ (by decide), sI_row _ _ (by decide), sI_row _ _ (by decide), sI_row _ _ (by decide)]
    have e45 : (mkn τ1 V' 10 (i32 g) 0).1 45 = τ1.1 45 := by
      unfold mkn
      rw [sI_row _ _ (by decide), sI_row _ _ (by decide), sI_row _ _ (by decide), sI_row _ _ (by decide)]
    have fM : FK τ1 (mkn τ1 V' 10 (i32 g) 0) V' T' 0 := ⟨kM, cM, fun k hk => absurd hk (Nat.not_lt_zero _), fun k _ => by rw [e45]⟩
    generalize mkn τ1 V' 10 (i32 g) 0 = τ2 at m1 m2 cM kM hV2 e34 e43 fM
    have hb3 := BK_go0 hw hb2 fM e34 hV2 (by omega) (q := a.2) (by omega) (Nat.le_refl _) (by omega) (by rw [e43]; exact hb2.2.2.1.2.2.2.2.2.1) y4
    have r2 : RF σ τ2 := RF_tr r1 (RF_ch cM)
    have v2 : KV τ2 := KV_ch v1 cM
    have p10b : τ2.1 43 12 = i32 g := by rw [e43]; exact p10
    have fA2 : fm (τ2.1 35) a.1 g := kK_fm kM fA e11
    have run2 := K.2.1 140 (by omega) [] (a.1, []) a.2 (V' + 1) T' V' τ2 hb3 rqA m2 (by omega)
    rw [cT0]
    show GiK L σ _ (((RD L ents tx 70).2.1 [] (a.1, []) a.2).bind fun b => if false = true then ((RD L ents tx 70).2.1 [] (a.1, []) b.2).bind fun c => if c.2 = tx.length then .ok (a.1, b.1, c.1) else .error c.2 else if b.2 = tx.length then .ok (a.1, b.1, b.1) else .error b.2)
    cases h2 : (RD L ents tx 70).2.1 [] (a.1, []) a.2 with
    | error e =>
      rw [h2] at run2
      obtain ⟨he, υ, u1, u2, u3⟩ := run2
      rw [u1, Option.bind_some]
      dsimp only
      rw [sI_at, if_pos rfl]
      unfold B_Reader_readGiven_59 B_Reader_readGiven_60
      rw [if_pos (show bzb 0 = true from by decide)]
      exact ⟨he, sI υ 43 13 (-1), rfl, by rw [sI_ne _ _ (Or.inr (by decide))]; exact u2, RF_tr r2 (RF_tr (RF_ch u3) (RF_43 _ _ _)), KV_43 (KV_ch v2 u3) _ _⟩
    | ok b =>
      obtain ⟨z1', z2', z3', z4'⟩ := oC [] (a.1, []) a.2 b (vtOK_nil L) rqA h2
      rw [h2] at run2
      obtain ⟨h, υ, V2, T2, u1, u2, u3, u4, u5, u6, u7, u8, u9, u10, u11⟩ := run2
      have hb4 := BK_go0 hw hb3 u9 u5 u2 u3 (q := b.2) (by omega) u6 (by omega) u8 z4'
      have hb5 := BK_43 hb4 (k := 13) (i32 h) (by omega)
      rw [u1, Option.bind_some]
      dsimp only
      have r3 : RF σ (sI υ 43 13 (i32 h)) := RF_tr r2 (RF_tr (RF_ch u9.2.1) (RF_43 _ _ _))
      have v3 : KV (sI υ 43 13 (i32 h)) := KV_43 (KV_ch v2 u9.2.1) _ _
      have p11 : (sI υ 43 13 (i32 h)).1 43 13 = i32 h := sI_at _ _ _ _
      have p10c : (sI υ 43 13 (i32 h)).1 43 12 = i32 g := by rw [sI_ne _ _ (Or.inr (by decide)), u9.2.1.2.2.2.1 12 (by decide)]; exact p10b
      have fB : fm ((sI υ 43 13 (i32 h)).1 35) b.1 h := by rw [sI_row _ _ (by decide)]; exact u10
      have fA3 : fm ((sI υ 43 13 (i32 h)).1 35) a.1 g := by rw [sI_row _ _ (by decide)]; exact kK_fm u9.1 fA2 e11
      rw [p11, if_neg (i32_1 (by omega))]
      generalize sI υ 43 13 (i32 h) = υ1 at hb5 r3 v3 p11 p10c fB fA3
      rw [k_readEnd hb5.2.1.2.1 hb5.2.2.1.2.2.2.2.2.1 (by omega) z4', Option.bind_some]
      show GiK L σ _ (if false = true then ((RD L ents tx 70).2.1 [] (a.1, []) b.2).bind fun c => if c.2 = tx.length then .ok (a.1, b.1, c.1) else .error c.2 else if b.2 = tx.length then .ok (a.1, b.1, b.1) else .error b.2)
      rw [if_neg (show ¬ (false = true) by decide)]
      unfold B_Reader_readGiven_59 B_Reader_readGiven_60
      by_cases hbe : b.2 = tx.length
      · rw [if_pos hbe, if_pos hbe]
        dsimp only
        rw [if_neg (show ¬ ((1 : Int32) = 0) from by decide), if_pos (show bzb 1 = true from by decide)]
        exact ⟨υ1, T2, g, h, rfl, r3, v3, by omega, hb5.2.2.1.1, p10c, fA3, by show g + ln a.1 ≤ T2; omega, p11, fB, u11, lwP_fx hw.1.1 hb5.2.1.1 (by omega)⟩
      · rw [if_neg hbe, if_neg hbe]
        dsimp only
        rw [if_pos rfl, if_pos (show bzb 0 = true from by decide)]
        exact ⟨by omega, _, rfl, sI_at _ _ _ _, RF_tr r3 (RF_43 _ _ _), KV_43 v3 _ _⟩
end KTOP17
