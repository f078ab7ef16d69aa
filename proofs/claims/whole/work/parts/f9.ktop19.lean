section KTOP19
variable {L : Lw} {ents : List (Tr × Tr)} {tx : List Nat}
/-- what reading a term that is found leaves -/
def FiK (L : Lw) (σ : CS) (f : Option (Int32 × CS)) (r : Except Nat Tr) : Prop := match r with
  | .ok y => ∃ τ T h, f = some (1, τ) ∧ RF σ τ ∧ KV τ ∧ T ≤ 3600 ∧ τ.1 34 1 = i32 T ∧ τ.1 43 9 = i32 h ∧ fm (τ.1 35) y h ∧ h + ln y ≤ T ∧ ∀ k, k < L.1.length → fxK τ k = fxL L k
  | .error e => e ≤ 40 ∧ ∃ τ, f = some (0, τ) ∧ τ.1 43 8 = i32 e ∧ RF σ τ ∧ KV τ
theorem iT0 (σ : CS) : f_Reader_inferTerm 140 0 σ = f_Reader_inferTerm 140 (i32 ([] : List Rq).length) σ := congrArg (fun z => f_Reader_inferTerm 140 z σ) (show (0 : Int32) = i32 0 from rfl)
theorem k_readInferred (hw : WL L ents tx) {σ : CS} {T : Nat} (hb : BK L ents tx [] σ 0 1 T) (hT : T ≤ 350) (hv : KV σ) : FiK L σ (f_Reader_readInferred σ) (spF L ents tx) := by
  have hl := hw.2.2.2.1
  have oI := (okRD (tx := tx) hw.1 hw.2.1 hw.2.2.1 70).2.2
  have K := KRD (tx := tx) hw 70
  have run := K.2.2 140 (by omega) [] 0 1 T σ hb (by omega)
  unfold f_Reader_readInferred spF B_Reader_readInferred_28 B_Reader_readInferred_29
  rw [iT0]
  cases h1 : (RD L ents tx 70).2.2 [] 0 with
  | error e =>
    rw [h1] at run
    obtain ⟨he, τ, e1, e2, e3⟩ := run
    rw [e1, Option.bind_some]
    dsimp only
    rw [sI_at, if_pos rfl, if_pos (show bzb 0 = true from by decide)]
    exact ⟨he, sI τ 43 13 (-1), rfl, by rw [sI_ne _ _ (Or.inr (by decide))]; exact e2, RF_tr (RF_ch e3) (RF_43 _ _ _), KV_43 (KV_ch hv e3) _ _⟩
  | ok a =>
    obtain ⟨y1, y2, y3, y4, y5, y6⟩ := oI [] 0 a (vtOK_nil L) h1
    rw [h1] at run
    obtain ⟨g, h, τ, T', e1, e2, e3, e4, e5, e6, e7, e8, e9, e10, e11, e12⟩ := run
    have hb1 := BK_go0 hw hb e7 e3 e2 (Nat.le_refl _) (q := a.2.2) (by omega) e4 (by omega) e6 y6
    have hb2 := BK_43 hb1 (k := 13) (i32 g) (by omega)
    have r1 : RF σ (sI τ 43 13 (i32 g)) := RF_tr (RF_ch e7.2.1) (RF_43 _ _ _)
    have v1 : KV (sI τ 43 13 (i32 g)) := KV_43 (KV_ch hv e7.2.1) _ _
    have p11 : (sI τ 43 13 (i32 g)).1 43 13 = i32 g := sI_at _ _ _ _
    have p9 : (sI τ 43 13 (i32 g)).1 43 9 = i32 h := by rw [sI_ne _ _ (Or.inr (by decide))]; exact e10
    have fA : fm ((sI τ 43 13 (i32 g)).1 35) a.1 h := by rw [sI_row _ _ (by decide)]; exact e11
    rw [e1, Option.bind_some]
    dsimp only
    rw [p11, if_neg (i32_1 (by omega))]
    generalize sI τ 43 13 (i32 g) = τ1 at hb2 r1 v1 p9 p11 fA
    rw [k_readEnd hb2.2.1.2.1 hb2.2.2.1.2.2.2.2.2.1 (by omega) y6, Option.bind_some]
    show FiK L σ _ (if a.2.2 = tx.length then .ok a.1 else .error a.2.2)
    by_cases hbe : a.2.2 = tx.length
    · rw [if_pos hbe, if_pos hbe]
      dsimp only
      rw [if_neg (show ¬ ((1 : Int32) = 0) from by decide), if_pos (show bzb 1 = true from by decide)]
      exact ⟨τ1, T', h, rfl, r1, v1, by omega, hb2.2.2.1.1, p9, fA, e12, lwP_fx hw.1.1 hb2.2.1.1 (by omega)⟩
    · rw [if_neg hbe, if_neg hbe]
      dsimp only
      rw [if_pos rfl, if_pos (show bzb 0 = true from by decide)]
      exact ⟨by omega, _, rfl, sI_at _ _ _ _, RF_tr r1 (RF_43 _ _ _), KV_43 v1 _ _⟩
theorem k_found {σ : CS} {s : Sta} (hs : SOK s) (h : KA σ s) (hv : KV σ) (k : Int32) : KQ σ (f_J_found k σ) (aFound k s) := by
  unfold f_J_found aFound
  by_cases hk : (-1 : Int32) ≤ k
  · rw [if_pos hk, if_pos hk]
    obtain ⟨τ, T, b1, b2, b3, b4⟩ := k_begin hs h hv
    have g := k_readInferred (SOK_WL hs) b4 b3 (BK_KV b4)
    rw [b1, Option.bind_some]
    dsimp only
    cases hsp : spF s.L s.en s.tx with
    | error e =>
      rw [hsp] at g
      obtain ⟨he, υ, g1, g2, g3, g4⟩ := g
      rw [g1, Option.bind_some]
      dsimp only
      rw [if_pos rfl, g2]
      exact ⟨υ, rfl, KA_RF h (RF_tr b2 g3), g4, (RF_tr b2 g3).1⟩
    | ok y =>
      rw [hsp] at g
      obtain ⟨υ, T', q, g1, g2, g3, g4, g5, g6, g7, g8, g9⟩ := g
      have hL := hs.2.2.1
      have pB : pr (fxK υ) y := WT_pr ⟨hL.1, hL.2.1⟩ g9 _ _ (okF (SOK_WL hs) hsp).1
      rw [g1, Option.bind_some]
      dsimp only
      rw [if_neg (show ¬ ((1 : Int32) = 0) from by decide), g6, k_answer g5 g4 pB g7 g8 hk, Option.bind_some]
      exact ⟨υ, rfl, KA_RF h (RF_tr b2 g2), g3, (RF_tr b2 g2).1⟩
  · rw [if_neg hk, if_neg hk]
    exact ⟨σ, rfl, h, hv, rfl⟩
end KTOP19
