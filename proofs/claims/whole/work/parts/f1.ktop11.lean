section KTOP11
/-- how many values stand -/
def KV (σ : CS) : Prop := (1 : Int32) ≤ σ.1 38 4
theorem KV_ch {A : List Nat} {σ τ : CS} (h : KV σ) (c : chK A σ τ) : KV τ := c.2.2.2.2 h
theorem BI_fx {L : Lw} {σ : CS} {T : Nat} (hL : lwOK L) (h : BI L σ L.1.length L.2.length T) (hT : T ≤ 350) : ∀ k, k < L.1.length → fxK σ k = fxL L k := by
  have l1 := hL.1
  intro k hk
  unfold fxK fxL
  rw [h.2.1, show decide (i32 k < i32 L.1.length) = true from decide_eq_true (by rw [z_lt (by omega) (by omega)]; exact hk), Bool.true_and]
  cases hj : L.1[k]? with
  | none => exact absurd (List.getElem?_eq_none_iff.mp hj) (by omega)
  | some x =>
    cases x with
    | none =>
      rw [h.2.2.2.2.1 k hk hj]
      rfl
    | some I =>
      obtain ⟨q, b1, b2, b3⟩ := h.2.2.2.1 k I hk hj
      rw [b1]
      have : ¬ (i32 q = -1) := i_ne1 (by omega)
      simp [this]
theorem BI_lwP {L : Lw} {σ : CS} {T : Nat} (hL : lwOK L) (h : BI L σ L.1.length L.2.length T) (hT : T ≤ 350) : lwP L σ T := by
  have hf := BI_fx hL h hT
  refine ⟨h.2.1, h.2.2.1, fun k I hI => ?_, fun k hI => h.2.2.2.2.1 k (List.getElem?_eq_some_iff.mp hI).1 hI, fun k A hA => ?_⟩
  · obtain ⟨q, q1, q2, q3⟩ := h.2.2.2.1 k I (List.getElem?_eq_some_iff.mp hI).1 hI
    exact ⟨q, q1, q2, q3, WT_pr ⟨hL.1, hL.2.1⟩ hf _ _ (hL.2.2.1 k I hI).1⟩
  · obtain ⟨q, q1, q2, q3⟩ := h.2.2.2.2.2 k A (List.getElem?_eq_some_iff.mp hA).1 hA
    exact ⟨q, q1, q2, q3, WT_pr ⟨hL.1, hL.2.1⟩ hf _ _ (hL.2.2.2 k A hA).1⟩
theorem k_rel1 {σ : CS} (h : KV σ) : ∃ τ, f_Values_release 1 σ = some (0, τ) ∧ τ.1 38 4 = i32 1 ∧ τ.2 = σ.2 ∧ ∀ j, j ≠ 38 → τ.1 j = σ.1 j := by
  unfold f_Values_release B_Values_release_17
  rw [if_neg (show ¬ ((1 : Int32) ≤ 0) from by decide)]
  by_cases hV : σ.1 38 4 ≤ 1
  · rw [if_pos hV]
    exact ⟨σ, rfl, Int32.le_antisymm hV h, rfl, fun _ _ => rfl⟩
  · rw [if_neg hV]
    exact ⟨_, rfl, sI_at _ _ _ _, rfl, fun j hj => sI_row _ _ hj⟩
/-- a call begins to read -/
theorem k_begin {σ : CS} {s : Sta} (hs : SOK s) (h : KA σ s) (hv : KV σ) : ∃ τ T, f_Reader_begin (some 1) (σ.1 0 1) (rfv σ 0 2) (some 5) σ = some (0, τ) ∧ RF σ τ ∧ T ≤ 350 ∧ BK s.L s.en s.tx [] τ 0 1 T := by
  have hL := hs.2.2.1
  obtain ⟨h1, ⟨t, et, hK, ht⟩, h3, _⟩ := id h
  unfold f_Reader_begin
  rw [h1.1, et]
  have a1 : ∀ j, j ≠ 43 → (sI (sI (sR (sI (sR σ 43 4 (some 1)) 43 5 (i32 s.tx.length)) 43 6 (some 5)) 43 7 0) 43 8 (-1)).1 j = σ.1 j := fun j hj => by
    rw [sI_row _ _ hj, sI_row _ _ hj]
    show (sI (sR σ 43 4 (some 1)) 43 5 (i32 s.tx.length)).1 j = _
    rw [sI_row _ _ hj]
    rfl
  have a2 : ∀ j, j ≠ 43 → (sI (sI (sR (sI (sR σ 43 4 (some 1)) 43 5 (i32 s.tx.length)) 43 6 (some 5)) 43 7 0) 43 8 (-1)).2.1 j = σ.2.1 j := fun j hj => by
    show (sR (sI (sR σ 43 4 (some 1)) 43 5 (i32 s.tx.length)) 43 6 (some 5)).2.1 j = _
    rw [sR_row _ _ _ hj]
    show (sR σ 43 4 (some 1)).2.1 j = _
    rw [sR_row _ _ _ hj]
  have a3 : (sI (sI (sR (sI (sR σ 43 4 (some 1)) 43 5 (i32 s.tx.length)) 43 6 (some 5)) 43 7 0) 43 8 (-1)).2.2 = σ.2.2 := rfl
  have a4 : (sI (sI (sR (sI (sR σ 43 4 (some 1)) 43 5 (i32 s.tx.length)) 43 6 (some 5)) 43 7 0) 43 8 (-1)).1 43 5 = i32 s.tx.length := by
    rw [sI_ne _ _ (Or.inr (by decide)), sI_ne _ _ (Or.inr (by decide))]
    exact sI_at (sR σ 43 4 (some 1)) 43 5 (i32 s.tx.length)
  have a5 : (sI (sI (sR (sI (sR σ 43 4 (some 1)) 43 5 (i32 s.tx.length)) 43 6 (some 5)) 43 7 0) 43 8 (-1)).1 43 7 = i32 0 := by
    rw [sI_ne _ _ (Or.inr (by decide)), sI_at]; rfl
  have a6 : rfv (sI (sI (sR (sI (sR σ 43 4 (some 1)) 43 5 (i32 s.tx.length)) 43 6 (some 5)) 43 7 0) 43 8 (-1)) 43 4 = some 1 := by
    unfold rfv
    rw [if_pos (show srf 43 4 = 0 from rfl)]
    show (sR (sI (sR σ 43 4 (some 1)) 43 5 (i32 s.tx.length)) 43 6 (some 5)).2.1 43 4 = _
    rw [sR_ne _ _ (Or.inr (by decide))]
    exact sR_at _ _ _ _
  have a7 : rfv (sI (sI (sR (sI (sR σ 43 4 (some 1)) 43 5 (i32 s.tx.length)) 43 6 (some 5)) 43 7 0) 43 8 (-1)) 43 6 = some 5 := by
    unfold rfv
    rw [if_pos (show srf 43 6 = 0 from rfl)]
    exact sR_at _ _ _ _
  generalize sI (sI (sR (sI (sR σ 43 4 (some 1)) 43 5 (i32 s.tx.length)) 43 6 (some 5)) 43 7 0) 43 8 (-1) = σ1 at a1 a2 a3 a4 a5 a6 a7
  have r1 : RF σ σ1 := ⟨a3, a2, fun j hj => a1 j (fun e => hj (by rw [e]; decide))⟩
  have g1 := RF_FG r1
  have hK1 : lawK σ1 t s.L := lawK_x hK g1 ⟨a1 t (by omega), a2 t (by omega)⟩ (fun r hr => by
    have := ok16 hr
    exact ⟨a1 r (by omega), a2 r (by omega)⟩)
  obtain ⟨τ, T, b1, b2, b3, b4⟩ := k_sbegin hL ht hK1
  rw [b1, Option.bind_some]
  dsimp only
  have hv1 : KV τ := by
    unfold KV
    rw [b2.2 38 (by omega), a1 38 (by omega)]
    exact hv
  obtain ⟨υ, c1, c2, c3, c4⟩ := k_rel1 hv1
  rw [c1, Option.bind_some]
  dsimp only
  rw [if_pos (show ix 0 (lS 45) = true from by decide)]
  have d1 : ∀ j, j ≠ 45 → (sI υ 45 ((0 : Int32).toNatClampNeg) 0).1 j = υ.1 j := fun j hj => sI_row _ _ hj
  have d2 : (sI υ 45 ((0 : Int32).toNatClampNeg) 0).2 = υ.2 := rfl
  have d3 : (sI υ 45 ((0 : Int32).toNatClampNeg) 0).1 45 0 = i32 0 := sI_at _ _ _ _
  generalize sI υ 45 ((0 : Int32).toNatClampNeg) 0 = ω at d1 d2 d3
  have e2 : ω.2 = σ1.2 := by rw [d2, c3, b2.1]
  have e1 : ∀ j, j ≠ 45 → j ≠ 38 → (j < 34 ∨ 37 < j) → ω.1 j = σ1.1 j := fun j x1 x2 x3 => by rw [d1 j x1, c4 j x2, b2.2 j x3]
  have eS : ∀ j, 34 ≤ j → j ≤ 37 → ω.1 j = τ.1 j := fun j x1 x2 => by rw [d1 j (by omega), c4 j (by omega)]
  have rω : RF σ ω := RF_tr r1 ⟨by rw [e2], fun j _ => by rw [e2], fun j hj => by
    have hj' : j ≠ 36 ∧ j ≠ 37 ∧ j ≠ 34 ∧ j ≠ 35 ∧ j ≠ 38 ∧ j ≠ 45 := by
      simp only [AB, AK, List.mem_cons, List.mem_nil_iff, or_false] at hj
      omega
    exact e1 j (by omega) (by omega) (by omega)⟩
  have hbi : BI s.L ω s.L.1.length s.L.2.length T := by
    unfold BI
    rw [eS 34 (by omega) (by omega), eS 35 (by omega) (by omega), eS 36 (by omega) (by omega), eS 37 (by omega) (by omega)]
    exact b3
  have hKω := KA_RF h rω
  refine ⟨ω, T, rfl, rω, b4, vtOK_nil _, ⟨BI_lwP hL hbi b4, by rw [e1 43 (by omega) (by omega) (by omega)]; exact a4, by rw [rfv_2 e2]; exact a6, hKω.1.2, 5, by rw [rfv_2 e2]; exact a7, hKω.2.2.1, by decide⟩, ⟨hbi.1, by rw [d1 38 (by omega)]; exact c2, Nat.le_refl _, by omega, by omega, by rw [e1 43 (by omega) (by omega) (by omega)]; exact a5, fun k hk => ?_, fun k rq hrq => by simp at hrq⟩, Nat.zero_le _⟩
  have hk0 : k = 0 := Nat.le_zero.mp hk
  subst hk0
  exact ⟨0, d3, rfl⟩
end KTOP11
