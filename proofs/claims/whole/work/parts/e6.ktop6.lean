section KTOP6
theorem rfv_28 (σ : CS) {w : Nat} (hw : w < 2) : rfv σ 28 w = some (30 + 2 * w) := by
  have : ∀ w, w < 2 → srf 28 w = 30 + 2 * w := by decide
  unfold rfv
  rw [this w hw, if_neg (by omega)]
theorem rfv_8 (σ : CS) {w : Nat} (hw : w < 8) : rfv σ 8 w = some (9 + 2 * w) := by
  have : ∀ w, w < 8 → srf 8 w = 9 + 2 * w := by decide
  unfold rfv
  rw [this w hw, if_neg (by omega)]
theorem imK_g {σ : CS} {s : Sta} (h : KA σ s) {w : Nat} (hw : w < 2) : imK σ w (getIm s.im w) := by
  obtain rfl | rfl : w = 0 ∨ w = 1 := by omega
  · exact h.2.2.2.2.2.1.1
  · exact h.2.2.2.2.2.1.2
theorem k_keep {σ : CS} {s : Sta} (h : KA σ s) (x : Int32) : KO σ (f_J_keep x σ) (aKeep x s) := by
  unfold f_J_keep aKeep B_J_keep_9
  by_cases h0 : x < 0
  · rw [if_pos h0, if_neg (fun g : inR x 2 => Int32.not_le.mpr h0 g.1)]
    exact ⟨σ, ⟨rfl, rfl⟩, rfl, h⟩
  have h1 : 0 ≤ x := Int32.not_lt.mp h0
  rw [if_neg h0]
  by_cases hx : inR x 2
  · have ex := inR_e hx
    have hxl := hx.2
    rw [if_pos hx]
    generalize x.toNatClampNeg = w at ex hxl
    subst ex
    obtain ⟨h1, h2, h3, h4, h5, h6, f5, f9, f30⟩ := h
    obtain ⟨τ, t1, t2, t3, t4, t5, t6⟩ := k_become (shD_30 w hxl) shD_5 (by omega) (f30 w hxl) f5 h3
    rw [if_pos (show i32 w < 2 from (i_lt (b := 2) (by omega) (by omega)).mpr hxl), if_pos (c_ix (show w < lS 28 from Nat.lt_of_lt_of_le hxl (Nat.le_refl _)) (by omega)), rfv_28 σ hxl, Option.bind_some, if_pos (shF_r (shD_30 w hxl) (f30 w hxl)).1, t1, Option.bind_some]
    dsimp only
    rw [if_pos (c_ix (show w < lS 29 from Nat.lt_of_lt_of_le hxl (Nat.le_refl _)) (by omega))]
    have u1 : ∀ j, j ≠ 29 → (sI τ 29 w 1).1 j = τ.1 j := fun j hj => sI_row _ _ hj
    have u2 : (sI τ 29 w 1).2 = τ.2 := rfl
    have u3 : (sI τ 29 w 1).1 29 w = 1 := sI_at _ _ _ _
    have u4 : ∀ j, j ≠ w → (sI τ 29 w 1).1 29 j = τ.1 29 j := fun j hj => sI_ne _ _ (Or.inr hj)
    have gu : FG τ (sI τ 29 w 1) := FG_sI τ _ _ (by omega)
    generalize sI τ 29 w 1 = υ at u1 u2 u3 u4 gu
    have g := FG_tr t2 gu
    have v1 : ∀ j, j ≠ 29 → j ≠ 30 + 2 * w → υ.1 j = σ.1 j := fun j a b => (u1 j a).trans (t3 j b)
    have v2 : ∀ j, j ≠ 30 + 2 * w + 1 → υ.2.1 j = σ.2.1 j := fun j a => by rw [u2]; exact t4 j a
    have z : ∀ j, j ≠ 29 → j ≠ 30 + 2 * w → j ≠ 30 + 2 * w + 1 → sm σ υ j := fun j a b c => ⟨v1 j a b, v2 j c⟩
    have hnew : imK υ w (some s.en) := ⟨u3, shK_x (shC_30 w hxl) t5 gu ⟨u1 _ (by omega), by rw [u2]⟩ (by rw [u2])⟩
    have hold : ∀ (j : Nat) (o : Option Ens), j < 2 → j ≠ w → imK σ j o → imK υ j o := fun j o hj hjw hi => imK_x hj hi g (by rw [u4 j hjw, t3 29 (by omega)]) (z _ (by omega) (by omega) (by omega)) (v2 _ (by omega))
    refine ⟨υ, ⟨v1 38 (by omega) (by omega), g.1⟩, by rw [v1 5 (by omega) (by omega), h3.2.1], KAt_x h1 (by rw [v1 0 (by omega) (by omega)]) (v1 1 (by omega) (by omega)), KAl_x h2 g (v2 0 (by omega)) (z 2 (by omega) (by omega) (by omega)) (z 3 (by omega) (by omega) (by omega)) (z 4 (by omega) (by omega) (by omega)), shK_x shC_5 h3 g (z 5 (by omega) (by omega) (by omega)) (v2 6 (by omega)), KAs_x h4 g (by rw [v1 25 (by omega) (by omega)]) (v1 27 (by omega) (by omega)) (v2 26 (by omega)), KAu_x h5 g (v1 7 (by omega) (by omega)) (fun i hi => ⟨z _ (by omega) (by omega) (by omega), v2 _ (by omega)⟩), ?_, shF_x shC_5 f5 g (v2 6 (by omega)), fun i hi => shF_x (shC_9 i hi) (f9 i hi) g (v2 _ (by omega)), fun j hj => ?_⟩
    · obtain rfl | rfl : w = 0 ∨ w = 1 := by omega
      · exact ⟨hnew, hold 1 _ (by omega) (by omega) h6.2⟩
      · exact ⟨hold 0 _ (by omega) (by omega) h6.1, hnew⟩
    · by_cases hjw : j = w
      · subst hjw
        exact shF_x (shC_30 j hj) t6 gu (by rw [u2])
      · exact shF_x (shC_30 j hj) (f30 j hj) g (v2 _ (by omega))
  · have hx1 : ¬ (x < 2) := fun g => hx ⟨h1, by
      rw [i_cl h1] at g
      exact (i_lt (b := 2) i_clt (by omega)).mp g⟩
    rw [if_neg hx1, if_neg hx]
    exact ⟨σ, ⟨rfl, rfl⟩, rfl, h⟩
theorem k_back {σ : CS} {s : Sta} (h : KA σ s) (x : Int32) : KO σ (f_J_back x σ) (aBack x s) := by
  unfold f_J_back aBack B_J_back_9
  by_cases h0 : x < 0
  · rw [if_pos h0, if_neg (fun g : inR x 2 => Int32.not_le.mpr h0 g.1)]
    exact ⟨σ, ⟨rfl, rfl⟩, rfl, h⟩
  have h1 : 0 ≤ x := Int32.not_lt.mp h0
  rw [if_neg h0]
  by_cases hx : inR x 2
  · have ex := inR_e hx
    have hxl := hx.2
    rw [if_pos hx]
    generalize x.toNatClampNeg = w at ex hxl
    subst ex
    have hi := imK_g h hxl
    rw [if_pos (show i32 w < 2 from (i_lt (b := 2) (by omega) (by omega)).mpr hxl), if_pos (c_ix (show w < lS 29 from Nat.lt_of_lt_of_le hxl (Nat.le_refl _)) (by omega))]
    cases hg : getIm s.im w with
    | none =>
      rw [hg] at hi
      unfold imK at hi
      rw [hi, if_pos rfl]
      exact ⟨σ, ⟨rfl, rfl⟩, rfl, h⟩
    | some l =>
      rw [hg] at hi
      obtain ⟨h29, hl⟩ := hi
      obtain ⟨h1, h2, h3, h4, h5, h6, f5, f9, f30⟩ := h
      obtain ⟨τ, t1, t2, t3, t4, t5, t6⟩ := k_become shD_5 (shD_30 w hxl) (by omega) f5 (f30 w hxl) hl
      rw [h29, if_neg (show ¬ ((1 : Int32) = 0) from by decide), if_pos (c_ix (show w < lS 28 from Nat.lt_of_lt_of_le hxl (Nat.le_refl _)) (by omega)), rfv_28 σ hxl, t1, Option.bind_some]
      dsimp only
      unfold f_History_empty
      rw [Option.bind_some]
      have u1 : ∀ j, j ≠ 7 → (sI τ 7 2 0).1 j = τ.1 j := fun j hj => sI_row _ _ hj
      have u2 : (sI τ 7 2 0).2 = τ.2 := rfl
      have u3 : (sI τ 7 2 0).1 7 2 = 0 := sI_at _ _ _ _
      have u4 : (sI τ 7 2 0).1 7 1 = τ.1 7 1 := sI_ne _ _ (Or.inr (by decide))
      have gu : FG τ (sI τ 7 2 0) := FG_sI τ _ _ (by omega)
      dsimp only
      generalize sI τ 7 2 0 = υ at u1 u2 u3 u4 gu
      have g := FG_tr t2 gu
      have v1 : ∀ j, j ≠ 7 → j ≠ 5 → υ.1 j = σ.1 j := fun j a b => (u1 j a).trans (t3 j b)
      have v2 : ∀ j, j ≠ 6 → υ.2.1 j = σ.2.1 j := fun j a => by rw [u2]; exact t4 j a
      have z : ∀ j, j ≠ 7 → j ≠ 5 → j ≠ 6 → sm σ υ j := fun j a b c => ⟨v1 j a b, v2 j c⟩
      obtain ⟨nw, n1, n2, n3, n4⟩ := h5
      have hen : shK υ 5 l := shK_x shC_5 t5 gu ⟨u1 5 (by omega), by rw [u2]⟩ (by rw [u2])
      exact ⟨υ, ⟨v1 38 (by omega) (by omega), g.1⟩, by rw [hen.2.1], KAt_x h1 (by rw [v1 0 (by omega) (by omega)]) (v1 1 (by omega) (by omega)), KAl_x h2 g (v2 0 (by omega)) (z 2 (by omega) (by omega) (by omega)) (z 3 (by omega) (by omega) (by omega)) (z 4 (by omega) (by omega) (by omega)), hen, KAs_x h4 g (by rw [v1 25 (by omega) (by omega)]) (v1 27 (by omega) (by omega)) (v2 26 (by omega)), ⟨nw, n1, by rw [u4, t3 7 (by omega)]; exact n2, u3, fun i l hl => by have hl2 : ([] : List Ens)[i]? = some l := hl; simp at hl2⟩, KAi_x h6 g (v1 29 (by omega) (by omega)) (fun j hj => ⟨z _ (by omega) (by omega) (by omega), v2 _ (by omega)⟩), shF_x shC_5 t6 gu (by rw [u2]), fun i hi => shF_x (shC_9 i hi) (f9 i hi) g (v2 _ (by omega)), fun j hj => shF_x (shC_30 j hj) (f30 j hj) g (v2 _ (by omega))⟩
  · have hx1 : ¬ (x < 2) := fun g => hx ⟨h1, by
      rw [i_cl h1] at g
      exact (i_lt (b := 2) i_clt (by omega)).mp g⟩
    rw [if_neg hx1, if_neg hx]
    exact ⟨σ, ⟨rfl, rfl⟩, rfl, h⟩
end KTOP6
