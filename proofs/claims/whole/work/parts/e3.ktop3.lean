section KTOP3
theorem KA_01 {σ τ : CS} {s : Sta} {tx : List Nat} (h : KA σ s) (e2 : τ.2 = σ.2) (e1 : ∀ j, j ≠ 0 → j ≠ 1 → τ.1 j = σ.1 j) (t : KAt τ tx) : KA τ (tx, s.2) := by
  obtain ⟨h1, h2, h3, h4, h5, h6, h7⟩ := h
  have z : ∀ j, j ≠ 0 → j ≠ 1 → sm σ τ j := fun j a b => ⟨e1 j a b, by rw [e2]⟩
  have z2 : ∀ j, τ.2.1 j = σ.2.1 j := fun j => by rw [e2]
  have g : FG σ τ := ⟨by rw [e2], fun j hj => z j (by omega) (by omega)⟩
  exact ⟨t, KAl_x h2 g (z2 0) (z 2 (by decide) (by decide)) (z 3 (by decide) (by decide)) (z 4 (by decide) (by decide)), shK_x shC_5 h3 g (z 5 (by decide) (by decide)) (z2 6), KAs_x h4 g (by rw [e1 25 (by decide) (by decide)]) (e1 27 (by decide) (by decide)) (z2 26), KAu_x h5 g (e1 7 (by decide) (by decide)) (fun i hi => ⟨z _ (by omega) (by omega), z2 _⟩), KAi_x h6 g (e1 29 (by decide) (by decide)) (fun j hj => ⟨z _ (by omega) (by omega), z2 _⟩), KAf_x h7 g (z2 6) (fun i hi => z2 _) (fun j hj => z2 _)⟩
theorem k_clear {σ : CS} {s : Sta} (h : KA σ s) : KO σ (f_J_clear σ) (aClear s) := ⟨sI σ 0 1 0, ⟨sI_row _ _ (by decide), rfl⟩, by unfold f_J_clear aClear; rw [h.1.1], KA_01 h rfl (fun j a b => sI_row _ _ a) ⟨sI_at _ _ _ _, fun k hk => absurd hk (Nat.not_lt_zero _)⟩⟩
theorem inR_hi {x : Int32} {n : Nat} (h0 : 0 ≤ x) (hn : n < 100000) : x ≤ i32 n ↔ inR x (n + 1) := by
  have e := i_cl h0
  have hcl := i_clt (x := x)
  constructor
  · intro h
    rw [e, z_le hcl (by omega)] at h
    exact ⟨h0, by omega⟩
  · intro h
    have := h.2
    rw [e, z_le hcl (by omega)]; omega
theorem k_type {σ : CS} {s : Sta} (hs : SOK s) (h : KA σ s) (x : Int32) : KO σ (f_J_type x σ) (aType x s) := by
  unfold f_J_type aType B_J_type_11
  have hl := hs.1
  by_cases h0 : x < 0
  · rw [if_pos h0, if_neg (fun g : inR x 256 => Int32.not_le.mpr h0 g.1)]
    exact ⟨σ, ⟨rfl, rfl⟩, rfl, h⟩
  · have h1 : 0 ≤ x := Int32.not_lt.mp h0
    rw [if_neg h0]
    by_cases hx : inR x 256
    · rw [if_pos (show x ≤ 255 from (inR_hi (n := 255) h1 (by omega)).mpr hx), if_pos hx, h.1.1]
      by_cases h32 : s.tx.length = 32
      · rw [if_pos h32, if_neg (show ¬ (i32 s.tx.length < 32) by rw [h32]; decide)]
        exact ⟨σ, ⟨rfl, rfl⟩, rfl, h⟩
      · rw [if_neg h32, if_pos (show i32 s.tx.length < 32 from Int32.not_le.mp (show ¬ ((32 : Int32) ≤ i32 s.tx.length) by rw [z32, z_le (by omega) (by omega)]; omega)), if_pos (c_ix (show s.tx.length < lS 1 from Nat.lt_of_lt_of_le (show s.tx.length < 32 by omega) (Nat.le_refl _)) (by omega)), z_nn (by omega)]
        have ex := inR_e hx
        have e3 : (sI σ 1 s.tx.length x).1 0 1 = i32 s.tx.length := by rw [sI_ne _ _ (Or.inl (by decide))]; exact h.1.1
        rw [e3, sI_at, z1, z_add]
        refine ⟨_, ⟨by rw [sI_row _ _ (by decide), sI_row _ _ (by decide)], by exact rfl⟩, rfl, KA_01 h rfl (fun j a b => by rw [sI_row _ _ a, sI_row _ _ b]) ⟨by rw [sI_at, List.length_append]; rfl, fun k hk => ?_⟩⟩
        rw [List.length_append] at hk
        rw [sI_row _ _ (show 1 ≠ 0 by decide)]
        unfold byt
        by_cases hkk : k = s.tx.length
        · subst hkk
          rw [sI_at, ex, List.getD_eq_getElem?_getD, List.getElem?_append_right (Nat.le_refl _), Nat.sub_self, ← ex]
          exact ex
        · have hk2 : k < s.tx.length := by have : [x.toNatClampNeg].length = 1 := rfl; omega
          rw [sI_ne _ _ (Or.inr hkk), h.1.2 k hk2, List.getD_eq_getElem?_getD, List.getElem?_append_left hk2]
          unfold byt
          rw [List.getD_eq_getElem?_getD]
    · rw [if_neg (show ¬ (x ≤ 255) from fun g => hx ((inR_hi (n := 255) h1 (by omega)).mp g)), if_neg hx]
      exact ⟨σ, ⟨rfl, rfl⟩, rfl, h⟩
theorem k_forget {σ : CS} {s : Sta} (h : KA σ s) : KO σ (f_J_forget σ) (aForget s) := by
  obtain ⟨h1, h2, h3, h4, h5, h6, h7⟩ := h
  refine ⟨sI σ 25 2 0, ⟨sI_row _ _ (by decide), rfl⟩, by unfold f_J_forget aForget f_Sights_empty; rw [Option.bind_some, h4.1], ?_⟩
  have e1 : ∀ j, j ≠ 25 → (sI σ 25 2 0).1 j = σ.1 j := fun j hj => sI_row _ _ hj
  have z : ∀ j, j ≠ 25 → sm σ (sI σ 25 2 0) j := fun j hj => ⟨e1 j hj, rfl⟩
  have g : FG σ (sI σ 25 2 0) := FG_sI σ _ _ (by omega)
  exact ⟨KAt_x h1 (by rw [e1 0 (by decide)]) (e1 1 (by decide)), KAl_x h2 g rfl (z 2 (by decide)) (z 3 (by decide)) (z 4 (by decide)), shK_x shC_5 h3 g (z 5 (by decide)) rfl, ⟨sI_at _ _ _ _, fun i x hx => by have hx2 : ([] : List (Nat × (Tr × Tr)))[i]? = some x := hx; simp at hx2⟩, KAu_x h5 g (e1 7 (by decide)) (fun i hi => ⟨z _ (by omega), rfl⟩), KAi_x h6 g (e1 29 (by decide)) (fun j hj => ⟨z _ (by omega), rfl⟩), KAf_x h7 g rfl (fun i hi => rfl) (fun j hj => rfl)⟩
theorem k_entry {σ : CS} {s : Sta} (hs : SOK s) (h : KA σ s) (x p k : Int32) : KO σ (f_J_entry x p k σ) (aEntry x p k s) := by
  refine ⟨σ, ⟨rfl, rfl⟩, ?_, h⟩
  have h3 := h.2.2.1
  have hE := hs.2.2.2.1
  unfold f_J_entry aEntry B_J_entry_28 B_J_entry_47
  by_cases hx : inR x s.en.length
  · obtain ⟨c, e, c1, c2, c3⟩ := k_shAt1 h3 hx
    obtain ⟨b1, f, g, b2, b3, b4, b5⟩ := c3
    obtain ⟨n1, n2⟩ := ent_ln (hE.2 e (List.mem_of_getElem? c1))
    rw [if_pos hx, c2, Option.bind_some, c1]
    dsimp only [Option.elim]
    by_cases h0 : p < 0
    · rw [if_pos h0, if_neg (fun g : inR p 2 => Int32.not_le.mpr h0 g.1)]
    · have h1 : 0 ≤ p := Int32.not_lt.mp h0
      rw [if_neg h0]
      by_cases hp : inR p 2
      · have hp1 : p ≤ i32 1 := (inR_hi (n := 1) h1 (by omega)).mpr hp
        rw [if_neg (show ¬ (1 < p) from Int32.not_lt.mpr hp1), if_pos hp]
        by_cases hk : 0 ≤ k
        · rw [if_pos hk, if_pos hk]
          by_cases hp0 : p = 0
          · rw [if_pos hp0, if_pos b1, b2, Option.bind_some, if_pos b4.1, k_formAt b4 hk n1, Option.bind_some, if_pos hp0]
          · rw [if_neg hp0, if_pos b1, b3, Option.bind_some, if_pos b5.1, k_formAt b5 hk n2, Option.bind_some, if_neg hp0]
        · rw [if_neg hk, if_neg hk]
      · have hp1 : ¬ (p ≤ i32 1) := fun g => hp ((inR_hi (n := 1) h1 (by omega)).mp g)
        rw [if_pos (show 1 < p from Int32.not_le.mp hp1), if_neg hp]
  · rw [if_neg hx, k_shAt0 h3 hx, Option.bind_some]
    rfl
end KTOP3
