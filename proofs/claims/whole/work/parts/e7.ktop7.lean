section KTOP7
theorem k_undo {σ : CS} {s : Sta} (hs : SOK s) (h : KA σ s) : KO σ (f_J_undo σ) (aUndo s) := by
  unfold f_J_undo aUndo
  have hn := hs.2.2.2.2.2.1.1
  obtain ⟨h1, h2, h3, h4, ⟨nw, n1, n2, n3, n4⟩, h6, f5, f9, f30⟩ := id h
  rw [n3]
  cases hu : s.un with
  | nil =>
    rw [if_pos (show i32 ([] : List Ens).length = 0 from rfl)]
    exact ⟨σ, ⟨rfl, rfl⟩, rfl, h⟩
  | cons p r =>
    rw [hu] at hn n3 n4
    rw [List.length_cons] at hn n3 ⊢
    have hp := n4 0 p rfl
    rw [show (nw + 8 - 0) % 8 = nw by omega] at hp
    obtain ⟨τ, t1, t2, t3, t4, t5, t6⟩ := k_become shD_5 (shD_9 nw n1) (by omega) f5 (f9 nw n1) hp
    rw [if_neg (show ¬ (i32 (r.length + 1) = 0) from c_eq (b := 0) (by omega) (by omega) (by omega))]
    have fin : ∀ (c : Nat), c < 8 → (∀ i, i < 7 → (nw + 8 - (i + 1)) % 8 = (c + 8 - i) % 8) → KO σ ((some ((0 : Int32), sI (sI τ 7 1 (i32 c)) 7 2 (((sI τ 7 1 (i32 c)).1 7 2) - 1))).bind fun q1 => some ((q1.2.1 7 2), q1.2)) (i32 r.length, (s.tx, s.L, p, s.sg, r, s.im)) := by
      intro c hc hm
      rw [Option.bind_some]
      dsimp only
      have a2 : (sI τ 7 1 (i32 c)).1 7 2 = i32 (r.length + 1) := by rw [sI_ne _ _ (Or.inr (by decide)), t3 7 (by omega)]; exact n3
      rw [a2, z_sub1]
      have u1 : ∀ j, j ≠ 7 → (sI (sI τ 7 1 (i32 c)) 7 2 (i32 r.length)).1 j = τ.1 j := fun j hj => by rw [sI_row _ _ hj, sI_row _ _ hj]
      have u2 : (sI (sI τ 7 1 (i32 c)) 7 2 (i32 r.length)).2 = τ.2 := rfl
      have u3 : (sI (sI τ 7 1 (i32 c)) 7 2 (i32 r.length)).1 7 2 = i32 r.length := sI_at _ _ _ _
      have u4 : (sI (sI τ 7 1 (i32 c)) 7 2 (i32 r.length)).1 7 1 = i32 c := by rw [sI_ne _ _ (Or.inr (by decide)), sI_at]
      have gu : FG τ (sI (sI τ 7 1 (i32 c)) 7 2 (i32 r.length)) := FG_tr (FG_sI τ _ _ (by omega)) (FG_sI _ _ _ (by omega))
      generalize sI (sI τ 7 1 (i32 c)) 7 2 (i32 r.length) = υ at u1 u2 u3 u4 gu
      have g := FG_tr t2 gu
      have v1 : ∀ j, j ≠ 7 → j ≠ 5 → υ.1 j = σ.1 j := fun j a b => (u1 j a).trans (t3 j b)
      have v2 : ∀ j, j ≠ 6 → υ.2.1 j = σ.2.1 j := fun j a => by rw [u2]; exact t4 j a
      have z : ∀ j, j ≠ 7 → j ≠ 5 → j ≠ 6 → sm σ υ j := fun j a b c => ⟨v1 j a b, v2 j c⟩
      have hen : shK υ 5 p := shK_x shC_5 t5 gu ⟨u1 5 (by omega), by rw [u2]⟩ (by rw [u2])
      refine ⟨υ, ⟨v1 38 (by omega) (by omega), g.1⟩, by rw [u3], KAt_x h1 (by rw [v1 0 (by omega) (by omega)]) (v1 1 (by omega) (by omega)), KAl_x h2 g (v2 0 (by omega)) (z 2 (by omega) (by omega) (by omega)) (z 3 (by omega) (by omega) (by omega)) (z 4 (by omega) (by omega) (by omega)), hen, KAs_x h4 g (by rw [v1 25 (by omega) (by omega)]) (v1 27 (by omega) (by omega)) (v2 26 (by omega)), ⟨c, hc, u4, u3, fun i l hl => ?_⟩, KAi_x h6 g (v1 29 (by omega) (by omega)) (fun j hj => ⟨z _ (by omega) (by omega) (by omega), v2 _ (by omega)⟩), shF_x shC_5 t6 gu (by rw [u2]), fun i hi => shF_x (shC_9 i hi) (f9 i hi) g (v2 _ (by omega)), fun j hj => shF_x (shC_30 j hj) (f30 j hj) g (v2 _ (by omega))⟩
      have hil := (List.getElem?_eq_some_iff.mp hl).1
      have hil' : i < r.length := hil
      have := n4 (i + 1) l (by rw [List.getElem?_cons_succ]; exact hl)
      rw [hm i (by omega)] at this
      have hm8 := mod8 (c + 8 - i)
      generalize (c + 8 - i) % 8 = m at this hm8
      exact shK_x (shC_9 m hm8) this g (z _ (by omega) (by omega) (by omega)) (v2 _ (by omega))
    unfold f_History_restore B_History_restore_40
    rw [n3, if_neg (show ¬ (i32 (r.length + 1) = 0) from c_eq (b := 0) (by omega) (by omega) (by omega)), n2, if_pos (c_ix (show nw < lS 8 from Nat.lt_of_lt_of_le n1 (Nat.le_refl _)) (by omega)), Option.bind_some, if_pos (shF_r shD_5 f5).1, z_nn (by omega), rfv_8 σ n1, t1, Option.bind_some]
    dsimp only
    have t71 : τ.1 7 1 = i32 nw := by rw [t3 7 (by omega)]; exact n2
    rw [t71]
    by_cases h0 : nw = 0
    · rw [if_pos (show i32 nw ≤ 0 by rw [h0]; decide)]
      exact fin 7 (by omega) (fun i hi => by omega)
    · rw [if_neg (show ¬ (i32 nw ≤ 0) by rw [z0, z_le (by omega) (by omega)]; omega), show i32 nw - 1 = i32 (nw - 1) by rw [z1, z_sub (by omega)]]
      exact fin (nw - 1) (by omega) (fun i hi => by omega)
/-- the entries are noted -/
theorem k_note {σ : CS} {s : Sta} (hs : SOK s) (h : KA σ s) : ∃ τ, f_History_note (some 5) σ = some (0, τ) ∧ KA τ (s.tx, s.L, s.en, s.sg, (s.en :: s.un).take 8, s.im) ∧ FG σ τ ∧ ∀ j, j ≠ 7 → (∀ i, i < 8 → j ≠ 9 + 2 * i) → (∀ i, i < 8 → j ≠ 9 + 2 * i + 1) → sm σ τ j := by
  have hn := hs.2.2.2.2.2.1.1
  obtain ⟨h1, h2, h3, h4, ⟨nw, n1, n2, n3, n4⟩, h6, f5, f9, f30⟩ := id h
  have fin : ∀ (c : Nat), c < 8 → (∀ i, i < 7 → (nw + 8 - i) % 8 = (c + 8 - (i + 1)) % 8 ∧ (nw + 8 - i) % 8 ≠ c) → ∃ τ, B_History_note_22 (some 5) (i32 c) σ = some (0, τ) ∧ KA τ (s.tx, s.L, s.en, s.sg, (s.en :: s.un).take 8, s.im) ∧ FG σ τ ∧ ∀ j, j ≠ 7 → (∀ i, i < 8 → j ≠ 9 + 2 * i) → (∀ i, i < 8 → j ≠ 9 + 2 * i + 1) → sm σ τ j := by
    intro c hc hm
    unfold B_History_note_22
    rw [sI_at, if_pos (c_ix (show c < lS 8 from Nat.lt_of_lt_of_le hc (Nat.le_refl _)) (by omega)), z_nn (by omega), rfv_8 _ hc, Option.bind_some]
    have u1 : ∀ j, j ≠ 7 → (sI σ 7 1 (i32 c)).1 j = σ.1 j := fun j hj => sI_row _ _ hj
    have u2 : (sI σ 7 1 (i32 c)).2 = σ.2 := rfl
    have u3 : (sI σ 7 1 (i32 c)).1 7 2 = i32 s.un.length := by rw [sI_ne _ _ (Or.inr (by decide))]; exact n3
    have u4 : (sI σ 7 1 (i32 c)).1 7 1 = i32 c := sI_at _ _ _ _
    have gu : FG σ (sI σ 7 1 (i32 c)) := FG_sI σ _ _ (by omega)
    generalize sI σ 7 1 (i32 c) = σ1 at u1 u2 u3 u4 gu
    have f5' : shF σ1 5 := shF_x shC_5 f5 gu (by rw [u2])
    have f9' : shF σ1 (9 + 2 * c) := shF_x (shC_9 c hc) (f9 c hc) gu (by rw [u2])
    have h3' : shK σ1 5 s.en := shK_x shC_5 h3 gu ⟨u1 5 (by omega), by rw [u2]⟩ (by rw [u2])
    obtain ⟨τ, t1, t2, t3, t4, t5, t6⟩ := k_become (shD_9 c hc) shD_5 (by omega) f9' f5' h3'
    rw [if_pos (shF_r (shD_9 c hc) f9').1, t1, Option.bind_some]
    dsimp only
    have e72 : τ.1 7 2 + 1 = i32 (s.un.length + 1) := by rw [t3 7 (by omega), u3, z1, z_add]
    rw [e72]
    have el : (if (8 : Int32) < i32 (s.un.length + 1) then 8 else i32 (s.un.length + 1)) = i32 ((s.en :: s.un).take 8).length := by
      rw [List.length_take, List.length_cons]
      by_cases h8 : s.un.length = 8
      · rw [if_pos (show (8 : Int32) < i32 (s.un.length + 1) from (i_lt (a := 8) (by omega) (by omega)).mpr (by omega)), h8]
        rfl
      · rw [if_neg (show ¬ ((8 : Int32) < i32 (s.un.length + 1)) from fun g => by have := (i_lt (a := 8) (by omega) (by omega)).mp g; omega), Nat.min_eq_right (by omega)]
    rw [el]
    have w1 : ∀ j, j ≠ 7 → (sI τ 7 2 (i32 ((s.en :: s.un).take 8).length)).1 j = τ.1 j := fun j hj => sI_row _ _ hj
    have w2 : (sI τ 7 2 (i32 ((s.en :: s.un).take 8).length)).2 = τ.2 := rfl
    have w3 : (sI τ 7 2 (i32 ((s.en :: s.un).take 8).length)).1 7 2 = i32 ((s.en :: s.un).take 8).length := sI_at _ _ _ _
    have w4 : (sI τ 7 2 (i32 ((s.en :: s.un).take 8).length)).1 7 1 = i32 c := by rw [sI_ne _ _ (Or.inr (by decide)), t3 7 (by omega), u4]
    have gw : FG τ (sI τ 7 2 (i32 ((s.en :: s.un).take 8).length)) := FG_sI τ _ _ (by omega)
    generalize sI τ 7 2 (i32 ((s.en :: s.un).take 8).length) = υ at w1 w2 w3 w4 gw
    have g2 := FG_tr t2 gw
    have g := FG_tr gu g2
    have v1 : ∀ j, j ≠ 7 → j ≠ 9 + 2 * c → υ.1 j = σ.1 j := fun j a b => by rw [w1 j a, t3 j b, u1 j a]
    have v2 : ∀ j, j ≠ 9 + 2 * c + 1 → υ.2.1 j = σ.2.1 j := fun j a => by rw [w2, t4 j a, u2]
    have z : ∀ j, j ≠ 7 → j ≠ 9 + 2 * c → j ≠ 9 + 2 * c + 1 → sm σ υ j := fun j a b d => ⟨v1 j a b, v2 j d⟩
    have z0 : ∀ j, j < 7 → sm σ υ j := fun j hj => z j (by omega) (by omega) (by omega)
    have z25 : ∀ j, 25 ≤ j → sm σ υ j := fun j hj => z j (by omega) (by omega) (by omega)
    have hnew : shK υ (9 + 2 * c) s.en := shK_x (shC_9 c hc) t5 gw ⟨w1 _ (by omega), by rw [w2]⟩ (by rw [w2])
    refine ⟨υ, rfl, ⟨KAt_x h1 (by rw [(z0 0 (by omega)).1]) (z0 1 (by omega)).1, KAl_x h2 g (z0 0 (by omega)).2 (z0 2 (by omega)) (z0 3 (by omega)) (z0 4 (by omega)), shK_x shC_5 h3 g (z0 5 (by omega)) (z0 6 (by omega)).2, KAs_x h4 g (by rw [(z25 25 (by omega)).1]) (z25 27 (by omega)).1 (z25 26 (by omega)).2, ⟨c, hc, w4, w3, fun i l hl => ?_⟩, KAi_x h6 g (z25 29 (by omega)).1 (fun j hj => ⟨z25 _ (by omega), (z25 _ (by omega)).2⟩), shF_x shC_5 f5 g (z0 6 (by omega)).2, fun i hi => ?_, fun j hj => shF_x (shC_30 j hj) (f30 j hj) g (z25 _ (by omega)).2⟩, g, fun j a b d => z j a (b c hc) (d c hc)⟩
    · have hl' : ((s.en :: s.un).take 8)[i]? = some l := hl
      have hil := (List.getElem?_eq_some_iff.mp hl').1
      rw [List.length_take] at hil
      rw [List.getElem?_take, if_pos (by omega)] at hl'
      cases i with
      | zero =>
        rw [List.getElem?_cons_zero] at hl'
        injection hl' with hl'
        rw [← hl', show (c + 8 - 0) % 8 = c by omega]
        exact hnew
      | succ i =>
        rw [List.getElem?_cons_succ] at hl'
        obtain ⟨m1, m2⟩ := hm i (by omega)
        have := n4 i l hl'
        rw [← m1]
        have hm8 := mod8 (nw + 8 - i)
        generalize (nw + 8 - i) % 8 = m at this hm8 m2
        exact shK_x (shC_9 m hm8) this g (z _ (by omega) (by omega) (by omega)) (v2 _ (by omega))
    · by_cases hic : i = c
      · subst hic
        exact shF_x (shC_9 i hi) t6 gw (by rw [w2])
      · exact shF_x (shC_9 i hi) (f9 i hi) g (v2 _ (by omega))
  unfold f_History_note
  rw [n2, show i32 nw + 1 = i32 (nw + 1) by rw [z1, z_add]]
  by_cases h7 : nw = 7
  · rw [if_pos (show (8 : Int32) ≤ i32 (nw + 1) by rw [h7]; decide)]
    exact fin 0 (by omega) (fun i hi => ⟨by omega, by omega⟩)
  · rw [if_neg (show ¬ ((8 : Int32) ≤ i32 (nw + 1)) by rw [z8, z_le (by omega) (by omega)]; omega)]
    exact fin (nw + 1) (by omega) (fun i hi => ⟨by omega, by omega⟩)
end KTOP7
