section TOP15
variable {L : Lw} {tx : List Nat}
theorem m_nextConstant (hL : lwOK L) (hl : tx.length ≤ 32) (hbt : ∀ x ∈ tx, x < 256) {σ : MS} {V E T p : Nat} (hd : DI L tx σ V E T p) (hp : p < tx.length) (h107 : byt tx p = 107) : DO tx σ (f_nextConstant σ) (spD tx p L) := by
  obtain ⟨hs, hP, h7, hb3⟩ := hd
  have l1 := hL.1
  have l2 := hL.2.1
  unfold spD
  rw [if_neg (show ¬ (byt tx p = 102) by omega), if_pos h107]
  unfold f_nextConstant
  by_cases h3 : L.2.length = 4
  · rw [if_pos h3]
    rw [hs.2.2.2.1, if_pos (show i32 L.2.length = 4 by rw [h3]; rfl), m_fails _ hP.2.2.2.2.1, Option.bind_some, hP.2.2.2.1]
    exact ⟨_, rfl, LF_F σ _ (by simp [FM]), hb3, by omega, setF_eq _ _ _⟩
  · rw [if_neg h3]
    have hw : WL L [] tx := ⟨hL, ents_nil L, Nat.zero_le _, hl, hbt⟩
    have e1 : σ.1 56 + 1 = i32 (p + 1) := by rw [hP.2.2.2.1, z1, z_add]
    rw [hs.2.2.2.1, if_neg (show ¬ (i32 L.2.length = 4) from c_eq (b := 4) h3 (by omega) (by omega)), e1]
    have hs1 : RS L [] tx (setF σ 56 (i32 (p + 1))) := by
      obtain ⟨f1, f2⟩ := RS_969 hs h7
      have o : ∀ k, k ≠ 56 → (setF σ 56 (i32 (p + 1))).1 k = σ.1 k := fun k hk => setF_ne _ _ hk
      exact RS_new hs (o 3 (by decide)) rfl (by rw [o 4 (by decide)]; exact hs.2.2.1) (by rw [o 5 (by decide)]; exact hs.2.2.2.1) (by rw [o 7 (by decide)]; exact h7) (o 9 (by decide)) f1 f2 (fun k hk => hs.2.2.2.2.2.1 k hk) (fun _ _ => rfl) (fun i _ => rfl)
    have hP1 : Pos (setF σ 56 (i32 (p + 1))) V E T (p + 1) := by
      obtain ⟨a1, a2, a3, a4, a5, a6, a7, a8, a9, a10, a11⟩ := hP
      exact ⟨a1, a2, a3, setF_eq σ 56 (i32 (p + 1)), a5, by omega, by omega, a8, by omega, a10, a11⟩
    have hF1 : LF σ (setF σ 56 (i32 (p + 1))) := LF_F σ _ (by simp [FM])
    have hb1 : b3 (setF σ 56 (i32 (p + 1))) := hb3
    have h71 : (setF σ 56 (i32 (p + 1))).1 7 = i32 969 := by rw [setF_ne _ _ (by decide)]; exact h7
    generalize setF σ 56 (i32 (p + 1)) = σ1 at hs1 hP1 hF1 hb1 h71
    rw [wt_eq, bnd2]
    have w := m_wholeType hw hs1 hP1 (by omega)
    have oT := (okRD (tx := tx) hL (ents_nil L) (Nat.zero_le _) 70).1
    cases hr : (RD L [] tx 70).1 [] (p + 1) with
    | error e =>
      rw [hr] at w
      obtain ⟨he, y, τ, t1, t2, t3⟩ := w
      rw [t1, Option.bind_some]
      dsimp only
      unfold B_nextConstant_57
      rw [t2, if_pos (i_nn (by omega))]
      have m1 := LF_MF (MF_L t3 hP1.2.2.2.2.2.2.2.2.2.1 hP1.2.2.2.2.2.2.2.2.2.2 hP1.2.2.2.2.2.2.2.1)
      exact ⟨_, rfl, LF_tr hF1 (LF_tr m1 (LF_F _ _ (by simp))), b3_kp hb1 t3.1, he, t2⟩
    | ok a =>
      obtain ⟨a1, a2, a3, a4⟩ := oT _ _ _ (vtOK_nil L) hr
      rw [hr] at w
      obtain ⟨y, g, τ, V', E', T', t1, t2, t3, t4, t5, t6, t7, t8, t9, t10, t11, t12⟩ := w
      rw [t1, Option.bind_some]
      dsimp only
      have hT := Pos_T t3 (by omega)
      have m1 := LF_MF (MF_L t7 hP1.2.2.2.2.2.2.2.2.2.1 hP1.2.2.2.2.2.2.2.2.2.2 hP1.2.2.2.2.2.2.2.1)
      have hb2 := b3_kp hb1 t7.1
      have p1 : pr (fxM τ) a.1 := WT_pr ⟨hL.1, hL.2.1⟩ t2.2.2.2.2.2.1 _ _ a1
      have h72 : τ.1 7 = i32 969 := by rw [t7.2.1 7 (by decide)]; exact h71
      have hlo := lo_get t12 t8 (by unfold ln at t10; omega)
      have hla : ln a.1 ≤ 50 := a2.1
      unfold B_nextConstant_57
      rw [t3.2.2.2.2.1, if_neg neg9_lt, t8, t2.2.2.2.1, show (969 : Int32) + 51 * (3 + i32 L.2.length) = i32 (969 + 51 * (3 + L.2.length)) by simp only [z969, z51, z3, z_mul, z_add], m_toSlot p1 t9 (by omega) (by omega) (Or.inl (by omega)), Option.bind_some]
      dsimp only
      show DO tx σ _ (.ok ((L.1, L.2 ++ [a.1]), a.2))
      have o1 : ∀ k, k < ln a.1 → (brg τ 1 g 1 (969 + 51 * (3 + L.2.length)) (ln a.1)).2.1 1 (969 + 51 * (3 + L.2.length) + k) = τ.2.1 1 (g + k) := fun k hk => brg_in _ _ _ _ _ _ _ hk
      have o2 : ∀ q, q < 969 + 51 * (3 + L.2.length) ∨ 969 + 51 * (3 + L.2.length) + ln a.1 ≤ q → (brg τ 1 g 1 (969 + 51 * (3 + L.2.length)) (ln a.1)).2.1 1 q = τ.2.1 1 q := fun q hq => brg_out _ _ _ _ _ _ hq
      have oo : ∀ c, c ≠ 1 → (brg τ 1 g 1 (969 + 51 * (3 + L.2.length)) (ln a.1)).2.1 c = τ.2.1 c := fun c hc => brg_ne _ _ _ _ _ _ hc
      have of : (brg τ 1 g 1 (969 + 51 * (3 + L.2.length)) (ln a.1)).1 = τ.1 := rfl
      have ol : (brg τ 1 g 1 (969 + 51 * (3 + L.2.length)) (ln a.1)).2.2 = τ.2.2 := rfl
      have oF := LF_b τ (i := g) (j := 969 + 51 * (3 + L.2.length)) (n := ln a.1) (by omega) (by omega)
      generalize brg τ 1 g 1 (969 + 51 * (3 + L.2.length)) (ln a.1) = ω at o1 o2 oo of ol oF
      have hb4 : b3 ω := fun k hk => by rw [oo 3 (by decide)]; exact hb2 k hk
      rw [of]
      obtain ⟨f1, f2⟩ := RS_969 t2 h72
      have o : ∀ k, k ≠ 5 → (setF ω 5 (τ.1 5 + 1)).1 k = τ.1 k := fun k hk => by rw [setF_ne _ _ hk, of]
      refine ⟨setF ω 5 (τ.1 5 + 1), rfl, LF_tr hF1 (LF_tr m1 (LF_tr oF (LF_F _ _ (by simp)))), hb4, V', E', T', ?_, ?_, ?_, hb4⟩
      · refine RS_new (M := (L.1, L.2 ++ [a.1])) t2 (o 3 (by decide)) (oo 2 (by decide)) (by rw [o 4 (by decide)]; exact t2.2.2.1) ?_ (by rw [o 7 (by decide)]; exact h72) (o 9 (by decide)) (fun k I hI => ?_) (fun k U hU => ?_) (fun k hk => ?_) (fun i _ => by show ω.2.2 i = _; rw [ol]) (fun i _ => by show ω.2.1 11 i = _; rw [oo 11 (by decide)])
        · rw [setF_eq, t2.2.2.2.1, z1, z_add]
          show _ = i32 (L.2 ++ [a.1]).length
          rw [List.length_append]; rfl
        · have hk := (List.getElem?_eq_some_iff.mp hI).1
          have hk' : k < L.1.length := hk
          have : ln I ≤ 50 := (hL.2.2.1 k I hI).2.2.1
          exact fm_sh (fun i hi => o2 _ (by omega)) (f1 k I hI)
        · have hU' : (L.2 ++ [a.1])[k]? = some U := hU
          show fm (ω.2.1 1) _ _
          by_cases hk : k < L.2.length
          · rw [List.getElem?_append_left hk] at hU'
            have : ln U ≤ 50 := (hL.2.2.2 k U hU').2.1
            exact fm_sh (fun i hi => o2 _ (by omega)) (f2 k U hU')
          · have hlt := (List.getElem?_eq_some_iff.mp hU').1
            rw [List.length_append, List.length_singleton] at hlt
            obtain rfl : k = L.2.length := by omega
            rw [List.getElem?_append_right (Nat.le_refl _), Nat.sub_self] at hU'
            have : a.1 = U := by simpa using hU'
            rw [← this]
            exact fm_sh o1 t9
        · have := t2.2.2.2.2.2.1 k hk
          unfold fxM at this ⊢
          show (!(ω.2.1 3 k == 0)) = _
          rw [oo 3 (by decide)]
          exact this
      · obtain ⟨a1, a2, a3, a4, a5, a6⟩ := t3
        exact ⟨by rw [o 1 (by decide)]; exact a1, by rw [o 19 (by decide)]; exact a2, by rw [o 21 (by decide)]; exact a3, by rw [o 56 (by decide)]; exact a4, by rw [o 57 (by decide)]; exact a5, a6⟩
      · rw [o 7 (by decide)]; exact h72
end TOP15
