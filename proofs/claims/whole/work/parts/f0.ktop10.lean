section KTOP10
theorem BF_AC {σ τ : CS} (h : chK AC σ τ) : BF σ τ := ⟨h.1, fun j hj => h.2.1 j (fun e => by simp only [AC, List.mem_cons, List.mem_nil_iff, or_false] at e; omega)⟩
theorem BI_con {L : Lw} {σ τ : CS} {n i T T' : Nat} {x : Int32} (h : BI L σ n i T) (hT : T ≤ T') (t1 : τ.1 34 1 = i32 T') (t3 : τ.1 34 3 = i32 n) (t5 : τ.1 34 5 = i32 i) (h36 : τ.1 36 = σ.1 36) (h37 : τ.1 37 = σ.1 37) (h35 : ∀ k, k < T → τ.1 35 k = σ.1 35 k) (hi : i < 4) (hx : ∀ A, L.2[i]? = some A → ∃ q, x = i32 q ∧ fm (τ.1 35) A q ∧ q + ln A ≤ T') : ∃ υ, f_Signs_addConstant x τ = some (0, υ) ∧ BF τ υ ∧ BI L υ n (i + 1) T' := by
  unfold f_Signs_addConstant B_Signs_addConstant_28
  have e3 : (sI τ 37 i x).1 34 5 = i32 i := by rw [sI_ne _ _ (Or.inl (by decide))]; exact t5
  rw [t5, if_neg (show ¬ ((4 : Int32) ≤ i32 i) by rw [z4, z_le (by omega) (by omega)]; omega), if_pos (c_ix (show i < lS 37 from Nat.lt_of_lt_of_le hi (Nat.le_refl _)) (by omega)), z_nn (by omega), e3, show i32 i + 1 = i32 (i + 1) by rw [z1, z_add]]
  have w35 : (sI (sI τ 37 i x) 34 5 (i32 (i + 1))).1 35 = τ.1 35 := by rw [sI_row _ _ (by decide), sI_row _ _ (by decide)]
  have w36 : (sI (sI τ 37 i x) 34 5 (i32 (i + 1))).1 36 = σ.1 36 := by rw [sI_row _ _ (by decide), sI_row _ _ (by decide), h36]
  have w37 : ∀ k, (sI (sI τ 37 i x) 34 5 (i32 (i + 1))).1 37 k = if k = i then x else σ.1 37 k := fun k => by
    rw [sI_row _ _ (show 37 ≠ 34 by decide)]
    by_cases hk : k = i
    · rw [if_pos hk, hk, sI_at]
    · rw [if_neg hk, sI_ne _ _ (Or.inr hk), h37]
  refine ⟨_, rfl, BF_tr (BF_sI _ _ _ (by omega) (by omega)) (BF_sI _ _ _ (by omega) (by omega)), ?_, ?_, sI_at _ _ _ _, fun k I hk hI => ?_, fun k hk hI => ?_, fun k A hk hA => ?_⟩
  · rw [sI_ne _ _ (Or.inr (by decide)), sI_ne _ _ (Or.inl (by decide))]; exact t1
  · rw [sI_ne _ _ (Or.inr (by decide)), sI_ne _ _ (Or.inl (by decide))]; exact t3
  · rw [w36, w35]
    obtain ⟨q, q1, q2, q3⟩ := h.2.2.2.1 k I hk hI
    exact ⟨q, q1, fm_ext I q (fun m _ hm => h35 m (by omega)) q2, by omega⟩
  · rw [w36]
    exact h.2.2.2.2.1 k hk hI
  · rw [w37, w35]
    by_cases hki : k = i
    · rw [if_pos hki]
      exact hx A (by rw [← hki]; exact hA)
    · rw [if_neg hki]
      obtain ⟨q, q1, q2, q3⟩ := h.2.2.2.2.2 k A (by omega) hA
      exact ⟨q, q1, fm_ext A q (fun m _ hm => h35 m (by omega)) q2, by omega⟩
theorem k_con_l {t : Nat} {L : Lw} (hL : lwOK L) (ht : t = 2 ∨ 49 ≤ t) : ∀ (d F i T : Nat) (σ : CS), lawK σ t L → i + d = L.2.length → d < F → BI L σ L.1.length i T → T ≤ 50 * (3 + i) → ∃ τ T', L_Signs_begin_46 F (some t) (i32 i) σ = some (0, τ) ∧ BF σ τ ∧ BI L τ L.1.length L.2.length T' ∧ T' ≤ 350 := by
  have l1 := hL.1
  have l2 := hL.2.1
  intro d
  induction d with
  | zero =>
    intro F i T σ hK hi hF hB hT
    obtain ⟨F, rfl⟩ : ∃ F', F = F' + 1 := ⟨F - 1, by omega⟩
    obtain rfl : i = L.2.length := by omega
    refine ⟨σ, T, ?_, BF_rf σ, hB, by omega⟩
    rw [L_Signs_begin_46, Option.bind_some, if_pos hK.1, hK.2.2.1, if_pos (Int32.le_refl _)]
  | succ d ih =>
    intro F i T σ hK hi hF hB hT
    obtain ⟨F, rfl⟩ : ∃ F', F = F' + 1 := ⟨F - 1, by omega⟩
    obtain ⟨A, c, c1, c2, c3⟩ := k_coForm hL hK (show i < L.2.length by omega)
    have hl : ln A ≤ 50 := (hL.2.2.2 i A c1).2.1
    obtain ⟨τ, t1, t2, t3, t4, t5⟩ := k_copyOf 0 c3 hl hB.1 (by omega)
    obtain ⟨υ, u1, u2, u3⟩ := BI_con (T' := T + ln A) (x := i32 T) hB (by omega) t2 (by rw [t5.2.2.1 3 (by decide)]; exact hB.2.1) (by rw [t5.2.2.1 5 (by decide)]; exact hB.2.2.1) (t5.2.1 36 (by decide)) (t5.2.1 37 (by decide)) (fun k hk => t4.2 k hk) (by omega) (fun A' hA' => by
      rw [c1] at hA'
      injection hA' with hA'
      subst hA'
      exact ⟨T, rfl, t3, Nat.le_refl _⟩)
    rw [L_Signs_begin_46, Option.bind_some, if_pos hK.1, hK.2.2.1, if_neg (show ¬ (i32 L.2.length ≤ i32 i) by rw [z_le (by omega) (by omega)]; omega), if_pos hK.1, c2, Option.bind_some]
    dsimp only
    rw [t1, Option.bind_some]
    dsimp only
    rw [u1, Option.bind_some]
    dsimp only
    have b1 := BF_tr (BF_AC t5) u2
    obtain ⟨ω, T', o1, o2, o3⟩ := ih F (i + 1) (T + ln A) υ (BF_law hK ht b1) (by omega) (by omega) u3 (by omega)
    exact ⟨ω, T', by rw [z1, z_add, o1], BF_tr b1 o2, o3⟩
theorem k_fam_l {t : Nat} {L : Lw} (hL : lwOK L) (ht : t = 2 ∨ 49 ≤ t) : ∀ (d F i T : Nat) (σ : CS), lawK σ t L → i + d = L.1.length → d < F → BI L σ i 0 T → T ≤ 50 * i → ∃ τ T', L_Signs_begin_17 F (some t) (i32 i) σ = some (0, τ) ∧ BF σ τ ∧ BI L τ L.1.length L.2.length T' ∧ T' ≤ 350 := by
  have l1 := hL.1
  have l2 := hL.2.1
  intro d
  induction d with
  | zero =>
    intro F i T σ hK hi hF hB hT
    obtain ⟨F, rfl⟩ : ∃ F', F = F' + 1 := ⟨F - 1, by omega⟩
    obtain rfl : i = L.1.length := by omega
    obtain ⟨τ, T', o1, o2⟩ := k_con_l hL ht L.2.length 10000 0 T σ hK (by omega) (Nat.lt_of_lt_of_le (show L.2.length < 10 by omega) (Nat.le_of_ble_eq_true rfl)) hB (by omega)
    refine ⟨τ, T', ?_, o2⟩
    rw [L_Signs_begin_17, Option.bind_some, if_pos hK.1, hK.2.1, if_pos (Int32.le_refl _)]
    exact o1
  | succ d ih =>
    intro F i T σ hK hi hF hB hT
    obtain ⟨F, rfl⟩ : ∃ F', F = F' + 1 := ⟨F - 1, by omega⟩
    rw [L_Signs_begin_17, Option.bind_some, if_pos hK.1, hK.2.1, if_neg (show ¬ (i32 L.1.length ≤ i32 i) by rw [z_le (by omega) (by omega)]; omega), if_pos hK.1]
    rcases k_ixForm hL hK (show i < L.1.length by omega) with ⟨c1, c2⟩ | ⟨I, c, c1, c2, c3⟩
    · obtain ⟨υ, u1, u2, u3⟩ := BI_fam (T' := T) (x := -1) hB (Nat.le_refl _) hB.1 hB.2.1 hB.2.2.1 rfl (fun _ _ => rfl) (by omega) ⟨fun _ => rfl, fun I hI => by rw [c1] at hI; injection hI with hI; cases hI⟩
      have e0 : f_Signs_copyOf none σ = some (-1, σ) := rfl
      rw [c2, Option.bind_some]
      dsimp only
      rw [e0, Option.bind_some]
      dsimp only
      rw [u1, Option.bind_some]
      dsimp only
      obtain ⟨ω, T', o1, o2, o3⟩ := ih F (i + 1) T υ (BF_law hK ht u2) (by omega) (by omega) u3 (by omega)
      exact ⟨ω, T', by rw [z1, z_add, o1], BF_tr u2 o2, o3⟩
    · have hl : ln I ≤ 50 := (hL.2.2.1 i I c1).2.2.1
      obtain ⟨τ, t1, t2, t3, t4, t5⟩ := k_copyOf 0 c3 hl hB.1 (by omega)
      have x1 : L.1[i]? = some none → i32 T = -1 := fun h0 => by
        rw [c1] at h0
        injection h0 with h0
        cases h0
      have x2 : ∀ J, L.1[i]? = some (some J) → ∃ q, i32 T = i32 q ∧ fm (τ.1 35) J q ∧ q + ln J ≤ T + ln I := fun J hJ => by
        rw [c1] at hJ
        injection hJ with hJ
        injection hJ with hJ
        subst hJ
        exact ⟨T, rfl, t3, Nat.le_refl _⟩
      obtain ⟨υ, u1, u2, u3⟩ := BI_fam (T' := T + ln I) (x := i32 T) hB (by omega) t2 (by rw [t5.2.2.1 3 (by decide)]; exact hB.2.1) (by rw [t5.2.2.1 5 (by decide)]; exact hB.2.2.1) (t5.2.1 36 (by decide)) (fun k hk => t4.2 k hk) (by omega) ⟨x1, x2⟩
      rw [c2, Option.bind_some]
      dsimp only
      rw [t1, Option.bind_some]
      dsimp only
      rw [u1, Option.bind_some]
      dsimp only
      have b1 := BF_tr (BF_AC t5) u2
      obtain ⟨ω, T', o1, o2, o3⟩ := ih F (i + 1) (T + ln I) υ (BF_law hK ht b1) (by omega) (by omega) u3 (by omega)
      exact ⟨ω, T', by rw [z1, z_add, o1], BF_tr b1 o2, o3⟩
/-- the declared types are copied into the rows of a call -/
theorem k_sbegin {σ : CS} {t : Nat} {L : Lw} (hL : lwOK L) (ht : t = 2 ∨ 49 ≤ t) (hK : lawK σ t L) : ∃ τ T, f_Signs_begin (some t) σ = some (0, τ) ∧ BF σ τ ∧ BI L τ L.1.length L.2.length T ∧ T ≤ 350 := by
  have l1 := hL.1
  unfold f_Signs_begin
  have b0 : BF σ (sI (sI (sI σ 34 1 0) 34 3 0) 34 5 0) := BF_tr (BF_tr (BF_sI _ _ _ (by omega) (by omega)) (BF_sI _ _ _ (by omega) (by omega))) (BF_sI _ _ _ (by omega) (by omega))
  have i0 : BI L (sI (sI (sI σ 34 1 0) 34 3 0) 34 5 0) 0 0 0 := ⟨by rw [sI_ne _ _ (Or.inr (by decide)), sI_ne _ _ (Or.inr (by decide)), sI_at]; rfl, by rw [sI_ne _ _ (Or.inr (by decide)), sI_at]; rfl, by rw [sI_at]; rfl, fun k I hk => absurd hk (Nat.not_lt_zero _), fun k hk => absurd hk (Nat.not_lt_zero _), fun k A hk => absurd hk (Nat.not_lt_zero _)⟩
  generalize sI (sI (sI σ 34 1 0) 34 3 0) 34 5 0 = σ1 at b0 i0
  obtain ⟨τ, T, o1, o2, o3⟩ := k_fam_l hL ht L.1.length 10000 0 0 σ1 (BF_law hK ht b0) (by omega) (Nat.lt_of_lt_of_le (show L.1.length < 10 by omega) (Nat.le_of_ble_eq_true rfl)) i0 (by omega)
  exact ⟨τ, T, o1, BF_tr b0 o2, o3⟩
end KTOP10
