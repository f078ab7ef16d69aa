section MTYB
/-- typeBy: a type's normal form under a row -/
theorem m_typeBy {L : Lw} (hL : L.2.length ≤ 4) {T' : Tr} {Γ N ρ : List Tr} {names base : Nat} (hW : WT L T' Γ) (hen : enV L N ρ Γ) (hN : N.length = names) (hn : names ≤ 10) (hρ : ρ.length = base) (hdp : dp T' base) (hb : base ≤ 10) {σ : MS} {p T V E e : Nat} (hp : pr (fxM σ) T') (hf : fm (σ.2.1 1) T' p) (hpT : p + ln T' ≤ T) (hl : ln T' ≤ 50) (h1 : σ.1 1 = i32 T) (h19 : σ.1 19 = i32 V) (h21 : σ.1 21 = i32 E) (hr : rpM σ V E T true (eL ρ) e) (b1 : T + 60 ≤ 9400) (b2 : E ≤ 42) (b3 : V + 1300 ≤ 2400) (b4 : 20 ≤ V) (b5 : ∀ k, k < 20 → σ.2.2 k = pk 0 k 0 0) : ∃ r υ, f_typeBy (i32 p) (i32 base) (i32 e) (i32 names) σ = some (r, υ) ∧ TRes σ υ FY AY T V E (nft T' ρ names) names r := by
  have hee := rp_E _ _ hr
  -- the row
  have hlv : ∃ lv, lv < 10 ∧ f_typeBy (i32 p) (i32 base) (i32 e) (i32 names) σ = B_typeBy_50 (i32 p) (i32 base) (i32 names) (i32 V) (i32 E) (i32 T) (i32 lv) (10 * i32 e) (i32 lv) (i32 e) σ := by
    unfold f_typeBy B_typeBy_31
    rw [h19, h21, h1]
    by_cases h10 : 10 ≤ base
    · have : (10 : Int32) ≤ i32 base := by rw [show (10 : Int32) = i32 10 from rfl, z_le (by omega) (by omega)]; exact h10
      exact ⟨0, by omega, by rw [if_pos this, if_pos this]; rfl⟩
    · have : ¬ ((10 : Int32) ≤ i32 base) := by rw [show (10 : Int32) = i32 10 from rfl, z_le (by omega) (by omega)]; exact h10
      exact ⟨base, by omega, by rw [if_neg this, if_neg this]⟩
  obtain ⟨lv, hlv, e0⟩ := hlv
  obtain ⟨τ, w1, w2, w3, w4, w5⟩ := m_with0 (σ.2.1 11 (10 * e + lv)) V T hee hlv h21 (by omega)
  obtain ⟨υ, u1, u2, u3, u4, u5⟩ := m_ty60 (base := base) (i32 p) (i32 V) (i32 E) (i32 T) (show E < 120 by omega) hn (10 - base) 10000 base τ (by omega) (by omega) (Nat.le_refl _)
  generalize hσ1 : setA (setF υ 27 (i32 0)) 18 0 (i32 0) = σ1 at u1
  have e1 : f_typeBy (i32 p) (i32 base) (i32 e) (i32 names) σ = L_typeBy_111 10000 (i32 base) (i32 names) (i32 V) (i32 E) (i32 T) (i32 E) (i32 p) (i32 (0 + 1)) σ1 := by
    rw [e0, B_typeBy_50, show (10 : Int32) * i32 e + i32 lv = i32 (10 * e + lv) from by rw [z10, z_mul, z_add], if_pos (c_ix (show 10 * e + lv < aln 11 by show _ < 1200; omega) (by omega)), z_nn (by omega), w1, Option.bind_some]
    dsimp only
    rw [u1]
  have kυ : kp τ υ V E T := by
    refine ⟨fun i _ => by rw [u3], fun i hi => ?_, fun i _ => by rw [u4 1 (by decide)], u4 3 (by decide)⟩
    rw [u5, if_neg (by omega)]
  have k1 : kp σ σ1 V E T := by
    rw [← hσ1]
    exact kp_tr w3 (kp_tr kυ (kp_tr (kp_setF υ 27 _ V E T) (kp_setA _ _ _ V E T (by decide) (by decide) (by decide)) (Nat.le_refl _) (Nat.le_refl _) (Nat.le_refl _)) (Nat.le_refl _) (Nat.le_refl _) (Nat.le_refl _)) (Nat.le_refl _) (Nat.le_refl _) (Nat.le_refl _)
  have c1 : ch FY AY σ σ1 := by
    rw [← hσ1]
    refine ch_tr (ch_mo w4 (by simp [FY]) (by simp [AY])) (ch_tr ⟨fun k _ => by rw [u2], fun j hj => u4 j (fun e => hj (by simp [e, AY]))⟩ (ch_tr (ch_setF _ _ (by simp [FY])) (ch_setA _ _ (by simp [AY]))))
  have f27 : σ1.1 27 = i32 0 := by rw [← hσ1]; simp [setA, setF, upd]
  have fo : ∀ k, k ≠ 27 → σ1.1 k = τ.1 k := by
    intro k hk
    rw [← hσ1, ← u2]
    show (if k = 27 then _ else υ.1 k) = _
    rw [if_neg hk]
  have f1 : σ1.1 1 = i32 T := by rw [fo 1 (by decide), w4.1 1 (by simp)]; exact h1
  have f19 : σ1.1 19 = i32 V := by rw [fo 19 (by decide), w4.1 19 (by simp)]; exact h19
  have f21 : σ1.1 21 = i32 (E + 1) := by rw [fo 21 (by decide)]; exact w2
  have f18 : σ1.2.1 18 0 = i32 0 := by rw [← hσ1]; exact setA_at _ _ _ _
  have a11 : σ1.2.1 11 = υ.2.1 11 := by
    rw [← hσ1]
    simp only [setA, setF]
    rw [if_neg (by decide)]
  have row1 : ∀ i, i < base → σ1.2.1 11 (10 * E + i) = σ.2.1 11 (10 * e + i) := by
    intro i hi
    rw [a11, u5, if_neg (by omega), w5 i (by omega)]
    by_cases h : i = lv
    · rw [if_pos h, h]
    · rw [if_neg h]
  have row2 : ∀ k, base ≤ k → k < 10 → σ1.2.1 11 (10 * E + k) = i32 (names + k - base) := by
    intro k g1 g2
    rw [a11, u5, if_pos (by omega)]
    congr 1
    omega
  have rr : rpM σ1 V (E + 1) T true (eL ρ) E := rp_row k1 (Nat.le_refl _) (by omega) (Nat.le_refl _) (by omega) _ hr (fun i hi => by rw [dL_eL, hρ] at hi; exact row1 i hi)
  have run := m_ty hL (names := names) (B := T) (Er := E) hρ (i32 V) (i32 E) T' Γ N 0 hW (by rw [nms_0]; exact hen) (by omega) (by omega) (by rw [Nat.add_zero]; exact hdp) (by omega) p 0 10000 T V (E + 1) σ1 (by rw [kp_fx k1]; exact hp) (kp_fm k1 hf hpT) hpT hl ⟨f27, f1, f19, f21, Nat.le_refl _, by omega, by omega, by omega, by omega, by omega, by omega, b4, fun k hk => by rw [k1.1 k (by omega)]; exact b5 k hk, rr, row2, f18⟩
  rw [nms_0, Nat.add_zero] at run
  rw [e1]
  by_cases hfit : T + ln (nft T' ρ names) ≤ T + 50 ∧ dp (nft T' ρ names) names
  · obtain ⟨F', ω, r1, r2, V', E', r3, r4, r5, r6, r7, r8, r9, r10, r11, r12, r13, r14⟩ := run.1 hfit
    clear run
    obtain ⟨G, rfl⟩ : ∃ G, F' = G + 1 := ⟨F' - 1, by have := hfit.1; omega⟩
    obtain ⟨κ, s1, s2⟩ := told_ok (V' := V') (E' := E') (t := nft T' ρ names) (lev := names) (kp_tr k1 (kp_le r12 (Nat.le_refl _) (by omega) (Nat.le_refl _)) (Nat.le_refl _) (Nat.le_refl _) (Nat.le_refl _)) (ch_tr c1 r13) ⟨by have := hfit.1; unfold ln at this; omega, hfit.2⟩ r4 r5 r3 (by simp [FY]) (by simp [FY])
    refine ⟨_, κ, ?_, s2⟩
    rw [r2, ty_end, B_typeBy_280, s1, Option.bind_some]
  · obtain ⟨ω, r1, r2, r3, r4⟩ := run.2 hfit
    clear run
    obtain ⟨κ, s1, s2⟩ := told_big (t := nft T' ρ names) (lev := names) (kp_tr k1 (kp_le r3 (Nat.le_refl _) (by omega) (Nat.le_refl _)) (Nat.le_refl _) (Nat.le_refl _) (Nat.le_refl _)) (ch_tr c1 r4) (fun h => hfit ⟨by have := h.1; unfold ln; omega, h.2⟩) r2 (by simp [FY]) (by simp [FY]) (by simp [FY])
    refine ⟨_, κ, ?_, s2⟩
    rw [r1, B_typeBy_280, s1, Option.bind_some]
end MTYB
