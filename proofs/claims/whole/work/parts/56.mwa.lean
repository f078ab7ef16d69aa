section MWA
/-- a row of values brought to another -/
theorem rp_row {σ τ : MS} {V E T V' E' T' e e' : Nat} (k : kp σ τ V E T) (hV : V ≤ V') (hE : E ≤ E') (hT : T ≤ T') (he : e' < E') : ∀ (b : Tr), rpM σ V E T true b e → (∀ i, i < (dL b).length → τ.2.1 11 (10 * e' + i) = σ.2.1 11 (10 * e + i)) → rpM τ V' E' T' true b e' := by
  intro b
  induction b with
  | leaf s => intro _ _; exact he
  | branch s u b _ ihb =>
    intro h hr
    obtain ⟨h1, ⟨q, h2, h3⟩, h4⟩ := h
    simp only [dL, List.length_append, List.length_singleton] at hr
    exact ⟨h1, ⟨q, by rw [hr _ (by omega)]; exact h2, rp_kp k hV hE hT _ _ _ h3⟩, ihb h4 (fun i hi => hr i (by omega))⟩
theorem m_with {σ : MS} {V E T e lv q : Nat} {ρ : List Tr} {U : Tr} (hr : rpM σ V E T true (eL ρ) e) (hlv : ρ.length = lv) (hl : lv < 10) (hq : rpM σ V E T false U q) (hE : σ.1 21 = i32 E) (he : E < 120) : ∃ τ, f_with (i32 e) (i32 lv) (i32 q) σ = some (i32 E, τ) ∧ τ.1 21 = i32 (E + 1) ∧ rpM τ V (E + 1) T true (eL (ρ ++ [U])) E ∧ kp σ τ V E T ∧ ch [21] [11] σ τ ∧ (∀ i, i < 10 → τ.2.1 11 (10 * E + i) = if i = lv then i32 q else σ.2.1 11 (10 * e + i)) := by
  have hee := rp_E _ _ hr
  let υ : MS := brg (setF σ 21 (i32 (E + 1))) 11 (10 * e) 11 (10 * E) 10
  let τ : MS := setA υ 11 (10 * E + lv) (i32 q)
  have hυ : ∀ i, i < 10 → υ.2.1 11 (10 * E + i) = σ.2.1 11 (10 * e + i) := by
    intro i hi
    show (if 11 = 11 then (fun q => if 10 * E ≤ q ∧ q < 10 * E + 10 then σ.2.1 11 (10 * e + (q - 10 * E)) else σ.2.1 11 q) else σ.2.1 11) (10 * E + i) = _
    rw [if_pos rfl]
    rw [if_pos (by omega), show 10 * E + i - 10 * E = i by omega]
  have hrow : ∀ i, i < 10 → τ.2.1 11 (10 * E + i) = if i = lv then i32 q else σ.2.1 11 (10 * e + i) := by
    intro i hi
    by_cases h : i = lv
    · rw [if_pos h, h]; exact setA_at _ _ _ _
    · rw [if_neg h, ← hυ i hi]; exact setA_ne _ _ (Or.inr (by omega))
  have hk : kp σ τ V E T := by
    refine ⟨fun _ _ => rfl, fun i hi => ?_, fun _ _ => rfl, rfl⟩
    show (setA υ 11 (10 * E + lv) (i32 q)).2.1 11 i = _
    rw [setA_ne _ _ (Or.inr (by omega))]
    show (if 11 = 11 then (fun q => if 10 * E ≤ q ∧ q < 10 * E + 10 then σ.2.1 11 (10 * e + (q - 10 * E)) else σ.2.1 11 q) else σ.2.1 11) i = _
    rw [if_pos rfl]
    rw [if_neg (by omega)]
  refine ⟨τ, ?_, ?_, ?_, hk, ?_, hrow⟩
  · unfold f_with
    simp only [hE]
    have e1 : f_bring 11 (10 * i32 e) 11 (10 * i32 E) 10 (setF σ 21 (i32 E + 1)) = some (0, υ) := by
      rw [show (10 : Int32) * i32 e = i32 (10 * e) from by rw [z10, z_mul], show (10 : Int32) * i32 E = i32 (10 * E) from by rw [z10, z_mul], show i32 E + 1 = i32 (E + 1) from by rw [z1, z_add], show (10 : Int32) = i32 10 from rfl]
      exact m_bring _ (show 10 * e + 10 ≤ 1200 by omega) (show 10 * E + 10 ≤ 1200 by omega) (by omega)
    rw [e1, Option.bind_some]
    simp (disch := omega) only [z10, z_mul, z_add, z_ixT, z_nn, al1, al2, al3, al4, al5, al6, al7, al8, al9, al10, al11, al12, al13, al14, al15, al16, al17, al18, al19, al20, al21, al22, al23, al24, al25, al26, al27, al28, al29, al30, al31, al32, al33, if_true]
    rfl
  · show (brg (setF σ 21 (i32 (E + 1))) 11 (10 * e) 11 (10 * E) 10).1 21 = _
    simp [brg, setF, upd]
  · rw [eL_snoc]
    refine ⟨by rw [dL_eL]; omega, ⟨q, ?_, rp_kp hk (Nat.le_refl _) (by omega) (Nat.le_refl _) _ _ _ hq⟩, ?_⟩
    · rw [dL_eL, hrow _ (by omega), if_pos hlv]
    · refine rp_row hk (Nat.le_refl _) (by omega) (Nat.le_refl _) (by omega) _ hr (fun i hi => ?_)
      rw [dL_eL] at hi
      rw [hrow i (by omega), if_neg (by omega)]
  · refine ⟨fun k hk => ?_, fun j hj => ?_⟩
    · show (if k = 21 then i32 (E + 1) else σ.1 k) = σ.1 k
      rw [if_neg (fun e => hk (by simp [e]))]
    · have hj' : j ≠ 11 := fun e => hj (by simp [e])
      show (setA υ 11 (10 * E + lv) (i32 q)).2.1 j = _
      simp only [setA]
      rw [if_neg hj']
      show (if j = 11 then _ else σ.2.1 j) = σ.2.1 j
      rw [if_neg hj']
/-- a function given data -/
theorem m_gives1 {L : Lw} (hL : L.2.length ≤ 4) {N : List Tr} {f u x y : Tr} (hc : clo L N f x y) (hu : wv u = 0) {σ : MS} {V E T p q : Nat} (hf : rpM σ V E T false f p) (hq : rpM σ V E T false u q) (hV : σ.1 19 = i32 V) (hv : V + wv f ≤ 2400) (hE : σ.1 21 = i32 E) (he : E < 120) (hT : T ≤ 9400) : wv f ≤ 49 ∧ ∃ v τ V', f_gives (i32 p) (i32 q) σ = some (i32 v, τ) ∧ τ.1 19 = i32 V' ∧ τ.1 21 = i32 (E + 1) ∧ V ≤ V' ∧ V' + wv (gvD f u) ≤ V + wv f ∧ rpM τ V' (E + 1) T false (gvD f u) v ∧ kp σ τ V E T ∧ ch [19, 21, 24] [11, 12, 13] σ τ := by
  obtain ⟨b, ρ, Γ, rfl, h1, h2, h3⟩ := hc
  obtain ⟨hp, h⟩ := hf
  rcases h with ⟨h, _⟩ | ⟨h, _⟩ | ⟨h, _⟩ | ⟨h, _⟩ | ⟨_, a, e, g1, g2, g3, g4, g5, g6, g6', g7⟩
  · simp at h
  · simp at h
  · simp at h
  · simp at h
  rw [dL_eL] at g1 g6 g6'
  have hwf : wv (.branch 92 b (eL ρ)) = ln b := by rw [wv, if_pos rfl]
  rw [hwf] at hv ⊢
  refine ⟨g5, ?_⟩
  have hlb := pr_pos g3
  have hee := rp_E _ _ g7
  obtain ⟨τ, j1, j2, j3, j4, j5, _⟩ := m_with g7 rfl g6 hq hE he
  have hVτ : τ.1 19 = i32 V := by rw [j5.1 19 (by simp)]; exact hV
  have hlen : (ρ ++ [u]).length = ρ.length + 1 := by simp
  obtain ⟨v, υ, V', i1, i2, i3, i4, i5, i6, i7, _⟩ := m_worksData (E := E + 1) (T := T) hL h3 (by rw [kp_fx j4]; exact g3) (kp_fm j4 g2 g4) g4 hT (by simp [h1.1]) (by rw [hlen]; exact g6') j3 (by omega) (by
    intro w hw
    simp at hw
    rcases hw with hw | rfl
    · obtain ⟨i, hi, rfl⟩ := List.getElem_of_mem hw
      have := h1.2 i _ (List.getElem?_eq_getElem (by rw [← h1.1]; exact hi))
      have := wv_EF _ _ this
      simpa [lk, hi] using this
    · exact hu) hVτ (by omega) (by omega)
  rw [hlen] at i1
  have hg : gvD (.branch 92 b (eL ρ)) u = evD b (ρ ++ [u]) := by simp [gvD, dL_eL]
  refine ⟨v, υ, V', ?_, i2, ?_, i3, by rw [hg]; omega, by rw [hg]; exact i5, kp_tr j4 i6 (Nat.le_refl _) (by omega) (Nat.le_refl _), ch_tr (ch_mo j5 (by simp) (by simp)) (ch_mo i7 (by simp) (by simp))⟩
  · unfold f_gives
    rw [m_sortOf (by omega) g1 (by omega) (by omega) (by omega) (by omega), Option.bind_some]
    simp (disch := omega) only [z7, z_eqT, if_true]
    rw [m_levelOf (by omega) g1 (by omega) (by omega) (by omega) (by omega), Option.bind_some]
    simp only []
    rw [m_aOf (by omega) g1 (by omega) (by omega) (by omega) (by omega), Option.bind_some]
    simp only []
    rw [m_bOf (by omega) g1 (by omega) (by omega) (by omega) (by omega), Option.bind_some]
    simp only []
    rw [j1, Option.bind_some]
    simp only []
    rw [show i32 ρ.length + 1 = i32 (ρ.length + 1) from by rw [z1, z_add], i1]
    rfl
  · rw [i7.1 21 (by simp)]; exact j2
/-- what is left given something -/
theorem m_gives2 {L : Lw} {N : List Tr} {f u s : Tr} (hc : HT L f N false s) {σ : MS} {V E T p q : Nat} (hf : rpM σ V E T false f p) (hq : rpM σ V E T false u q) (hV : σ.1 19 = i32 V) (hv : V < 2400) (he : E ≤ 120) (hT : T ≤ 9400) : ∃ τ, f_gives (i32 p) (i32 q) σ = some (i32 V, τ) ∧ τ.1 19 = i32 (V + 1) ∧ rpM τ (V + 1) E T false (.branch 46 f u) V ∧ kp σ τ V E T ∧ ch [19] [] σ τ := by
  have hp := rp_V hf
  have hq' := rp_V hq
  have key : ∃ s a b l, s ≠ 7 ∧ s < 16 ∧ a < 65536 ∧ b < 65536 ∧ l < 65536 ∧ σ.2.2 p = pk s a b l := by
    cases f with
    | leaf c =>
      rcases hf.2 with ⟨h1, h2, h3⟩ | ⟨h1, h2, h3⟩ | ⟨h1, h3⟩
      · exact ⟨_, _, _, _, by decide, by omega, by omega, by omega, by omega, h3⟩
      · exact ⟨_, _, _, _, by decide, by omega, by omega, by omega, by omega, h3⟩
      · exact ⟨_, _, _, _, by decide, by omega, by omega, by omega, by omega, h3⟩
    | branch c a b =>
      rcases hf.2 with ⟨h1, p, q, h2, h3, h4⟩ | ⟨h1, p, q, h2, h3, h4⟩ | ⟨h1, hb, p, h2, h3⟩ | ⟨h1, hb, p, h2, h3⟩ | ⟨h1, h⟩
      · have := rp_V h3; have := rp_V h4
        exact ⟨_, _, _, _, by decide, by omega, by omega, by omega, by omega, h2⟩
      · have := rp_V h3; have := rp_V h4
        exact ⟨_, _, _, _, by decide, by omega, by omega, by omega, by omega, h2⟩
      · have := rp_V h3
        exact ⟨_, _, _, _, by decide, by omega, by omega, by omega, by omega, h2⟩
      · have := rp_V h3
        exact ⟨_, _, _, _, by decide, by omega, by omega, by omega, by omega, h2⟩
      · subst h1
        exact (HT_92 hc).elim
  obtain ⟨s1, a1, b1, l1, k1, k2, k3, k4, k5, k6⟩ := key
  have kl : kp σ (lay σ V (pk 2 p q 0)) V E T := lay_kp _ _ _ _ _
  refine ⟨lay σ V (pk 2 p q 0), ?_, lay_19 _ _ _, ⟨by omega, Or.inl ⟨rfl, p, q, lay_V _ _ _, rp_kp kl (by omega) (Nat.le_refl _) (Nat.le_refl _) _ _ _ hf, rp_kp kl (by omega) (Nat.le_refl _) (Nat.le_refl _) _ _ _ hq⟩⟩, kl, lay_ch _ _ _ _ (by simp)⟩
  unfold f_gives
  rw [m_sortOf (by omega) k6 k2 k3 k4 k5, Option.bind_some]
  simp (disch := omega) only [z7, z2, z0, z_eqF, if_false]
  rw [m_lays hV hv (by omega) (by omega) (by omega) (by omega)]
  rfl
end MWA
