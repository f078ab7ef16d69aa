section KTOP22
/-- an entry is added at the end -/
theorem k_eadd {σ : CS} {s : Sta} {c : Nat} {x : Tr × Tr} (h : KA σ s) (hl : s.en.length < 6) (hx : entK σ c x) : ∃ τ, f_Shelf_add 5 (some c) σ = some (0, τ) ∧ KA τ (s.tx, s.L, s.en ++ [x], s.sg, s.un, s.im) ∧ τ.1 5 1 = i32 (s.en.length + 1) ∧ ndC τ = ndC σ ∧ τ.1 38 = σ.1 38 := by
  obtain ⟨h1, h2, h3, h4, h5, h6, f5, f9, f30⟩ := h
  obtain ⟨p1, p2, p3, p4⟩ := shF_r shD_5 f5
  obtain ⟨q1, q2, q3⟩ := shK_r shD_5 h3
  unfold f_Shelf_add B_Shelf_add_29
  have e1 : (sR σ 6 s.en.length (some c)).1 5 1 = i32 s.en.length := q1
  rw [if_pos p1, q1, if_neg (show ¬ ((6 : Int32) ≤ i32 s.en.length) by rw [z6, z_le (by omega) (by omega)]; omega), if_pos p1, if_pos p1, shC_r shC_5, Option.bind_some, if_pos p2, p3, if_pos (c_ix (show s.en.length < 6 from hl) (by omega)), if_pos (show okr σ (some c) 0 = true from hx.1), z_nn (by omega)]
  rw [if_pos (show okc (sR σ (5 + 1) s.en.length (some c)) 5 5 = true from p1), if_pos (show okc (sR σ (5 + 1) s.en.length (some c)) 5 5 = true from p1), e1, z1, z_add]
  have u1 : ∀ j, j ≠ 5 → (sI (sR σ 6 s.en.length (some c)) 5 1 (i32 (s.en.length + 1))).1 j = σ.1 j := fun j hj => sI_row _ _ hj
  have u2 : ∀ j, j ≠ 6 → (sI (sR σ 6 s.en.length (some c)) 5 1 (i32 (s.en.length + 1))).2.1 j = σ.2.1 j := fun j hj => sR_row _ _ _ hj
  have u3 : (sI (sR σ 6 s.en.length (some c)) 5 1 (i32 (s.en.length + 1))).1 5 1 = i32 (s.en.length + 1) := sI_at _ _ _ _
  have u4 : ∀ k, (sI (sR σ 6 s.en.length (some c)) 5 1 (i32 (s.en.length + 1))).2.1 6 k = if k = s.en.length then some c else σ.2.1 6 k := fun k => by
    show (sR σ 6 s.en.length (some c)).2.1 6 k = _
    by_cases hk : k = s.en.length
    · rw [hk, sR_at, if_pos rfl]
    · rw [sR_ne _ _ (Or.inr hk), if_neg hk]
  have g : FG σ (sI (sR σ 6 s.en.length (some c)) 5 1 (i32 (s.en.length + 1))) := FG_tr (FG_sR σ _ _ (by omega)) (FG_sI _ _ _ (by omega))
  refine ⟨sI (sR σ 6 s.en.length (some c)) 5 1 (i32 (s.en.length + 1)), rfl, ?_, u3, rfl, u1 38 (by omega)⟩
  generalize sI (sR σ 6 s.en.length (some c)) 5 1 (i32 (s.en.length + 1)) = τ at u1 u2 u3 u4 g
  have z : ∀ j, j ≠ 5 → j ≠ 6 → sm σ τ j := fun j a b => ⟨u1 j a, u2 j b⟩
  have fF : shF τ 5 := by
    refine ⟨by rw [okc_22 g.1]; exact p1, 6, shC_r shC_5 τ, by omega, by rw [okc_22 g.1]; exact p2, by rw [lnC_22 g.1]; exact p3, fun k hk => ?_⟩
    rw [rfv_D shD_5 τ hk, u4]
    by_cases hkk : k = s.en.length
    · rw [if_pos hkk, okr_22 g.1]
      exact hx.1
    · rw [if_neg hkk, okr_22 g.1, ← rfv_D shD_5 σ hk]
      exact p4 k hk
  have fK : shK τ 5 (s.en ++ [x]) := by
    refine shK_mk shD_5 fF ?_ ?_ fun e y hy => ?_
    · rw [u3, List.length_append]; rfl
    · rw [List.length_append, List.length_singleton]; omega
    · have he := (List.getElem?_eq_some_iff.mp hy).1
      rw [List.length_append, List.length_singleton] at he
      rw [rfv_D shD_5 τ (by omega), u4]
      by_cases hee : e = s.en.length
      · rw [if_pos hee]
        rw [hee, List.getElem?_append_right (Nat.le_refl _), Nat.sub_self, List.getElem?_cons_zero] at hy
        injection hy with hy
        subst hy
        exact ⟨c, rfl, entK_G hx g⟩
      · rw [if_neg hee]
        rw [List.getElem?_append_left (by omega)] at hy
        obtain ⟨d, d1, d2⟩ := q3 e y hy
        rw [rfv_D shD_5 σ (by omega)] at d1
        exact ⟨d, d1, entK_G d2 g⟩
  exact ⟨KAt_x h1 (by rw [u1 0 (by omega)]) (u1 1 (by omega)), KAl_x h2 g (u2 0 (by omega)) (z 2 (by omega) (by omega)) (z 3 (by omega) (by omega)) (z 4 (by omega) (by omega)), fK, KAs_x h4 g (by rw [u1 25 (by omega)]) (u1 27 (by omega)) (u2 26 (by omega)), KAu_x h5 g (u1 7 (by omega)) (fun i hi => ⟨z _ (by omega) (by omega), u2 _ (by omega)⟩), KAi_x h6 g (u1 29 (by omega)) (fun j hj => ⟨z _ (by omega) (by omega), u2 _ (by omega)⟩), fF, fun i hi => shF_x (shC_9 i hi) (f9 i hi) g (u2 _ (by omega)), fun j hj => shF_x (shC_30 j hj) (f30 j hj) g (u2 _ (by omega))⟩
theorem srf_26 : ∀ k, k < 4 → srf 26 k = 0 := by decide
/-- a sight is added at the end -/
theorem k_sadd {σ : CS} {s : Sta} {c w : Nat} {x : Tr × Tr} (h : KA σ s) (hl : s.sg.length < 4) (hx : entK σ c x) : ∃ τ, f_Sights_add (some c) (i32 w) σ = some (0, τ) ∧ KA τ (s.tx, s.L, s.en, s.sg ++ [(w, x)], s.un, s.im) ∧ τ.1 25 2 = i32 (s.sg.length + 1) ∧ ndC τ = ndC σ ∧ τ.1 38 = σ.1 38 := by
  obtain ⟨h1, h2, h3, ⟨h4, h4'⟩, h5, h6, h7⟩ := h
  unfold f_Sights_add B_Sights_add_38
  have e1 : (sR σ 26 s.sg.length (some c)).1 25 2 = i32 s.sg.length := h4
  have e2 : (sI (sR σ 26 s.sg.length (some c)) 27 s.sg.length (i32 w)).1 25 2 = i32 s.sg.length := by rw [sI_ne _ _ (Or.inl (by decide))]; exact e1
  rw [h4, if_neg (show ¬ ((4 : Int32) ≤ i32 s.sg.length) by rw [z4, z_le (by omega) (by omega)]; omega), if_pos (c_ix (show s.sg.length < lS 26 from Nat.lt_of_lt_of_le hl (Nat.le_refl _)) (by omega)), if_pos (show okr σ (some c) 0 = true from hx.1), z_nn (by omega), e1, if_pos (c_ix (show s.sg.length < lS 27 from Nat.lt_of_lt_of_le hl (Nat.le_refl _)) (by omega)), z_nn (by omega), e2, show i32 s.sg.length + 1 = i32 (s.sg.length + 1) by rw [z1, z_add]]
  have u1 : ∀ j, j ≠ 25 → j ≠ 27 → (sI (sI (sR σ 26 s.sg.length (some c)) 27 s.sg.length (i32 w)) 25 2 (i32 (s.sg.length + 1))).1 j = σ.1 j := fun j a b => by rw [sI_row _ _ a, sI_row _ _ b]; rfl
  have u2 : ∀ j, j ≠ 26 → (sI (sI (sR σ 26 s.sg.length (some c)) 27 s.sg.length (i32 w)) 25 2 (i32 (s.sg.length + 1))).2.1 j = σ.2.1 j := fun j hj => sR_row _ _ _ hj
  have u3 : (sI (sI (sR σ 26 s.sg.length (some c)) 27 s.sg.length (i32 w)) 25 2 (i32 (s.sg.length + 1))).1 25 2 = i32 (s.sg.length + 1) := sI_at _ _ _ _
  have u4 : ∀ k, (sI (sI (sR σ 26 s.sg.length (some c)) 27 s.sg.length (i32 w)) 25 2 (i32 (s.sg.length + 1))).2.1 26 k = if k = s.sg.length then some c else σ.2.1 26 k := fun k => by
    show (sR σ 26 s.sg.length (some c)).2.1 26 k = _
    by_cases hk : k = s.sg.length
    · rw [hk, sR_at, if_pos rfl]
    · rw [sR_ne _ _ (Or.inr hk), if_neg hk]
  have u5 : ∀ k, (sI (sI (sR σ 26 s.sg.length (some c)) 27 s.sg.length (i32 w)) 25 2 (i32 (s.sg.length + 1))).1 27 k = if k = s.sg.length then i32 w else σ.1 27 k := fun k => by
    rw [sI_ne _ _ (Or.inl (by decide))]
    by_cases hk : k = s.sg.length
    · rw [hk, sI_at, if_pos rfl]
    · rw [sI_ne _ _ (Or.inr hk), if_neg hk]; rfl
  have g : FG σ (sI (sI (sR σ 26 s.sg.length (some c)) 27 s.sg.length (i32 w)) 25 2 (i32 (s.sg.length + 1))) := FG_tr (FG_sR σ _ _ (by omega)) (FG_tr (FG_sI _ _ _ (by omega)) (FG_sI _ _ _ (by omega)))
  refine ⟨sI (sI (sR σ 26 s.sg.length (some c)) 27 s.sg.length (i32 w)) 25 2 (i32 (s.sg.length + 1)), rfl, ?_, u3, rfl, u1 38 (by omega) (by omega)⟩
  generalize sI (sI (sR σ 26 s.sg.length (some c)) 27 s.sg.length (i32 w)) 25 2 (i32 (s.sg.length + 1)) = τ at u1 u2 u3 u4 u5 g
  have z : ∀ j, j ≠ 25 → j ≠ 26 → j ≠ 27 → sm σ τ j := fun j a b d => ⟨u1 j a d, u2 j b⟩
  refine ⟨KAt_x h1 (by rw [u1 0 (by omega) (by omega)]) (u1 1 (by omega) (by omega)), KAl_x h2 g (u2 0 (by omega)) (z 2 (by omega) (by omega) (by omega)) (z 3 (by omega) (by omega) (by omega)) (z 4 (by omega) (by omega) (by omega)), shK_x shC_5 h3 g (z 5 (by omega) (by omega) (by omega)) (u2 6 (by omega)), ⟨?_, fun i y hy => ?_⟩, KAu_x h5 g (u1 7 (by omega) (by omega)) (fun i hi => ⟨z _ (by omega) (by omega) (by omega), u2 _ (by omega)⟩), KAi_x h6 g (u1 29 (by omega) (by omega)) (fun j hj => ⟨z _ (by omega) (by omega) (by omega), u2 _ (by omega)⟩), KAf_x h7 g (u2 6 (by omega)) (fun i hi => u2 _ (by omega)) (fun j hj => u2 _ (by omega))⟩
  · show τ.1 25 2 = i32 (s.sg ++ [(w, x)]).length
    rw [u3, List.length_append]; rfl
  · have hy' : (s.sg ++ [(w, x)])[i]? = some y := hy
    have he := (List.getElem?_eq_some_iff.mp hy').1
    rw [List.length_append, List.length_singleton] at he
    rw [u5]
    unfold rfv
    rw [srf_26 i (by omega), if_pos rfl, u4]
    by_cases hee : i = s.sg.length
    · rw [if_pos hee, if_pos hee]
      rw [hee, List.getElem?_append_right (Nat.le_refl _), Nat.sub_self, List.getElem?_cons_zero] at hy'
      injection hy' with hy'
      subst hy'
      exact ⟨rfl, c, rfl, entK_G hx g⟩
    · rw [if_neg hee, if_neg hee]
      rw [List.getElem?_append_left (by omega)] at hy'
      obtain ⟨a, d, d1, d2⟩ := h4' i y hy'
      unfold rfv at d1
      rw [srf_26 i (by omega), if_pos rfl] at d1
      exact ⟨a, d, d1, entK_G d2 g⟩
theorem SO_lt {a b : Nat} (ha : a < 100000) (hb : b < 100000) : i32 a < i32 b ↔ a < b := by
  rw [z_lt (by omega) (by omega)]
/-- what a reading leaves, and what stays of it -/
theorem RF_nd {σ τ : CS} (h : RF σ τ) : ndC τ = ndC σ := by unfold ndC; rw [h.1]
theorem FG_nd {σ τ : CS} (h : FG σ τ) : ndC τ = ndC σ := by unfold ndC; rw [h.1]
/-- the class answers so, makes at most n cells, stands for a state then, and keeps that a value stands -/
def KN (n : Nat) (σ : CS) (f : Option (Int32 × CS)) (r : Int32 × Sta) : Prop := ∃ τ, f = some (r.1, τ) ∧ KA τ r.2 ∧ KV τ ∧ ndC σ ≤ ndC τ ∧ ndC τ ≤ ndC σ + n
theorem k_enters {σ : CS} {s : Sta} (hs : SOK s) (h : KA σ s) (hv : KV σ) : KN 5 σ (f_J_enters σ) (aEnters s) := by
  unfold f_J_enters aEnters
  have hE := hs.2.2.2.1.1
  obtain ⟨q1, _, _⟩ := shK_r shD_5 h.2.2.1
  rw [q1]
  by_cases h6 : s.en.length = 6
  · rw [if_neg (show ¬ (i32 s.en.length < 6) by rw [h6]; decide), if_pos h6]
    exact ⟨σ, rfl, h, hv, Nat.le_refl _, Nat.le_add_right _ _⟩
  · rw [if_pos (show i32 s.en.length < 6 by rw [z6, SO_lt (by omega) (by omega)]; omega), if_neg h6]
    obtain ⟨τ, T, b1, b2, b3, b4⟩ := k_begin hs h hv
    have g := k_readGiven (SOK_WL hs) b4 b3 (BK_KV b4)
    rw [b1, Option.bind_some]
    dsimp only
    rw [if_pos (show (ndC τ == ndC σ) = true from beq_iff_eq.mpr (RF_nd b2))]
    cases hsp : spG s.L s.en s.tx false with
    | error e =>
      rw [hsp] at g
      obtain ⟨he, υ, g1, g2, g3, g4⟩ := g
      rw [g1, Option.bind_some]
      dsimp only
      rw [if_pos (show (ndC υ == ndC τ) = true from beq_iff_eq.mpr (RF_nd g3)), if_pos rfl, g2]
      have := RF_nd (RF_tr b2 g3)
      exact ⟨υ, rfl, KA_RF h (RF_tr b2 g3), g4, by omega, by omega⟩
    | ok y =>
      rw [hsp] at g
      obtain ⟨υ, T', p, q, g1, g2, g3, g4, g5, g6, g7, g8, g9, g10, g11, g12⟩ := g
      have ho := (okG (SOK_WL hs) hsp).1
      obtain ⟨pA, pB⟩ := GiK_pr hs.2.2.1 g12 ho
      obtain ⟨m1, m2⟩ := ent_ln ho
      have n2 := RF_nd (RF_tr b2 g2)
      rw [g1, Option.bind_some]
      dsimp only
      rw [if_pos (show (ndC υ == ndC τ) = true from beq_iff_eq.mpr (RF_nd g2)), if_neg (show ¬ ((1 : Int32) = 0) from by decide)]
      have hA := KA_RF h (RF_tr b2 g2)
      obtain ⟨ω, w1, w2, w3, w4⟩ := k_note hs hA
      rw [w1, Option.bind_some]
      dsimp only
      have n3 := FG_nd w3
      rw [if_pos (show (ndC ω == ndC υ) = true from beq_iff_eq.mpr n3)]
      have z : ∀ j, 25 ≤ j → sm υ ω j := fun j hj => w4 j (by omega) (fun i hi => by omega) (fun i hi => by omega)
      have fxω : fxK ω = fxK υ := by
        funext k
        unfold fxK
        rw [(z 36 (by omega)).1, (z 34 (by omega)).1]
      obtain ⟨ρ, r1, r2, r3, r4⟩ := k_entryRead (σ := ω) (T := T') (g := p) (h := q) (x := (y.1, y.2.1)) (by rw [(z 34 (by omega)).1]; exact g5) g4 (by rw [(z 43 (by omega)).1]; exact g6) (by rw [(z 43 (by omega)).1]; exact g9) (by rw [fxω]; exact pA) (by rw [fxω]; exact pB) (by rw [(z 35 (by omega)).1]; exact g7) (by rw [(z 35 (by omega)).1]; exact g10) g8 g11 m1 m2
      rw [r1, Option.bind_some]
      dsimp only
      rw [if_pos (show (ndC ρ == ndC ω + 5) = true from beq_iff_eq.mpr r3)]
      obtain ⟨π, a1, a2, a3, a4, a5⟩ := k_eadd (KA_H w2 r2) (show s.en.length < 6 by omega) r4
      rw [a1, Option.bind_some]
      dsimp only
      rw [if_pos (show (ndC π == ndC ρ) = true from beq_iff_eq.mpr a4)]
      have e5 : (sI π 0 1 0).1 5 1 = i32 (s.en.length + 1) := by rw [sI_ne _ _ (Or.inl (by decide))]; exact a3
      rw [e5]
      refine ⟨sI π 0 1 0, rfl, KA_01 a2 rfl (fun j a b => sI_row _ _ a) ⟨sI_at _ _ _ _, fun k hk => absurd hk (Nat.not_lt_zero _)⟩, ?_, ?_, ?_⟩
      · refine KV_38 (KV_38 (KV_38 g3 ?_) (GH_lo r2 (j := 38) (by omega)).1) (?_ : (sI π 0 1 0).1 38 = ρ.1 38)
        · exact (z 38 (by omega)).1
        · rw [sI_row _ _ (by decide)]; exact a5
      · show ndC σ ≤ ndC π; omega
      · show ndC π ≤ ndC σ + 5; omega
theorem k_sees {σ : CS} {s : Sta} (hs : SOK s) (h : KA σ s) (hv : KV σ) (x : Int32) : KN 5 σ (f_J_sees x σ) (aSees x s) := by
  unfold f_J_sees g_J_sees aSees B_J_sees_9
  have hE := hs.2.2.2.2.1.1
  by_cases hx : inR x 3
  · have h0 : 0 ≤ x := hx.1
    have ex := inR_e hx
    rw [if_neg (Int32.not_lt.mpr h0), if_pos (show x ≤ 2 from (inR_hi (n := 2) h0 (by omega)).mpr hx), if_pos hx, h.2.2.2.1.1]
    by_cases h6 : s.sg.length = 4
    · rw [if_neg (show ¬ (i32 s.sg.length < 4) by rw [h6]; decide), if_pos h6]
      exact ⟨σ, rfl, h, hv, Nat.le_refl _, Nat.le_add_right _ _⟩
    · rw [if_pos (show i32 s.sg.length < 4 by rw [z4, SO_lt (by omega) (by omega)]; omega), if_neg h6]
      obtain ⟨τ, T, b1, b2, b3, b4⟩ := k_begin hs h hv
      have g := k_readGiven (SOK_WL hs) b4 b3 (BK_KV b4)
      rw [b1, Option.bind_some]
      dsimp only
      rw [if_pos (show (ndC τ == ndC σ) = true from beq_iff_eq.mpr (RF_nd b2))]
      cases hsp : spG s.L s.en s.tx false with
      | error e =>
        rw [hsp] at g
        obtain ⟨he, υ, g1, g2, g3, g4⟩ := g
        rw [g1, Option.bind_some]
        dsimp only
        rw [if_pos (show (ndC υ == ndC τ) = true from beq_iff_eq.mpr (RF_nd g3)), if_pos rfl, g2]
        have := RF_nd (RF_tr b2 g3)
        exact ⟨υ, rfl, KA_RF h (RF_tr b2 g3), g4, by omega, by omega⟩
      | ok y =>
        rw [hsp] at g
        obtain ⟨υ, T', p, q, g1, g2, g3, g4, g5, g6, g7, g8, g9, g10, g11, g12⟩ := g
        have ho := (okG (SOK_WL hs) hsp).1
        obtain ⟨pA, pB⟩ := GiK_pr hs.2.2.1 g12 ho
        obtain ⟨m1, m2⟩ := ent_ln ho
        have n2 := RF_nd (RF_tr b2 g2)
        rw [g1, Option.bind_some]
        dsimp only
        rw [if_pos (show (ndC υ == ndC τ) = true from beq_iff_eq.mpr (RF_nd g2)), if_neg (show ¬ ((1 : Int32) = 0) from by decide)]
        have hA := KA_RF h (RF_tr b2 g2)
        obtain ⟨ρ, r1, r2, r3, r4⟩ := k_entryRead (σ := υ) (T := T') (g := p) (h := q) (x := (y.1, y.2.1)) g5 g4 g6 g9 pA pB g7 g10 g8 g11 m1 m2
        rw [r1, Option.bind_some]
        dsimp only
        rw [if_pos (show (ndC ρ == ndC υ + 5) = true from beq_iff_eq.mpr r3)]
        obtain ⟨π, a1, a2, a3, a4, a5⟩ := k_sadd (w := x.toNatClampNeg) (KA_H hA r2) (show s.sg.length < 4 by omega) r4
        rw [← ex] at a1
        rw [a1, Option.bind_some]
        dsimp only
        rw [if_pos (show (ndC π == ndC ρ) = true from beq_iff_eq.mpr a4)]
        have e5 : (sI π 0 1 0).1 25 2 = i32 (s.sg.length + 1) := by rw [sI_ne _ _ (Or.inl (by decide))]; exact a3
        rw [e5]
        refine ⟨sI π 0 1 0, rfl, KA_01 a2 rfl (fun j a b => sI_row _ _ a) ⟨sI_at _ _ _ _, fun k hk => absurd hk (Nat.not_lt_zero _)⟩, ?_, ?_, ?_⟩
        · refine KV_38 (KV_38 g3 (GH_lo r2 (j := 38) (by omega)).1) (?_ : (sI π 0 1 0).1 38 = ρ.1 38)
          rw [sI_row _ _ (by decide)]; exact a5
        · show ndC σ ≤ ndC π; omega
        · show ndC π ≤ ndC σ + 5; omega
  · rw [if_neg hx]
    by_cases h0 : x < 0
    · rw [if_pos h0]
      exact ⟨σ, rfl, h, hv, Nat.le_refl _, Nat.le_add_right _ _⟩
    · have h1 : 0 ≤ x := Int32.not_lt.mp h0
      rw [if_neg h0, if_neg (show ¬ (x ≤ 2) from fun g => hx ((inR_hi (n := 2) h1 (by omega)).mp g))]
      exact ⟨σ, rfl, h, hv, Nat.le_refl _, Nat.le_add_right _ _⟩
end KTOP22
