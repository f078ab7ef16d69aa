section KTOP26
/-- a shelf made anew: nothing in it -/
theorem k_shelfNew (σ : CS) : ∃ τ, f_Shelf_init (49 + ndC σ) (nwC σ 5 0) = some (0, τ) ∧ GH σ τ ∧ ndC τ = ndC σ + 2 ∧ shK τ (49 + ndC σ) [] := by
  have g0 : GH σ (nwC σ 5 0) := GH_nw σ 5 0
  have o0 : okc (nwC σ 5 0) (49 + ndC σ) 5 = true := ok_new σ 5 0
  have d0 : ndC (nwC σ 5 0) = ndC σ + 1 := rfl
  have i0 : (nwC σ 5 0).1 (49 + ndC σ) = fun _ => 0 := nw_I σ 5 0
  generalize nwC σ 5 0 = σ1 at g0 o0 d0 i0
  unfold f_Shelf_init
  have g1 : GH σ1 (nwC σ1 15 6) := GH_nw σ1 15 6
  have o1 := GH_okc g1 o0
  have p1 : okc (nwC σ1 15 6) (49 + ndC σ1) 15 = true := ok_new σ1 15 6
  have l1 : lnC (nwC σ1 15 6) (49 + ndC σ1) = 6 := nw_ln σ1 15 6
  have d1 : ndC (nwC σ1 15 6) = ndC σ1 + 1 := rfl
  have i1 : (nwC σ1 15 6).1 (49 + ndC σ) = fun _ => 0 := by rw [GH_I g1 o0]; exact i0
  rw [if_pos (show decide (49 ≤ 49 + ndC σ) = true from decide_eq_true (by omega)), if_pos o1]
  generalize nwC σ1 15 6 = σ2 at g1 o1 p1 l1 d1 i1
  refine ⟨_, rfl, GH_sR (GH_tr g0 g1) (Nat.le_refl _) _ _, by show ndC σ2 = _; omega, o1, by show σ2.1 (49 + ndC σ) 1 = _; rw [i1]; rfl, Nat.zero_le _, 49 + ndC σ1, ?_, p1, l1, fun e x hx => by simp at hx⟩
  rw [rfv_49 (by omega), sR_at]
/-- a call begins to read with laws and shelf of its own -/
theorem k_begin0 {σ : CS} {L : Lw} {tx : List Nat} {t a : Nat} (hL : lwOK L) (htx : ∀ k, k < tx.length → σ.1 1 k = i32 (byt tx k)) (hK : lawK σ t L) (ht : 49 ≤ t) (hS : shK σ a []) (ha : 49 ≤ a) (hv : KV σ) : ∃ τ T, f_Reader_begin (some 1) (i32 tx.length) (some t) (some a) σ = some (0, τ) ∧ RF σ τ ∧ T ≤ 350 ∧ BK L [] tx [] τ 0 1 T := by
  unfold f_Reader_begin
  have a1 : ∀ j, j ≠ 43 → (sI (sI (sR (sI (sR σ 43 4 (some 1)) 43 5 (i32 tx.length)) 43 6 (some a)) 43 7 0) 43 8 (-1)).1 j = σ.1 j := fun j hj => by
    rw [sI_row _ _ hj, sI_row _ _ hj]
    show (sI (sR σ 43 4 (some 1)) 43 5 (i32 tx.length)).1 j = _
    rw [sI_row _ _ hj]
    rfl
  have a2 : ∀ j, j ≠ 43 → (sI (sI (sR (sI (sR σ 43 4 (some 1)) 43 5 (i32 tx.length)) 43 6 (some a)) 43 7 0) 43 8 (-1)).2.1 j = σ.2.1 j := fun j hj => by
    show (sR (sI (sR σ 43 4 (some 1)) 43 5 (i32 tx.length)) 43 6 (some a)).2.1 j = _
    rw [sR_row _ _ _ hj]
    show (sR σ 43 4 (some 1)).2.1 j = _
    rw [sR_row _ _ _ hj]
  have a3 : (sI (sI (sR (sI (sR σ 43 4 (some 1)) 43 5 (i32 tx.length)) 43 6 (some a)) 43 7 0) 43 8 (-1)).2.2 = σ.2.2 := rfl
  have a4 : (sI (sI (sR (sI (sR σ 43 4 (some 1)) 43 5 (i32 tx.length)) 43 6 (some a)) 43 7 0) 43 8 (-1)).1 43 5 = i32 tx.length := by
    rw [sI_ne _ _ (Or.inr (by decide)), sI_ne _ _ (Or.inr (by decide))]
    exact sI_at (sR σ 43 4 (some 1)) 43 5 (i32 tx.length)
  have a5 : (sI (sI (sR (sI (sR σ 43 4 (some 1)) 43 5 (i32 tx.length)) 43 6 (some a)) 43 7 0) 43 8 (-1)).1 43 7 = i32 0 := by
    rw [sI_ne _ _ (Or.inr (by decide)), sI_at]; rfl
  have a6 : rfv (sI (sI (sR (sI (sR σ 43 4 (some 1)) 43 5 (i32 tx.length)) 43 6 (some a)) 43 7 0) 43 8 (-1)) 43 4 = some 1 := by
    unfold rfv
    rw [if_pos (show srf 43 4 = 0 from rfl)]
    show (sR (sI (sR σ 43 4 (some 1)) 43 5 (i32 tx.length)) 43 6 (some a)).2.1 43 4 = _
    rw [sR_ne _ _ (Or.inr (by decide))]
    exact sR_at _ _ _ _
  have a7 : rfv (sI (sI (sR (sI (sR σ 43 4 (some 1)) 43 5 (i32 tx.length)) 43 6 (some a)) 43 7 0) 43 8 (-1)) 43 6 = some a := by
    unfold rfv
    rw [if_pos (show srf 43 6 = 0 from rfl)]
    exact sR_at _ _ _ _
  generalize sI (sI (sR (sI (sR σ 43 4 (some 1)) 43 5 (i32 tx.length)) 43 6 (some a)) 43 7 0) 43 8 (-1) = σ1 at a1 a2 a3 a4 a5 a6 a7
  have r1 : RF σ σ1 := ⟨a3, a2, fun j hj => a1 j (fun e => hj (by rw [e]; decide))⟩
  have g1 := RF_FG r1
  have hK1 : lawK σ1 t L := lawK_x hK g1 ⟨a1 t (by omega), a2 t (by omega)⟩ (fun r hr => by
    have := ok16 hr
    exact ⟨a1 r (by omega), a2 r (by omega)⟩)
  obtain ⟨τ, T, b1, b2, b3, b4⟩ := k_sbegin hL (Or.inr ht) hK1
  rw [b1, Option.bind_some]
  dsimp only
  have hv1 : KV τ := by
    unfold KV
    rw [b2.2 38 (by omega), a1 38 (by omega)]
    exact hv
  obtain ⟨υ, c1, c2, c3, c4⟩ := k_rel1 hv1
  rw [c1, Option.bind_some]
  dsimp only
  rw [if_pos (show ix 0 (lS 45) = true from by decide)]
  have d1 : ∀ j, j ≠ 45 → (sI υ 45 ((0 : Int32).toNatClampNeg) 0).1 j = υ.1 j := fun j hj => sI_row _ _ hj
  have d2 : (sI υ 45 ((0 : Int32).toNatClampNeg) 0).2 = υ.2 := rfl
  have d3 : (sI υ 45 ((0 : Int32).toNatClampNeg) 0).1 45 0 = i32 0 := sI_at _ _ _ _
  generalize sI υ 45 ((0 : Int32).toNatClampNeg) 0 = ω at d1 d2 d3
  have e2 : ω.2 = σ1.2 := by rw [d2, c3, b2.1]
  have e1 : ∀ j, j ≠ 45 → j ≠ 38 → (j < 34 ∨ 37 < j) → ω.1 j = σ1.1 j := fun j x1 x2 x3 => by rw [d1 j x1, c4 j x2, b2.2 j x3]
  have eS : ∀ j, 34 ≤ j → j ≤ 37 → ω.1 j = τ.1 j := fun j x1 x2 => by rw [d1 j (by omega), c4 j (by omega)]
  have rω : RF σ ω := RF_tr r1 ⟨by rw [e2], fun j _ => by rw [e2], fun j hj => by
    have hj' : j ≠ 36 ∧ j ≠ 37 ∧ j ≠ 34 ∧ j ≠ 35 ∧ j ≠ 38 ∧ j ≠ 45 := by
      simp only [AB, AK, List.mem_cons, List.mem_nil_iff, or_false] at hj
      omega
    exact e1 j (by omega) (by omega) (by omega)⟩
  have hbi : BI L ω L.1.length L.2.length T := by
    unfold BI
    rw [eS 34 (by omega) (by omega), eS 35 (by omega) (by omega), eS 36 (by omega) (by omega), eS 37 (by omega) (by omega)]
    exact b3
  have haB : a ∉ AB := fun h => by have := AB_lt a h; omega
  have haK : a ∉ AK := fun h => haB (List.mem_cons_of_mem _ (List.mem_cons_of_mem _ h))
  have hS2 : shK ω a [] := by
    obtain ⟨s1, s2, s3, r, s4, s5, s6, s7⟩ := hS
    exact ⟨by rw [okc_22 rω.1]; exact s1, by rw [rω.2.2 a haB]; exact s2, s3, r, by rw [rfv_hi (rω.2.1 a (by omega))]; exact s4, by rw [okc_22 rω.1]; exact s5, by rw [lnC_22 rω.1]; exact s6, fun e x hx => by simp at hx⟩
  refine ⟨ω, T, rfl, rω, b4, vtOK_nil _, ⟨BI_lwP hL hbi b4, by rw [e1 43 (by omega) (by omega) (by omega)]; exact a4, by rw [rfv_2 e2]; exact a6, fun k hk => by rw [rω.2.2 1 (by decide)]; exact htx k hk, a, by rw [rfv_2 e2]; exact a7, hS2, haK⟩, ⟨hbi.1, by rw [d1 38 (by omega)]; exact c2, Nat.le_refl _, by omega, by omega, by rw [e1 43 (by omega) (by omega) (by omega)]; exact a5, fun k hk => ?_, fun k rq hrq => by simp at hrq⟩, Nat.zero_le _⟩
  have hk0 : k = 0 := Nat.le_zero.mp hk
  subst hk0
  exact ⟨0, d3, rfl⟩
/-- the images are forgotten, and the text -/
theorem k_laws_l (n0 : Nat) (x : Int32) {σ : CS} (hn : ndC σ ≤ n0 + 22) : ∃ τ, L_J_laws_111 n0 10000 x 0 σ = some (x, τ) ∧ τ.2 = σ.2 ∧ (∀ j, j ≠ 29 → j ≠ 0 → τ.1 j = σ.1 j) ∧ τ.1 29 0 = 0 ∧ τ.1 29 1 = 0 ∧ τ.1 0 1 = 0 := by
  rw [show (10000 : Nat) = 9997 + 1 + 1 + 1 from rfl]
  rw [L_J_laws_111, if_neg (show ¬ ((2 : Int32) ≤ 0) from by decide), if_pos (show ix 0 (lS 29) = true from by decide), L_J_laws_111, if_neg (show ¬ ((2 : Int32) ≤ 0 + 1) from by decide), if_pos (show ix (0 + 1) (lS 29) = true from by decide), L_J_laws_111, if_pos (show (2 : Int32) ≤ 0 + 1 + 1 from by decide), if_pos (show decide (ndC (sI (sI σ 29 ((0 : Int32).toNatClampNeg) 0) 29 ((0 + 1 : Int32).toNatClampNeg) 0) ≤ n0 + 22) = true from decide_eq_true hn)]
  refine ⟨_, rfl, rfl, fun j a b => by rw [sI_row _ _ b, sI_row _ _ a, sI_row _ _ a], ?_, ?_, sI_at _ _ _ _⟩
  · rw [sI_ne _ _ (Or.inl (by decide)), sI_ne _ _ (Or.inr (by decide))]
    exact sI_at _ _ _ _
  · rw [sI_ne _ _ (Or.inl (by decide))]
    exact sI_at _ _ _ _
/-- the end of the call that declares -/
theorem k_lawsEnd {σ : CS} {s : Sta} {L : Lw} {T n0 : Nat} (h : KA σ s) (hv : KV σ) (hL : lwOK L) (hl : lwP L σ T) (h34 : σ.1 34 1 = i32 T) (hT : T ≤ 3600) (hn : ndC σ = n0 + 5) (x : Int32) : ∃ τ, B_J_laws_74 n0 x σ = some (x, τ) ∧ KA τ ([], L, [], [], [], (none, none)) ∧ KV τ ∧ ndC σ ≤ ndC τ ∧ ndC τ ≤ n0 + 22 := by
  obtain ⟨τ, t1, t2, t3, t4⟩ := k_declared hL hl h34 hT
  have hA := KA_H h t2
  obtain ⟨h1, h2, h3, h4, ⟨nw, n1, n2, n3, n4⟩, h6, h7⟩ := hA
  have hle := t2.1
  unfold B_J_laws_74
  rw [t1, Option.bind_some]
  dsimp only
  rw [if_pos (show decide (ndC σ ≤ ndC τ) = true from decide_eq_true hle), if_pos (show decide (ndC τ ≤ n0 + 22) = true from decide_eq_true (by omega))]
  unfold f_Shelf_empty f_History_empty f_Sights_empty
  rw [if_pos (show okc (sR τ 0 2 (some (49 + ndC σ))) 5 5 = true from h3.1), Option.bind_some]
  dsimp only
  rw [if_pos (show (ndC (sI (sR τ 0 2 (some (49 + ndC σ))) 5 1 0) == ndC τ) = true from beq_self_eq_true _), if_pos (show decide (ndC (sI (sR τ 0 2 (some (49 + ndC σ))) 5 1 0) ≤ n0 + 22) = true from decide_eq_true (show ndC τ ≤ n0 + 22 by omega)), Option.bind_some]
  dsimp only
  rw [if_pos (show (ndC (sI (sI (sR τ 0 2 (some (49 + ndC σ))) 5 1 0) 7 2 0) == ndC (sI (sR τ 0 2 (some (49 + ndC σ))) 5 1 0)) = true from beq_self_eq_true _), if_pos (show decide (ndC (sI (sI (sR τ 0 2 (some (49 + ndC σ))) 5 1 0) 7 2 0) ≤ n0 + 22) = true from decide_eq_true (show ndC τ ≤ n0 + 22 by omega)), Option.bind_some]
  dsimp only
  rw [if_pos (show (ndC (sI (sI (sI (sR τ 0 2 (some (49 + ndC σ))) 5 1 0) 7 2 0) 25 2 0) == ndC (sI (sI (sR τ 0 2 (some (49 + ndC σ))) 5 1 0) 7 2 0)) = true from beq_self_eq_true _)]
  obtain ⟨υ, u1, u2, u3, u4, u5, u6⟩ := k_laws_l n0 x (σ := sI (sI (sI (sR τ 0 2 (some (49 + ndC σ))) 5 1 0) 7 2 0) 25 2 0) (show ndC τ ≤ n0 + 22 by omega)
  refine ⟨υ, u1, ?_, ?_, ?_, ?_⟩
  · have e1 : ∀ j, j ≠ 29 → j ≠ 0 → j ≠ 5 → j ≠ 7 → j ≠ 25 → υ.1 j = τ.1 j := fun j a b c d e => by
      rw [u3 j a b, sI_row _ _ e, sI_row _ _ d, sI_row _ _ c]; rfl
    have e2 : ∀ j, j ≠ 0 → υ.2.1 j = τ.2.1 j := fun j hj => by
      rw [u2]
      show (sR τ 0 2 (some (49 + ndC σ))).2.1 j = _
      exact sR_row _ _ _ hj
    have e22 : υ.2.2 = τ.2.2 := by rw [u2]; rfl
    have g : FG τ υ := ⟨e22, fun j hj => ⟨e1 j (by omega) (by omega) (by omega) (by omega) (by omega), e2 j (by omega)⟩⟩
    have z : ∀ j, j ≠ 29 → j ≠ 0 → j ≠ 5 → j ≠ 7 → j ≠ 25 → sm τ υ j := fun j a b c d e => ⟨e1 j a b c d e, e2 j b⟩
    have v5 : υ.1 5 1 = i32 0 := by
      rw [u3 5 (by decide) (by decide), sI_ne _ _ (Or.inl (by decide)), sI_ne _ _ (Or.inl (by decide)), sI_at]; rfl
    have v72 : υ.1 7 2 = i32 0 := by
      rw [u3 7 (by decide) (by decide), sI_ne _ _ (Or.inl (by decide)), sI_at]; rfl
    have v71 : υ.1 7 1 = i32 nw := by
      rw [u3 7 (by decide) (by decide), sI_ne _ _ (Or.inl (by decide)), sI_ne _ _ (Or.inr (by decide)), sI_ne _ _ (Or.inl (by decide))]; exact n2
    have v25 : υ.1 25 2 = i32 0 := by
      rw [u3 25 (by decide) (by decide), sI_at]; rfl
    have f7 := KAf_x h7 g (e2 6 (by decide)) (fun i hi => e2 _ (by omega)) (fun j hj => e2 _ (by omega))
    refine ⟨⟨u6, fun k hk => absurd hk (Nat.not_lt_zero _)⟩, ⟨49 + ndC σ, ?_, lawK_x t3 g (z _ (by omega) (by omega) (by omega) (by omega) (by omega)) (fun r hr => by have := ok16 hr; exact z r (by omega) (by omega) (by omega) (by omega) (by omega)), Or.inr (by omega)⟩, shK_mk shD_5 f7.1 v5 (Nat.zero_le _) (fun e x hx => by have hx' : ([] : Ens)[e]? = some x := hx; simp at hx'), ⟨v25, fun i x hx => by have hx' : ([] : List (Nat × (Tr × Tr)))[i]? = some x := hx; simp at hx'⟩, ⟨nw, n1, v71, v72, fun i l hl => by have hx' : ([] : List Ens)[i]? = some l := hl; simp at hx'⟩, ⟨u4, u5⟩, f7⟩
    unfold rfv
    rw [if_pos (show srf 0 2 = 0 from rfl), u2]
    exact sR_at _ _ _ _
  · refine KV_38 (KV_38 hv (GH_lo t2 (j := 38) (by omega)).1) ?_
    rw [u3 38 (by decide) (by decide), sI_row _ _ (by decide), sI_row _ _ (by decide), sI_row _ _ (by decide)]; rfl
  · have : ndC υ = ndC τ := by unfold ndC; rw [u2]; rfl
    omega
  · have : ndC υ = ndC τ := by unfold ndC; rw [u2]; rfl
    omega
theorem k_hasMore {σ : CS} {n p : Nat} (h5 : σ.1 43 5 = i32 n) (h7 : σ.1 43 7 = i32 p) (hn : n ≤ 40) (hp : p ≤ n) : f_Reader_hasMore σ = some (if p = n then 0 else 1, σ) := by
  unfold f_Reader_hasMore B_Reader_hasMore_16
  rw [h5, h7]
  by_cases h : p = n
  · rw [if_pos (show i32 n ≤ i32 p by rw [z_le (by omega) (by omega)]; omega), if_pos h]
    rfl
  · rw [if_neg (show ¬ (i32 n ≤ i32 p) by rw [z_le (by omega) (by omega)]; omega), if_neg h]
    rfl
/-- the declarations -/
theorem k_laws_loop {s : Sta} {tx : List Nat} {n0 : Nat} (hl : tx.length ≤ 32) (hbt : ∀ x ∈ tx, x < 256) : ∀ (f p : Nat) (L : Lw) (n F : Nat) (σ : CS) (V T : Nat), tx.length - p < f → f + 1 ≤ F → lwOK L → BK L [] tx [] σ p V T → KA σ s → KV σ → n + n ≤ p → ndC σ = n0 + 5 → match spL tx f p L n with
  | .ok y => ∃ τ, L_J_laws_31 n0 F (i32 n) σ = some (i32 y.2, τ) ∧ KA τ ([], y.1, [], [], [], (none, none)) ∧ KV τ ∧ n0 ≤ ndC τ ∧ ndC τ ≤ n0 + 22
  | .error e => ∃ τ, L_J_laws_31 n0 F (i32 n) σ = some (flt e, τ) ∧ KA τ s ∧ KV τ ∧ n0 ≤ ndC τ ∧ ndC τ ≤ n0 + 22 := by
  intro f
  induction f with
  | zero => intro p L n F σ V T h; omega
  | succ f ih =>
    intro p L n F σ V T h1 h2 hL hb hA hv hn hd
    obtain ⟨F, rfl⟩ : ∃ F', F = F' + 1 := ⟨F - 1, by omega⟩
    have hp := hb.2.2.2
    have hT := hb.2.2.1.2.2.2.2.1
    have hw : WL L [] tx := ⟨hL, ents_nil L, Nat.zero_le _, hl, hbt⟩
    rw [L_J_laws_31, spL, if_neg (show ¬ ((32 : Int32) ≤ i32 n) by rw [z32, z_le (by omega) (by omega)]; omega), k_hasMore hb.2.1.2.1 hb.2.2.1.2.2.2.2.2.1 (by omega) hp, Option.bind_some]
    dsimp only
    rw [if_pos (show (ndC σ == ndC σ) = true from beq_self_eq_true _)]
    by_cases hlp : tx.length ≤ p
    · rw [if_pos hlp, if_pos (show (if p = tx.length then (0 : Int32) else 1) = 0 from if_pos (by omega))]
      dsimp only
      obtain ⟨τ, a1, a2, a3, a4, a5⟩ := k_lawsEnd hA hv hL hb.2.1.1 hb.2.2.1.1 (by omega) hd (i32 n)
      exact ⟨τ, a1, a2, a3, by omega, a5⟩
    · rw [if_neg hlp, if_neg (show ¬ ((if p = tx.length then (0 : Int32) else 1) = 0) by rw [if_neg (show ¬ (p = tx.length) by omega)]; decide)]
      have it := k_readItem hw hb (by omega) hv
      cases hs : spD tx p L with
      | error e =>
        rw [hs] at it
        obtain ⟨he, τ, t1, t2, t3, t4⟩ := it
        rw [t1, Option.bind_some]
        dsimp only
        have hnd := RF_nd t3
        rw [if_pos (show (ndC τ == ndC σ) = true from beq_iff_eq.mpr hnd), if_pos rfl, t2]
        exact ⟨τ, rfl, KA_RF hA t3, t4, by omega, by omega⟩
      | ok y =>
        have ho := okD hL hs
        rw [hs] at it
        show match (if byt tx y.2 = 59 then spL tx f (y.2 + 1) y.1 (n + 1) else .error y.2) with
          | .ok y => ∃ τ, _ = some (i32 y.2, τ) ∧ KA τ ([], y.1, [], [], [], (none, none)) ∧ KV τ ∧ n0 ≤ ndC τ ∧ ndC τ ≤ n0 + 22
          | .error e => ∃ τ, _ = some (flt e, τ) ∧ KA τ s ∧ KV τ ∧ n0 ≤ ndC τ ∧ ndC τ ≤ n0 + 22
        by_cases h59 : byt tx y.2 = 59
        · obtain ⟨τ, V', T', t1, t2, t3, t4⟩ := it.1 h59
          have hnd := RF_nd t3
          have hq := byt_lt (tx := tx) (p := y.2) (by omega)
          rw [if_pos h59, t1, Option.bind_some]
          dsimp only
          rw [if_pos (show (ndC τ == ndC σ) = true from beq_iff_eq.mpr hnd), if_neg (show ¬ ((1 : Int32) = 0) from by decide), z1, z_add]
          exact ih (y.2 + 1) y.1 (n + 1) F τ V' T' (by omega) (by omega) ho.1 t2 (KA_RF hA t3) t4 (by omega) (by omega)
        · obtain ⟨he, τ, t1, t2, t3, t4⟩ := it.2 h59
          have hnd := RF_nd t3
          rw [if_neg h59, t1, Option.bind_some]
          dsimp only
          rw [if_pos (show (ndC τ == ndC σ) = true from beq_iff_eq.mpr hnd), if_pos rfl, t2]
          exact ⟨τ, rfl, KA_RF hA t3, t4, by omega, by omega⟩
theorem k_laws {σ : CS} {s : Sta} (hs : SOK s) (h : KA σ s) (hv : KV σ) : KN 22 σ (f_J_laws σ) (aLaws s) := by
  have hl := hs.1
  unfold f_J_laws g_J_laws aLaws
  obtain ⟨τ, t1, t2, t3, t4⟩ := k_lawsNew σ
  rw [t1, Option.bind_some]
  dsimp only
  rw [if_pos (show (ndC τ == ndC (nwC σ 3 0) + 2) = true from beq_iff_eq.mpr t3)]
  obtain ⟨υ, u1, u2, u3, u4⟩ := k_shelfNew τ
  rw [u1, Option.bind_some]
  dsimp only
  rw [if_pos (show (ndC υ == ndC (nwC τ 5 0) + 1) = true from beq_iff_eq.mpr u3), h.1.1]
  have g := GH_tr t2 u2
  have hA := KA_H h g
  have hv2 : KV υ := KV_38 hv (GH_lo g (j := 38) (by omega)).1
  have hK : lawK υ (49 + ndC σ) ([], []) := DD_law (L := ([], [])) (DD_H (t4 _) u2)
  obtain ⟨ω, T, b1, b2, b3, b4⟩ := k_begin0 (L := ([], [])) (tx := s.tx) (t := 49 + ndC σ) (a := 49 + ndC τ) lwOK_nil hA.1.2 hK (by omega) u4 (by omega) hv2
  rw [b1, Option.bind_some]
  dsimp only
  have hnd := RF_nd b2
  rw [if_pos (show (ndC ω == ndC υ) = true from beq_iff_eq.mpr hnd)]
  have run := k_laws_loop (s := s) (n0 := ndC σ) hl hs.2.1 40 0 ([], []) 0 10000 ω 1 T (by omega) (Nat.le_of_ble_eq_true rfl) lwOK_nil b4 (KA_RF hA b2) (KV_V b4.2.2.1.2.1 (Nat.le_refl _) (by omega)) (by omega) (by omega)
  cases hsp : spL s.tx 40 0 ([], []) 0 with
  | error e =>
    rw [hsp] at run
    obtain ⟨ρ, r1, r2, r3, r4, r5⟩ := run
    exact ⟨ρ, r1, r2, r3, r4, r5⟩
  | ok y =>
    rw [hsp] at run
    obtain ⟨ρ, r1, r2, r3, r4, r5⟩ := run
    exact ⟨ρ, r1, r2, r3, r4, r5⟩
end KTOP26
