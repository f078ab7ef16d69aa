section KTOP1
def sm (σ τ : CS) (j : Nat) : Prop := τ.1 j = σ.1 j ∧ τ.2.1 j = σ.2.1 j
def shC (a : Nat) : Prop := srf a 0 = a + 1 ∧ a + 1 < 49
theorem shC_5 : shC 5 := ⟨rfl, by omega⟩
theorem shC_9 : ∀ i, i < 8 → shC (9 + 2 * i) := by
  intro i hi
  have : ∀ i, i < 8 → srf (9 + 2 * i) 0 = 9 + 2 * i + 1 := by decide
  exact ⟨this i hi, by omega⟩
theorem shC_30 : ∀ j, j < 2 → shC (30 + 2 * j) := by
  intro j hj
  have : ∀ j, j < 2 → srf (30 + 2 * j) 0 = 30 + 2 * j + 1 := by decide
  exact ⟨this j hj, by omega⟩
theorem shC_r {a : Nat} (h : shC a) (σ : CS) : rfv σ a 0 = some (a + 1) := by
  unfold rfv
  rw [h.1, if_neg (by omega)]
theorem KAt_x {σ τ : CS} {tx : List Nat} (h : KAt σ tx) (a : τ.1 0 1 = σ.1 0 1) (b : τ.1 1 = σ.1 1) : KAt τ tx := by
  unfold KAt
  rw [a, b]; exact h
theorem lawK_x {σ τ : CS} {t : Nat} {L : Lw} (h : lawK σ t L) (g : FG σ τ) (ht : sm σ τ t) (hr : ∀ r, okc σ r 16 = true → sm σ τ r) : lawK τ t L := by
  obtain ⟨h1, h2, h3, a, b, h4, h5, h6, h7, h8, h9, h10, h11, h12⟩ := h
  refine ⟨by rw [okc_22 g.1]; exact h1, by rw [ht.1]; exact h2, by rw [ht.1]; exact h3, a, b, by rw [rfv_hi ht.2]; exact h4, by rw [okc_22 g.1]; exact h5, by rw [lnC_22 g.1]; exact h6, by rw [rfv_hi ht.2]; exact h7, by rw [okc_22 g.1]; exact h8, by rw [lnC_22 g.1]; exact h9, fun k hk => by rw [rfv_hi (hr a h5).2]; exact h10 k hk, fun k I hI => ?_, fun k T hT => ?_⟩
  · obtain ⟨c, c1, c2⟩ := h11 k I hI
    exact ⟨c, by rw [rfv_hi (hr a h5).2]; exact c1, formK_G c2 g⟩
  · obtain ⟨c, c1, c2⟩ := h12 k T hT
    exact ⟨c, by rw [rfv_hi (hr b h8).2]; exact c1, formK_G c2 g⟩
theorem ok16 {σ : CS} {r : Nat} (h : okc σ r 16 = true) : r = 3 ∨ r = 4 ∨ 49 ≤ r := by
  by_cases hj : r < 49
  · have h2 : knd σ r = 16 := okc_k h
    unfold knd at h2
    rw [if_pos hj] at h2
    have hk : ∀ j, j < 49 → kS j = 16 → j = 3 ∨ j = 4 := by decide
    have := hk r hj h2
    omega
  · omega
theorem KAl_x {σ τ : CS} {L : Lw} (h : KAl σ L) (g : FG σ τ) (r0 : τ.2.1 0 = σ.2.1 0) (h2 : sm σ τ 2) (h3 : sm σ τ 3) (h4 : sm σ τ 4) : KAl τ L := by
  obtain ⟨t, e, l, ht⟩ := h
  refine ⟨t, by rw [rfv_hi r0]; exact e, lawK_x l g ?_ (fun r hr => ?_), ht⟩
  · rcases ht with rfl | ht
    · exact h2
    · exact g.2 t ht
  · rcases ok16 hr with rfl | rfl | hr
    · exact h3
    · exact h4
    · exact g.2 r hr
theorem shK_x {σ τ : CS} {a : Nat} {l : Ens} (ha : shC a) (h : shK σ a l) (g : FG σ τ) (h1 : sm σ τ a) (h2 : τ.2.1 (a + 1) = σ.2.1 (a + 1)) : shK τ a l := by
  obtain ⟨a1, a2, a3, r, a4, a5, a6, a7⟩ := h
  have hr : r = a + 1 := by
    rw [shC_r ha] at a4
    injection a4 with a4
    exact a4.symm
  subst hr
  refine ⟨by rw [okc_22 g.1]; exact a1, by rw [h1.1]; exact a2, a3, a + 1, shC_r ha τ, by rw [okc_22 g.1]; exact a5, by rw [lnC_22 g.1]; exact a6, fun e x hx => ?_⟩
  obtain ⟨c, b1, b2⟩ := a7 e x hx
  exact ⟨c, by rw [rfv_hi h2]; exact b1, entK_G b2 g⟩
theorem shF_x {σ τ : CS} {a : Nat} (ha : shC a) (h : shF σ a) (g : FG σ τ) (h2 : τ.2.1 (a + 1) = σ.2.1 (a + 1)) : shF τ a := by
  obtain ⟨a1, r, a4, a5, a6, a7, a8⟩ := h
  have hr : r = a + 1 := by
    rw [shC_r ha] at a4
    injection a4 with a4
    exact a4.symm
  subst hr
  exact ⟨by rw [okc_22 g.1]; exact a1, a + 1, shC_r ha τ, a5, by rw [okc_22 g.1]; exact a6, by rw [lnC_22 g.1]; exact a7, fun k hk => by rw [rfv_hi h2, okr_22 g.1]; exact a8 k hk⟩
theorem KAs_x {σ τ : CS} {sg : List (Nat × (Tr × Tr))} (h : KAs σ sg) (g : FG σ τ) (a : τ.1 25 2 = σ.1 25 2) (b : τ.1 27 = σ.1 27) (c : τ.2.1 26 = σ.2.1 26) : KAs τ sg := by
  refine ⟨by rw [a]; exact h.1, fun i x hx => ?_⟩
  obtain ⟨h1, d, h2, h3⟩ := h.2 i x hx
  exact ⟨by rw [b]; exact h1, d, by rw [rfv_hi c]; exact h2, entK_G h3 g⟩
theorem mod8 (n : Nat) : n % 8 < 8 := Nat.mod_lt _ (by omega)
theorem KAu_x {σ τ : CS} {un : List Ens} (h : KAu σ un) (g : FG σ τ) (h7 : τ.1 7 = σ.1 7) (hs : ∀ i, i < 8 → sm σ τ (9 + 2 * i) ∧ τ.2.1 (9 + 2 * i + 1) = σ.2.1 (9 + 2 * i + 1)) : KAu τ un := by
  obtain ⟨nw, a1, a2, a3, a4⟩ := h
  exact ⟨nw, a1, by rw [h7]; exact a2, by rw [h7]; exact a3, fun i l hl => shK_x (shC_9 _ (mod8 _)) (a4 i l hl) g (hs _ (mod8 _)).1 (hs _ (mod8 _)).2⟩
theorem imK_x {σ τ : CS} {j : Nat} {o : Option Ens} (hj : j < 2) (h : imK σ j o) (g : FG σ τ) (h29 : τ.1 29 j = σ.1 29 j) (h1 : sm σ τ (30 + 2 * j)) (h2 : τ.2.1 (30 + 2 * j + 1) = σ.2.1 (30 + 2 * j + 1)) : imK τ j o := by
  cases o with
  | none => unfold imK at h ⊢; rw [h29]; exact h
  | some l => exact ⟨by rw [h29]; exact h.1, shK_x (shC_30 j hj) h.2 g h1 h2⟩
theorem KAi_x {σ τ : CS} {im : Option Ens × Option Ens} (h : KAi σ im) (g : FG σ τ) (h29 : τ.1 29 = σ.1 29) (hs : ∀ j, j < 2 → sm σ τ (30 + 2 * j) ∧ τ.2.1 (30 + 2 * j + 1) = σ.2.1 (30 + 2 * j + 1)) : KAi τ im := ⟨imK_x (by omega) h.1 g (by rw [h29]) (hs 0 (by omega)).1 (hs 0 (by omega)).2, imK_x (by omega) h.2 g (by rw [h29]) (hs 1 (by omega)).1 (hs 1 (by omega)).2⟩
theorem KAf_x {σ τ : CS} (h : KAf σ) (g : FG σ τ) (h5 : τ.2.1 6 = σ.2.1 6) (h9 : ∀ i, i < 8 → τ.2.1 (9 + 2 * i + 1) = σ.2.1 (9 + 2 * i + 1)) (h30 : ∀ j, j < 2 → τ.2.1 (30 + 2 * j + 1) = σ.2.1 (30 + 2 * j + 1)) : KAf τ := ⟨shF_x shC_5 h.1 g h5, fun i hi => shF_x (shC_9 i hi) (h.2.1 i hi) g (h9 i hi), fun j hj => shF_x (shC_30 j hj) (h.2.2 j hj) g (h30 j hj)⟩
/-- the cells that a reading changes -/
def AB : List Nat := 36 :: 37 :: AK
/-- what a reading leaves -/
def RF (σ τ : CS) : Prop := τ.2.2 = σ.2.2 ∧ (∀ j, j ≠ 43 → τ.2.1 j = σ.2.1 j) ∧ ∀ j, j ∉ AB → τ.1 j = σ.1 j
theorem RF_rf (σ : CS) : RF σ σ := ⟨rfl, fun _ _ => rfl, fun _ _ => rfl⟩
theorem RF_tr {σ τ υ : CS} (h : RF σ τ) (g : RF τ υ) : RF σ υ := ⟨g.1.trans h.1, fun j hj => (g.2.1 j hj).trans (h.2.1 j hj), fun j hj => (g.2.2 j hj).trans (h.2.2 j hj)⟩
theorem AB_lt : ∀ j ∈ AB, j < 49 := by decide
theorem RF_ch {σ τ : CS} (h : chK AK σ τ) : RF σ τ := ⟨by rw [h.1], fun j _ => by rw [h.1], fun j hj => h.2.1 j (fun e => hj (List.mem_cons_of_mem _ (List.mem_cons_of_mem _ e)))⟩
theorem RF_sm {σ τ : CS} (h : RF σ τ) {j : Nat} (h1 : j ∉ AB) (h2 : j ≠ 43) : sm σ τ j := ⟨h.2.2 j h1, h.2.1 j h2⟩
theorem RF_FG {σ τ : CS} (h : RF σ τ) : FG σ τ := ⟨h.1, fun j hj => RF_sm h (fun e => by have := AB_lt j e; omega) (by omega)⟩
theorem nAB9 : ∀ i, i < 8 → 9 + 2 * i ∉ AB ∧ 9 + 2 * i ≠ 43 ∧ 9 + 2 * i + 1 ≠ 43 := by decide
theorem nAB30 : ∀ j, j < 2 → 30 + 2 * j ∉ AB ∧ 30 + 2 * j ≠ 43 ∧ 30 + 2 * j + 1 ≠ 43 := by decide
theorem KA_RF {σ τ : CS} {s : Sta} (h : KA σ s) (r : RF σ τ) : KA τ s := by
  obtain ⟨h1, h2, h3, h4, h5, h6, h7⟩ := h
  have g := RF_FG r
  have z : ∀ j, j ∉ AB → j ≠ 43 → sm σ τ j := fun j a b => RF_sm r a b
  exact ⟨KAt_x h1 (by rw [(z 0 (by decide) (by decide)).1]) (z 1 (by decide) (by decide)).1, KAl_x h2 g (z 0 (by decide) (by decide)).2 (z 2 (by decide) (by decide)) (z 3 (by decide) (by decide)) (z 4 (by decide) (by decide)), shK_x shC_5 h3 g (z 5 (by decide) (by decide)) (z 6 (by decide) (by decide)).2, KAs_x h4 g (by rw [(z 25 (by decide) (by decide)).1]) (z 27 (by decide) (by decide)).1 (z 26 (by decide) (by decide)).2, KAu_x h5 g (z 7 (by decide) (by decide)).1 (fun i hi => ⟨z _ (nAB9 i hi).1 (nAB9 i hi).2.1, r.2.1 _ (nAB9 i hi).2.2⟩), KAi_x h6 g (z 29 (by decide) (by decide)).1 (fun j hj => ⟨z _ (nAB30 j hj).1 (nAB30 j hj).2.1, r.2.1 _ (nAB30 j hj).2.2⟩), KAf_x h7 g (z 6 (by decide) (by decide)).2 (fun i hi => r.2.1 _ (nAB9 i hi).2.2) (fun j hj => r.2.1 _ (nAB30 j hj).2.2)⟩
end KTOP1
