section KTOP8
theorem k_remove_l {σ : CS} {t w m : Nat} (ht : shD t) (hT : shF σ t) (hm : m ≤ 5) (h1 : σ.1 t 1 = i32 m) : ∀ (d F i : Nat) (τ : CS), i + d = m → d < F → τ.1 = σ.1 → τ.2.2 = σ.2.2 → (∀ j, j ≠ t + 1 → τ.2.1 j = σ.2.1 j) → (∀ k, k < 6 → rfv τ (t + 1) k = if w ≤ k ∧ k < i then rfv σ (t + 1) (k + 1) else rfv σ (t + 1) k) → w ≤ i → ∃ υ, L_Shelf_remove_25 t F (i32 i) τ = some (0, υ) ∧ υ.1 = σ.1 ∧ υ.2.2 = σ.2.2 ∧ (∀ j, j ≠ t + 1 → υ.2.1 j = σ.2.1 j) ∧ ∀ k, k < 6 → rfv υ (t + 1) k = if w ≤ k ∧ k < m then rfv σ (t + 1) (k + 1) else rfv σ (t + 1) k := by
  obtain ⟨p1, p2, p3, p4⟩ := shF_r ht hT
  intro d
  induction d with
  | zero =>
    intro F i τ hi hF t1 t2 t3 t4 hw
    obtain ⟨F, rfl⟩ : ∃ F', F = F' + 1 := ⟨F - 1, by omega⟩
    obtain rfl : i = m := by omega
    refine ⟨τ, ?_, t1, t2, t3, t4⟩
    rw [L_Shelf_remove_25, if_pos (show okc τ t 5 = true by rw [okc_22 t2]; exact p1), t1, h1, if_pos (Int32.le_refl _)]
    rfl
  | succ d ih =>
    intro F i τ hi hF t1 t2 t3 t4 hw
    obtain ⟨F, rfl⟩ : ∃ F', F = F' + 1 := ⟨F - 1, by omega⟩
    have e1 : i32 i + 1 = i32 (i + 1) := by rw [z1, z_add]
    have er : rfv τ (t + 1) (i + 1) = rfv σ (t + 1) (i + 1) := by rw [t4 (i + 1) (by omega), if_neg (by omega)]
    rw [L_Shelf_remove_25, if_pos (show okc τ t 5 = true by rw [okc_22 t2]; exact p1), t1, h1, if_neg (show ¬ (i32 m ≤ i32 i) by rw [z_le (by omega) (by omega)]; omega), e1, if_neg (show ¬ ((6 : Int32) ≤ i32 (i + 1)) by rw [z6, z_le (by omega) (by omega)]; omega), if_pos (show okc τ t 5 = true by rw [okc_22 t2]; exact p1), if_pos (show okc τ t 5 = true by rw [okc_22 t2]; exact p1), shC_r ht.1, Option.bind_some, if_pos (show okc τ (t + 1) 15 = true by rw [okc_22 t2]; exact p2), lnC_22 t2, p3, if_pos (c_ix (show i + 1 < 6 by omega) (by omega)), if_pos (show okc τ (t + 1) 15 = true by rw [okc_22 t2]; exact p2), if_pos (c_ix (show i < 6 by omega) (by omega)), z_nn (by omega), z_nn (by omega), er, if_pos (show okr τ (rfv σ (t + 1) (i + 1)) 0 = true by rw [okr_22 t2]; exact p4 _ (by omega))]
    refine ih F (i + 1) (sR τ (t + 1) i (rfv σ (t + 1) (i + 1))) (by omega) (by omega) t1 t2 (fun j hj => by rw [sR_row _ _ _ hj]; exact t3 j hj) (fun k hk => ?_) (by omega)
    rw [rfv_D ht _ hk]
    by_cases hki : k = i
    · subst hki
      rw [sR_at, if_pos (by omega)]
    · rw [sR_ne _ _ (Or.inr hki), ← rfv_D ht τ hk, t4 k hk]
      by_cases hlt : w ≤ k ∧ k < i
      · rw [if_pos hlt, if_pos (by omega)]
      · rw [if_neg hlt, if_neg (by omega)]
theorem k_remove {σ : CS} {t w : Nat} {l : Ens} (ht : shD t) (hT : shF σ t) (hl : shK σ t l) (hw : w < l.length) : ∃ τ, f_Shelf_remove t (i32 w) σ = some (0, τ) ∧ FG σ τ ∧ (∀ j, j ≠ t → τ.1 j = σ.1 j) ∧ (∀ j, j ≠ t + 1 → τ.2.1 j = σ.2.1 j) ∧ shK τ t (l.eraseIdx w) ∧ shF τ t := by
  obtain ⟨p1, p2, p3, p4⟩ := shF_r ht hT
  obtain ⟨r1, r2, r3⟩ := shK_r ht hl
  unfold f_Shelf_remove
  rw [if_neg (nlt0 (by omega)), if_pos p1, r1, if_pos ((i_lt (by omega) (by omega)).mpr hw), if_pos p1, if_pos p1, show i32 l.length - 1 = i32 (l.length - 1) by rw [z1, z_sub (by omega)]]
  have e1 : ∀ j, j ≠ t → (sI σ t 1 (i32 (l.length - 1))).1 j = σ.1 j := fun j hj => sI_row _ _ hj
  have e2 : (sI σ t 1 (i32 (l.length - 1))).2 = σ.2 := rfl
  have e3 : (sI σ t 1 (i32 (l.length - 1))).1 t 1 = i32 (l.length - 1) := sI_at _ _ _ _
  have g1 : FG σ (sI σ t 1 (i32 (l.length - 1))) := FG_sI σ _ _ (by have := ht.1.2; omega)
  generalize sI σ t 1 (i32 (l.length - 1)) = σ1 at e1 e2 e3 g1
  have hT1 : shF σ1 t := shF_x ht.1 hT g1 (by rw [e2])
  obtain ⟨τ, t1, t2, t3, t4, t5⟩ := k_remove_l (w := w) (m := l.length - 1) ht hT1 (by omega) e3 (l.length - 1 - w) 10000 w σ1 (by omega) (Nat.lt_of_lt_of_le (show l.length - 1 - w < 10 by omega) (Nat.le_of_ble_eq_true rfl)) rfl rfl (fun _ _ => rfl) (fun k hk => by rw [if_neg (by omega)]) (Nat.le_refl _)
  have g2 : FG σ1 τ := ⟨t3, fun j hj => ⟨by rw [t2], t4 j (by have := ht.1.2; omega)⟩⟩
  have g := FG_tr g1 g2
  have t5' : ∀ k, k < 6 → rfv τ (t + 1) k = if w ≤ k ∧ k < l.length - 1 then rfv σ (t + 1) (k + 1) else rfv σ (t + 1) k := fun k hk => by
    rw [t5 k hk, rfv_hi (show σ1.2.1 (t + 1) = σ.2.1 (t + 1) by rw [e2]), rfv_hi (show σ1.2.1 (t + 1) = σ.2.1 (t + 1) by rw [e2])]
  have hF : shF τ t := ⟨by rw [okc_22 g.1]; exact p1, t + 1, shC_r ht.1 τ, ht.1.2, by rw [okc_22 g.1]; exact p2, by rw [lnC_22 g.1]; exact p3, fun k hk => by
    rw [t5' k hk, okr_22 g.1]
    by_cases hc : w ≤ k ∧ k < l.length - 1
    · rw [if_pos hc]; exact p4 _ (by omega)
    · rw [if_neg hc]; exact p4 _ hk⟩
  refine ⟨τ, t1, g, fun j hj => by rw [t2]; exact e1 j hj, fun j hj => by rw [t4 j hj, e2], shK_mk ht hF (by rw [t2, e3, List.length_eraseIdx, if_pos hw]) (by rw [List.length_eraseIdx, if_pos hw]; omega) (fun e x hx => ?_), hF⟩
  have he := (List.getElem?_eq_some_iff.mp hx).1
  rw [List.length_eraseIdx, if_pos hw] at he
  rw [List.getElem?_eraseIdx] at hx
  by_cases hew : e < w
  · rw [if_pos hew] at hx
    obtain ⟨c, c1, c2⟩ := r3 e x hx
    exact ⟨c, by rw [t5' e (by omega), if_neg (by omega)]; exact c1, entK_G c2 g⟩
  · rw [if_neg hew] at hx
    obtain ⟨c, c1, c2⟩ := r3 (e + 1) x hx
    exact ⟨c, by rw [t5' e (by omega), if_pos (by omega)]; exact c1, entK_G c2 g⟩
/-- the entries alone change -/
theorem KA_5 {σ τ : CS} {s : Sta} {l : Ens} (h : KA σ s) (g : FG σ τ) (v1 : ∀ j, j ≠ 5 → τ.1 j = σ.1 j) (v2 : ∀ j, j ≠ 6 → τ.2.1 j = σ.2.1 j) (hl : shK τ 5 l) (hF : shF τ 5) : KA τ (s.tx, s.L, l, s.sg, s.un, s.im) := by
  obtain ⟨h1, h2, h3, h4, h5, h6, f5, f9, f30⟩ := h
  have z : ∀ j, j ≠ 5 → j ≠ 6 → sm σ τ j := fun j a b => ⟨v1 j a, v2 j b⟩
  exact ⟨KAt_x h1 (by rw [v1 0 (by omega)]) (v1 1 (by omega)), KAl_x h2 g (v2 0 (by omega)) (z 2 (by omega) (by omega)) (z 3 (by omega) (by omega)) (z 4 (by omega) (by omega)), hl, KAs_x h4 g (by rw [v1 25 (by omega)]) (v1 27 (by omega)) (v2 26 (by omega)), KAu_x h5 g (v1 7 (by omega)) (fun i hi => ⟨z _ (by omega) (by omega), v2 _ (by omega)⟩), KAi_x h6 g (v1 29 (by omega)) (fun j hj => ⟨z _ (by omega) (by omega), v2 _ (by omega)⟩), hF, fun i hi => shF_x (shC_9 i hi) (f9 i hi) g (v2 _ (by omega)), fun j hj => shF_x (shC_30 j hj) (f30 j hj) g (v2 _ (by omega))⟩
theorem k_drops {σ : CS} {s : Sta} (hs : SOK s) (h : KA σ s) (x : Int32) : KO σ (f_J_drops x σ) (aDrops x s) := by
  unfold f_J_drops aDrops
  have hn := hs.2.2.2.1.1
  by_cases hx : inR x s.en.length
  · obtain ⟨c, e, c1, c2, c3⟩ := k_shAt1 h.2.2.1 hx
    rw [if_pos hx, c2, Option.bind_some]
    dsimp only [Option.elim]
    obtain ⟨τ, t1, t2, t3, t4⟩ := k_note hs h
    rw [t1, Option.bind_some]
    dsimp only
    have ex := inR_e hx
    have hxl := hx.2
    generalize x.toNatClampNeg = w at ex hxl
    subst ex
    obtain ⟨υ, u1, u2, u3, u4, u5, u6⟩ := k_remove (w := w) shD_5 t2.2.2.2.2.2.2.1 t2.2.2.1 hxl
    rw [u1, Option.bind_some]
    have hE : υ.1 5 1 = i32 (s.en.length - 1) := by
      have := u5.2.1
      rw [List.length_eraseIdx, if_pos hxl] at this
      exact this
    exact ⟨υ, ⟨(u3 38 (by omega)).trans (t4 38 (by omega) (fun i hi => by omega) (fun i hi => by omega)).1, u2.1.trans t3.1⟩, by rw [hE], KA_5 t2 u2 u3 u4 u5 u6⟩
  · rw [if_neg hx, k_shAt0 h.2.2.1 hx, Option.bind_some]
    exact ⟨σ, ⟨rfl, rfl⟩, rfl, h⟩
end KTOP8
