section KTOP5
theorem sR_at (σ : CS) (j k : Nat) (r : Option Nat) : (sR σ j k r).2.1 j k = r := by simp [sR, va_up]
theorem sR_ne (σ : CS) {j k a b : Nat} (r : Option Nat) (h : a ≠ j ∨ b ≠ k) : (sR σ j k r).2.1 a b = σ.2.1 a b := by
  simp only [sR]
  by_cases e : a = j
  · subst e
    rw [if_pos rfl]
    simp only [va_up]
    rw [if_neg (by omega)]
  · rw [if_neg e]
theorem sR_row (σ : CS) {j a : Nat} (k : Nat) (r : Option Nat) (h : a ≠ j) : (sR σ j k r).2.1 a = σ.2.1 a := by
  funext b
  exact sR_ne σ r (Or.inl h)
/-- a shelf of the class, not made later -/
def shD (a : Nat) : Prop := shC a ∧ ∀ k, k < 6 → srf (a + 1) k = 0
theorem shD_5 : shD 5 := ⟨shC_5, by decide⟩
theorem shD_9 : ∀ i, i < 8 → shD (9 + 2 * i) := fun i hi => ⟨shC_9 i hi, by
  have : ∀ i, i < 8 → ∀ k, k < 6 → srf (9 + 2 * i + 1) k = 0 := by decide
  exact this i hi⟩
theorem shD_30 : ∀ j, j < 2 → shD (30 + 2 * j) := fun j hj => ⟨shC_30 j hj, by
  have : ∀ i, i < 2 → ∀ k, k < 6 → srf (30 + 2 * i + 1) k = 0 := by decide
  exact this j hj⟩
theorem rfv_D {a : Nat} (h : shD a) (σ : CS) {k : Nat} (hk : k < 6) : rfv σ (a + 1) k = σ.2.1 (a + 1) k := by
  unfold rfv
  rw [h.2 k hk, if_pos rfl]
theorem shF_r {σ : CS} {a : Nat} (ha : shD a) (h : shF σ a) : okc σ a 5 = true ∧ okc σ (a + 1) 15 = true ∧ lnC σ (a + 1) = 6 ∧ ∀ k, k < 6 → okr σ (rfv σ (a + 1) k) 0 = true := by
  obtain ⟨a1, r, a4, a5, a6, a7, a8⟩ := h
  rw [shC_r ha.1] at a4
  injection a4 with a4
  subst a4
  exact ⟨a1, a6, a7, a8⟩
theorem shK_r {σ : CS} {a : Nat} {l : Ens} (ha : shD a) (h : shK σ a l) : σ.1 a 1 = i32 l.length ∧ l.length ≤ 6 ∧ ∀ (e : Nat) (x : Tr × Tr), l[e]? = some x → ∃ c, rfv σ (a + 1) e = some c ∧ entK σ c x := by
  obtain ⟨a1, a2, a3, r, a4, a5, a6, a7⟩ := h
  rw [shC_r ha.1] at a4
  injection a4 with a4
  subst a4
  exact ⟨a2, a3, a7⟩
theorem shK_mk {σ : CS} {a : Nat} {l : Ens} (ha : shD a) (hF : shF σ a) (h1 : σ.1 a 1 = i32 l.length) (h2 : l.length ≤ 6) (h3 : ∀ (e : Nat) (x : Tr × Tr), l[e]? = some x → ∃ c, rfv σ (a + 1) e = some c ∧ entK σ c x) : shK σ a l := by
  obtain ⟨g1, g2, g3, g4⟩ := shF_r ha hF
  exact ⟨g1, h1, h2, a + 1, shC_r ha.1 σ, g2, g3, h3⟩
theorem k_become_l {σ : CS} {t a : Nat} (ht : shD t) (ha : shD a) (hta : t ≠ a) (hT : shF σ t) (hA : shF σ a) : ∀ (d F i : Nat) (τ : CS), i + d = 6 → d < F → τ.1 = σ.1 → τ.2.2 = σ.2.2 → (∀ j, j ≠ t + 1 → τ.2.1 j = σ.2.1 j) → (∀ k, k < 6 → rfv τ (t + 1) k = if k < i then rfv σ (a + 1) k else rfv σ (t + 1) k) → ∃ υ, L_Shelf_become_10 t F (some a) (i32 i) τ = some (0, υ) ∧ υ.1 = σ.1 ∧ υ.2.2 = σ.2.2 ∧ (∀ j, j ≠ t + 1 → υ.2.1 j = σ.2.1 j) ∧ ∀ k, k < 6 → rfv υ (t + 1) k = rfv σ (a + 1) k := by
  obtain ⟨p1, p2, p3, p4⟩ := shF_r ht hT
  obtain ⟨q1, q2, q3, q4⟩ := shF_r ha hA
  intro d
  induction d with
  | zero =>
    intro F i τ hi hF t1 t2 t3 t4
    obtain ⟨F, rfl⟩ : ∃ F', F = F' + 1 := ⟨F - 1, by omega⟩
    obtain rfl : i = 6 := by omega
    refine ⟨τ, ?_, t1, t2, t3, fun k hk => by rw [t4 k hk, if_pos hk]⟩
    rw [L_Shelf_become_10, if_pos (show (6 : Int32) ≤ i32 6 from by decide)]
  | succ d ih =>
    intro F i τ hi hF t1 t2 t3 t4
    obtain ⟨F, rfl⟩ : ∃ F', F = F' + 1 := ⟨F - 1, by omega⟩
    have hi6 : i < 6 := by omega
    have era : rfv τ (a + 1) i = rfv σ (a + 1) i := rfv_hi (t3 _ (by omega)) i
    rw [L_Shelf_become_10, if_neg (show ¬ ((6 : Int32) ≤ i32 i) by rw [z6, z_le (by omega) (by omega)]; omega), if_pos (show okc τ t 5 = true by rw [okc_22 t2]; exact p1), Option.bind_some, if_pos (show okc τ a 5 = true by rw [okc_22 t2]; exact q1), shC_r ha.1, Option.bind_some, if_pos (show okc τ (a + 1) 15 = true by rw [okc_22 t2]; exact q2), lnC_22 t2, q3, if_pos (c_ix hi6 (by omega)), shC_r ht.1, Option.bind_some, if_pos (show okc τ (t + 1) 15 = true by rw [okc_22 t2]; exact p2), lnC_22 t2, p3, if_pos (c_ix hi6 (by omega)), z_nn (by omega), era, if_pos (show okr τ (rfv σ (a + 1) i) 0 = true by rw [okr_22 t2]; exact q4 i hi6), z1, z_add]
    refine ih F (i + 1) (sR τ (t + 1) i (rfv σ (a + 1) i)) (by omega) (by omega) t1 t2 (fun j hj => by rw [sR_row _ _ _ hj]; exact t3 j hj) (fun k hk => ?_)
    rw [rfv_D ht _ hk]
    by_cases hki : k = i
    · subst hki
      rw [sR_at, if_pos (by omega)]
    · rw [sR_ne _ _ (Or.inr hki), ← rfv_D ht τ hk, t4 k hk]
      by_cases hlt : k < i
      · rw [if_pos hlt, if_pos (by omega)]
      · rw [if_neg hlt, if_neg (by omega)]
/-- a shelf becomes another -/
theorem k_become {σ : CS} {t a : Nat} {l : Ens} (ht : shD t) (ha : shD a) (hta : t ≠ a) (hT : shF σ t) (hA : shF σ a) (hl : shK σ a l) : ∃ τ, f_Shelf_become t (some a) σ = some (0, τ) ∧ FG σ τ ∧ (∀ j, j ≠ t → τ.1 j = σ.1 j) ∧ (∀ j, j ≠ t + 1 → τ.2.1 j = σ.2.1 j) ∧ shK τ t l ∧ shF τ t := by
  obtain ⟨p1, p2, p3, p4⟩ := shF_r ht hT
  obtain ⟨q1, q2, q3, q4⟩ := shF_r ha hA
  obtain ⟨r1, r2, r3⟩ := shK_r ha hl
  unfold f_Shelf_become
  rw [Option.bind_some, if_pos q1, if_pos p1, r1]
  have e1 : ∀ j, j ≠ t → (sI σ t 1 (i32 l.length)).1 j = σ.1 j := fun j hj => sI_row _ _ hj
  have e2 : (sI σ t 1 (i32 l.length)).2 = σ.2 := rfl
  have e3 : (sI σ t 1 (i32 l.length)).1 t 1 = i32 l.length := sI_at _ _ _ _
  have g1 : FG σ (sI σ t 1 (i32 l.length)) := FG_sI σ _ _ (by have := ht.1.2; omega)
  generalize sI σ t 1 (i32 l.length) = σ1 at e1 e2 e3 g1
  have hT1 : shF σ1 t := shF_x ht.1 hT g1 (by rw [e2])
  have hA1 : shF σ1 a := shF_x ha.1 hA g1 (by rw [e2])
  obtain ⟨τ, t1, t2, t3, t4, t5⟩ := k_become_l ht ha hta hT1 hA1 6 10000 0 σ1 (by omega) (Nat.le_of_ble_eq_true rfl) rfl rfl (fun _ _ => rfl) (fun k hk => by rw [if_neg (by omega)])
  have g2 : FG σ1 τ := ⟨t3, fun j hj => ⟨by rw [t2], t4 j (by have := ht.1.2; omega)⟩⟩
  have g := FG_tr g1 g2
  have t5' : ∀ k, k < 6 → rfv τ (t + 1) k = rfv σ (a + 1) k := fun k hk => by rw [t5 k hk]; exact rfv_hi (by rw [e2]) k
  have hF : shF τ t := ⟨by rw [okc_22 g.1]; exact p1, t + 1, shC_r ht.1 τ, ht.1.2, by rw [okc_22 g.1]; exact p2, by rw [lnC_22 g.1]; exact p3, fun k hk => by rw [t5' k hk, okr_22 g.1]; exact q4 k hk⟩
  refine ⟨τ, t1, g, fun j hj => by rw [t2]; exact e1 j hj, fun j hj => by rw [t4 j hj, e2], shK_mk ht hF (by rw [t2]; exact e3) r2 (fun e x hx => ?_), hF⟩
  obtain ⟨c, c1, c2⟩ := r3 e x hx
  have he := (List.getElem?_eq_some_iff.mp hx).1
  exact ⟨c, by rw [t5' e (by omega)]; exact c1, entK_G c2 g⟩
end KTOP5
