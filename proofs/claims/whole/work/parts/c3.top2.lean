section TOP2
variable {L : Lw} {ents : List (Tr × Tr)} {tx : List Nat}
/-- the text is a type and one or two terms of it -/
noncomputable def spG (L : Lw) (ents : List (Tr × Tr)) (tx : List Nat) (two : Bool) : Except Nat (Tr × Tr × Tr) := ((RD L ents tx 70).1 [] 0).bind fun a => ((RD L ents tx 70).2.1 [] (a.1, []) a.2).bind fun b => if two = true then ((RD L ents tx 70).2.1 [] (a.1, []) b.2).bind fun c => if c.2 = tx.length then .ok (a.1, b.1, c.1) else .error c.2 else if b.2 = tx.length then .ok (a.1, b.1, b.1) else .error b.2
/-- the text is a term that is found: its type -/
noncomputable def spF (L : Lw) (ents : List (Tr × Tr)) (tx : List Nat) : Except Nat Tr := ((RD L ents tx 70).2.2 [] 0).bind fun a => if a.2.2 = tx.length then .ok a.1 else .error a.2.2
def st (σ : MS) : MS := setF (setF (setF (setF (setF (setF σ 1 1734) 19 20) 21 1) 57 (-9)) 56 0) 9 (σ.1 8)
theorem m_starts (σ : MS) : f_starts σ = some (0, st σ) := rfl
theorem st_o (σ : MS) {k : Nat} (h1 : k ≠ 1) (h2 : k ≠ 19) (h3 : k ≠ 21) (h4 : k ≠ 57) (h5 : k ≠ 56) (h6 : k ≠ 9) : (st σ).1 k = σ.1 k := by
  unfold st
  rw [setF_ne _ _ h6, setF_ne _ _ h5, setF_ne _ _ h4, setF_ne _ _ h3, setF_ne _ _ h2, setF_ne _ _ h1]
theorem st_2 (σ : MS) : (st σ).2 = σ.2 := Eq.trans rfl rfl
def FM : List Nat := [9, 58, 59, 60, 1, 19, 21, 24, 27, 44, 45, 46, 47, 48, 49, 50, 52, 53, 54, 55, 56, 57]
theorem cFM {σ τ : MS} (h : ch FR AR σ τ) : ch FM AR σ τ := ch_mo h (by simp only [FR, FM]; intro k hk; simp at hk ⊢; omega) (fun _ h => h)
/-- what a method that reads leaves -/
def MF (σ τ : MS) : Prop := kp σ τ 20 1 1734 ∧ ch FM AR σ τ
theorem MF_tr {σ τ υ : MS} (h : MF σ τ) (g : MF τ υ) : MF σ υ := ⟨kp_tr h.1 g.1 (Nat.le_refl _) (Nat.le_refl _) (Nat.le_refl _), ch_tr h.2 g.2⟩
theorem MF_L {σ τ : MS} {V E T : Nat} (h : Lft σ τ V E T) (hV : 20 ≤ V) (hE : 1 ≤ E) (hT : 1734 ≤ T) : MF σ τ := ⟨kp_le h.1 hV hE hT, cFM h.2⟩
theorem MF_F (σ : MS) {k : Nat} (x : Int32) (h : k ∈ FM) : MF σ (setF σ k x) := ⟨kp_setF _ _ _ _ _ _, ch_setF _ _ h⟩
theorem MF_st (σ : MS) : MF σ (st σ) := by
  unfold st
  exact MF_tr (MF_tr (MF_tr (MF_tr (MF_tr (MF_F σ _ (by simp [FM])) (MF_F _ _ (by simp [FM]))) (MF_F _ _ (by simp [FM]))) (MF_F _ _ (by simp [FM]))) (MF_F _ _ (by simp [FM]))) (MF_F _ _ (by simp [FM]))
theorem Pos_st (σ : MS) : Pos (st σ) 20 1 1734 0 := by
  unfold st
  refine ⟨?_, ?_, ?_, ?_, ?_, by omega, by omega, by omega, by omega, by omega, by omega⟩
  · rw [setF_ne _ _ (by decide), setF_ne _ _ (by decide), setF_ne _ _ (by decide), setF_ne _ _ (by decide), setF_ne _ _ (by decide), setF_eq]; rfl
  · rw [setF_ne _ _ (by decide), setF_ne _ _ (by decide), setF_ne _ _ (by decide), setF_ne _ _ (by decide), setF_eq]; rfl
  · rw [setF_ne _ _ (by decide), setF_ne _ _ (by decide), setF_ne _ _ (by decide), setF_eq]; rfl
  · rw [setF_ne _ _ (by decide), setF_eq]; rfl
  · rw [setF_ne _ _ (by decide), setF_ne _ _ (by decide), setF_eq]
theorem RS_F {σ : MS} (h : RS L ents tx σ) {k : Nat} (x : Int32) (hk : k = 58 ∨ k = 59 ∨ k = 60) : RS L ents tx (setF σ k x) := by
  obtain ⟨h1, h2, h3, h4, ⟨la, h5, h6, h7, h8⟩, h9, h10, h11, h12, h13⟩ := h
  have o : ∀ j, j < 58 → (setF σ k x).1 j = σ.1 j := fun j hj => setF_ne _ _ (by omega)
  exact ⟨by rw [o 3 (by decide)]; exact h1, h2, by rw [o 4 (by decide)]; exact h3, by rw [o 5 (by decide)]; exact h4, ⟨la, by rw [o 7 (by decide)]; exact h5, h6, h7, h8⟩, h9, by rw [o 9 (by decide)]; exact h10, h11, h12, h13⟩
theorem Pos_F {σ : MS} {V E T p : Nat} (h : Pos σ V E T p) {k : Nat} (x : Int32) (hk : k = 58 ∨ k = 59 ∨ k = 60) : Pos (setF σ k x) V E T p := by
  obtain ⟨a1, a2, a3, a4, a5, a6⟩ := h
  have o : ∀ j, j < 58 → (setF σ k x).1 j = σ.1 j := fun j hj => setF_ne _ _ (by omega)
  exact ⟨by rw [o 1 (by decide)]; exact a1, by rw [o 19 (by decide)]; exact a2, by rw [o 21 (by decide)]; exact a3, by rw [o 56 (by decide)]; exact a4, by rw [o 57 (by decide)]; exact a5, a6⟩
/-- the end of the text is wanted -/
theorem m_wantsEnd (σ : MS) {p n : Nat} (h56 : σ.1 56 = i32 p) (h3 : σ.1 3 = i32 n) (h57 : σ.1 57 = -9) (hp : p ≤ 40) (hn : n ≤ 40) : (if (σ.1 56) = (σ.1 3) then (B_readsTerms_87 B_readsTerms_90) 1 σ else (B_readsTerms_87 B_readsTerms_90) 0 σ) = some (0, if p = n then σ else setF σ 57 (i32 p)) := by
  unfold B_readsTerms_87 B_readsTerms_90 f_wants B_wants_12
  rw [h56, h3]
  by_cases h : p = n
  · rw [if_pos (by rw [h]), if_neg (show ¬ ((1 : Int32) = 0) from by decide), if_pos h]
    rfl
  · rw [if_neg (c_eq h (by omega) (by omega)), if_pos rfl, m_fails _ h57, if_neg h]
    rfl
def RdsO (σ : MS) (two : Bool) (f : Option (Int32 × MS)) (r : Except Nat (Tr × Tr × Tr)) : Prop :=
  ∃ τ, f = some (0, τ) ∧ MF σ τ ∧ match r with
  | .ok y => τ.1 57 = -9 ∧ ∃ T g h k, T ≤ 7014 ∧ τ.1 58 = i32 g ∧ fm (τ.2.1 1) y.1 g ∧ g + ln y.1 ≤ T ∧ τ.1 59 = i32 h ∧ fm (τ.2.1 1) y.2.1 h ∧ h + ln y.2.1 ≤ T ∧ (two = true → τ.1 60 = i32 k) ∧ fm (τ.2.1 1) y.2.2 k ∧ k + ln y.2.2 ≤ T ∧ 1734 ≤ g ∧ 1734 ≤ h
  | .error e => e ≤ 40 ∧ τ.1 57 = i32 e
end TOP2
