section KTOP16
variable {L : Lw} {ents : List (Tr × Tr)} {tx : List Nat}
/-- a place is kept in the reader: nothing that a reading needs changes -/
theorem BK_43 {σ : CS} {p V T : Nat} (h : BK L ents tx [] σ p V T) {k : Nat} (x : Int32) (hk : 9 < k) : BK L ents tx [] (sI σ 43 k x) p V T := by
  obtain ⟨h1, ⟨a1, a2, a3, a4, a, a5, a6, a7⟩, ⟨d1, d2, d3, d4, d5, d6, d7, d8⟩, h4⟩ := h
  have e : ∀ j, j ≠ 43 → (sI σ 43 k x).1 j = σ.1 j := fun j hj => sI_row _ _ hj
  have e43 : ∀ j, j ≠ k → (sI σ 43 k x).1 43 j = σ.1 43 j := fun j hj => sI_ne _ _ (Or.inr hj)
  have g : FG σ (sI σ 43 k x) := FG_sI σ _ _ (by omega)
  refine ⟨h1, ⟨?_, by rw [e43 5 (by omega)]; exact a2, a3, fun i hi => by rw [e 1 (by omega)]; exact a4 i hi, a, a5, ?_, a7⟩, ⟨by rw [e 34 (by omega)]; exact d1, by rw [e 38 (by omega)]; exact d2, d3, d4, d5, by rw [e43 7 (by omega)]; exact d6, fun i hi => ?_, fun i rq hrq => by simp at hrq⟩, h4⟩
  · unfold lwP
    have ef : fxK (sI σ 43 k x) = fxK σ := by
      funext i
      unfold fxK
      rw [e 34 (by omega), e 36 (by omega)]
    rw [e 34 (by omega), e 35 (by omega), e 36 (by omega), e 37 (by omega), ef]
    exact a1
  · obtain ⟨b1, b2, b3, r, b4, b5, b6, b7⟩ := a6
    have ha43 : a ≠ 43 := fun e => a7 (by rw [e]; decide)
    exact ⟨b1, by rw [e a ha43]; exact b2, b3, r, b4, b5, b6, fun i y hy => by
      obtain ⟨c, c1, c2⟩ := b7 i y hy
      exact ⟨c, c1, entK_G c2 g⟩⟩
  · have hi0 : i = 0 := Nat.le_zero.mp hi
    subst hi0
    obtain ⟨q, q1, q2⟩ := d7 0 (Nat.le_refl _)
    exact ⟨q, by rw [e 45 (by omega)]; exact q1, q2⟩
theorem RF_43 (σ : CS) (k : Nat) (x : Int32) : RF σ (sI σ 43 k x) := ⟨rfl, fun _ _ => rfl, fun j hj => sI_row _ _ (fun e => hj (by rw [e]; decide))⟩
/-- after a part was read, another can be -/
theorem BK_go0 {σ τ : CS} {p q V V' T T' : Nat} (hw : WL L ents tx) (h : BK L ents tx [] σ p V T) (f : FK σ τ V T 0) (h1 : τ.1 34 1 = i32 T') (h2 : τ.1 38 4 = i32 V') (h3 : V ≤ V') (h4 : V' ≤ 1 + 27 * q) (h5 : T ≤ T') (h6 : T' ≤ 350 + 100 * q) (h7 : τ.1 43 7 = i32 q) (h8 : q ≤ tx.length) : BK L ents tx [] τ q V' T' := by
  obtain ⟨b1, b2, ⟨d1, d2, d3, d4, d5, d6, d7, d8⟩, b4⟩ := h
  refine ⟨b1, RK_go b2 f.1 f.2.1 h5, ⟨h1, h2, by omega, h4, h6, h7, fun i hi => ?_, fun i rq hrq => by simp at hrq⟩, h8⟩
  have hi0 : i = 0 := Nat.le_zero.mp hi
  subst hi0
  obtain ⟨e, e1, e2⟩ := d7 0 (Nat.le_refl _)
  exact ⟨e, by rw [f.2.2.2 0 (Nat.le_refl _)]; exact e1, e2⟩
end KTOP16
