section KTOP18
/-- the class answers so, stands for a state then, and keeps that a value stands -/
def KQ (σ : CS) (f : Option (Int32 × CS)) (r : Int32 × Sta) : Prop := ∃ τ, f = some (r.1, τ) ∧ KA τ r.2 ∧ KV τ ∧ τ.2.2 = σ.2.2
theorem KV_KO {σ : CS} (hv : KV σ) {f : Option (Int32 × CS)} {r : Int32 × Sta} (h : KO σ f r) : KQ σ f r := by
  obtain ⟨τ, h0, h1, h2⟩ := h
  exact ⟨τ, h1, h2, by unfold KV; rw [h0.1]; exact hv, h0.2⟩
theorem KV_38 {σ τ : CS} (h : KV σ) (e : τ.1 38 = σ.1 38) : KV τ := by
  unfold KV
  rw [e]; exact h
theorem BK_KV {L : Lw} {ents : List (Tr × Tr)} {tx : List Nat} {σ : CS} {p T : Nat} (h : BK L ents tx [] σ p 1 T) : KV σ := KV_V h.2.2.1.2.1 (Nat.le_refl _) (by omega)
theorem GiK_pr {L : Lw} {σ : CS} (hL : lwOK L) (fx : ∀ k, k < L.1.length → fxK σ k = fxL L k) {e : Tr × Tr} (h : entOK L e) : pr (fxK σ) e.1 ∧ pr (fxK σ) e.2 := ⟨WT_pr ⟨hL.1, hL.2.1⟩ fx _ _ h.1, HT_pr hL.2.1 _ _ _ _ _ h.2.2.1⟩
theorem k_given {σ : CS} {s : Sta} (hs : SOK s) (h : KA σ s) (hv : KV σ) (k : Int32) : KQ σ (f_J_given k σ) (aGiven k s) := by
  unfold f_J_given aGiven
  by_cases hk : (-1 : Int32) ≤ k
  · rw [if_pos hk, if_pos hk]
    obtain ⟨τ, T, b1, b2, b3, b4⟩ := k_begin hs h hv
    have g := k_readGiven (SOK_WL hs) b4 b3 (BK_KV b4)
    rw [b1, Option.bind_some]
    dsimp only
    cases hsp : spG s.L s.en s.tx false with
    | error e =>
      rw [hsp] at g
      obtain ⟨he, υ, g1, g2, g3, g4⟩ := g
      rw [g1, Option.bind_some]
      dsimp only
      rw [if_pos rfl, g2]
      exact ⟨υ, rfl, KA_RF h (RF_tr b2 g3), g4, (RF_tr b2 g3).1⟩
    | ok y =>
      rw [hsp] at g
      obtain ⟨υ, T', p, q, g1, g2, g3, g4, g5, g6, g7, g8, g9, g10, g11, g12⟩ := g
      have pB : pr (fxK υ) y.2.1 := (GiK_pr hs.2.2.1 g12 (okG (SOK_WL hs) hsp).1).2
      rw [g1, Option.bind_some]
      dsimp only
      rw [if_neg (show ¬ ((1 : Int32) = 0) from by decide), g9, k_answer g5 g4 pB g10 g11 hk, Option.bind_some]
      exact ⟨υ, rfl, KA_RF h (RF_tr b2 g2), g3, (RF_tr b2 g2).1⟩
  · rw [if_neg hk, if_neg hk]
    exact ⟨σ, rfl, h, hv, rfl⟩
end KTOP18
