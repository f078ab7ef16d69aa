section TOP16
variable {L : Lw} {tx : List Nat}
/-- one item, then its end -/
def rsl (σ : MS) : MS := setF (setF (setF σ 1 1734) 19 20) 21 1
theorem rsl_e (σ : MS) : setF (setF (setF σ 1 1734) 19 20) 21 1 = rsl σ := rfl
theorem rsl_o (σ : MS) {k : Nat} (h1 : k ≠ 1) (h2 : k ≠ 19) (h3 : k ≠ 21) : (rsl σ).1 k = σ.1 k := by
  unfold rsl
  rw [setF_ne _ _ h3, setF_ne _ _ h2, setF_ne _ _ h1]
theorem LF_rsl (σ : MS) : LF σ (rsl σ) := LF_tr (LF_tr (LF_F _ _ (by simp [FM])) (LF_F _ _ (by simp [FM]))) (LF_F _ _ (by simp [FM]))
theorem DI_rsl {σ : MS} {V E T p : Nat} (h : DI L tx σ V E T p) : DI L tx (rsl (setF σ 56 (i32 (p + 1)))) 20 1 1734 (p + 1) := by
  obtain ⟨hs, hP, h7, hb⟩ := h
  have o : ∀ k, k ≠ 1 → k ≠ 19 → k ≠ 21 → k ≠ 56 → (rsl (setF σ 56 (i32 (p + 1)))).1 k = σ.1 k := fun k a b c d => by rw [rsl_o _ a b c, setF_ne _ _ d]
  obtain ⟨f1, f2⟩ := RS_969 hs h7
  refine ⟨RS_new hs (o 3 (by decide) (by decide) (by decide) (by decide)) rfl (by rw [o 4 (by decide) (by decide) (by decide) (by decide)]; exact hs.2.2.1) (by rw [o 5 (by decide) (by decide) (by decide) (by decide)]; exact hs.2.2.2.1) (by rw [o 7 (by decide) (by decide) (by decide) (by decide)]; exact h7) (o 9 (by decide) (by decide) (by decide) (by decide)) f1 f2 (fun k hk => hs.2.2.2.2.2.1 k hk) (fun _ _ => rfl) (fun _ _ => rfl), ⟨?_, ?_, ?_, ?_, ?_, by omega, by omega, by omega, by omega, by omega, by omega⟩, by rw [o 7 (by decide) (by decide) (by decide) (by decide)]; exact h7, hb⟩
  · unfold rsl; rw [setF_ne _ _ (by decide), setF_ne _ _ (by decide), setF_eq]; rfl
  · unfold rsl; rw [setF_ne _ _ (by decide), setF_eq]; rfl
  · unfold rsl; rw [setF_eq]; rfl
  · rw [rsl_o _ (by decide) (by decide) (by decide), setF_eq]
  · rw [o 57 (by decide) (by decide) (by decide) (by decide)]; exact hP.2.2.2.2.1
def LO (tx : List Nat) (σ : MS) (f : Option (Int32 × MS)) (r : Except Nat (Lw × Nat)) : Prop := ∃ x τ, f = some (x, setF τ 7 0) ∧ LF σ τ ∧ b3 τ ∧ match r with
  | .ok y => x = i32 y.2 ∧ τ.1 57 = -9 ∧ τ.1 7 = i32 969 ∧ RS y.1 [] tx τ
  | .error e => e ≤ 40 ∧ τ.1 57 = i32 e
theorem LO_pre {σ τ : MS} {f : Option (Int32 × MS)} {r : Except Nat (Lw × Nat)} (h : LF σ τ) (g : LO tx τ f r) : LO tx σ f r := by
  obtain ⟨x, υ, e, a, b⟩ := g
  exact ⟨x, υ, e, LF_tr h a, b⟩
theorem m_lawsBad {σ τ : MS} {e F : Nat} (x : Int32) (hm : LF σ τ) (hb : b3 τ) (he : e ≤ 40) (h57 : τ.1 57 = i32 e) : LO tx σ (L_readsLaws_28 (F + 1) x τ) (.error e) := by
  rw [L_readsLaws_28, h57, if_pos (i_nn (by omega))]
  exact ⟨x, τ, rfl, hm, hb, he, h57⟩
theorem m_lawsEnd {σ τ : MS} {V E T F n q : Nat} {L' : Lw} {r : Except Nat (Lw × Nat)} (hl : tx.length ≤ 32) (hbt : ∀ x ∈ tx, x < 256) (hm : LF σ τ) (hd : DI L' tx τ V E T q) (hq : q ≤ tx.length) (K : q < tx.length → LO tx (rsl (setF τ 56 (i32 (q + 1)))) (L_readsLaws_28 (F + 1) (i32 (n + 1)) (rsl (setF τ 56 (i32 (q + 1))))) r) : LO tx σ (B_readsLaws_85 (L_readsLaws_28 (F + 1)) (i32 n) τ) (if byt tx q = 59 then r else .error q) := by
  obtain ⟨hs, hP, h7, hb⟩ := id hd
  obtain ⟨x, hh, hx⟩ := here_e hs hP.2.2.2.1 hl (by omega) hbt
  unfold B_readsLaws_85 B_readsLaws_107 B_readsLaws_123
  rw [hP.2.2.2.2.1, if_neg neg9_lt, hh, Option.bind_some]
  dsimp only
  by_cases h59 : byt tx q = 59
  · have e56 : τ.1 56 + 1 = i32 (q + 1) := by rw [hP.2.2.2.1, z1, z_add]
    have en : i32 n + 1 = i32 (n + 1) := by rw [z1, z_add]
    rw [if_pos h59, if_pos (show x = 59 from (hx 59 (by omega)).mpr h59), m_wants1, Option.bind_some]
    dsimp only
    rw [e56, en, rsl_e]
    have hq2 := byt_lt (tx := tx) (p := q) (by omega)
    exact LO_pre (LF_tr hm (LF_tr (LF_F τ (k := 56) (i32 (q + 1)) (by simp [FM])) (LF_rsl _))) (K hq2)
  · rw [if_neg h59, if_neg (show ¬ (x = 59) from fun e => h59 ((hx 59 (by omega)).mp e)), m_wants0 hP.2.2.2.1 hP.2.2.2.2.1, Option.bind_some]
    dsimp only
    rw [rsl_e]
    generalize hμ : setF τ 57 (i32 q) = μ
    have hm1 : LF τ μ := by rw [← hμ]; exact LF_F _ _ (by simp [FM])
    have hb1 : b3 μ := by rw [← hμ]; exact hb
    have h571 : μ.1 57 = i32 q := by rw [← hμ]; exact setF_eq _ _ _
    generalize hκ : setF μ 56 (μ.1 56 + 1) = κ
    have hm2 : LF μ κ := by rw [← hκ]; exact LF_F _ _ (by simp [FM])
    have hb2 : b3 κ := by rw [← hκ]; exact hb1
    have h572 : κ.1 57 = i32 q := by rw [← hκ, setF_ne _ _ (by decide)]; exact h571
    have hm3 := LF_tr hm (LF_tr hm1 (LF_tr hm2 (LF_rsl κ)))
    have hb3' : b3 (rsl κ) := hb2
    have h573 : (rsl κ).1 57 = i32 q := by rw [rsl_o _ (by decide) (by decide) (by decide)]; exact h572
    generalize rsl κ = ν at hm3 hb3' h573
    exact m_lawsBad _ hm3 hb3' (by omega) h573
theorem m_lawsStep {σ : MS} {F f n p : Nat} {g : Option (Int32 × MS)} (hl : tx.length ≤ 32) (hbt : ∀ x ∈ tx, x < 256) (hL : lwOK L) (h : DO tx σ g (spD tx p L)) (K : ∀ y, spD tx p L = .ok y → y.2 < tx.length → ∀ τ, DI y.1 tx τ 20 1 1734 (y.2 + 1) → LO tx τ (L_readsLaws_28 (F + 1) (i32 (n + 1)) τ) (spL tx f (y.2 + 1) y.1 (n + 1))) : LO tx σ (g.bind fun q4 => B_readsLaws_85 (L_readsLaws_28 (F + 1)) (i32 n) q4.2) ((spD tx p L).bind fun y => if byt tx y.2 = 59 then spL tx f (y.2 + 1) y.1 (n + 1) else .error y.2) := by
  obtain ⟨τ, e, hm, hb, hr⟩ := h
  rw [e, Option.bind_some]
  dsimp only
  cases hd : spD tx p L with
  | error e =>
    rw [hd] at hr
    obtain ⟨he, h57⟩ := hr
    unfold B_readsLaws_85 B_readsLaws_123
    rw [h57, if_pos (i_nn (by omega)), rsl_e]
    have hm3 := LF_tr hm (LF_rsl τ)
    have hb3' : b3 (rsl τ) := hb
    have h573 : (rsl τ).1 57 = i32 e := by rw [rsl_o _ (by decide) (by decide) (by decide)]; exact h57
    generalize rsl τ = ν at hm3 hb3' h573
    exact m_lawsBad _ hm3 hb3' he h573
  | ok y =>
    rw [hd] at hr
    obtain ⟨V, E, T, hDI⟩ := hr
    have ho := okD hL hd
    exact m_lawsEnd hl hbt hm hDI ho.2.2 (fun hq => K y hd hq _ (DI_rsl hDI))
theorem m_lawsL (hl : tx.length ≤ 32) (hbt : ∀ x ∈ tx, x < 256) : ∀ (f p : Nat) (L : Lw) (n F : Nat) (σ : MS), tx.length - p < f → f + 1 ≤ F → lwOK L → DI L tx σ 20 1 1734 p → p ≤ tx.length → LO tx σ (L_readsLaws_28 F (i32 n) σ) (spL tx f p L n) := by
  intro f
  induction f with
  | zero => intro p L n F σ h; omega
  | succ f ih =>
    intro p L n F σ h1 h2 hL hd hp
    obtain ⟨F, rfl⟩ : ∃ F', F = (F' + 1) + 1 := ⟨F - 2, by omega⟩
    obtain ⟨hs, hP, h7, hb⟩ := id hd
    rw [L_readsLaws_28, spL, hP.2.2.2.2.1, if_neg neg9_lt, hs.1, hP.2.2.2.1]
    by_cases hlp : tx.length ≤ p
    · rw [if_pos hlp, if_pos (show i32 tx.length ≤ i32 p by rw [z_le (by omega) (by omega)]; exact hlp)]
      exact ⟨i32 n, σ, rfl, LF_rf σ, hb, rfl, hP.2.2.2.2.1, h7, hs⟩
    · rw [if_neg hlp, if_neg (show ¬ (i32 tx.length ≤ i32 p) by rw [z_le (by omega) (by omega)]; exact hlp)]
      obtain ⟨x, hh, hx⟩ := here_e hs hP.2.2.2.1 hl (by omega) hbt
      rw [hh, Option.bind_some]
      dsimp only
      have K : ∀ y, spD tx p L = .ok y → y.2 < tx.length → ∀ τ, DI y.1 tx τ 20 1 1734 (y.2 + 1) → LO tx τ (L_readsLaws_28 (F + 1) (i32 (n + 1)) τ) (spL tx f (y.2 + 1) y.1 (n + 1)) := fun y hy hyl τ hτ => by
        have ho := okD hL hy
        exact ih (y.2 + 1) y.1 (n + 1) (F + 1) τ (by omega) (by omega) ho.1 hτ (by omega)
      by_cases h102 : byt tx p = 102
      · rw [if_pos (show x = 102 from (hx 102 (by omega)).mpr h102)]
        exact m_lawsStep hl hbt hL (m_nextFamily hL hl hbt hd (by omega) h102) K
      · rw [if_neg (show ¬ (x = 102) from fun e => h102 ((hx 102 (by omega)).mp e))]
        by_cases h107 : byt tx p = 107
        · rw [if_pos (show x = 107 from (hx 107 (by omega)).mpr h107)]
          exact m_lawsStep hl hbt hL (m_nextConstant hL hl hbt hd (by omega) h107) K
        · rw [if_neg (show ¬ (x = 107) from fun e => h107 ((hx 107 (by omega)).mp e))]
          refine m_lawsStep hl hbt hL ?_ K
          rw [hP.2.2.2.1, m_fails _ hP.2.2.2.2.1]
          unfold spD
          rw [if_neg h102, if_neg h107]
          exact ⟨_, rfl, LF_F σ _ (by simp [FM]), hb, by omega, setF_eq _ _ _⟩
end TOP16
