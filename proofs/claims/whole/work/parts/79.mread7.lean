section MREAD7
variable {L : Lw} {ents : List (Tr × Tr)} {tx : List Nat}
theorem RunE_lift {σ σ1 : MS} {F0 F1 V E T V1 E1 T1 e : Nat} (hs : L_readsWhole_15 F0 σ = L_readsWhole_15 F1 σ1) (hk : kp σ σ1 V E T) (hc : ch FR AR σ σ1) (hV : V ≤ V1) (hE : E ≤ E1) (hT : T ≤ T1) (h : RunE σ1 F1 V1 E1 T1 e) : RunE σ F0 V E T e := by
  obtain ⟨he, τ, e1, e2, e3, e4⟩ := h
  exact ⟨he, τ, by rw [hs, e1], e2, kp_tr hk e3 hV hE hT, ch_tr hc e4⟩
/-- a part that waits at a place of the stack -/
def prt (τ : MS) (P : Nat) (s a n nd nt nb ne : Int32) : Prop := τ.2.1 23 P = s ∧ τ.2.1 24 P = a ∧ τ.2.1 25 P = n ∧ τ.2.1 26 P = nd ∧ τ.2.1 27 P = nt ∧ τ.2.1 28 P = nb ∧ τ.2.1 29 P = ne
theorem prt_fr {σ τ : MS} {P : Nat} {s a n nd nt nb ne : Int32} (h : prt σ P s a n nd nt nb ne) (hf : frp σ τ (P + 1)) : prt τ P s a n nd nt nb ne := by
  obtain ⟨h1, h2, h3, h4, h5, h6, h7⟩ := h
  have l : P < P + 1 := Nat.lt_succ_self P
  exact ⟨by rw [hf 23 (by decide) (by decide) P l]; exact h1, by rw [hf 24 (by decide) (by decide) P l]; exact h2, by rw [hf 25 (by decide) (by decide) P l]; exact h3, by rw [hf 26 (by decide) (by decide) P l]; exact h4, by rw [hf 27 (by decide) (by decide) P l]; exact h5, by rw [hf 28 (by decide) (by decide) P l]; exact h6, by rw [hf 29 (by decide) (by decide) P l]; exact h7⟩
theorem bgn_prt (σ : MS) (P : Nat) (s a : Int32) : prt (bgn σ P s a) P s a (σ.1 46) (σ.1 47) (σ.1 48) (σ.1 49) (σ.1 50) := by
  unfold bgn
  simp only [prt, setF_2]
  refine ⟨?_, ?_, ?_, ?_, ?_, ?_, ?_⟩
  · rw [setA_ne _ _ (Or.inl (by decide)), setA_ne _ _ (Or.inl (by decide)), setA_ne _ _ (Or.inl (by decide)), setA_ne _ _ (Or.inl (by decide)), setA_ne _ _ (Or.inl (by decide)), setA_ne _ _ (Or.inl (by decide)), setA_at]
  · rw [setA_ne _ _ (Or.inl (by decide)), setA_ne _ _ (Or.inl (by decide)), setA_ne _ _ (Or.inl (by decide)), setA_ne _ _ (Or.inl (by decide)), setA_ne _ _ (Or.inl (by decide)), setA_at]
  · rw [setA_ne _ _ (Or.inl (by decide)), setA_ne _ _ (Or.inl (by decide)), setA_ne _ _ (Or.inl (by decide)), setA_ne _ _ (Or.inl (by decide)), setA_at]
  · rw [setA_ne _ _ (Or.inl (by decide)), setA_ne _ _ (Or.inl (by decide)), setA_ne _ _ (Or.inl (by decide)), setA_at]
  · rw [setA_ne _ _ (Or.inl (by decide)), setA_ne _ _ (Or.inl (by decide)), setA_at]
  · rw [setA_ne _ _ (Or.inl (by decide)), setA_at]
  · rw [setA_at]
theorem bgn_GR (σ : MS) (P : Nat) (s a : Int32) (V E T : Nat) : GR σ (bgn σ P s a) V E T P := by
  unfold bgn
  have A : ∀ (τ : MS) (j : Nat) (x : Int32), 23 ≤ j → j ≤ 31 → GR τ (setA τ j P x) V E T P := fun τ j x h1 h2 => GR_A τ x (Or.inr ⟨h1, h2, Nat.le_refl _⟩) V E T
  have tr : ∀ {a b c : MS}, GR a b V E T P → GR b c V E T P → GR a c V E T P := fun h g => GR_tr h g (Nat.le_refl _) (Nat.le_refl _) (Nat.le_refl _) (Nat.le_refl _)
  exact tr (tr (tr (tr (tr (tr (tr (A _ 23 _ (by decide) (by decide)) (A _ 24 _ (by decide) (by decide))) (A _ 25 _ (by decide) (by decide))) (A _ 26 _ (by decide) (by decide))) (A _ 27 _ (by decide) (by decide))) (A _ 28 _ (by decide) (by decide))) (A _ 29 _ (by decide) (by decide))) (GR_F _ _ (by simp [FR]) V E T P)
theorem bgn_44 (σ : MS) (P : Nat) (s a : Int32) : (bgn σ P s a).1 44 = i32 (P + 1) := setF_eq _ _ _
theorem bgn_o (σ : MS) (P : Nat) (s a : Int32) {k : Nat} (h : k ≠ 44) : (bgn σ P s a).1 k = σ.1 k := by
  unfold bgn
  rw [setF_ne _ _ h]
  simp only [setA_1]
theorem bgn_32 (σ : MS) (P : Nat) (s a : Int32) : (bgn σ P s a).2.1 32 = σ.2.1 32 := by
  unfold bgn
  funext i
  simp only [setF_2]
  rw [setA_ne _ _ (Or.inl (by decide)), setA_ne _ _ (Or.inl (by decide)), setA_ne _ _ (Or.inl (by decide)), setA_ne _ _ (Or.inl (by decide)), setA_ne _ _ (Or.inl (by decide)), setA_ne _ _ (Or.inl (by decide)), setA_ne _ _ (Or.inl (by decide))]
theorem agn_o (σ : MS) (P : Nat) {k : Nat} (h : k < 46 ∨ 50 < k) : (agn σ P).1 k = σ.1 k := by
  unfold agn
  rw [setF_ne _ _ (by omega), setF_ne _ _ (by omega), setF_ne _ _ (by omega), setF_ne _ _ (by omega), setF_ne _ _ (by omega)]
theorem agn_GR (σ : MS) (P : Nat) (V E T Q : Nat) : GR σ (agn σ P) V E T Q := by
  unfold agn
  have tr : ∀ {a b c : MS}, GR a b V E T Q → GR b c V E T Q → GR a c V E T Q := fun h g => GR_tr h g (Nat.le_refl _) (Nat.le_refl _) (Nat.le_refl _) (Nat.le_refl _)
  exact tr (tr (tr (tr (GR_F _ _ (by simp [FR]) V E T Q) (GR_F _ _ (by simp [FR]) V E T Q)) (GR_F _ _ (by simp [FR]) V E T Q)) (GR_F _ _ (by simp [FR]) V E T Q)) (GR_F _ _ (by simp [FR]) V E T Q)
theorem agn_p {σ : MS} {P : Nat} {s a n nd nt nb ne : Int32} (h : prt σ P s a n nd nt nb ne) : (agn σ P).1 46 = n ∧ (agn σ P).1 47 = nd ∧ (agn σ P).1 48 = nt ∧ (agn σ P).1 49 = nb ∧ (agn σ P).1 50 = ne := by
  obtain ⟨h1, h2, h3, h4, h5, h6, h7⟩ := h
  unfold agn
  refine ⟨?_, ?_, ?_, ?_, ?_⟩
  · rw [setF_ne _ _ (by decide), setF_ne _ _ (by decide), setF_ne _ _ (by decide), setF_ne _ _ (by decide), setF_eq]; exact h3
  · rw [setF_ne _ _ (by decide), setF_ne _ _ (by decide), setF_ne _ _ (by decide), setF_eq]; exact h4
  · rw [setF_ne _ _ (by decide), setF_ne _ _ (by decide), setF_eq]; exact h5
  · rw [setF_ne _ _ (by decide), setF_eq]; exact h6
  · rw [setF_eq]; exact h7
theorem agn_2 (σ : MS) (P : Nat) : (agn σ P).2 = σ.2 := rfl
theorem due_2 (σ : MS) (a b c d : Int32) : (due σ a b c d).2 = σ.2 := rfl
theorem due_GR (σ : MS) (a b c d : Int32) (V E T Q : Nat) : GR σ (due σ a b c d) V E T Q := by
  unfold due
  have tr : ∀ {a b c : MS}, GR a b V E T Q → GR b c V E T Q → GR a c V E T Q := fun h g => GR_tr h g (Nat.le_refl _) (Nat.le_refl _) (Nat.le_refl _) (Nat.le_refl _)
  exact tr (tr (tr (tr (GR_F _ _ (by simp [FR]) V E T Q) (GR_F _ _ (by simp [FR]) V E T Q)) (GR_F _ _ (by simp [FR]) V E T Q)) (GR_F _ _ (by simp [FR]) V E T Q)) (GR_F _ _ (by simp [FR]) V E T Q)
theorem due_o (σ : MS) (a b c d : Int32) {k : Nat} (h : k ≠ 45 ∧ (k < 47 ∨ 50 < k)) : (due σ a b c d).1 k = σ.1 k := by
  unfold due
  rw [setF_ne _ _ (by omega), setF_ne _ _ (by omega), setF_ne _ _ (by omega), setF_ne _ _ (by omega), setF_ne _ _ (by omega)]
theorem due_p (σ : MS) (a b c d : Int32) : (due σ a b c d).1 45 = i32 0 ∧ (due σ a b c d).1 47 = a ∧ (due σ a b c d).1 48 = b ∧ (due σ a b c d).1 49 = c ∧ (due σ a b c d).1 50 = d := by
  unfold due
  refine ⟨?_, ?_, ?_, ?_, ?_⟩
  · rw [setF_ne _ _ (by decide), setF_ne _ _ (by decide), setF_ne _ _ (by decide), setF_ne _ _ (by decide), setF_eq]; rfl
  · rw [setF_ne _ _ (by decide), setF_ne _ _ (by decide), setF_ne _ _ (by decide), setF_eq]
  · rw [setF_ne _ _ (by decide), setF_ne _ _ (by decide), setF_eq]
  · rw [setF_ne _ _ (by decide), setF_eq]
  · rw [setF_eq]
/-- the state in which a part of what began is read -/
theorem Beg_of (hw : WL L ents tx) {vt : List Rq} {σ τ : MS} {p q V E T P d F : Nat} (hv : vtOK L vt) (hs : RS L ents tx σ) (hd : DS vt σ V E T p) (hg : kp σ τ V E T ∧ ch FR AR σ τ) (h32 : τ.2.1 32 = σ.2.1 32) (h1 : τ.1 1 = i32 T) (h19 : τ.1 19 = i32 V) (h21 : τ.1 21 = i32 E) (h46 : τ.1 46 = i32 vt.length) (h56 : τ.1 56 = i32 q) (h57 : τ.1 57 = -9) (h44 : τ.1 44 = i32 P) (hP : P ≤ q) (hpq : p ≤ q) (hq : q ≤ tx.length) (h45 : τ.1 45 = i32 d) (h52 : τ.1 52 = i32 0) (hF : 4 * (33 - q) + 10 ≤ F) : Beg L ents tx vt τ q V E T P F d := by
  obtain ⟨d1, d19, d21, d46, d56, d57, dV, dE, dT, dT2, dV0, dE0, dn⟩ := hd
  exact ⟨hv, RS_kp hw hs hg.1 dV0 dE0 dT hg.2, ⟨h1, h19, h21, h46, h56, h57, by omega, by omega, dT, by omega, dV0, dE0, fun k rq hk => by rw [h32]; exact nt_kp (dn k rq hk) hg.1 (Nat.le_refl _)⟩, h44, hP, hq, h45, h52, hF⟩
/-- a part begins and a term or type of it is due: the state of that -/
theorem beg_child (hw : WL L ents tx) {vt : List Rq} {σ τ : MS} {p V E T P F d d' : Nat} {s : Int32} (hb : Beg L ents tx vt σ p V E T P (F + 1) d) (hp : p < tx.length) (hτ : (d' = 1 ∧ τ = setF (bgn (setF σ 56 (i32 (p + 1))) P s (i32 p)) 45 1) ∨ (d' = 0 ∧ ∃ a b c e, τ = due (bgn (setF σ 56 (i32 (p + 1))) P s (i32 p)) a b c e)) : Beg L ents tx vt τ (p + 1) V E T (P + 1) F d' ∧ GR σ τ V E T P ∧ prt τ P s (i32 p) (i32 vt.length) (σ.1 47) (σ.1 48) (σ.1 49) (σ.1 50) := by
  obtain ⟨hv, hs, hd, h44, hP, hpl, h45, h52, hF⟩ := hb
  have hd' := hd
  obtain ⟨d1, d19, d21, d46, d56, d57, dV, dE, dT, dT2, dV0, dE0, dn⟩ := hd
  have hl := hw.2.2.2.1
  generalize hβ : bgn (setF σ 56 (i32 (p + 1))) P s (i32 p) = β at hτ
  have g1 : GR σ β V E T P := by
    rw [← hβ]
    exact GR_tr (GR_F σ _ (by simp [FR]) V E T P) (bgn_GR _ _ _ _ V E T) (Nat.le_refl _) (Nat.le_refl _) (Nat.le_refl _) (Nat.le_refl _)
  have o1 : ∀ k, k ≠ 44 → k ≠ 56 → β.1 k = σ.1 k := fun k a b => by rw [← hβ, bgn_o _ _ _ _ a, setF_ne _ _ b]
  have p1 : prt β P s (i32 p) (i32 vt.length) (σ.1 47) (σ.1 48) (σ.1 49) (σ.1 50) := by
    have := bgn_prt (setF σ 56 (i32 (p + 1))) P s (i32 p)
    rw [setF_ne _ _ (by decide), setF_ne _ _ (by decide), setF_ne _ _ (by decide), setF_ne _ _ (by decide), setF_ne _ _ (by decide), d46, hβ] at this
    exact this
  have b44 : β.1 44 = i32 (P + 1) := by rw [← hβ]; exact bgn_44 _ _ _ _
  have b56 : β.1 56 = i32 (p + 1) := by rw [← hβ, bgn_o _ _ _ _ (by decide)]; exact setF_eq _ _ _
  have b32 : β.2.1 32 = σ.2.1 32 := by rw [← hβ, bgn_32]; rfl
  rcases hτ with ⟨rfl, rfl⟩ | ⟨rfl, a, b, c, e, rfl⟩
  · have g2 : GR σ (setF β 45 1) V E T P := GR_tr g1 (GR_F _ _ (by simp [FR]) V E T P) (Nat.le_refl _) (Nat.le_refl _) (Nat.le_refl _) (Nat.le_refl _)
    have o2 : ∀ k, k ≠ 45 → (setF β 45 1).1 k = β.1 k := fun k h => setF_ne _ _ h
    refine ⟨Beg_of hw hv hs hd' ⟨g2.1, g2.2.1⟩ b32 ?_ ?_ ?_ ?_ ?_ ?_ ?_ (by omega) (by omega) (by omega) (setF_eq _ _ _) ?_ (by omega), g2, p1⟩
    · rw [o2 1 (by decide), o1 1 (by decide) (by decide)]; exact d1
    · rw [o2 19 (by decide), o1 19 (by decide) (by decide)]; exact d19
    · rw [o2 21 (by decide), o1 21 (by decide) (by decide)]; exact d21
    · rw [o2 46 (by decide), o1 46 (by decide) (by decide)]; exact d46
    · rw [o2 56 (by decide)]; exact b56
    · rw [o2 57 (by decide), o1 57 (by decide) (by decide)]; exact d57
    · rw [o2 44 (by decide)]; exact b44
    · rw [o2 52 (by decide), o1 52 (by decide) (by decide)]; exact h52
  · have g2 : GR σ (due β a b c e) V E T P := GR_tr g1 (due_GR _ _ _ _ _ V E T P) (Nat.le_refl _) (Nat.le_refl _) (Nat.le_refl _) (Nat.le_refl _)
    have o2 : ∀ k, k ≠ 45 → (k < 47 ∨ 50 < k) → (due β a b c e).1 k = β.1 k := fun k h h2 => due_o _ _ _ _ _ ⟨h, h2⟩
    refine ⟨Beg_of hw hv hs hd' ⟨g2.1, g2.2.1⟩ b32 ?_ ?_ ?_ ?_ ?_ ?_ ?_ (by omega) (by omega) (by omega) (due_p _ _ _ _ _).1 ?_ (by omega), g2, p1⟩
    · rw [o2 1 (by decide) (by omega), o1 1 (by decide) (by decide)]; exact d1
    · rw [o2 19 (by decide) (by omega), o1 19 (by decide) (by decide)]; exact d19
    · rw [o2 21 (by decide) (by omega), o1 21 (by decide) (by decide)]; exact d21
    · rw [o2 46 (by decide) (by omega), o1 46 (by decide) (by decide)]; exact d46
    · rw [o2 56 (by decide) (by omega)]; exact b56
    · rw [o2 57 (by decide) (by omega), o1 57 (by decide) (by decide)]; exact d57
    · rw [o2 44 (by decide) (by omega)]; exact b44
    · rw [o2 52 (by decide) (by omega), o1 52 (by decide) (by decide)]; exact h52
end MREAD7
