section KTOP0
/-- cells made later stay -/
def FG (σ τ : CS) : Prop := τ.2.2 = σ.2.2 ∧ ∀ j, 49 ≤ j → τ.1 j = σ.1 j ∧ τ.2.1 j = σ.2.1 j
theorem FG_rf (σ : CS) : FG σ σ := ⟨rfl, fun _ _ => ⟨rfl, rfl⟩⟩
theorem FG_tr {σ τ υ : CS} (h : FG σ τ) (g : FG τ υ) : FG σ υ := ⟨g.1.trans h.1, fun j hj => ⟨(g.2 j hj).1.trans (h.2 j hj).1, (g.2 j hj).2.trans (h.2 j hj).2⟩⟩
theorem okc_22 {σ τ : CS} (h : τ.2.2 = σ.2.2) (j K : Nat) : okc τ j K = okc σ j K := by
  unfold okc knd ndC
  rw [h]
theorem lnC_22 {σ τ : CS} (h : τ.2.2 = σ.2.2) (j : Nat) : lnC τ j = lnC σ j := by
  unfold lnC
  rw [h]
theorem rfv_hi {σ τ : CS} {j : Nat} (h : τ.2.1 j = σ.2.1 j) (k : Nat) : rfv τ j k = rfv σ j k := by
  unfold rfv
  rw [h]
theorem okc_hi {σ : CS} {j K : Nat} (h : okc σ j K = true) (hK : K = 0 ∨ K = 1) : 49 ≤ j := by
  by_cases hj : j < 49
  · exfalso
    have h2 : knd σ j = K := by
      unfold okc at h
      rw [Bool.and_eq_true] at h
      exact beq_iff_eq.mp h.2
    unfold knd at h2
    rw [if_pos hj] at h2
    have hk : ∀ j, j < 49 → kS j ≠ 0 ∧ kS j ≠ 1 := by decide
    have := hk j hj
    omega
  · omega
theorem formK_G {σ τ : CS} {f : Nat} {t : Tr} (h : formK σ f t) (g : FG σ τ) : formK τ f t := by
  obtain ⟨a1, r, a2, a3, a4, a5, a6⟩ := h
  exact ⟨by rw [okc_22 g.1]; exact a1, r, by rw [rfv_hi (g.2 f (okc_hi a1 (Or.inr rfl))).2]; exact a2, a3, by rw [okc_22 g.1]; exact a4, by rw [lnC_22 g.1]; exact a5, fun k hk => by rw [(g.2 r a3).1]; exact a6 k hk⟩
theorem entK_G {σ τ : CS} {c : Nat} {x : Tr × Tr} (h : entK σ c x) (g : FG σ τ) : entK τ c x := by
  obtain ⟨a1, f, k, a2, a3, a4, a5⟩ := h
  have hc := okc_hi a1 (Or.inl rfl)
  exact ⟨by rw [okc_22 g.1]; exact a1, f, k, by rw [rfv_hi (g.2 c hc).2]; exact a2, by rw [rfv_hi (g.2 c hc).2]; exact a3, formK_G a4 g, formK_G a5 g⟩
theorem FG_sI (σ : CS) {j : Nat} (k : Nat) (x : Int32) (h : j < 49) : FG σ (sI σ j k x) := ⟨rfl, fun a ha => ⟨sI_row σ x (by omega), rfl⟩⟩
theorem FG_sR (σ : CS) {j : Nat} (k : Nat) (x : Option Nat) (h : j < 49) : FG σ (sR σ j k x) := ⟨rfl, fun a ha => ⟨rfl, by unfold sR; exact if_neg (by omega)⟩⟩
theorem okr_22 {σ τ : CS} (h : τ.2.2 = σ.2.2) (r : Option Nat) (K : Nat) : okr τ r K = okr σ r K := by
  unfold okr
  cases r with
  | none => rfl
  | some a => exact okc_22 h a K
/-- the declared types as they are kept -/
def lawK (σ : CS) (t : Nat) (L : Lw) : Prop := okc σ t 3 = true ∧ σ.1 t 2 = i32 L.1.length ∧ σ.1 t 3 = i32 L.2.length ∧ ∃ a b, rfv σ t 0 = some a ∧ okc σ a 16 = true ∧ lnC σ a = 3 ∧ rfv σ t 1 = some b ∧ okc σ b 16 = true ∧ lnC σ b = 4 ∧ (∀ k, L.1[k]? = some none → rfv σ a k = none) ∧ (∀ (k : Nat) (I : Tr), L.1[k]? = some (some I) → ∃ c, rfv σ a k = some c ∧ formK σ c I) ∧ (∀ (k : Nat) (T : Tr), L.2[k]? = some T → ∃ c, rfv σ b k = some c ∧ formK σ c T)
/-- a shelf: its entries, and what else its row may hold -/
def shF (σ : CS) (a : Nat) : Prop := okc σ a 5 = true ∧ ∃ r, rfv σ a 0 = some r ∧ r < 49 ∧ okc σ r 15 = true ∧ lnC σ r = 6 ∧ ∀ k, k < 6 → okr σ (rfv σ r k) 0 = true
def KAt (σ : CS) (tx : List Nat) : Prop := σ.1 0 1 = i32 tx.length ∧ ∀ k, k < tx.length → σ.1 1 k = i32 (byt tx k)
def KAl (σ : CS) (L : Lw) : Prop := ∃ t, rfv σ 0 2 = some t ∧ lawK σ t L ∧ (t = 2 ∨ 49 ≤ t)
def KAs (σ : CS) (sg : List (Nat × (Tr × Tr))) : Prop := σ.1 25 2 = i32 sg.length ∧ ∀ (i : Nat) (x : Nat × (Tr × Tr)), sg[i]? = some x → σ.1 27 i = i32 x.1 ∧ ∃ c, rfv σ 26 i = some c ∧ entK σ c x.2
def KAu (σ : CS) (un : List Ens) : Prop := ∃ nw, nw < 8 ∧ σ.1 7 1 = i32 nw ∧ σ.1 7 2 = i32 un.length ∧ ∀ (i : Nat) (l : Ens), un[i]? = some l → shK σ (9 + 2 * ((nw + 8 - i) % 8)) l
def imK (σ : CS) (j : Nat) : Option Ens → Prop
  | none => σ.1 29 j = 0
  | some l => σ.1 29 j = 1 ∧ shK σ (30 + 2 * j) l
def KAi (σ : CS) (im : Option Ens × Option Ens) : Prop := imK σ 0 im.1 ∧ imK σ 1 im.2
def KAf (σ : CS) : Prop := shF σ 5 ∧ (∀ i, i < 8 → shF σ (9 + 2 * i)) ∧ ∀ j, j < 2 → shF σ (30 + 2 * j)
/-- the class stands for a state -/
def KA (σ : CS) (s : Sta) : Prop := KAt σ s.tx ∧ KAl σ s.L ∧ shK σ 5 s.en ∧ KAs σ s.sg ∧ KAu σ s.un ∧ KAi σ s.im ∧ KAf σ
/-- the class answers so and stands for a state then -/
def KO (σ : CS) (f : Option (Int32 × CS)) (r : Int32 × Sta) : Prop := ∃ τ, (τ.1 38 = σ.1 38 ∧ τ.2.2 = σ.2.2) ∧ f = some (r.1, τ) ∧ KA τ r.2
theorem k_formAt {σ : CS} {f : Nat} {t : Tr} {k : Int32} (h : formK σ f t) (hk : 0 ≤ k) (hl : ln t ≤ 50) : f_Form_signAt f k σ = some (sgA t k, σ) := by
  obtain ⟨a1, r, a2, a3, a4, a5, a6⟩ := h
  unfold f_Form_signAt B_Form_signAt_22 B_Form_signAt_24 sgA
  rw [if_neg (Int32.not_lt.mpr hk), if_pos a1, a2, Option.bind_some]
  rw [if_pos a4, a5]
  by_cases hc : i32 (ln t) ≤ k
  · rw [if_pos (show Int32.ofNat (ln t) ≤ k from hc), if_pos hc]
  · rw [if_neg (show ¬ (Int32.ofNat (ln t) ≤ k) from hc), if_neg hc, if_pos a1, Option.bind_some, if_pos a4, a5]
    have e := i_cl hk
    have hcl := i_clt (x := k)
    generalize k.toNatClampNeg = n at e hcl
    subst e
    rw [z_le (by omega) hcl] at hc
    rw [if_pos (c_ix (show n < ln t by omega) (by omega)), a6 n (by omega)]
theorem ofL (n : Nat) : Int32.ofNat n = i32 n := rfl
theorem k_count {σ : CS} {s : Sta} (h : KA σ s) (x : Int32) : KO σ (f_J_count x σ) (aCount x s) := by
  refine ⟨σ, ⟨rfl, rfl⟩, ?_, h⟩
  obtain ⟨h1, ⟨t, e, ⟨l1, l2, l3, _⟩, _⟩, h3, h5, ⟨nw, _, _, h6, _⟩, _⟩ := h
  unfold f_J_count aCount
  rw [e, h1.1, h3.2.1, h5.1, h6]
  by_cases e0 : x = 0
  · rw [if_pos e0, if_pos e0, Option.bind_some, if_pos l1, l2]
  rw [if_neg e0, if_neg e0]
  by_cases e1 : x = 1
  · rw [if_pos e1, if_pos e1, Option.bind_some, if_pos l1, l3]
  rw [if_neg e1, if_neg e1]
  by_cases e2 : x = 2
  · rw [if_pos e2, if_pos e2]
  rw [if_neg e2, if_neg e2]
  by_cases e3 : x = 3
  · rw [if_pos e3, if_pos e3]
  rw [if_neg e3, if_neg e3]
  by_cases e4 : x = 4
  · rw [if_pos e4, if_pos e4]
  rw [if_neg e4, if_neg e4]
  by_cases e5 : x = 5
  · rw [if_pos e5, if_pos e5]
  rw [if_neg e5, if_neg e5]
end KTOP0
