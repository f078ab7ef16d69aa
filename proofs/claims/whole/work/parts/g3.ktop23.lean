section KTOP23
variable {L : Lw} {tx : List Nat}
theorem ok5_ne {σ : CS} {a : Nat} (h : okc σ a 5 = true) : a ≠ 34 ∧ a ≠ 36 ∧ a ≠ 37 := by
  have hk := okc_k h
  unfold knd at hk
  refine ⟨?_, ?_, ?_⟩ <;> rintro rfl <;> rw [if_pos (by omega)] at hk <;> exact absurd hk (by decide)
theorem lwP_fx2 {σ : CS} {T : Nat} (hL : lwOK L) (hT : T ≤ 3600) (h3 : σ.1 34 3 = i32 L.1.length) (hI : ∀ (k : Nat) (I : Tr), L.1[k]? = some (some I) → ∃ q, σ.1 36 k = i32 q ∧ fm (σ.1 35) I q ∧ q + ln I ≤ T) (hN : ∀ k : Nat, L.1[k]? = some none → σ.1 36 k = -1) : ∀ k, k < L.1.length → fxK σ k = fxL L k := by
  have l1 := hL.1
  intro k hk
  unfold fxK fxL
  rw [h3, show decide (i32 k < i32 L.1.length) = true from decide_eq_true (by rw [z_lt (by omega) (by omega)]; exact hk), Bool.true_and]
  cases hj : L.1[k]? with
  | none => exact absurd (List.getElem?_eq_none_iff.mp hj) (by omega)
  | some x =>
    cases x with
    | none =>
      rw [hN k hj]
      rfl
    | some I =>
      obtain ⟨q, b1, b2, b3⟩ := hI k I hj
      rw [b1]
      have : ¬ (i32 q = -1) := i_ne1 (by omega)
      simp [this]
theorem lwP_mk {σ : CS} {T : Nat} (hL : lwOK L) (hT : T ≤ 3600) (h3 : σ.1 34 3 = i32 L.1.length) (h5 : σ.1 34 5 = i32 L.2.length) (hI : ∀ (k : Nat) (I : Tr), L.1[k]? = some (some I) → ∃ q, σ.1 36 k = i32 q ∧ fm (σ.1 35) I q ∧ q + ln I ≤ T) (hN : ∀ k : Nat, L.1[k]? = some none → σ.1 36 k = -1) (hA : ∀ (k : Nat) (A : Tr), L.2[k]? = some A → ∃ q, σ.1 37 k = i32 q ∧ fm (σ.1 35) A q ∧ q + ln A ≤ T) : lwP L σ T := by
  have hf := lwP_fx2 hL hT h3 hI hN
  refine ⟨h3, h5, fun k I hk => ?_, hN, fun k A hk => ?_⟩
  · obtain ⟨q, q1, q2, q3⟩ := hI k I hk
    exact ⟨q, q1, q2, q3, WT_pr ⟨hL.1, hL.2.1⟩ hf _ _ (hL.2.2.1 k I hk).1⟩
  · obtain ⟨q, q1, q2, q3⟩ := hA k A hk
    exact ⟨q, q1, q2, q3, WT_pr ⟨hL.1, hL.2.1⟩ hf _ _ (hL.2.2.2 k A hk).1⟩
/-- the rest of what a reading needs, when a law was added -/
theorem BK_law {M : Lw} {σ τ : CS} {q V T : Nat} (hb : BK L [] tx [] σ q V T) (hl : lwP M τ T) (e2 : τ.2 = σ.2) (e1 : ∀ j, j ≠ 34 → j ≠ 36 → j ≠ 37 → τ.1 j = σ.1 j) (e0 : τ.1 34 1 = σ.1 34 1) : BK M [] tx [] τ q V T := by
  obtain ⟨h1, ⟨a1, a2, a3, a4, a, a5, a6, a7⟩, ⟨d1, d2, d3, d4, d5, d6, d7, d8⟩, h4⟩ := hb
  obtain ⟨n1, n2, n3⟩ := ok5_ne a6.1
  have o43 := e1 43 (by omega) (by omega) (by omega)
  refine ⟨vtOK_nil M, ⟨hl, by rw [o43]; exact a2, by rw [rfv_2 e2]; exact a3, fun k hk => by rw [e1 1 (by omega) (by omega) (by omega)]; exact a4 k hk, a, by rw [rfv_2 e2]; exact a5, ?_, a7⟩, ⟨by rw [e0]; exact d1, by rw [e1 38 (by omega) (by omega) (by omega)]; exact d2, d3, d4, d5, by rw [o43]; exact d6, fun k hk => ?_, fun k rq hrq => by simp at hrq⟩, h4⟩
  · obtain ⟨b1, b2, b3, r, b4, b5, b6, b7⟩ := a6
    exact ⟨by rw [okc_2 e2]; exact b1, by rw [e1 a n1 n2 n3]; exact b2, b3, r, by rw [rfv_2 e2]; exact b4, by rw [okc_2 e2]; exact b5, by rw [lnC_2 e2]; exact b6, fun e x hx => by simp at hx⟩
  · have hk0 : k = 0 := Nat.le_zero.mp hk
    subst hk0
    obtain ⟨e, x1, x2⟩ := d7 0 (Nat.le_refl _)
    exact ⟨e, by rw [e1 45 (by omega) (by omega) (by omega)]; exact x1, x2⟩
theorem RF_law {σ τ : CS} (e2 : τ.2 = σ.2) (e1 : ∀ j, j ≠ 34 → j ≠ 36 → j ≠ 37 → τ.1 j = σ.1 j) : RF σ τ := ⟨by rw [e2], fun j _ => by rw [e2], fun j hj => by
  have hj' : j ≠ 34 ∧ j ≠ 36 ∧ j ≠ 37 := by
    simp only [AB, AK, List.mem_cons, List.mem_nil_iff, or_false] at hj
    omega
  exact e1 j hj'.1 hj'.2.1 hj'.2.2⟩
theorem k_addFam {σ : CS} {q V T : Nat} {o : Option Tr} {x : Int32} (hL : lwOK L) (hb : BK L [] tx [] σ q V T) (hT : T ≤ 3600) (hM : lwOK (L.1 ++ [o], L.2)) (h3 : L.1.length < 3) (hx0 : o = none → x = -1) (hx1 : ∀ I, o = some I → ∃ g, x = i32 g ∧ fm (σ.1 35) I g ∧ g + ln I ≤ T) : ∃ τ, f_Signs_addFamily x σ = some (0, τ) ∧ BK (L.1 ++ [o], L.2) [] tx [] τ q V T ∧ RF σ τ ∧ (KV σ → KV τ) := by
  obtain ⟨l3, l5, lI, lN, lA⟩ := hb.2.1.1
  unfold f_Signs_addFamily B_Signs_addFamily_28
  have e3 : (sI σ 36 L.1.length x).1 34 3 = i32 L.1.length := by rw [sI_ne _ _ (Or.inl (by decide))]; exact l3
  rw [l3, if_neg (show ¬ ((3 : Int32) ≤ i32 L.1.length) by rw [z3, z_le (by omega) (by omega)]; omega), if_pos (c_ix (show L.1.length < lS 36 from Nat.lt_of_lt_of_le h3 (Nat.le_refl _)) (by omega)), z_nn (by omega), e3, show i32 L.1.length + 1 = i32 (L.1.length + 1) by rw [z1, z_add]]
  have u1 : ∀ j, j ≠ 34 → j ≠ 36 → (sI (sI σ 36 L.1.length x) 34 3 (i32 (L.1.length + 1))).1 j = σ.1 j := fun j a b => by rw [sI_row _ _ a, sI_row _ _ b]
  have u3 : (sI (sI σ 36 L.1.length x) 34 3 (i32 (L.1.length + 1))).1 34 3 = i32 (L.1.length + 1) := sI_at _ _ _ _
  have u4 : ∀ k, k ≠ 3 → (sI (sI σ 36 L.1.length x) 34 3 (i32 (L.1.length + 1))).1 34 k = σ.1 34 k := fun k hk => by rw [sI_ne _ _ (Or.inr hk), sI_ne _ _ (Or.inl (by decide))]
  have u5 : ∀ k, (sI (sI σ 36 L.1.length x) 34 3 (i32 (L.1.length + 1))).1 36 k = if k = L.1.length then x else σ.1 36 k := fun k => by
    rw [sI_ne _ _ (Or.inl (by decide))]
    by_cases hk : k = L.1.length
    · rw [hk, sI_at, if_pos rfl]
    · rw [sI_ne _ _ (Or.inr hk), if_neg hk]
  refine ⟨sI (sI σ 36 L.1.length x) 34 3 (i32 (L.1.length + 1)), rfl, ?_, RF_law rfl (fun j a b c => u1 j a b), fun hv => KV_38 hv (u1 38 (by decide) (by decide))⟩
  refine BK_law hb ?_ rfl (fun j a b c => u1 j a b) (u4 1 (by decide))
  generalize sI (sI σ 36 L.1.length x) 34 3 (i32 (L.1.length + 1)) = τ at u1 u3 u4 u5
  have o35 := u1 35 (by decide) (by decide)
  refine lwP_mk hM hT ?_ (by rw [u4 5 (by decide)]; exact l5) (fun k I hk => ?_) (fun k hk => ?_) (fun k A hk => ?_)
  · rw [u3]
    show _ = i32 (L.1 ++ [o]).length
    rw [List.length_append]; rfl
  · have hk' : (L.1 ++ [o])[k]? = some (some I) := hk
    have hl := (List.getElem?_eq_some_iff.mp hk').1
    rw [List.length_append, List.length_singleton] at hl
    rw [u5, o35]
    by_cases hkk : k = L.1.length
    · rw [if_pos hkk]
      rw [hkk, List.getElem?_append_right (Nat.le_refl _), Nat.sub_self, List.getElem?_cons_zero] at hk'
      injection hk' with hk'
      exact hx1 I hk'
    · rw [if_neg hkk]
      rw [List.getElem?_append_left (by omega)] at hk'
      obtain ⟨g, g1, g2, g3, _⟩ := lI k I hk'
      exact ⟨g, g1, g2, g3⟩
  · have hk' : (L.1 ++ [o])[k]? = some none := hk
    have hl := (List.getElem?_eq_some_iff.mp hk').1
    rw [List.length_append, List.length_singleton] at hl
    rw [u5]
    by_cases hkk : k = L.1.length
    · rw [if_pos hkk]
      rw [hkk, List.getElem?_append_right (Nat.le_refl _), Nat.sub_self, List.getElem?_cons_zero] at hk'
      injection hk' with hk'
      exact hx0 hk'
    · rw [if_neg hkk]
      rw [List.getElem?_append_left (by omega)] at hk'
      exact lN k hk'
  · obtain ⟨g, g1, g2, g3, _⟩ := lA k A hk
    exact ⟨g, by rw [u1 37 (by decide) (by decide)]; exact g1, by rw [o35]; exact g2, g3⟩
theorem k_addCon {σ : CS} {q V T g : Nat} {A : Tr} (hL : lwOK L) (hb : BK L [] tx [] σ q V T) (hT : T ≤ 3600) (hM : lwOK (L.1, L.2 ++ [A])) (h4 : L.2.length < 4) (hf : fm (σ.1 35) A g) (hg : g + ln A ≤ T) : ∃ τ, f_Signs_addConstant (i32 g) σ = some (0, τ) ∧ BK (L.1, L.2 ++ [A]) [] tx [] τ q V T ∧ RF σ τ ∧ (KV σ → KV τ) := by
  obtain ⟨l3, l5, lI, lN, lA⟩ := hb.2.1.1
  unfold f_Signs_addConstant B_Signs_addConstant_28
  have e3 : (sI σ 37 L.2.length (i32 g)).1 34 5 = i32 L.2.length := by rw [sI_ne _ _ (Or.inl (by decide))]; exact l5
  rw [l5, if_neg (show ¬ ((4 : Int32) ≤ i32 L.2.length) by rw [z4, z_le (by omega) (by omega)]; omega), if_pos (c_ix (show L.2.length < lS 37 from Nat.lt_of_lt_of_le h4 (Nat.le_refl _)) (by omega)), z_nn (by omega), e3, show i32 L.2.length + 1 = i32 (L.2.length + 1) by rw [z1, z_add]]
  have u1 : ∀ j, j ≠ 34 → j ≠ 37 → (sI (sI σ 37 L.2.length (i32 g)) 34 5 (i32 (L.2.length + 1))).1 j = σ.1 j := fun j a b => by rw [sI_row _ _ a, sI_row _ _ b]
  have u3 : (sI (sI σ 37 L.2.length (i32 g)) 34 5 (i32 (L.2.length + 1))).1 34 5 = i32 (L.2.length + 1) := sI_at _ _ _ _
  have u4 : ∀ k, k ≠ 5 → (sI (sI σ 37 L.2.length (i32 g)) 34 5 (i32 (L.2.length + 1))).1 34 k = σ.1 34 k := fun k hk => by rw [sI_ne _ _ (Or.inr hk), sI_ne _ _ (Or.inl (by decide))]
  have u5 : ∀ k, (sI (sI σ 37 L.2.length (i32 g)) 34 5 (i32 (L.2.length + 1))).1 37 k = if k = L.2.length then i32 g else σ.1 37 k := fun k => by
    rw [sI_ne _ _ (Or.inl (by decide))]
    by_cases hk : k = L.2.length
    · rw [hk, sI_at, if_pos rfl]
    · rw [sI_ne _ _ (Or.inr hk), if_neg hk]
  refine ⟨sI (sI σ 37 L.2.length (i32 g)) 34 5 (i32 (L.2.length + 1)), rfl, ?_, RF_law rfl (fun j a b c => u1 j a c), fun hv => KV_38 hv (u1 38 (by decide) (by decide))⟩
  refine BK_law hb ?_ rfl (fun j a b c => u1 j a c) (u4 1 (by decide))
  generalize sI (sI σ 37 L.2.length (i32 g)) 34 5 (i32 (L.2.length + 1)) = τ at u1 u3 u4 u5
  have o35 := u1 35 (by decide) (by decide)
  refine lwP_mk hM hT (by rw [u4 3 (by decide)]; exact l3) ?_ (fun k I hk => ?_) (fun k hk => ?_) (fun k B hk => ?_)
  · rw [u3]
    show _ = i32 (L.2 ++ [A]).length
    rw [List.length_append]; rfl
  · obtain ⟨g', g1, g2, g3, _⟩ := lI k I hk
    exact ⟨g', by rw [u1 36 (by decide) (by decide)]; exact g1, by rw [o35]; exact g2, g3⟩
  · rw [u1 36 (by decide) (by decide)]; exact lN k hk
  · have hk' : (L.2 ++ [A])[k]? = some B := hk
    have hl := (List.getElem?_eq_some_iff.mp hk').1
    rw [List.length_append, List.length_singleton] at hl
    rw [u5, o35]
    by_cases hkk : k = L.2.length
    · rw [if_pos hkk]
      rw [hkk, List.getElem?_append_right (Nat.le_refl _), Nat.sub_self, List.getElem?_cons_zero] at hk'
      injection hk' with hk'
      subst hk'
      exact ⟨g, rfl, hf, hg⟩
    · rw [if_neg hkk]
      rw [List.getElem?_append_left (by omega)] at hk'
      obtain ⟨g', g1, g2, g3, _⟩ := lA k B hk'
      exact ⟨g', g1, g2, g3⟩
/-- the sign that stands there, if it is asked for -/
theorem k_pk {σ : CS} {T p : Nat} (hs : RK L [] tx σ T) (h7 : σ.1 43 7 = i32 p) (hl : tx.length ≤ 32) (hbt : ∀ x ∈ tx, x < 256) (hp : p ≤ 100) : ∃ x, f_Reader_peek σ = some (x, σ) ∧ ∀ n, n < 256 → (x = i32 n ↔ byt tx p = n) := by
  by_cases hlt : p < tx.length
  · refine ⟨i32 (byt tx p), k_peek hs h7 hl hlt, fun n hn => ?_⟩
    have hb : byt tx p < 256 := by
      unfold byt
      rw [List.getD_eq_getElem?_getD, List.getElem?_eq_getElem hlt]
      exact hbt _ (List.getElem_mem hlt)
    constructor
    · intro e
      by_cases hne : byt tx p = n
      · exact hne
      · exact absurd e (c_eq hne (by omega) (by omega))
    · intro e; rw [e]
  · refine ⟨-1, k_peek0 hs h7 hl (by omega) (by omega), fun n hn => ?_⟩
    rw [byt_end (tx := tx) (by omega)]
    constructor
    · intro e; exact absurd e.symm (i_ne1 (by omega))
    · intro e; omega
end KTOP23
