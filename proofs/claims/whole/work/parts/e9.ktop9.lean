section KTOP9
theorem k_ixForm {σ : CS} {t : Nat} {L : Lw} (hL : lwOK L) (h : lawK σ t L) {i : Nat} (hi : i < L.1.length) : (L.1[i]? = some none ∧ f_Laws_indexForm t (i32 i) σ = some (none, σ)) ∨ ∃ I c, L.1[i]? = some (some I) ∧ f_Laws_indexForm t (i32 i) σ = some (some c, σ) ∧ formK σ c I := by
  obtain ⟨g1, g2, g3, a, b, g4, g5, g6, g7, g8, g9, g10, g11, g12⟩ := h
  have l1 := hL.1
  have e : f_Laws_indexForm t (i32 i) σ = some (rfv σ a i, σ) := by
    unfold f_Laws_indexForm B_Laws_indexForm_26 B_Laws_indexForm_27
    rw [if_neg (nlt0 (by omega)), if_pos g1, g2, if_neg (show ¬ (i32 L.1.length ≤ i32 i) by rw [z_le (by omega) (by omega)]; omega), if_neg (show ¬ ((3 : Int32) ≤ i32 i) by rw [z3, z_le (by omega) (by omega)]; omega), if_pos g1, g4, Option.bind_some, if_pos g5, g6, if_pos (c_ix (show i < 3 by omega) (by omega)), z_nn (by omega)]
  have hg : L.1[i]? = some L.1[i] := List.getElem?_eq_getElem hi
  cases hj : L.1[i] with
  | none =>
    rw [hj] at hg
    exact Or.inl ⟨hg, by rw [e, g10 i hg]⟩
  | some I =>
    rw [hj] at hg
    obtain ⟨c, c1, c2⟩ := g11 i I hg
    exact Or.inr ⟨I, c, hg, by rw [e, c1], c2⟩
theorem k_coForm {σ : CS} {t : Nat} {L : Lw} (hL : lwOK L) (h : lawK σ t L) {i : Nat} (hi : i < L.2.length) : ∃ A c, L.2[i]? = some A ∧ f_Laws_constantForm t (i32 i) σ = some (some c, σ) ∧ formK σ c A := by
  obtain ⟨g1, g2, g3, a, b, g4, g5, g6, g7, g8, g9, g10, g11, g12⟩ := h
  have l2 := hL.2.1
  have hg : L.2[i]? = some L.2[i] := List.getElem?_eq_getElem hi
  obtain ⟨c, c1, c2⟩ := g12 i _ hg
  refine ⟨L.2[i], c, hg, ?_, c2⟩
  unfold f_Laws_constantForm B_Laws_constantForm_26 B_Laws_constantForm_27
  rw [if_neg (nlt0 (by omega)), if_pos g1, g3, if_neg (show ¬ (i32 L.2.length ≤ i32 i) by rw [z_le (by omega) (by omega)]; omega), if_neg (show ¬ ((4 : Int32) ≤ i32 i) by rw [z4, z_le (by omega) (by omega)]; omega), if_pos g1, g7, Option.bind_some, if_pos g8, g9, if_pos (c_ix (show i < 4 by omega) (by omega)), z_nn (by omega), c1]
/-- so many declared types are copied -/
def BI (L : Lw) (σ : CS) (i c T : Nat) : Prop := σ.1 34 1 = i32 T ∧ σ.1 34 3 = i32 i ∧ σ.1 34 5 = i32 c ∧ (∀ (k : Nat) (I : Tr), k < i → L.1[k]? = some (some I) → ∃ q, σ.1 36 k = i32 q ∧ fm (σ.1 35) I q ∧ q + ln I ≤ T) ∧ (∀ k, k < i → L.1[k]? = some none → σ.1 36 k = -1) ∧ (∀ (k : Nat) (A : Tr), k < c → L.2[k]? = some A → ∃ q, σ.1 37 k = i32 q ∧ fm (σ.1 35) A q ∧ q + ln A ≤ T)
/-- what the copying leaves -/
def BF (σ τ : CS) : Prop := τ.2 = σ.2 ∧ ∀ j, (j < 34 ∨ 37 < j) → τ.1 j = σ.1 j
theorem BF_rf (σ : CS) : BF σ σ := ⟨rfl, fun _ _ => rfl⟩
theorem BF_tr {σ τ υ : CS} (h : BF σ τ) (g : BF τ υ) : BF σ υ := ⟨g.1.trans h.1, fun j hj => (g.2 j hj).trans (h.2 j hj)⟩
theorem BF_sI (σ : CS) {j : Nat} (k : Nat) (x : Int32) (h : 34 ≤ j) (h2 : j ≤ 37) : BF σ (sI σ j k x) := ⟨rfl, fun a ha => sI_row _ _ (by omega)⟩
theorem BF_FG {σ τ : CS} (h : BF σ τ) : FG σ τ := ⟨by rw [h.1], fun j hj => ⟨h.2 j (by omega), by rw [h.1]⟩⟩
theorem BF_law {σ τ : CS} {t : Nat} {L : Lw} (hL : lawK σ t L) (ht : t = 2 ∨ 49 ≤ t) (h : BF σ τ) : lawK τ t L := lawK_x hL (BF_FG h) ⟨h.2 t (by omega), by rw [h.1]⟩ (fun r hr => ⟨h.2 r (by have := ok16 hr; omega), by rw [h.1]⟩)
theorem BI_fam {L : Lw} {σ τ : CS} {i T T' : Nat} {x : Int32} (h : BI L σ i 0 T) (hT : T ≤ T') (t1 : τ.1 34 1 = i32 T') (t3 : τ.1 34 3 = i32 i) (t5 : τ.1 34 5 = i32 0) (h36 : τ.1 36 = σ.1 36) (h35 : ∀ k, k < T → τ.1 35 k = σ.1 35 k) (hi : i < 3) (hx : (L.1[i]? = some none → x = -1) ∧ ∀ I, L.1[i]? = some (some I) → ∃ q, x = i32 q ∧ fm (τ.1 35) I q ∧ q + ln I ≤ T') : ∃ υ, f_Signs_addFamily x τ = some (0, υ) ∧ BF τ υ ∧ BI L υ (i + 1) 0 T' := by
  unfold f_Signs_addFamily B_Signs_addFamily_28
  have e3 : (sI τ 36 i x).1 34 3 = i32 i := by rw [sI_ne _ _ (Or.inl (by decide))]; exact t3
  rw [t3, if_neg (show ¬ ((3 : Int32) ≤ i32 i) by rw [z3, z_le (by omega) (by omega)]; omega), if_pos (c_ix (show i < lS 36 from Nat.lt_of_lt_of_le hi (Nat.le_refl _)) (by omega)), z_nn (by omega), e3, show i32 i + 1 = i32 (i + 1) by rw [z1, z_add]]
  have w35 : (sI (sI τ 36 i x) 34 3 (i32 (i + 1))).1 35 = τ.1 35 := by rw [sI_row _ _ (by decide), sI_row _ _ (by decide)]
  have w36 : ∀ k, (sI (sI τ 36 i x) 34 3 (i32 (i + 1))).1 36 k = if k = i then x else σ.1 36 k := fun k => by
    rw [sI_row _ _ (show 36 ≠ 34 by decide)]
    by_cases hk : k = i
    · rw [if_pos hk, hk, sI_at]
    · rw [if_neg hk, sI_ne _ _ (Or.inr hk), h36]
  refine ⟨_, rfl, BF_tr (BF_sI _ _ _ (by omega) (by omega)) (BF_sI _ _ _ (by omega) (by omega)), ?_, sI_at _ _ _ _, ?_, fun k I hk hI => ?_, fun k hk hI => ?_, fun k A hk => absurd hk (Nat.not_lt_zero _)⟩
  · rw [sI_ne _ _ (Or.inr (by decide)), sI_ne _ _ (Or.inl (by decide))]; exact t1
  · rw [sI_ne _ _ (Or.inr (by decide)), sI_ne _ _ (Or.inl (by decide))]; exact t5
  · rw [w36, w35]
    by_cases hki : k = i
    · rw [if_pos hki]
      exact hx.2 I (by rw [← hki]; exact hI)
    · rw [if_neg hki]
      obtain ⟨q, q1, q2, q3⟩ := h.2.2.2.1 k I (by omega) hI
      exact ⟨q, q1, fm_ext I q (fun m _ hm => h35 m (by omega)) q2, by omega⟩
  · rw [w36]
    by_cases hki : k = i
    · rw [if_pos hki]
      exact hx.1 (by rw [← hki]; exact hI)
    · rw [if_neg hki]
      exact h.2.2.2.2.1 k (by omega) hI
end KTOP9
