section TOP9
/-- what a method changes of row 1 alone -/
def R1 (σ τ : MS) (b n : Nat) : Prop := τ.1 = σ.1 ∧ τ.2.2 = σ.2.2 ∧ (∀ c, c ≠ 1 → τ.2.1 c = σ.2.1 c) ∧ ∀ q, q < b ∨ b + n ≤ q → τ.2.1 1 q = σ.2.1 1 q
theorem R1_b (σ : MS) (a i b n : Nat) : R1 σ (brg σ a i 1 b n) b n := ⟨rfl, rfl, fun c hc => brg_ne _ _ _ _ _ _ hc, fun q hq => brg_out _ _ _ _ _ _ hq⟩
theorem R1_tr {σ τ υ : MS} {b n c m d k : Nat} (h : R1 σ τ b n) (g : R1 τ υ c m) (h1 : d ≤ b) (h2 : b + n ≤ d + k) (h3 : d ≤ c) (h4 : c + m ≤ d + k) : R1 σ υ d k := ⟨g.1.trans h.1, g.2.1.trans h.2.1, fun c hc => (g.2.2.1 c hc).trans (h.2.2.1 c hc), fun q hq => (g.2.2.2 q (by omega)).trans (h.2.2.2 q (by omega))⟩
theorem R1_fx {σ τ : MS} {b n : Nat} (h : R1 σ τ b n) : fxM τ = fxM σ := by
  funext k
  unfold fxM
  rw [h.2.2.1 3 (by decide)]
theorem R1_fm {σ τ : MS} {b n : Nat} (h : R1 σ τ b n) {t : Tr} {p : Nat} (hf : fm (σ.2.1 1) t p) (hp : p + ln t ≤ b ∨ b + n ≤ p) : fm (τ.2.1 1) t p := fm_sh (fun k hk => h.2.2.2 _ (by omega)) hf
/-- a type and a term are laid into a slot -/
theorem m_slots {τ : MS} {e : Tr × Tr} {g h b : Nat} (hp : pr (fxM τ) e.1 ∧ pr (fxM τ) e.2) (hl : ln e.1 ≤ 50 ∧ ln e.2 ≤ 50) (f1 : fm (τ.2.1 1) e.1 g) (f2 : fm (τ.2.1 1) e.2 h) (g1 : 1734 ≤ g) (g2 : g ≤ 9000) (h1 : 1734 ≤ h) (h2 : h ≤ 9000) (hb : b + 102 ≤ 1734) : ∃ τ1 τ2, f_toSlot (i32 g) (i32 b) τ = some (0, τ1) ∧ f_toSlot (i32 h) (i32 (b + 51)) τ1 = some (0, τ2) ∧ τ1.1 = τ.1 ∧ R1 τ τ2 b 102 ∧ fm (τ2.2.1 1) e.1 b ∧ fm (τ2.2.1 1) e.2 (b + 51) := by
  have e1 := m_toSlot (j := b) hp.1 f1 (by omega) (by omega) (Or.inl (by omega))
  have r1 := R1_b τ 1 g b (ln e.1)
  have fb : fm ((brg τ 1 g 1 b (ln e.1)).2.1 1) e.1 b := fm_sh (fun k hk => brg_in _ _ _ _ _ _ _ hk) f1
  generalize brg τ 1 g 1 b (ln e.1) = τ1 at e1 r1 fb
  have f2' := R1_fm r1 f2 (Or.inr (by omega))
  have p2 : pr (fxM τ1) e.2 := by rw [R1_fx r1]; exact hp.2
  have e2 := m_toSlot (j := b + 51) p2 f2' (by omega) (by omega) (Or.inl (by omega))
  have r2 := R1_b τ1 1 h (b + 51) (ln e.2)
  have fb2 : fm ((brg τ1 1 h 1 (b + 51) (ln e.2)).2.1 1) e.2 (b + 51) := fm_sh (fun k hk => brg_in _ _ _ _ _ _ _ hk) f2'
  generalize brg τ1 1 h 1 (b + 51) (ln e.2) = τ2 at e2 r2 fb2
  exact ⟨τ1, τ2, e1, e2, r1.1, R1_tr r1 r2 (Nat.le_refl _) (by omega) (by omega) (by omega), R1_fm r2 fb (Or.inl (by omega)), fb2⟩
theorem UM_sh {L : Lw} {A B C A' B' C' : Nat → Int32} {d : Nat} : ∀ (l : List Ens) (cur : Ens) (m : Nat), l.length = m + d → (∀ i, i < m → A' i = A (i + d) ∧ B' i = B (i + d) ∧ ∀ k, k < 102 → C' (102 * i + k) = C (102 * (i + d) + k)) → (∀ s ∈ l, ensOK L s) → UM A B C cur l → UM A' B' C' cur (l.take m) := by
  intro l
  induction l with
  | nil => intro cur m _ _ _ _; rw [List.take_nil]; exact trivial
  | cons s r ih =>
    intro cur m hl hx ho h
    cases m with
    | zero => exact trivial
    | succ m =>
      rw [List.length_cons] at hl
      have hr : r.length = m + d := by omega
      have ht : (r.take m).length = m := by rw [List.length_take]; omega
      obtain ⟨hh, h2⟩ := h
      rw [hr] at hh
      rw [List.take_succ_cons]
      refine ⟨?_, ih s m hr (fun i hi => hx i (by omega)) (fun s hs => ho s (List.mem_cons_of_mem _ hs)) h2⟩
      rw [ht]
      obtain ⟨x1, x2, x3⟩ := hx m (by omega)
      rw [x1, x2]
      rcases hh with hh | ⟨h3, w, e, h4, h5, h6, h7, h8⟩
      · exact Or.inl hh
      · obtain ⟨n1, n2⟩ := ent_ln ((ho s (List.mem_cons_self ..)).2 e (List.mem_of_getElem? h4))
        refine Or.inr ⟨h3, w, e, h4, h5, h6, fm_sh (fun k hk => x3 k (by omega)) h7, fm_sh (fun k hk => ?_) h8⟩
        rw [Nat.add_assoc, x3 _ (by omega), Nat.add_assoc]
/-- what notes leaves -/
def NoR (σ υ : MS) (k w : Int32) (cur : Ens) (un : List Ens) (b : Nat) : Prop := (∀ i, i ≠ 15 → υ.1 i = σ.1 i) ∧ υ.2.2 = σ.2.2 ∧ (∀ c, c ≠ 5 → c ≠ 6 → c ≠ 7 → υ.2.1 c = σ.2.1 c) ∧ υ.1 15 = i32 ((un.take 7).length + 1) ∧ υ.2.1 5 (un.take 7).length = k ∧ υ.2.1 6 (un.take 7).length = w ∧ (∀ i, i < 102 → υ.2.1 7 (102 * (un.take 7).length + i) = σ.2.1 1 (b + i)) ∧ UM (υ.2.1 5) (υ.2.1 6) (υ.2.1 7) cur (un.take 7)
theorem m_note {L : Lw} {σ : MS} {k : Int32} {w : Nat} {cur : Ens} {un : List Ens} (hk : un.length ≤ 7) (hw : w < 6) (ho : ∀ s ∈ un, ensOK L s) (h : MAu σ cur un) : ∃ υ, B_notes_66 k (i32 w) σ = some (0, υ) ∧ NoR σ υ k (i32 w) cur un (357 + 102 * w) := by
  unfold B_notes_66
  have ht : un.take 7 = un := List.take_of_length_le hk
  have e15 : (setA σ 5 un.length k).1 15 = i32 un.length := h.1
  rw [h.1, z_nn (by omega), if_pos (c_ix (show un.length < aln 5 from Nat.lt_of_lt_of_le (show un.length < 8 by omega) (Nat.le_refl _)) (by omega)), e15, z_nn (by omega), if_pos (c_ix (show un.length < aln 6 from Nat.lt_of_lt_of_le (show un.length < 8 by omega) (Nat.le_refl _)) (by omega))]
  have e15b : (setA (setA σ 5 un.length k) 6 un.length (i32 w)).1 15 = i32 un.length := h.1
  rw [e15b]
  have hb : f_bring 1 (357 + 102 * i32 w) 7 (102 * i32 un.length) 102 (setA (setA σ 5 un.length k) 6 un.length (i32 w)) = some (0, brg (setA (setA σ 5 un.length k) 6 un.length (i32 w)) 1 (357 + 102 * w) 7 (102 * un.length) 102) := by
    rw [z357, z102, z_mul, z_mul, z_add]
    exact m_bring _ (show 357 + 102 * w + 102 ≤ aln 1 from Nat.le_trans (show 357 + 102 * w + 102 ≤ 9400 by omega) (Nat.le_refl _)) (show 102 * un.length + 102 ≤ aln 7 from Nat.le_trans (show 102 * un.length + 102 ≤ 816 by omega) (Nat.le_refl _)) (Or.inl (by decide))
  rw [hb, Option.bind_some]
  dsimp only
  have o7 : ∀ i, i < 102 → (brg (setA (setA σ 5 un.length k) 6 un.length (i32 w)) 1 (357 + 102 * w) 7 (102 * un.length) 102).2.1 7 (102 * un.length + i) = σ.2.1 1 (357 + 102 * w + i) := fun i hi => by
    rw [brg_in _ _ _ _ _ _ _ hi, setA_ne _ _ (Or.inl (by decide)), setA_ne _ _ (Or.inl (by decide))]
  have o7' : ∀ q, q < 102 * un.length → (brg (setA (setA σ 5 un.length k) 6 un.length (i32 w)) 1 (357 + 102 * w) 7 (102 * un.length) 102).2.1 7 q = σ.2.1 7 q := fun q hq => by
    rw [brg_out _ _ _ _ _ _ (Or.inl hq), setA_ne _ _ (Or.inl (by decide)), setA_ne _ _ (Or.inl (by decide))]
  have o5 : ∀ q, (brg (setA (setA σ 5 un.length k) 6 un.length (i32 w)) 1 (357 + 102 * w) 7 (102 * un.length) 102).2.1 5 q = if q = un.length then k else σ.2.1 5 q := fun q => by
    rw [brg_ne _ _ _ _ _ _ (by decide), setA_ne _ _ (Or.inl (by decide))]
    by_cases hq : q = un.length
    · rw [if_pos hq, hq, setA_at]
    · rw [if_neg hq, setA_ne _ _ (Or.inr hq)]
  have o6 : ∀ q, (brg (setA (setA σ 5 un.length k) 6 un.length (i32 w)) 1 (357 + 102 * w) 7 (102 * un.length) 102).2.1 6 q = if q = un.length then i32 w else σ.2.1 6 q := fun q => by
    rw [brg_ne _ _ _ _ _ _ (by decide)]
    by_cases hq : q = un.length
    · rw [if_pos hq, hq, setA_at]
    · rw [if_neg hq, setA_ne _ _ (Or.inr hq), setA_ne _ _ (Or.inl (by decide))]
  have oo : ∀ c, c ≠ 5 → c ≠ 6 → c ≠ 7 → (brg (setA (setA σ 5 un.length k) 6 un.length (i32 w)) 1 (357 + 102 * w) 7 (102 * un.length) 102).2.1 c = σ.2.1 c := fun c h5 h6 h7 => by
    rw [brg_ne _ _ _ _ _ _ h7]
    funext i
    rw [setA_ne _ _ (Or.inl h6), setA_ne _ _ (Or.inl h5)]
  have of : (brg (setA (setA σ 5 un.length k) 6 un.length (i32 w)) 1 (357 + 102 * w) 7 (102 * un.length) 102).1 = σ.1 := rfl
  have ol : (brg (setA (setA σ 5 un.length k) 6 un.length (i32 w)) 1 (357 + 102 * w) 7 (102 * un.length) 102).2.2 = σ.2.2 := rfl
  generalize brg (setA (setA σ 5 un.length k) 6 un.length (i32 w)) 1 (357 + 102 * w) 7 (102 * un.length) 102 = υ at o7 o7' o5 o6 oo of ol
  have of15 : υ.1 15 = i32 un.length := by rw [of]; exact h.1
  unfold NoR
  rw [ht]
  refine ⟨setF υ 15 (υ.1 15 + 1), rfl, fun i hi => by rw [setF_ne _ _ hi, of], ol, oo, by rw [setF_eq, of15, z1, z_add], ?_, ?_, o7, ?_⟩
  · show υ.2.1 5 _ = _
    rw [o5, if_pos rfl]
  · show υ.2.1 6 _ = _
    rw [o6, if_pos rfl]
  · have := UM_sh (L := L) (A' := υ.2.1 5) (B' := υ.2.1 6) (C' := υ.2.1 7) (d := 0) un cur un.length rfl (fun i hi => ⟨by rw [o5, if_neg (by omega)]; rfl, by rw [o6, if_neg (by omega)]; rfl, fun q hq => by rw [o7' _ (by omega)]; rfl⟩) ho h.2
    rw [List.take_of_length_le (Nat.le_refl _)] at this
    exact this
end TOP9
