section TOP10
theorem m_notes {L : Lw} {σ : MS} {k : Int32} {w : Nat} {cur : Ens} {un : List Ens} (hk : un.length ≤ 8) (hw : w < 6) (ho : ∀ s ∈ un, ensOK L s) (h : MAu σ cur un) : ∃ υ, f_notes k (i32 w) σ = some (0, υ) ∧ NoR σ υ k (i32 w) cur un (357 + 102 * w) := by
  unfold f_notes
  rw [h.1]
  by_cases h8 : un.length = 8
  · rw [if_pos (show i32 un.length = 8 by rw [h8]; rfl)]
    have b1 : f_bring 5 1 5 0 7 σ = some (0, brg σ 5 1 5 0 7) := m_bring σ (i := 1) (j := 0) (n := 7) (show 1 + 7 ≤ aln 5 from Nat.le_refl _) (show 0 + 7 ≤ aln 5 from Nat.le_of_ble_eq_true rfl) (Or.inr (Or.inl (by omega)))
    rw [b1, Option.bind_some]
    dsimp only
    have b2 : f_bring 6 1 6 0 7 (brg σ 5 1 5 0 7) = some (0, brg (brg σ 5 1 5 0 7) 6 1 6 0 7) := m_bring _ (i := 1) (j := 0) (n := 7) (show 1 + 7 ≤ aln 6 from Nat.le_refl _) (show 0 + 7 ≤ aln 6 from Nat.le_of_ble_eq_true rfl) (Or.inr (Or.inl (by omega)))
    rw [b2, Option.bind_some]
    dsimp only
    have b3 : f_bring 7 102 7 0 714 (brg (brg σ 5 1 5 0 7) 6 1 6 0 7) = some (0, brg (brg (brg σ 5 1 5 0 7) 6 1 6 0 7) 7 102 7 0 714) := m_bring _ (i := 102) (j := 0) (n := 714) (show 102 + 714 ≤ aln 7 from Nat.le_refl _) (show 0 + 714 ≤ aln 7 from Nat.le_of_ble_eq_true rfl) (Or.inr (Or.inl (by omega)))
    rw [b3, Option.bind_some]
    dsimp only
    have o5 : ∀ i, i < 7 → (brg (brg (brg σ 5 1 5 0 7) 6 1 6 0 7) 7 102 7 0 714).2.1 5 i = σ.2.1 5 (i + 1) := fun i hi => by
      rw [brg_ne _ _ _ _ _ _ (by decide), brg_ne _ _ _ _ _ _ (by decide)]
      have := brg_in σ 5 1 5 0 7 i hi
      rw [Nat.zero_add, Nat.add_comm 1 i] at this
      exact this
    have o6 : ∀ i, i < 7 → (brg (brg (brg σ 5 1 5 0 7) 6 1 6 0 7) 7 102 7 0 714).2.1 6 i = σ.2.1 6 (i + 1) := fun i hi => by
      rw [brg_ne _ _ _ _ _ _ (by decide)]
      have := brg_in (brg σ 5 1 5 0 7) 6 1 6 0 7 i hi
      rw [Nat.zero_add, Nat.add_comm 1 i] at this
      rw [this, brg_ne _ _ _ _ _ _ (by decide)]
    have o7 : ∀ q, q < 714 → (brg (brg (brg σ 5 1 5 0 7) 6 1 6 0 7) 7 102 7 0 714).2.1 7 q = σ.2.1 7 (q + 102) := fun q hq => by
      have := brg_in (brg (brg σ 5 1 5 0 7) 6 1 6 0 7) 7 102 7 0 714 q hq
      rw [Nat.zero_add, Nat.add_comm 102 q] at this
      rw [this, brg_ne _ _ _ _ _ _ (by decide), brg_ne _ _ _ _ _ _ (by decide)]
    have oo : ∀ c, c ≠ 5 → c ≠ 6 → c ≠ 7 → (brg (brg (brg σ 5 1 5 0 7) 6 1 6 0 7) 7 102 7 0 714).2.1 c = σ.2.1 c := fun c h5 h6 h7 => by
      rw [brg_ne _ _ _ _ _ _ h7, brg_ne _ _ _ _ _ _ h6, brg_ne _ _ _ _ _ _ h5]
    have of : (brg (brg (brg σ 5 1 5 0 7) 6 1 6 0 7) 7 102 7 0 714).1 = σ.1 := rfl
    have ol : (brg (brg (brg σ 5 1 5 0 7) 6 1 6 0 7) 7 102 7 0 714).2.2 = σ.2.2 := rfl
    generalize brg (brg (brg σ 5 1 5 0 7) 6 1 6 0 7) 7 102 7 0 714 = τ at o5 o6 o7 oo of ol
    rw [show τ.1 15 = i32 8 by rw [of, h.1, h8], show i32 8 - 1 = i32 7 from rfl]
    have ht : (un.take 7).length = 7 := by rw [List.length_take, h8]; rfl
    have hU : MAu (setF τ 15 (i32 7)) cur (un.take 7) := by
      refine ⟨by rw [setF_eq, ht], ?_⟩
      exact UM_sh (L := L) (d := 1) un cur 7 h8 (fun i hi => ⟨o5 i hi, o6 i hi, fun q hq => by show τ.2.1 7 _ = _; rw [o7 _ (by omega), show 102 * i + q + 102 = 102 * (i + 1) + q by omega]⟩) ho h.2
    obtain ⟨υ, e1, r1, r2, r3, r4, r5, r6, r7, r8⟩ := m_note (L := L) (k := k) (w := w) (show (un.take 7).length ≤ 7 by omega) hw (fun s hs => ho s (List.mem_of_mem_take hs)) hU
    have tt : (un.take 7).take 7 = un.take 7 := List.take_of_length_le (by omega)
    rw [tt] at r4 r5 r6 r7 r8
    exact ⟨υ, e1, fun i hi => by rw [r1 i hi, setF_ne _ _ hi, of], by rw [r2]; exact ol, fun c h5 h6 h7 => by rw [r3 c h5 h6 h7]; exact oo c h5 h6 h7, r4, r5, r6, fun i hi => by rw [r7 i hi]; show τ.2.1 1 _ = _; rw [oo 1 (by decide) (by decide) (by decide)], r8⟩
  · rw [if_neg (show ¬ (i32 un.length = 8) from c_eq (b := 8) h8 (by omega) (by omega))]
    exact m_note (show un.length ≤ 7 by omega) hw ho h
/-- an entry goes -/
theorem m_goes {L : Lw} {σ : MS} {l : Ens} {w : Nat} (hl : ensOK L l) (h : MAe σ l) (hw : w < l.length) : ∃ υ, f_goes (i32 w) σ = some (0, υ) ∧ (∀ i, i ≠ 8 → υ.1 i = σ.1 i) ∧ υ.2.2 = σ.2.2 ∧ (∀ c, c ≠ 1 → υ.2.1 c = σ.2.1 c) ∧ (∀ q, q < 357 ∨ 969 ≤ q → υ.2.1 1 q = σ.2.1 1 q) ∧ MAe υ (l.eraseIdx w) := by
  have hn := hl.1
  obtain ⟨h8, he⟩ := h
  unfold f_goes
  have hb : f_bring 1 (357 + 102 * (i32 w + 1)) 1 (357 + 102 * i32 w) (102 * (σ.1 8 - 1 - i32 w)) σ = some (0, brg σ 1 (357 + 102 * (w + 1)) 1 (357 + 102 * w) (102 * (l.length - 1 - w))) := by
    rw [h8, z357, z102, z1, z_add, z_mul, z_mul, z_add, z_add, z_sub (by omega), z_sub (by omega), z_mul]
    exact m_bring _ (show 357 + 102 * (w + 1) + 102 * (l.length - 1 - w) ≤ aln 1 from Nat.le_trans (show 357 + 102 * (w + 1) + 102 * (l.length - 1 - w) ≤ 9400 by omega) (Nat.le_refl _)) (show 357 + 102 * w + 102 * (l.length - 1 - w) ≤ aln 1 from Nat.le_trans (show 357 + 102 * w + 102 * (l.length - 1 - w) ≤ 9400 by omega) (Nat.le_refl _)) (Or.inr (Or.inl (by omega)))
  rw [hb, Option.bind_some]
  dsimp only
  have o1 : ∀ k, k < 102 * (l.length - 1 - w) → (brg σ 1 (357 + 102 * (w + 1)) 1 (357 + 102 * w) (102 * (l.length - 1 - w))).2.1 1 (357 + 102 * w + k) = σ.2.1 1 (357 + 102 * (w + 1) + k) := fun k hk => brg_in _ _ _ _ _ _ _ hk
  have o2 : ∀ q, q < 357 + 102 * w ∨ 357 + 102 * w + 102 * (l.length - 1 - w) ≤ q → (brg σ 1 (357 + 102 * (w + 1)) 1 (357 + 102 * w) (102 * (l.length - 1 - w))).2.1 1 q = σ.2.1 1 q := fun q hq => brg_out _ _ _ _ _ _ hq
  have oo : ∀ c, c ≠ 1 → (brg σ 1 (357 + 102 * (w + 1)) 1 (357 + 102 * w) (102 * (l.length - 1 - w))).2.1 c = σ.2.1 c := fun c hc => brg_ne _ _ _ _ _ _ hc
  have of : (brg σ 1 (357 + 102 * (w + 1)) 1 (357 + 102 * w) (102 * (l.length - 1 - w))).1 = σ.1 := rfl
  have ol : (brg σ 1 (357 + 102 * (w + 1)) 1 (357 + 102 * w) (102 * (l.length - 1 - w))).2.2 = σ.2.2 := rfl
  generalize brg σ 1 (357 + 102 * (w + 1)) 1 (357 + 102 * w) (102 * (l.length - 1 - w)) = τ at o1 o2 oo of ol
  refine ⟨setF τ 8 (τ.1 8 - 1), rfl, fun i hi => by rw [setF_ne _ _ hi, of], ol, oo, fun q hq => o2 q (by omega), ?_, ?_⟩
  · rw [setF_eq, of, h8, z1, z_sub (by omega), List.length_eraseIdx, if_pos hw]
  · intro e x hx
    rw [List.getElem?_eraseIdx] at hx
    show fm (τ.2.1 1) x.1 _ ∧ fm (τ.2.1 1) x.2 _
    by_cases hew : e < w
    · rw [if_pos hew] at hx
      obtain ⟨n1, n2⟩ := ent_ln (hl.2 x (List.mem_of_getElem? hx))
      exact ⟨fm_sh (fun k hk => o2 _ (by omega)) (he e x hx).1, fm_sh (fun k hk => o2 _ (by omega)) (he e x hx).2⟩
    · rw [if_neg hew] at hx
      obtain ⟨n1, n2⟩ := ent_ln (hl.2 x (List.mem_of_getElem? hx))
      have hlt := (List.getElem?_eq_some_iff.mp hx).1
      have key : ∀ k, k < 102 → τ.2.1 1 (357 + 102 * e + k) = σ.2.1 1 (357 + 102 * (e + 1) + k) := by
        intro k hk
        have := o1 (102 * (e - w) + k) (by omega)
        rw [show 357 + 102 * w + (102 * (e - w) + k) = 357 + 102 * e + k by omega, show 357 + 102 * (w + 1) + (102 * (e - w) + k) = 357 + 102 * (e + 1) + k by omega] at this
        exact this
      exact ⟨fm_sh (fun k hk => key k (by omega)) (he _ x hx).1, fm_sh (fun k hk => by rw [Nat.add_assoc, Nat.add_assoc (357 + 102 * (e + 1)), key _ (by omega)]) (he _ x hx).2⟩
end TOP10
