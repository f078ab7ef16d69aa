section TOP7
theorem MA_tx {σ τ : MS} {s : Sta} {tx : List Nat} (hs : SOK s) (h : MA σ s) (t : MAt τ tx) (c1 : ∀ k, k ≠ 3 → τ.1 k = σ.1 k) (c2 : ∀ j, j ≠ 2 → τ.2.1 j = σ.2.1 j) (c3 : τ.2.2 = σ.2.2) : MA τ (tx, s.2) := by
  obtain ⟨h1, h2, h3, h4, h5, h6, h7⟩ := h
  exact ⟨t, MAl_x hs.2.2.1 h2 (c1 4 (by decide)) (c1 5 (by decide)) (c1 7 (by decide)) (c2 3 (by decide)) (fun i _ => by rw [c2 1 (by decide)]), MAe_x hs.2.2.2.1 h3 (c1 8 (by decide)) (fun i _ _ => by rw [c2 1 (by decide)]), MAn_x h4 (fun k _ => by rw [c3]) (fun k _ => by rw [c2 11 (by decide)]), MAs_x hs.2.2.2.2.1 h5 (c1 10 (by decide)) (c2 4 (by decide)) (fun i _ _ => by rw [c2 1 (by decide)]), MAu_x h6 (c1 15 (by decide)) (c2 5 (by decide)) (c2 6 (by decide)) (c2 7 (by decide)), MAi_x h7 (c2 8 (by decide)) (c2 9 (by decide))⟩
theorem MAt_nil (σ : MS) : MAt (setF σ 3 0) [] := ⟨setF_eq _ _ _, fun k hk => absurd hk (Nat.not_lt_zero _)⟩
theorem MA_clear {σ : MS} {s : Sta} (hs : SOK s) (h : MA σ s) : MA (setF σ 3 0) ([], s.2) := MA_tx hs h (MAt_nil σ) (fun k hk => setF_ne _ _ hk) (fun _ _ => rfl) rfl
def aType (x : Int32) (s : Sta) : Int32 × Sta := if inR x 256 then (if s.tx.length = 32 then (-3, s) else (i32 (s.tx.length + 1), (s.tx ++ [x.toNatClampNeg], s.2))) else (-1, s)
def aClear (s : Sta) : Int32 × Sta := (i32 s.tx.length, ([], s.2))
theorem m_clear {σ : MS} {s : Sta} (hs : SOK s) (h : MA σ s) : MO (f_clear σ) (aClear s) := ⟨setF σ 3 0, by unfold f_clear aClear; rw [h.1.1], MA_clear hs h⟩
theorem m_type {σ : MS} {s : Sta} (hs : SOK s) (h : MA σ s) (x : Int32) : MO (f_type x σ) (aType x s) := by
  unfold f_type aType
  have e : f_in x 0 255 σ = some (if inR x 256 then 1 else 0, σ) := m_inL (n := 255) (by omega) σ
  rw [e, Option.bind_some]
  dsimp only
  by_cases hx : inR x 256
  · rw [if_pos hx, if_pos hx, if_neg (show ¬ ((1 : Int32) = 0) from by decide), h.1.1]
    have hl := hs.1
    by_cases h32 : s.tx.length = 32
    · rw [if_pos (show i32 s.tx.length = 32 by rw [h32]; rfl), if_pos h32]
      exact ⟨σ, rfl, h⟩
    · rw [if_neg (show ¬ (i32 s.tx.length = 32) from c_eq (b := 32) h32 (by omega) (by omega)), if_neg h32, if_pos (c_ix (show s.tx.length < aln 2 from Nat.lt_of_lt_of_le (show s.tx.length < 32 by omega) (Nat.le_refl _)) (by omega)), z_nn (by omega)]
      have ex := inR_e hx
      have e3 : (setA σ 2 s.tx.length x).1 3 = i32 s.tx.length := h.1.1
      rw [e3, setF_eq, z1, z_add]
      refine ⟨_, rfl, MA_tx hs h ⟨by rw [setF_eq, List.length_append]; rfl, fun k hk => ?_⟩ (fun k hk => setF_ne _ _ hk) (fun j hj => ?_) rfl⟩
      · rw [List.length_append] at hk
        show (setA σ 2 s.tx.length x).2.1 2 k = _
        unfold byt
        by_cases hkk : k = s.tx.length
        · subst hkk
          rw [setA_at, ex, List.getD_eq_getElem?_getD, List.getElem?_append_right (Nat.le_refl _), Nat.sub_self, ← ex]
          exact ex
        · have hk2 : k < s.tx.length := by have : [x.toNatClampNeg].length = 1 := rfl; omega
          rw [setA_ne _ _ (Or.inr hkk), h.1.2 k hk2, List.getD_eq_getElem?_getD, List.getElem?_append_left hk2]
          unfold byt
          rw [List.getD_eq_getElem?_getD]
      · funext i
        show (setA σ 2 s.tx.length x).2.1 j i = _
        rw [setA_ne _ _ (Or.inl hj)]
  · rw [if_neg hx, if_neg hx, if_pos rfl]
    exact ⟨σ, rfl, h⟩
def aLaw (x y k : Int32) (s : Sta) : Int32 × Sta := (if inR x 2 then (if x = 0 then (if inR y s.L.1.length then (if 0 ≤ k then (match (s.L.1[y.toNatClampNeg]?).join with | some I => sgA I k | none => -9) else -1) else -1) else (if inR y s.L.2.length then (if 0 ≤ k then (match s.L.2[y.toNatClampNeg]? with | some T => sgA T k | none => -1) else -1) else -1)) else -1, s)
theorem m_law {σ : MS} {s : Sta} (hs : SOK s) (h : MA σ s) (x y k : Int32) : MO (f_law x y k σ) (aLaw x y k s) := by
  refine ⟨σ, ?_, h⟩
  obtain ⟨_, ⟨h4, h5, h7, hI, hT, hf, hb⟩, _⟩ := id h
  have hL := hs.2.2.1
  have l1 := hL.1
  have l2 := hL.2.1
  unfold f_law aLaw B_law_26 B_law_38 B_law_67
  have e : f_in x 0 1 σ = some (if inR x 2 then 1 else 0, σ) := m_inL (n := 1) (by omega) σ
  rw [e, Option.bind_some]
  dsimp only
  by_cases hx : inR x 2
  · rw [if_pos hx, if_pos hx, if_neg (show ¬ ((1 : Int32) = 0) from by decide)]
    by_cases hx0 : x = 0
    · rw [if_pos hx0, if_pos hx0, h4, m_inR (by omega), Option.bind_some]
      dsimp only
      by_cases hy : inR y s.L.1.length
      · rw [if_pos hy, if_pos hy, if_neg (show ¬ ((1 : Int32) = 0) from by decide)]
        by_cases hk : 0 ≤ k
        · rw [if_pos hk, if_pos hk, if_pos hx0]
          have ey := inR_e hy
          have hyl := hy.2
          generalize y.toNatClampNeg = w at ey hyl
          subst ey
          rw [if_pos (c_ix (show w < aln 3 from Nat.lt_of_lt_of_le (show w < 3 by omega) (Nat.le_refl _)) (by omega))]
          have hfw := hf w hyl
          have hg : s.L.1[w]? = some s.L.1[w] := List.getElem?_eq_getElem hyl
          unfold fxL fxM at hfw
          cases hj : s.L.1[w] with
          | none =>
            rw [hg, hj] at hfw
            rw [hg, hj]
            have h0 : σ.2.1 3 w = 0 := by
              have : (!(σ.2.1 3 w == 0)) = false := hfw
              simpa using this
            rw [h0, if_pos rfl]
            rfl
          | some I =>
            rw [hg, hj] at hfw
            rw [hj] at hg
            rw [hg]
            have h0 : ¬ (σ.2.1 3 w = 0) := by
              have : (!(σ.2.1 3 w == 0)) = true := hfw
              simpa using this
            have hl : ln I ≤ 50 := (hL.2.2.1 w I hg).2.2.1
            rw [if_neg h0, show (51 : Int32) * i32 w = i32 (51 * w) by simp only [z51, z_mul], m_signAt (MA_prT hs h (hL.2.2.1 w I hg).1) (hI w I hg) (by omega) hk]
            rfl
        · rw [if_neg hk, if_neg hk]
      · rw [if_neg hy, if_neg hy, if_pos rfl]
    · rw [if_neg hx0, if_neg hx0, h5, m_inR (by omega), Option.bind_some]
      dsimp only
      by_cases hy : inR y s.L.2.length
      · rw [if_pos hy, if_pos hy, if_neg (show ¬ ((1 : Int32) = 0) from by decide)]
        by_cases hk : 0 ≤ k
        · rw [if_pos hk, if_pos hk, if_neg hx0]
          have ey := inR_e hy
          have hyl := hy.2
          generalize y.toNatClampNeg = w at ey hyl
          subst ey
          have hg : s.L.2[w]? = some s.L.2[w] := List.getElem?_eq_getElem hyl
          have hl : ln s.L.2[w] ≤ 50 := (hL.2.2.2 w _ hg).2.1
          rw [show (51 : Int32) * (3 + i32 w) = i32 (51 * (3 + w)) by simp only [z51, z3, z_mul, z_add], m_signAt (MA_prT hs h (hL.2.2.2 w _ hg).1) (hT w _ hg) (by omega) hk, hg]
          rfl
        · rw [if_neg hk, if_neg hk]
      · rw [if_neg hy, if_neg hy, if_pos rfl]
  · rw [if_neg hx, if_neg hx, if_pos rfl]
def aEntry (x p k : Int32) (s : Sta) : Int32 × Sta := (if inR x s.en.length then (if inR p 2 then (if 0 ≤ k then (match s.en[x.toNatClampNeg]? with | some e => sgA (if p = 0 then e.1 else e.2) k | none => -1) else -1) else -1) else -1, s)
theorem m_entry {σ : MS} {s : Sta} (hs : SOK s) (h : MA σ s) (x p k : Int32) : MO (f_entry x p k σ) (aEntry x p k s) := by
  refine ⟨σ, ?_, h⟩
  obtain ⟨_, _, ⟨h8, he⟩, _⟩ := id h
  have hE := hs.2.2.2.1
  have hn := hE.1
  unfold f_entry aEntry B_entry_21
  rw [m_isEntry h8 (by omega), Option.bind_some]
  dsimp only
  by_cases hx : inR x s.en.length
  · rw [if_pos hx, if_pos hx, if_neg (show ¬ ((1 : Int32) = 0) from by decide)]
    have e : f_in p 0 1 σ = some (if inR p 2 then 1 else 0, σ) := m_inL (n := 1) (by omega) σ
    rw [e, Option.bind_some]
    dsimp only
    by_cases hp : inR p 2
    · rw [if_pos hp, if_pos hp, if_neg (show ¬ ((1 : Int32) = 0) from by decide)]
      by_cases hk : 0 ≤ k
      · rw [if_pos hk, if_pos hk]
        have ex := inR_e hx
        have hxl := hx.2
        generalize x.toNatClampNeg = w at ex hxl
        subst ex
        have ep := inR_e hp
        have hpl := hp.2
        generalize p.toNatClampNeg = r at ep hpl
        subst ep
        have hg : s.en[w]? = some s.en[w] := List.getElem?_eq_getElem hxl
        have ho := hE.2 _ (List.getElem_mem hxl)
        obtain ⟨g1, g2⟩ := he w _ hg
        obtain ⟨n1, n2⟩ := ent_ln ho
        obtain ⟨p1, p2⟩ := MA_pr hs h ho
        rw [hg, show (357 : Int32) + 102 * i32 w + 51 * i32 r = i32 (357 + 102 * w + 51 * r) by simp only [z357, z102, z51, z_mul, z_add]]
        dsimp only
        obtain rfl | rfl : r = 0 ∨ r = 1 := by omega
        · rw [if_pos (show i32 0 = 0 from rfl), m_signAt p1 (show fm (σ.2.1 1) s.en[w].1 (357 + 102 * w + 51 * 0) from g1) (by omega) hk, Option.bind_some]
        · rw [if_neg (show ¬ (i32 1 = 0) from by decide), m_signAt p2 (show fm (σ.2.1 1) s.en[w].2 (357 + 102 * w + 51 * 1) from g2) (by omega) hk, Option.bind_some]
      · rw [if_neg hk, if_neg hk]
    · rw [if_neg hp, if_neg hp, if_pos rfl]
  · rw [if_neg hx, if_neg hx, if_pos rfl]
end TOP7
