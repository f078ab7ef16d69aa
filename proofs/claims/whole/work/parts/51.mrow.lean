section MROW
theorem aln_le (j : Nat) : aln j ≤ 9400 := by
  unfold aln
  split <;> decide
theorem z_dec (m r : Nat) : i32 (m + 1) + (i32 r - 1) = i32 (m + r) := by
  unfold i32
  rw [← Int32.ofInt_eq_ofNat, ← Int32.ofInt_eq_ofNat, ← Int32.ofInt_eq_ofNat, show (1 : Int32) = Int32.ofInt 1 from rfl, ← Int32.ofInt_sub, ← Int32.ofInt_add]
  congr 1
  omega
/-- so many cells of a row are brought to a place -/
def brg (σ : MS) (a i b j n : Nat) : MS := (σ.1, (fun c => if c = b then (fun q => if j ≤ q ∧ q < j + n then σ.2.1 a (i + (q - j)) else σ.2.1 b q) else σ.2.1 c), σ.2.2)
theorem brg_0 (σ : MS) (a i b j : Nat) : brg σ a i b j 0 = σ := by
  unfold brg
  have : (fun c => if c = b then (fun q => if j ≤ q ∧ q < j + 0 then σ.2.1 a (i + (q - j)) else σ.2.1 b q) else σ.2.1 c) = σ.2.1 := by
    funext c
    by_cases hc : c = b
    · subst hc
      rw [if_pos rfl]
      funext q
      rw [if_neg (by omega)]
    · rw [if_neg hc]
  rw [this]
theorem brg_succ (σ : MS) {a i b j k : Nat} (h : a ≠ b ∨ j ≤ i ∨ i + k < j) : setA (brg σ a i b j k) b (j + k) ((brg σ a i b j k).2.1 a (i + k)) = brg σ a i b j (k + 1) := by
  have e : (brg σ a i b j k).2.1 a (i + k) = σ.2.1 a (i + k) := by
    simp only [brg]
    by_cases hab : a = b
    · subst hab
      rcases h with h | h | h
      · exact absurd rfl h
      · rw [if_pos rfl, if_neg (by omega)]
      · rw [if_pos rfl, if_neg (by omega)]
    · rw [if_neg hab]
  rw [e]
  unfold setA brg
  refine Prod.ext rfl (Prod.ext ?_ rfl)
  funext c
  by_cases hc : c = b
  · subst hc
    simp only [if_true]
    funext q
    simp only [upd]
    by_cases hq : q = j + k
    · subst hq
      rw [if_pos rfl, if_pos (by omega), show j + k - j = k by omega]
    · rw [if_neg hq]
      by_cases h1 : j ≤ q ∧ q < j + k
      · rw [if_pos h1, if_pos (by omega)]
      · rw [if_neg h1, if_neg (by omega)]
  · simp only [if_neg hc]
theorem m_bring_l (σ : MS) {a i b j n : Nat} (hi : i + n ≤ aln a) (hj : j + n ≤ aln b) (ho : a ≠ b ∨ j ≤ i ∨ i + n ≤ j) : ∀ (d F k : Nat), k + d = n → d < F → L_bring_3 F a (i32 i) b (i32 j) (i32 n) (i32 k) (brg σ a i b j k) = some (0, brg σ a i b j n) := by
  have ha := aln_le a
  have hb := aln_le b
  intro d
  induction d with
  | zero =>
    intro F k hk hF
    obtain ⟨F, rfl⟩ : ∃ F', F = F' + 1 := ⟨F - 1, by omega⟩
    obtain rfl : k = n := by omega
    simp (disch := omega) only [L_bring_3, z0, z1, z2, z3, z4, z5, z6, z7, z8, z9, z10, z13, z15, z20, z32, z33, z40, z42, z44, z46, z48, z49, z50, z51, z57, z58, z60, z62, z65, z67, z80, z83, z92, z97, z100, z102, z255, z357, z612, z969, z1326, z1734, z10000, z_add, z_mul, z_sub, z_ltT, z_ltF, z_leT, z_leF, z_eqT, z_eqF, z_nn, z_ixT, z_ixF, if_true, if_false, Option.bind_some]
  | succ d ih =>
    intro F k hk hF
    obtain ⟨F, rfl⟩ : ∃ F', F = F' + 1 := ⟨F - 1, by omega⟩
    have := ih F (k + 1) (by omega) (by omega)
    simp (disch := omega) only [L_bring_3, z0, z1, z2, z3, z4, z5, z6, z7, z8, z9, z10, z13, z15, z20, z32, z33, z40, z42, z44, z46, z48, z49, z50, z51, z57, z58, z60, z62, z65, z67, z80, z83, z92, z97, z100, z102, z255, z357, z612, z969, z1326, z1734, z10000, z_add, z_mul, z_sub, z_ltT, z_ltF, z_leT, z_leF, z_eqT, z_eqF, z_nn, z_ixT, z_ixF, if_true, if_false, Option.bind_some] at this ⊢
    rw [brg_succ σ (by omega)]
    exact this
theorem m_bring (σ : MS) {a i b j n : Nat} (hi : i + n ≤ aln a) (hj : j + n ≤ aln b) (ho : a ≠ b ∨ j ≤ i ∨ i + n ≤ j) : f_bring a (i32 i) b (i32 j) (i32 n) σ = some (0, brg σ a i b j n) := by
  have ha := aln_le a
  have := m_bring_l σ hi hj ho n 10000 0 (by omega) (by omega)
  rw [brg_0] at this
  exact this
theorem m_isFamily (c : Nat) (hc : c < 2147483648) (σ : MS) : f_isFamily (i32 c) σ = some (if 65 ≤ c ∧ c ≤ 67 then 1 else 0, σ) := by
  unfold f_isFamily B_isFamily_16 B_isFamily_17
  by_cases h1 : c < 65
  · simp (disch := omega) only [z0, z1, z2, z3, z4, z5, z6, z7, z8, z9, z10, z13, z15, z20, z32, z33, z40, z42, z44, z46, z48, z49, z50, z51, z57, z58, z60, z62, z65, z67, z80, z83, z92, z97, z100, z102, z255, z357, z612, z969, z1326, z1734, z10000, z_add, z_mul, z_sub, z_ltT, z_ltF, z_leT, z_leF, z_eqT, z_eqF, z_nn, z_ixT, z_ixF, if_true, if_false, Option.bind_some]
    simp [Nat.not_le.mpr h1, bzb, i32]
  · by_cases h2 : 67 < c
    · simp (disch := omega) only [z0, z1, z2, z3, z4, z5, z6, z7, z8, z9, z10, z13, z15, z20, z32, z33, z40, z42, z44, z46, z48, z49, z50, z51, z57, z58, z60, z62, z65, z67, z80, z83, z92, z97, z100, z102, z255, z357, z612, z969, z1326, z1734, z10000, z_add, z_mul, z_sub, z_ltT, z_ltF, z_leT, z_leF, z_eqT, z_eqF, z_nn, z_ixT, z_ixF, if_true, if_false, Option.bind_some]
      simp [Nat.not_le.mpr h2, bzb, i32]
    · simp (disch := omega) only [z0, z1, z2, z3, z4, z5, z6, z7, z8, z9, z10, z13, z15, z20, z32, z33, z40, z42, z44, z46, z48, z49, z50, z51, z57, z58, z60, z62, z65, z67, z80, z83, z92, z97, z100, z102, z255, z357, z612, z969, z1326, z1734, z10000, z_add, z_mul, z_sub, z_ltT, z_ltF, z_leT, z_leF, z_eqT, z_eqF, z_nn, z_ixT, z_ixF, if_true, if_false, Option.bind_some]
      simp [Nat.not_lt.mp h1, Nat.not_lt.mp h2, bzb, i32]
theorem m_partsOf (c : Nat) (hc : c < 2147483648) (σ : MS) : f_partsOf (i32 c) σ = some (i32 (ar (fxM σ) c), σ) := by
  unfold f_partsOf B_partsOf_95 B_partsOf_96
  rw [m_isFamily c hc]
  by_cases h1 : c = 44
  · subst h1; rfl
  by_cases h2 : c = 46
  · subst h2; rfl
  by_cases h3 : c = 60
  · subst h3; rfl
  by_cases h4 : c = 62
  · subst h4; rfl
  by_cases h5 : c = 80
  · subst h5; rfl
  by_cases h6 : c = 83
  · subst h6; rfl
  by_cases h7 : c = 92
  · subst h7; rfl
  by_cases h8 : 65 ≤ c ∧ c ≤ 67
  · simp (disch := omega) only [h8, z0, z1, z2, z3, z4, z5, z6, z7, z8, z9, z10, z13, z15, z20, z32, z33, z40, z42, z44, z46, z48, z49, z50, z51, z57, z58, z60, z62, z65, z67, z80, z83, z92, z97, z100, z102, z255, z357, z612, z969, z1326, z1734, z10000, z_add, z_mul, z_sub, z_ltT, z_ltF, z_leT, z_leF, z_eqT, z_eqF, z_nn, z_ixT, z_ixF, if_true, if_false, Option.bind_some, al1, al2, al3, al4, al5, al6, al7, al8, al9, al10, al11, al12, al13, al14, al15, al16, al17, al18, al19, al20, al21, al22, al23, al24, al25, al26, al27, al28, al29, al30, al31, al32, al33]
    by_cases h10 : σ.2.1 3 (c - 65) = i32 0
    · have h11 : σ.2.1 3 (c - 65) = 0 := h10
      have e0 : (0 : Int32) = i32 0 := rfl
      simp [h11, ar, h1, h2, h3, h4, h5, h6, h7, fxM, e0]
    · have h11 : ¬ σ.2.1 3 (c - 65) = 0 := h10
      have e0 : ¬ (i32 1 = i32 0) := by decide
      simp [h10, h11, ar, h1, h2, h3, h4, h5, h6, h7, fxM, h8, e0]
  · simp (disch := omega) only [h8, z0, z1, z2, z3, z4, z5, z6, z7, z8, z9, z10, z13, z15, z20, z32, z33, z40, z42, z44, z46, z48, z49, z50, z51, z57, z58, z60, z62, z65, z67, z80, z83, z92, z97, z100, z102, z255, z357, z612, z969, z1326, z1734, z10000, z_add, z_mul, z_sub, z_ltT, z_ltF, z_leT, z_leF, z_eqT, z_eqF, z_nn, z_ixT, z_ixF, if_true, if_false, Option.bind_some, al1, al2, al3, al4, al5, al6, al7, al8, al9, al10, al11, al12, al13, al14, al15, al16, al17, al18, al19, al20, al21, al22, al23, al24, al25, al26, al27, al28, al29, al30, al31, al32, al33]
    simp [ar, h1, h2, h3, h4, h5, h6, h7]
    rw [if_neg (fun h => h8 ⟨h.1, h.2.1⟩)]
theorem m_behind_l {σ : MS} : ∀ (t : Tr) (p m F : Nat), pr (fxM σ) t → fm (σ.2.1 1) t p → p + ln t ≤ 9400 → m + ln t < 100000 → L_behind_4 (F + ln t) (i32 (m + 1)) (i32 p) σ = L_behind_4 F (i32 m) (i32 (p + ln t)) σ := by
  intro t
  induction t with
  | leaf s =>
    intro p m F hp hf hl hm
    have hs := hp.2.1
    rw [ln_leaf hp.1] at hl hm ⊢
    have e : L_behind_4 (F + 1) (i32 (m + 1)) (i32 p) σ = L_behind_4 F (i32 (m + 1) + (i32 (ar (fxM σ) s) - 1)) (i32 p + 1) σ := by
      rw [L_behind_4]
      simp (disch := omega) only [z_nn, hf hp.1, m_partsOf, z0, z_leF, z_ixT, al1, al2, al3, al4, al5, al6, al7, al8, al9, al10, al11, al12, al13, al14, al15, al16, al17, al18, al19, al20, al21, al22, al23, al24, al25, al26, al27, al28, al29, al30, al31, al32, al33, if_true, if_false, Option.bind_some]
    rw [e, z_dec, hp.2.2, z1, z_add]
    rfl
  | branch s a b iha ihb =>
    intro p m F hp hf hl hm
    have hs := hp.2.1
    rw [ln_br] at hl hm ⊢
    have e : L_behind_4 ((F + ln b + ln a) + 1) (i32 (m + 1)) (i32 p) σ = L_behind_4 (F + ln b + ln a) (i32 (m + 1) + (i32 (ar (fxM σ) s) - 1)) (i32 p + 1) σ := by
      rw [L_behind_4]
      simp (disch := omega) only [z_nn, hf.1, m_partsOf, z0, z_leF, z_ixT, al1, al2, al3, al4, al5, al6, al7, al8, al9, al10, al11, al12, al13, al14, al15, al16, al17, al18, al19, al20, al21, al22, al23, al24, al25, al26, al27, al28, al29, al30, al31, al32, al33, if_true, if_false, Option.bind_some]
    rw [show F + (1 + ln a + ln b) = (F + ln b + ln a) + 1 by omega, e, z_dec, z1, z_add]
    rcases hp.2.2 with ⟨h1, h2, h3⟩ | ⟨h1, h2, h3⟩
    · rw [h1, show m + 2 = (m + 1) + 1 by omega, iha _ _ _ h2 hf.2.1 (by omega) (by omega), ihb _ _ _ h3 hf.2.2 (by omega) (by omega)]
      rw [show p + 1 + ln a + ln b = p + (1 + ln a + ln b) by omega]
    · subst h3
      rw [h1, ln_0, Nat.add_zero, iha _ _ _ h2 hf.2.1 (by omega) (by omega)]
      rw [show p + 1 + ln a = p + (1 + ln a + 0) by omega]
theorem m_behind {σ : MS} {t : Tr} {p : Nat} (hp : pr (fxM σ) t) (hf : fm (σ.2.1 1) t p) (hl : p + ln t ≤ 9400) : f_behind (i32 p) σ = some (i32 (p + ln t), σ) := by
  have h := m_behind_l t p 0 (10000 - ln t) hp hf hl (by omega)
  rw [show 10000 - ln t + ln t = 10000 by omega] at h
  unfold f_behind
  have h1 : (1 : Int32) = i32 (0 + 1) := rfl
  rw [h1, h]
  obtain ⟨F, hF⟩ : ∃ F, 10000 - ln t = F + 1 := ⟨10000 - ln t - 1, by omega⟩
  rw [hF, L_behind_4]
  simp (disch := omega) only [z0, z1, z2, z3, z4, z5, z6, z7, z8, z9, z10, z13, z15, z20, z32, z33, z40, z42, z44, z46, z48, z49, z50, z51, z57, z58, z60, z62, z65, z67, z80, z83, z92, z97, z100, z102, z255, z357, z612, z969, z1326, z1734, z10000, z_add, z_mul, z_sub, z_ltT, z_ltF, z_leT, z_leF, z_eqT, z_eqF, z_nn, z_ixT, z_ixF, if_true, if_false, Option.bind_some]
theorem m_longOf {σ : MS} {t : Tr} {p : Nat} (hp : pr (fxM σ) t) (hf : fm (σ.2.1 1) t p) (hl : p + ln t ≤ 9400) : f_longOf (i32 p) σ = some (i32 (ln t), σ) := by
  unfold f_longOf
  rw [m_behind hp hf hl]
  simp only [Option.bind_some]
  rw [z_sub (by omega), show p + ln t - p = ln t by omega]
end MROW
