section MREAD22
theorem m_isData_l {σ : MS} {t : Tr} {p : Nat} (hp : pr (fxM σ) t) (hf : fm (σ.2.1 1) t p) (hl : p + ln t ≤ 9400) : ∀ (d F k : Nat), k + d = ln t → d < F → L_isData_4 F (i32 p) (if 80 ∈ (enc t).take k then i32 0 else i32 1) (i32 (p + k)) σ = some (if 80 ∈ enc t then i32 0 else i32 1, σ) := by
  intro d
  induction d with
  | zero =>
    intro F k hk hF
    obtain ⟨G, rfl⟩ : ∃ G, F = G + 1 := ⟨F - 1, by omega⟩
    rw [L_isData_4, m_behind hp hf hl, Option.bind_some]
    dsimp only
    rw [if_pos (show i32 (p + ln t) ≤ i32 (p + k) from by rw [z_le (by omega) (by omega)]; omega), show (enc t).take k = enc t from List.take_of_length_le (by unfold ln at hk; omega)]
    by_cases h : 80 ∈ enc t
    · rw [if_pos h]; rfl
    · rw [if_neg h]; rfl
  | succ d ih =>
    intro F k hk hF
    obtain ⟨G, rfl⟩ : ∃ G, F = G + 1 := ⟨F - 1, by omega⟩
    have ek : i32 (p + k) + 1 = i32 (p + (k + 1)) := by rw [z1, z_add, Nat.add_assoc]
    have hkl : k < (enc t).length := by unfold ln at hk; omega
    have et : (enc t).take (k + 1) = (enc t).take k ++ [(enc t).getD k 0] := by
      rw [List.take_succ, List.getElem?_eq_getElem hkl, List.getD_eq_getElem?_getD, List.getElem?_eq_getElem hkl]
      rfl
    have h128 := gD_lt (pr_lt t hp) k
    rw [L_isData_4, m_behind hp hf hl, Option.bind_some]
    dsimp only
    rw [if_neg (show ¬ (i32 (p + ln t) ≤ i32 (p + k)) from by rw [z_le (by omega) (by omega)]; omega)]
    by_cases h : 80 ∈ (enc t).take k
    · rw [if_pos h, if_pos (show i32 0 = 0 from rfl)]
      unfold B_isData_32 B_isData_33
      rw [ek]
      have := ih G (k + 1) (by omega) (by omega)
      rw [if_pos (show 80 ∈ (enc t).take (k + 1) from by rw [et]; exact List.mem_append_left _ h)] at this
      exact this
    · rw [if_neg h, if_neg (show ¬ (i32 1 = 0) from by decide), if_pos (c_ix (show p + k < aln 1 by show p + k < 9400; omega) (by omega)), z_nn (by omega), (fm_iff t p).mp hf k (by omega)]
      by_cases h80 : (enc t).getD k 0 = 80
      · rw [if_pos (show i32 ((enc t).getD k 0) = 80 from by rw [h80]; rfl)]
        unfold B_isData_32 B_isData_33
        rw [ek]
        have := ih G (k + 1) (by omega) (by omega)
        rw [if_pos (show 80 ∈ (enc t).take (k + 1) from by rw [et, h80]; simp)] at this
        exact this
      · rw [if_neg (show ¬ (i32 ((enc t).getD k 0) = 80) from c_eq (b := 80) h80 (by omega) (by omega))]
        unfold B_isData_33
        rw [ek]
        have := ih G (k + 1) (by omega) (by omega)
        rw [if_neg (show ¬ 80 ∈ (enc t).take (k + 1) from by
          rw [et, List.mem_append]
          rintro (h' | h')
          · exact h h'
          · exact h80 (List.mem_singleton.mp h').symm)] at this
        exact this
/-- is a type data -/
theorem m_isData {σ : MS} {t : Tr} {p : Nat} (hp : pr (fxM σ) t) (hf : fm (σ.2.1 1) t p) (hl : p + ln t ≤ 9400) : f_isData (i32 p) σ = some (if 80 ∈ enc t then i32 0 else i32 1, σ) := by
  have hn : ln t < 10000 := by omega
  have := m_isData_l hp hf hl (ln t) 10000 0 (by omega) hn
  rw [if_neg (show ¬ 80 ∈ (enc t).take 0 by simp)] at this
  exact this
/-- the first part of a type is there -/
def nmo (σ : MS) (P n : Nat) (s : Int32) : MS := setF (setF (setF (setA (setA (setA σ 30 P (σ.1 54)) 23 P s) 32 n (σ.1 54)) 46 (i32 (n + 1))) 52 0) 45 1
theorem m_namesOne {σ : MS} {P n : Nat} (s : Int32) (hP : P < 40) (hn : n < 10) (h46 : σ.1 46 = i32 n) : f_namesOne (i32 P) s σ = some (0, nmo σ P n s) := by
  have c23 : ix (i32 P) (aln 23) = true := c_ix (show P < 40 from hP) (by omega)
  have c30 : ix (i32 P) (aln 30) = true := c23
  unfold f_namesOne
  simp only [setA_n]
  rw [if_pos c30, if_pos c23, h46, if_pos (c_ix (show n < aln 32 by show n < 10; omega) (by omega)), z_nn (show P < 2147483648 by omega), z_nn (show n < 2147483648 by omega), show i32 n + 1 = i32 (n + 1) from by rw [z1, z_add]]
  rfl
theorem nmo_o (σ : MS) (P n : Nat) (s : Int32) {k : Nat} (h1 : k ≠ 45) (h2 : k ≠ 46) (h3 : k ≠ 52) : (nmo σ P n s).1 k = σ.1 k := by
  unfold nmo
  rw [setF_ne _ _ h1, setF_ne _ _ h3, setF_ne _ _ h2]
  rfl
theorem nmo_45 (σ : MS) (P n : Nat) (s : Int32) : (nmo σ P n s).1 45 = i32 1 := setF_eq _ _ _
theorem nmo_52 (σ : MS) (P n : Nat) (s : Int32) : (nmo σ P n s).1 52 = i32 0 := by
  unfold nmo
  rw [setF_ne _ _ (by decide)]
  exact setF_eq _ _ _
theorem nmo_46 (σ : MS) (P n : Nat) (s : Int32) : (nmo σ P n s).1 46 = i32 (n + 1) := by
  unfold nmo
  rw [setF_ne _ _ (by decide), setF_ne _ _ (by decide)]
  exact setF_eq _ _ _
theorem nmo_2 (σ : MS) (P n : Nat) (s : Int32) : (nmo σ P n s).2 = (setA (setA (setA σ 30 P (σ.1 54)) 23 P s) 32 n (σ.1 54)).2 := Eq.trans rfl rfl
theorem nmo_arr (σ : MS) (P n : Nat) (s : Int32) {j : Nat} (h1 : j ≠ 30) (h2 : j ≠ 23) (h3 : j ≠ 32) : (nmo σ P n s).2.1 j = σ.2.1 j := by
  rw [nmo_2]
  simp only [setA]
  rw [if_neg h3, if_neg h2, if_neg h1]
theorem nmo_30 (σ : MS) (P n : Nat) (s : Int32) : (nmo σ P n s).2.1 30 P = σ.1 54 := by
  rw [nmo_2, setA_ne _ _ (Or.inl (by decide)), setA_ne _ _ (Or.inl (by decide)), setA_at]
theorem nmo_23 (σ : MS) (P n : Nat) (s : Int32) : (nmo σ P n s).2.1 23 P = s := by
  rw [nmo_2, setA_ne _ _ (Or.inl (by decide)), setA_at]
theorem nmo_32 (σ : MS) (P n : Nat) (s : Int32) (k : Nat) : (nmo σ P n s).2.1 32 k = if k = n then σ.1 54 else σ.2.1 32 k := by
  rw [nmo_2]
  by_cases h : k = n
  · rw [if_pos h, h]; exact setA_at _ _ _ _
  · rw [if_neg h, setA_ne _ _ (Or.inr h), setA_ne _ _ (Or.inl (by decide)), setA_ne _ _ (Or.inl (by decide))]
theorem nmo_GR (σ : MS) (P n : Nat) (s : Int32) (V E T Q : Nat) (hQ : Q ≤ P) : GR σ (nmo σ P n s) V E T Q := by
  have tr : ∀ {a b c : MS}, GR a b V E T Q → GR b c V E T Q → GR a c V E T Q := fun h g => GR_tr h g (Nat.le_refl _) (Nat.le_refl _) (Nat.le_refl _) (Nat.le_refl _)
  exact tr (GR_A _ _ (Or.inr ⟨by decide, by decide, hQ⟩) V E T) (tr (GR_A _ _ (Or.inr ⟨by decide, by decide, hQ⟩) V E T) (tr (GR_A _ _ (Or.inl rfl) V E T) (tr (GR_F _ _ (by simp [FR]) V E T Q) (tr (GR_F _ _ (by simp [FR]) V E T Q) (GR_F _ _ (by simp [FR]) V E T Q)))))
theorem m_hT1 {τ : MS} {P n : Nat} {a nd nt nb ne : Int32} (hP : P < 40) (hn : n < 10) (h44 : τ.1 44 = i32 (P + 1)) (hp : prt τ P (i32 1) a (i32 n) nd nt nb ne) : f_handsType τ = some (0, nmo (agn τ P) P n 2) := by
  have c23 : ix (i32 P) (aln 23) = true := c_ix (show P < 40 from hP) (by omega)
  unfold f_handsType B_handsType_196
  rw [h44, z_sub1, if_pos c23, z_nn (show P < 2147483648 by omega), hp.1, if_pos (show i32 1 = 1 from rfl), m_again hP, Option.bind_some]
  dsimp only
  rw [m_namesOne 2 hP hn (agn_p hp).1, Option.bind_some]
theorem m_hT3 {τ : MS} {P n : Nat} {a nd nt nb ne : Int32} (hP : P < 40) (hn : n < 10) (h44 : τ.1 44 = i32 (P + 1)) (hp : prt τ P (i32 3) a (i32 n) nd nt nb ne) (hd : f_isData (τ.1 54) τ = some (i32 1, τ)) : f_handsType τ = some (0, nmo (agn τ P) P n 4) := by
  have c23 : ix (i32 P) (aln 23) = true := c_ix (show P < 40 from hP) (by omega)
  unfold f_handsType B_handsType_196 B_handsType_81
  rw [h44, z_sub1, if_pos c23, z_nn (show P < 2147483648 by omega), hp.1, if_neg (show ¬ (i32 3 = 1) from by decide), if_neg (show ¬ (i32 3 = 2) from by decide), if_pos (show i32 3 = 3 from rfl), hd, Option.bind_some]
  dsimp only
  rw [if_neg (show ¬ (i32 1 = 0) from by decide), m_again hP, Option.bind_some]
  dsimp only
  rw [m_namesOne 4 hP hn (agn_p hp).1, Option.bind_some]
theorem m_hT3F {τ : MS} {P n : Nat} {a nd nt nb ne : Int32} (hP : P < 40) (hn : n < 10) (h44 : τ.1 44 = i32 (P + 1)) (hp : prt τ P (i32 3) a (i32 n) nd nt nb ne) (h57 : τ.1 57 = -9) (hd : f_isData (τ.1 54) τ = some (i32 0, τ)) : f_handsType τ = some (0, nmo (agn (setF τ 57 (τ.1 53)) P) P n 4) := by
  have c23 : ix (i32 P) (aln 23) = true := c_ix (show P < 40 from hP) (by omega)
  unfold f_handsType B_handsType_196 B_handsType_81
  rw [h44, z_sub1, if_pos c23, z_nn (show P < 2147483648 by omega), hp.1, if_neg (show ¬ (i32 3 = 1) from by decide), if_neg (show ¬ (i32 3 = 2) from by decide), if_pos (show i32 3 = 3 from rfl), hd, Option.bind_some]
  dsimp only
  rw [if_pos (show i32 0 = 0 from rfl), m_fails _ h57, Option.bind_some]
  dsimp only
  rw [m_again hP, Option.bind_some]
  dsimp only
  rw [m_namesOne 4 hP hn (agn_p (σ := setF τ 57 (τ.1 53)) hp).1, Option.bind_some]
theorem m_hT24 {υ : MS} {P k c : Nat} (hP : P < 40) (h44 : υ.1 44 = i32 (P + 1)) (hk : (k = 2 ∧ c = 83) ∨ (k = 4 ∧ c = 80)) (h : υ.2.1 23 P = i32 k) : f_handsType υ = (f_joined (i32 c) (υ.2.1 30 P) (υ.1 54) (setF (agn υ P) 44 (i32 P))).bind fun q20 => (f_endsType (υ.2.1 24 P) q20.1 q20.2).bind fun q => some (0, q.2) := by
  have c23 : ix (i32 P) (aln 23) = true := c_ix (show P < 40 from hP) (by omega)
  have c24 : ix (i32 P) (aln 24) = true := c23
  have c30 : ix (i32 P) (aln 30) = true := c23
  have a44 : (agn υ P).1 44 = i32 (P + 1) := by rw [agn_o _ _ (by omega)]; exact h44
  have a54 : (setF (agn υ P) 44 (i32 P)).1 54 = υ.1 54 := by rw [setF_ne _ _ (by decide), agn_o _ _ (by omega)]
  have a23 : (setF (agn υ P) 44 (i32 P)).2.1 23 P = i32 k := h
  unfold f_handsType B_handsType_180 B_handsType_196
  rcases hk with ⟨rfl, rfl⟩ | ⟨rfl, rfl⟩
  · rw [h44, z_sub1, if_pos c23, z_nn (show P < 2147483648 by omega), h, if_neg (show ¬ (i32 2 = 1) from by decide), if_pos (show i32 2 = 2 from rfl), m_again hP, Option.bind_some]
    dsimp only
    rw [a44, z_sub1, if_pos c24, if_pos c23, a23, if_pos (show i32 2 = 2 from rfl), if_pos c30, a54]
    rfl
  · rw [h44, z_sub1, if_pos c23, z_nn (show P < 2147483648 by omega), h, if_neg (show ¬ (i32 4 = 1) from by decide), if_neg (show ¬ (i32 4 = 2) from by decide), if_neg (show ¬ (i32 4 = 3) from by decide), if_pos (show i32 4 = 4 from rfl), m_again hP, Option.bind_some]
    dsimp only
    rw [a44, z_sub1, if_pos c24, if_pos c23, a23, if_neg (show ¬ (i32 4 = 2) from by decide), if_pos c30, a54]
    rfl
theorem m_hM0 {υ : MS} {P : Nat} (hP : P < 40) (h44 : υ.1 44 = i32 (P + 1)) (h : υ.2.1 23 P = i32 0) : f_handsTerm υ = (f_joined (υ.2.1 30 P) (-9) (υ.1 54) (setF (agn υ P) 44 (i32 P))).bind fun q20 => (f_endsType (υ.2.1 24 P) q20.1 q20.2).bind fun q => some (0, q.2) := by
  have c23 : ix (i32 P) (aln 23) = true := c_ix (show P < 40 from hP) (by omega)
  have c24 : ix (i32 P) (aln 24) = true := c23
  have c30 : ix (i32 P) (aln 30) = true := c23
  have a44 : (agn υ P).1 44 = i32 (P + 1) := by rw [agn_o _ _ (by omega)]; exact h44
  have a54 : (setF (agn υ P) 44 (i32 P)).1 54 = υ.1 54 := by rw [setF_ne _ _ (by decide), agn_o _ _ (by omega)]
  unfold f_handsTerm B_handsTerm_375
  rw [h44, z_sub1, m_again hP, Option.bind_some]
  dsimp only
  rw [if_pos c23, z_nn (show P < 2147483648 by omega), show (agn υ P).2.1 23 P = i32 0 from h, if_pos (show i32 0 = 0 from rfl), if_pos c24, if_pos c30, a44, z_sub1, a54]
  rfl
end MREAD22
