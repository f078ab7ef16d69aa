section KTOP4
theorem i_lt {a b : Nat} (ha : a < 2147483648) (hb : b < 2147483648) : i32 a < i32 b ↔ a < b := by
  rw [← Int32.not_le, z_le hb ha]; omega
theorem k_law {σ : CS} {s : Sta} (hs : SOK s) (h : KA σ s) (x y k : Int32) : KO σ (f_J_law x y k σ) (aLaw x y k s) := by
  refine ⟨σ, ⟨rfl, rfl⟩, ?_, h⟩
  have hL := hs.2.2.1
  have l1 := hL.1
  have l2 := hL.2.1
  obtain ⟨t, et, ⟨g1, g2, g3, a, b, g4, g5, g6, g7, g8, g9, g10, g11, g12⟩, _⟩ := h.2.1
  unfold f_J_law aLaw B_J_law_17
  by_cases h0 : x < 0
  · rw [if_pos h0, if_neg (fun g : inR x 2 => Int32.not_le.mpr h0 g.1)]
  have h1 : 0 ≤ x := Int32.not_lt.mp h0
  rw [if_neg h0]
  by_cases hx : inR x 2
  · have hx1 : x ≤ i32 1 := (inR_hi (n := 1) h1 (by omega)).mpr hx
    rw [if_neg (show ¬ (1 < x) from Int32.not_lt.mpr hx1), if_pos hx]
    by_cases hy0 : y < 0
    · rw [if_pos hy0, if_neg (fun g : inR y s.L.1.length => Int32.not_le.mpr hy0 g.1), if_neg (fun g : inR y s.L.2.length => Int32.not_le.mpr hy0 g.1)]
      by_cases hx0 : x = 0
      · rw [if_pos hx0]
      · rw [if_neg hx0]
    have hy1 : 0 ≤ y := Int32.not_lt.mp hy0
    have ey := i_cl hy1
    have hyc := i_clt (x := y)
    rw [if_neg hy0]
    by_cases hk : 0 ≤ k
    · rw [if_pos hk]
      by_cases hx0 : x = 0
      · rw [if_pos hx0, if_pos hx0, et, Option.bind_some, if_pos g1, g2]
        unfold B_J_law_41
        by_cases hy : inR y s.L.1.length
        · have hyl := hy.2
          rw [if_pos hy, if_pos hk, if_pos (show y < i32 s.L.1.length by rw [ey]; exact (i_lt hyc (by omega)).mpr hyl), if_pos hx0, et, Option.bind_some, if_pos g1]
          unfold f_Laws_indexForm B_Laws_indexForm_26 B_Laws_indexForm_27
          rw [if_neg hy0, if_pos g1, g2, if_neg (show ¬ (i32 s.L.1.length ≤ y) by rw [ey, z_le (by omega) hyc]; omega), if_neg (show ¬ ((3 : Int32) ≤ y) by rw [ey, z3, z_le (by omega) hyc]; omega), if_pos g1, g4, Option.bind_some, if_pos g5, g6, if_pos (show ix y 3 = true by rw [ey]; exact c_ix (by omega) hyc), Option.bind_some]
          dsimp only
          unfold B_J_law_69 B_J_law_87
          have hg : s.L.1[y.toNatClampNeg]? = some s.L.1[y.toNatClampNeg] := List.getElem?_eq_getElem hyl
          cases hj : s.L.1[y.toNatClampNeg] with
          | none =>
            rw [hj] at hg
            rw [g10 _ hg, hg]
            rfl
          | some I =>
            rw [hj] at hg
            obtain ⟨c, c1, c2⟩ := g11 _ I hg
            have hl : ln I ≤ 50 := (hL.2.2.1 _ I hg).2.2.1
            rw [c1, hg]
            dsimp only [Option.elim, Option.join]
            rw [if_pos c2.1, k_formAt c2 hk hl, Option.bind_some]
            rfl
        · rw [if_neg hy, if_neg (show ¬ (y < i32 s.L.1.length) by rw [ey]; exact fun g => hy ⟨hy1, (i_lt hyc (by omega)).mp g⟩)]
      · rw [if_neg hx0, if_neg hx0, et, Option.bind_some, if_pos g1, g3]
        unfold B_J_law_41
        by_cases hy : inR y s.L.2.length
        · have hyl := hy.2
          rw [if_pos hy, if_pos hk, if_pos (show y < i32 s.L.2.length by rw [ey]; exact (i_lt hyc (by omega)).mpr hyl), if_neg hx0, et, Option.bind_some, if_pos g1]
          unfold f_Laws_constantForm B_Laws_constantForm_26 B_Laws_constantForm_27
          rw [if_neg hy0, if_pos g1, g3, if_neg (show ¬ (i32 s.L.2.length ≤ y) by rw [ey, z_le (by omega) hyc]; omega), if_neg (show ¬ ((4 : Int32) ≤ y) by rw [ey, z4, z_le (by omega) hyc]; omega), if_pos g1, g7, Option.bind_some, if_pos g8, g9, if_pos (show ix y 4 = true by rw [ey]; exact c_ix (by omega) hyc), Option.bind_some]
          dsimp only
          unfold B_J_law_69 B_J_law_87
          have hg : s.L.2[y.toNatClampNeg]? = some s.L.2[y.toNatClampNeg] := List.getElem?_eq_getElem hyl
          obtain ⟨c, c1, c2⟩ := g12 _ _ hg
          have hl : ln s.L.2[y.toNatClampNeg] ≤ 50 := (hL.2.2.2 _ _ hg).2.1
          rw [c1, hg]
          dsimp only [Option.elim]
          rw [if_pos c2.1, k_formAt c2 hk hl, Option.bind_some]
        · rw [if_neg hy, if_neg (show ¬ (y < i32 s.L.2.length) by rw [ey]; exact fun g => hy ⟨hy1, (i_lt hyc (by omega)).mp g⟩)]
    · rw [if_neg hk, if_neg hk, if_neg hk]
      by_cases hx0 : x = 0
      · rw [if_pos hx0]
        by_cases hy : inR y s.L.1.length
        · rw [if_pos hy]
        · rw [if_neg hy]
      · rw [if_neg hx0]
        by_cases hy : inR y s.L.2.length
        · rw [if_pos hy]
        · rw [if_neg hy]
  · have hx1 : ¬ (x ≤ i32 1) := fun g => hx ((inR_hi (n := 1) h1 (by omega)).mp g)
    rw [if_pos (show 1 < x from Int32.not_le.mp hx1), if_neg hx]
theorem k_agree {σ : CS} {s : Sta} (hs : SOK s) (h : KA σ s) {c : Nat} {e : Tr × Tr} (he : entK σ c e) (heo : entOK s.L e) : ∀ (d F i : Nat), i + d = s.sg.length → d < F → (∀ x ∈ s.sg.take i, agS e x = true) → L_Sights_agreeWith_2 F (some c) (i32 i) σ = some (if s.sg.all (agS e) then 1 else 0, σ) := by
  have hS := hs.2.2.2.2.1
  have hm := hS.1
  have h5 := h.2.2.2.1
  intro d
  induction d with
  | zero =>
    intro F i hi hF o1
    obtain ⟨F, rfl⟩ : ∃ F', F = F' + 1 := ⟨F - 1, by omega⟩
    obtain rfl : i = s.sg.length := by omega
    rw [List.take_of_length_le (Nat.le_refl _)] at o1
    unfold L_Sights_agreeWith_2 B_Sights_agreeWith_51
    rw [h5.1, if_pos (Int32.le_refl _), if_pos (by rw [List.all_eq_true]; exact o1)]
  | succ d ih =>
    intro F i hi hF o1
    obtain ⟨F, rfl⟩ : ∃ F', F = F' + 1 := ⟨F - 1, by omega⟩
    have hil : i < s.sg.length := by omega
    have hg : s.sg[i]? = some s.sg[i] := List.getElem?_eq_getElem hil
    have htk : s.sg.take (i + 1) = s.sg.take i ++ [s.sg[i]] := by rw [List.take_succ, hg]; rfl
    have hso := hS.2 _ (List.getElem_mem hil)
    obtain ⟨g0, q, g1, g2⟩ := h5.2 i _ hg
    rw [L_Sights_agreeWith_2, h5.1, if_neg (show ¬ (i32 s.sg.length ≤ i32 i) by rw [z_le (by omega) (by omega)]; omega), if_neg (show ¬ ((4 : Int32) ≤ i32 i) by rw [z4, z_le (by omega) (by omega)]; omega), if_pos (c_ix (show i < lS 26 from Nat.lt_of_lt_of_le (show i < 4 by omega) (Nat.le_refl _)) (by omega)), z_nn (by omega), g1]
    dsimp only [Option.elim]
    rw [if_pos (c_ix (show i < lS 26 from Nat.lt_of_lt_of_le (show i < 4 by omega) (Nat.le_refl _)) (by omega)), Option.bind_some, if_pos he.1, k_likeness hs.2.2.1 heo hso.2 he g2, Option.bind_some]
    dsimp only
    rw [if_pos (c_ix (show i < lS 27 from Nat.lt_of_lt_of_le (show i < 4 by omega) (Nat.le_refl _)) (by omega)), g0]
    have hlk := lkA_le e s.sg[i].2
    by_cases hc : lkA e s.sg[i].2 = s.sg[i].1
    · rw [if_pos (show i32 (lkA e s.sg[i].2) = i32 s.sg[i].1 by rw [hc]), z1, z_add]
      exact ih F (i + 1) (by omega) (by omega) (fun x hx => by
        rw [htk] at hx
        rcases List.mem_append.mp hx with hx | hx
        · exact o1 x hx
        · obtain rfl := List.mem_singleton.mp hx
          unfold agS
          rw [hc]; exact beq_self_eq_true _)
    · rw [if_neg (c_eq hc (by omega) (by omega))]
      unfold B_Sights_agreeWith_43
      have ha : s.sg.all (agS e) = false := by
        rw [List.all_eq_false]
        exact ⟨s.sg[i], List.getElem_mem hil, by unfold agS; rw [beq_false_of_ne hc]; decide⟩
      rw [ha, if_neg (show ¬ (false = true) by decide)]
theorem k_unseen_2 {s : Sta} {σ : CS} (hs : SOK s) (h : KA σ s) : ∀ (l : Ens) (F k : Nat) (b : Int32), s.en.drop k = l → k ≤ s.en.length → l.length < F → L_J_unseen_4 F b (i32 k) σ = some (unL s.sg l b k, σ) := by
  have hn := hs.2.2.2.1.1
  have h3 := h.2.2.1
  intro l
  induction l with
  | nil =>
    intro F k b hk hk2 hF
    obtain ⟨F, rfl⟩ : ∃ F', F = F' + 1 := ⟨F - 1, by omega⟩
    have hkl := List.drop_eq_nil_iff.mp hk
    rw [L_J_unseen_4, h3.2.1, if_pos (show i32 s.en.length ≤ i32 k by rw [z_le (by omega) (by omega)]; exact hkl)]
    rfl
  | cons e l ih =>
    intro F k b hk hk2 hF
    obtain ⟨F, rfl⟩ : ∃ F', F = F' + 1 := ⟨F - 1, by omega⟩
    rw [List.length_cons] at hF
    have hkl : k < s.en.length := by
      have := congrArg List.length hk
      rw [List.length_drop, List.length_cons] at this
      omega
    have hd := List.drop_eq_getElem_cons hkl
    rw [hk] at hd
    have he : e = s.en[k] := by injection hd
    have hl : s.en.drop (k + 1) = l := by injection hd with _ h2; exact h2.symm
    have hge : s.en[k]? = some e := by rw [he]; exact List.getElem?_eq_getElem hkl
    obtain ⟨c, e', c1, c2, c3⟩ := k_shAt1 (x := i32 k) h3 ⟨i_nn (by omega), by rw [z_nn (by omega)]; exact hkl⟩
    rw [z_nn (by omega), hge] at c1
    obtain rfl : e = e' := by simpa using c1
    have ag := k_agree hs h c3 (hs.2.2.2.1.2 e (List.mem_of_getElem? hge)) s.sg.length 10000 0 (by omega) (Nat.lt_of_lt_of_le (show s.sg.length < 10 by have := hs.2.2.2.2.1.1; omega) (Nat.le_of_ble_eq_true rfl)) (fun x hx => by simp at hx)
    have ag2 : f_Sights_agreeWith (some c) σ = some (if s.sg.all (agS e) then 1 else 0, σ) := ag
    have ek : i32 k + 1 = i32 (k + 1) := by rw [z1, z_add]
    rw [L_J_unseen_4, h3.2.1, if_neg (show ¬ (i32 s.en.length ≤ i32 k) by rw [z_le (by omega) (by omega)]; omega), c2, Option.bind_some]
    dsimp only [Option.elim]
    rw [ag2, Option.bind_some]
    dsimp only
    unfold B_J_unseen_45
    rw [ek]
    by_cases ha : s.sg.all (agS e) = true
    · rw [if_pos ha, if_neg (show ¬ ((1 : Int32) = 0) from by decide), ih F (k + 1) _ hl (by omega) (by omega)]
      rw [unL, if_pos ha]
    · rw [if_neg ha, if_pos rfl, ih F (k + 1) _ hl (by omega) (by omega)]
      rw [unL, if_neg ha, Int32.or_zero]
theorem k_unseen {σ : CS} {s : Sta} (hs : SOK s) (h : KA σ s) : KO σ (f_J_unseen σ) (aUnseen s) := by
  have hn := hs.2.2.2.1.1
  exact ⟨σ, ⟨rfl, rfl⟩, k_unseen_2 hs h s.en 10000 0 0 rfl (Nat.zero_le _) (Nat.lt_of_lt_of_le (show s.en.length < 10 by omega) (Nat.le_of_ble_eq_true rfl)), h⟩
end KTOP4
