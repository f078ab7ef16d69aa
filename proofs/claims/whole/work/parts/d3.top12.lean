section TOP12
/-- an entry agrees with a sight -/
def agS (e : Tr × Tr) (x : Nat × (Tr × Tr)) : Bool := lkA e x.2 == x.1
def unL (sg : List (Nat × (Tr × Tr))) : Ens → Int32 → Nat → Int32
  | [], b, _ => b
  | e :: l, b, k => unL sg l (b ||| (if sg.all (agS e) then (1 : Int32) <<< (i32 k &&& 31) else 0)) (k + 1)
def aUnseen (s : Sta) : Int32 × Sta := (unL s.sg s.en 0 0, s)
theorem lkA_le (x y : Tr × Tr) : lkA x y ≤ 2 := by
  unfold lkA
  split
  · split <;> omega
  · omega
theorem m_unseen_1 {s : Sta} {σ : MS} (hs : SOK s) (h : MA σ s) (K : Int32 → Int32 → MS → Option (Int32 × MS)) (b : Int32) {k : Nat} {e : Tr × Tr} (he : s.en[k]? = some e) : ∀ (d F i : Nat) (ok : Bool), i + d = s.sg.length → d < F → (∀ x ∈ s.sg.take i, ok = true → agS e x = true) → (ok = false → ∃ x ∈ s.sg.take i, agS e x = false) → L_unseen_17 K F b (i32 k) (if ok then 1 else 0) (i32 i) σ = K (b ||| (if s.sg.all (agS e) then (1 : Int32) <<< (i32 k &&& 31) else 0)) (i32 (k + 1)) σ := by
  obtain ⟨h1, h2, h3, h4, h5, h6, h7⟩ := id h
  have hE := hs.2.2.2.1
  have hS := hs.2.2.2.2.1
  have hn := hE.1
  have hm := hS.1
  have hk := (List.getElem?_eq_some_iff.mp he).1
  have heo := hE.2 e (List.mem_of_getElem? he)
  intro d
  induction d with
  | zero =>
    intro F i ok hi hF o1 o2
    obtain ⟨F, rfl⟩ : ∃ F', F = F' + 1 := ⟨F - 1, by omega⟩
    obtain rfl : i = s.sg.length := by omega
    rw [List.take_of_length_le (Nat.le_refl _)] at o1 o2
    rw [L_unseen_17, h5.1, if_pos (Int32.le_refl _)]
    unfold B_unseen_85
    cases ok with
    | true =>
      have ha : s.sg.all (agS e) = true := by rw [List.all_eq_true]; exact fun x hx => o1 x hx rfl
      rw [if_pos rfl, if_neg (show ¬ ((1 : Int32) = 0) from by decide), ha, if_pos rfl, z1, z_add]
    | false =>
      have ha : s.sg.all (agS e) = false := by
        rw [List.all_eq_false]
        obtain ⟨x, hx, hy⟩ := o2 rfl
        exact ⟨x, hx, by rw [hy]; decide⟩
      rw [if_neg (show ¬ (false = true) by decide), if_pos rfl, ha, if_neg (show ¬ (false = true) by decide), z1, z_add]
  | succ d ih =>
    intro F i ok hi hF o1 o2
    obtain ⟨F, rfl⟩ : ∃ F', F = F' + 1 := ⟨F - 1, by omega⟩
    have hil : i < s.sg.length := by omega
    have hg : s.sg[i]? = some s.sg[i] := List.getElem?_eq_getElem hil
    have htk : s.sg.take (i + 1) = s.sg.take i ++ [s.sg[i]] := by rw [List.take_succ, hg]; rfl
    rw [L_unseen_17, h5.1, if_neg (show ¬ (i32 s.sg.length ≤ i32 i) by rw [z_le (by omega) (by omega)]; omega)]
    unfold B_unseen_65 B_unseen_66
    cases ok with
    | false =>
      rw [if_neg (show ¬ (false = true) by decide), if_pos rfl, z1, z_add]
      have := ih F (i + 1) false (by omega) (by omega) (fun x _ hh => by cases hh) (fun _ => by
        obtain ⟨x, hx, hy⟩ := o2 rfl
        exact ⟨x, by rw [htk]; exact List.mem_append_left _ hx, hy⟩)
      rw [if_neg (show ¬ (false = true) by decide)] at this
      exact this
    | true =>
      have hso := hS.2 _ (List.getElem_mem hil)
      obtain ⟨g0, g1, g2⟩ := h5.2 i _ hg
      obtain ⟨n1, n2⟩ := ent_ln heo
      rw [if_pos rfl, if_neg (show ¬ ((1 : Int32) = 0) from by decide), show (357 : Int32) + 102 * i32 k = i32 (357 + 102 * k) by simp only [z357, z102, z_mul, z_add], show (1326 : Int32) + 102 * i32 i = i32 (1326 + 102 * i) by simp only [z1326, z102, z_mul, z_add], m_likeOf (MA_pr hs h heo) (MA_pr hs h hso.2) (h3.2 k _ he) ⟨g1, g2⟩ (ent_ln heo) (ent_ln hso.2) (by omega) (by omega), Option.bind_some]
      dsimp only
      rw [if_pos (c_ix (show i < aln 4 from Nat.lt_of_lt_of_le (show i < 4 by omega) (Nat.le_refl _)) (by omega)), z_nn (by omega), g0]
      have hlk := lkA_le e s.sg[i].2
      by_cases hc : lkA e s.sg[i].2 = s.sg[i].1
      · rw [if_pos (show i32 (lkA e s.sg[i].2) = i32 s.sg[i].1 by rw [hc]), z1, z_add]
        have := ih F (i + 1) true (by omega) (by omega) (fun x hx _ => by
          rw [htk] at hx
          rcases List.mem_append.mp hx with hx | hx
          · exact o1 x hx rfl
          · obtain rfl := List.mem_singleton.mp hx
            unfold agS
            rw [hc]; exact beq_self_eq_true _) (fun hh => by cases hh)
        rw [if_pos rfl] at this
        exact this
      · rw [if_neg (c_eq hc (by omega) (by omega)), z1, z_add]
        have := ih F (i + 1) false (by omega) (by omega) (fun x _ hh => by cases hh) (fun _ => ⟨s.sg[i], by rw [htk]; exact List.mem_append_right _ (List.mem_singleton.mpr rfl), by unfold agS; exact beq_false_of_ne hc⟩)
        rw [if_neg (show ¬ (false = true) by decide)] at this
        exact this
theorem m_unseen_2 {s : Sta} {σ : MS} (hs : SOK s) (h : MA σ s) : ∀ (l : Ens) (F k : Nat) (b : Int32), s.en.drop k = l → k ≤ s.en.length → l.length < F → L_unseen_4 F b (i32 k) σ = some (unL s.sg l b k, σ) := by
  have hn := hs.2.2.2.1.1
  intro l
  induction l with
  | nil =>
    intro F k b hk hk2 hF
    obtain ⟨F, rfl⟩ : ∃ F', F = F' + 1 := ⟨F - 1, by omega⟩
    have hkl := List.drop_eq_nil_iff.mp hk
    rw [L_unseen_4, h.2.2.1.1, if_pos (show i32 s.en.length ≤ i32 k by rw [z_le (by omega) (by omega)]; exact hkl)]
    rfl
  | cons e l ih =>
    intro F k b hk hk2 hF
    obtain ⟨F, rfl⟩ : ∃ F', F = F' + 1 := ⟨F - 1, by omega⟩
    rw [List.length_cons] at hF
    have hkl : k < s.en.length := by
      have := congrArg List.length hk
      rw [List.length_drop, List.length_cons] at this
      omega
    have hd := List.drop_eq_getElem_cons hkl
    rw [hk] at hd
    have he : e = s.en[k] := by injection hd
    have hl : s.en.drop (k + 1) = l := by injection hd with _ h2; exact h2.symm
    rw [L_unseen_4, h.2.2.1.1, if_neg (show ¬ (i32 s.en.length ≤ i32 k) by rw [z_le (by omega) (by omega)]; omega)]
    have := m_unseen_1 hs h (L_unseen_4 F) b (show s.en[k]? = some e by rw [he]; exact List.getElem?_eq_getElem hkl) s.sg.length 10000 0 true (by omega) (Nat.lt_of_lt_of_le (show s.sg.length < 10 by have := hs.2.2.2.2.1.1; omega) (Nat.le_of_ble_eq_true rfl)) (fun x hx => by simp at hx) (fun hh => by cases hh)
    rw [if_pos rfl] at this
    refine Eq.trans this ?_
    rw [ih F (k + 1) _ hl (by omega) (by omega)]
    rfl
theorem m_unseen {σ : MS} {s : Sta} (hs : SOK s) (h : MA σ s) : MO (f_unseen σ) (aUnseen s) := by
  have hn := hs.2.2.2.1.1
  exact ⟨σ, m_unseen_2 hs h s.en 10000 0 0 rfl (Nat.zero_le _) (Nat.lt_of_lt_of_le (show s.en.length < 10 by omega) (Nat.le_of_ble_eq_true rfl)), h⟩
end TOP12
