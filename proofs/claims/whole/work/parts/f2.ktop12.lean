section KTOP12
theorem ensOK_er {L : Lw} {l : Ens} (h : ensOK L l) (w : Nat) : ensOK L (l.eraseIdx w) := ⟨by have := h.1; rw [List.length_eraseIdx]; split <;> omega, fun e he => h.2 e (List.mem_of_mem_eraseIdx he)⟩
theorem un_ok {L : Lw} {en : Ens} {un : List Ens} (he : ensOK L en) (h : un.length ≤ 8 ∧ ∀ l ∈ un, ensOK L l) : ((en :: un).take 8).length ≤ 8 ∧ ∀ l ∈ (en :: un).take 8, ensOK L l := by
  refine ⟨by rw [List.length_take]; omega, fun l hl => ?_⟩
  rcases List.mem_cons.mp (List.mem_of_mem_take hl) with rfl | hl
  · exact he
  · exact h.2 l hl
theorem s_type {s : Sta} (h : SOK s) (x : Int32) : SOK (aType x s).2 := by
  unfold aType
  by_cases hx : inR x 256
  · rw [if_pos hx]
    by_cases h32 : s.tx.length = 32
    · rw [if_pos h32]; exact h
    · rw [if_neg h32]
      have h1 := h.1
      refine ⟨?_, fun y hy => ?_, h.2.2⟩
      · show (s.tx ++ [x.toNatClampNeg]).length ≤ 32
        rw [List.length_append, List.length_singleton]; omega
      · have hy' : y ∈ s.tx ++ [x.toNatClampNeg] := hy
        rcases List.mem_append.mp hy' with hy' | hy'
        · exact h.2.1 y hy'
        · obtain rfl := List.mem_singleton.mp hy'
          exact hx.2
  · rw [if_neg hx]; exact h
theorem s_nil {s : Sta} (h : SOK s) : SOK ([], s.2) := ⟨Nat.zero_le _, fun x hx => absurd hx List.not_mem_nil, h.2.2⟩
theorem s_clear {s : Sta} (h : SOK s) : SOK (aClear s).2 := s_nil h
theorem s_forget {s : Sta} (h : SOK s) : SOK (aForget s).2 := ⟨h.1, h.2.1, h.2.2.1, h.2.2.2.1, ⟨Nat.zero_le _, fun x hx => absurd hx List.not_mem_nil⟩, h.2.2.2.2.2⟩
theorem s_drops {s : Sta} (h : SOK s) (x : Int32) : SOK (aDrops x s).2 := by
  unfold aDrops
  by_cases hx : inR x s.en.length
  · rw [if_pos hx]
    exact ⟨h.1, h.2.1, h.2.2.1, ensOK_er h.2.2.2.1 _, h.2.2.2.2.1, un_ok h.2.2.2.1 h.2.2.2.2.2.1, h.2.2.2.2.2.2⟩
  · rw [if_neg hx]; exact h
theorem s_undo {s : Sta} (h : SOK s) : SOK (aUndo s).2 := by
  unfold aUndo
  have hu := h.2.2.2.2.2.1
  cases e : s.un with
  | nil => exact h
  | cons p r =>
    rw [e] at hu
    rw [List.length_cons] at hu
    exact ⟨h.1, h.2.1, h.2.2.1, hu.2 p (List.mem_cons_self ..), h.2.2.2.2.1, ⟨by show r.length ≤ 8; omega, fun l hl => hu.2 l (List.mem_cons_of_mem _ hl)⟩, h.2.2.2.2.2.2⟩
theorem s_enters {s : Sta} (h : SOK s) : SOK (aEnters s).2 := by
  unfold aEnters
  by_cases h6 : s.en.length = 6
  · rw [if_pos h6]; exact h
  · rw [if_neg h6]
    have hE := h.2.2.2.1
    have hn := hE.1
    cases hsp : spG s.L s.en s.tx false with
    | error e => exact h
    | ok y =>
      have ho := (okG (SOK_WL h) hsp).1
      refine ⟨Nat.zero_le _, fun x hx => absurd hx List.not_mem_nil, h.2.2.1, ⟨?_, fun e he => ?_⟩, h.2.2.2.2.1, un_ok hE h.2.2.2.2.2.1, h.2.2.2.2.2.2⟩
      · show (s.en ++ [(y.1, y.2.1)]).length ≤ 6
        rw [List.length_append, List.length_singleton]; omega
      · have he' : e ∈ s.en ++ [(y.1, y.2.1)] := he
        rcases List.mem_append.mp he' with he' | he'
        · exact hE.2 e he'
        · obtain rfl := List.mem_singleton.mp he'
          exact ho
theorem s_sees {s : Sta} (h : SOK s) (x : Int32) : SOK (aSees x s).2 := by
  unfold aSees
  by_cases hx : inR x 3
  · rw [if_pos hx]
    by_cases h6 : s.sg.length = 4
    · rw [if_pos h6]; exact h
    · rw [if_neg h6]
      have hS := h.2.2.2.2.1
      have hn := hS.1
      cases hsp : spG s.L s.en s.tx false with
      | error e => exact h
      | ok y =>
        have ho := (okG (SOK_WL h) hsp).1
        refine ⟨Nat.zero_le _, fun x hx => absurd hx List.not_mem_nil, h.2.2.1, h.2.2.2.1, ⟨?_, fun e he => ?_⟩, h.2.2.2.2.2⟩
        · show (s.sg ++ [(x.toNatClampNeg, (y.1, y.2.1))]).length ≤ 4
          rw [List.length_append, List.length_singleton]; omega
        · have he' : e ∈ s.sg ++ [(x.toNatClampNeg, (y.1, y.2.1))] := he
          rcases List.mem_append.mp he' with he' | he'
          · exact hS.2 e he'
          · obtain rfl := List.mem_singleton.mp he'
            exact ⟨by have := hx.2; show x.toNatClampNeg ≤ 2; omega, ho⟩
  · rw [if_neg hx]; exact h
theorem s_keep {s : Sta} (h : SOK s) (x : Int32) : SOK (aKeep x s).2 := by
  unfold aKeep setIm
  by_cases hx : inR x 2
  · rw [if_pos hx]
    have hE := h.2.2.2.1
    by_cases hw : x.toNatClampNeg = 0
    · rw [if_pos hw]
      exact ⟨h.1, h.2.1, h.2.2.1, hE, h.2.2.2.2.1, h.2.2.2.2.2.1, fun l hl => by injection hl with hl; rw [← hl]; exact hE, h.2.2.2.2.2.2.2⟩
    · rw [if_neg hw]
      exact ⟨h.1, h.2.1, h.2.2.1, hE, h.2.2.2.2.1, h.2.2.2.2.2.1, h.2.2.2.2.2.2.1, fun l hl => by injection hl with hl; rw [← hl]; exact hE⟩
  · rw [if_neg hx]; exact h
theorem s_back {s : Sta} (h : SOK s) (x : Int32) : SOK (aBack x s).2 := by
  unfold aBack
  by_cases hx : inR x 2
  · rw [if_pos hx]
    cases hg : getIm s.im x.toNatClampNeg with
    | none => exact h
    | some l => exact ⟨h.1, h.2.1, h.2.2.1, SOK_im h hg, h.2.2.2.2.1, ⟨Nat.zero_le _, fun l hl => absurd hl List.not_mem_nil⟩, h.2.2.2.2.2.2⟩
  · rw [if_neg hx]; exact h
theorem s_laws {s : Sta} (h : SOK s) : SOK (aLaws s).2 := by
  unfold aLaws
  cases hsp : spL s.tx 40 0 ([], []) 0 with
  | error e => exact h
  | ok y =>
    have ho := okL 40 0 ([], []) 0 y lwOK_nil (Nat.zero_le _) hsp
    show SOK ([], y.1, [], [], [], (none, none))
    exact ⟨Nat.zero_le _, fun x hx => absurd hx List.not_mem_nil, ho.1, ⟨Nat.zero_le _, fun x hx => absurd hx List.not_mem_nil⟩, ⟨Nat.zero_le _, fun x hx => absurd hx List.not_mem_nil⟩, ⟨Nat.zero_le _, fun x hx => absurd hx List.not_mem_nil⟩, fun l hl => (by cases hl), fun l hl => (by cases hl)⟩
end KTOP12
