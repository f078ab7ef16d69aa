section TOP13
/-- more laws -/
def lwLe (L M : Lw) : Prop := (∀ (k : Nat) (x : Option Tr), L.1[k]? = some x → M.1[k]? = some x) ∧ ∀ (k : Nat) (x : Tr), L.2[k]? = some x → M.2[k]? = some x
theorem hdS_le {L M : Lw} (h : lwLe L M) {Γ : List Tr} {c : Nat} {s : Tr} (e : hdS L Γ c = some s) : hdS M Γ c = some s := by
  unfold hdS at e ⊢
  by_cases h1 : 48 ≤ c ∧ c < 58
  · rw [if_pos h1] at e ⊢; exact e
  · rw [if_neg h1] at e ⊢
    by_cases h2 : 97 ≤ c
    · rw [if_pos h2] at e ⊢
      obtain ⟨a, ha, hb⟩ := Option.map_eq_some_iff.mp e
      rw [h.2 _ _ ha, ← hb]; rfl
    · rw [if_neg h2] at e; cases e
theorem HT_le {L M : Lw} (h : lwLe L M) : ∀ (t : Tr) (Γ : List Tr) (m : Bool) (s : Tr), HT L t Γ m s → HT M t Γ m s := by
  intro t
  induction t with
  | leaf c =>
    intro Γ m s ht
    simp only [HT] at ht ⊢
    rcases ht with ht | ht
    · exact Or.inl ht
    · exact Or.inr ⟨ht.1, hdS_le h ht.2⟩
  | branch c a b iha ihb =>
    intro Γ m s ht
    simp only [HT] at ht ⊢
    rcases ht with ⟨h1, h2, x, y, h3, h4, h5⟩ | ⟨h1, h2, h3, x, y, h4, h5, h6⟩ | ⟨h0, ⟨h1, x, h2, h3, h4⟩ | ⟨h1, h2, y, h3⟩ | ⟨h1, h2, x, h3⟩⟩
    · exact Or.inl ⟨h1, h2, x, y, h3, iha _ _ _ h4, ihb _ _ _ h5⟩
    · exact Or.inr (Or.inl ⟨h1, h2, h3, x, y, h4, h5, iha _ _ _ h6⟩)
    · exact Or.inr (Or.inr ⟨h0, Or.inl ⟨h1, x, h2, iha _ _ _ h3, ihb _ _ _ h4⟩⟩)
    · exact Or.inr (Or.inr ⟨h0, Or.inr (Or.inl ⟨h1, h2, y, iha _ _ _ h3⟩)⟩)
    · exact Or.inr (Or.inr ⟨h0, Or.inr (Or.inr ⟨h1, h2, x, iha _ _ _ h3⟩)⟩)
theorem WT_le {L M : Lw} (h : lwLe L M) : ∀ (T : Tr) (Γ : List Tr), WT L T Γ → WT M T Γ := by
  intro T
  induction T with
  | leaf s =>
    intro Γ ht
    simp only [WT] at ht ⊢
    rcases ht with ht | ⟨h1, h2⟩
    · exact Or.inl ht
    · exact Or.inr ⟨h1, h.1 _ _ h2⟩
  | branch s a b iha ihb =>
    intro Γ ht
    simp only [WT] at ht ⊢
    rcases ht with ⟨h1, h2, h3⟩ | ⟨h1, h2, h3, I, h4, h5, h6⟩
    · exact Or.inl ⟨h1, iha _ h2, ihb _ h3⟩
    · exact Or.inr ⟨h1, h2, h3, I, h.1 _ _ h4, h5, HT_le h _ _ _ _ h6⟩
theorem lw_fam {L : Lw} (h : lwOK L) (h3 : L.1.length < 3) {o : Option Tr} (ho : ∀ I, o = some I → WT L I [] ∧ dta (shp I) ∧ fits I 0) : lwOK (L.1 ++ [o], L.2) ∧ lwLe L (L.1 ++ [o], L.2) := by
  have hle : lwLe L (L.1 ++ [o], L.2) := ⟨fun k x hx => by
    have := (List.getElem?_eq_some_iff.mp hx).1
    show (L.1 ++ [o])[k]? = some x
    rw [List.getElem?_append_left this]; exact hx, fun k x hx => hx⟩
  refine ⟨⟨?_, h.2.1, fun k I hI => ?_, fun k T hT => ⟨WT_le hle _ _ (h.2.2.2 k T hT).1, (h.2.2.2 k T hT).2⟩⟩, hle⟩
  · show (L.1 ++ [o]).length ≤ 3
    rw [List.length_append, List.length_singleton]; omega
  · have hI' : (L.1 ++ [o])[k]? = some (some I) := hI
    by_cases hk : k < L.1.length
    · rw [List.getElem?_append_left hk] at hI'
      obtain ⟨a1, a2, a3⟩ := h.2.2.1 k I hI'
      exact ⟨WT_le hle _ _ a1, a2, a3⟩
    · have hlt := (List.getElem?_eq_some_iff.mp hI').1
      rw [List.length_append, List.length_singleton] at hlt
      obtain rfl : k = L.1.length := by omega
      rw [List.getElem?_append_right (Nat.le_refl _), Nat.sub_self] at hI'
      have e : o = some I := by simpa using hI'
      obtain ⟨a1, a2, a3⟩ := ho I e
      exact ⟨WT_le hle _ _ a1, a2, a3⟩
theorem lw_con {L : Lw} (h : lwOK L) (h4 : L.2.length < 4) {T : Tr} (hT : WT L T [] ∧ fits T 0) : lwOK (L.1, L.2 ++ [T]) ∧ lwLe L (L.1, L.2 ++ [T]) := by
  have hle : lwLe L (L.1, L.2 ++ [T]) := ⟨fun k x hx => hx, fun k x hx => by
    have := (List.getElem?_eq_some_iff.mp hx).1
    show (L.2 ++ [T])[k]? = some x
    rw [List.getElem?_append_left this]; exact hx⟩
  refine ⟨⟨h.1, ?_, fun k I hI => ⟨WT_le hle _ _ (h.2.2.1 k I hI).1, (h.2.2.1 k I hI).2⟩, fun k U hU => ?_⟩, hle⟩
  · show (L.2 ++ [T]).length ≤ 4
    rw [List.length_append, List.length_singleton]; omega
  · have hU' : (L.2 ++ [T])[k]? = some U := hU
    by_cases hk : k < L.2.length
    · rw [List.getElem?_append_left hk] at hU'
      obtain ⟨a1, a2⟩ := h.2.2.2 k U hU'
      exact ⟨WT_le hle _ _ a1, a2⟩
    · have hlt := (List.getElem?_eq_some_iff.mp hU').1
      rw [List.length_append, List.length_singleton] at hlt
      obtain rfl : k = L.2.length := by omega
      rw [List.getElem?_append_right (Nat.le_refl _), Nat.sub_self] at hU'
      have e : T = U := by simpa using hU'
      subst e
      exact ⟨WT_le hle _ _ hT.1, hT.2⟩
/-- one declaration -/
noncomputable def spD (tx : List Nat) (p : Nat) (L : Lw) : Except Nat (Lw × Nat) :=
  if byt tx p = 102 then (if L.1.length = 3 then .error p else if byt tx (p + 1) = 59 then .ok ((L.1 ++ [none], L.2), p + 1) else ((RD L [] tx 70).1 [] (p + 1)).bind fun a => if 80 ∈ enc a.1 then .error (p + 1) else .ok ((L.1 ++ [some a.1], L.2), a.2))
  else if byt tx p = 107 then (if L.2.length = 4 then .error p else ((RD L [] tx 70).1 [] (p + 1)).bind fun a => .ok ((L.1, L.2 ++ [a.1]), a.2))
  else .error p
/-- declarations from a place on, so many read before -/
noncomputable def spL (tx : List Nat) : Nat → Nat → Lw → Nat → Except Nat (Lw × Nat)
  | 0, _, _, _ => .error 0
  | f + 1, p, L, n => if tx.length ≤ p then .ok (L, n) else (spD tx p L).bind fun r => if byt tx r.2 = 59 then spL tx f (r.2 + 1) r.1 (n + 1) else .error r.2
theorem ents_nil (L : Lw) : ∀ e ∈ ([] : List (Tr × Tr)), entOK L e := fun e h => by simp at h
theorem okD {tx : List Nat} {p : Nat} {L : Lw} {r : Lw × Nat} (hL : lwOK L) (h : spD tx p L = .ok r) : lwOK r.1 ∧ p < r.2 ∧ r.2 ≤ tx.length := by
  have oT := (okRD (tx := tx) hL (ents_nil L) (Nat.zero_le _) 70).1
  unfold spD at h
  have l1 := hL.1
  have l2 := hL.2.1
  by_cases h1 : byt tx p = 102
  · rw [if_pos h1] at h
    by_cases h3 : L.1.length = 3
    · rw [if_pos h3] at h; cases h
    · rw [if_neg h3] at h
      by_cases h59 : byt tx (p + 1) = 59
      · rw [if_pos h59] at h
        injection h with h
        subst h
        have := byt_lt (tx := tx) (p := p + 1) (by omega)
        exact ⟨(lw_fam hL (by omega) (fun I hI => by cases hI)).1, by show p < p + 1; omega, by show p + 1 ≤ _; omega⟩
      · rw [if_neg h59] at h
        obtain ⟨a, ha, hb⟩ := eb_ok h
        obtain ⟨a1, a2, a3, a4⟩ := oT _ _ _ (vtOK_nil L) ha
        by_cases h80 : 80 ∈ enc a.1
        · rw [if_pos h80] at hb; cases hb
        · rw [if_neg h80] at hb
          injection hb with hb
          subst hb
          exact ⟨(lw_fam hL (by omega) (fun I hI => by injection hI with hI; subst hI; exact ⟨a1, data_of _ _ a1 h80, a2⟩)).1, by show p < a.2; omega, a4⟩
  · rw [if_neg h1] at h
    by_cases h2 : byt tx p = 107
    · rw [if_pos h2] at h
      by_cases h3 : L.2.length = 4
      · rw [if_pos h3] at h; cases h
      · rw [if_neg h3] at h
        obtain ⟨a, ha, hb⟩ := eb_ok h
        obtain ⟨a1, a2, a3, a4⟩ := oT _ _ _ (vtOK_nil L) ha
        injection hb with hb
        subst hb
        exact ⟨(lw_con hL (by omega) ⟨a1, a2⟩).1, by show p < a.2; omega, a4⟩
    · rw [if_neg h2] at h; cases h
theorem okL {tx : List Nat} : ∀ (f p : Nat) (L : Lw) (n : Nat) (r : Lw × Nat), lwOK L → p ≤ tx.length → spL tx f p L n = .ok r → lwOK r.1 ∧ r.2 ≤ n + (tx.length - p) := by
  intro f
  induction f with
  | zero => intro p L n r _ _ h; cases h
  | succ f ih =>
    intro p L n r hL hp h
    rw [spL] at h
    by_cases h1 : tx.length ≤ p
    · rw [if_pos h1] at h
      injection h with h
      subst h
      exact ⟨hL, by show n ≤ _; omega⟩
    · rw [if_neg h1] at h
      obtain ⟨a, ha, hb⟩ := eb_ok h
      obtain ⟨a1, a2, a3⟩ := okD hL ha
      by_cases h59 : byt tx a.2 = 59
      · rw [if_pos h59] at hb
        have := byt_lt (tx := tx) (p := a.2) (by omega)
        obtain ⟨b1, b2⟩ := ih _ _ _ _ a1 (by omega) hb
        exact ⟨b1, by omega⟩
      · rw [if_neg h59] at hb; cases hb
end TOP13
