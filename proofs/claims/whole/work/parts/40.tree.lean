/-- trees of signs: forms, types, shapes and values alike; a sign with one part has the empty tree .leaf 0 as its second -/
abbrev Tr : Type := Lean.RArray Nat
abbrev un (s : Nat) (a : Tr) : Tr := .branch s a (.leaf 0)
abbrev nm (k : Nat) : Tr := .leaf (48 + k)
/-- a tree as signs -/
def enc : Tr → List Nat
  | .leaf s => if s = 0 then [] else [s]
  | .branch s a b => s :: (enc a ++ enc b)
/-- the first component of a value -/
def fstV : Tr → Tr
  | .leaf s => un 60 (.leaf s)
  | .branch s a b => if s = 44 then a else un 60 (.branch s a b)
def sndV : Tr → Tr
  | .leaf s => un 62 (.leaf s)
  | .branch s a b => if s = 44 then b else un 62 (.branch s a b)
/-- a row of values (oldest first) as a tree, and back -/
def eL (ρ : List Tr) : Tr := ρ.foldl (fun e u => .branch 9 u e) (.leaf 0)
def dL : Tr → List Tr
  | .leaf _ => []
  | .branch _ u e => dL e ++ [u]
def lk (ρ : List Tr) (i : Nat) : Tr := ρ.getD i (.leaf 0)
theorem eL_snoc (ρ : List Tr) (u : Tr) : eL (ρ ++ [u]) = .branch 9 u (eL ρ) := by simp [eL]
theorem rev_ind {P : List Tr → Prop} (h0 : P []) (h1 : ∀ ρ u, P ρ → P (ρ ++ [u])) : ∀ ρ, P ρ := by
  intro ρ
  have h : ∀ n (ρ : List Tr), ρ.length = n → P ρ := by
    intro n
    induction n with
    | zero => intro ρ h; rw [List.length_eq_zero_iff.mp h]; exact h0
    | succ n ih =>
      intro ρ h
      have hne : ρ ≠ [] := by intro e; rw [e] at h; simp at h
      rw [← List.dropLast_concat_getLast hne]
      exact h1 _ _ (ih _ (by simp [h]))
  exact h _ ρ rfl
theorem dL_eL (ρ : List Tr) : dL (eL ρ) = ρ := by
  induction ρ using rev_ind with
  | h0 => rfl
  | h1 ρ u ih => rw [eL_snoc]; simp [dL, ih]
theorem lk_lt {ρ : List Tr} (u : Tr) {i : Nat} (h : i < ρ.length) : lk (ρ ++ [u]) i = lk ρ i := by
  simp [lk, List.getElem?_append_left h]
theorem lk_last (ρ : List Tr) (u : Tr) : lk (ρ ++ [u]) ρ.length = u := by simp [lk]
/-- evaluation where no function is applied -/
def evD : Tr → List Tr → Tr
  | .leaf s, ρ => if 48 ≤ s ∧ s < 58 then lk ρ (s - 48) else .leaf s
  | .branch s a b, ρ => if s = 92 then .branch 92 a (eL ρ) else if s = 60 then fstV (evD a ρ) else if s = 62 then sndV (evD a ρ) else .branch s (evD a ρ) (evD b ρ)
def gvD : Tr → Tr → Tr
  | .leaf s, u => .branch 46 (.leaf s) u
  | .branch s b e, u => if s = 92 then evD b (dL e ++ [u]) else .branch 46 (.branch s b e) u
/-- evaluation where functions are applied -/
def evA : Tr → List Tr → Tr
  | .leaf s, ρ => if 48 ≤ s ∧ s < 58 then lk ρ (s - 48) else .leaf s
  | .branch s a b, ρ => if s = 92 then .branch 92 a (eL ρ) else if s = 60 then fstV (evA a ρ) else if s = 62 then sndV (evA a ρ) else if s = 46 then gvD (evA a ρ) (evA b ρ) else .branch s (evA a ρ) (evA b ρ)
/-- the names below n -/
def idr (n : Nat) : List Tr := (List.range n).map nm
theorem idr_succ (n : Nat) : idr (n + 1) = idr n ++ [nm n] := by simp [idr, List.range_succ]
theorem idr_len (n : Nat) : (idr n).length = n := by simp [idr]
theorem lk_idr {n i : Nat} (h : i < n) : lk (idr n) i = nm i := by simp [lk, idr, h]
/-- what is declared: the families with their index types, the types of the constants -/
abbrev Lw : Type := List (Option Tr) × List Tr
/-- a type's shape: without the indices -/
def shp : Tr → Tr
  | .leaf s => .leaf s
  | .branch s a b => if s = 83 ∨ s = 80 then .branch s (shp a) (shp b) else .leaf s
/-- a shape of data -/
def dta : Tr → Prop
  | .leaf _ => True
  | .branch s a b => s = 83 ∧ dta a ∧ dta b
def fam (s : Tr) : Prop := ∃ f, s = .leaf f ∧ f ≠ 49
/-- the shape of a name or constant -/
def hdS (L : Lw) (Γ : List Tr) (c : Nat) : Option Tr := if 48 ≤ c ∧ c < 58 then Γ[c - 48]? else if 97 ≤ c then (L.2[c - 97]?).map shp else none
/-- a form (true: checked and long, false: what is left when a term is evaluated) of a shape -/
def HT (L : Lw) : Tr → List Tr → Bool → Tr → Prop
  | .leaf c, Γ, m, s => (m = true ∧ c = 42 ∧ s = .leaf 49) ∨ ((m = true → fam s) ∧ hdS L Γ c = some s)
  | .branch c a b, Γ, m, s =>
    (m = true ∧ c = 44 ∧ ∃ x y, s = .branch 83 x y ∧ HT L a Γ true x ∧ HT L b Γ true y)
    ∨ (m = true ∧ c = 92 ∧ b = .leaf 0 ∧ ∃ x y, s = .branch 80 x y ∧ dta x ∧ HT L a (Γ ++ [x]) true y)
    ∨ ((m = true → fam s) ∧
      ((c = 46 ∧ ∃ x, dta x ∧ HT L a Γ false (.branch 80 x s) ∧ HT L b Γ true x)
      ∨ (c = 60 ∧ b = .leaf 0 ∧ ∃ y, HT L a Γ false (.branch 83 s y))
      ∨ (c = 62 ∧ b = .leaf 0 ∧ ∃ x, HT L a Γ false (.branch 83 x s))))
/-- a type -/
def WT (L : Lw) : Tr → List Tr → Prop
  | .leaf s, _ => s = 49 ∨ (65 ≤ s ∧ L.1[s - 65]? = some none)
  | .branch s a b, Γ => ((s = 83 ∨ (s = 80 ∧ dta (shp a))) ∧ WT L a Γ ∧ WT L b (Γ ++ [shp a])) ∨ (65 ≤ s ∧ s ≤ 67 ∧ b = .leaf 0 ∧ ∃ I, L.1[s - 65]? = some (some I) ∧ dta (shp I) ∧ HT L a Γ true (shp I))
theorem HT_up {L : Lw} {t s : Tr} {Γ : List Tr} (h : HT L t Γ false s) (hf : fam s) : HT L t Γ true s := by
  cases t with
  | leaf c =>
    simp only [HT] at h ⊢
    rcases h with h | h
    · simp at h
    · exact Or.inr ⟨fun _ => hf, h.2⟩
  | branch c a b =>
    simp only [HT] at h ⊢
    rcases h with h | h | h
    · simp at h
    · simp at h
    · exact Or.inr (Or.inr ⟨fun _ => hf, h.2⟩)
theorem HT_down {L : Lw} {t s : Tr} {Γ : List Tr} (h : HT L t Γ true s) (hf : fam s) : HT L t Γ false s := by
  obtain ⟨f, rfl, hn⟩ := hf
  cases t with
  | leaf c =>
    simp only [HT] at h ⊢
    rcases h with h | h
    · obtain ⟨_, _, h⟩ := h
      injection h with h
      exact absurd h hn
    · exact Or.inr ⟨fun h => by simp at h, h.2⟩
  | branch c a b =>
    simp only [HT] at h ⊢
    rcases h with ⟨_, _, x, y, h, _⟩ | ⟨_, _, _, x, y, h, _⟩ | h
    · cases h
    · cases h
    · exact Or.inr (Or.inr ⟨fun h => by simp at h, h.2⟩)
theorem hdS_wk {L : Lw} {Γ : List Tr} {c : Nat} {s : Tr} (Δ : List Tr) (h : hdS L Γ c = some s) : hdS L (Γ ++ Δ) c = some s := by
  unfold hdS at h ⊢
  split at h
  · rename_i h1
    rw [if_pos h1]
    have := (List.getElem?_eq_some_iff.mp h).1
    rw [List.getElem?_append_left this]; exact h
  · rename_i h1
    rw [if_neg h1]; exact h
/-- what is of data, or left of a term, keeps its shape where more names are in force -/
theorem HT_wk {L : Lw} {Δ : List Tr} : ∀ (t : Tr) (Γ : List Tr) (m : Bool) (s : Tr), HT L t Γ m s → (m = true → dta s) → HT L t (Γ ++ Δ) m s := by
  intro t
  induction t with
  | leaf c =>
    intro Γ m s h hd
    simp only [HT] at h ⊢
    rcases h with h | h
    · exact Or.inl h
    · exact Or.inr ⟨h.1, hdS_wk Δ h.2⟩
  | branch c a b iha ihb =>
    intro Γ m s h hd
    simp only [HT] at h ⊢
    rcases h with ⟨h1, h2, x, y, h3, h4, h5⟩ | ⟨h1, h2, h3, x, y, h4, h5, h6⟩ | ⟨h0, h⟩
    · subst h3
      have hd' := hd h1
      exact Or.inl ⟨h1, h2, x, y, rfl, iha _ _ _ h4 (fun _ => hd'.2.1), ihb _ _ _ h5 (fun _ => hd'.2.2)⟩
    · subst h4
      have hd' := hd h1
      simp [dta] at hd'
    · refine Or.inr (Or.inr ⟨h0, ?_⟩)
      rcases h with ⟨h1, x, h2, h3, h4⟩ | ⟨h1, h2, y, h3⟩ | ⟨h1, h2, y, h3⟩
      · exact Or.inl ⟨h1, x, h2, iha _ _ _ h3 (fun h => by simp at h), ihb _ _ _ h4 (fun _ => h2)⟩
      · exact Or.inr (Or.inl ⟨h1, h2, y, iha _ _ _ h3 (fun h => by simp at h)⟩)
      · exact Or.inr (Or.inr ⟨h1, h2, y, iha _ _ _ h3 (fun h => by simp at h)⟩)
