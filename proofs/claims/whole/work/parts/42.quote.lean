section QUOTE
variable {L : Lw} {N : List Tr}
theorem EF_wk {Δ : List Tr} : ∀ (s v : Tr), EF L N s v → EF L (N ++ Δ) s v := by
  intro s
  induction s with
  | leaf f =>
    intro v h
    rcases h with h | h
    · exact Or.inl h
    · exact Or.inr (HT_wk _ _ _ _ h (fun h => by simp at h))
  | branch s x y ihx ihy =>
    intro v h
    rcases h with ⟨h1, a, b, h2, h3, h4⟩ | h
    · exact Or.inl ⟨h1, a, b, h2, ihx _ h3, ihy _ h4⟩
    · exact Or.inr (HT_wk _ _ _ _ h (fun h => by simp at h))
theorem enE_wk {ρ Γ : List Tr} (Δ : List Tr) (h : enE L N ρ Γ) : enE L (N ++ Δ) ρ Γ := ⟨h.1, fun i s hs => EF_wk _ _ (h.2 i s hs)⟩
theorem clo_wk {v x y : Tr} (Δ : List Tr) (h : clo L N v x y) : clo L (N ++ Δ) v x y := by
  obtain ⟨b, ρ, Γ, h0, h1, h2, h3⟩ := h
  exact ⟨b, ρ, Γ, h0, enE_wk Δ h1, h2, h3⟩
theorem EV_wk {Δ : List Tr} : ∀ (s v : Tr), EV L N s v → EV L (N ++ Δ) s v := by
  intro s
  induction s with
  | leaf f =>
    intro v h
    rcases h with h | h
    · exact Or.inl h
    · exact Or.inr (HT_wk _ _ _ _ h (fun h => by simp at h))
  | branch s x y ihx ihy =>
    intro v h
    rcases h with ⟨h1, a, b, h2, h3, h4⟩ | h | h
    · exact Or.inl ⟨h1, a, b, h2, ihx _ h3, ihy _ h4⟩
    · exact Or.inr (Or.inl ⟨h.1, clo_wk Δ h.2⟩)
    · exact Or.inr (Or.inr (HT_wk _ _ _ _ h (fun h => by simp at h)))
theorem enV_wk {ρ Γ : List Tr} (Δ : List Tr) (h : enV L N ρ Γ) : enV L (N ++ Δ) ρ Γ := ⟨h.1, fun i s hs => EV_wk _ _ (h.2 i s hs)⟩
theorem RV_wk {Δ : List Tr} : ∀ (s v : Tr), RV L N s v → RV L (N ++ Δ) s v := by
  intro s
  induction s with
  | leaf f =>
    intro v h
    exact ⟨h.1, fun hf => HT_wk _ _ _ _ (h.2 hf) (fun h => by simp at h)⟩
  | branch s x y ihx ihy =>
    intro v h
    rcases h with ⟨h1, a, b, h2, h3, h4⟩ | h
    · exact Or.inl ⟨h1, a, b, h2, ihx _ h3, ihy _ h4⟩
    · exact Or.inr ⟨h.1, clo_wk Δ h.2⟩
/-- the normal form of a long value of a shape, n names being in force -/
def qs : Tr → Tr → Nat → Tr
  | .leaf _, v, _ => v
  | .branch s x y, v, n => if s = 83 then .branch 44 (qs x (fstV v) n) (qs y (sndV v) n) else un 92 (qs y (gvD v (nm n)) (n + 1))
/-- no eleventh name comes in force -/
def dp : Tr → Nat → Prop
  | .leaf _, _ => True
  | .branch s a b, n => if s = 92 then n < 10 ∧ dp a (n + 1) else if s = 83 ∨ s = 80 then dp a n ∧ n < 10 ∧ dp b (n + 1) else dp a n ∧ dp b n
theorem dp_HT : ∀ (t : Tr) (Γ : List Tr) (m : Bool) (s : Tr) (n : Nat), HT L t Γ m s → (m = true → dta s) → dp t n := by
  intro t
  induction t with
  | leaf c => intro Γ m s n _ _; trivial
  | branch c a b iha ihb =>
    intro Γ m s n h hd
    simp only [HT] at h
    rcases h with ⟨h1, h2, x, y, h3, h4, h5⟩ | ⟨h1, h2, h3, x, y, h4, h5, h6⟩ | ⟨h0, h⟩
    · subst h2 h3
      have hd' := hd h1
      simp only [dp]
      exact ⟨iha _ _ _ n h4 (fun _ => hd'.2.1), ihb _ _ _ n h5 (fun _ => hd'.2.2)⟩
    · subst h4
      exact absurd (hd h1).1 (by decide)
    · rcases h with ⟨h1, x, h2, h3, h4⟩ | ⟨h1, h2, y, h3⟩ | ⟨h1, h2, y, h3⟩
      · subst h1
        simp only [dp]
        exact ⟨iha _ _ _ n h3 (fun h => by simp at h), ihb _ _ _ n h4 (fun _ => h2)⟩
      · subst h1 h2
        simp only [dp]
        exact ⟨iha _ _ _ n h3 (fun h => by simp at h), trivial⟩
      · subst h1 h2
        simp only [dp]
        exact ⟨iha _ _ _ n h3 (fun h => by simp at h), trivial⟩
theorem HT_nm {n : Nat} {x : Tr} (hN : N.length = n) (hn : n < 10) : HT L (nm n) (N ++ [x]) false x := by
  rw [HT.eq_1]
  refine Or.inr ⟨fun h => by simp at h, ?_⟩
  unfold hdS
  rw [if_pos ⟨by omega, by omega⟩, show 48 + n - 48 = n by omega, ← hN]
  simp
theorem HT_nmi {i : Nat} {x : Tr} (h : N[i]? = some x) (hn : i < 10) : HT L (nm i) N false x := by
  rw [HT.eq_1]
  refine Or.inr ⟨fun h => by simp at h, ?_⟩
  unfold hdS
  rw [if_pos ⟨by omega, by omega⟩, show 48 + i - 48 = i by omega]
  exact h
theorem qs_HT : ∀ (s v : Tr) (n : Nat) (N : List Tr), N.length = n → RV L N s v → dp (qs s v n) n → HT L (qs s v n) N true s := by
  intro s
  induction s with
  | leaf f =>
    intro v n N hN h _
    exact RV_HT _ _ trivial h
  | branch s x y ihx ihy =>
    intro v n N hN h hd
    rcases h with ⟨h1, a, b, h2, h3, h4⟩ | ⟨h1, h2⟩
    · subst h1 h2
      simp only [qs, if_true, dp] at hd ⊢
      simp only [fstV, sndV, if_true] at hd ⊢
      rw [HT.eq_2]
      exact Or.inl ⟨rfl, rfl, x, y, rfl, ihx _ _ _ hN h3 hd.1, ihy _ _ _ hN h4 hd.2⟩
    · subst h1
      simp only [qs, show ¬ (80 = 83) by decide, if_false, un, dp, if_true] at hd ⊢
      rw [HT.eq_2]
      have hx : dta x := by obtain ⟨_, _, _, _, _, h, _⟩ := h2; exact h
      refine Or.inr (Or.inl ⟨rfl, rfl, rfl, x, y, rfl, hx, ?_⟩)
      exact ihy _ _ _ (by simp [hN]) (clo_gv (clo_wk [x] h2) (HT_EF (HT_nm hN hd.1))) hd.2
theorem qs_dta : ∀ (s v : Tr) (n : Nat), dta s → RV L N s v → qs s v n = v := by
  intro s
  induction s with
  | leaf f => intro v n _ _; rfl
  | branch s x y ihx ihy =>
    intro v n hd h
    rcases h with ⟨h1, a, b, h2, h3, h4⟩ | h
    · subst h1 h2
      simp only [qs, if_true, fstV, sndV]
      rw [ihx _ n hd.2.1 h3, ihy _ n hd.2.2 h4]
    · exact absurd (hd.1.symm.trans h.1) (by decide)
theorem enE_id (h : N.length ≤ 10) : enE L N (idr N.length) N := by
  refine ⟨idr_len _, fun i s hs => ?_⟩
  have hi := (List.getElem?_eq_some_iff.mp hs).1
  rw [lk_idr hi]
  exact HT_EF (HT_nmi hs (by omega))
/-- what is data, or left, stands for itself -/
theorem evD_id : ∀ (t : Tr) (Γ : List Tr) (m : Bool) (s : Tr), HT L t Γ m s → (m = true → dta s) → evD t (idr Γ.length) = t := by
  intro t
  induction t with
  | leaf c =>
    intro Γ m s h _
    simp only [HT] at h
    rcases h with ⟨h1, h2, h3⟩ | ⟨h1, h2⟩
    · subst h2; rfl
    · unfold hdS at h2
      split at h2
      · rename_i h3
        have := (List.getElem?_eq_some_iff.mp h2).1
        simp only [evD, if_pos h3]
        rw [lk_idr this, show nm (c - 48) = .leaf (48 + (c - 48)) from rfl, show 48 + (c - 48) = c by omega]
      · rename_i h3
        simp only [evD, if_neg h3]
  | branch c a b iha ihb =>
    intro Γ m s h hd
    simp only [HT] at h
    rcases h with ⟨h1, h2, x, y, h3, h4, h5⟩ | ⟨h1, h2, h3, x, y, h4, h5, h6⟩ | ⟨h0, h⟩
    · subst h2 h3
      have hd' := hd h1
      simp only [evD]
      rw [iha _ _ _ h4 (fun _ => hd'.2.1), ihb _ _ _ h5 (fun _ => hd'.2.2)]
      simp
    · subst h4
      exact absurd (hd h1).1 (by decide)
    · rcases h with ⟨h1, x, h2, h3, h4⟩ | ⟨h1, h2, y, h3⟩ | ⟨h1, h2, y, h3⟩
      · subst h1
        simp only [evD]
        rw [iha _ _ _ h3 (fun h => by simp at h), ihb _ _ _ h4 (fun _ => h2)]
        simp
      · subst h1 h2
        simp only [evD]
        rw [iha _ _ _ h3 (fun h => by simp at h), fstV_ne h3]
        simp
      · subst h1 h2
        simp only [evD]
        rw [iha _ _ _ h3 (fun h => by simp at h), sndV_ne h3]
        simp
/-- a form is its own normal form -/
theorem qs_id : ∀ (t : Tr) (Γ : List Tr) (s : Tr) (n : Nat), Γ.length = n → HT L t Γ true s → qs s (evD t (idr n)) n = t := by
  intro t
  induction t with
  | leaf c =>
    intro Γ s n hn h
    have h' := h
    simp only [HT] at h
    rcases h with ⟨h1, h2, h3⟩ | ⟨h1, h2⟩
    · subst h2 h3; rfl
    · obtain ⟨f, rfl, hf⟩ := h1 (by trivial)
      subst hn
      exact evD_id _ _ _ _ h' (fun _ => trivial)
  | branch c a b iha ihb =>
    intro Γ s n hn h
    have h' := h
    simp only [HT] at h
    rcases h with ⟨h1, h2, x, y, h3, h4, h5⟩ | ⟨h1, h2, h3, x, y, h4, h5, h6⟩ | ⟨h0, h⟩
    · subst h2 h3
      simp only [evD, show ¬ (44 = 92) by decide, show ¬ (44 = 60) by decide, show ¬ (44 = 62) by decide, if_false, qs, if_true, fstV, sndV]
      rw [iha _ _ _ hn h4, ihb _ _ _ hn h5]
    · subst h2 h3 h4
      simp only [evD, if_true, qs, show ¬ (80 = 83) by decide, if_false, gvD, dL_eL]
      rw [← idr_succ, iha _ _ _ (by simp [hn]) h6]
    · obtain ⟨f, rfl, hf⟩ := h0 (by trivial)
      subst hn
      exact evD_id _ _ _ _ h' (fun _ => trivial)
end QUOTE
