section EVAL
variable {L : Lw} {N : List Tr}
/-- a value without functions that a form can take apart, by its shape -/
def EF (L : Lw) (N : List Tr) : Tr → Tr → Prop
  | .leaf f, v => (f = 49 ∧ v = .leaf 42) ∨ HT L v N false (.leaf f)
  | .branch s x y, v => (s = 83 ∧ ∃ a b, v = .branch 44 a b ∧ EF L N x a ∧ EF L N y b) ∨ HT L v N false (.branch s x y)
def enE (L : Lw) (N ρ Γ : List Tr) : Prop := ρ.length = Γ.length ∧ ∀ (i : Nat) (s : Tr), Γ[i]? = some s → EF L N s (lk ρ i)
/-- a function as a value -/
def clo (L : Lw) (N : List Tr) (v x y : Tr) : Prop := ∃ b ρ Γ, v = .branch 92 b (eL ρ) ∧ enE L N ρ Γ ∧ dta x ∧ HT L b (Γ ++ [x]) true y
/-- a value that a form can take apart -/
def EV (L : Lw) (N : List Tr) : Tr → Tr → Prop
  | .leaf f, v => (f = 49 ∧ v = .leaf 42) ∨ HT L v N false (.leaf f)
  | .branch s x y, v => (s = 83 ∧ ∃ a b, v = .branch 44 a b ∧ EV L N x a ∧ EV L N y b) ∨ (s = 80 ∧ clo L N v x y) ∨ HT L v N false (.branch s x y)
/-- a long value -/
def RV (L : Lw) (N : List Tr) : Tr → Tr → Prop
  | .leaf f, v => (f = 49 → v = .leaf 42) ∧ (f ≠ 49 → HT L v N false (.leaf f))
  | .branch s x y, v => (s = 83 ∧ ∃ a b, v = .branch 44 a b ∧ RV L N x a ∧ RV L N y b) ∨ (s = 80 ∧ clo L N v x y)
def enV (L : Lw) (N ρ Γ : List Tr) : Prop := ρ.length = Γ.length ∧ ∀ (i : Nat) (s : Tr), Γ[i]? = some s → EV L N s (lk ρ i)
theorem HT_EF : ∀ {s v : Tr}, HT L v N false s → EF L N s v := by
  intro s v h
  cases s with
  | leaf f => exact Or.inr h
  | branch s x y => exact Or.inr h
theorem EF_EV : ∀ (s v : Tr), EF L N s v → EV L N s v := by
  intro s
  induction s with
  | leaf f => intro v h; exact h
  | branch s x y ihx ihy =>
    intro v h
    rcases h with ⟨h1, a, b, h2, h3, h4⟩ | h
    · exact Or.inl ⟨h1, a, b, h2, ihx _ h3, ihy _ h4⟩
    · exact Or.inr (Or.inr h)
theorem RV_EV : ∀ (s v : Tr), RV L N s v → EV L N s v := by
  intro s
  induction s with
  | leaf f =>
    intro v h
    by_cases hf : f = 49
    · exact Or.inl ⟨hf, h.1 hf⟩
    · exact Or.inr (h.2 hf)
  | branch s x y ihx ihy =>
    intro v h
    rcases h with ⟨h1, a, b, h2, h3, h4⟩ | h
    · exact Or.inl ⟨h1, a, b, h2, ihx _ h3, ihy _ h4⟩
    · exact Or.inr (Or.inl h)
theorem RV_EF : ∀ (s v : Tr), dta s → RV L N s v → EF L N s v := by
  intro s
  induction s with
  | leaf f =>
    intro v _ h
    by_cases hf : f = 49
    · exact Or.inl ⟨hf, h.1 hf⟩
    · exact Or.inr (h.2 hf)
  | branch s x y ihx ihy =>
    intro v hd h
    rcases h with ⟨h1, a, b, h2, h3, h4⟩ | h
    · exact Or.inl ⟨h1, a, b, h2, ihx _ hd.2.1 h3, ihy _ hd.2.2 h4⟩
    · exact absurd (hd.1.symm.trans h.1) (by decide)
theorem RV_HT : ∀ (s v : Tr), dta s → RV L N s v → HT L v N true s := by
  intro s
  induction s with
  | leaf f =>
    intro v _ h
    by_cases hf : f = 49
    · rw [h.1 hf, hf, HT.eq_1]; exact Or.inl ⟨rfl, rfl, rfl⟩
    · exact HT_up (h.2 hf) ⟨f, rfl, hf⟩
  | branch s x y ihx ihy =>
    intro v hd h
    rcases h with ⟨h1, a, b, h2, h3, h4⟩ | h
    · subst h1 h2
      rw [HT.eq_2]
      exact Or.inl ⟨rfl, rfl, x, y, rfl, ihx _ hd.2.1 h3, ihy _ hd.2.2 h4⟩
    · exact absurd (hd.1.symm.trans h.1) (by decide)
theorem HT_44 {a b s : Tr} (h : HT L (.branch 44 a b) N false s) : False := by
  simp only [HT] at h
  rcases h with ⟨h, _⟩ | ⟨h, _⟩ | ⟨_, ⟨h, _⟩ | ⟨h, _⟩ | ⟨h, _⟩⟩ <;> simp at h
theorem HT_92 {a b s : Tr} (h : HT L (.branch 92 a b) N false s) : False := by
  simp only [HT] at h
  rcases h with ⟨h, _⟩ | ⟨h, _⟩ | ⟨_, ⟨h, _⟩ | ⟨h, _⟩ | ⟨h, _⟩⟩ <;> simp at h
theorem fstV_ne {v s : Tr} (h : HT L v N false s) : fstV v = un 60 v := by
  cases v with
  | leaf c => rfl
  | branch c a b =>
    by_cases hc : c = 44
    · subst hc; exact (HT_44 h).elim
    · simp [fstV, hc]
theorem sndV_ne {v s : Tr} (h : HT L v N false s) : sndV v = un 62 v := by
  cases v with
  | leaf c => rfl
  | branch c a b =>
    by_cases hc : c = 44
    · subst hc; exact (HT_44 h).elim
    · simp [sndV, hc]
theorem gvD_ne {v s : Tr} (u : Tr) (h : HT L v N false s) : gvD v u = .branch 46 v u := by
  cases v with
  | leaf c => rfl
  | branch c a b =>
    by_cases hc : c = 92
    · subst hc; exact (HT_92 h).elim
    · simp [gvD, hc]
theorem HT_fst {v x y : Tr} (h : HT L v N false (.branch 83 x y)) : HT L (un 60 v) N false x := by
  rw [HT.eq_2]
  exact Or.inr (Or.inr ⟨fun h => by simp at h, Or.inr (Or.inl ⟨by decide, rfl, y, h⟩)⟩)
theorem HT_snd {v x y : Tr} (h : HT L v N false (.branch 83 x y)) : HT L (un 62 v) N false y := by
  rw [HT.eq_2]
  exact Or.inr (Or.inr ⟨fun h => by simp at h, Or.inr (Or.inr ⟨by decide, rfl, x, h⟩)⟩)
theorem HT_app {v u x y : Tr} (h : HT L v N false (.branch 80 x y)) (hd : dta x) (hu : HT L u N true x) : HT L (.branch 46 v u) N false y := by
  simp only [HT]
  exact Or.inr (Or.inr ⟨fun h => by simp at h, Or.inl ⟨by decide, x, hd, h, hu⟩⟩)
theorem EF_fst {v x y : Tr} (h : EF L N (.branch 83 x y) v) : EF L N x (fstV v) := by
  rcases h with ⟨_, a, b, h2, h3, h4⟩ | h
  · subst h2; simpa [fstV] using h3
  · rw [fstV_ne h]; exact HT_EF (HT_fst h)
theorem EF_snd {v x y : Tr} (h : EF L N (.branch 83 x y) v) : EF L N y (sndV v) := by
  rcases h with ⟨_, a, b, h2, h3, h4⟩ | h
  · subst h2; simpa [sndV] using h4
  · rw [sndV_ne h]; exact HT_EF (HT_snd h)
theorem EV_fst {v x y : Tr} (h : EV L N (.branch 83 x y) v) : EV L N x (fstV v) := by
  rcases h with ⟨_, a, b, h2, h3, h4⟩ | h | h
  · subst h2; simpa [fstV] using h3
  · exact absurd h.1 (by decide)
  · rw [fstV_ne h]; exact EF_EV _ _ (HT_EF (HT_fst h))
theorem EV_snd {v x y : Tr} (h : EV L N (.branch 83 x y) v) : EV L N y (sndV v) := by
  rcases h with ⟨_, a, b, h2, h3, h4⟩ | h | h
  · subst h2; simpa [sndV] using h4
  · exact absurd h.1 (by decide)
  · rw [sndV_ne h]; exact EF_EV _ _ (HT_EF (HT_snd h))
theorem EF_fam {f : Nat} {v : Tr} (h : EF L N (.leaf f) v) (hf : fam (.leaf f)) : RV L N (.leaf f) v := by
  obtain ⟨g, e, hg⟩ := hf
  injection e with e
  subst e
  exact ⟨fun h => absurd h hg, fun _ => h.resolve_left (fun h => hg h.1)⟩
theorem EV_fam {f : Nat} {v : Tr} (h : EV L N (.leaf f) v) (hf : fam (.leaf f)) : RV L N (.leaf f) v := by
  obtain ⟨g, e, hg⟩ := hf
  injection e with e
  subst e
  exact ⟨fun h => absurd h hg, fun _ => h.resolve_left (fun h => hg h.1)⟩
theorem EF_famS {s v : Tr} (h : EF L N s v) (hf : fam s) : RV L N s v := by
  obtain ⟨f, rfl, hn⟩ := hf
  exact EF_fam h ⟨f, rfl, hn⟩
theorem EV_famS {s v : Tr} (h : EV L N s v) (hf : fam s) : RV L N s v := by
  obtain ⟨f, rfl, hn⟩ := hf
  exact EV_fam h ⟨f, rfl, hn⟩
theorem enE_lk {ρ Γ : List Tr} (h : enE L N ρ Γ) {c : Nat} {s : Tr} (hh : hdS L Γ c = some s) : EF L N s (evD (.leaf c) ρ) := by
  unfold hdS at hh
  split at hh
  · rename_i h1
    simp only [evD, if_pos h1]
    exact h.2 _ _ hh
  · rename_i h1
    simp only [evD, if_neg h1]
    refine HT_EF ?_
    simp only [HT]
    refine Or.inr ⟨fun h => by simp at h, ?_⟩
    unfold hdS
    rw [if_neg h1]; exact hh
theorem enV_lk {ρ Γ : List Tr} (h : enV L N ρ Γ) {c : Nat} {s : Tr} (hh : hdS L Γ c = some s) : EV L N s (evA (.leaf c) ρ) := by
  unfold hdS at hh
  split at hh
  · rename_i h1
    simp only [evA, if_pos h1]
    exact h.2 _ _ hh
  · rename_i h1
    simp only [evA, if_neg h1]
    refine EF_EV _ _ (HT_EF ?_)
    simp only [HT]
    refine Or.inr ⟨fun h => by simp at h, ?_⟩
    unfold hdS
    rw [if_neg h1]; exact hh
/-- where no function is named, both evaluations are one, and their value is a long one -/
theorem T1 : ∀ (t : Tr) (Γ : List Tr) (m : Bool) (s : Tr) (ρ : List Tr), HT L t Γ m s → enE L N ρ Γ → evA t ρ = evD t ρ ∧ (m = true → RV L N s (evD t ρ)) ∧ (m = false → EF L N s (evD t ρ)) := by
  intro t
  induction t with
  | leaf c =>
    intro Γ m s ρ h he
    refine ⟨by simp only [evA, evD], ?_⟩
    simp only [HT] at h
    rcases h with ⟨h1, h2, h3⟩ | ⟨h1, h2⟩
    · subst h1 h2 h3
      refine ⟨fun _ => ?_, fun h => by simp at h⟩
      exact ⟨fun _ => rfl, fun h => absurd rfl h⟩
    · have h3 := enE_lk he h2
      exact ⟨fun hm => EF_famS h3 (h1 hm), fun _ => h3⟩
  | branch c a b iha ihb =>
    intro Γ m s ρ h he
    simp only [HT] at h
    rcases h with ⟨h1, h2, x, y, h3, h4, h5⟩ | ⟨h1, h2, h3, x, y, h4, h5, h6⟩ | ⟨h0, h⟩
    · subst h1 h2 h3
      have ha := iha _ _ _ _ h4 he
      have hb := ihb _ _ _ _ h5 he
      refine ⟨by simp [evA, evD, ha.1, hb.1], fun _ => ?_, fun h => by simp at h⟩
      simp only [evD]
      exact Or.inl ⟨rfl, _, _, rfl, ha.2.1 rfl, hb.2.1 rfl⟩
    · subst h1 h2 h4
      refine ⟨by simp [evA, evD], fun _ => ?_, fun h => by simp at h⟩
      simp only [evD, if_true]
      exact Or.inr ⟨rfl, a, ρ, Γ, rfl, he, h5, h6⟩
    · have key : evA (.branch c a b) ρ = evD (.branch c a b) ρ ∧ EF L N s (evD (.branch c a b) ρ) := by
        rcases h with ⟨h1, x, h2, h3, h4⟩ | ⟨h1, h2, y, h3⟩ | ⟨h1, h2, x, h3⟩
        · subst h1
          have ha := iha _ _ _ _ h3 he
          have hb := ihb _ _ _ _ h4 he
          have hf : HT L (evD a ρ) N false (.branch 80 x s) := (ha.2.2 rfl).resolve_left (fun h => absurd h.1 (by decide))
          refine ⟨by simp [evA, evD, ha.1, hb.1, gvD_ne _ hf], ?_⟩
          simp only [evD]
          exact HT_EF (HT_app hf h2 (RV_HT _ _ h2 (hb.2.1 rfl)))
        · subst h1 h2
          have ha := iha _ _ _ _ h3 he
          refine ⟨by simp [evA, evD, ha.1], ?_⟩
          simp only [evD]
          exact EF_fst (ha.2.2 rfl)
        · subst h1 h2
          have ha := iha _ _ _ _ h3 he
          refine ⟨by simp [evA, evD, ha.1], ?_⟩
          simp only [evD]
          exact EF_snd (ha.2.2 rfl)
      exact ⟨key.1, fun hm => EF_famS key.2 (h0 hm), fun _ => key.2⟩
theorem enE_snoc {ρ Γ : List Tr} {u x : Tr} (h : enE L N ρ Γ) (hu : EF L N x u) : enE L N (ρ ++ [u]) (Γ ++ [x]) := by
  refine ⟨by simp [h.1], fun i s hs => ?_⟩
  by_cases hi : i < Γ.length
  · rw [List.getElem?_append_left hi] at hs
    rw [lk_lt u (by rw [h.1]; exact hi)]
    exact h.2 i s hs
  · have hlt := (List.getElem?_eq_some_iff.mp hs).1
    simp at hlt
    obtain rfl : i = Γ.length := by omega
    simp at hs
    subst hs
    rw [← h.1, lk_last]; exact hu
theorem enV_snoc {ρ Γ : List Tr} {u x : Tr} (h : enV L N ρ Γ) (hu : EV L N x u) : enV L N (ρ ++ [u]) (Γ ++ [x]) := by
  refine ⟨by simp [h.1], fun i s hs => ?_⟩
  by_cases hi : i < Γ.length
  · rw [List.getElem?_append_left hi] at hs
    rw [lk_lt u (by rw [h.1]; exact hi)]
    exact h.2 i s hs
  · have hlt := (List.getElem?_eq_some_iff.mp hs).1
    simp at hlt
    obtain rfl : i = Γ.length := by omega
    simp at hs
    subst hs
    rw [← h.1, lk_last]; exact hu
theorem enE_enV {ρ Γ : List Tr} (h : enE L N ρ Γ) : enV L N ρ Γ := ⟨h.1, fun i s hs => EF_EV _ _ (h.2 i s hs)⟩
/-- a function given data -/
theorem clo_gv {v x y u : Tr} (h : clo L N v x y) (hu : EF L N x u) : RV L N y (gvD v u) := by
  obtain ⟨b, ρ, Γ, rfl, h1, h2, h3⟩ := h
  simp only [gvD, if_true, dL_eL]
  exact (T1 _ _ _ _ _ h3 (enE_snoc h1 hu)).2.1 rfl
/-- data, and what is left, where functions may be named -/
theorem T2 : ∀ (t : Tr) (Γ : List Tr) (m : Bool) (s : Tr) (ρ : List Tr), HT L t Γ m s → enV L N ρ Γ → (m = true → dta s) → (m = true → RV L N s (evA t ρ)) ∧ (m = false → EV L N s (evA t ρ)) := by
  intro t
  induction t with
  | leaf c =>
    intro Γ m s ρ h he hd
    simp only [HT] at h
    rcases h with ⟨h1, h2, h3⟩ | ⟨h1, h2⟩
    · subst h1 h2 h3
      refine ⟨fun _ => ?_, fun h => by simp at h⟩
      exact ⟨fun _ => rfl, fun h => absurd rfl h⟩
    · have h3 := enV_lk he h2
      exact ⟨fun hm => EV_famS h3 (h1 hm), fun _ => h3⟩
  | branch c a b iha ihb =>
    intro Γ m s ρ h he hd
    simp only [HT] at h
    rcases h with ⟨h1, h2, x, y, h3, h4, h5⟩ | ⟨h1, h2, h3, x, y, h4, h5, h6⟩ | ⟨h0, h⟩
    · subst h1 h2 h3
      have hd' := hd rfl
      have ha := iha _ _ _ _ h4 he (fun _ => hd'.2.1)
      have hb := ihb _ _ _ _ h5 he (fun _ => hd'.2.2)
      refine ⟨fun _ => ?_, fun h => by simp at h⟩
      simp only [evA]
      exact Or.inl ⟨rfl, _, _, rfl, ha.1 rfl, hb.1 rfl⟩
    · subst h1 h2 h4
      exact absurd (hd rfl).1 (by decide)
    · have key : EV L N s (evA (.branch c a b) ρ) := by
        rcases h with ⟨h1, x, h2, h3, h4⟩ | ⟨h1, h2, y, h3⟩ | ⟨h1, h2, x, h3⟩
        · subst h1
          have ha := (iha _ _ _ _ h3 he (fun h => by simp at h)).2 rfl
          have hb := (ihb _ _ _ _ h4 he (fun _ => h2)).1 rfl
          simp only [evA]
          rcases ha with ha | ha | ha
          · exact absurd ha.1 (by decide)
          · exact RV_EV _ _ (clo_gv ha.2 (RV_EF _ _ h2 hb))
          · refine EF_EV _ _ (HT_EF ?_)
            have e := gvD_ne (evA b ρ) ha
            simp only [show ¬ (46 = 92) by decide, show ¬ (46 = 60) by decide, show ¬ (46 = 62) by decide, if_true, if_false, e]
            exact HT_app ha h2 (RV_HT _ _ h2 hb)
        · subst h1 h2
          simp only [evA]
          exact EV_fst ((iha _ _ _ _ h3 he (fun h => by simp at h)).2 rfl)
        · subst h1 h2
          simp only [evA]
          exact EV_snd ((iha _ _ _ _ h3 he (fun h => by simp at h)).2 rfl)
      exact ⟨fun hm => EV_famS key (h0 hm), fun _ => key⟩
end EVAL
