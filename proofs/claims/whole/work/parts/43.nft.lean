section NFT
variable {L : Lw} {N : List Tr}
/-- a type's normal form, its names being what a row tells, n names being in force -/
def nft : Tr → List Tr → Nat → Tr
  | .leaf s, _, _ => .leaf s
  | .branch s a b, ρ, n => if s = 83 ∨ s = 80 then .branch s (nft a ρ n) (nft b (ρ ++ [nm n]) (n + 1)) else un s (evA a ρ)
/-- names told anew (false: a value, true: a row of values) -/
def ren (θ : List Tr) : Bool → Tr → Tr
  | m, .leaf s => if m = false ∧ 48 ≤ s ∧ s < 58 then lk θ (s - 48) else .leaf s
  | m, .branch s a b => if m = true then .branch s (ren θ false a) (ren θ true b) else if s = 92 then .branch 92 a (ren θ true b) else .branch s (ren θ false a) (ren θ false b)
def lfs (θ : List Tr) : Prop := ∀ i, ∃ c, lk θ i = .leaf c
theorem ren_dL (θ : List Tr) : ∀ (e : Tr), dL (ren θ true e) = (dL e).map (ren θ false) := by
  intro e
  induction e with
  | leaf s => simp [ren, dL]
  | branch s u e ihu ihe => simp [ren, dL, ihe]
theorem ren_eL (θ ρ : List Tr) : ren θ true (eL ρ) = eL (ρ.map (ren θ false)) := by
  induction ρ using rev_ind with
  | h0 => simp [eL, ren]
  | h1 ρ u ih => rw [eL_snoc, List.map_append, List.map_singleton, eL_snoc, ← ih]; simp [ren]
theorem ren_fst {θ : List Tr} (hθ : lfs θ) (v : Tr) : fstV (ren θ false v) = ren θ false (fstV v) := by
  cases v with
  | leaf s =>
    by_cases h : 48 ≤ s ∧ s < 58
    · obtain ⟨c, hc⟩ := hθ (s - 48)
      simp [ren, h, hc, fstV, un]
    · simp [ren, h, fstV, un]
  | branch s a b =>
    by_cases h1 : s = 92
    · subst h1; simp [ren, fstV, un]
    · by_cases h2 : s = 44
      · subst h2; simp [ren, fstV]
      · simp [ren, fstV, h1, h2, un]
theorem ren_snd {θ : List Tr} (hθ : lfs θ) (v : Tr) : sndV (ren θ false v) = ren θ false (sndV v) := by
  cases v with
  | leaf s =>
    by_cases h : 48 ≤ s ∧ s < 58
    · obtain ⟨c, hc⟩ := hθ (s - 48)
      simp [ren, h, hc, sndV, un]
    · simp [ren, h, sndV, un]
  | branch s a b =>
    by_cases h1 : s = 92
    · subst h1; simp [ren, sndV, un]
    · by_cases h2 : s = 44
      · subst h2; simp [ren, sndV]
      · simp [ren, sndV, h1, h2, un]
theorem lk_map (θ ρ : List Tr) (i : Nat) : lk (ρ.map (ren θ false)) i = ren θ false (lk ρ i) := by
  by_cases h : i < ρ.length
  · simp [lk, h]
  · simp [lk, h, ren]
theorem ren_evD {θ : List Tr} (hθ : lfs θ) : ∀ (t : Tr) (ρ : List Tr), evD t (ρ.map (ren θ false)) = ren θ false (evD t ρ) := by
  intro t
  induction t with
  | leaf s =>
    intro ρ
    by_cases h : 48 ≤ s ∧ s < 58
    · simp only [evD, if_pos h, lk_map]
    · simp [evD, h, ren]
  | branch s a b iha ihb =>
    intro ρ
    by_cases h1 : s = 92
    · subst h1; simp [evD, ren, ren_eL]
    · by_cases h2 : s = 60
      · subst h2; simp [evD, iha, ren_fst hθ]
      · by_cases h3 : s = 62
        · subst h3; simp [evD, iha, ren_snd hθ]
        · simp [evD, h1, h2, h3, iha, ihb, ren]
theorem ren_gvD {θ : List Tr} (hθ : lfs θ) (f u : Tr) : gvD (ren θ false f) (ren θ false u) = ren θ false (gvD f u) := by
  cases f with
  | leaf s =>
    by_cases h : 48 ≤ s ∧ s < 58
    · obtain ⟨c, hc⟩ := hθ (s - 48)
      simp [ren, h, hc, gvD]
    · simp [ren, h, gvD]
  | branch s b e =>
    by_cases h1 : s = 92
    · subst h1
      simp only [ren, gvD, if_true, ren_dL]
      rw [← ren_evD hθ]
      simp [gvD, ren_dL]
    · simp [ren, gvD, h1]
theorem ren_evA {θ : List Tr} (hθ : lfs θ) : ∀ (t : Tr) (ρ : List Tr), evA t (ρ.map (ren θ false)) = ren θ false (evA t ρ) := by
  intro t
  induction t with
  | leaf s =>
    intro ρ
    by_cases h : 48 ≤ s ∧ s < 58
    · simp only [evA, if_pos h, lk_map]
    · simp [evA, h, ren]
  | branch s a b iha ihb =>
    intro ρ
    by_cases h1 : s = 92
    · subst h1; simp [evA, ren, ren_eL]
    · by_cases h2 : s = 60
      · subst h2; simp [evA, iha, ren_fst hθ]
      · by_cases h3 : s = 62
        · subst h3; simp [evA, iha, ren_snd hθ]
        · by_cases h4 : s = 46
          · subst h4; simp [evA, iha, ihb, ren_gvD hθ]
          · simp [evA, h1, h2, h3, h4, iha, ihb, ren]
/-- rows that tell the first names by themselves -/
def fixN (θ : List Tr) (k : Nat) : Prop := ∀ i, i < k → lk θ i = nm i
theorem ren_HT {θ : List Tr} : ∀ (v : Tr) (N : List Tr) (m : Bool) (s : Tr), fixN θ N.length → HT L v N m s → (m = true → dta s) → ren θ false v = v := by
  intro t
  induction t with
  | leaf c =>
    intro Γ m s hf h _
    simp only [HT] at h
    rcases h with ⟨h1, h2, h3⟩ | ⟨h1, h2⟩
    · subst h2; rfl
    · unfold hdS at h2
      split at h2
      · rename_i h3
        have := (List.getElem?_eq_some_iff.mp h2).1
        simp only [ren]
        rw [if_pos ⟨trivial, h3⟩, hf _ this, show nm (c - 48) = .leaf (48 + (c - 48)) from rfl, show 48 + (c - 48) = c by omega]
      · rename_i h3
        simp [ren, h3]
  | branch c a b iha ihb =>
    intro Γ m s hf h hd
    simp only [HT] at h
    rcases h with ⟨h1, h2, x, y, h3, h4, h5⟩ | ⟨h1, h2, h3, x, y, h4, h5, h6⟩ | ⟨h0, h⟩
    · subst h2 h3
      have hd' := hd h1
      simp [ren, iha _ _ _ hf h4 (fun _ => hd'.2.1), ihb _ _ _ hf h5 (fun _ => hd'.2.2)]
    · subst h4
      exact absurd (hd h1).1 (by decide)
    · rcases h with ⟨h1, x, h2, h3, h4⟩ | ⟨h1, h2, y, h3⟩ | ⟨h1, h2, y, h3⟩
      · subst h1
        simp [ren, iha _ _ _ hf h3 (fun h => by simp at h), ihb _ _ _ hf h4 (fun _ => h2)]
      · subst h1 h2
        simp [ren, iha _ _ _ hf h3 (fun h => by simp at h)]
      · subst h1 h2
        simp [ren, iha _ _ _ hf h3 (fun h => by simp at h)]
theorem ren_EF {θ : List Tr} (hf : fixN θ N.length) : ∀ (s v : Tr), EF L N s v → ren θ false v = v := by
  intro s
  induction s with
  | leaf f =>
    intro v h
    rcases h with ⟨_, rfl⟩ | h
    · rfl
    · exact ren_HT _ _ _ _ hf h (fun h => by simp at h)
  | branch s x y ihx ihy =>
    intro v h
    rcases h with ⟨h1, a, b, h2, h3, h4⟩ | h
    · subst h2; simp [ren, ihx _ h3, ihy _ h4]
    · exact ren_HT _ _ _ _ hf h (fun h => by simp at h)
theorem ren_rowE {θ ρ Γ : List Tr} (hf : fixN θ N.length) (h : enE L N ρ Γ) : ρ.map (ren θ false) = ρ := by
  apply List.ext_getElem?
  intro i
  by_cases hi : i < ρ.length
  · have hs : Γ[i]? = some (Γ[i]'(by rw [← h.1]; exact hi)) := by simp [← h.1, hi]
    have := ren_EF hf _ _ (h.2 _ _ hs)
    simp [lk, hi] at this
    simp [hi, this]
  · simp [hi]
theorem ren_EV {θ : List Tr} (hf : fixN θ N.length) : ∀ (s v : Tr), EV L N s v → ren θ false v = v := by
  intro s
  induction s with
  | leaf f =>
    intro v h
    rcases h with ⟨_, rfl⟩ | h
    · rfl
    · exact ren_HT _ _ _ _ hf h (fun h => by simp at h)
  | branch s x y ihx ihy =>
    intro v h
    rcases h with ⟨h1, a, b, h2, h3, h4⟩ | ⟨_, h⟩ | h
    · subst h2; simp [ren, ihx _ h3, ihy _ h4]
    · obtain ⟨b, ρ, Γ, rfl, h1, _⟩ := h
      simp [ren, ren_eL, ren_rowE hf h1]
    · exact ren_HT _ _ _ _ hf h (fun h => by simp at h)
theorem ren_rowV {θ ρ Γ : List Tr} (hf : fixN θ N.length) (h : enV L N ρ Γ) : ρ.map (ren θ false) = ρ := by
  apply List.ext_getElem?
  intro i
  by_cases hi : i < ρ.length
  · have hs : Γ[i]? = some (Γ[i]'(by rw [← h.1]; exact hi)) := by simp [← h.1, hi]
    have := ren_EV hf _ _ (h.2 _ _ hs)
    simp [lk, hi] at this
    simp [hi, this]
  · simp [hi]
/-- evaluating a form of data by names tells its names anew -/
theorem evA_ren {θ : List Tr} (hθ : lfs θ) : ∀ (v : Tr) (N : List Tr) (m : Bool) (s : Tr), HT L v N m s → (m = true → dta s) → evA v θ = ren θ false v := by
  intro t
  induction t with
  | leaf c => intro Γ m s _ _; simp [evA, ren]
  | branch c a b iha ihb =>
    intro Γ m s h hd
    simp only [HT] at h
    rcases h with ⟨h1, h2, x, y, h3, h4, h5⟩ | ⟨h1, h2, h3, x, y, h4, h5, h6⟩ | ⟨h0, h⟩
    · subst h2 h3
      have hd' := hd h1
      simp [evA, ren, iha _ _ _ h4 (fun _ => hd'.2.1), ihb _ _ _ h5 (fun _ => hd'.2.2)]
    · subst h4
      exact absurd (hd h1).1 (by decide)
    · rcases h with ⟨h1, x, h2, h3, h4⟩ | ⟨h1, h2, y, h3⟩ | ⟨h1, h2, y, h3⟩
      · subst h1
        have e := ren_gvD hθ a b
        rw [gvD_ne b h3] at e
        simp [evA, iha _ _ _ h3 (fun h => by simp at h), ihb _ _ _ h4 (fun _ => h2), e]
      · subst h1 h2
        have e := ren_fst hθ a
        rw [fstV_ne h3] at e
        simp [evA, iha _ _ _ h3 (fun h => by simp at h), e]
      · subst h1 h2
        have e := ren_snd hθ a
        rw [sndV_ne h3] at e
        simp [evA, iha _ _ _ h3 (fun h => by simp at h), e]
theorem lfs_idr (n : Nat) : lfs (idr n) := by
  intro i
  by_cases h : i < n
  · exact ⟨_, lk_idr h⟩
  · exact ⟨0, by simp [lk, idr, h]⟩
theorem lfs_snoc {θ : List Tr} (h : lfs θ) (k : Nat) : lfs (θ ++ [nm k]) := by
  intro i
  by_cases hi : i < θ.length
  · rw [lk_lt _ hi]; exact h i
  · by_cases hj : i = θ.length
    · subst hj; rw [lk_last]; exact ⟨_, rfl⟩
    · exact ⟨0, by simp [lk, show ¬ i < θ.length + 1 by omega]⟩
/-- told anew by a longer row: no change of what is closed by the shorter -/
theorem ren_snoc {θ : List Tr} (u : Tr) : ∀ (v : Tr) (N : List Tr) (m : Bool) (s : Tr), θ.length = N.length → HT L v N m s → (m = true → dta s) → ren (θ ++ [u]) false v = ren θ false v := by
  intro t
  induction t with
  | leaf c =>
    intro Γ m s hl h _
    simp only [HT] at h
    rcases h with ⟨h1, h2, h3⟩ | ⟨h1, h2⟩
    · subst h2; rfl
    · unfold hdS at h2
      split at h2
      · rename_i h3
        have := (List.getElem?_eq_some_iff.mp h2).1
        simp only [ren]
        rw [lk_lt _ (by omega)]
      · rename_i h3
        simp [ren, h3]
  | branch c a b iha ihb =>
    intro Γ m s hf h hd
    simp only [HT] at h
    rcases h with ⟨h1, h2, x, y, h3, h4, h5⟩ | ⟨h1, h2, h3, x, y, h4, h5, h6⟩ | ⟨h0, h⟩
    · subst h2 h3
      have hd' := hd h1
      simp [ren, iha _ _ _ hf h4 (fun _ => hd'.2.1), ihb _ _ _ hf h5 (fun _ => hd'.2.2)]
    · subst h4
      exact absurd (hd h1).1 (by decide)
    · rcases h with ⟨h1, x, h2, h3, h4⟩ | ⟨h1, h2, y, h3⟩ | ⟨h1, h2, y, h3⟩
      · subst h1
        simp [ren, iha _ _ _ hf h3 (fun h => by simp at h), ihb _ _ _ hf h4 (fun _ => h2)]
      · subst h1 h2
        simp [ren, iha _ _ _ hf h3 (fun h => by simp at h)]
      · subst h1 h2
        simp [ren, iha _ _ _ hf h3 (fun h => by simp at h)]
theorem rsn_EF {θ : List Tr} (u : Tr) (hl : θ.length = N.length) : ∀ (s v : Tr), EF L N s v → ren (θ ++ [u]) false v = ren θ false v := by
  intro s
  induction s with
  | leaf f =>
    intro v h
    rcases h with ⟨_, rfl⟩ | h
    · rfl
    · exact ren_snoc _ _ _ _ _ hl h (fun h => by simp at h)
  | branch s x y ihx ihy =>
    intro v h
    rcases h with ⟨h1, a, b, h2, h3, h4⟩ | h
    · subst h2; simp [ren, ihx _ h3, ihy _ h4]
    · exact ren_snoc _ _ _ _ _ hl h (fun h => by simp at h)
theorem rsn_rowE {θ ρ Γ : List Tr} (u : Tr) (hl : θ.length = N.length) (h : enE L N ρ Γ) : ρ.map (ren (θ ++ [u]) false) = ρ.map (ren θ false) := by
  apply List.ext_getElem?
  intro i
  by_cases hi : i < ρ.length
  · have hs : Γ[i]? = some (Γ[i]'(by rw [← h.1]; exact hi)) := by simp [← h.1, hi]
    have := rsn_EF u hl _ _ (h.2 _ _ hs)
    simp [lk, hi] at this
    simp [hi, this]
  · simp [hi]
theorem rsn_EV {θ : List Tr} (u : Tr) (hl : θ.length = N.length) : ∀ (s v : Tr), EV L N s v → ren (θ ++ [u]) false v = ren θ false v := by
  intro s
  induction s with
  | leaf f =>
    intro v h
    rcases h with ⟨_, rfl⟩ | h
    · rfl
    · exact ren_snoc _ _ _ _ _ hl h (fun h => by simp at h)
  | branch s x y ihx ihy =>
    intro v h
    rcases h with ⟨h1, a, b, h2, h3, h4⟩ | ⟨_, h⟩ | h
    · subst h2; simp [ren, ihx _ h3, ihy _ h4]
    · obtain ⟨b, ρ, Γ, rfl, h1, _⟩ := h
      simp [ren, ren_eL, rsn_rowE u hl h1]
    · exact ren_snoc _ _ _ _ _ hl h (fun h => by simp at h)
theorem rsn_rowV {θ ρ Γ : List Tr} (u : Tr) (hl : θ.length = N.length) (h : enV L N ρ Γ) : ρ.map (ren (θ ++ [u]) false) = ρ.map (ren θ false) := by
  apply List.ext_getElem?
  intro i
  by_cases hi : i < ρ.length
  · have hs : Γ[i]? = some (Γ[i]'(by rw [← h.1]; exact hi)) := by simp [← h.1, hi]
    have := rsn_EV u hl _ _ (h.2 _ _ hs)
    simp [lk, hi] at this
    simp [hi, this]
  · simp [hi]
theorem dp_mono : ∀ (T : Tr) (k n : Nat), k ≤ n → dp T n → dp T k := by
  intro T
  induction T with
  | leaf s => intro k n _ _; trivial
  | branch s a b iha ihb =>
    intro k n hk h
    simp only [dp] at h ⊢
    split
    · rename_i h1
      rw [if_pos h1] at h
      exact ⟨by omega, iha _ _ (by omega) h.2⟩
    · rename_i h1
      rw [if_neg h1] at h
      split
      · rename_i h2
        rw [if_pos h2] at h
        exact ⟨iha _ _ hk h.1, by omega, ihb _ _ (by omega) h.2.2⟩
      · rename_i h2
        rw [if_neg h2] at h
        exact ⟨iha _ _ hk h.1, ihb _ _ hk h.2⟩
theorem EV_nm {n : Nat} {x : Tr} (hN : N.length = n) (hn : n < 10) : EV L (N ++ [x]) x (nm n) := EF_EV _ _ (HT_EF (HT_nm hN hn))
theorem enV_nm {ρ Γ : List Tr} {n : Nat} {x : Tr} (h : enV L N ρ Γ) (hN : N.length = n) (hn : n < 10) : enV L (N ++ [x]) (ρ ++ [nm n]) (Γ ++ [x]) := enV_snoc (enV_wk [x] h) (EV_nm hN hn)
theorem dp_SP {s : Nat} {a b : Tr} {n : Nat} (hs : s = 83 ∨ s = 80) : dp (.branch s a b) n ↔ dp a n ∧ n < 10 ∧ dp b (n + 1) := by
  rw [dp, if_neg (by omega), if_pos hs]
theorem dp_F {s : Nat} {a b : Tr} {n : Nat} (h1 : 65 ≤ s) (hs : s ≤ 67) : dp (.branch s a b) n ↔ dp a n ∧ dp b n := by
  rw [dp, if_neg (by omega), if_neg (by omega)]
theorem WT_SP {s : Nat} {a b : Tr} {Γ : List Tr} (h : WT L (.branch s a b) Γ) (hs : s = 83 ∨ s = 80) : (s = 80 → dta (shp a)) ∧ WT L a Γ ∧ WT L b (Γ ++ [shp a]) := by
  simp only [WT] at h
  rcases h with ⟨h1, h2, h3⟩ | ⟨h1, h2, _⟩
  · exact ⟨fun e => (h1.resolve_left (by omega)).2, h2, h3⟩
  · omega
/-- a type's depth is that of its normal form -/
theorem dp_nft : ∀ (T : Tr) (Γ ρ N : List Tr) (n : Nat), WT L T Γ → enV L N ρ Γ → N.length = n → (dp (nft T ρ n) n ↔ dp T n) := by
  intro T
  induction T with
  | leaf s => intro Γ ρ N n _ _ _; exact Iff.rfl
  | branch s a b iha ihb =>
    intro Γ ρ N n h he hN
    by_cases hs : s = 83 ∨ s = 80
    · obtain ⟨_, h1, h2⟩ := WT_SP h hs
      rw [nft, if_pos hs, dp_SP hs, dp_SP hs, iha _ _ _ _ h1 he hN]
      constructor
      · rintro ⟨h3, h4, h5⟩
        exact ⟨h3, h4, (ihb _ _ _ _ h2 (enV_nm he hN h4) (by simp [hN])).mp h5⟩
      · rintro ⟨h3, h4, h5⟩
        exact ⟨h3, h4, (ihb _ _ _ _ h2 (enV_nm he hN h4) (by simp [hN])).mpr h5⟩
    · simp only [WT] at h
      rcases h with ⟨h1, _⟩ | ⟨h1, h2, h3, I, h4, h5, h6⟩
      · exact absurd (h1.imp_right And.left) hs
      · subst h3
        rw [nft, if_neg hs, un, dp_F h1 h2, dp_F h1 h2]
        have := RV_HT _ _ h5 ((T2 _ _ _ _ _ h6 he (fun _ => h5)).1 rfl)
        exact ⟨fun _ => ⟨dp_HT _ _ _ _ _ h6 (fun _ => h5), trivial⟩, fun _ => ⟨dp_HT _ _ _ _ _ this (fun _ => h5), trivial⟩⟩
theorem nft_shp : ∀ (T : Tr) (ρ : List Tr) (n : Nat), shp (nft T ρ n) = shp T := by
  intro T
  induction T with
  | leaf s => intro ρ n; rfl
  | branch s a b iha ihb =>
    intro ρ n
    by_cases hs : s = 83 ∨ s = 80
    · rw [nft, if_pos hs, shp, if_pos hs, shp, if_pos hs, iha, ihb]
    · rw [nft, if_neg hs, un, shp, if_neg hs, shp, if_neg hs]
theorem nft_WT : ∀ (T : Tr) (Γ ρ N : List Tr) (n : Nat), WT L T Γ → enV L N ρ Γ → N.length = n → dp T n → WT L (nft T ρ n) N := by
  intro T
  induction T with
  | leaf s => intro Γ ρ N n h _ _ _; exact h
  | branch s a b iha ihb =>
    intro Γ ρ N n h he hN hd
    by_cases hs : s = 83 ∨ s = 80
    · obtain ⟨h0, h1, h2⟩ := WT_SP h hs
      obtain ⟨h3, h4, h5⟩ := (dp_SP hs).mp hd
      rw [nft, if_pos hs]
      simp only [WT]
      refine Or.inl ⟨?_, iha _ _ _ _ h1 he hN h3, ?_⟩
      · rw [nft_shp]
        rcases hs with hs | hs
        · exact Or.inl hs
        · exact Or.inr ⟨hs, h0 hs⟩
      · rw [nft_shp]
        exact ihb _ _ _ _ h2 (enV_nm he hN h4) (by simp [hN]) h5
    · simp only [WT] at h
      rcases h with ⟨h1, _⟩ | ⟨h1, h2, h3, I, h4, h5, h6⟩
      · exact absurd (h1.imp_right And.left) hs
      · subst h3
        rw [nft, if_neg hs, WT.eq_2]
        exact Or.inr ⟨h1, h2, rfl, I, h4, h5, RV_HT _ _ h5 ((T2 _ _ _ _ _ h6 he (fun _ => h5)).1 rfl)⟩
/-- a normal form's normal form -/
theorem nft_nft : ∀ (T : Tr) (Γ ρ θ N : List Tr) (k n : Nat), WT L T Γ → enV L N ρ Γ → N.length = k → dp T k → θ.length = k → lfs θ → nft (nft T ρ k) θ n = nft T (ρ.map (ren θ false)) n := by
  intro T
  induction T with
  | leaf s => intro Γ ρ θ N k n _ _ _ _ _ _; rfl
  | branch s a b iha ihb =>
    intro Γ ρ θ N k n h he hN hd hl hθ
    by_cases hs : s = 83 ∨ s = 80
    · obtain ⟨h0, h1, h2⟩ := WT_SP h hs
      obtain ⟨h3, h4, h5⟩ := (dp_SP hs).mp hd
      have e1 : ∀ (a b : Tr) (ρ : List Tr) (n : Nat), nft (.branch s a b) ρ n = .branch s (nft a ρ n) (nft b (ρ ++ [nm n]) (n + 1)) := fun a b ρ n => by rw [nft, if_pos hs]
      rw [e1, e1, e1, iha _ _ _ _ _ _ h1 he hN h3 hl hθ, ihb _ _ _ _ _ _ h2 (enV_nm he hN h4) (by simp [hN]) h5 (by simp [hl]) (lfs_snoc hθ n)]
      rw [List.map_append, List.map_singleton, rsn_rowV _ (by omega) he]
      have : ren (θ ++ [nm n]) false (nm k) = nm n := by
        show ren (θ ++ [nm n]) false (.leaf (48 + k)) = nm n
        rw [ren, if_pos ⟨rfl, by omega, by omega⟩, show 48 + k - 48 = θ.length by omega, lk_last]
      rw [this]
    · simp only [WT] at h
      rcases h with ⟨h1, _⟩ | ⟨h1, h2, h3, I, h4, h5, h6⟩
      · exact absurd (h1.imp_right And.left) hs
      · subst h3
        rw [nft, if_neg hs, un, nft, if_neg hs, nft, if_neg hs, un, un]
        rw [evA_ren hθ _ _ _ _ (RV_HT _ _ h5 ((T2 _ _ _ _ _ h6 he (fun _ => h5)).1 rfl)) (fun _ => h5), ren_evA hθ]
theorem fix_idr (n : Nat) : fixN (idr n) n := fun _ h => lk_idr h
theorem nft_at {T : Tr} {Γ ρ : List Tr} {k : Nat} (n : Nat) (h : WT L T Γ) (he : enV L N ρ Γ) (hN : N.length = k) (hd : dp T k) : nft (nft T ρ k) (idr k) n = nft T ρ n := by
  rw [nft_nft _ _ _ _ _ _ _ h he hN hd (idr_len k) (lfs_idr k), ren_rowV (by rw [hN]; exact fix_idr k) he]
theorem enV_id (h : N.length ≤ 10) : enV L N (idr N.length) N := enE_enV (enE_id h)
/-- a type's normal form is its own -/
theorem nft_id : ∀ (T : Tr) (N : List Tr), WT L T N → dp T N.length → nft T (idr N.length) N.length = T := by
  intro T
  induction T with
  | leaf s => intro N _ _; rfl
  | branch s a b iha ihb =>
    intro N h hd
    by_cases hs : s = 83 ∨ s = 80
    · obtain ⟨h0, h1, h2⟩ := WT_SP h hs
      obtain ⟨h3, h4, h5⟩ := (dp_SP hs).mp hd
      rw [nft, if_pos hs, iha _ h1 h3, ← idr_succ]
      have := ihb _ h2 (by simpa using h5)
      simp only [List.length_append, List.length_singleton] at this
      rw [this]
    · simp only [WT] at h
      rcases h with ⟨h1, _⟩ | ⟨h1, h2, h3, I, h4, h5, h6⟩
      · exact absurd (h1.imp_right And.left) hs
      · subst h3
        rw [nft, if_neg hs, un, evA_ren (lfs_idr _) _ _ _ _ h6 (fun _ => h5), ren_HT _ _ _ _ (fix_idr _) h6 (fun _ => h5)]
theorem HT_len {θ : List Tr} : ∀ (v : Tr) (N : List Tr) (m : Bool) (s : Tr), (∀ i, i < N.length → ∃ c, c ≠ 0 ∧ lk θ i = .leaf c) → HT L v N m s → (m = true → dta s) → (enc (ren θ false v)).length = (enc v).length := by
  intro t
  induction t with
  | leaf c =>
    intro Γ m s hf h _
    simp only [HT] at h
    rcases h with ⟨h1, h2, h3⟩ | ⟨h1, h2⟩
    · subst h2; rfl
    · unfold hdS at h2
      split at h2
      · rename_i h3
        have := (List.getElem?_eq_some_iff.mp h2).1
        obtain ⟨d, hd, e⟩ := hf _ this
        simp only [ren]
        rw [if_pos ⟨trivial, h3⟩, e, enc, if_neg hd, enc, if_neg (by omega)]
        rfl
      · rename_i h3
        simp [ren, h3]
  | branch c a b iha ihb =>
    intro Γ m s hf h hd
    simp only [HT] at h
    rcases h with ⟨h1, h2, x, y, h3, h4, h5⟩ | ⟨h1, h2, h3, x, y, h4, h5, h6⟩ | ⟨h0, h⟩
    · subst h2 h3
      have hd' := hd h1
      simp [ren, enc, iha _ _ _ hf h4 (fun _ => hd'.2.1), ihb _ _ _ hf h5 (fun _ => hd'.2.2)]
    · subst h4
      exact absurd (hd h1).1 (by decide)
    · rcases h with ⟨h1, x, h2, h3, h4⟩ | ⟨h1, h2, y, h3⟩ | ⟨h1, h2, y, h3⟩
      · subst h1
        simp [ren, enc, iha _ _ _ hf h3 (fun h => by simp at h), ihb _ _ _ hf h4 (fun _ => h2)]
      · subst h1 h2
        simp [ren, enc, iha _ _ _ hf h3 (fun h => by simp at h)]
      · subst h1 h2
        simp [ren, enc, iha _ _ _ hf h3 (fun h => by simp at h)]
theorem nft_len : ∀ (T : Tr) (N θ : List Tr) (n : Nat), WT L T N → θ.length = N.length → lfs θ → (∀ i, i < N.length → ∃ c, c ≠ 0 ∧ lk θ i = .leaf c) → (enc (nft T θ n)).length = (enc T).length := by
  intro T
  induction T with
  | leaf s => intro N θ n _ _ _ _; rfl
  | branch s a b iha ihb =>
    intro N θ n h hl hθ hz
    by_cases hs : s = 83 ∨ s = 80
    · obtain ⟨h0, h1, h2⟩ := WT_SP h hs
      rw [nft, if_pos hs, enc, enc]
      simp only [List.length_cons, List.length_append]
      rw [iha _ _ n h1 hl hθ hz, ihb _ (θ ++ [nm n]) (n + 1) h2 (by simp [hl]) (lfs_snoc hθ n)]
      intro i hi
      simp at hi
      by_cases hj : i < N.length
      · rw [lk_lt _ (by omega)]; exact hz i hj
      · rw [show i = θ.length by omega, lk_last]; exact ⟨48 + n, by omega, rfl⟩
    · simp only [WT] at h
      rcases h with ⟨h1, _⟩ | ⟨h1, h2, h3, I, h4, h5, h6⟩
      · exact absurd (h1.imp_right And.left) hs
      · subst h3
        rw [nft, if_neg hs, un, enc, evA_ren hθ _ _ _ _ h6 (fun _ => h5), List.length_cons, List.length_append, HT_len _ _ _ _ hz h6 (fun _ => h5)]
        simp [enc]
/-- what is not too large where so many names are in force -/
def fits (t : Tr) (n : Nat) : Prop := (enc t).length ≤ 50 ∧ dp t n
theorem fits_down {T : Tr} {Γ ρ : List Tr} {k n : Nat} (h : WT L T Γ) (he : enV L N ρ Γ) (hN : N.length = k) (hk : k ≤ n) (hd : dp T n) (hl : (enc (nft T ρ n)).length ≤ 50) : fits (nft T ρ k) k := by
  have hd' := dp_mono _ _ _ hk hd
  refine ⟨?_, (dp_nft _ _ _ _ _ h he hN).mpr hd'⟩
  rw [← nft_at n h he hN hd'] at hl
  rwa [nft_len _ N _ n (nft_WT _ _ _ _ _ h he hN hd') (by simp [idr_len, hN]) (lfs_idr k)] at hl
  intro i hi
  exact ⟨48 + i, by omega, lk_idr (by omega)⟩
/-- a name's long form -/
def et : Tr → Tr → Nat → Tr
  | .leaf f, w, _ => if f = 49 then .leaf 42 else w
  | .branch s x y, w, n => if s = 83 then .branch 44 (et x (un 60 w) n) (et y (un 62 w) n) else un 92 (et y (.branch 46 w (et x (nm n) (n + 1))) (n + 1))
/-- a type's shape: what functions take is data -/
def wfs : Tr → Prop
  | .leaf _ => True
  | .branch s x y => (s = 83 ∨ (s = 80 ∧ dta x)) ∧ wfs x ∧ wfs y
theorem WT_wfs : ∀ (T : Tr) (Γ : List Tr), WT L T Γ → wfs (shp T) := by
  intro T
  induction T with
  | leaf s => intro Γ _; trivial
  | branch s a b iha ihb =>
    intro Γ h
    by_cases hs : s = 83 ∨ s = 80
    · obtain ⟨h0, h1, h2⟩ := WT_SP h hs
      rw [shp, if_pos hs]
      refine ⟨?_, iha _ h1, ihb _ h2⟩
      rcases hs with hs | hs
      · exact Or.inl hs
      · exact Or.inr ⟨hs, h0 hs⟩
    · rw [shp, if_neg hs]; trivial
theorem et_dta : ∀ (s w : Tr) (n : Nat) (N : List Tr), dta s → HT L w N false s → HT L (et s w n) N true s := by
  intro s
  induction s with
  | leaf f =>
    intro w n N _ h
    rw [et]
    split
    · rename_i e; subst e; rw [HT.eq_1]; exact Or.inl ⟨rfl, rfl, rfl⟩
    · rename_i e; exact HT_up h ⟨f, rfl, e⟩
  | branch s x y ihx ihy =>
    intro w n N hd h
    obtain ⟨rfl, h1, h2⟩ := hd
    rw [et, if_pos rfl, HT.eq_2]
    exact Or.inl ⟨rfl, rfl, x, y, rfl, ihx _ _ _ h1 (HT_fst h), ihy _ _ _ h2 (HT_snd h)⟩
theorem et_HT : ∀ (s w : Tr) (n : Nat) (N : List Tr), wfs s → HT L w N false s → N.length = n → dp (et s w n) n → HT L (et s w n) N true s := by
  intro s
  induction s with
  | leaf f =>
    intro w n N _ h _ _
    exact et_dta _ _ _ _ trivial h
  | branch s x y ihx ihy =>
    intro w n N hw h hN hd
    obtain ⟨hs, h1, h2⟩ := hw
    rcases hs with rfl | ⟨rfl, h3⟩
    · rw [et, if_pos rfl] at hd ⊢
      simp only [dp] at hd
      rw [HT.eq_2]
      exact Or.inl ⟨rfl, rfl, x, y, rfl, ihx _ _ _ h1 (HT_fst h) hN hd.1, ihy _ _ _ h2 (HT_snd h) hN hd.2⟩
    · rw [et, if_neg (by decide)] at hd ⊢
      simp only [un, dp, if_true] at hd
      rw [un, HT.eq_2]
      refine Or.inr (Or.inl ⟨rfl, rfl, rfl, x, y, rfl, h3, ?_⟩)
      refine ihy _ _ _ h2 ?_ (by simp [hN]) hd.2
      exact HT_app (HT_wk _ _ _ _ h (fun h => by simp at h)) h3 (et_dta _ _ _ _ h3 (HT_nm hN hd.1))
end NFT
