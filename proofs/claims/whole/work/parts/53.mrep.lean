section MREP
/-- the reference's values: a value (false) or a row of values (true) stands at a place -/
def rpM (σ : MS) (V E T : Nat) : Bool → Tr → Nat → Prop
  | false, .leaf s, v => v < V ∧ ((48 ≤ s ∧ s < 68 ∧ σ.2.2 v = pk 0 (s - 48) 0 0) ∨ (97 ≤ s ∧ s ≤ 100 ∧ σ.2.2 v = pk 1 s 0 0) ∨ (s = 42 ∧ σ.2.2 v = pk 6 0 0 0))
  | false, .branch s a b, v => v < V ∧ ((s = 46 ∧ ∃ p q, σ.2.2 v = pk 2 p q 0 ∧ rpM σ V E T false a p ∧ rpM σ V E T false b q)
      ∨ (s = 44 ∧ ∃ p q, σ.2.2 v = pk 5 p q 0 ∧ rpM σ V E T false a p ∧ rpM σ V E T false b q)
      ∨ (s = 60 ∧ b = .leaf 0 ∧ ∃ p, σ.2.2 v = pk 3 p 0 0 ∧ rpM σ V E T false a p)
      ∨ (s = 62 ∧ b = .leaf 0 ∧ ∃ p, σ.2.2 v = pk 4 p 0 0 ∧ rpM σ V E T false a p)
      ∨ (s = 92 ∧ ∃ p e, σ.2.2 v = pk 7 p e (dL b).length ∧ fm (σ.2.1 1) a p ∧ pr (fxM σ) a ∧ p + ln a ≤ T ∧ ln a ≤ 49 ∧ (dL b).length < 10 ∧ dp a ((dL b).length + 1) ∧ rpM σ V E T true b e))
  | true, .leaf _, e => e < E
  | true, .branch _ u b, e => (dL b).length < 10 ∧ (∃ q, σ.2.1 11 (10 * e + (dL b).length) = i32 q ∧ rpM σ V E T false u q) ∧ rpM σ V E T true b e
/-- what stands stays -/
def kp (σ τ : MS) (V E T : Nat) : Prop := (∀ i, i < V → τ.2.2 i = σ.2.2 i) ∧ (∀ i, i < 10 * E → τ.2.1 11 i = σ.2.1 11 i) ∧ (∀ i, i < T → τ.2.1 1 i = σ.2.1 1 i) ∧ τ.2.1 3 = σ.2.1 3
theorem kp_rf (σ : MS) (V E T : Nat) : kp σ σ V E T := ⟨fun _ _ => rfl, fun _ _ => rfl, fun _ _ => rfl, rfl⟩
theorem kp_tr {σ τ υ : MS} {V E T V' E' T' : Nat} (h : kp σ τ V E T) (g : kp τ υ V' E' T') (hV : V ≤ V') (hE : E ≤ E') (hT : T ≤ T') : kp σ υ V E T :=
  ⟨fun i hi => (g.1 i (by omega)).trans (h.1 i hi), fun i hi => (g.2.1 i (by omega)).trans (h.2.1 i hi), fun i hi => (g.2.2.1 i (by omega)).trans (h.2.2.1 i hi), g.2.2.2.trans h.2.2.2⟩
theorem kp_le {σ τ : MS} {V E T V' E' T' : Nat} (h : kp σ τ V' E' T') (hV : V ≤ V') (hE : E ≤ E') (hT : T ≤ T') : kp σ τ V E T :=
  ⟨fun i hi => h.1 i (by omega), fun i hi => h.2.1 i (by omega), fun i hi => h.2.2.1 i (by omega), h.2.2.2⟩
theorem kp_fx {σ τ : MS} {V E T : Nat} (h : kp σ τ V E T) : fxM τ = fxM σ := by
  funext k
  simp only [fxM, h.2.2.2]
theorem kp_fm {σ τ : MS} {V E T : Nat} (h : kp σ τ V E T) {t : Tr} {p : Nat} (hf : fm (σ.2.1 1) t p) (hp : p + ln t ≤ T) : fm (τ.2.1 1) t p := fm_ext t p (fun k _ h2 => h.2.2.1 k (by omega)) hf
theorem rp_E {σ : MS} {V E T : Nat} : ∀ (b : Tr) (e : Nat), rpM σ V E T true b e → e < E := by
  intro b
  induction b with
  | leaf s => intro e h; exact h
  | branch s u b _ ihb => intro e h; exact ihb e h.2.2
theorem rp_V {σ : MS} {V E T : Nat} {t : Tr} {v : Nat} (h : rpM σ V E T false t v) : v < V := by
  cases t with
  | leaf s => exact h.1
  | branch s a b => exact h.1
theorem rp_kp {σ τ : MS} {V E T V' E' T' : Nat} (k : kp σ τ V E T) (hV : V ≤ V') (hE : E ≤ E') (hT : T ≤ T') : ∀ (t : Tr) (m : Bool) (v : Nat), rpM σ V E T m t v → rpM τ V' E' T' m t v := by
  intro t
  induction t with
  | leaf s =>
    intro m v h
    cases m with
    | true => exact Nat.lt_of_lt_of_le h hE
    | false =>
      refine ⟨by have := h.1; omega, ?_⟩
      rw [k.1 v h.1]
      exact h.2
  | branch s a b iha ihb =>
    intro m v h
    cases m with
    | true =>
      obtain ⟨h1, ⟨q, h2, h3⟩, h4⟩ := h
      have he := rp_E _ _ h4
      exact ⟨h1, ⟨q, by rw [k.2.1 _ (by omega)]; exact h2, iha false q h3⟩, ihb true v h4⟩
    | false =>
      obtain ⟨h0, h⟩ := h
      refine ⟨by omega, ?_⟩
      rw [k.1 v h0]
      rcases h with ⟨h1, p, q, h2, h3, h4⟩ | ⟨h1, p, q, h2, h3, h4⟩ | ⟨h1, hb, p, h2, h3⟩ | ⟨h1, hb, p, h2, h3⟩ | ⟨h1, p, e, h2, h3, h4, h5, h6, h7, h7', h8⟩
      · exact Or.inl ⟨h1, p, q, h2, iha _ _ h3, ihb _ _ h4⟩
      · exact Or.inr (Or.inl ⟨h1, p, q, h2, iha _ _ h3, ihb _ _ h4⟩)
      · exact Or.inr (Or.inr (Or.inl ⟨h1, hb, p, h2, iha _ _ h3⟩))
      · exact Or.inr (Or.inr (Or.inr (Or.inl ⟨h1, hb, p, h2, iha _ _ h3⟩)))
      · exact Or.inr (Or.inr (Or.inr (Or.inr ⟨h1, p, e, h2, kp_fm k h3 h5, by rw [kp_fx k]; exact h4, by omega, h6, h7, h7', ihb true e h8⟩)))
/-- other rows and numbers stay -/
def ch (F A : List Nat) (σ τ : MS) : Prop := (∀ k, k ∉ F → τ.1 k = σ.1 k) ∧ (∀ j, j ∉ A → τ.2.1 j = σ.2.1 j)
theorem ch_rf (F A : List Nat) (σ : MS) : ch F A σ σ := ⟨fun _ _ => rfl, fun _ _ => rfl⟩
theorem ch_tr {F A : List Nat} {σ τ υ : MS} (h : ch F A σ τ) (g : ch F A τ υ) : ch F A σ υ := ⟨fun k hk => (g.1 k hk).trans (h.1 k hk), fun j hj => (g.2 j hj).trans (h.2 j hj)⟩
theorem ch_mo {F A F' A' : List Nat} {σ τ : MS} (h : ch F A σ τ) (hF : ∀ k, k ∈ F → k ∈ F') (hA : ∀ k, k ∈ A → k ∈ A') : ch F' A' σ τ := ⟨fun k hk => h.1 k (fun h => hk (hF k h)), fun j hj => h.2 j (fun h => hj (hA j h))⟩
theorem ch_setF {F A : List Nat} (σ : MS) {k : Nat} (x : Int32) (h : k ∈ F) : ch F A σ (setF σ k x) := ⟨fun j hj => by
  simp only [setF, upd]
  rw [if_neg (fun e => hj (by rw [e]; exact h))], fun _ _ => rfl⟩
theorem ch_setA {F A : List Nat} (σ : MS) {j i : Nat} (x : Int32) (h : j ∈ A) : ch F A σ (setA σ j i x) := ⟨fun _ _ => rfl, fun q hq => by
  simp only [setA]
  rw [if_neg (fun e => hq (by rw [e]; exact h))]⟩
theorem kp_setF (σ : MS) (k : Nat) (x : Int32) (V E T : Nat) : kp σ (setF σ k x) V E T := ⟨fun _ _ => rfl, fun _ _ => rfl, fun _ _ => rfl, rfl⟩
theorem kp_setA (σ : MS) {j : Nat} (i : Nat) (x : Int32) (V E T : Nat) (h1 : j ≠ 1) (h3 : j ≠ 3) (h11 : j ≠ 11) : kp σ (setA σ j i x) V E T := by
  refine ⟨fun _ _ => rfl, fun _ _ => ?_, fun _ _ => ?_, ?_⟩
  · simp only [setA]; rw [if_neg (fun e => h11 e.symm)]
  · simp only [setA]; rw [if_neg (fun e => h1 e.symm)]
  · simp only [setA]; rw [if_neg (fun e => h3 e.symm)]
theorem setA_at (σ : MS) (j i : Nat) (x : Int32) : (setA σ j i x).2.1 j i = x := by simp [setA, upd]
theorem setA_ne (σ : MS) {j i q k : Nat} (x : Int32) (h : q ≠ j ∨ k ≠ i) : (setA σ j i x).2.1 q k = σ.2.1 q k := by
  simp only [setA]
  by_cases e : q = j
  · subst e
    rw [if_pos rfl]
    simp only [upd]
    rw [if_neg (by omega)]
  · rw [if_neg e]
theorem lay_19 (σ : MS) (V : Nat) (w : Int64) : (lay σ V w).1 19 = i32 (V + 1) := by simp [lay, setF, upd]
theorem lay_V (σ : MS) (V : Nat) (w : Int64) : (lay σ V w).2.2 V = w := by simp [lay, setF, setL, vp_updL]
theorem lay_kp (σ : MS) (V : Nat) (w : Int64) (E T : Nat) : kp σ (lay σ V w) V E T := ⟨fun i hi => by
  simp only [lay, setF, setL, vp_updL]
  rw [if_neg (by omega)], fun _ _ => rfl, fun _ _ => rfl, rfl⟩
theorem lay_ch {F : List Nat} (A : List Nat) (σ : MS) (V : Nat) (w : Int64) (h : 19 ∈ F) : ch F A σ (lay σ V w) := ⟨fun k hk => by
  simp only [lay, setF, setL, upd]
  rw [if_neg (fun e => hk (by rw [e]; exact h))], fun _ _ => rfl⟩
/-- how many signs of functions wait in a value -/
def wv : Tr → Nat
  | .leaf _ => 0
  | .branch s a b => if s = 92 then ln a else wv a + wv b
theorem wv_HT {L : Lw} : ∀ (t : Tr) (Γ : List Tr) (m : Bool) (s : Tr), HT L t Γ m s → (m = true → dta s) → wv t = 0 := by
  intro t
  induction t with
  | leaf c => intro Γ m s _ _; rfl
  | branch c a b iha ihb =>
    intro Γ m s h hd
    simp only [HT] at h
    rcases h with ⟨h1, h2, x, y, h3, h4, h5⟩ | ⟨h1, h2, h3, x, y, h4, h5, h6⟩ | ⟨h0, h⟩
    · subst h2 h3
      have hd' := hd h1
      simp [wv, iha _ _ _ h4 (fun _ => hd'.2.1), ihb _ _ _ h5 (fun _ => hd'.2.2)]
    · subst h4
      exact absurd (hd h1).1 (by decide)
    · rcases h with ⟨h1, x, h2, h3, h4⟩ | ⟨h1, h2, y, h3⟩ | ⟨h1, h2, y, h3⟩
      · subst h1
        simp [wv, iha _ _ _ h3 (fun h => by simp at h), ihb _ _ _ h4 (fun _ => h2)]
      · subst h1 h2
        simp [wv, iha _ _ _ h3 (fun h => by simp at h)]
      · subst h1 h2
        simp [wv, iha _ _ _ h3 (fun h => by simp at h)]
theorem wv_EF {L : Lw} {N : List Tr} : ∀ (s v : Tr), EF L N s v → wv v = 0 := by
  intro s
  induction s with
  | leaf f =>
    intro v h
    rcases h with ⟨_, rfl⟩ | h
    · rfl
    · exact wv_HT _ _ _ _ h (fun h => by simp at h)
  | branch s x y ihx ihy =>
    intro v h
    rcases h with ⟨h1, a, b, h2, h3, h4⟩ | h
    · subst h2; simp [wv, ihx _ h3, ihy _ h4]
    · exact wv_HT _ _ _ _ h (fun h => by simp at h)
/-- a component taken -/
theorem m_taken1 {σ : MS} {V E T v : Nat} {t : Tr} (h : rpM σ V E T false t v) (hV : σ.1 19 = i32 V) (hv : V < 2400) (hE : E ≤ 120) (hT : T ≤ 9400) : ∃ v' τ V', f_taken (i32 v) (i32 3) σ = some (i32 v', τ) ∧ τ.1 19 = i32 V' ∧ V ≤ V' ∧ (V' ≤ V + 1 ∧ V' + wv (fstV t) ≤ V + 1 + wv t) ∧ rpM τ V' E T false (fstV t) v' ∧ kp σ τ V E T ∧ ch [19] [] σ τ := by
  have hlt := rp_V h
  have make : ∀ s a b l, s ≠ 5 → s < 16 → a < 65536 → b < 65536 → l < 65536 → σ.2.2 v = pk s a b l → f_taken (i32 v) (i32 3) σ = some (i32 V, lay σ V (pk 3 v 0 0)) := by
    intro s a b l h5 h1 h2 h3 h4 hk
    unfold f_taken
    rw [m_sortOf (by omega) hk h1 h2 h3 h4, Option.bind_some]
    simp (disch := omega) only [z5, z_eqF, if_false, z0]
    rw [m_lays hV hv (by omega) (by omega) (by omega) (by omega)]
    rfl
  have fin : fstV t = un 60 t → f_taken (i32 v) (i32 3) σ = some (i32 V, lay σ V (pk 3 v 0 0)) → ∃ v' τ V', f_taken (i32 v) (i32 3) σ = some (i32 v', τ) ∧ τ.1 19 = i32 V' ∧ V ≤ V' ∧ (V' ≤ V + 1 ∧ V' + wv (fstV t) ≤ V + 1 + wv t) ∧ rpM τ V' E T false (fstV t) v' ∧ kp σ τ V E T ∧ ch [19] [] σ τ := by
    intro e e2
    refine ⟨V, _, V + 1, e2, lay_19 _ _ _, by omega, ⟨by omega, by rw [e]; simp [un, wv]⟩, ?_, lay_kp _ _ _ _ _, lay_ch _ _ _ _ (by decide)⟩
    rw [e]
    refine ⟨by omega, Or.inr (Or.inr (Or.inl ⟨rfl, rfl, v, lay_V _ _ _, ?_⟩))⟩
    exact rp_kp (lay_kp σ V _ E T) (by omega) (by omega) (by omega) _ _ _ h
  cases t with
  | leaf s =>
    refine fin rfl ?_
    rcases h.2 with ⟨h1, h2, h3⟩ | ⟨h1, h2, h3⟩ | ⟨h1, h3⟩
    · exact make _ _ _ _ (by decide) (by omega) (by omega) (by omega) (by omega) h3
    · exact make _ _ _ _ (by decide) (by omega) (by omega) (by omega) (by omega) h3
    · exact make _ _ _ _ (by decide) (by omega) (by omega) (by omega) (by omega) h3
  | branch s a b =>
    rcases h.2 with ⟨h1, p, q, h2, h3, h4⟩ | ⟨h1, p, q, h2, h3, h4⟩ | ⟨h1, hb, p, h2, h3⟩ | ⟨h1, hb, p, h2, h3⟩ | ⟨h1, p, e, h2, h3, h4, h5, h6, h7, h7', h8⟩
    · subst h1
      exact fin (by simp [fstV]) (make _ _ _ _ (by decide) (by omega) (by have := rp_V h3; omega) (by have := rp_V h4; omega) (by omega) h2)
    · subst h1
      have hp := rp_V h3
      have hq := rp_V h4
      refine ⟨p, σ, V, ?_, hV, by omega, ⟨by omega, by simp [fstV, wv]; omega⟩, by simpa [fstV] using h3, kp_rf _ _ _ _, ch_rf _ _ _⟩
      unfold f_taken
      rw [m_sortOf (by omega) h2 (by omega) (by omega) (by omega) (by omega), Option.bind_some]
      simp (disch := omega) only [z5, z3, z_eqT, if_true]
      rw [m_aOf (by omega) h2 (by omega) (by omega) (by omega) (by omega)]
      rfl
    · subst h1
      exact fin (by simp [fstV]) (make _ _ _ _ (by decide) (by omega) (by have := rp_V h3; omega) (by omega) (by omega) h2)
    · subst h1
      exact fin (by simp [fstV]) (make _ _ _ _ (by decide) (by omega) (by have := rp_V h3; omega) (by omega) (by omega) h2)
    · subst h1
      have he := rp_E _ _ h8
      exact fin (by simp [fstV]) (make _ _ _ _ (by decide) (by omega) (by omega) (by omega) (by omega) h2)
theorem m_taken2 {σ : MS} {V E T v : Nat} {t : Tr} (h : rpM σ V E T false t v) (hV : σ.1 19 = i32 V) (hv : V < 2400) (hE : E ≤ 120) (hT : T ≤ 9400) : ∃ v' τ V', f_taken (i32 v) (i32 4) σ = some (i32 v', τ) ∧ τ.1 19 = i32 V' ∧ V ≤ V' ∧ (V' ≤ V + 1 ∧ V' + wv (sndV t) ≤ V + 1 + wv t) ∧ rpM τ V' E T false (sndV t) v' ∧ kp σ τ V E T ∧ ch [19] [] σ τ := by
  have hlt := rp_V h
  have make : ∀ s a b l, s ≠ 5 → s < 16 → a < 65536 → b < 65536 → l < 65536 → σ.2.2 v = pk s a b l → f_taken (i32 v) (i32 4) σ = some (i32 V, lay σ V (pk 4 v 0 0)) := by
    intro s a b l h5 h1 h2 h3 h4 hk
    unfold f_taken
    rw [m_sortOf (by omega) hk h1 h2 h3 h4, Option.bind_some]
    simp (disch := omega) only [z5, z_eqF, if_false, z0]
    rw [m_lays hV hv (by omega) (by omega) (by omega) (by omega)]
    rfl
  have fin : sndV t = un 62 t → f_taken (i32 v) (i32 4) σ = some (i32 V, lay σ V (pk 4 v 0 0)) → ∃ v' τ V', f_taken (i32 v) (i32 4) σ = some (i32 v', τ) ∧ τ.1 19 = i32 V' ∧ V ≤ V' ∧ (V' ≤ V + 1 ∧ V' + wv (sndV t) ≤ V + 1 + wv t) ∧ rpM τ V' E T false (sndV t) v' ∧ kp σ τ V E T ∧ ch [19] [] σ τ := by
    intro e e2
    refine ⟨V, _, V + 1, e2, lay_19 _ _ _, by omega, ⟨by omega, by rw [e]; simp [un, wv]⟩, ?_, lay_kp _ _ _ _ _, lay_ch _ _ _ _ (by decide)⟩
    rw [e]
    refine ⟨by omega, Or.inr (Or.inr (Or.inr (Or.inl ⟨rfl, rfl, v, lay_V _ _ _, ?_⟩)))⟩
    exact rp_kp (lay_kp σ V _ E T) (by omega) (by omega) (by omega) _ _ _ h
  cases t with
  | leaf s =>
    refine fin rfl ?_
    rcases h.2 with ⟨h1, h2, h3⟩ | ⟨h1, h2, h3⟩ | ⟨h1, h3⟩
    · exact make _ _ _ _ (by decide) (by omega) (by omega) (by omega) (by omega) h3
    · exact make _ _ _ _ (by decide) (by omega) (by omega) (by omega) (by omega) h3
    · exact make _ _ _ _ (by decide) (by omega) (by omega) (by omega) (by omega) h3
  | branch s a b =>
    rcases h.2 with ⟨h1, p, q, h2, h3, h4⟩ | ⟨h1, p, q, h2, h3, h4⟩ | ⟨h1, hb, p, h2, h3⟩ | ⟨h1, hb, p, h2, h3⟩ | ⟨h1, p, e, h2, h3, h4, h5, h6, h7, h7', h8⟩
    · subst h1
      exact fin (by simp [sndV]) (make _ _ _ _ (by decide) (by omega) (by have := rp_V h3; omega) (by have := rp_V h4; omega) (by omega) h2)
    · subst h1
      have hp := rp_V h3
      have hq := rp_V h4
      refine ⟨q, σ, V, ?_, hV, by omega, ⟨by omega, by simp [sndV, wv]; omega⟩, by simpa [sndV] using h4, kp_rf _ _ _ _, ch_rf _ _ _⟩
      unfold f_taken
      rw [m_sortOf (by omega) h2 (by omega) (by omega) (by omega) (by omega), Option.bind_some]
      simp (disch := omega) only [z5, z3, z_eqT, z_eqF, if_true, if_false]
      rw [m_bOf (by omega) h2 (by omega) (by omega) (by omega) (by omega)]
      rfl
    · subst h1
      exact fin (by simp [sndV]) (make _ _ _ _ (by decide) (by omega) (by have := rp_V h3; omega) (by omega) (by omega) h2)
    · subst h1
      exact fin (by simp [sndV]) (make _ _ _ _ (by decide) (by omega) (by have := rp_V h3; omega) (by omega) (by omega) h2)
    · subst h1
      have he := rp_E _ _ h8
      exact fin (by simp [sndV]) (make _ _ _ _ (by decide) (by omega) (by omega) (by omega) (by omega) h2)
theorem z_pred (n : Nat) : i32 (n + 1) + (-1) = i32 n := by
  unfold i32
  rw [← Int32.ofInt_eq_ofNat, ← Int32.ofInt_eq_ofNat, show (-1 : Int32) = Int32.ofInt (-1) from rfl, ← Int32.ofInt_add]
  congr 1
  omega
theorem m_isOpen {c : Nat} (hc : c < 2147483648) (σ : MS) : f_isOpen (i32 c) σ = some (if c = 46 ∨ c = 44 ∨ c = 60 ∨ c = 62 then i32 1 else i32 0, σ) := by
  unfold f_isOpen B_isOpen_24 B_isOpen_29
  by_cases h1 : c = 46
  · subst h1; rfl
  by_cases h2 : c = 44
  · subst h2; rfl
  by_cases h3 : c = 60
  · subst h3; rfl
  by_cases h4 : c = 62
  · subst h4; rfl
  have e : bzb (i32 0) = true := rfl
  have e2 : ¬ (c = 46 ∨ c = 44 ∨ c = 60 ∨ c = 62) := by omega
  simp (disch := omega) only [z0, z1, z2, z3, z4, z5, z6, z7, z8, z9, z10, z13, z15, z20, z32, z33, z40, z42, z44, z46, z48, z49, z50, z51, z57, z58, z60, z62, z65, z67, z80, z83, z92, z97, z100, z102, z255, z357, z612, z969, z1326, z1734, z10000, z_add, z_mul, z_sub, z_ltT, z_ltF, z_leT, z_leF, z_eqT, z_eqF, z_nn, z_ixT, z_ixF, if_true, if_false, Option.bind_some, e, e2]
/-- what a row of values tells -/
theorem rp_lk {σ : MS} {V E T e : Nat} : ∀ (ρ : List Tr), rpM σ V E T true (eL ρ) e → ∀ i, i < ρ.length → ∃ q, σ.2.1 11 (10 * e + i) = i32 q ∧ rpM σ V E T false (lk ρ i) q := by
  intro ρ
  induction ρ using rev_ind with
  | h0 => intro _ i hi; simp at hi
  | h1 ρ u ih =>
    intro h i hi
    rw [eL_snoc] at h
    obtain ⟨h1, ⟨q, h2, h3⟩, h4⟩ := h
    rw [dL_eL] at h2
    by_cases hj : i < ρ.length
    · rw [lk_lt _ hj]; exact ih h4 i hj
    · simp at hi
      obtain rfl : i = ρ.length := by omega
      rw [lk_last]
      exact ⟨q, h2, h3⟩
theorem rp_len {σ : MS} {V E T e : Nat} (ρ : List Tr) (h : rpM σ V E T true (eL ρ) e) : ρ.length ≤ 10 := by
  induction ρ using rev_ind with
  | h0 => simp
  | h1 ρ u ih =>
    rw [eL_snoc] at h
    have := h.1
    rw [dL_eL] at this
    simp; omega
/-- a sign without parts, as a value -/
theorem m_valueL {L : Lw} {σ : MS} {V E T e c p lv : Nat} {Γ ρ : List Tr} {m : Bool} {s : Tr} (h : HT L (.leaf c) Γ m s) (hL : L.2.length ≤ 4) (hg : σ.2.1 1 p = i32 c) (hp : p < 9400) (hr : rpM σ V E T true (eL ρ) e) (hρ : ρ.length = Γ.length) (hE : E ≤ 120) (hV : σ.1 19 = i32 V) (hv : V < 2400) : ∃ v τ V', f_valueAt (i32 p) (i32 lv) (i32 e) σ = some (i32 v, τ) ∧ τ.1 19 = i32 V' ∧ V ≤ V' ∧ (V' ≤ V + 1 ∧ ((∀ u ∈ ρ, wv u = 0) → V' + wv (evD (.leaf c) ρ) ≤ V + 1)) ∧ rpM τ V' E T false (evD (.leaf c) ρ) v ∧ kp σ τ V E T ∧ ch [19] [] σ τ := by
  have he := rp_E _ _ hr
  have hlen := rp_len _ hr
  simp only [HT] at h
  unfold f_valueAt B_valueAt_78
  rcases h with ⟨h1, h2, h3⟩ | ⟨h1, h2⟩
  · subst h2
    simp (disch := omega) only [z_nn, z_ixT, al1, al2, al3, al4, al5, al6, al7, al8, al9, al10, al11, al12, al13, al14, al15, al16, al17, al18, al19, al20, al21, al22, al23, al24, al25, al26, al27, al28, al29, al30, al31, al32, al33, if_true, hg, z92, z42, z_eqF, if_false, z6, z0, m_lays hV hv, Option.bind_some]
    exact ⟨V, _, V + 1, rfl, lay_19 _ _ _, by omega, ⟨by omega, fun _ => by simp [evD, wv]⟩, ⟨by omega, Or.inr (Or.inr ⟨rfl, lay_V _ _ _⟩)⟩, lay_kp _ _ _ _ _, lay_ch _ _ _ _ (by decide)⟩
  · unfold hdS at h2
    split at h2
    · rename_i hc
      have hi := (List.getElem?_eq_some_iff.mp h2).1
      obtain ⟨q, h4, h5⟩ := rp_lk ρ hr (c - 48) (by omega)
      simp (disch := omega) only [z_nn, z_ixT, al1, al2, al3, al4, al5, al6, al7, al8, al9, al10, al11, al12, al13, al14, al15, al16, al17, al18, al19, al20, al21, al22, al23, al24, al25, al26, al27, al28, al29, al30, al31, al32, al33, if_true, hg, z92, z42, z57, z48, z10, z_mul, z_add, z_sub, z_eqF, z_ltF, if_false]
      refine ⟨q, σ, V, ?_, hV, by omega, ?_, by simp only [evD, if_pos hc]; exact h5, kp_rf _ _ _ _, ch_rf _ _ _⟩
      · rw [show 10 * e + c - 48 = 10 * e + (c - 48) by omega, h4]
      · refine ⟨by omega, fun hW => ?_⟩
        simp only [evD, if_pos hc]
        have : wv (lk ρ (c - 48)) = 0 := by
          simp only [lk, List.getD_eq_getElem?_getD]
          rw [List.getElem?_eq_getElem (by omega)]
          exact hW _ (List.getElem_mem _)
        omega
    · rename_i hc
      have hcc : 97 ≤ c ∧ c ≤ 100 := by
        split at h2
        · rename_i h3
          rw [Option.map_eq_some_iff] at h2
          obtain ⟨a, h2, _⟩ := h2
          have := (List.getElem?_eq_some_iff.mp h2).1
          omega
        · simp at h2
      simp (disch := omega) only [z_nn, z_ixT, al1, al2, al3, al4, al5, al6, al7, al8, al9, al10, al11, al12, al13, al14, al15, al16, al17, al18, al19, al20, al21, al22, al23, al24, al25, al26, al27, al28, al29, al30, al31, al32, al33, if_true, hg, z92, z42, z57, z_eqF, z_ltT, if_false, z1, z0, m_lays hV hv, Option.bind_some]
      exact ⟨V, _, V + 1, rfl, lay_19 _ _ _, by omega, ⟨by omega, fun _ => by simp [evD, if_neg hc, wv]⟩, by simp only [evD, if_neg hc]; exact ⟨by omega, Or.inr (Or.inl ⟨hcc.1, hcc.2, lay_V _ _ _⟩)⟩, lay_kp _ _ _ _ _, lay_ch _ _ _ _ (by decide)⟩
end MREP
