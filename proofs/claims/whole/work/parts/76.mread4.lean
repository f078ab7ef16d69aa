section MREAD4
variable {L : Lw} {ents : List (Tr × Tr)} {tx : List Nat}
/-- where the form that was read stands: not among what is kept -/
def lo54 (τ : MS) : Prop := ∀ g, τ.1 54 = i32 g → g < 9400 → 1734 ≤ g
theorem lo54_of {τ : MS} {h : Nat} (e : τ.1 54 = i32 h) (h1 : 1734 ≤ h) (h2 : h < 9400) : lo54 τ := fun g hg hb => by
  rw [e] at hg
  have := z_eq (a := h) (b := g) (by omega) (by omega)
  have e2 : h = g := this ▸ hg
  omega
/-- a part has ended, of the text from p to q -/
def EndC (L : Lw) (ents : List (Tr × Tr)) (tx : List Nat) (vt : List Rq) (σ τ : MS) (p q V E T V' E' T' P k : Nat) : Prop := RS L ents tx τ ∧ DS vt τ V' E' T' q ∧ V ≤ V' ∧ V' + 25 ≤ V + 26 * (q - p) ∧ E ≤ E' ∧ E' ≤ E + (q - p) ∧ T ≤ T' ∧ T' ≤ T + 160 * (q - p) ∧ GR σ τ V E T P ∧ τ.1 44 = i32 P ∧ τ.1 52 = i32 k ∧ τ.1 53 = i32 p ∧ lo54 τ
def at_ (τ : MS) (T : Nat) (t : Tr) (x : Int32) : Prop := ∃ g, x = i32 g ∧ fm (τ.2.1 1) t g ∧ g + ln t ≤ T
def RunE (σ : MS) (F V E T e : Nat) : Prop := e ≤ 40 ∧ ∃ τ, L_readsWhole_15 F σ = some (0, τ) ∧ τ.1 57 = i32 e ∧ kp σ τ V E T ∧ ch FR AR σ τ
def RunI (L : Lw) (ents : List (Tr × Tr)) (tx : List Nat) (vt : List Rq) (σ : MS) (p V E T P F nd : Nat) (rq : Rq) (r : Except Nat (Tr × Tr × Nat)) : Prop :=
  match r with
  | .ok y => (Sat nd rq y.1 vt.length → ∃ F' τ V' E' T', F ≤ F' + 4 * (y.2.2 - p) ∧ L_readsWhole_15 F σ = L_readsWhole_15 F' τ ∧ EndC L ents tx vt σ τ p y.2.2 V E T V' E' T' P 2 ∧ at_ τ T' y.2.1 (τ.1 54) ∧ at_ τ T' y.1 (τ.1 55)) ∧ (¬ Sat nd rq y.1 vt.length → RunE σ F V E T p)
  | .error e => RunE σ F V E T e
def RunC (L : Lw) (ents : List (Tr × Tr)) (tx : List Nat) (vt : List Rq) (σ : MS) (p V E T P F k : Nat) (r : Except Nat (Tr × Nat)) : Prop :=
  match r with
  | .ok y => ∃ F' τ V' E' T', F ≤ F' + 4 * (y.2 - p) ∧ L_readsWhole_15 F σ = L_readsWhole_15 F' τ ∧ EndC L ents tx vt σ τ p y.2 V E T V' E' T' P k ∧ at_ τ T' y.1 (τ.1 54)
  | .error e => RunE σ F V E T e
/-- the state before something is read -/
def Beg (L : Lw) (ents : List (Tr × Tr)) (tx : List Nat) (vt : List Rq) (σ : MS) (p V E T P F d : Nat) : Prop := vtOK L vt ∧ RS L ents tx σ ∧ DS vt σ V E T p ∧ σ.1 44 = i32 P ∧ P ≤ p ∧ p ≤ tx.length ∧ σ.1 45 = i32 d ∧ σ.1 52 = i32 0 ∧ 4 * (33 - p) + 10 ≤ F
def CT (L : Lw) (ents : List (Tr × Tr)) (tx : List Nat) (r : RT) (K : Nat) : Prop := ∀ vt p V E T P F σ, Beg L ents tx vt σ p V E T P F 1 → 2 * (33 - p) ≤ K → RunC L ents tx vt σ p V E T P F 1 (r vt p)
def CC (L : Lw) (ents : List (Tr × Tr)) (tx : List Nat) (r : RC) (K : Nat) : Prop := ∀ vt rq p V E T P F σ, Beg L ents tx vt σ p V E T P F 0 → Need L σ V E T vt 3 rq → 2 * (33 - p) ≤ K → RunC L ents tx vt σ p V E T P F 2 (r vt rq p)
def CI (L : Lw) (ents : List (Tr × Tr)) (tx : List Nat) (r : RN) (K : Nat) : Prop := ∀ vt rq nd p V E T P F σ, Beg L ents tx vt σ p V E T P F 0 → Need L σ V E T vt nd rq → (nd = 3 → byt tx p ≠ 42 ∧ byt tx p ≠ 44 ∧ byt tx p ≠ 92) → 2 * (33 - p) ≤ K + 1 → RunI L ents tx vt σ p V E T P F nd rq (r vt p)
theorem FE_FR {a b : MS} (h : ch FE AF a b) : ch FR AR a b := cFR h
/-- what is found ends a part -/
theorem FndRun (hw : WL L ents tx) {vt : List Rq} {σ σ1 : MS} {f : Option (Int32 × MS)} {p q V E T V1 E1 T1 P F nd : Nat} {rq : Rq} {Ty t : Tr} {F0 : Nat} (hstep : L_readsWhole_15 F0 σ = f.bind fun q => L_readsWhole_15 F q.2) (hF0 : F0 ≤ F + 4 * (q - p)) (hF : 1 ≤ F) (hp : p ≤ 32) (hpq : p < q) (hq : q ≤ 33) (hg : GR σ σ1 V E T P) (hs : RS L ents tx σ1) (h44 : σ1.1 44 = i32 P) (h46 : σ1.1 46 = i32 vt.length) (h56 : σ1.1 56 = i32 q) (hnt : ∀ (k : Nat) (rq : Rq), vt[k]? = some rq → ntOK σ1 T1 rq k (σ1.2.1 32 k)) (bV : V ≤ V1) (bV2 : V1 + 25 ≤ V + 26 * (q - p)) (bE : E ≤ E1) (bE2 : E1 ≤ E + (q - p)) (bT : T ≤ T1) (bT2 : T1 + 160 ≤ T + 160 * (q - p)) (aV : V ≤ 20 + 26 * p) (aE : E ≤ 1 + p) (aT : 1734 ≤ T) (aT2 : T ≤ 1734 + 160 * p) (aV0 : 20 ≤ V) (aE0 : 1 ≤ E) (hf : Fnd σ1 f V1 E1 T1 p vt.length nd rq Ty t) : RunI L ents tx vt σ p V E T P F0 nd rq (stl Ty t vt.length p q) := by
  have bad : (∃ τ, f = some (0, τ) ∧ kp σ1 τ V1 E1 T1 ∧ ch FE AF σ1 τ ∧ τ.1 57 = i32 p) → RunE σ F0 V E T p := by
    rintro ⟨τ, e1, e2, e3, e4⟩
    obtain ⟨G, rfl⟩ : ∃ G, F = G + 1 := ⟨F - 1, by omega⟩
    refine ⟨by omega, τ, ?_, e4, kp_tr hg.1 e2 bV bE bT, ch_tr hg.2.1 (FE_FR e3)⟩
    rw [hstep, e1, Option.bind_some]
    exact rw_err e4 (by omega)
  by_cases hfit : fits Ty vt.length ∧ fits t vt.length
  · have e : stl Ty t vt.length p q = .ok (Ty, t, q) := cif_pos hfit _ _
    rw [e]
    constructor
    · intro hsat
      obtain ⟨τ, T', g, h, e1, e2, e3, e4, e5, e6, e7, e8, e9, e10, e11, e12, e13, e14, e15, e16, e17, e18⟩ := hf.1 ⟨hfit.1, hfit.2, hsat⟩
      clear hf
      have grt : GR σ1 τ V1 E1 T1 P := GR_Y e2 e3 (by simp only [FE, FR]; intro k hk; simp at hk ⊢; omega) (by simp only [AF, AR]; intro k hk; simp at hk ⊢; omega) (by simp only [AF]; intro k hk; simp at hk; omega)
      refine ⟨F, τ, V1, E1, T', hF0, by rw [hstep, e1, Option.bind_some], ⟨RS_kp hw hs e2 (by omega) (by omega) (by omega) (FE_FR e3), ⟨e4, e7, e8, ?_, ?_, e9, by show V1 ≤ 20 + 26 * q; omega, by show E1 ≤ 1 + q; omega, by omega, by show T' ≤ 1734 + 160 * q; omega, by omega, by omega, fun k rq hk => ?_⟩, bV, bV2, bE, bE2, by omega, by show T' ≤ T + 160 * (q - p); omega, GR_tr hg grt bV bE bT (Nat.le_refl _), ?_, e10, e11, lo54_of e12 e18 (by omega)⟩, ⟨h, e12, e13, e14⟩, ⟨g, e15, e16, e17⟩⟩
      · rw [e3.1 46 (by simp [FE])]; exact h46
      · rw [e3.1 56 (by simp [FE])]; exact h56
      · rw [e3.2 32 (by simp [AF])]
        exact nt_kp (hnt k rq hk) (kp_le e2 (Nat.le_refl _) (Nat.le_refl _) (Nat.le_refl _)) (by omega)
      · rw [e3.1 44 (by simp [FE])]; exact h44
    · intro hsat
      exact bad (hf.2 (fun h => hsat h.2.2))
  · have e : stl Ty t vt.length p q = .error p := cif_neg hfit _ _
    rw [e]
    exact bad (hf.2 (fun h => hfit ⟨h.1, h.2.1⟩))
/-- a fault in one step -/
theorem E1 {σ : MS} {F V E T e : Nat} {τ : MS} (hF : 1 ≤ F) (he : e ≤ 40) (hstep : L_readsWhole_15 (F + 1) σ = L_readsWhole_15 F τ) (h57 : τ.1 57 = i32 e) (hk : kp σ τ V E T) (hc : ch FR AR σ τ) : RunE σ (F + 1) V E T e := by
  obtain ⟨G, rfl⟩ : ∃ G, F = G + 1 := ⟨F - 1, by omega⟩
  exact ⟨he, τ, by rw [hstep]; exact rw_err h57 (by omega), h57, hk, hc⟩
/-- can a name, a constant or a term that is found stand here -/
theorem m_canStand {σ : MS} {c n m : Nat} (hc : c < 256) (hn : n ≤ 10) (hm : m ≤ 4) (h46 : σ.1 46 = i32 n) (h5 : σ.1 5 = i32 m) : f_canStand (i32 c) σ = some (if (48 ≤ c ∧ c - 48 < n) ∨ (97 ≤ c ∧ c - 97 < m) ∨ c = 58 ∨ c = 46 ∨ c = 60 ∨ c = 62 then i32 1 else i32 0, σ) := by
  have e54 : B_canStand_54 (B_canStand_78 B_canStand_83) B_canStand_83 (i32 c) σ = some (if c = 58 ∨ c = 46 ∨ c = 60 ∨ c = 62 then i32 1 else i32 0, σ) := by
    unfold B_canStand_54 B_canStand_78 B_canStand_83
    by_cases h1 : c = 58
    · subst h1; rfl
    by_cases h2 : c = 46
    · subst h2; rfl
    by_cases h3 : c = 60
    · subst h3; rfl
    by_cases h4 : c = 62
    · subst h4; rfl
    rw [if_neg (show ¬ (i32 c = 58) from c_eq (b := 58) h1 (by omega) (by omega)), if_neg (show ¬ (i32 c = 46) from c_eq (b := 46) h2 (by omega) (by omega)), if_neg (show ¬ (i32 c = 60) from c_eq (b := 60) h3 (by omega) (by omega)), if_neg (show ¬ (i32 c = 62) from c_eq (b := 62) h4 (by omega) (by omega)), if_neg (show ¬ (c = 58 ∨ c = 46 ∨ c = 60 ∨ c = 62) by omega)]
    rfl
  have le32 : ∀ a b : Nat, a < 1000 → b < 1000 → ((i32 a ≤ i32 b) ↔ a ≤ b) := fun a b h1 h2 => by rw [z_le (by omega) (by omega)]
  have e27 : B_canStand_27 (i32 c) 0 σ = some (if (97 ≤ c ∧ c - 97 < m) ∨ c = 58 ∨ c = 46 ∨ c = 60 ∨ c = 62 then i32 1 else i32 0, σ) := by
    unfold B_canStand_27
    rw [if_pos rfl, m_in]
    by_cases h : 97 ≤ c ∧ c ≤ 100
    · rw [if_pos (show (97 : Int32) ≤ i32 c ∧ i32 c ≤ 100 from ⟨(le32 97 c (by omega) (by omega)).mpr h.1, (le32 c 100 (by omega) (by omega)).mpr h.2⟩), Option.bind_some]
      dsimp only
      rw [if_neg (show ¬ ((1 : Int32) = 0) from by decide), h5, show i32 c - 97 = i32 (c - 97) from by rw [z97, z_sub h.1]]
      by_cases h2 : c - 97 < m
      · rw [if_pos (show i32 (c - 97) < i32 m from by rw [z_lt (by omega) (by omega)]; exact h2), if_pos (Or.inl ⟨h.1, h2⟩)]
        rfl
      · rw [if_neg (show ¬ (i32 (c - 97) < i32 m) from by rw [z_lt (by omega) (by omega)]; exact h2), e54, if_neg (by omega), if_neg (by omega)]
    · rw [if_neg (show ¬ ((97 : Int32) ≤ i32 c ∧ i32 c ≤ 100) from fun h2 => h ⟨(le32 97 c (by omega) (by omega)).mp h2.1, (le32 c 100 (by omega) (by omega)).mp h2.2⟩), Option.bind_some]
      dsimp only
      rw [if_pos rfl, e54]
      by_cases h3 : c = 58 ∨ c = 46 ∨ c = 60 ∨ c = 62
      · rw [if_pos h3, if_pos (Or.inr h3)]
      · rw [if_neg h3, if_neg (by omega)]
  unfold f_canStand
  rw [m_in]
  by_cases h : 48 ≤ c ∧ c ≤ 57
  · rw [if_pos (show (48 : Int32) ≤ i32 c ∧ i32 c ≤ 57 from ⟨(le32 48 c (by omega) (by omega)).mpr h.1, (le32 c 57 (by omega) (by omega)).mpr h.2⟩), Option.bind_some]
    dsimp only
    rw [if_neg (show ¬ ((1 : Int32) = 0) from by decide), h46, z_sub48 h.1]
    by_cases h2 : c - 48 < n
    · rw [if_neg (show ¬ (i32 n ≤ i32 (c - 48)) from by rw [z_le (by omega) (by omega)]; omega), if_pos (Or.inl ⟨h.1, h2⟩)]
      rfl
    · rw [if_pos (show i32 n ≤ i32 (c - 48) from by rw [z_le (by omega) (by omega)]; omega), B_canStand_26, e27, if_neg (by omega), if_neg (by omega)]
  · rw [if_neg (show ¬ ((48 : Int32) ≤ i32 c ∧ i32 c ≤ 57) from fun h2 => h ⟨(le32 48 c (by omega) (by omega)).mp h2.1, (le32 c 57 (by omega) (by omega)).mp h2.2⟩), Option.bind_some]
    dsimp only
    rw [if_pos rfl, B_canStand_26, e27]
    by_cases h3 : (97 ≤ c ∧ c - 97 < m) ∨ c = 58 ∨ c = 46 ∨ c = 60 ∨ c = 62
    · rw [if_pos h3, if_pos (Or.inr h3)]
    · rw [if_neg h3, if_neg (by omega)]
end MREAD4
