section TOP1
variable {L : Lw} {ents : List (Tr × Tr)} {tx : List Nat}
theorem vtOK_nil (L : Lw) : vtOK L [] := ⟨Nat.zero_le _, fun k rq h => by simp at h⟩
/-- the reference before a whole reading -/
def wz (σ : MS) : MS := setF (setF (setF σ 44 0) 46 0) 52 0
theorem wz_o (σ : MS) {k : Nat} (h1 : k ≠ 44) (h2 : k ≠ 46) (h3 : k ≠ 52) : (wz σ).1 k = σ.1 k := by
  unfold wz
  rw [setF_ne _ _ h3, setF_ne _ _ h2, setF_ne _ _ h1]
theorem wz_2 (σ : MS) : (wz σ).2 = σ.2 := Eq.trans rfl rfl
theorem wz_GR (σ : MS) (V E T : Nat) : GR σ (wz σ) V E T 0 := GR_tr (GR_tr (GR_F σ 0 (by simp [FR]) V E T 0) (GR_F _ 0 (by simp [FR]) V E T 0) (Nat.le_refl _) (Nat.le_refl _) (Nat.le_refl _) (Nat.le_refl _)) (GR_F _ 0 (by simp [FR]) V E T 0) (Nat.le_refl _) (Nat.le_refl _) (Nat.le_refl _) (Nat.le_refl _)
/-- where the reference stands between whole readings -/
def Pos (σ : MS) (V E T p : Nat) : Prop := σ.1 1 = i32 T ∧ σ.1 19 = i32 V ∧ σ.1 21 = i32 E ∧ σ.1 56 = i32 p ∧ σ.1 57 = -9 ∧ V ≤ 20 + 26 * p ∧ E ≤ 1 + p ∧ 1734 ≤ T ∧ T ≤ 1734 + 160 * p ∧ 20 ≤ V ∧ 1 ≤ E
theorem wz_Beg (hw : WL L ents tx) {σ : MS} {V E T p d : Nat} (hs : RS L ents tx σ) (hp : Pos σ V E T p) (hpl : p ≤ tx.length) (h45 : σ.1 45 = i32 d) : Beg L ents tx [] (wz σ) p V E T 0 10000 d := by
  obtain ⟨a1, a2, a3, a4, a5, a6, a7, a8, a9, a10, a11⟩ := hp
  have g := wz_GR σ V E T
  have hl := hw.2.2.2.1
  have e46 : (wz σ).1 46 = i32 0 := by
    unfold wz
    rw [setF_ne _ _ (by decide), setF_eq]; rfl
  have e44 : (wz σ).1 44 = i32 0 := by
    unfold wz
    rw [setF_ne _ _ (by decide), setF_ne _ _ (by decide), setF_eq]; rfl
  have e52 : (wz σ).1 52 = i32 0 := by
    unfold wz
    rw [setF_eq]; rfl
  have hF : 4 * (33 - p) + 10 ≤ 10000 := Nat.le_trans (show 4 * (33 - p) + 10 ≤ 142 by omega) (Nat.le_of_ble_eq_true rfl)
  refine ⟨vtOK_nil L, RS_kp hw hs g.1 a10 a11 a8 g.2.1, ⟨?_, ?_, ?_, e46, ?_, ?_, a6, a7, a8, a9, a10, a11, fun k rq h => by simp at h⟩, e44, Nat.zero_le _, hpl, ?_, e52, hF⟩
  · rw [wz_o _ (by decide) (by decide) (by decide)]; exact a1
  · rw [wz_o _ (by decide) (by decide) (by decide)]; exact a2
  · rw [wz_o _ (by decide) (by decide) (by decide)]; exact a3
  · rw [wz_o _ (by decide) (by decide) (by decide)]; exact a4
  · rw [wz_o _ (by decide) (by decide) (by decide)]; exact a5
  · rw [wz_o _ (by decide) (by decide) (by decide)]; exact h45
theorem f_rw (σ : MS) : f_readsWhole σ = L_readsWhole_15 10000 (wz σ) := rfl
theorem F_pos {F' n q p : Nat} (h : 10000 ≤ F' + 4 * (q - p)) (hq : q ≤ 100) : ∃ G, F' = G + 1 := by
  have : 400 < 10000 := Nat.le_of_ble_eq_true rfl
  exact ⟨F' - 1, by omega⟩
/-- what a whole reading leaves -/
def Lft (σ τ : MS) (V E T : Nat) : Prop := kp σ τ V E T ∧ ch FR AR σ τ
theorem Lft_tr {σ τ υ : MS} {V E T V' E' T' : Nat} (h : Lft σ τ V E T) (g : Lft τ υ V' E' T') (hV : V ≤ V') (hE : E ≤ E') (hT : T ≤ T') : Lft σ υ V E T := ⟨kp_tr h.1 g.1 hV hE hT, ch_tr h.2 g.2⟩
def WhT (L : Lw) (ents : List (Tr × Tr)) (tx : List Nat) (σ : MS) (f : Option (Int32 × MS)) (V E T p : Nat) (r : Except Nat (Tr × Nat)) : Prop :=
  match r with
  | .ok y => ∃ x g τ V' E' T', f = some (x, τ) ∧ RS L ents tx τ ∧ Pos τ V' E' T' y.2 ∧ V ≤ V' ∧ E ≤ E' ∧ T ≤ T' ∧ Lft σ τ V E T ∧ τ.1 54 = i32 g ∧ fm (τ.2.1 1) y.1 g ∧ g + ln y.1 ≤ T' ∧ τ.1 53 = i32 p ∧ lo54 τ
  | .error e => e ≤ 40 ∧ ∃ x τ, f = some (x, τ) ∧ τ.1 57 = i32 e ∧ Lft σ τ V E T
theorem wh_end (hw : WL L ents tx) {σ : MS} {V E T p k : Nat} {r : Except Nat (Tr × Nat)} (hk : k = 1 ∨ k = 2) (hq : ∀ y, r = .ok y → y.2 ≤ tx.length) (h : RunC L ents tx [] (wz σ) p V E T 0 10000 k r) : WhT L ents tx σ (f_readsWhole σ) V E T p r := by
  have hl := hw.2.2.2.1
  have g := wz_GR σ V E T
  rw [f_rw]
  cases r with
  | error e =>
    obtain ⟨he, τ, e1, e2, e3, e4⟩ := h
    exact ⟨he, 0, τ, e1, e2, kp_tr g.1 e3 (Nat.le_refl _) (Nat.le_refl _) (Nat.le_refl _), ch_tr g.2.1 e4⟩
  | ok y =>
    obtain ⟨F', τ, V', E', T', x1, x2, ⟨x3, x4, x5, x6, x7, x8, x9, x10, x11, x12, x13, x14⟩, gg, x15, x16, x17⟩ := h
    obtain ⟨b1, b2, b3, b4, b5, b6, b7, b8, b9, b10, b11, b12, b13⟩ := x4
    have hq' := hq y rfl
    obtain ⟨G, rfl⟩ := F_pos (n := 0) x1 (by omega)
    refine ⟨0, gg, τ, V', E', T', by rw [x2]; exact rw_end b6 x12 hk x13, x3, ⟨b1, b2, b3, b5, b6, b7, b8, b9, b10, b11, b12⟩, x5, x7, x9, ⟨kp_tr g.1 x11.1 (Nat.le_refl _) (Nat.le_refl _) (Nat.le_refl _), ch_tr g.2.1 x11.2.1⟩, x15, x16, x17, x14⟩
/-- a whole type -/
theorem m_wholeType (hw : WL L ents tx) {σ : MS} {V E T p : Nat} (hs : RS L ents tx σ) (hp : Pos σ V E T p) (hpl : p ≤ tx.length) : WhT L ents tx σ (f_readsWhole (setF (setF σ 45 1) 47 0)) V E T p ((RD L ents tx 70).1 [] p) := by
  have hl := hw.2.2.2.1
  have g : GR σ (setF (setF σ 45 1) 47 0) V E T 0 := GR_tr (GR_F σ 1 (by simp [FR]) V E T 0) (GR_F _ 0 (by simp [FR]) V E T 0) (Nat.le_refl _) (Nat.le_refl _) (Nat.le_refl _) (Nat.le_refl _)
  have o : ∀ k, k ≠ 45 → k ≠ 47 → (setF (setF σ 45 1) 47 0).1 k = σ.1 k := fun k h1 h2 => by rw [setF_ne _ _ h2, setF_ne _ _ h1]
  have e45 : (setF (setF σ 45 1) 47 0).1 45 = i32 1 := by rw [setF_ne _ _ (by decide), setF_eq]; rfl
  generalize setF (setF σ 45 1) 47 0 = σ1 at g o e45
  obtain ⟨a1, a2, a3, a4, a5, a6, a7, a8, a9, a10, a11⟩ := hp
  have hs1 := RS_kp hw hs g.1 a10 a11 a8 g.2.1
  have hp1 : Pos σ1 V E T p := ⟨by rw [o 1 (by decide) (by decide)]; exact a1, by rw [o 19 (by decide) (by decide)]; exact a2, by rw [o 21 (by decide) (by decide)]; exact a3, by rw [o 56 (by decide) (by decide)]; exact a4, by rw [o 57 (by decide) (by decide)]; exact a5, a6, a7, a8, a9, a10, a11⟩
  have run := (CRD (tx := tx) hw 70).1 [] p V E T 0 10000 (wz σ1) (wz_Beg hw hs1 hp1 hpl e45) (by omega)
  have oT := (okRD (tx := tx) hw.1 hw.2.1 hw.2.2.1 70).1
  have w := wh_end hw (Or.inl rfl) (fun y hy => (oT [] p y (vtOK_nil L) hy).2.2.2) run
  generalize (RD L ents tx 70).1 [] p = r at w
  cases r with
  | error e =>
    obtain ⟨he, x, τ, e1, e2, e3⟩ := w
    exact ⟨he, x, τ, e1, e2, Lft_tr ⟨g.1, g.2.1⟩ e3 (Nat.le_refl _) (Nat.le_refl _) (Nat.le_refl _)⟩
  | ok y =>
    obtain ⟨x, gg, τ, V', E', T', x1, x2, x3, x4, x5, x6, x7, x8⟩ := w
    exact ⟨x, gg, τ, V', E', T', x1, x2, x3, x4, x5, x6, Lft_tr ⟨g.1, g.2.1⟩ x7 (Nat.le_refl _) (Nat.le_refl _) (Nat.le_refl _), x8⟩
/-- a whole term of a type -/
theorem m_wholeGiven (hw : WL L ents tx) {σ : MS} {V E T p q : Nat} {A : Tr} (hs : RS L ents tx σ) (hp : Pos σ V E T p) (hpl : p ≤ tx.length) (hA : WT L A []) (hf : fits A 0) (hm : fm (σ.2.1 1) A q) (hq : q + ln A ≤ T) : WhT L ents tx σ (f_readsWhole (due σ 3 (i32 q) 0 0)) V E T p ((RD L ents tx 70).2.1 [] (A, []) p) := by
  have hl := hw.2.2.2.1
  have g := due_GR σ 3 (i32 q) 0 0 V E T 0
  have o := fun {k : Nat} (h : k ≠ 45 ∧ (k < 47 ∨ 50 < k)) => due_o σ 3 (i32 q) 0 0 h
  have dp := due_p σ 3 (i32 q) 0 0
  generalize due σ 3 (i32 q) 0 0 = σ1 at g o dp
  obtain ⟨a1, a2, a3, a4, a5, a6, a7, a8, a9, a10, a11⟩ := hp
  have hs1 := RS_kp hw hs g.1 a10 a11 a8 g.2.1
  have hp1 : Pos σ1 V E T p := ⟨by rw [o ⟨by decide, by omega⟩]; exact a1, by rw [o ⟨by decide, by omega⟩]; exact a2, by rw [o ⟨by decide, by omega⟩]; exact a3, by rw [o ⟨by decide, by omega⟩]; exact a4, by rw [o ⟨by decide, by omega⟩]; exact a5, a6, a7, a8, a9, a10, a11⟩
  have hB := wz_Beg (d := 0) hw hs1 hp1 hpl dp.1
  have rqA : rqOK L [] (A, []) := ⟨[], hA, enV_nil _ _, hf.2, Nat.zero_le _, hf.1⟩
  have hN : Need L (wz σ1) V E T [] 3 (A, []) := Or.inr ⟨rfl, by rw [wz_o _ (by decide) (by decide) (by decide)]; exact dp.2.1, rqA, q, 0, by rw [wz_o _ (by decide) (by decide) (by decide)]; exact dp.2.2.1, by rw [wz_o _ (by decide) (by decide) (by decide)]; exact dp.2.2.2.1, by rw [wz_o _ (by decide) (by decide) (by decide)]; exact dp.2.2.2.2, kp_fm (wz_GR σ1 V E T).1 (kp_fm g.1 hm hq) hq, hq, show 0 < E by omega⟩
  have run := (CRD (tx := tx) hw 70).2.1 [] (A, []) p V E T 0 10000 (wz σ1) hB hN (by omega)
  have oC := (okRD (tx := tx) hw.1 hw.2.1 hw.2.2.1 70).2.1
  have w := wh_end hw (Or.inr rfl) (fun y hy => (oC [] (A, []) p y (vtOK_nil L) rqA hy).2.2.2) run
  generalize (RD L ents tx 70).2.1 [] (A, []) p = r at w
  cases r with
  | error e =>
    obtain ⟨he, x, τ, e1, e2, e3⟩ := w
    exact ⟨he, x, τ, e1, e2, Lft_tr ⟨g.1, g.2.1⟩ e3 (Nat.le_refl _) (Nat.le_refl _) (Nat.le_refl _)⟩
  | ok y =>
    obtain ⟨x, gg, τ, V', E', T', x1, x2, x3, x4, x5, x6, x7, x8⟩ := w
    exact ⟨x, gg, τ, V', E', T', x1, x2, x3, x4, x5, x6, Lft_tr ⟨g.1, g.2.1⟩ x7 (Nat.le_refl _) (Nat.le_refl _) (Nat.le_refl _), x8⟩
/-- a whole term that is found: its type's place is told -/
def WhI (L : Lw) (ents : List (Tr × Tr)) (tx : List Nat) (σ : MS) (f : Option (Int32 × MS)) (V E T p : Nat) (r : Except Nat (Tr × Tr × Nat)) : Prop :=
  match r with
  | .ok y => ∃ x g τ V' E' T', f = some (x, τ) ∧ RS L ents tx τ ∧ Pos τ V' E' T' y.2.2 ∧ Lft σ τ V E T ∧ τ.1 55 = i32 g ∧ fm (τ.2.1 1) y.1 g ∧ g + ln y.1 ≤ T'
  | .error e => e ≤ 40 ∧ ∃ x τ, f = some (x, τ) ∧ τ.1 57 = i32 e ∧ Lft σ τ V E T
theorem m_wholeFound (hw : WL L ents tx) {σ : MS} {V E T p : Nat} (hs : RS L ents tx σ) (hp : Pos σ V E T p) (hpl : p ≤ tx.length) : WhI L ents tx σ (f_readsWhole (due σ 0 0 0 0)) V E T p ((RD L ents tx 70).2.2 [] p) := by
  have hl := hw.2.2.2.1
  have g := due_GR σ 0 0 0 0 V E T 0
  have o := fun {k : Nat} (h : k ≠ 45 ∧ (k < 47 ∨ 50 < k)) => due_o σ 0 0 0 0 h
  have dp := due_p σ 0 0 0 0
  generalize due σ 0 0 0 0 = σ1 at g o dp
  obtain ⟨a1, a2, a3, a4, a5, a6, a7, a8, a9, a10, a11⟩ := hp
  have hs1 := RS_kp hw hs g.1 a10 a11 a8 g.2.1
  have hp1 : Pos σ1 V E T p := ⟨by rw [o ⟨by decide, by omega⟩]; exact a1, by rw [o ⟨by decide, by omega⟩]; exact a2, by rw [o ⟨by decide, by omega⟩]; exact a3, by rw [o ⟨by decide, by omega⟩]; exact a4, by rw [o ⟨by decide, by omega⟩]; exact a5, a6, a7, a8, a9, a10, a11⟩
  have hB := wz_Beg (d := 0) hw hs1 hp1 hpl dp.1
  have hN : Need L (wz σ1) V E T [] 0 (.leaf 0, []) := Or.inl ⟨by omega, by rw [wz_o _ (by decide) (by decide) (by decide)]; exact dp.2.1⟩
  have run := (CRD (tx := tx) hw 70).2.2 [] (.leaf 0, []) 0 p V E T 0 10000 (wz σ1) hB hN (fun h => absurd h (by decide)) (by omega)
  have oI := (okRD (tx := tx) hw.1 hw.2.1 hw.2.2.1 70).2.2
  have g0 := wz_GR σ1 V E T
  have gg0 : Lft σ (wz σ1) V E T := Lft_tr ⟨g.1, g.2.1⟩ ⟨g0.1, g0.2.1⟩ (Nat.le_refl _) (Nat.le_refl _) (Nat.le_refl _)
  rw [f_rw]
  have hq := fun y hy => (oI [] p y (vtOK_nil L) hy).2.2.2.2.2
  generalize (RD L ents tx 70).2.2 [] p = r at run hq
  cases r with
  | error e =>
    obtain ⟨he, τ, e1, e2, e3, e4⟩ := run
    exact ⟨he, 0, τ, e1, e2, Lft_tr gg0 ⟨e3, e4⟩ (Nat.le_refl _) (Nat.le_refl _) (Nat.le_refl _)⟩
  | ok y =>
    obtain ⟨F', τ, V', E', T', x1, x2, ⟨x3, x4, x5, x6, x7, x8, x9, x10, x11, x12, x13, x14⟩, _, gg, x15, x16, x17⟩ := run.1 (Or.inl rfl)
    obtain ⟨b1, b2, b3, b4, b5, b6, b7, b8, b9, b10, b11, b12, b13⟩ := x4
    have hq' := hq y rfl
    obtain ⟨G, rfl⟩ := F_pos (n := 0) x1 (by omega)
    exact ⟨0, gg, τ, V', E', T', by rw [x2]; exact rw_end b6 x12 (Or.inr rfl) x13, x3, ⟨b1, b2, b3, b5, b6, b7, b8, b9, b10, b11, b12⟩, Lft_tr gg0 ⟨x11.1, x11.2.1⟩ (Nat.le_refl _) (Nat.le_refl _) (Nat.le_refl _), x15, x16, x17⟩
end TOP1
