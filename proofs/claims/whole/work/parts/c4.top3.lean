section TOP3
variable {L : Lw} {ents : List (Tr × Tr)} {tx : List Nat}
theorem lo_get {τ : MS} {g : Nat} (h : lo54 τ) (e : τ.1 54 = i32 g) (hb : g < 9400) : 1734 ≤ g := h g e hb
theorem Pos_T {σ : MS} {V E T p : Nat} (h : Pos σ V E T p) (hp : p ≤ 33) : T ≤ 7014 := by
  have := h.2.2.2.2.2.2.2.2.1
  omega
theorem wt_eq (σ : MS) : f_wholeType σ = (f_readsWhole (setF (setF σ 45 1) 47 0)).bind fun q2 => some (q2.2.1 54, q2.2) := by
  unfold f_wholeType f_dueType
  rw [Option.bind_some]
theorem bnd2 {α β : Type} (r : Option (Int32 × MS)) (g : Int32 × MS → α) (h : Int32 × MS → MS) (k : α × MS → Option β) : (r.bind fun q => some (g q, h q)).bind k = r.bind fun q => k (g q, h q) := by
  cases r <;> rfl
def ktR (n : Int32) (x : Int32) (τ : MS) : Option (Int32 × MS) := (if 0 ≤ ((setF τ 58 x).1 57) then B_readsTerms_32 n 0 (setF τ 58 x) else (f_wholeGiven ((setF τ 58 x).1 58) (setF τ 58 x)).bind fun q3 => B_readsTerms_32 n q3.1 q3.2)
theorem rt_d (n : Int32) (σ : MS) : f_readsTerms n σ = (f_starts σ).bind fun q1 => (f_wholeType q1.2).bind fun q2 => ktR n q2.1 q2.2 := by
  unfold f_readsTerms ktR
  rfl
theorem rt_e (n : Int32) (σ : MS) : f_readsTerms n σ = (f_readsWhole (setF (setF (st σ) 45 1) 47 0)).bind fun q2 => ktR n (q2.2.1 54) q2.2 := by
  rw [rt_d, m_starts, Option.bind_some]
  show (f_wholeType (st σ)).bind _ = _
  rw [wt_eq, bnd2]
theorem rt_go (n : Int32) (σ : MS) : f_readsTerms n σ = (f_readsWhole (setF (setF (st σ) 45 1) 47 0)).bind fun q2 => (if 0 ≤ ((setF q2.2 58 (q2.2.1 54)).1 57) then B_readsTerms_32 n 0 (setF q2.2 58 (q2.2.1 54)) else (f_wholeGiven ((setF q2.2 58 (q2.2.1 54)).1 58) (setF q2.2 58 (q2.2.1 54))).bind fun q3 => B_readsTerms_32 n q3.1 q3.2) := by
  rw [rt_e]
  unfold ktR
  rfl
theorem rt_fl (n : Int32) {σ : MS} (τ : MS) (e : Nat) (s0 : Int32) (he : e ≤ 40) (hm : MF σ τ) (h57 : τ.1 57 = i32 e) : ∃ υ, B_readsTerms_32 n s0 τ = some (0, υ) ∧ MF σ υ ∧ υ.1 57 = i32 e := by
  have e1 : (setF τ 59 s0).1 57 = i32 e := by rw [setF_ne _ _ (by decide)]; exact h57
  have e2 : (setF (setF τ 59 s0) 60 0).1 57 = i32 e := by rw [setF_ne _ _ (by decide)]; exact e1
  refine ⟨setF (setF τ 59 s0) 60 0, ?_, MF_tr hm (MF_tr (MF_F _ _ (by simp [FM])) (MF_F _ _ (by simp [FM]))), e2⟩
  unfold B_readsTerms_32 B_readsTerms_59 B_readsTerms_60 B_readsTerms_90
  rw [e1, if_pos (i_nn (by omega)), e2, if_pos (i_nn (by omega))]
theorem rt_fl60 {σ : MS} (τ : MS) (e : Nat) (s0 : Int32) (he : e ≤ 40) (hm : MF σ τ) (h57 : τ.1 57 = i32 e) : ∃ υ, B_readsTerms_60 s0 τ = some (0, υ) ∧ MF σ υ ∧ υ.1 57 = i32 e := by
  have e2 : (setF τ 60 s0).1 57 = i32 e := by rw [setF_ne _ _ (by decide)]; exact h57
  refine ⟨setF τ 60 s0, ?_, MF_tr hm (MF_F _ _ (by simp [FM])), e2⟩
  unfold B_readsTerms_60 B_readsTerms_90
  rw [e2, if_pos (i_nn (by omega))]
theorem gw (q : Int32) (μ : MS) : f_wholeGiven q μ = (f_readsWhole (due μ 3 q 0 0)).bind fun q2 => some ((q2.2.1 54), q2.2) := by
  unfold f_wholeGiven
  rw [m_dueTerm, Option.bind_some]
theorem m_readsTerms (hw : WL L ents tx) {σ : MS} (hs : RS L ents tx (st σ)) (two : Bool) : RdsO σ two (f_readsTerms (if two = true then 2 else 1) σ) (spG L ents tx two) := by
  have hl := hw.2.2.2.1
  have oT := (okRD (tx := tx) hw.1 hw.2.1 hw.2.2.1 70).1
  have oC := (okRD (tx := tx) hw.1 hw.2.1 hw.2.2.1 70).2.1
  have p0 := Pos_st σ
  have w1 := m_wholeType hw hs p0 (Nat.zero_le _)
  have m0 := MF_st σ
  have hgo := rt_go (if two = true then 2 else 1) σ
  have fl : ∀ (τ : MS) (e : Nat) (s0 : Int32), e ≤ 40 → MF σ τ → τ.1 57 = i32 e → ∃ υ, B_readsTerms_32 (if two = true then 2 else 1) s0 τ = some (0, υ) ∧ MF σ υ ∧ υ.1 57 = i32 e := rt_fl _
  have fl60 : ∀ (τ : MS) (e : Nat) (s0 : Int32), e ≤ 40 → MF σ τ → τ.1 57 = i32 e → ∃ υ, B_readsTerms_60 s0 τ = some (0, υ) ∧ MF σ υ ∧ υ.1 57 = i32 e := rt_fl60
  unfold spG
  cases h1 : (RD L ents tx 70).1 [] 0 with
  | error e =>
    rw [h1] at w1
    obtain ⟨he, x, τ, e1, e2, e3⟩ := w1
    have m1 := MF_tr m0 (MF_L e3 (Nat.le_refl _) (Nat.le_refl _) (Nat.le_refl _))
    rw [e1, Option.bind_some] at hgo
    dsimp only at hgo
    have e4 : (setF τ 58 (τ.1 54)).1 57 = i32 e := by rw [setF_ne _ _ (by decide)]; exact e2
    rw [e4, if_pos (i_nn (by omega))] at hgo
    obtain ⟨υ, g1, g2, g3⟩ := fl _ e 0 he (MF_tr m1 (MF_F τ (τ.1 54) (by simp [FM]))) e4
    exact ⟨υ, by rw [hgo, g1], g2, he, g3⟩
  | ok a =>
    rw [h1] at w1
    obtain ⟨x, g, τ, V1, E1', T1', e1, e2, e3, e4, e5, e6, e7, e8, e9, e10, e11, e12⟩ := w1
    obtain ⟨y1, y2, y3, y4⟩ := oT [] 0 a (vtOK_nil L) h1
    have m1 := MF_tr m0 (MF_L e7 (Nat.le_refl _) (Nat.le_refl _) (Nat.le_refl _))
    have e3p := e3
    have hT1 := Pos_T e3 (by omega)
    rw [e1, Option.bind_some] at hgo
    dsimp only at hgo
    have e14 : (setF τ 58 (τ.1 54)).1 57 = -9 := by rw [setF_ne _ _ (by decide)]; exact e3.2.2.2.2.1
    rw [e14, if_neg neg9_lt, e8, setF_eq] at hgo
    have hs58 := RS_F e2 (i32 g) (Or.inl rfl)
    have hp58 := Pos_F e3 (i32 g) (Or.inl rfl)
    have m2 := MF_tr m1 (MF_F τ (k := 58) (i32 g) (by simp [FM]))
    have w2 := m_wholeGiven hw hs58 hp58 y4 y1 y2 e9 e10
    have hlo := lo_get e12 e8 (by have := Pos_T e3 (by omega); unfold ln at e10; omega)
    rw [gw] at hgo
    have p58 : (setF τ 58 (i32 g)).1 58 = i32 g := setF_eq _ _ _
    have fm58 : fm ((setF τ 58 (i32 g)).2.1 1) a.1 g := e9
    generalize setF τ 58 (i32 g) = τ1 at hgo hs58 hp58 m2 w2 p58 fm58
    show RdsO σ two _ (((RD L ents tx 70).2.1 [] (a.1, []) a.2).bind fun b => _)
    have rqA : rqOK L [] (a.1, []) := ⟨[], y1, enV_nil _ _, y2.2, Nat.zero_le _, y2.1⟩
    cases h2 : (RD L ents tx 70).2.1 [] (a.1, []) a.2 with
    | error e =>
      rw [h2] at w2
      obtain ⟨he, x', υ, u1, u2, u3⟩ := w2
      have m3 := MF_tr m2 (MF_L u3 (by have := hp58.2.2.2.2.2.2.2.2.2.1; omega) hp58.2.2.2.2.2.2.2.2.2.2 hp58.2.2.2.2.2.2.2.1)
      rw [u1, Option.bind_some] at hgo
      dsimp only at hgo
      rw [Option.bind_some] at hgo
      obtain ⟨ω, g1, g2, g3⟩ := fl υ e (υ.1 54) he m3 u2
      exact ⟨ω, by rw [hgo, g1], g2, he, g3⟩
    | ok b =>
      rw [h2] at w2
      obtain ⟨x', h, υ, V2, E2, T2, u1, u2, u3, u4, u5, u6, u7, u8, u9, u10, u11, u12⟩ := w2
      obtain ⟨z1', z2', z3', z4'⟩ := oC [] (a.1, []) a.2 b (vtOK_nil L) rqA h2
      have m3 := MF_tr m2 (MF_L u7 (by have := hp58.2.2.2.2.2.2.2.2.2.1; omega) hp58.2.2.2.2.2.2.2.2.2.2 hp58.2.2.2.2.2.2.2.1)
      have hT2 := Pos_T u3 (by omega)
      have hlo2 := lo_get u12 u8 (by unfold ln at u10; omega)
      rw [u1, Option.bind_some] at hgo
      dsimp only at hgo
      rw [Option.bind_some] at hgo
      dsimp only at hgo
      rw [u8] at hgo
      have o58 : υ.1 58 = i32 g := by rw [u7.2.1 58 (by decide)]; exact p58
      have f58 := kp_fm u7.1 fm58 e10
      have hs59 := RS_F u2 (i32 h) (Or.inr (Or.inl rfl))
      have hp59 := Pos_F u3 (i32 h) (Or.inr (Or.inl rfl))
      have m4 := MF_tr m3 (MF_F υ (k := 59) (i32 h) (by simp [FM]))
      have p58b : (setF υ 59 (i32 h)).1 58 = i32 g := by rw [setF_ne _ _ (by decide)]; exact o58
      have p59 : (setF υ 59 (i32 h)).1 59 = i32 h := setF_eq _ _ _
      have f59 : fm ((setF υ 59 (i32 h)).2.1 1) b.1 h := u9
      have f58b : fm ((setF υ 59 (i32 h)).2.1 1) a.1 g := f58
      have hgo2 : f_readsTerms (if two = true then 2 else 1) σ = (if (if two = true then (2 : Int32) else 1) ≤ 1 then (B_readsTerms_59 B_readsTerms_60) (setF υ 59 (i32 h)) else (f_wholeGiven ((setF υ 59 (i32 h)).1 58) (setF υ 59 (i32 h))).bind fun q1 => B_readsTerms_60 q1.1 q1.2) := by
        rw [hgo]
        unfold B_readsTerms_32
        rw [show (setF υ 59 (i32 h)).1 57 = -9 from hp59.2.2.2.2.1, if_neg neg9_lt]
      rw [p58b, gw] at hgo2
      show RdsO σ two _ (if two = true then ((RD L ents tx 70).2.1 [] (a.1, []) b.2).bind fun c => if c.2 = tx.length then .ok (a.1, b.1, c.1) else .error c.2 else if b.2 = tx.length then .ok (a.1, b.1, b.1) else .error b.2)
      have w3 := m_wholeGiven hw hs59 hp59 z4' y1 y2 f58b (show g + ln a.1 ≤ T2 by omega)
      have hn59 := hs59.1
      have h57' := hp59.2.2.2.2.1
      have h56' := hp59.2.2.2.1
      have hV59 := hp59.2.2.2.2.2.2.2.2.2.1
      generalize setF υ 59 (i32 h) = υ1 at hgo2 hs59 hp59 m4 p58b p59 f59 f58b w3 hn59 h57' h56'
      cases two with
      | false =>
        rw [if_neg (show ¬ (false = true) by decide), if_pos (show (1 : Int32) ≤ 1 from by decide)] at hgo2
        rw [if_neg (show ¬ (false = true) by decide), if_neg (show ¬ (false = true) by decide)]
        unfold B_readsTerms_59 B_readsTerms_60 at hgo2
        have e57 : (setF υ1 60 0).1 57 = -9 := by rw [setF_ne _ _ (by decide)]; exact h57'
        rw [e57, if_neg neg9_lt, m_wantsEnd (setF υ1 60 0) (p := b.2) (n := tx.length) (by rw [setF_ne _ _ (by decide)]; exact h56') (by rw [setF_ne _ _ (by decide)]; exact hn59) e57 (by omega) (by omega)] at hgo2
        have m5 := MF_tr m4 (MF_F υ1 (k := 60) 0 (by simp [FM]))
        by_cases hb : b.2 = tx.length
        · rw [if_pos hb] at hgo2 ⊢
          exact ⟨_, hgo2, m5, e57, T2, g, h, h, by omega, by rw [setF_ne _ _ (by decide)]; exact p58b, f58b, by show g + ln a.1 ≤ T2; omega, by rw [setF_ne _ _ (by decide)]; exact p59, f59, u10, fun hh => absurd hh (by decide), f59, u10, hlo, hlo2⟩
        · rw [if_neg hb] at hgo2 ⊢
          exact ⟨_, hgo2, MF_tr m5 (MF_F _ (k := 57) _ (by simp [FM])), by omega, setF_eq _ _ _⟩
      | true =>
        rw [if_pos (show true = true from rfl), if_neg (show ¬ ((2 : Int32) ≤ 1) from by decide)] at hgo2
        rw [if_pos (show true = true from rfl), if_pos (show true = true from rfl)]
        cases h3 : (RD L ents tx 70).2.1 [] (a.1, []) b.2 with
        | error e =>
          rw [h3] at w3
          obtain ⟨he, x', ω, v1, v2, v3⟩ := w3
          have m5 := MF_tr m4 (MF_L v3 (by omega) hp59.2.2.2.2.2.2.2.2.2.2 hp59.2.2.2.2.2.2.2.1)
          rw [v1, Option.bind_some] at hgo2
          dsimp only at hgo2
          rw [Option.bind_some] at hgo2
          obtain ⟨ω2, g1, g2, g3⟩ := fl60 ω e (ω.1 54) he m5 v2
          exact ⟨ω2, by rw [hgo2, g1], g2, he, g3⟩
        | ok c =>
          rw [h3] at w3
          obtain ⟨x', k, ω, V3, E3, T3, v1, v2, v3, v4, v5, v6, v7, v8, v9, v10, v11, v12⟩ := w3
          obtain ⟨r1, r2, r3, r4⟩ := oC [] (a.1, []) b.2 c (vtOK_nil L) rqA h3
          have m5 := MF_tr m4 (MF_L v7 (by omega) hp59.2.2.2.2.2.2.2.2.2.2 hp59.2.2.2.2.2.2.2.1)
          have hT3 := Pos_T v3 (by omega)
          rw [v1, Option.bind_some] at hgo2
          dsimp only at hgo2
          rw [Option.bind_some] at hgo2
          dsimp only at hgo2
          unfold B_readsTerms_60 at hgo2
          have e57 : (setF ω 60 (ω.1 54)).1 57 = -9 := by rw [setF_ne _ _ (by decide)]; exact v3.2.2.2.2.1
          rw [e57, if_neg neg9_lt, m_wantsEnd (setF ω 60 (ω.1 54)) (p := c.2) (n := tx.length) (by rw [setF_ne _ _ (by decide)]; exact v3.2.2.2.1) (by rw [setF_ne _ _ (by decide)]; exact v2.1) e57 (by omega) (by omega)] at hgo2
          have m6 := MF_tr m5 (MF_F ω (k := 60) (ω.1 54) (by simp [FM]))
          show RdsO σ true _ (if c.2 = tx.length then .ok (a.1, b.1, c.1) else .error c.2)
          by_cases hb : c.2 = tx.length
          · rw [if_pos hb] at hgo2 ⊢
            exact ⟨_, hgo2, m6, e57, T3, g, h, k, by omega, by rw [setF_ne _ _ (by decide), v7.2.1 58 (by decide)]; exact p58b, kp_fm v7.1 f58b (show g + ln a.1 ≤ T2 by omega), by show g + ln a.1 ≤ T3; omega, by rw [setF_ne _ _ (by decide), v7.2.1 59 (by decide)]; exact p59, kp_fm v7.1 f59 (show h + ln b.1 ≤ T2 by omega), by show h + ln b.1 ≤ T3; omega, fun _ => by rw [setF_eq]; exact v8, v9, v10, hlo, hlo2⟩
          · rw [if_neg hb] at hgo2 ⊢
            exact ⟨_, hgo2, MF_tr m6 (MF_F _ (k := 57) _ (by simp [FM])), by omega, setF_eq _ _ _⟩
end TOP3
