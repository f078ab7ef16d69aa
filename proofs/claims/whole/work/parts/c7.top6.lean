section TOP6
noncomputable def aGiven (k : Int32) (s : Sta) : Int32 × Sta := (if -1 ≤ k then (match spG s.L s.en s.tx false with | .ok y => soM y.2.1 k | .error e => flt e) else -1, s)
noncomputable def aFound (k : Int32) (s : Sta) : Int32 × Sta := (if -1 ≤ k then (match spF s.L s.en s.tx with | .ok y => soM y k | .error e => flt e) else -1, s)
noncomputable def aSame (s : Sta) : Int32 × Sta := (match spG s.L s.en s.tx true with | .ok y => (if enc y.2.1 = enc y.2.2 then 1 else 0) | .error e => flt e, s)
def lkA (x y : Tr × Tr) : Nat := if enc x.1 = enc y.1 then (if enc x.2 = enc y.2 then 2 else 1) else 0
theorem nlt0 {e : Nat} (h : e < 2147483648) : ¬ (i32 e < 0) := Int32.not_lt.mpr (i_nn h)
theorem n9lt : (-9 : Int32) < 0 := by decide
theorem m_rt {σ : MS} {s : Sta} (hs : SOK s) (h : MA σ s) (two : Bool) : RdsO σ two (f_readsTerms (if two = true then 2 else 1) σ) (spG s.L s.en s.tx two) := m_readsTerms (SOK_WL hs) (MA_RS h) two
theorem m_given {σ : MS} {s : Sta} (hs : SOK s) (h : MA σ s) (k : Int32) : MO (f_given k σ) (aGiven k s) := by
  unfold f_given B_given_38 aGiven
  by_cases hk : (-1 : Int32) ≤ k
  · rw [if_pos hk, if_pos hk]
    obtain ⟨τ, e1, m, h2⟩ := m_rt hs h false
    rw [if_neg (show ¬ (false = true) by decide)] at e1
    rw [e1, Option.bind_some]
    dsimp only
    have hA := MA_MF hs h m
    cases hsp : spG s.L s.en s.tx false with
    | error e =>
      rw [hsp] at h2
      obtain ⟨he, h57⟩ := h2
      rw [h57, if_neg (nlt0 (by omega))]
      exact ⟨τ, rfl, hA⟩
    | ok y =>
      rw [hsp] at h2
      obtain ⟨h57, T, g, hh, kk, hT, a58, a2, a3, a59, a5, a6, _⟩ := h2
      have p : pr (fxM τ) y.2.1 := (MA_pr hs hA (okG (SOK_WL hs) hsp).1).2
      rw [h57, if_pos n9lt, a59, m_signOrMany p a5 (by omega), Option.bind_some]
      exact ⟨τ, rfl, hA⟩
  · rw [if_neg hk, if_neg hk]
    exact ⟨σ, rfl, h⟩
theorem m_same {σ : MS} {s : Sta} (hs : SOK s) (h : MA σ s) : MO (f_same σ) (aSame s) := by
  unfold f_same B_same_42 aSame
  obtain ⟨τ, e1, m, h2⟩ := m_rt hs h true
  rw [if_pos rfl] at e1
  rw [e1, Option.bind_some]
  dsimp only
  have hA := MA_MF hs h m
  cases hsp : spG s.L s.en s.tx true with
  | error e =>
    rw [hsp] at h2
    obtain ⟨he, h57⟩ := h2
    rw [h57, if_neg (nlt0 (by omega))]
    exact ⟨τ, rfl, hA⟩
  | ok y =>
    rw [hsp] at h2
    obtain ⟨h57, T, g, hh, kk, hT, a58, a2, a3, a59, a5, a6, a60, a7, a8, _⟩ := h2
    have ho := okG (SOK_WL hs) hsp
    have p1 : pr (fxM τ) y.2.1 := (MA_pr hs hA ho.1).2
    have p2 : pr (fxM τ) y.2.2 := (MA_pr hs hA ho.2).2
    rw [h57, if_pos n9lt, a59, a60 rfl, m_isSame p1 p2 a5 a7 (by omega) (by omega), Option.bind_some]
    dsimp only
    by_cases hc : enc y.2.1 = enc y.2.2
    · rw [if_pos hc, if_neg (show ¬ (i32 1 = 0) from by decide)]
      exact ⟨τ, by show some ((1 : Int32), τ) = some ((if enc y.2.1 = enc y.2.2 then 1 else 0), τ); rw [if_pos hc], hA⟩
    · rw [if_neg hc, if_pos (show i32 0 = 0 from rfl)]
      exact ⟨τ, by show some ((0 : Int32), τ) = some ((if enc y.2.1 = enc y.2.2 then 1 else 0), τ); rw [if_neg hc], hA⟩
theorem m_wants1 (σ : MS) : f_wants 1 σ = some (0, σ) := by
  unfold f_wants B_wants_12
  rw [if_neg (show ¬ ((1 : Int32) = 0) from by decide)]
theorem m_wants0 {σ : MS} {p : Nat} (h56 : σ.1 56 = i32 p) (h57 : σ.1 57 = -9) : f_wants 0 σ = some (0, setF σ 57 (i32 p)) := by
  unfold f_wants B_wants_12
  rw [if_pos rfl, h56, m_fails _ h57, Option.bind_some]
theorem f_found_e (x1 : Int32) (σ : MS) (hx : (-1 : Int32) ≤ x1) : f_found x1 σ = (f_readsWhole (due (st σ) 0 0 0 0)).bind fun q3 => (if 0 ≤ (q3.2.1 57) then B_found_50 x1 q3.2 else (if (q3.2.1 56) = (q3.2.1 3) then (B_found_47 B_found_50) x1 1 q3.2 else (B_found_47 B_found_50) x1 0 q3.2)) := by
  unfold f_found
  rw [if_pos hx, m_starts, Option.bind_some]
  show (f_dueTerm 0 0 0 0 (st σ)).bind _ = _
  rw [m_dueTerm, Option.bind_some]
theorem m_found {σ : MS} {s : Sta} (hs : SOK s) (h : MA σ s) (k : Int32) : MO (f_found k σ) (aFound k s) := by
  unfold aFound
  by_cases hk : (-1 : Int32) ≤ k
  · rw [if_pos hk, f_found_e k σ hk]
    have hw := SOK_WL hs
    have hl := hw.2.2.2.1
    have p0 := Pos_st σ
    have m0 := MF_st σ
    have w := m_wholeFound hw (MA_RS h) p0 (Nat.zero_le _)
    have oI := (okRD (tx := s.tx) hw.1 hw.2.1 hw.2.2.1 70).2.2
    cases hsp : (RD s.L s.en s.tx 70).2.2 [] 0 with
    | error e =>
      have hF : spF s.L s.en s.tx = .error e := by unfold spF; rw [hsp]; rfl
      rw [hF]
      rw [hsp] at w
      obtain ⟨he, x, τ, e1, e2, e3⟩ := w
      have m1 := MF_tr m0 (MF_L e3 (Nat.le_refl _) (Nat.le_refl _) (Nat.le_refl _))
      rw [e1, Option.bind_some]
      dsimp only
      unfold B_found_50 B_found_76
      rw [e2, if_pos (i_nn (by omega)), if_neg (nlt0 (by omega))]
      exact ⟨τ, rfl, MA_MF hs h m1⟩
    | ok a =>
      obtain ⟨y1, y2, y3, y4, y5, y6⟩ := oI [] 0 a (vtOK_nil _) hsp
      have hF : spF s.L s.en s.tx = if a.2.2 = s.tx.length then .ok a.1 else .error a.2.2 := by unfold spF; rw [hsp]; rfl
      rw [hF]
      rw [hsp] at w
      obtain ⟨x, g, τ, V1, E1', T1', e1, e2, e3, e4, e5, e6, e7⟩ := w
      have m1 := MF_tr m0 (MF_L e4 (Nat.le_refl _) (Nat.le_refl _) (Nat.le_refl _))
      have hA := MA_MF hs h m1
      have hT := Pos_T e3 (by omega)
      have h57 := e3.2.2.2.2.1
      have h56 := e3.2.2.2.1
      have h3 := e2.1
      rw [e1, Option.bind_some]
      dsimp only
      unfold B_found_47 B_found_50 B_found_76
      rw [h57, if_neg neg9_lt, h56, h3]
      by_cases hb : a.2.2 = s.tx.length
      · rw [if_pos (show i32 a.2.2 = i32 s.tx.length by rw [hb]), if_pos hb, m_wants1, Option.bind_some]
        dsimp only
        rw [h57, if_pos n9lt, e5, m_signOrMany (MA_prT hs hA y1) e6 (by omega), Option.bind_some]
        exact ⟨τ, rfl, hA⟩
      · rw [if_neg (c_eq hb (by omega) (by omega)), if_neg hb, m_wants0 h56 h57, Option.bind_some]
        dsimp only
        rw [setF_eq, if_neg (nlt0 (by omega))]
        exact ⟨_, rfl, MA_MF hs h (MF_tr m1 (MF_F τ (k := 57) _ (by simp [FM])))⟩
  · unfold f_found
    rw [if_neg hk, if_neg hk]
    exact ⟨σ, rfl, h⟩
end TOP6
