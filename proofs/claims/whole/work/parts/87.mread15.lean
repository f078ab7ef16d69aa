section MREAD15
variable {L : Lw} {ents : List (Tr × Tr)} {tx : List Nat}
/-- a part of one or two ends, if it is small enough -/
theorem jnRun (hw : WL L ents tx) {vt : List Rq} {σ κ : MS} {f : Option (Int32 × MS)} {p q V E T V1 E1 T1 P F F0 g k : Nat} {t : Tr} (hstep : L_readsWhole_15 F0 σ = f.bind fun q => L_readsWhole_15 F q.2) (hf : (k = 1 ∧ f = f_endsType (i32 p) (i32 g) κ) ∨ (k = 2 ∧ f = f_endsGiven (i32 p) (i32 g) κ)) (hF0 : F0 ≤ F + 4 * (q - p)) (hF : 1 ≤ F) (hp : p ≤ 32) (hq : q ≤ 33) (hg : GR σ κ V E T P) (hs : RS L ents tx κ) (h44 : κ.1 44 = i32 P) (hd : DS vt κ V1 E1 T1 q) (bV : V ≤ V1) (bV2 : V1 + 25 ≤ V + 26 * (q - p)) (bE : E ≤ E1) (bE2 : E1 ≤ E + (q - p)) (bT : T ≤ T1) (bT2 : T1 ≤ T + 160 * (q - p)) (ht : pr (fxM κ) t) (hm : fm (κ.2.1 1) t g) (hgl : g + ln t ≤ T1) (hg0 : 1734 ≤ g) : RunC L ents tx vt σ p V E T P F0 k (jn t p q) := by
  obtain ⟨d1, d19, d21, d46, d56, d57, dV, dE, dT, dT2, dV0, dE0, dn⟩ := hd
  have e1 := m_endsType (i32 p) ht hm (by omega) d57
  have e2 := m_endsGiven (i32 p) ht hm (by omega) d57
  have hτ : ∃ τ, f = some (0, τ) ∧ kp κ τ V1 E1 T1 ∧ (∀ j, τ.2.1 j = κ.2.1 j) ∧ (∀ j, j ≠ 52 → j ≠ 53 → j ≠ 54 → j ≠ 55 → j ≠ 57 → τ.1 j = κ.1 j) ∧ τ.1 52 = i32 k ∧ τ.1 53 = i32 p ∧ τ.1 54 = i32 g ∧ τ.1 57 = (if ln t ≤ 50 then -9 else i32 p) := by
    have c57 : (if ln t ≤ 50 then κ else setF κ 57 (i32 p)).1 57 = (if ln t ≤ 50 then -9 else i32 p) := by
      by_cases h : ln t ≤ 50
      · rw [if_pos h, if_pos h]; exact d57
      · rw [if_neg h, if_neg h]; exact setF_eq _ _ _
    have c2 : (if ln t ≤ 50 then κ else setF κ 57 (i32 p)).2 = κ.2 := by
      by_cases h : ln t ≤ 50
      · rw [if_pos h]
      · rw [if_neg h]; rfl
    have co : ∀ j, j ≠ 57 → (if ln t ≤ 50 then κ else setF κ 57 (i32 p)).1 j = κ.1 j := fun j hj => by
      by_cases h : ln t ≤ 50
      · rw [if_pos h]
      · rw [if_neg h, setF_ne _ _ hj]
    have ck : kp κ (if ln t ≤ 50 then κ else setF κ 57 (i32 p)) V1 E1 T1 := by
      by_cases h : ln t ≤ 50
      · rw [if_pos h]; exact kp_rf _ _ _ _
      · rw [if_neg h]; exact kp_setF _ _ _ _ _ _
    have tr : ∀ {a b c : MS}, kp a b V1 E1 T1 → kp b c V1 E1 T1 → kp a c V1 E1 T1 := fun h g => kp_tr h g (Nat.le_refl _) (Nat.le_refl _) (Nat.le_refl _)
    generalize (if ln t ≤ 50 then κ else setF κ 57 (i32 p)) = κ' at e1 e2 c57 c2 co ck
    rcases hf with ⟨rfl, rfl⟩ | ⟨rfl, rfl⟩
    · refine ⟨_, e1, tr ck (tr (kp_setF _ _ _ _ _ _) (tr (kp_setF _ _ _ _ _ _) (kp_setF _ _ _ _ _ _))), fun j => ?_, fun j h1 h2 h3 h4 h5 => ?_, ?_, ?_, setF_eq _ _ _, ?_⟩
      · simp only [setF_2]; rw [c2]
      · rw [setF_ne _ _ h3, setF_ne _ _ h2, setF_ne _ _ h1]; exact co j h5
      · rw [setF_ne _ _ (by decide), setF_ne _ _ (by decide), setF_eq]; rfl
      · rw [setF_ne _ _ (by decide), setF_eq]
      · rw [setF_ne _ _ (by decide), setF_ne _ _ (by decide), setF_ne _ _ (by decide)]; exact c57
    · refine ⟨_, e2, tr ck (tr (kp_setF _ _ _ _ _ _) (tr (kp_setF _ _ _ _ _ _) (tr (kp_setF _ _ _ _ _ _) (kp_setF _ _ _ _ _ _)))), fun j => ?_, fun j h1 h2 h3 h4 h5 => ?_, ?_, ?_, ?_, ?_⟩
      · simp only [setF_2]; rw [c2]
      · rw [setF_ne _ _ h4, setF_ne _ _ h3, setF_ne _ _ h2, setF_ne _ _ h1]; exact co j h5
      · rw [setF_ne _ _ (by decide), setF_ne _ _ (by decide), setF_ne _ _ (by decide), setF_eq]; rfl
      · rw [setF_ne _ _ (by decide), setF_ne _ _ (by decide), setF_eq]
      · rw [setF_ne _ _ (by decide), setF_eq]
      · rw [setF_ne _ _ (by decide), setF_ne _ _ (by decide), setF_ne _ _ (by decide), setF_ne _ _ (by decide)]; exact c57
  obtain ⟨τ, e, k1, ka, ko, t52, t53, t54, t57⟩ := hτ
  have chτ : ch FR AR κ τ := ⟨fun j hj => ko j (fun h => hj (by rw [h]; simp [FR])) (fun h => hj (by rw [h]; simp [FR])) (fun h => hj (by rw [h]; simp [FR])) (fun h => hj (by rw [h]; simp [FR])) (fun h => hj (by rw [h]; simp [FR])), fun j _ => ka j⟩
  have grτ : GR κ τ V1 E1 T1 P := ⟨k1, chτ, fun j _ _ i _ => by rw [ka j]⟩
  have g2 := GR_tr hg grτ bV bE bT (Nat.le_refl _)
  by_cases h : ln t ≤ 50
  · rw [show jn t p q = .ok (t, q) from cif_pos h _ _]
    rw [if_pos h] at t57
    refine ⟨F, τ, V1, E1, T1, hF0, by rw [hstep, e, Option.bind_some], ⟨RS_kp hw hs k1 dV0 dE0 dT chτ, ⟨by rw [ko 1 (by decide) (by decide) (by decide) (by decide) (by decide)]; exact d1, by rw [ko 19 (by decide) (by decide) (by decide) (by decide) (by decide)]; exact d19, by rw [ko 21 (by decide) (by decide) (by decide) (by decide) (by decide)]; exact d21, by rw [ko 46 (by decide) (by decide) (by decide) (by decide) (by decide)]; exact d46, by rw [ko 56 (by decide) (by decide) (by decide) (by decide) (by decide)]; exact d56, t57, dV, dE, dT, dT2, dV0, dE0, fun j rq hj => by rw [ka 32]; exact nt_kp (dn j rq hj) k1 (Nat.le_refl _)⟩, bV, bV2, bE, bE2, bT, bT2, g2, by rw [ko 44 (by decide) (by decide) (by decide) (by decide) (by decide)]; exact h44, t52, t53, lo54_of t54 hg0 (by omega)⟩, g, t54, kp_fm k1 hm hgl, hgl⟩
  · rw [show jn t p q = .error p from cif_neg h _ _]
    rw [if_neg h] at t57
    obtain ⟨G, rfl⟩ : ∃ G, F = G + 1 := ⟨F - 1, by omega⟩
    refine ⟨by omega, τ, ?_, t57, g2.1, g2.2.1⟩
    rw [hstep, e, Option.bind_some]
    exact rw_err t57 (by omega)
/-- given: what is not read so is inferred -/
theorem CC_inf {rI : RN} {K : Nat} (hI : CI L ents tx rI K) {vt : List Rq} {rq : Rq} {p V E T P F : Nat} {σ : MS} (hb : Beg L ents tx vt σ p V E T P F 0) (hN : Need L σ V E T vt 3 rq) (hK : 2 * (33 - p) ≤ K + 1) (h1 : byt tx p ≠ 42) (h2 : byt tx p ≠ 44) (h3 : byt tx p ≠ 92) : RunC L ents tx vt σ p V E T P F 2 ((rI vt p).bind fun a => cif (isReq a.1 rq vt.length) (.ok (a.2.1, a.2.2)) (.error p)) := by
  have run := hI vt rq 3 p V E T P F σ hb hN (fun _ => ⟨h1, h2, h3⟩) hK
  cases hr : rI vt p with
  | error e =>
    rw [hr] at run
    exact run
  | ok a =>
    rw [hr] at run
    show RunC L ents tx vt σ p V E T P F 2 (cif (isReq a.1 rq vt.length) (.ok (a.2.1, a.2.2)) (.error p))
    by_cases h : isReq a.1 rq vt.length
    · rw [cif_pos h]
      obtain ⟨F', τ, V', E', T', x1, x2, x3, x4, x5⟩ := run.1 (Or.inr (Or.inr (Or.inr ⟨rfl, h⟩)))
      exact ⟨F', τ, V', E', T', x1, x2, x3, x4⟩
    · rw [cif_neg h]
      exact run.2 (fun hs => by
        rcases hs with hs | ⟨hs, _⟩ | ⟨hs, _⟩ | ⟨_, hs⟩
        · omega
        · omega
        · omega
        · exact h hs)
end MREAD15
