section MREAD20
variable {L : Lw} {ents : List (Tr × Tr)} {tx : List Nat}
/-- the state in which the body of a function is read -/
theorem lam_mid (hw : WL L ents tx) {vt : List Rq} {rq : Rq} {p V E T P F : Nat} {σ : MS} (hb : Beg L ents tx vt σ p V E T P (F + 1) 0) (hN : Need L σ V E T vt 3 rq) (hp : p < tx.length) (hh : hdr rq.1 = 80) (hn : vt.length < 10) : ∃ υ T2, B_readsGiven_31 (i32 92) (i32 80) σ = some (1, υ) ∧ T ≤ T2 ∧ T2 ≤ T + 50 ∧ GR σ υ V E T P ∧ prt υ P (i32 13) (i32 p) (i32 vt.length) (σ.1 47) (σ.1 48) (σ.1 49) (σ.1 50) ∧ Beg L ents tx (vt ++ [(fstT rq.1, rq.2)]) υ (p + 1) V (E + 1) T2 (P + 1) F 0 ∧ Need L υ V (E + 1) T2 (vt ++ [(fstT rq.1, rq.2)]) 3 (sndT rq.1, rq.2 ++ [nm vt.length]) := by
  have hb' := hb
  obtain ⟨hv, hs, hd, h44, hP, hpl, h45, h52, hF⟩ := hb
  have hv10 := hv.1
  have hl := hw.2.2.2.1
  obtain ⟨d1, d19, d21, d46, d56, d57, dV, dE, dT, dT2, dV0, dE0, dn⟩ := id hd
  rcases hN with ⟨a, b⟩ | ⟨_, h47, hrq, q, e, h48, h49, h50, hq, hqT, he⟩
  · omega
  obtain ⟨Γ, w1, w2, w3, w4, w5⟩ := id hrq
  have ew := hdr_SP (W34 hw).1 w1 (Or.inr rfl) hh
  have hfq : fm (σ.2.1 1) (.branch 80 (fstT rq.1) (sndT rq.1)) q := by rw [← ew]; exact hq
  have lq : ln rq.1 = 1 + ln (fstT rq.1) + ln (sndT rq.1) := by
    have := congrArg ln ew
    rw [ln_br] at this
    exact this
  have hrq1 := rq_fst (W34 hw).1 (Or.inr rfl) hh hrq
  have hv' := vt_snoc hv hrq1 hn
  have hrq2 : rqOK L (vt ++ [(fstT rq.1, rq.2)]) (sndT rq.1, rq.2 ++ [nm vt.length]) := by
    refine rq_snd (W34 hw).1 (Or.inr rfl) hh (rq_snoc hrq) ?_
    rw [ctx_snoc]
    exact EV_nm (ctx_len vt) hn
  have hm : rq.2.length < 10 := by
    obtain ⟨_, _, _, _, hl, _⟩ := hrq2
    simp at hl
    omega
  have gβ : GR σ (bgn (setF σ 56 (i32 (p + 1))) P (i32 13) (i32 p)) V E T P := GR_tr (GR_F σ _ (by simp [FR]) V E T P) (bgn_GR _ _ _ _ V E T) (Nat.le_refl _) (Nat.le_refl _) (Nat.le_refl _) (Nat.le_refl _)
  have oβ : ∀ k, k ≠ 44 → k ≠ 56 → (bgn (setF σ 56 (i32 (p + 1))) P (i32 13) (i32 p)).1 k = σ.1 k := fun k a b => by rw [bgn_o _ _ _ _ a, setF_ne _ _ b]
  have pβ := bgn_prt (setF σ 56 (i32 (p + 1))) P (i32 13) (i32 p)
  rw [setF_ne _ _ (by decide), setF_ne _ _ (by decide), setF_ne _ _ (by decide), setF_ne _ _ (by decide), setF_ne _ _ (by decide), d46] at pβ
  have β44 := bgn_44 (setF σ 56 (i32 (p + 1))) P (i32 13) (i32 p)
  have β56 : (bgn (setF σ 56 (i32 (p + 1))) P (i32 13) (i32 p)).1 56 = i32 (p + 1) := by rw [bgn_o _ _ _ _ (by decide)]; exact setF_eq _ _ _
  have β32 : (bgn (setF σ 56 (i32 (p + 1))) P (i32 13) (i32 p)).2.1 32 = σ.2.1 32 := by rw [bgn_32]; rfl
  have eB := m_begins (σ := setF σ 56 (i32 (p + 1))) (P := P) (i32 13) (i32 p) (by rw [setF_ne _ _ (by decide)]; exact h44) (by omega)
  generalize bgn (setF σ 56 (i32 (p + 1))) P (i32 13) (i32 p) = β at gβ oβ pβ β44 β56 β32 eB
  have hsβ := RS_kp hw hs gβ.1 dV0 dE0 dT gβ.2.1
  obtain ⟨Γ1, v1, v2, v3, v4, v5⟩ := id hrq1
  have prf := WT_pr (W34 hw) (RS_fx hsβ) _ _ v1
  obtain ⟨r, τ, t1, t2, t3, t4, t5, t6⟩ := m_typeBy (names := vt.length) (p := q + 1) (W34 hw).2 v1 v2 (ctx_len vt) hv10 rfl v3 v4 prf (kp_fm gβ.1 hfq.2.1 (by show q + 1 + ln (fstT rq.1) ≤ T; omega)) (by show q + 1 + ln (fstT rq.1) ≤ T; omega) v5 (by rw [oβ 1 (by decide) (by decide)]; exact d1) (by rw [oβ 19 (by decide) (by decide)]; exact d19) (by rw [oβ 21 (by decide) (by decide)]; exact d21) (rp_kp gβ.1 (Nat.le_refl _) (Nat.le_refl _) (Nat.le_refl _) _ _ _ he) (by omega) (by omega) (by omega) dV0 (RS_nm hsβ)
  have gτ : GR β τ V E T P := GR_Y t2 t3 (by simp only [FY, FR]; intro k hk; simp at hk ⊢; omega) (by simp only [AY, AR]; intro k hk; simp at hk ⊢; omega) (by simp only [AY]; intro k hk; simp at hk; omega)
  have gστ : GR σ τ V E T P := GR_tr gβ gτ (Nat.le_refl _) (Nat.le_refl _) (Nat.le_refl _) (Nat.le_refl _)
  have hsτ := RS_kp hw hs gστ.1 dV0 dE0 dT gστ.2.1
  have oτ : ∀ k, k ≠ 1 → k ≠ 19 → k ≠ 21 → k ≠ 24 → k ≠ 27 → τ.1 k = β.1 k := fun k h1 h2 h3 h4 h5 => t3.1 k (by simp [FY]; omega)
  obtain ⟨T2, b1, b2, b3, b4⟩ : ∃ T2, τ.1 1 = i32 T2 ∧ T ≤ T2 ∧ T2 ≤ T + 50 ∧ ntOK τ T2 (fstT rq.1, rq.2) vt.length r := by
    rcases t6 with ⟨f1, f2, f3, f4⟩ | ⟨f1, f2, f3⟩
    · have := f1.1
      exact ⟨_, f3, by omega, by unfold ln; omega, Or.inl ⟨f1, T, f2, f4, Nat.le_refl _⟩⟩
    · exact ⟨T, f3, Nat.le_refl _, by omega, Or.inr ⟨f1, f2⟩⟩
  have hnm : rpM τ V E T false (nm vt.length) vt.length := ⟨by omega, Or.inl ⟨by omega, by omega, by rw [RS_nm hsτ _ (by omega)]; congr 1; omega⟩⟩
  obtain ⟨τ3, m1, m2, m3, m4, m5, m6⟩ := m_with (lv := rq.2.length) (rp_kp gστ.1 (Nat.le_refl _) (Nat.le_refl _) (Nat.le_refl _) _ _ _ he) rfl hm hnm t5 (by omega)
  have o3 : ∀ k, k ≠ 21 → τ3.1 k = τ.1 k := fun k hk => m5.1 k (by simp; omega)
  have e46 : τ3.1 46 = i32 vt.length := by rw [o3 46 (by decide), oτ 46 (by decide) (by decide) (by decide) (by decide) (by decide), oβ 46 (by decide) (by decide)]; exact d46
  have g4 : GR τ3 (setA τ3 32 vt.length r) V (E + 1) T2 P := GR_A _ _ (Or.inl rfl) _ _ _
  have g3 : GR τ τ3 V E T2 P := GR_Y ⟨m4.1, m4.2.1, fun i _ => by rw [m5.2 1 (by simp)], m4.2.2.2⟩ m5 (by simp [FR]) (by simp [AR]) (by simp)
  have gα : GR σ (setA τ3 32 vt.length r) V E T P := GR_tr gστ (GR_tr g3 g4 (Nat.le_refl _) (by omega) (Nat.le_refl _) (Nat.le_refl _)) (Nat.le_refl _) (Nat.le_refl _) b2 (Nat.le_refl _)
  have hsα := RS_kp hw hs gα.1 dV0 dE0 dT gα.2.1
  have prα := WT_pr (W34 hw) (RS_fx hsα) _ _ v1
  have eb : f_behind (i32 (q + 1)) (setA τ3 32 vt.length r) = some (i32 (q + 1 + ln (fstT rq.1)), setA τ3 32 vt.length r) := m_behind prα (kp_fm gα.1 hfq.2.1 (by show q + 1 + ln (fstT rq.1) ≤ T; omega)) (by show q + 1 + ln (fstT rq.1) ≤ 9400; omega)
  have oα : ∀ k, k ≠ 1 → k ≠ 19 → k ≠ 21 → k ≠ 24 → k ≠ 27 → (setA τ3 32 vt.length r).1 k = β.1 k := fun k h1 h2 h3 h4 h5 => (o3 k h3).trans (oτ k h1 h2 h3 h4 h5)
  have hstep : B_readsGiven_31 (i32 92) (i32 80) σ = some (1, setF (due (setA τ3 32 vt.length r) 3 (i32 (q + 1 + ln (fstT rq.1))) (i32 (rq.2.length + 1)) (i32 E)) 46 (i32 (vt.length + 1))) := by
    have u46 : (due (setA τ3 32 vt.length r) 3 (i32 (q + 1 + ln (fstT rq.1))) (i32 (rq.2.length + 1)) (i32 E)).1 46 = i32 vt.length := by rw [due_o _ _ _ _ _ ⟨by decide, by omega⟩]; exact e46
    have x48 : (setA τ3 32 vt.length r).1 48 = i32 q := by rw [oα 48 (by decide) (by decide) (by decide) (by decide) (by decide), oβ 48 (by decide) (by decide)]; exact h48
    have x49 : (setA τ3 32 vt.length r).1 49 = i32 rq.2.length := by rw [oα 49 (by decide) (by decide) (by decide) (by decide) (by decide), oβ 49 (by decide) (by decide)]; exact h49
    have y49 : τ.1 49 = i32 rq.2.length := by rw [oτ 49 (by decide) (by decide) (by decide) (by decide) (by decide), oβ 49 (by decide) (by decide)]; exact h49
    have y50 : τ.1 50 = i32 e := by rw [oτ 50 (by decide) (by decide) (by decide) (by decide) (by decide), oβ 50 (by decide) (by decide)]; exact h50
    have y46 : τ.1 46 = i32 vt.length := by rw [oτ 46 (by decide) (by decide) (by decide) (by decide) (by decide), oβ 46 (by decide) (by decide)]; exact d46
    unfold B_readsGiven_31 B_readsGiven_82 B_readsGiven_133
    rw [if_neg (show ¬ (i32 92 = 42) from by decide), if_neg (show ¬ (i32 92 = 44) from by decide), if_pos (show i32 92 = 92 from rfl), if_pos (show i32 80 = 80 from rfl), d46, if_neg (show ¬ ((10 : Int32) ≤ i32 vt.length) from by rw [show (10 : Int32) = i32 10 from rfl, z_le (by omega) (by omega)]; omega), d56, show i32 p + 1 = i32 (p + 1) from by rw [z1, z_add], show (13 : Int32) = i32 13 from rfl, eB, Option.bind_some]
    dsimp only
    rw [oβ 48 (by decide) (by decide), h48, oβ 49 (by decide) (by decide), h49, oβ 50 (by decide) (by decide), h50, oβ 46 (by decide) (by decide), d46, show i32 q + 1 = i32 (q + 1) from by rw [z1, z_add], t1, Option.bind_some]
    dsimp only
    rw [y50, y49, y46, m1, Option.bind_some]
    dsimp only
    rw [e46, if_pos (c_ix (show vt.length < aln 32 by show vt.length < 10; omega) (by omega)), z_nn (by omega), x48, show i32 q + 1 = i32 (q + 1) from by rw [z1, z_add], eb, Option.bind_some]
    dsimp only
    rw [x49, show i32 rq.2.length + 1 = i32 (rq.2.length + 1) from by rw [z1, z_add], m_dueTerm, Option.bind_some]
    dsimp only
    rw [u46, show i32 vt.length + 1 = i32 (vt.length + 1) from by rw [z1, z_add]]
  have dp := due_p (setA τ3 32 vt.length r) 3 (i32 (q + 1 + ln (fstT rq.1))) (i32 (rq.2.length + 1)) (i32 E)
  have dg := due_GR (setA τ3 32 vt.length r) 3 (i32 (q + 1 + ln (fstT rq.1))) (i32 (rq.2.length + 1)) (i32 E) V (E + 1) T2 P
  have gu : GR (setA τ3 32 vt.length r) (setF (due (setA τ3 32 vt.length r) 3 (i32 (q + 1 + ln (fstT rq.1))) (i32 (rq.2.length + 1)) (i32 E)) 46 (i32 (vt.length + 1))) V (E + 1) T2 P := GR_tr dg (GR_F _ _ (by simp [FR]) _ _ _ _) (Nat.le_refl _) (Nat.le_refl _) (Nat.le_refl _) (Nat.le_refl _)
  have ou : ∀ k, k ≠ 45 → (k < 46 ∨ 50 < k) → (setF (due (setA τ3 32 vt.length r) 3 (i32 (q + 1 + ln (fstT rq.1))) (i32 (rq.2.length + 1)) (i32 E)) 46 (i32 (vt.length + 1))).1 k = (setA τ3 32 vt.length r).1 k := fun k h1 h2 => by rw [setF_ne _ _ (by omega), due_o _ _ _ _ _ ⟨h1, by omega⟩]
  have un' : ∀ k, k ≠ 46 → (setF (due (setA τ3 32 vt.length r) 3 (i32 (q + 1 + ln (fstT rq.1))) (i32 (rq.2.length + 1)) (i32 E)) 46 (i32 (vt.length + 1))).1 k = (due (setA τ3 32 vt.length r) 3 (i32 (q + 1 + ln (fstT rq.1))) (i32 (rq.2.length + 1)) (i32 E)).1 k := fun k h => setF_ne _ _ h
  have u46 : (setF (due (setA τ3 32 vt.length r) 3 (i32 (q + 1 + ln (fstT rq.1))) (i32 (rq.2.length + 1)) (i32 E)) 46 (i32 (vt.length + 1))).1 46 = i32 (vt.length + 1) := setF_eq _ _ _
  have u2 : (setF (due (setA τ3 32 vt.length r) 3 (i32 (q + 1 + ln (fstT rq.1))) (i32 (rq.2.length + 1)) (i32 E)) 46 (i32 (vt.length + 1))).2 = (setA τ3 32 vt.length r).2 := rfl
  generalize setF (due (setA τ3 32 vt.length r) 3 (i32 (q + 1 + ln (fstT rq.1))) (i32 (rq.2.length + 1)) (i32 E)) 46 (i32 (vt.length + 1)) = υ at hstep gu ou un' u46 u2
  have gf : GR σ υ V E T P := GR_tr gα gu (Nat.le_refl _) (by omega) b2 (Nat.le_refl _)
  have gτυ : GR τ υ V E T2 P := GR_tr g3 (GR_tr g4 gu (Nat.le_refl _) (Nat.le_refl _) (Nat.le_refl _) (Nat.le_refl _)) (Nat.le_refl _) (by omega) (Nat.le_refl _) (Nat.le_refl _)
  have hc : ∀ k, k ≠ 1 → k ≠ 19 → k ≠ 21 → k ≠ 24 → k ≠ 27 → k ≠ 45 → (k < 46 ∨ 50 < k) → υ.1 k = β.1 k := fun k h1 h2 h3 h4 h5 h6 h7 => by rw [ou k h6 h7, oα k h1 h2 h3 h4 h5]
  have arr : ∀ j, 23 ≤ j → j ≠ 32 → υ.2.1 j = β.2.1 j := fun j h1 h2 => by
    rw [u2]
    simp only [setA]
    rw [if_neg h2, m5.2 j (by simp; omega), t3.2 j (by simp [AY]; omega)]
  have a32 : ∀ k, υ.2.1 32 k = if k = vt.length then r else σ.2.1 32 k := fun k => by
    rw [u2]
    by_cases h : k = vt.length
    · rw [if_pos h, h]; exact setA_at _ _ _ _
    · rw [if_neg h, setA_ne _ _ (Or.inr h), m5.2 32 (by simp), t3.2 32 (by simp [AY]), β32]
  refine ⟨υ, T2, hstep, b2, b3, gf, ?_, ⟨hv', RS_kp hw hs gf.1 dV0 dE0 dT gf.2.1, ⟨?_, ?_, ?_, ?_, ?_, ?_, by omega, by omega, by omega, by omega, dV0, by omega, fun k rq' hk => ?_⟩, ?_, by omega, by omega, ?_, ?_, by omega⟩, ?_⟩
  · obtain ⟨x1, x2, x3, x4, x5, x6, x7⟩ := pβ
    exact ⟨by rw [arr 23 (by decide) (by decide)]; exact x1, by rw [arr 24 (by decide) (by decide)]; exact x2, by rw [arr 25 (by decide) (by decide)]; exact x3, by rw [arr 26 (by decide) (by decide)]; exact x4, by rw [arr 27 (by decide) (by decide)]; exact x5, by rw [arr 28 (by decide) (by decide)]; exact x6, by rw [arr 29 (by decide) (by decide)]; exact x7⟩
  · rw [ou 1 (by decide) (by omega)]; exact (o3 1 (by decide)).trans b1
  · rw [ou 19 (by decide) (by omega)]; exact (o3 19 (by decide)).trans t4
  · rw [ou 21 (by decide) (by omega)]; exact m2
  · rw [u46]; simp
  · rw [hc 56 (by decide) (by decide) (by decide) (by decide) (by decide) (by decide) (by omega)]; exact β56
  · rw [hc 57 (by decide) (by decide) (by decide) (by decide) (by decide) (by decide) (by omega), oβ 57 (by decide) (by decide)]; exact d57
  · rw [a32]
    by_cases hk1 : k < vt.length
    · rw [List.getElem?_append_left hk1] at hk
      rw [if_neg (by omega)]
      exact nt_kp (dn k rq' hk) gf.1 b2
    · have := (List.getElem?_eq_some_iff.mp hk).1
      simp at this
      obtain rfl : k = vt.length := by omega
      simp at hk
      subst hk
      rw [if_pos rfl]
      exact nt_kp b4 gτυ.1 (Nat.le_refl _)
  · rw [hc 44 (by decide) (by decide) (by decide) (by decide) (by decide) (by decide) (by omega)]; exact β44
  · rw [un' 45 (by decide)]; exact dp.1
  · rw [hc 52 (by decide) (by decide) (by decide) (by decide) (by decide) (by decide) (by omega), oβ 52 (by decide) (by decide)]; exact h52
  · refine Or.inr ⟨rfl, by rw [un' 47 (by decide)]; exact dp.2.1, hrq2, q + 1 + ln (fstT rq.1), E, by rw [un' 48 (by decide)]; exact dp.2.2.1, by rw [un' 49 (by decide), dp.2.2.2.1]; simp, by rw [un' 50 (by decide)]; exact dp.2.2.2.2, kp_fm gf.1 hfq.2.2 (by show q + 1 + ln (fstT rq.1) + ln (sndT rq.1) ≤ T; omega), by show q + 1 + ln (fstT rq.1) + ln (sndT rq.1) ≤ T2; omega, ?_⟩
    exact rp_kp (kp_le (kp_tr (kp_le g4.1 (Nat.le_refl _) (Nat.le_refl _) b2) (kp_le gu.1 (Nat.le_refl _) (Nat.le_refl _) b2) (Nat.le_refl _) (Nat.le_refl _) (Nat.le_refl _)) (Nat.le_refl _) (Nat.le_refl _) (Nat.le_refl _)) (Nat.le_refl _) (Nat.le_refl _) b2 _ _ _ m3
end MREAD20
