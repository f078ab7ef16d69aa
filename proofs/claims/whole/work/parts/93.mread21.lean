section MREAD21
variable {L : Lw} {ents : List (Tr × Tr)} {tx : List Nat}
/-- a function -/
theorem CC_lam (hw : WL L ents tx) {rC : RC} {K : Nat} (oC : okC L tx rC) (hC : CC L ents tx rC K) {vt : List Rq} {rq : Rq} {p V E T P F : Nat} {σ : MS} (hb : Beg L ents tx vt σ p V E T P F 0) (hN : Need L σ V E T vt 3 rq) (hK : 2 * (33 - p) ≤ K + 2) (hc : byt tx p = 92) : RunC L ents tx vt σ p V E T P F 2 (if hdr rq.1 = 80 ∧ vt.length < 10 then (rC (vt ++ [(fstT rq.1, rq.2)]) (sndT rq.1, rq.2 ++ [nm vt.length]) (p + 1)).bind fun a => jn (un 92 a.1) p a.2 else .error p) := by
  have hb' := hb
  have hN' := hN
  obtain ⟨hv, hs, hd, h44, hP, hpl, h45, h52, hF⟩ := hb
  have hv10 := hv.1
  have hl := hw.2.2.2.1
  have hp : p < tx.length := byt_lt (by omega)
  obtain ⟨d1, d19, d21, d46, d56, d57, dV, dE, dT, dT2, dV0, dE0, dn⟩ := hd
  obtain ⟨rg, hlt⟩ := rg3 hw hs hN (by omega) 92
  by_cases hh : hdr rq.1 = 80 ∧ vt.length < 10
  · rw [if_pos hh]
    obtain ⟨hh, hn⟩ := hh
    obtain ⟨G, rfl⟩ : ∃ G, F = G + 1 := ⟨F - 1, by omega⟩
    have step := rd_given hw hb' hp (by unfold stands; omega) (by omega)
    rw [hc, rg, hh] at step
    obtain ⟨τ1, T2, eR, bT, bT2, g1, p1, bc, hN1⟩ := lam_mid hw hb' hN hp hh hn
    rw [eR, Option.bind_some] at step
    dsimp only at step
    rw [if_neg (show ¬ ((1 : Int32) = 0) from by decide)] at step
    have run := hC (vt ++ [(fstT rq.1, rq.2)]) (sndT rq.1, rq.2 ++ [nm vt.length]) (p + 1) V (E + 1) T2 (P + 1) G τ1 bc hN1 (by omega)
    cases hr : rC (vt ++ [(fstT rq.1, rq.2)]) (sndT rq.1, rq.2 ++ [nm vt.length]) (p + 1) with
    | error e' =>
      rw [hr] at run
      exact RunE_lift step g1.1 g1.2.1 (Nat.le_refl _) (by omega) bT run
    | ok a =>
      rw [hr] at run
      obtain ⟨x1, x2, x3, x4⟩ := oC _ _ (p + 1) a bc.1 (by
        rcases hN1 with ⟨z, _⟩ | ⟨_, _, z, _⟩
        · omega
        · exact z) hr
      obtain ⟨F1, υ, V3, E2, T2', u1, u2, ⟨u3, u4, u5, u6, u7, u8, u9, u10, u11, u12, u13, u14⟩, h, u15, u16, u17⟩ := run
      obtain ⟨j1, j19, j21, j46, j56, j57, jV, jE, jT, jT2, jV0, jE0, jn'⟩ := u4
      obtain ⟨G2, rfl⟩ : ∃ G2, F1 = G2 + 1 := ⟨F1 - 1, by omega⟩
      have pυ := prt_fr p1 u11.2.2
      have step3 := rw_term (F := G2) j57 u12 (by omega) u13
      rw [m_hM13 (by omega) u12 pυ.1, u15, show υ.2.1 24 P = i32 p from pυ.2.1] at step3
      have g2υ : GR τ1 υ V (E + 1) T2 P := ⟨u11.1, u11.2.1, fun j h1 h2 i hi => u11.2.2 j h1 h2 i (by omega)⟩
      have gυ : GR σ υ V E T P := GR_tr g1 g2υ (Nat.le_refl _) (by omega) bT (Nat.le_refl _)
      obtain ⟨p46, p47, p48, p49, p50⟩ := agn_p pυ
      have gκ : GR υ (setF (agn υ P) 44 (i32 P)) V3 E2 T2' P := GR_tr (agn_GR _ _ V3 E2 T2' P) (GR_F _ _ (by simp [FR]) V3 E2 T2' P) (Nat.le_refl _) (Nat.le_refl _) (Nat.le_refl _) (Nat.le_refl _)
      have o : ∀ k, k ≠ 44 → (k < 46 ∨ 50 < k) → (setF (agn υ P) 44 (i32 P)).1 k = υ.1 k := fun k a b => by rw [setF_ne _ _ a, agn_o _ _ b]
      have k44 : (setF (agn υ P) 44 (i32 P)).1 44 = i32 P := setF_eq _ _ _
      have k46 : (setF (agn υ P) 44 (i32 P)).1 46 = i32 vt.length := by rw [setF_ne _ _ (by decide)]; exact p46
      have k2 : (setF (agn υ P) 44 (i32 P)).2 = υ.2 := rfl
      generalize setF (agn υ P) 44 (i32 P) = κ at step3 gκ o k44 k46 k2
      have hsκ := RS_kp hw u3 gκ.1 jV0 jE0 jT gκ.2.1
      have fA : fm (κ.2.1 1) a.1 h := kp_fm gκ.1 u16 u17
      have prA := HT_pr (W34 hw).2 (fxM κ) _ _ _ _ x1
      have lA : ln a.1 ≤ 50 := x2.1
      obtain ⟨κ', e1, e2, e3, e4, e5⟩ := m_joined1 (s := 92) V3 E2 (by rw [o 1 (by decide) (by omega)]; exact j1) prA fA u17 (by omega)
      rw [e1, Option.bind_some, bind_run] at step3
      have gκ' : GR κ κ' V3 E2 T2' P := ch1_GR e2 e3
      have lj := ln_br 92 a.1 (.leaf 0)
      rw [ln_0] at lj
      have oκ : ∀ k, k ≠ 1 → κ'.1 k = κ.1 k := fun k hk => e3.1 k (by simp; omega)
      have gf : GR σ κ' V E T P := GR_tr gυ (GR_tr gκ gκ' (Nat.le_refl _) (Nat.le_refl _) (Nat.le_refl _) (Nat.le_refl _)) (by omega) (by omega) (by omega) (Nat.le_refl _)
      refine jnRun (g := T2') (V1 := V3) (E1 := E2) (T1 := T2' + ln (un 92 a.1)) (F := G2) (f := f_endsGiven (i32 p) (i32 T2') κ') hw (step.trans (u2.trans step3)) (Or.inr ⟨rfl, rfl⟩) (by omega) (by omega) (by omega) (by omega) gf (RS_kp hw hsκ gκ'.1 jV0 jE0 jT gκ'.2.1) (by rw [oκ 44 (by decide)]; exact k44) ⟨e4, by rw [oκ 19 (by decide), o 19 (by decide) (by omega)]; exact j19, by rw [oκ 21 (by decide), o 21 (by decide) (by omega)]; exact j21, by rw [oκ 46 (by decide)]; exact k46, by rw [oκ 56 (by decide), o 56 (by decide) (by omega)]; exact j56, by rw [oκ 57 (by decide), o 57 (by decide) (by omega)]; exact j57, jV, jE, by omega, by show T2' + ln (.branch 92 a.1 (.leaf 0)) ≤ _; omega, jV0, jE0, fun k rq' hk => ?_⟩ (by omega) (by omega) (by omega) (by omega) (by omega) (by show T2' + ln (.branch 92 a.1 (.leaf 0)) ≤ _; omega) ⟨by decide, by decide, Or.inr ⟨by simp [ar], ?_, rfl⟩⟩ e5 (Nat.le_refl _) jT
      · rw [e3.2 32 (by simp), k2]
        have hk' := (List.getElem?_eq_some_iff.mp hk).1
        exact nt_kp (jn' k rq' (by rw [List.getElem?_append_left hk']; exact hk)) (kp_tr gκ.1 gκ'.1 (Nat.le_refl _) (Nat.le_refl _) (Nat.le_refl _)) (by omega)
      · exact HT_pr (W34 hw).2 (fxM κ') _ _ _ _ x1
  · rw [if_neg hh]
    refine CC_bad hw hb' hp (Or.inr (Or.inr hc)) ?_
    rw [hc, rg]
    unfold B_readsGiven_31 B_readsGiven_82 B_readsGiven_133 B_readsGiven_260
    rw [if_neg (show ¬ (i32 92 = 42) from by decide), if_neg (show ¬ (i32 92 = 44) from by decide), if_pos (show i32 92 = 92 from rfl)]
    by_cases h80 : hdr rq.1 = 80
    · rw [if_pos (show i32 (hdr rq.1) = 80 from by rw [h80]; rfl), d46, if_pos (show (10 : Int32) ≤ i32 vt.length from by rw [show (10 : Int32) = i32 10 from rfl, z_le (by omega) (by omega)]; omega)]
    · rw [if_neg (show ¬ (i32 (hdr rq.1) = 80) from c_eq (b := 80) h80 (by omega) (by omega))]
/-- what is given: every kind of it -/
theorem CC_s (hw : WL L ents tx) {rC : RC} {rI : RN} {K : Nat} (oC : okC L tx rC) (hC : CC L ents tx rC K) (hI : CI L ents tx rI K) : CC L ents tx (spC tx rC rI) (K + 1) := by
  intro vt rq p V E T P F σ hb hN hK
  unfold spC
  by_cases h1 : byt tx p = 42
  · rw [if_pos h1]
    exact CC_star hw hb hN h1
  rw [if_neg h1]
  by_cases h2 : byt tx p = 44
  · rw [if_pos h2]
    exact CC_pair hw oC hC hb hN (by omega) h2
  rw [if_neg h2]
  by_cases h3 : byt tx p = 92
  · rw [if_pos h3]
    exact CC_lam hw oC hC hb hN (by omega) h3
  rw [if_neg h3]
  exact CC_inf hI hb hN hK h1 h2 h3
end MREAD21
