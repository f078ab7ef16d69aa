section MREAD18
variable {L : Lw} {ents : List (Tr × Tr)} {tx : List Nat}
/-- the state in which the second part of a pair is read -/
theorem pair_mid (hw : WL L ents tx) {vt : List Rq} {rq : Rq} {τ : MS} {p r V E T P q e g : Nat} {A : Tr} {n0 nd0 : Int32} (hv : vtOK L vt) (hrq : rqOK L vt rq) (hh : hdr rq.1 = 83) (hs : RS L ents tx τ) (hd : DS vt τ V E T r) (hr : r ≤ 33) (h44 : τ.1 44 = i32 (P + 1)) (hP : P < 40) (pτ : prt τ P (i32 11) (i32 p) n0 nd0 (i32 q) (i32 rq.2.length) (i32 e)) (hn0 : n0 = i32 vt.length) (h54 : τ.1 54 = i32 g) (hg : fm (τ.2.1 1) A g) (hgT : g + ln A ≤ T) (hA : HT L A (ctx vt) true (shp (fstT rq.1))) (hf : fits A vt.length) (hq : fm (τ.2.1 1) rq.1 q) (hqT : q + ln rq.1 ≤ T) (he : rpM τ V E T true (eL rq.2) e) : ∃ υ V2, f_handsTerm τ = some (0, υ) ∧ V ≤ V2 ∧ V2 ≤ V + 50 ∧ GR τ υ V E T P ∧ (∀ j, j ≠ 30 → j ≠ 23 → j ≠ 11 → j ≠ 12 → j ≠ 13 → υ.2.1 j = τ.2.1 j) ∧ υ.2.1 30 P = i32 g ∧ υ.2.1 23 P = i32 12 ∧ (∀ k, k ≠ 45 → k ≠ 52 → k ≠ 19 → k ≠ 21 → k ≠ 24 → (k < 46 ∨ 50 < k) → υ.1 k = τ.1 k) ∧ υ.1 19 = i32 V2 ∧ υ.1 21 = i32 (E + 1) ∧ υ.1 45 = i32 0 ∧ υ.1 46 = i32 vt.length ∧ υ.1 52 = i32 0 ∧ Need L υ V2 (E + 1) T vt 3 (sndT rq.1, rq.2 ++ [evD A (idr vt.length)]) := by
  obtain ⟨d1, d19, d21, d46, d56, d57, dV, dE, dT, dT2, dV0, dE0, dn⟩ := hd
  have hv10 := hv.1
  obtain ⟨Γ, w1, w2, w3, w4, w5⟩ := id hrq
  have ew := hdr_SP (W34 hw).1 w1 (Or.inl rfl) hh
  have vb := (T1 _ _ _ _ _ hA (enE_ctx (L := L) hv10)).2.1 rfl
  have hrq2 := rq_snd (W34 hw).1 (Or.inl rfl) hh hrq (RV_EV _ _ vb)
  have hm : rq.2.length < 10 := by
    obtain ⟨_, _, _, _, hl, _⟩ := hrq2
    simp at hl
    omega
  have ga : GR τ (h11 τ P) V E T P := by
    have tr : ∀ {a b c : MS}, GR a b V E T P → GR b c V E T P → GR a c V E T P := fun h g => GR_tr h g (Nat.le_refl _) (Nat.le_refl _) (Nat.le_refl _) (Nat.le_refl _)
    exact tr (tr (tr (agn_GR τ P V E T P) (GR_A _ _ (Or.inr ⟨by decide, by decide, Nat.le_refl _⟩) V E T)) (GR_A _ _ (Or.inr ⟨by decide, by decide, Nat.le_refl _⟩) V E T)) (GR_F _ _ (by simp [FR]) V E T P)
  have a46 : (h11 τ P).1 46 = i32 vt.length := by rw [h11_o _ _ (by decide), (agn_p pτ).1, hn0]
  have hsα := RS_kp hw hs ga.1 dV0 dE0 dT ga.2.1
  have hfq : fm (τ.2.1 1) (.branch 83 (fstT rq.1) (sndT rq.1)) q := by rw [← ew]; exact hq
  have lq : ln rq.1 = 1 + ln (fstT rq.1) + ln (sndT rq.1) := by
    have := congrArg ln ew
    rw [ln_br] at this
    exact this
  have hpf : pr (fxM (h11 τ P)) (fstT rq.1) := by
    obtain ⟨Γ1, v1, _⟩ := rq_fst (W34 hw).1 (Or.inl rfl) hh hrq
    exact WT_pr (W34 hw) (RS_fx hsα) _ _ v1
  have eb : f_behind (i32 (q + 1)) (h11 τ P) = some (i32 (q + 1 + ln (fstT rq.1)), h11 τ P) := m_behind hpf (kp_fm ga.1 hfq.2.1 (by omega)) (by omega)
  have oα : ∀ k, k ≠ 52 → (k < 46 ∨ 50 < k) → (h11 τ P).1 k = τ.1 k := fun k a b => by rw [h11_o _ _ a, agn_o _ _ b]
  obtain ⟨v, τ2, V2, k1, k2, k3, k4, k5, k6, k7⟩ := m_valueOf (E := E) hw hsα hv rfl hA hf (kp_fm ga.1 hg hgT) hgT (by omega) (by rw [oα 19 (by decide) (by omega)]; exact d19) a46 (by omega) (by omega) dV0 dE0
  have o21 : τ2.1 21 = i32 E := by rw [k7.1 21 (by simp), oα 21 (by decide) (by omega)]; exact d21
  obtain ⟨τ3, m1, m2, m3, m4, m5, m6⟩ := m_with (lv := rq.2.length) (rp_kp k6 k3 (Nat.le_refl _) (Nat.le_refl _) _ _ _ (rp_kp ga.1 (Nat.le_refl _) (Nat.le_refl _) (Nat.le_refl _) _ _ _ he)) rfl hm k5 o21 (by omega)
  have hM := m_hM11 hP h44 pτ hm eb
  rw [h54, k1, Option.bind_some] at hM
  dsimp only at hM
  rw [m1, Option.bind_some] at hM
  dsimp only at hM
  have dp := due_p τ3 3 (i32 (q + 1 + ln (fstT rq.1))) (i32 (rq.2.length + 1)) (i32 E)
  have dg := due_GR τ3 3 (i32 (q + 1 + ln (fstT rq.1))) (i32 (rq.2.length + 1)) (i32 E) V2 (E + 1) T P
  have do' : ∀ {k : Nat}, k ≠ 45 ∧ (k < 47 ∨ 50 < k) → (due τ3 3 (i32 (q + 1 + ln (fstT rq.1))) (i32 (rq.2.length + 1)) (i32 E)).1 k = τ3.1 k := fun h => due_o _ _ _ _ _ h
  have d2 : (due τ3 3 (i32 (q + 1 + ln (fstT rq.1))) (i32 (rq.2.length + 1)) (i32 E)).2 = τ3.2 := rfl
  generalize due τ3 3 (i32 (q + 1 + ln (fstT rq.1))) (i32 (rq.2.length + 1)) (i32 E) = υ at hM dp dg do' d2
  have g2 : GR (h11 τ P) τ2 V E T P := GR_Y k6 k7 (by simp [FR]) (by simp [AR]) (by simp)
  have g3 : GR τ2 τ3 V2 E T P := GR_Y m4 m5 (by simp [FR]) (by simp [AR]) (by simp)
  have gt : GR τ υ V E T P := GR_tr ga (GR_tr g2 (GR_tr g3 dg (Nat.le_refl _) (by omega) (Nat.le_refl _) (Nat.le_refl _)) k3 (Nat.le_refl _) (Nat.le_refl _) (Nat.le_refl _)) (Nat.le_refl _) (Nat.le_refl _) (Nat.le_refl _) (Nat.le_refl _)
  have arr0 : ∀ j, j ≠ 11 → j ≠ 12 → j ≠ 13 → υ.2.1 j = (h11 τ P).2.1 j := fun j h1 h2 h3 => by rw [d2, m5.2 j (by simp; omega), k7.2 j (by simp; omega)]
  refine ⟨υ, V2, hM, k3, by omega, gt, fun j h1 h2 h3 h4 h5 => ?_, ?_, ?_, fun k h1 h2 h3 h4 h5 h6 => ?_, ?_, ?_, dp.1, ?_, ?_, ?_⟩
  · rw [arr0 j h3 h4 h5]
    show (setA (setA (agn τ P) 30 P (τ.1 54)) 23 P 12).2.1 j = _
    simp only [setA]
    rw [if_neg h2, if_neg h1]
    rfl
  · rw [arr0 30 (by decide) (by decide) (by decide)]
    show (setA (setA (agn τ P) 30 P (τ.1 54)) 23 P 12).2.1 30 P = _
    rw [setA_ne _ _ (Or.inl (by decide)), setA_at]
    exact h54
  · rw [arr0 23 (by decide) (by decide) (by decide)]
    exact setA_at _ _ _ _
  · rw [do' ⟨h1, by omega⟩, m5.1 k (by simp; omega), k7.1 k (by simp; omega), oα k h2 h6]
  · rw [do' ⟨by decide, by omega⟩, m5.1 19 (by simp)]
    exact k2
  · rw [do' ⟨by decide, by omega⟩]
    exact m2
  · rw [do' ⟨by decide, by omega⟩, m5.1 46 (by simp), k7.1 46 (by simp)]
    exact a46
  · rw [do' ⟨by decide, by omega⟩, m5.1 52 (by simp), k7.1 52 (by simp)]
    exact setF_eq _ _ _
  · refine Or.inr ⟨rfl, dp.2.1, hrq2, q + 1 + ln (fstT rq.1), E, dp.2.2.1, by rw [dp.2.2.2.1]; simp, dp.2.2.2.2, ?_, ?_, ?_⟩
    · exact kp_fm gt.1 hfq.2.2 (by show q + 1 + ln (fstT rq.1) + ln (sndT rq.1) ≤ T; omega)
    · show q + 1 + ln (fstT rq.1) + ln (sndT rq.1) ≤ T
      omega
    · exact rp_kp dg.1 (Nat.le_refl _) (Nat.le_refl _) (Nat.le_refl _) _ _ _ m3
end MREAD18
