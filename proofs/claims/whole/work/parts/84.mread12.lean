section MREAD12
variable {L : Lw} {ents : List (Tr × Tr)} {tx : List Nat}
/-- an application -/
theorem CI_app (hw : WL L ents tx) {rC : RC} {rI : RN} {K : Nat} (oC : okC L tx rC) (oI : okI L tx rI) (hC : CC L ents tx rC K) (hI : CI L ents tx rI K) {vt : List Rq} {rq : Rq} {nd p V E T P F : Nat} {σ : MS} (hb : Beg L ents tx vt σ p V E T P F 0) (hN : Need L σ V E T vt nd rq) (hK : 2 * (33 - p) ≤ K + 2) (hc : byt tx p = 46) : RunI L ents tx vt σ p V E T P F nd rq ((rI vt (p + 1)).bind fun a => if hdr a.1 = 80 then (rC vt (fstT a.1, idr vt.length) a.2.2).bind fun b => stl (nft (sndT a.1) (idr vt.length ++ [evD b.1 (idr vt.length)]) vt.length) (qs (shp (sndT a.1)) (gvD (evD a.2.1 (idr vt.length)) (evD b.1 (idr vt.length))) vt.length) vt.length p b.2 else .error (p + 1)) := by
  have hb' := hb
  obtain ⟨hv, hs, hd, h44, hP, hpl, h45, h52, hF⟩ := hb
  have hv10 := hv.1
  have hl := hw.2.2.2.1
  have hp : p < tx.length := byt_lt (by omega)
  obtain ⟨G, rfl⟩ : ∃ G, F = G + 1 := ⟨F - 1, by omega⟩
  have step := rd_found hw hb' hp (by unfold stands; omega)
  obtain ⟨d1, d19, d21, d46, d56, d57, dV, dE, dT, dT2, dV0, dE0, dn⟩ := hd
  obtain ⟨bc, g1, p1⟩ := beg_child (s := 7) (d' := 0) hw hb' hp (Or.inr ⟨rfl, 1, 0, 0, 0, rfl⟩)
  have n47 := (due_p (bgn (setF σ 56 (i32 (p + 1))) P 7 (i32 p)) 1 0 0 0).2.1
  generalize hτ1 : due (bgn (setF σ 56 (i32 (p + 1))) P 7 (i32 p)) 1 0 0 0 = τ1 at bc g1 p1 n47
  have e : f_readsFound (i32 (byt tx p)) σ = some (0, τ1) := by
    unfold f_readsFound B_readsFound_158
    rw [hc, if_neg (show ¬ (i32 46 = 58) from by decide), if_pos (show i32 46 = 46 from rfl), d56, show i32 p + 1 = i32 (p + 1) from by rw [z1, z_add], m_begins (P := P) _ _ (by rw [setF_ne _ _ (by decide)]; exact h44) (by omega), Option.bind_some]
    dsimp only
    rw [m_dueTerm, Option.bind_some, ← hτ1]
  rw [e, Option.bind_some] at step
  have run := hI vt rq 1 (p + 1) V E T (P + 1) G τ1 bc (Or.inl ⟨by omega, n47⟩) (fun h => by omega) (by omega)
  cases hr : rI vt (p + 1) with
  | error e' =>
    rw [hr] at run
    exact RunE_lift step g1.1 g1.2.1 (Nat.le_refl _) (Nat.le_refl _) (Nat.le_refl _) run
  | ok a =>
    rw [hr] at run
    obtain ⟨w1, w2, w3, w4, w5, w6⟩ := oI vt (p + 1) a hv hr
    show RunI L ents tx vt σ p V E T P (G + 1) nd rq (if hdr a.1 = 80 then _ else _)
    by_cases hh : hdr a.1 = 80
    · rw [if_pos hh]
      obtain ⟨F1, τ, V1, E1', T1', q1, q2, ⟨q3, q4, q5, q6, q7, q8, q9, q10, q11, q12, q13, q14⟩, ⟨gf, q15, q16, q17⟩, ⟨gF, q18, q19, q20⟩⟩ := run.1 (Or.inr (Or.inl ⟨rfl, hh⟩))
      clear run
      obtain ⟨t1, t19, t21, t46, t56, t57, tV, tE, tT, tT2, tV0, tE0, tn⟩ := q4
      obtain ⟨G1, rfl⟩ : ∃ G1, F1 = G1 + 1 := ⟨F1 - 1, by omega⟩
      have pτ := prt_fr p1 q11.2.2
      have s1 : τ.2.1 23 P = i32 7 := pτ.1
      have ew := hdr_SP (W34 hw).1 w1 (Or.inr rfl) hh
      have esh := shp_SP (Or.inr rfl) ew
      have step2 := rw_term (F := G1) t57 q12 (by omega) q13
      rw [m_hM7 (by omega) q12 s1, Option.bind_some] at step2
      dsimp only at step2
      generalize hσ2 : hM7 τ P = σ2 at step2
      have hσ2' : σ2 = due (setF (setA (setA (setA (agn τ P) 30 P (i32 gf)) 31 P (i32 gF)) 23 P 8) 52 0) 3 (i32 (gF + 1)) (i32 vt.length) 0 := by rw [← hσ2, hM7, q15, q18, pτ.2.2.1, show i32 gF + 1 = i32 (gF + 1) from by rw [z1, z_add]]
      have gτ2 : ∀ Q, Q ≤ P → GR τ σ2 V1 E1' T1' Q := fun Q hQ => by
        rw [hσ2']
        have tr : ∀ {a b c : MS}, GR a b V1 E1' T1' Q → GR b c V1 E1' T1' Q → GR a c V1 E1' T1' Q := fun h g => GR_tr h g (Nat.le_refl _) (Nat.le_refl _) (Nat.le_refl _) (Nat.le_refl _)
        exact tr (tr (tr (tr (tr (agn_GR τ P V1 E1' T1' Q) (GR_A _ _ (Or.inr ⟨by decide, by decide, hQ⟩) V1 E1' T1')) (GR_A _ _ (Or.inr ⟨by decide, by decide, hQ⟩) V1 E1' T1')) (GR_A _ _ (Or.inr ⟨by decide, by decide, hQ⟩) V1 E1' T1')) (GR_F _ _ (by simp [FR]) V1 E1' T1' Q)) (due_GR _ _ _ _ _ V1 E1' T1' Q)
      have o2 : ∀ k, k ≠ 45 → k ≠ 52 → (k < 46 ∨ 50 < k) → σ2.1 k = τ.1 k := fun k h1 h2 h3 => by
        rw [hσ2', due_o _ _ _ _ _ ⟨h1, by omega⟩, setF_ne _ _ h2]
        exact agn_o _ _ h3
      have a46 : σ2.1 46 = i32 vt.length := by
        rw [hσ2', due_o _ _ _ _ _ ⟨by decide, by omega⟩, setF_ne _ _ (by decide)]
        exact (agn_p pτ).1
      have a52 : σ2.1 52 = i32 0 := by
        rw [hσ2', due_o _ _ _ _ _ ⟨by decide, by omega⟩]
        exact setF_eq _ _ _
      have dp2 := due_p (setF (setA (setA (setA (agn τ P) 30 P (i32 gf)) 31 P (i32 gF)) 23 P 8) 52 0) 3 (i32 (gF + 1)) (i32 vt.length) 0
      rw [← hσ2'] at dp2
      have r2 : σ2.2 = (setA (setA (setA (agn τ P) 30 P (i32 gf)) 31 P (i32 gF)) 23 P 8).2 := by rw [hσ2']; rfl
      have arr : ∀ j, j ≠ 30 → j ≠ 31 → j ≠ 23 → σ2.2.1 j = τ.2.1 j := fun j h1 h2 h3 => by
        rw [r2]
        simp only [setA]
        rw [if_neg h3, if_neg h2, if_neg h1]
        rfl
      have a30 : σ2.2.1 30 P = i32 gf := by
        rw [r2, setA_ne _ _ (Or.inl (by decide)), setA_ne _ _ (Or.inl (by decide)), setA_at]
      have a31 : σ2.2.1 31 P = i32 gF := by
        rw [r2, setA_ne _ _ (Or.inl (by decide)), setA_at]
      have a23 : σ2.2.1 23 P = i32 8 := by
        rw [r2]
        exact setA_at _ _ _ _
      have gg := gτ2 P (Nat.le_refl _)
      have p2 : prt σ2 P 8 (i32 p) (i32 vt.length) (σ.1 47) (σ.1 48) (σ.1 49) (σ.1 50) := by
        obtain ⟨_, x2, x3, x4, x5, x6, x7⟩ := pτ
        exact ⟨a23, by rw [arr 24 (by decide) (by decide) (by decide)]; exact x2, by rw [arr 25 (by decide) (by decide) (by decide)]; exact x3, by rw [arr 26 (by decide) (by decide) (by decide)]; exact x4, by rw [arr 27 (by decide) (by decide) (by decide)]; exact x5, by rw [arr 28 (by decide) (by decide) (by decide)]; exact x6, by rw [arr 29 (by decide) (by decide) (by decide)]; exact x7⟩
      have bc2 : Beg L ents tx vt σ2 a.2.2 V1 E1' T1' (P + 1) G1 0 := Beg_of hw hv q3 ⟨t1, t19, t21, t46, t56, t57, tV, tE, tT, tT2, tV0, tE0, tn⟩ ⟨gg.1, gg.2.1⟩ (arr 32 (by decide) (by decide) (by decide)) (by rw [o2 1 (by decide) (by decide) (by omega)]; exact t1) (by rw [o2 19 (by decide) (by decide) (by omega)]; exact t19) (by rw [o2 21 (by decide) (by decide) (by omega)]; exact t21) a46 (by rw [o2 56 (by decide) (by decide) (by omega)]; exact t56) (by rw [o2 57 (by decide) (by decide) (by omega)]; exact t57) (by rw [o2 44 (by decide) (by decide) (by omega)]; exact q12) (by omega) (Nat.le_refl _) (by omega) dp2.1 a52 (by omega)
      have hrq := rq_id hv10 w1 w3
      have hrq1 := rq_fst (W34 hw).1 (Or.inr rfl) hh hrq
      have fF : fm (τ.2.1 1) (.branch 80 (fstT a.1) (sndT a.1)) gF := by rw [← ew]; exact q19
      have lF : ln a.1 = 1 + ln (fstT a.1) + ln (sndT a.1) := by
        have := congrArg ln ew
        rw [ln_br] at this
        exact this
      have hN2 : Need L σ2 V1 E1' T1' vt 3 (fstT a.1, idr vt.length) := Or.inr ⟨rfl, dp2.2.1, hrq1, gF + 1, 0, dp2.2.2.1, by rw [dp2.2.2.2.1, idr_len], dp2.2.2.2.2, kp_fm gg.1 fF.2.1 (by show gF + 1 + ln (fstT a.1) ≤ T1'; omega), by show gF + 1 + ln (fstT a.1) ≤ T1'; omega, rp_id bc2.2.1 tV0 tE0 _ hv10⟩
      have run2 := hC vt (fstT a.1, idr vt.length) a.2.2 V1 E1' T1' (P + 1) G1 σ2 bc2 hN2 (by omega)
      have st12 : L_readsWhole_15 (G + 1) σ = L_readsWhole_15 G1 σ2 := by rw [step, q2, step2]
      have g2 : GR σ σ2 V E T P := GR_tr g1 (GR_tr (show GR τ1 τ V E T P from ⟨q11.1, q11.2.1, fun j h1 h2 i hi => q11.2.2 j h1 h2 i (by omega)⟩) gg q5 q7 q9 (Nat.le_refl _)) (Nat.le_refl _) (Nat.le_refl _) (Nat.le_refl _) (Nat.le_refl _)
      cases hr2 : rC vt (fstT a.1, idr vt.length) a.2.2 with
      | error e' =>
        rw [hr2] at run2
        exact RunE_lift st12 g2.1 g2.2.1 q5 q7 q9 run2
      | ok b =>
        rw [hr2] at run2
        obtain ⟨x1, x2, x3, x4⟩ := oC vt _ a.2.2 b hv hrq1 hr2
        obtain ⟨F2, υ, V2, E2, T2', y1, y2, ⟨y3, y4, y5, y6, y7, y8, y9, y10, y11, y12, y13, y14⟩, h, y15, y16, y17⟩ := run2
        obtain ⟨u1, u19, u21, u46, u56, u57, uV, uE, uT, uT2, uV0, uE0, un'⟩ := y4
        obtain ⟨G2, rfl⟩ : ∃ G2, F2 = (G2 + 1) + 1 := ⟨F2 - 2, by omega⟩
        have pυ := prt_fr p2 y11.2.2
        have v30 : υ.2.1 30 P = i32 gf := by rw [y11.2.2 30 (by decide) (by decide) P (Nat.lt_succ_self P)]; exact a30
        have v31 : υ.2.1 31 P = i32 gF := by rw [y11.2.2 31 (by decide) (by decide) P (Nat.lt_succ_self P)]; exact a31
        have step3 := rw_term (F := G2 + 1) u57 y12 (by omega) y13
        rw [m_hM8 (by omega) y12 pυ.1] at step3
        have gυ : GR σ υ V E T P := GR_tr g2 (show GR σ2 υ V1 E1' T1' P from ⟨y11.1, y11.2.1, fun j h1 h2 i hi => y11.2.2 j h1 h2 i (by omega)⟩) q5 q7 q9 (Nat.le_refl _)
        have kτυ : kp τ υ V1 E1' T1' := kp_tr gg.1 y11.1 (Nat.le_refl _) (Nat.le_refl _) (Nat.le_refl _)
        have ga := agn_GR υ P V2 E2 T2' P
        have hsα := RS_kp hw y3 ga.1 uV0 uE0 uT ga.2.1
        have lF' : ln (.branch 80 (fstT a.1) (sndT a.1)) = ln a.1 := by rw [← ew]
        obtain ⟨r3, r5, κ, T3, g3, g5, k1, k2, k3, k4, k5, k6, k7, k8, k9, k10, k11⟩ := m_handsGiven (σ := agn υ P) (h := h) (gf := gf) (gF := gF) (A := fstT a.1) (B := sndT a.1) (f := a.2.1) (u := b.1) hw hsα hv rfl (show P < 40 by omega) (by rw [agn_o _ _ (by omega)]; exact u1) (by rw [agn_o _ _ (by omega)]; exact u19) (by rw [agn_o _ _ (by omega)]; exact u21) (agn_p pυ).1 (by rw [agn_o _ _ (by omega)]; exact y15) (by rw [agn_o _ _ (by omega)]; exact y12) v30 v31 (by rw [← ew]; exact w1) (by rw [← ew]; exact w3) (kp_fm kτυ fF (by rw [lF']; exact q20)) (by rw [lF']; omega) (by rw [← esh]; exact w2) w4 (kp_fm kτυ q16 q17) (by omega) x1 x2 y16 y17 (by omega) (by omega) (by omega) uV0 uE0 uT
        rw [k1, bind_bind2, bind_run, show (agn υ P).2.1 24 P = i32 p from pυ.2.1] at step3
        have gκ : GR υ κ V2 E2 T2' P := GR_tr ga (GR_Y k2 k3 (by simp only [FY, FR]; intro k hk; simp at hk ⊢; omega) (by simp only [AF, AR]; intro k hk; simp at hk ⊢; omega) (by simp only [AF]; intro k hk; simp at hk; omega)) (Nat.le_refl _) (Nat.le_refl _) (Nat.le_refl _) (Nat.le_refl _)
        have gκP : frp υ κ (P + 1) := fun j h1 h2 i _ => by
          rw [k3.2 j (by simp only [AF]; simp; omega)]
          rfl
        have hsκ := RS_kp hw y3 gκ.1 uV0 uE0 uT gκ.2.1
        have oκ : ∀ k, 51 < k → κ.1 k = υ.1 k := fun k hk => by rw [k3.1 k (by simp only [FY]; simp; omega), agn_o _ _ (by omega)]
        have pκ := prt_fr pυ gκP
        have dκ : DS vt κ V2 E2 T3 b.2 := ⟨k6, k4, k5, by rw [k3.1 46 (by simp [FY])]; exact (agn_p pυ).1, by rw [oκ 56 (by omega)]; exact u56, by rw [oκ 57 (by omega)]; exact u57, uV, uE, by omega, by omega, uV0, uE0, fun k rq hk => by
          rw [k3.2 32 (by simp [AF])]
          exact nt_kp (un' k rq hk) gκ.1 k7⟩
        obtain ⟨z1', z2', z3', z4', z5', z6', z7', z8', z9', z10', z11', z12'⟩ := end_state hw (GR_tr gυ gκ (by omega) (by omega) (by omega) (Nat.le_refl _)) hN hsκ dκ pκ (by omega) (by omega) (by omega)
        have a32 : (setF (agn κ P) 44 (i32 P)).2.1 32 = υ.2.1 32 := by
          show κ.2.1 32 = _
          rw [k3.2 32 (by simp [AF])]
          rfl
        generalize setF (agn κ P) 44 (i32 P) = κ' at step3 z1' z2' z3' z4' z5' z6' z7' z8' z9' z10' z11' z12' a32
        have kυκ : kp υ κ' V2 E2 T2' := kp_tr gκ.1 (kp_le z12' (Nat.le_refl _) (Nat.le_refl _) k7) (Nat.le_refl _) (Nat.le_refl _) (Nat.le_refl _)
        have plm : ∀ {t : Tr} {r : Int32} {g : Nat}, plc κ T3 t vt.length r g → plc κ' T3 t vt.length r g := by
          intro t r g hp
          rcases hp with ⟨a, b, c, d⟩ | h
          · exact Or.inl ⟨a, b, kp_fm z12' c d, d⟩
          · exact Or.inr h
        have hWn : fits (nft (sndT a.1) (idr vt.length ++ [evD b.1 (idr vt.length)]) vt.length) vt.length → WT L (nft (sndT a.1) (idr vt.length ++ [evD b.1 (idr vt.length)]) vt.length) (ctx vt) := by
          intro hfit
          have hN' := ctx_len vt
          have vb := (T1 _ _ _ _ _ x1 (enE_ctx (L := L) hv10)).2.1 rfl
          obtain ⟨Γ, w, e1, e2, e3, e4⟩ := rq_snd (W34 hw).1 (Or.inr rfl) hh hrq (RV_EV _ _ vb)
          exact nft_WT _ _ _ _ _ w e1 hN' ((dp_nft _ _ _ _ _ w e1 hN').mp hfit.2)
        have hf := m_fnd (p := p) hw (kp_rf κ' V2 E2 T2') (ch_rf _ _ κ') k7 (by omega) z2' hv rfl z10' z7' z8' z9' z4' z6' hWn (plm k9) (fun _ => plm k10) (by omega) (by omega) (by omega) uV0 uE0 (fun _ => k11)
        exact FndRun hw (st12.trans (y2.trans step3)) (by omega) (by omega) (by omega) (by omega) (by omega) z1' z2' z3' z4' z5' (fun k rq hk => by rw [a32]; exact nt_kp (un' k rq hk) kυκ (Nat.le_refl _)) (by omega) (by omega) (by omega) (by omega) (by omega) (by omega) dV dE dT dT2 dV0 dE0 hf
    · rw [if_neg hh]
      have := run.2 (fun h => by rcases h with h | ⟨_, h⟩ | ⟨h, _⟩ | ⟨h, _⟩ <;> omega)
      exact RunE_lift step g1.1 g1.2.1 (Nat.le_refl _) (Nat.le_refl _) (Nat.le_refl _) this
end MREAD12
