section MREAD19
variable {L : Lw} {ents : List (Tr × Tr)} {tx : List Nat}
theorem ch1_GR {σ τ : MS} {V E T P : Nat} (hk : kp σ τ V E T) (hc : ch [1] [1] σ τ) : GR σ τ V E T P := GR_Y hk hc (by simp [FR]) (by simp [AR]) (by simp)
/-- a pair -/
theorem CC_pair (hw : WL L ents tx) {rC : RC} {K : Nat} (oC : okC L tx rC) (hC : CC L ents tx rC K) {vt : List Rq} {rq : Rq} {p V E T P F : Nat} {σ : MS} (hb : Beg L ents tx vt σ p V E T P F 0) (hN : Need L σ V E T vt 3 rq) (hK : 2 * (33 - p) ≤ K + 2) (hc : byt tx p = 44) : RunC L ents tx vt σ p V E T P F 2 (if hdr rq.1 = 83 then (rC vt (fstT rq.1, rq.2) (p + 1)).bind fun a => (rC vt (sndT rq.1, rq.2 ++ [evD a.1 (idr vt.length)]) a.2).bind fun b => jn (.branch 44 a.1 b.1) p b.2 else .error p) := by
  have hb' := hb
  have hN' := hN
  obtain ⟨hv, hs, hd, h44, hP, hpl, h45, h52, hF⟩ := hb
  have hv10 := hv.1
  have hl := hw.2.2.2.1
  have hp : p < tx.length := byt_lt (by omega)
  obtain ⟨d1, d19, d21, d46, d56, d57, dV, dE, dT, dT2, dV0, dE0, dn⟩ := hd
  obtain ⟨rg, hlt⟩ := rg3 hw hs hN (by omega) 44
  by_cases hh : hdr rq.1 = 83
  · rw [if_pos hh]
    rcases hN with ⟨a, b⟩ | ⟨_, h47, hrq, q, e, h48, h49, h50, hq, hqT, he⟩
    · omega
    obtain ⟨G, rfl⟩ : ∃ G, F = G + 1 := ⟨F - 1, by omega⟩
    have step := rd_given hw hb' hp (by unfold stands; omega) (by omega)
    rw [hc, rg, hh] at step
    obtain ⟨bc, g1, p1⟩ := beg_child (s := 11) (d' := 0) hw hb' hp (Or.inr ⟨rfl, 3, i32 (q + 1), i32 rq.2.length, i32 e, rfl⟩)
    have dp := due_p (bgn (setF σ 56 (i32 (p + 1))) P 11 (i32 p)) 3 (i32 (q + 1)) (i32 rq.2.length) (i32 e)
    have b48 : (bgn (setF σ 56 (i32 (p + 1))) P 11 (i32 p)).1 48 = i32 q := by rw [bgn_o _ _ _ _ (by decide), setF_ne _ _ (by decide)]; exact h48
    have b49 : (bgn (setF σ 56 (i32 (p + 1))) P 11 (i32 p)).1 49 = i32 rq.2.length := by rw [bgn_o _ _ _ _ (by decide), setF_ne _ _ (by decide)]; exact h49
    have b50 : (bgn (setF σ 56 (i32 (p + 1))) P 11 (i32 p)).1 50 = i32 e := by rw [bgn_o _ _ _ _ (by decide), setF_ne _ _ (by decide)]; exact h50
    have eR : B_readsGiven_31 (i32 44) (i32 83) σ = some (1, due (bgn (setF σ 56 (i32 (p + 1))) P 11 (i32 p)) 3 (i32 (q + 1)) (i32 rq.2.length) (i32 e)) := by
      unfold B_readsGiven_31 B_readsGiven_82
      rw [if_neg (show ¬ (i32 44 = 42) from by decide), if_pos (show i32 44 = 44 from rfl), if_pos (show i32 83 = 83 from rfl), d56, show i32 p + 1 = i32 (p + 1) from by rw [z1, z_add], m_begins (P := P) _ _ (by rw [setF_ne _ _ (by decide)]; exact h44) (by omega), Option.bind_some]
      dsimp only
      rw [m_dueTerm, Option.bind_some, b48, b49, b50, show i32 q + 1 = i32 (q + 1) from by rw [z1, z_add]]
    rw [eR, Option.bind_some] at step
    dsimp only at step
    rw [if_neg (show ¬ ((1 : Int32) = 0) from by decide)] at step
    generalize due (bgn (setF σ 56 (i32 (p + 1))) P 11 (i32 p)) 3 (i32 (q + 1)) (i32 rq.2.length) (i32 e) = τ1 at bc g1 p1 step dp
    obtain ⟨Γ, w1, w2, w3, w4, w5⟩ := id hrq
    have ew := hdr_SP (W34 hw).1 w1 (Or.inl rfl) hh
    have hfq : fm (σ.2.1 1) (.branch 83 (fstT rq.1) (sndT rq.1)) q := by rw [← ew]; exact hq
    have lq : ln rq.1 = 1 + ln (fstT rq.1) + ln (sndT rq.1) := by
      have := congrArg ln ew
      rw [ln_br] at this
      exact this
    have hrq1 := rq_fst (W34 hw).1 (Or.inl rfl) hh hrq
    have hN1 : Need L τ1 V E T vt 3 (fstT rq.1, rq.2) := Or.inr ⟨rfl, dp.2.1, hrq1, q + 1, e, dp.2.2.1, dp.2.2.2.1, dp.2.2.2.2, kp_fm g1.1 hfq.2.1 (by show q + 1 + ln (fstT rq.1) ≤ T; omega), by show q + 1 + ln (fstT rq.1) ≤ T; omega, rp_kp g1.1 (Nat.le_refl _) (Nat.le_refl _) (Nat.le_refl _) _ _ _ he⟩
    have run := hC vt (fstT rq.1, rq.2) (p + 1) V E T (P + 1) G τ1 bc hN1 (by omega)
    cases hr : rC vt (fstT rq.1, rq.2) (p + 1) with
    | error e' =>
      rw [hr] at run
      exact RunE_lift step g1.1 g1.2.1 (Nat.le_refl _) (Nat.le_refl _) (Nat.le_refl _) run
    | ok a =>
      rw [hr] at run
      obtain ⟨x1, x2, x3, x4⟩ := oC vt _ (p + 1) a hv hrq1 hr
      obtain ⟨F1, τ, V1, E1', T1', q1, q2, ⟨q3, q4, q5, q6, q7, q8, q9, q10, q11, q12, q13, q14⟩, g, q15, q16, q17⟩ := run
      have q4' := q4
      obtain ⟨t1, t19, t21, t46, t56, t57, tV, tE, tT, tT2, tV0, tE0, tn⟩ := q4
      obtain ⟨G1, rfl⟩ : ∃ G1, F1 = G1 + 1 := ⟨F1 - 1, by omega⟩
      have pτ := prt_fr p1 q11.2.2
      rw [h48, h49, h50] at pτ
      have gστ : GR σ τ V E T P := GR_tr g1 (show GR τ1 τ V E T P from ⟨q11.1, q11.2.1, fun j h1 h2 i hi => q11.2.2 j h1 h2 i (by omega)⟩) (Nat.le_refl _) (Nat.le_refl _) (Nat.le_refl _) (Nat.le_refl _)
      obtain ⟨σ2, V2, s1, s2, s3, s4, s5, s6, s7, s8, s9, s10, s11, s12, s13, s14⟩ := pair_mid (A := a.1) hw hv hrq hh q3 q4' (by omega) q12 (by omega) pτ rfl q15 q16 q17 x1 x2 (kp_fm gστ.1 hq hqT) (by omega) (rp_kp gστ.1 q5 q7 q9 _ _ _ he)
      have step2 := rw_term (F := G1) t57 q12 (by omega) q13
      rw [s1, Option.bind_some] at step2
      dsimp only at step2
      have vb := (T1 _ _ _ _ _ x1 (enE_ctx (L := L) hv10)).2.1 rfl
      have hrq2 := rq_snd (W34 hw).1 (Or.inl rfl) hh hrq (RV_EV _ _ vb)
      have s4k : kp τ σ2 V1 E1' T1' := s4.1
      have hs2 := RS_kp hw q3 s4.1 tV0 tE0 tT s4.2.1
      have p2 : prt σ2 P 12 (i32 p) (i32 vt.length) (σ.1 47) (σ.1 48) (σ.1 49) (σ.1 50) := by
        obtain ⟨_, x2, x3, x4, x5, x6, x7⟩ := pτ
        exact ⟨s7, by rw [s5 24 (by decide) (by decide) (by decide) (by decide) (by decide)]; exact x2, by rw [s5 25 (by decide) (by decide) (by decide) (by decide) (by decide)]; exact x3, by rw [s5 26 (by decide) (by decide) (by decide) (by decide) (by decide)]; exact x4, by rw [s5 27 (by decide) (by decide) (by decide) (by decide) (by decide), h48]; exact x5, by rw [s5 28 (by decide) (by decide) (by decide) (by decide) (by decide), h49]; exact x6, by rw [s5 29 (by decide) (by decide) (by decide) (by decide) (by decide), h50]; exact x7⟩
      have n2 : ∀ k, k ≠ 45 → k ≠ 52 → k ≠ 19 → k ≠ 21 → k ≠ 24 → (k < 46 ∨ 50 < k) → σ2.1 k = τ.1 k := s8
      have bc2 : Beg L ents tx vt σ2 a.2 V2 (E1' + 1) T1' (P + 1) G1 0 := ⟨hv, hs2, ⟨by rw [n2 1 (by decide) (by decide) (by decide) (by decide) (by decide) (by omega)]; exact t1, s9, s10, s12, by rw [n2 56 (by decide) (by decide) (by decide) (by decide) (by decide) (by omega)]; exact t56, by rw [n2 57 (by decide) (by decide) (by decide) (by decide) (by decide) (by omega)]; exact t57, by omega, by omega, tT, tT2, by omega, by omega, fun k rq hk => by rw [s5 32 (by decide) (by decide) (by decide) (by decide) (by decide)]; exact nt_kp (tn k rq hk) s4.1 (Nat.le_refl _)⟩, by rw [n2 44 (by decide) (by decide) (by decide) (by decide) (by decide) (by omega)]; exact q12, by omega, x4, s11, s13, by omega⟩
      have run2 := hC vt (sndT rq.1, rq.2 ++ [evD a.1 (idr vt.length)]) a.2 V2 (E1' + 1) T1' (P + 1) G1 σ2 bc2 s14 (by omega)
      have st12 : L_readsWhole_15 (G + 1) σ = L_readsWhole_15 G1 σ2 := by rw [step, q2, step2]
      have g2 : GR σ σ2 V E T P := GR_tr gστ s4 q5 q7 q9 (Nat.le_refl _)
      show RunC L ents tx vt σ p V E T P (G + 1) 2 ((rC vt (sndT rq.1, rq.2 ++ [evD a.1 (idr vt.length)]) a.2).bind fun b => jn (.branch 44 a.1 b.1) p b.2)
      cases hr2 : rC vt (sndT rq.1, rq.2 ++ [evD a.1 (idr vt.length)]) a.2 with
      | error e' =>
        rw [hr2] at run2
        exact RunE_lift st12 g2.1 g2.2.1 (by omega) (by omega) q9 run2
      | ok b =>
        rw [hr2] at run2
        obtain ⟨y1, y2, y3, y4⟩ := oC vt _ a.2 b hv hrq2 hr2
        obtain ⟨F2, υ, V3, E2, T2', u1, u2, ⟨u3, u4, u5, u6, u7, u8, u9, u10, u11, u12, u13, u14⟩, h, u15, u16, u17⟩ := run2
        have u4' := u4
        obtain ⟨j1, j19, j21, j46, j56, j57, jV, jE, jT, jT2, jV0, jE0, jn'⟩ := u4
        obtain ⟨G2, rfl⟩ : ∃ G2, F2 = G2 + 1 := ⟨F2 - 1, by omega⟩
        have pυ := prt_fr p2 u11.2.2
        have v30 : υ.2.1 30 P = i32 g := by rw [u11.2.2 30 (by decide) (by decide) P (Nat.lt_succ_self P)]; exact s6
        have step3 := rw_term (F := G2) j57 u12 (by omega) u13
        rw [m_hM12 (by omega) u12 pυ.1, v30, u15, show υ.2.1 24 P = i32 p from pυ.2.1] at step3
        have g2υ : GR σ2 υ V2 (E1' + 1) T1' P := ⟨u11.1, u11.2.1, fun j h1 h2 i hi => u11.2.2 j h1 h2 i (by omega)⟩
        have gυ : GR σ υ V E T P := GR_tr g2 g2υ (by omega) (by omega) q9 (Nat.le_refl _)
        obtain ⟨z1', z2', z3', z4', z5', z6', z7', z8', z9', z10', z11', z12'⟩ := end_state hw gυ hN' u3 u4' pυ (by omega) (by omega) (by omega)
        generalize setF (agn υ P) 44 (i32 P) = κ at step3 z1' z2' z3' z4' z5' z6' z7' z8' z9' z10' z11' z12'
        have fA : fm (κ.2.1 1) a.1 g := kp_fm z12' (kp_fm g2υ.1 (kp_fm s4.1 q16 q17) q17) (by omega)
        have fB : fm (κ.2.1 1) b.1 h := kp_fm z12' u16 u17
        have prA := HT_pr (W34 hw).2 (fxM κ) _ _ _ _ x1
        have prB := HT_pr (W34 hw).2 (fxM κ) _ _ _ _ y1
        have lA : ln a.1 ≤ 50 := x2.1
        have lB : ln b.1 ≤ 50 := y2.1
        obtain ⟨κ', e1, e2, e3, e4, e5⟩ := m_joined2 (s := 44) V3 E2 z7' prA prB fA fB (by omega) u17 (by omega)
        rw [e1, Option.bind_some, bind_run] at step3
        have gκ' : GR κ κ' V3 E2 T2' P := ch1_GR e2 e3
        have lj := ln_br 44 a.1 b.1
        have oκ : ∀ k, k ≠ 1 → κ'.1 k = κ.1 k := fun k hk => e3.1 k (by simp; omega)
        have gf : GR σ κ' V E T P := GR_tr z1' gκ' (by omega) (by omega) (by omega) (Nat.le_refl _)
        refine jnRun (g := T2') (V1 := V3) (E1 := E2) (T1 := T2' + ln (.branch 44 a.1 b.1)) (F := G2) (f := f_endsGiven (i32 p) (i32 T2') κ') hw (st12.trans (u2.trans step3)) (Or.inr ⟨rfl, rfl⟩) (by omega) (by omega) (by omega) (by omega) gf (RS_kp hw z2' gκ'.1 jV0 jE0 jT gκ'.2.1) (by rw [oκ 44 (by decide)]; exact z3') ⟨e4, by rw [oκ 19 (by decide)]; exact z8', by rw [oκ 21 (by decide)]; exact z9', by rw [oκ 46 (by decide)]; exact z4', by rw [oκ 56 (by decide)]; exact z5', by rw [oκ 57 (by decide)]; exact z6', jV, jE, by omega, by omega, jV0, jE0, fun k rq hk => ?_⟩ (by omega) (by omega) (by omega) (by omega) (by omega) (by omega) ⟨by decide, by decide, Or.inl ⟨by simp [ar], ?_, ?_⟩⟩ e5 (Nat.le_refl _) jT
        · rw [e3.2 32 (by simp)]
          exact nt_kp (z11' k rq hk) gκ'.1 (by omega)
        · exact HT_pr (W34 hw).2 (fxM κ') _ _ _ _ x1
        · exact HT_pr (W34 hw).2 (fxM κ') _ _ _ _ y1
  · rw [if_neg hh]
    refine CC_bad hw hb' hp (Or.inr (Or.inl hc)) ?_
    rw [hc, rg]
    unfold B_readsGiven_31 B_readsGiven_82 B_readsGiven_133 B_readsGiven_260
    rw [if_neg (show ¬ (i32 44 = 42) from by decide), if_pos (show i32 44 = 44 from rfl), if_neg (show ¬ (i32 (hdr rq.1) = 83) from c_eq (b := 83) hh (by omega) (by omega)), if_neg (show ¬ (i32 44 = 92) from by decide)]
end MREAD19
