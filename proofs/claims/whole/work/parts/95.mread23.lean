section MREAD23
variable {L : Lw} {ents : List (Tr × Tr)} {tx : List Nat}
theorem bgn_at {σ : MS} (P : Nat) (s a x : Int32) (h45 : σ.1 45 = i32 1) : setF (bgn σ P s a) 56 x = setF (bgn (setF σ 56 x) P s a) 45 1 := by
  rw [setF_id (k := 45) (x := 1) (bgn (setF σ 56 x) P s a) (by rw [bgn_o _ _ _ _ (by decide), setF_ne _ _ (by decide)]; exact h45)]
  unfold bgn
  rw [setF_ne σ x (show 46 ≠ 56 by decide), setF_ne σ x (show 47 ≠ 56 by decide), setF_ne σ x (show 48 ≠ 56 by decide), setF_ne σ x (show 49 ≠ 56 by decide), setF_ne σ x (show 50 ≠ 56 by decide)]
  refine Prod.ext (funext fun k => ?_) rfl
  show (if k = 56 then x else if k = 44 then i32 (P + 1) else σ.1 k) = (if k = 44 then i32 (P + 1) else if k = 56 then x else σ.1 k)
  by_cases h1 : k = 56
  · rw [if_pos h1, if_neg (by omega), if_pos h1]
  · rw [if_neg h1, if_neg h1]
/-- a type of pairs or functions begins -/
theorem m_rdSP {σ : MS} {P p n c k : Nat} (hk : (k = 1 ∧ c = 83) ∨ (k = 3 ∧ c = 80)) (h44 : σ.1 44 = i32 P) (hP : P < 40) (h46 : σ.1 46 = i32 n) (hn : n < 10) (h56 : σ.1 56 = i32 p) : f_readsType (i32 c) σ = some (0, setF (bgn σ P (i32 k) (i32 p)) 56 (i32 (p + 1))) := by
  have o56 : (bgn σ P (i32 k) (i32 p)).1 56 = i32 p := by rw [bgn_o _ _ _ _ (by decide)]; exact h56
  have hle : ¬ ((10 : Int32) ≤ i32 n) := by rw [show (10 : Int32) = i32 10 from rfl, z_le (by omega) (by omega)]; omega
  unfold f_readsType B_readsType_17 B_readsType_38
  rcases hk with ⟨rfl, rfl⟩ | ⟨rfl, rfl⟩
  · rw [if_pos (show i32 83 = 83 from rfl), h46, if_neg hle, if_pos (show i32 83 = 83 from rfl), h56, m_begins 1 (i32 p) h44 hP, Option.bind_some]
    dsimp only
    rw [show (1 : Int32) = i32 1 from rfl, o56, show i32 p + i32 1 = i32 (p + 1) from by rw [z_add]]
  · rw [if_neg (show ¬ (i32 80 = 83) from by decide), if_pos (show i32 80 = 80 from rfl), h46, if_neg hle, if_neg (show ¬ (i32 80 = 83) from by decide), h56, m_begins 3 (i32 p) h44 hP, Option.bind_some]
    dsimp only
    rw [show (3 : Int32) = i32 3 from rfl, o56, show i32 p + 1 = i32 (p + 1) from by rw [z1, z_add]]
/-- the state in which the second part of a type is read -/
theorem type_mid (hw : WL L ents tx) {vt : List Rq} {τ : MS} {p r V E T P g k F : Nat} {A : Tr} {nd0 q0 b0 e0 : Int32} (hv : vtOK L vt) (hn : vt.length < 10) (hs : RS L ents tx τ) (hd : DS vt τ V E T r) (hr : r ≤ tx.length) (hPr : P + 1 ≤ r) (h44 : τ.1 44 = i32 (P + 1)) (hP : P < 40) (hk : k = 1 ∨ k = 3) (pτ : prt τ P (i32 k) (i32 p) (i32 vt.length) nd0 q0 b0 e0) (h54 : τ.1 54 = i32 g) (hg : fm (τ.2.1 1) A g) (hgT : g + ln A ≤ T) (hA : WT L A (ctx vt)) (hf : fits A vt.length) (hdat : k = 3 → 80 ∉ enc A) (hF : 4 * (33 - r) + 10 ≤ F) : ∃ υ, f_handsType τ = some (0, υ) ∧ GR τ υ V E T P ∧ υ.2.1 30 P = i32 g ∧ prt υ P (i32 (k + 1)) (i32 p) (i32 vt.length) nd0 q0 b0 e0 ∧ Beg L ents tx (vt ++ [(A, idr vt.length)]) υ r V E T (P + 1) F 1 := by
  obtain ⟨d1, d19, d21, d46, d56, d57, dV, dE, dT, dT2, dV0, dE0, dn⟩ := hd
  have hv10 := hv.1
  have hl := hw.2.2.2.1
  have hpr := WT_pr (W34 hw) (RS_fx hs) _ _ hA
  have hgo : f_handsType τ = some (0, nmo (agn τ P) P vt.length (i32 (k + 1))) := by
    rcases hk with rfl | rfl
    · exact m_hT1 hP hn h44 pτ
    · refine m_hT3 hP hn h44 pτ ?_
      rw [h54, m_isData hpr hg (by omega), if_neg (hdat rfl)]
  have ga : GR τ (nmo (agn τ P) P vt.length (i32 (k + 1))) V E T P := GR_tr (agn_GR τ P V E T P) (nmo_GR _ _ _ _ V E T P (Nat.le_refl _)) (Nat.le_refl _) (Nat.le_refl _) (Nat.le_refl _) (Nat.le_refl _)
  have o : ∀ k', k' ≠ 45 → k' ≠ 52 → (k' < 46 ∨ 50 < k') → (nmo (agn τ P) P vt.length (i32 (k + 1))).1 k' = τ.1 k' := fun k' h1 h2 h3 => by rw [nmo_o _ _ _ _ h1 (by omega) h2, agn_o _ _ h3]
  have a54 : (agn τ P).1 54 = i32 g := by rw [agn_o _ _ (by omega)]; exact h54
  refine ⟨_, hgo, ga, by rw [nmo_30]; exact a54, ?_, vt_snoc hv (rq_id hv10 hA hf) hn, RS_kp hw hs ga.1 dV0 dE0 dT ga.2.1, ⟨by rw [o 1 (by decide) (by decide) (by omega)]; exact d1, by rw [o 19 (by decide) (by decide) (by omega)]; exact d19, by rw [o 21 (by decide) (by decide) (by omega)]; exact d21, by rw [nmo_46]; simp, by rw [o 56 (by decide) (by decide) (by omega)]; exact d56, by rw [o 57 (by decide) (by decide) (by omega)]; exact d57, dV, dE, dT, dT2, dV0, dE0, fun k' rq hk' => ?_⟩, by rw [o 44 (by decide) (by decide) (by omega)]; exact h44, hPr, hr, nmo_45 _ _ _ _, nmo_52 _ _ _ _, hF⟩
  · obtain ⟨x1, x2, x3, x4, x5, x6, x7⟩ := pτ
    exact ⟨nmo_23 _ _ _ _, by rw [nmo_arr _ _ _ _ (by decide) (by decide) (by decide)]; exact x2, by rw [nmo_arr _ _ _ _ (by decide) (by decide) (by decide)]; exact x3, by rw [nmo_arr _ _ _ _ (by decide) (by decide) (by decide)]; exact x4, by rw [nmo_arr _ _ _ _ (by decide) (by decide) (by decide)]; exact x5, by rw [nmo_arr _ _ _ _ (by decide) (by decide) (by decide)]; exact x6, by rw [nmo_arr _ _ _ _ (by decide) (by decide) (by decide)]; exact x7⟩
  · rw [nmo_32]
    by_cases hk1 : k' < vt.length
    · rw [List.getElem?_append_left hk1] at hk'
      rw [if_neg (by omega)]
      exact nt_kp (dn k' rq hk') ga.1 (Nat.le_refl _)
    · have := (List.getElem?_eq_some_iff.mp hk').1
      simp at this
      obtain rfl : k' = vt.length := by omega
      simp at hk'
      subst hk'
      rw [if_pos rfl]
      have en : nft A (idr vt.length) vt.length = A := by
        have := nft_id A (ctx vt) hA (by rw [ctx_len]; exact hf.2)
        rw [ctx_len] at this
        exact this
      refine Or.inl ⟨by show fits (nft A (idr vt.length) vt.length) vt.length; rw [en]; exact hf, g, a54, ?_, ?_⟩
      · show fm _ (nft A (idr vt.length) vt.length) g
        rw [en]
        exact kp_fm ga.1 hg hgT
      · show g + ln (nft A (idr vt.length) vt.length) ≤ T
        rw [en]
        exact hgT
/-- a type of pairs or functions -/
theorem CT_SP (hw : WL L ents tx) {rT : RT} {K : Nat} (oT : okT L tx rT) (hT : CT L ents tx rT K) {vt : List Rq} {p V E T P F c k : Nat} {σ : MS} (hb : Beg L ents tx vt σ p V E T P F 1) (hK : 2 * (33 - p) ≤ K + 2) (hk : (k = 1 ∧ c = 83) ∨ (k = 3 ∧ c = 80)) (hc : byt tx p = c) (hn : vt.length < 10) : RunC L ents tx vt σ p V E T P F 1 ((rT vt (p + 1)).bind fun a => cif (c = 80 ∧ 80 ∈ enc a.1) (.error (p + 1)) ((rT (vt ++ [(a.1, idr vt.length)]) a.2).bind fun b => jn (.branch c a.1 b.1) p b.2)) := by
  have hb' := hb
  obtain ⟨hv, hs, hd, h44, hP, hpl, h45, h52, hF⟩ := hb
  have hv10 := hv.1
  have hl := hw.2.2.2.1
  have hp : p < tx.length := byt_lt (by omega)
  obtain ⟨d1, d19, d21, d46, d56, d57, dV, dE, dT, dT2, dV0, dE0, dn⟩ := hd
  obtain ⟨G, rfl⟩ : ∃ G, F = G + 1 := ⟨F - 1, by omega⟩
  have step := rd_type hw hb' hp
  rw [hc, m_rdSP hk h44 (by omega) d46 hn d56, Option.bind_some, bgn_at _ _ _ _ h45] at step
  dsimp only at step
  obtain ⟨bc, g1, p1⟩ := beg_child (s := i32 k) (d' := 1) hw hb' hp (Or.inl ⟨rfl, rfl⟩)
  generalize setF (bgn (setF σ 56 (i32 (p + 1))) P (i32 k) (i32 p)) 45 1 = τ1 at bc g1 p1 step
  have run := hT vt (p + 1) V E T (P + 1) G τ1 bc (by omega)
  cases hr : rT vt (p + 1) with
  | error e' =>
    rw [hr] at run
    exact RunE_lift step g1.1 g1.2.1 (Nat.le_refl _) (Nat.le_refl _) (Nat.le_refl _) run
  | ok a =>
    rw [hr] at run
    obtain ⟨x1, x2, x3, x4⟩ := oT vt (p + 1) a hv hr
    obtain ⟨F1, τ, V1, E1', T1', q1, q2, ⟨q3, q4, q5, q6, q7, q8, q9, q10, q11, q12, q13, q14⟩, g, q15, q16, q17⟩ := run
    have q4' := q4
    obtain ⟨t1, t19, t21, t46, t56, t57, tV, tE, tT, tT2, tV0, tE0, tn⟩ := q4
    obtain ⟨G1, rfl⟩ : ∃ G1, F1 = G1 + 1 := ⟨F1 - 1, by omega⟩
    have pτ := prt_fr p1 q11.2.2
    have gστ : GR σ τ V E T P := GR_tr g1 (show GR τ1 τ V E T P from ⟨q11.1, q11.2.1, fun j h1 h2 i hi => q11.2.2 j h1 h2 i (by omega)⟩) (Nat.le_refl _) (Nat.le_refl _) (Nat.le_refl _) (Nat.le_refl _)
    have step2 := rw_type (F := G1) t57 q12 (by omega) q13
    have lA : ln a.1 ≤ 50 := x2.1
    show RunC L ents tx vt σ p V E T P (G + 1) 1 (cif (c = 80 ∧ 80 ∈ enc a.1) (.error (p + 1)) ((rT (vt ++ [(a.1, idr vt.length)]) a.2).bind fun b => jn (.branch c a.1 b.1) p b.2))
    by_cases hdat : c = 80 ∧ 80 ∈ enc a.1
    · rw [cif_pos hdat]
      obtain ⟨rfl, hmem⟩ : k = 3 ∧ 80 ∈ enc a.1 := ⟨by omega, hdat.2⟩
      have hpr := WT_pr (W34 hw) (RS_fx q3) _ _ x1
      have e0 : f_handsType τ = some (0, nmo (agn (setF τ 57 (τ.1 53)) P) P vt.length 4) := m_hT3F (by omega) hn q12 pτ t57 (by rw [q15, m_isData hpr q16 (by omega), if_pos hmem])
      rw [e0, Option.bind_some] at step2
      dsimp only at step2
      have ga : GR τ (nmo (agn (setF τ 57 (τ.1 53)) P) P vt.length 4) V1 E1' T1' P := GR_tr (GR_F τ _ (by simp [FR]) V1 E1' T1' P) (GR_tr (agn_GR _ P V1 E1' T1' P) (nmo_GR _ _ _ _ V1 E1' T1' P (Nat.le_refl _)) (Nat.le_refl _) (Nat.le_refl _) (Nat.le_refl _) (Nat.le_refl _)) (Nat.le_refl _) (Nat.le_refl _) (Nat.le_refl _) (Nat.le_refl _)
      have e57 : (nmo (agn (setF τ 57 (τ.1 53)) P) P vt.length 4).1 57 = i32 (p + 1) := by
        rw [nmo_o _ _ _ _ (by decide) (by decide) (by decide), agn_o _ _ (by omega), setF_eq]
        exact q14.1
      obtain ⟨G2, rfl⟩ : ∃ G2, G1 = G2 + 1 := ⟨G1 - 1, by omega⟩
      have gf := GR_tr gστ ga q5 q7 q9 (Nat.le_refl _)
      refine ⟨by omega, _, ?_, e57, gf.1, gf.2.1⟩
      rw [step, q2, step2]
      exact rw_err e57 (by omega)
    · rw [cif_neg hdat]
      obtain ⟨σ2, s1, s2, s3, p2, bc2⟩ := type_mid (F := G1) hw hv hn q3 q4' x4 (by omega) q12 (by omega) (show k = 1 ∨ k = 3 by omega) pτ q15 q16 q17 x1 x2 (fun h3 hm => hdat ⟨by omega, hm⟩) (by omega)
      rw [s1, Option.bind_some] at step2
      dsimp only at step2
      have st12 : L_readsWhole_15 (G + 1) σ = L_readsWhole_15 G1 σ2 := by rw [step, q2, step2]
      have g2 : GR σ σ2 V E T P := GR_tr gστ s2 q5 q7 q9 (Nat.le_refl _)
      have run2 := hT _ a.2 V1 E1' T1' (P + 1) G1 σ2 bc2 (by omega)
      cases hr2 : rT (vt ++ [(a.1, idr vt.length)]) a.2 with
      | error e' =>
        rw [hr2] at run2
        exact RunE_lift st12 g2.1 g2.2.1 q5 q7 q9 run2
      | ok b =>
        rw [hr2] at run2
        obtain ⟨y1, y2, y3, y4⟩ := oT _ a.2 b bc2.1 hr2
        obtain ⟨F2, υ, V3, E2, T2', u1, u2, ⟨u3, u4, u5, u6, u7, u8, u9, u10, u11, u12, u13, u14⟩, h, u15, u16, u17⟩ := run2
        obtain ⟨j1, j19, j21, j46, j56, j57, jV, jE, jT, jT2, jV0, jE0, jn'⟩ := u4
        obtain ⟨G2, rfl⟩ : ∃ G2, F2 = G2 + 1 := ⟨F2 - 1, by omega⟩
        have pυ := prt_fr p2 u11.2.2
        have v30 : υ.2.1 30 P = i32 g := by rw [u11.2.2 30 (by decide) (by decide) P (Nat.lt_succ_self P)]; exact s3
        have step3 := rw_type (F := G2) j57 u12 (by omega) u13
        rw [m_hT24 (k := k + 1) (c := c) (by omega) u12 (by omega) pυ.1, v30, u15, show υ.2.1 24 P = i32 p from pυ.2.1] at step3
        have g2υ : GR σ2 υ V1 E1' T1' P := ⟨u11.1, u11.2.1, fun j h1 h2 i hi => u11.2.2 j h1 h2 i (by omega)⟩
        have gυ : GR σ υ V E T P := GR_tr g2 g2υ q5 q7 q9 (Nat.le_refl _)
        obtain ⟨p46, p47, p48, p49, p50⟩ := agn_p pυ
        have gκ : GR υ (setF (agn υ P) 44 (i32 P)) V3 E2 T2' P := GR_tr (agn_GR _ _ V3 E2 T2' P) (GR_F _ _ (by simp [FR]) V3 E2 T2' P) (Nat.le_refl _) (Nat.le_refl _) (Nat.le_refl _) (Nat.le_refl _)
        have o : ∀ k, k ≠ 44 → (k < 46 ∨ 50 < k) → (setF (agn υ P) 44 (i32 P)).1 k = υ.1 k := fun k a b => by rw [setF_ne _ _ a, agn_o _ _ b]
        have k44 : (setF (agn υ P) 44 (i32 P)).1 44 = i32 P := setF_eq _ _ _
        have k46 : (setF (agn υ P) 44 (i32 P)).1 46 = i32 vt.length := by rw [setF_ne _ _ (by decide)]; exact p46
        have k2 : (setF (agn υ P) 44 (i32 P)).2 = υ.2 := rfl
        generalize setF (agn υ P) 44 (i32 P) = κ at step3 gκ o k44 k46 k2
        have hsκ := RS_kp hw u3 gκ.1 jV0 jE0 jT gκ.2.1
        have fA : fm (κ.2.1 1) a.1 g := kp_fm gκ.1 (kp_fm g2υ.1 (kp_fm s2.1 q16 q17) q17) (by omega)
        have fB : fm (κ.2.1 1) b.1 h := kp_fm gκ.1 u16 u17
        have prA := WT_pr (W34 hw) (RS_fx hsκ) _ _ x1
        have prB := WT_pr (W34 hw) (RS_fx hsκ) _ _ y1
        have lB : ln b.1 ≤ 50 := y2.1
        obtain ⟨κ', e1, e2, e3, e4, e5⟩ := m_joined2 (s := c) V3 E2 (by rw [o 1 (by decide) (by omega)]; exact j1) prA prB fA fB (by omega) u17 (by omega)
        rw [e1, Option.bind_some, bind_run] at step3
        have gκ' : GR κ κ' V3 E2 T2' P := ch1_GR e2 e3
        have lj := ln_br c a.1 b.1
        have oκ : ∀ k, k ≠ 1 → κ'.1 k = κ.1 k := fun k hk => e3.1 k (by simp; omega)
        have gf : GR σ κ' V E T P := GR_tr gυ (GR_tr gκ gκ' (Nat.le_refl _) (Nat.le_refl _) (Nat.le_refl _) (Nat.le_refl _)) (by omega) (by omega) (by omega) (Nat.le_refl _)
        have hsκ' := RS_kp hw hsκ gκ'.1 jV0 jE0 jT gκ'.2.1
        refine jnRun (g := T2') (V1 := V3) (E1 := E2) (T1 := T2' + ln (.branch c a.1 b.1)) (F := G2) (f := f_endsType (i32 p) (i32 T2') κ') hw (st12.trans (u2.trans step3)) (Or.inl ⟨rfl, rfl⟩) (by omega) (by omega) (by omega) (by omega) gf hsκ' (by rw [oκ 44 (by decide)]; exact k44) ⟨e4, by rw [oκ 19 (by decide), o 19 (by decide) (by omega)]; exact j19, by rw [oκ 21 (by decide), o 21 (by decide) (by omega)]; exact j21, by rw [oκ 46 (by decide)]; exact k46, by rw [oκ 56 (by decide), o 56 (by decide) (by omega)]; exact j56, by rw [oκ 57 (by decide), o 57 (by decide) (by omega)]; exact j57, jV, jE, by omega, by omega, jV0, jE0, fun k rq' hk => ?_⟩ (by omega) (by omega) (by omega) (by omega) (by omega) (by omega) ⟨by omega, by omega, Or.inl ⟨by unfold ar; rw [if_pos (by omega)], WT_pr (W34 hw) (RS_fx hsκ') _ _ x1, WT_pr (W34 hw) (RS_fx hsκ') _ _ y1⟩⟩ e5 (Nat.le_refl _) jT
        rw [e3.2 32 (by simp), k2]
        have hk' := (List.getElem?_eq_some_iff.mp hk).1
        exact nt_kp (jn' k rq' (by rw [List.getElem?_append_left hk']; exact hk)) (kp_tr gκ.1 gκ'.1 (Nat.le_refl _) (Nat.le_refl _) (Nat.le_refl _)) (by omega)
end MREAD23
