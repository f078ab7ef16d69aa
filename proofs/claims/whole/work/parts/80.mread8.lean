section MREAD8
variable {L : Lw} {ents : List (Tr × Tr)} {tx : List Nat}
/-- what hands a type to an annotation -/
def hT5 (τ : MS) (P : Nat) : MS := due (setF (setA (setA (agn τ P) 30 P (τ.1 54)) 23 P 6) 52 0) 3 (τ.1 54) (τ.2.1 25 P) 0
theorem m_hT5 {τ : MS} {P : Nat} (hP : P < 40) (h44 : τ.1 44 = i32 (P + 1)) (h : τ.2.1 23 P = i32 5) : f_handsType τ = some (0, hT5 τ P) := by
  have c23 : ix (i32 P) (aln 23) = true := c_ix (show P < 40 from hP) (by omega)
  have c30 : ix (i32 P) (aln 30) = true := c23
  have a54 : (agn τ P).1 54 = τ.1 54 := agn_o _ _ (by omega)
  have e1 : (setF (setA (setA (agn τ P) 30 P (τ.1 54)) 23 P 6) 52 0).1 54 = τ.1 54 := by rw [setF_ne _ _ (by decide)]; exact a54
  have e2 : (setF (setA (setA (agn τ P) 30 P (τ.1 54)) 23 P 6) 52 0).1 46 = τ.2.1 25 P := by
    rw [setF_ne _ _ (by decide)]
    show (agn τ P).1 46 = _
    unfold agn
    rw [setF_ne _ _ (by decide), setF_ne _ _ (by decide), setF_ne _ _ (by decide), setF_ne _ _ (by decide), setF_eq]
  unfold f_handsType B_handsType_196
  rw [h44, z_sub1, if_pos c23, z_nn (show P < 2147483648 by omega), h, if_neg (show ¬ (i32 5 = 1) from by decide), if_neg (show ¬ (i32 5 = 2) from by decide), if_neg (show ¬ (i32 5 = 3) from by decide), if_neg (show ¬ (i32 5 = 4) from by decide), if_pos (show i32 5 = 5 from rfl), m_again hP, Option.bind_some]
  dsimp only
  rw [if_pos c30, if_pos c23, a54, e1, e2, m_dueTerm, Option.bind_some]
  rfl
/-- what hands a term to an annotation -/
theorem m_hM6 {υ : MS} {P : Nat} (hP : P < 40) (h44 : υ.1 44 = i32 (P + 1)) (h : υ.2.1 23 P = i32 6) : f_handsTerm υ = (f_endsFound (υ.2.1 24 P) (υ.2.1 30 P) (υ.1 54) (setF (agn υ P) 44 (i32 P))).bind fun q => some (0, q.2) := by
  have c23 : ix (i32 P) (aln 23) = true := c_ix (show P < 40 from hP) (by omega)
  have c24 : ix (i32 P) (aln 24) = true := c23
  have c30 : ix (i32 P) (aln 30) = true := c23
  have a44 : (agn υ P).1 44 = i32 (P + 1) := by rw [agn_o _ _ (by omega)]; exact h44
  have a54 : (setF (agn υ P) 44 (i32 P)).1 54 = υ.1 54 := by rw [setF_ne _ _ (by decide), agn_o _ _ (by omega)]
  unfold f_handsTerm B_handsTerm_375
  rw [h44, z_sub1, m_again hP, Option.bind_some]
  dsimp only
  rw [if_pos c23, z_nn (show P < 2147483648 by omega), show (agn υ P).2.1 23 P = i32 6 from h, if_neg (show ¬ (i32 6 = 0) from by decide), if_neg (show ¬ (i32 6 = 1) from by decide), if_neg (show ¬ (i32 6 = 2) from by decide), if_neg (show ¬ (i32 6 = 3) from by decide), if_neg (show ¬ (i32 6 = 4) from by decide), if_neg (show ¬ (i32 6 = 5) from by decide), if_pos (show i32 6 = 6 from rfl), if_pos c24, if_pos c30, a44, z_sub1, a54]
  rfl
theorem bind_run {f : Option (Int32 × MS)} {F : Nat} : ((f.bind fun q => some ((0 : Int32), q.2)).bind fun q => L_readsWhole_15 F q.2) = f.bind fun q => L_readsWhole_15 F q.2 := by
  cases f <;> rfl
/-- what began can be found: the state in which it ends, with what is asked of it -/
theorem end_state (hw : WL L ents tx) {vt : List Rq} {σ υ : MS} {V E T V2 E2 T2 P nd r : Nat} {rq : Rq} {s a : Int32} (hg : GR σ υ V E T P) (hN : Need L σ V E T vt nd rq) (hs : RS L ents tx υ) (hd : DS vt υ V2 E2 T2 r) (hp : prt υ P s a (i32 vt.length) (σ.1 47) (σ.1 48) (σ.1 49) (σ.1 50)) (bV : V ≤ V2) (bE : E ≤ E2) (bT : T ≤ T2) : GR σ (setF (agn υ P) 44 (i32 P)) V E T P ∧ RS L ents tx (setF (agn υ P) 44 (i32 P)) ∧ (setF (agn υ P) 44 (i32 P)).1 44 = i32 P ∧ (setF (agn υ P) 44 (i32 P)).1 46 = i32 vt.length ∧ (setF (agn υ P) 44 (i32 P)).1 56 = i32 r ∧ (setF (agn υ P) 44 (i32 P)).1 57 = -9 ∧ (setF (agn υ P) 44 (i32 P)).1 1 = i32 T2 ∧ (setF (agn υ P) 44 (i32 P)).1 19 = i32 V2 ∧ (setF (agn υ P) 44 (i32 P)).1 21 = i32 E2 ∧ Need L (setF (agn υ P) 44 (i32 P)) V2 E2 T2 vt nd rq ∧ (∀ (k : Nat) (rq : Rq), vt[k]? = some rq → ntOK (setF (agn υ P) 44 (i32 P)) T2 rq k ((setF (agn υ P) 44 (i32 P)).2.1 32 k)) ∧ kp υ (setF (agn υ P) 44 (i32 P)) V2 E2 T2 := by
  obtain ⟨d1, d19, d21, d46, d56, d57, dV, dE, dT, dT2, dV0, dE0, dn⟩ := hd
  obtain ⟨p46, p47, p48, p49, p50⟩ := agn_p hp
  have g2 : GR υ (setF (agn υ P) 44 (i32 P)) V2 E2 T2 P := GR_tr (agn_GR _ _ V2 E2 T2 P) (GR_F _ _ (by simp [FR]) V2 E2 T2 P) (Nat.le_refl _) (Nat.le_refl _) (Nat.le_refl _) (Nat.le_refl _)
  have g : GR σ (setF (agn υ P) 44 (i32 P)) V E T P := GR_tr hg g2 bV bE bT (Nat.le_refl _)
  have o : ∀ k, k ≠ 44 → (k < 46 ∨ 50 < k) → (setF (agn υ P) 44 (i32 P)).1 k = υ.1 k := fun k a b => by rw [setF_ne _ _ a, agn_o _ _ b]
  refine ⟨g, RS_kp hw hs g2.1 dV0 dE0 dT g2.2.1, setF_eq _ _ _, by rw [setF_ne _ _ (by decide)]; exact p46, by rw [o 56 (by decide) (by omega)]; exact d56, by rw [o 57 (by decide) (by omega)]; exact d57, by rw [o 1 (by decide) (by omega)]; exact d1, by rw [o 19 (by decide) (by omega)]; exact d19, by rw [o 21 (by decide) (by omega)]; exact d21, Need_kp hN g.1 bV bE bT (fun k h1 h2 => ?_), fun k rq hk => nt_kp (dn k rq hk) g2.1 (Nat.le_refl _), g2.1⟩
  rw [setF_ne _ _ (by omega)]
  rcases (show k = 47 ∨ k = 48 ∨ k = 49 ∨ k = 50 by omega) with rfl | rfl | rfl | rfl
  · exact p47
  · exact p48
  · exact p49
  · exact p50
/-- an annotation -/
theorem CI_typed (hw : WL L ents tx) {rT : RT} {rC : RC} {K : Nat} (oT : okT L tx rT) (oC : okC L tx rC) (hT : CT L ents tx rT K) (hC : CC L ents tx rC K) {vt : List Rq} {rq : Rq} {nd p V E T P F : Nat} {σ : MS} (hb : Beg L ents tx vt σ p V E T P F 0) (hN : Need L σ V E T vt nd rq) (hK : 2 * (33 - p) ≤ K + 2) (hc : byt tx p = 58) : RunI L ents tx vt σ p V E T P F nd rq ((rT vt (p + 1)).bind fun a => (rC vt (a.1, idr vt.length) a.2).bind fun b => .ok (a.1, b.1, b.2)) := by
  have hb' := hb
  obtain ⟨hv, hs, hd, h44, hP, hpl, h45, h52, hF⟩ := hb
  have hv10 := hv.1
  have hl := hw.2.2.2.1
  have hp : p < tx.length := byt_lt (by omega)
  obtain ⟨G, rfl⟩ : ∃ G, F = G + 1 := ⟨F - 1, by omega⟩
  have step := rd_found hw hb' hp (Or.inr (Or.inr (Or.inl hc)))
  obtain ⟨d1, d19, d21, d46, d56, d57, dV, dE, dT, dT2, dV0, dE0, dn⟩ := hd
  obtain ⟨bc, g1, p1⟩ := beg_child (s := 5) hw hb' hp (Or.inl ⟨rfl, rfl⟩)
  generalize hτ1 : setF (bgn (setF σ 56 (i32 (p + 1))) P 5 (i32 p)) 45 1 = τ1 at bc g1 p1
  have e : f_readsFound (i32 (byt tx p)) σ = some (0, τ1) := by
    rw [hc]
    unfold f_readsFound B_readsFound_158
    rw [if_pos (show i32 58 = 58 from rfl), d56, show i32 p + 1 = i32 (p + 1) from by rw [z1, z_add], m_begins (P := P) _ _ (by rw [setF_ne _ _ (by decide)]; exact h44) (by omega), Option.bind_some]
    dsimp only
    rw [show f_dueType (bgn (setF σ 56 (i32 (p + 1))) P 5 (i32 p)) = some (0, τ1) from by rw [← hτ1]; rfl, Option.bind_some]
  rw [e, Option.bind_some] at step
  have run := hT vt (p + 1) V E T (P + 1) G τ1 bc (by omega)
  cases hr : rT vt (p + 1) with
  | error e' =>
    rw [hr] at run
    exact RunE_lift step g1.1 g1.2.1 (Nat.le_refl _) (Nat.le_refl _) (Nat.le_refl _) run
  | ok a =>
    rw [hr] at run
    obtain ⟨w1, w2, w3, w4⟩ := oT vt (p + 1) a hv hr
    obtain ⟨F1, τ, V1, E1', T1', q1, q2, ⟨q3, q4, q5, q6, q7, q8, q9, q10, q11, q12, q13, q14⟩, g, q15, q16, q17⟩ := run
    obtain ⟨t1, t19, t21, t46, t56, t57, tV, tE, tT, tT2, tV0, tE0, tn⟩ := q4
    obtain ⟨G1, rfl⟩ : ∃ G1, F1 = G1 + 1 := ⟨F1 - 1, by omega⟩
    have pτ := prt_fr p1 q11.2.2
    have s1 : τ.2.1 23 P = i32 5 := pτ.1
    have step2 := rw_type (F := G1) t57 q12 (by omega) q13
    rw [m_hT5 (by omega) q12 s1, Option.bind_some] at step2
    dsimp only at step2
    -- the state in which the term is read
    generalize hσ2 : hT5 τ P = σ2 at step2
    have hσ2' : σ2 = due (setF (setA (setA (agn τ P) 30 P (i32 g)) 23 P 6) 52 0) 3 (i32 g) (i32 vt.length) 0 := by rw [← hσ2, hT5, q15, pτ.2.2.1]
    have gτ2 : ∀ Q, Q ≤ P → GR τ σ2 V1 E1' T1' Q := fun Q hQ => by
      rw [hσ2']
      exact GR_tr (agn_GR τ P V1 E1' T1' Q) (GR_tr (GR_A _ _ (Or.inr ⟨by decide, by decide, hQ⟩) V1 E1' T1') (GR_tr (GR_A _ _ (Or.inr ⟨by decide, by decide, hQ⟩) V1 E1' T1') (GR_tr (GR_F _ _ (by simp [FR]) V1 E1' T1' Q) (due_GR _ _ _ _ _ V1 E1' T1' Q) (Nat.le_refl _) (Nat.le_refl _) (Nat.le_refl _) (Nat.le_refl _)) (Nat.le_refl _) (Nat.le_refl _) (Nat.le_refl _) (Nat.le_refl _)) (Nat.le_refl _) (Nat.le_refl _) (Nat.le_refl _) (Nat.le_refl _)) (Nat.le_refl _) (Nat.le_refl _) (Nat.le_refl _) (Nat.le_refl _)
    have o2 : ∀ k, k ≠ 45 → k ≠ 52 → (k < 46 ∨ 50 < k) → σ2.1 k = τ.1 k := fun k h1 h2 h3 => by
      rw [hσ2', due_o _ _ _ _ _ ⟨h1, by omega⟩, setF_ne _ _ h2]
      exact agn_o _ _ h3
    have a46 : σ2.1 46 = i32 vt.length := by
      rw [hσ2', due_o _ _ _ _ _ ⟨by decide, by omega⟩, setF_ne _ _ (by decide)]
      exact (agn_p pτ).1
    have a52 : σ2.1 52 = i32 0 := by
      rw [hσ2', due_o _ _ _ _ _ ⟨by decide, by omega⟩]
      exact setF_eq _ _ _
    have dp2 := due_p (setF (setA (setA (agn τ P) 30 P (i32 g)) 23 P 6) 52 0) 3 (i32 g) (i32 vt.length) 0
    rw [← hσ2'] at dp2
    have r2 : σ2.2 = (setA (setA (agn τ P) 30 P (i32 g)) 23 P 6).2 := by rw [hσ2']; rfl
    have arr : ∀ j, j ≠ 30 → j ≠ 23 → σ2.2.1 j = τ.2.1 j := fun j h1 h2 => by
      rw [r2]
      simp only [setA]
      rw [if_neg h2, if_neg h1]
      rfl
    have a30 : σ2.2.1 30 P = i32 g := by
      rw [r2]
      rw [setA_ne _ _ (Or.inl (by decide)), setA_at]
    have a23 : σ2.2.1 23 P = i32 6 := by
      rw [r2]
      exact setA_at _ _ _ _
    have gg := gτ2 P (Nat.le_refl _)
    have gg0 := gτ2 0 (Nat.zero_le _)
    have p2 : prt σ2 P 6 (i32 p) (i32 vt.length) (σ.1 47) (σ.1 48) (σ.1 49) (σ.1 50) := by
      obtain ⟨_, x2, x3, x4, x5, x6, x7⟩ := pτ
      exact ⟨a23, by rw [arr 24 (by decide) (by decide)]; exact x2, by rw [arr 25 (by decide) (by decide)]; exact x3, by rw [arr 26 (by decide) (by decide)]; exact x4, by rw [arr 27 (by decide) (by decide)]; exact x5, by rw [arr 28 (by decide) (by decide)]; exact x6, by rw [arr 29 (by decide) (by decide)]; exact x7⟩
    have bc2 : Beg L ents tx vt σ2 a.2 V1 E1' T1' (P + 1) G1 0 := Beg_of hw hv q3 ⟨t1, t19, t21, t46, t56, t57, tV, tE, tT, tT2, tV0, tE0, tn⟩ ⟨gg0.1, gg0.2.1⟩ (arr 32 (by decide) (by decide)) (by rw [o2 1 (by decide) (by decide) (by omega)]; exact t1) (by rw [o2 19 (by decide) (by decide) (by omega)]; exact t19) (by rw [o2 21 (by decide) (by decide) (by omega)]; exact t21) a46 (by rw [o2 56 (by decide) (by decide) (by omega)]; exact t56) (by rw [o2 57 (by decide) (by decide) (by omega)]; exact t57) (by rw [o2 44 (by decide) (by decide) (by omega)]; exact q12) (by omega) (Nat.le_refl _) (by omega) dp2.1 a52 (by omega)
    have hN2 : Need L σ2 V1 E1' T1' vt 3 (a.1, idr vt.length) := Or.inr ⟨rfl, dp2.2.1, rq_id hv10 w1 w2, g, 0, dp2.2.2.1, by rw [dp2.2.2.2.1, idr_len], dp2.2.2.2.2, kp_fm gg0.1 q16 q17, q17, rp_id bc2.2.1 tV0 tE0 _ hv10⟩
    have run2 := hC vt (a.1, idr vt.length) a.2 V1 E1' T1' (P + 1) G1 σ2 bc2 hN2 (by omega)
    have st12 : L_readsWhole_15 (G + 1) σ = L_readsWhole_15 G1 σ2 := by rw [step, q2, step2]
    have g2 : GR σ σ2 V E T P := GR_tr g1 (GR_tr (show GR τ1 τ V E T P from ⟨q11.1, q11.2.1, fun j h1 h2 i hi => q11.2.2 j h1 h2 i (by omega)⟩) gg q5 q7 q9 (Nat.le_refl _)) (Nat.le_refl _) (Nat.le_refl _) (Nat.le_refl _) (Nat.le_refl _)
    show RunI L ents tx vt σ p V E T P (G + 1) nd rq ((rC vt (a.1, idr vt.length) a.2).bind fun b => .ok (a.1, b.1, b.2))
    cases hr2 : rC vt (a.1, idr vt.length) a.2 with
    | error e' =>
      rw [hr2] at run2
      exact RunE_lift st12 g2.1 g2.2.1 q5 q7 q9 run2
    | ok b =>
      rw [hr2] at run2
      obtain ⟨x1, x2, x3, x4⟩ := oC vt _ a.2 b hv (rq_id hv10 w1 w2) hr2
      obtain ⟨F2, υ, V2, E2, T2', y1, y2, ⟨y3, y4, y5, y6, y7, y8, y9, y10, y11, y12, y13, y14⟩, h, y15, y16, y17⟩ := run2
      have y4' := y4
      obtain ⟨u1, u19, u21, u46, u56, u57, uV, uE, uT, uT2, uV0, uE0, un'⟩ := y4
      obtain ⟨G2, rfl⟩ : ∃ G2, F2 = (G2 + 1) + 1 := ⟨F2 - 2, by omega⟩
      have pυ := prt_fr p2 y11.2.2
      have v30 : υ.2.1 30 P = i32 g := by rw [y11.2.2 30 (by decide) (by decide) P (Nat.lt_succ_self P)]; exact a30
      have step3 := rw_term (F := G2 + 1) u57 y12 (by omega) y13
      rw [m_hM6 (by omega) y12 pυ.1, bind_run, pυ.2.1, v30, y15] at step3
      have gυ : GR σ υ V E T P := GR_tr g2 (show GR σ2 υ V1 E1' T1' P from ⟨y11.1, y11.2.1, fun j h1 h2 i hi => y11.2.2 j h1 h2 i (by omega)⟩) q5 q7 q9 (Nat.le_refl _)
      obtain ⟨z1', z2', z3', z4', z5', z6', z7', z8', z9', z10', z11', z12'⟩ := end_state hw gυ hN y3 y4' pυ (by omega) (by omega) (by omega)
      generalize setF (agn υ P) 44 (i32 P) = κ at step3 z1' z2' z3' z4' z5' z6' z7' z8' z9' z10' z11' z12'
      have kτυ : kp τ υ V1 E1' T1' := kp_tr gg0.1 y11.1 (Nat.le_refl _) (Nat.le_refl _) (Nat.le_refl _)
      have pA : plc κ T2' a.1 vt.length (i32 g) g := Or.inl ⟨w2, rfl, kp_fm z12' (kp_fm kτυ q16 q17) (by omega), by omega⟩
      have pB : plc κ T2' b.1 vt.length (i32 h) h := Or.inl ⟨x2, rfl, kp_fm z12' y16 y17, y17⟩
      have hf := m_fnd (p := p) hw (kp_rf κ V2 E2 T2') (ch_rf _ _ κ) (Nat.le_refl _) (by omega) z2' hv rfl z10' z7' z8' z9' z4' z6' (fun _ => w1) pA (fun _ => pB) (by omega) (by omega) (by omega) uV0 uE0 (fun _ => y14.2 h y15 (by omega))
      have eq : (.ok (a.1, b.1, b.2) : Except Nat (Tr × Tr × Nat)) = stl a.1 b.1 vt.length p b.2 := (cif_pos ⟨w2, x2⟩ _ _).symm
      show RunI L ents tx vt σ p V E T P (G + 1) nd rq (.ok (a.1, b.1, b.2))
      rw [eq]
      exact FndRun hw (st12.trans (y2.trans step3)) (by omega) (by omega) (by omega) (by omega) (by omega) z1' z2' z3' z4' z5' z11' (by omega) (by omega) (by omega) (by omega) (by omega) (by omega) dV dE dT dT2 dV0 dE0 hf
end MREAD8
