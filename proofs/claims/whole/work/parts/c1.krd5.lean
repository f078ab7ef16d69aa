section KRD5
variable {L : Lw} {ents : List (Tr × Tr)} {tx : List Nat}
theorem check_go {d n a f p : Nat} {c : Int32} {σ : CS} (hf : f_Values_formOf (i32 a) σ = some (i32 f, σ)) (hpk : f_Reader_peek σ = some (c, σ)) (h7 : σ.1 43 7 = i32 p) : f_Reader_checkTerm (d + 1 + 1) (i32 a) (i32 n) σ = (if c = 42 then (if i32 f = 49 then f_Reader_join 42 (-1) (-1) (i32 p) (sI σ 43 7 (i32 (p + 1))) else f_Reader_refuse (i32 p) σ) else if c = 44 then (if i32 f = 83 then f_Reader_readPair (d + 1) (i32 a) (i32 n) σ else f_Reader_refuse (i32 p) σ) else if c = 92 then (if i32 f = 80 then (if 10 ≤ i32 n then f_Reader_refuse (i32 p) σ else f_Reader_readFunction (d + 1) (i32 a) (i32 n) σ) else f_Reader_refuse (i32 p) σ) else (f_Reader_inferTerm d (i32 n) σ).bind fun q7 => (if q7.1 = (-1) then some ((-1), q7.2) else rqK (i32 a) (i32 n) (i32 p) q7.1 q7.2)) := by
  have hci : f_Reader_checkInferred (d + 1) (i32 a) (i32 n) σ = (f_Reader_inferTerm d (i32 n) σ).bind fun q7 => (if q7.1 = (-1) then some ((-1), q7.2) else rqK (i32 a) (i32 n) (i32 p) q7.1 q7.2) := by
    show F_Reader_checkInferred (G_Reader d).1 (G_Reader d).2.1 (G_Reader d).2.2.1 (G_Reader d).2.2.2.1 (G_Reader d).2.2.2.2.1 (G_Reader d).2.2.2.2.2.1 (G_Reader d).2.2.2.2.2.2.1 (G_Reader d).2.2.2.2.2.2.2.1 (G_Reader d).2.2.2.2.2.2.2.2.1 (G_Reader d).2.2.2.2.2.2.2.2.2 _ _ _ = _
    unfold F_Reader_checkInferred B_Reader_checkInferred_89 B_Reader_checkInferred_90 B_Reader_checkInferred_125
    rw [h7]
    rfl
  rw [← hci]
  show F_Reader_checkTerm (G_Reader (d + 1)).1 (G_Reader (d + 1)).2.1 (G_Reader (d + 1)).2.2.1 (G_Reader (d + 1)).2.2.2.1 (G_Reader (d + 1)).2.2.2.2.1 (G_Reader (d + 1)).2.2.2.2.2.1 (G_Reader (d + 1)).2.2.2.2.2.2.1 (G_Reader (d + 1)).2.2.2.2.2.2.2.1 (G_Reader (d + 1)).2.2.2.2.2.2.2.2.1 (G_Reader (d + 1)).2.2.2.2.2.2.2.2.2 _ _ _ = _
  unfold F_Reader_checkTerm B_Reader_checkTerm_107 B_Reader_checkTerm_124 B_Reader_checkTerm_125 B_Reader_checkTerm_147
  rw [hf, Option.bind_some]
  dsimp only
  rw [hpk, Option.bind_some]
  dsimp only
  rw [h7, show i32 p + 1 = i32 (p + 1) from by rw [z1, z_add]]
  have e0 : ∀ (x y : Option (Int32 × CS)), (if (0 : Int32) = 0 then x else y) = x := fun x y => if_pos rfl
  have e1 : ∀ (x y : Option (Int32 × CS)), (if (1 : Int32) = 0 then x else y) = y := fun x y => if_neg (by decide)
  simp only [obid]
  rfl
theorem c_cases (p q : Prop) [Decidable p] {α : Sort _} (a b : α) (h : p ↔ q) : True := trivial
/-- a pair -/
theorem KC_pair (hw : WL L ents tx) {rC : RC} {K d : Nat} (oC : okC L tx rC) (hC : KC L ents tx rC K) (hd : 2 * K ≤ d) {vt : List Rq} {rq : Rq} {p V T a : Nat} {σ : CS} (hb : BK L ents tx vt σ p V T) (hrq : rqOK L vt rq) (ht : tyK σ V T rq.1 rq.2 a) (hp : p < tx.length) (hK : 2 * (33 - p) ≤ K + 2) (hh : hdr rq.1 = 83) : RnT (f_Reader_readPair (d + 1) (i32 a) (i32 vt.length) σ) vt σ p V T ((rC vt (fstT rq.1, rq.2) (p + 1)).bind fun a => (rC vt (sndT rq.1, rq.2 ++ [evD a.1 (idr vt.length)]) a.2).bind fun b => jn (.branch 44 a.1 b.1) p b.2) := by
  have hl := hw.2.2.2.1
  have hv := hb.1
  have hv10 := hv.1
  obtain ⟨d1, d2, d3, d4, d5, d6, d7, d8⟩ := hb.2.2.1
  have b1 := BK_next hb hp
  have f7 := next_F σ (p + 1) V T vt.length
  obtain ⟨Γ, w1, w2, w3, w4, w5⟩ := id hrq
  have ew := hdr_SP (W34 hw).1 w1 (Or.inl rfl) hh
  have hrq1 := rq_fst (W34 hw).1 (Or.inl rfl) hh hrq
  have t0 := tyK_kp f7.1 (FK_fx f7) (Nat.le_refl V) (Nat.le_refl T) ht
  rw [ew] at t0
  have hgo : f_Reader_readPair (d + 1) (i32 a) (i32 vt.length) σ = (f_Values_firstType (i32 a) (sI σ 43 7 (i32 (p + 1)))).bind fun q1 => (f_Reader_checkTerm d q1.1 (i32 vt.length) q1.2).bind fun q2 => (if q2.1 = (-1) then some ((-1), q2.2) else (f_Reader_scope (i32 vt.length) q2.2).bind fun q3 => (f_Values_evaluate 220 q2.1 q3.1 104 q3.2).bind fun q4 => (f_Values_secondType (i32 a) q4.1 q4.2).bind fun q5 => (f_Reader_checkTerm d q5.1 (i32 vt.length) q5.2).bind fun q6 => (if q6.1 = (-1) then some (-1, q6.2) else f_Reader_join 44 q2.1 q6.1 (i32 p) q6.2)) := by
    show F_Reader_readPair (G_Reader d).1 (G_Reader d).2.1 (G_Reader d).2.2.1 (G_Reader d).2.2.2.1 (G_Reader d).2.2.2.2.1 (G_Reader d).2.2.2.2.2.1 (G_Reader d).2.2.2.2.2.2.1 (G_Reader d).2.2.2.2.2.2.2.1 (G_Reader d).2.2.2.2.2.2.2.2.1 (G_Reader d).2.2.2.2.2.2.2.2.2 _ _ _ = _
    unfold F_Reader_readPair B_Reader_readPair_94
    rw [d6, show i32 p + 1 = i32 (p + 1) from by rw [z1, z_add]]
    simp only [obid]
    rfl
  have hR1 := BK_R hw b1
  obtain ⟨l, x, y1, y2⟩ := k_firstTypeK (Or.inl rfl) hR1.2.2.1 d3 (by omega) t0
  rw [y1, Option.bind_some] at hgo
  dsimp only at hgo
  have cM := mkn_ch (A := AV) (sI σ 43 7 (i32 (p + 1))) V 10 l x (fun _ h => h)
  have kM := mkn_kp (sI σ 43 7 (i32 (p + 1))) V 10 l x T
  have fM : FK (sI σ 43 7 (i32 (p + 1))) (mkn (sI σ 43 7 (i32 (p + 1))) V 10 l x) V T vt.length := FK_AV kM cM
  have b2 : BK L ents tx vt (mkn (sI σ 43 7 (i32 (p + 1))) V 10 l x) (p + 1) (V + 1) T := BK_go b1 fM (by rw [cM.2.1 34 (by decide)]; exact hR1.2.1) (mkn_V _ _ _ _ _) (by rw [cM.2.1 43 (by decide)]; exact sI_at _ _ _ _) (by omega) (by omega) (Nat.le_refl _) (by omega) (by omega)
  have f2 := FK_tr f7 fM (Nat.le_refl _) (Nat.le_refl _) (Nat.le_refl _)
  have t2 := tyK_kp kM (cK_fx cM n36V) (show V ≤ V + 1 by omega) (Nat.le_refl T) t0
  generalize mkn (sI σ 43 7 (i32 (p + 1))) V 10 l x = σ2 at hgo b2 f2 t2 y2
  have run := hC d hd vt (fstT rq.1, rq.2) (p + 1) (V + 1) T V σ2 b2 hrq1 y2 (by omega)
  cases hr : rC vt (fstT rq.1, rq.2) (p + 1) with
  | error e =>
    rw [hr] at run
    obtain ⟨he, τ, e1, e2, e3⟩ := run
    refine ⟨he, τ, ?_, e2, cK_tr f2.2.1 e3⟩
    rw [hgo, e1, Option.bind_some]
    dsimp only
    rw [if_pos rfl]
  | ok u =>
    rw [hr] at run
    obtain ⟨x1, x2, x3, x4⟩ := oC vt _ (p + 1) u hv hrq1 hr
    obtain ⟨g, τ, V1, T1', e1, e2, e3, e4, e5, e6, e7, e8, e9, e10, e11⟩ := run
    have f3 := FK_tr f2 e9 (show V ≤ V + 1 by omega) (Nat.le_refl _) (Nat.le_refl _)
    have b3 : BK L ents tx vt τ u.2 V1 T1' := BK_go hb f3 e5 e2 e8 (by omega) (by omega) e6 (by omega) x4
    have hR3 := BK_R hw b3
    obtain ⟨e, s1, s2⟩ := b3.2.2.1.2.2.2.2.2.2.1 vt.length (Nat.le_refl _)
    have t3 := tyK_kp e9.1 (FK_fx e9) e3 e6 t2
    rw [e1, Option.bind_some] at hgo
    dsimp only at hgo
    rw [if_neg (i_ne1 (a := g) (by omega)), k_scope hv10, s1, Option.bind_some] at hgo
    dsimp only at hgo
    obtain ⟨v, τ4, V4, k1, k2, k3, k4⟩ := k_evF hw hv hR3 (by omega) x1 x2 e10 e11 s2 (by omega)
    rw [k1, Option.bind_some] at hgo
    dsimp only at hgo
    have hV4 := k2.2.1
    have hR4 := RdP_AV hR3 k2.2.2.2.1 k2.2.2.2.2 k2.1 hV4 (by omega)
    have hrq2 := rq_snd (W34 hw).1 (Or.inl rfl) hh hrq (RV_EV _ _ k4)
    have hm : rq.2.length < 10 := by
      obtain ⟨_, _, _, _, hl', _⟩ := hrq2
      simp at hl'
      omega
    obtain ⟨r9, l9, y3, y4⟩ := k_secondTypeK (Or.inl rfl) hR4.2.1 (by omega) k2.1 (by omega) (by omega) (tyK_kp k2.2.2.2.1 (EvR_fx k2) hV4 (Nat.le_refl _) t3) k2.2.2.1 hm
    rw [y3, Option.bind_some] at hgo
    dsimp only at hgo
    have cM1 := mkn_ch (A := AV) τ4 V4 9 (i32 v) r9 (fun _ h => h)
    have kM1 := mkn_kp τ4 V4 9 (i32 v) r9 T1'
    have cM2 := mkn_ch (A := AV) (mkn τ4 V4 9 (i32 v) r9) (V4 + 1) 10 l9 (i32 V4) (fun _ h => h)
    have kM2 := mkn_kp (mkn τ4 V4 9 (i32 v) r9) (V4 + 1) 10 l9 (i32 V4) T1'
    have kk2 := kK_tr k2.2.2.2.1 (kK_tr kM1 kM2 (by omega) (Nat.le_refl _)) hV4 (Nat.le_refl _)
    have cc2 := cK_tr k2.2.2.2.2 (cK_tr cM1 cM2)
    have vv2 : (mkn (mkn τ4 V4 9 (i32 v) r9) (V4 + 1) 10 l9 (i32 V4)).1 38 4 = i32 (V4 + 2) := mkn_V _ _ _ _ _
    generalize mkn (mkn τ4 V4 9 (i32 v) r9) (V4 + 1) 10 l9 (i32 V4) = τ5 at hgo y4 kk2 cc2 vv2
    have f5 : FK τ τ5 V1 T1' vt.length := FK_AV kk2 cc2
    have b5 : BK L ents tx vt τ5 u.2 (V4 + 2) T1' := BK_go b3 f5 (by rw [cc2.2.1 34 (by decide)]; exact e5) vv2 (by rw [cc2.2.1 43 (by decide)]; exact e8) (by omega) (by omega) (Nat.le_refl _) (by omega) x4
    have f6 := FK_tr f3 f5 (by omega) e6 (Nat.le_refl _)
    have run2 := hC d hd vt (sndT rq.1, rq.2 ++ [evD u.1 (idr vt.length)]) u.2 (V4 + 2) T1' (V4 + 1) τ5 b5 hrq2 y4 (by omega)
    show RnT _ vt σ p V T ((rC vt (sndT rq.1, rq.2 ++ [evD u.1 (idr vt.length)]) u.2).bind fun b => jn (.branch 44 u.1 b.1) p b.2)
    cases hr2 : rC vt (sndT rq.1, rq.2 ++ [evD u.1 (idr vt.length)]) u.2 with
    | error e' =>
      rw [hr2] at run2
      obtain ⟨he, υ, g1, g2, g3⟩ := run2
      refine ⟨he, υ, ?_, g2, cK_tr f6.2.1 g3⟩
      rw [hgo, g1, Option.bind_some]
      dsimp only
      rw [if_pos rfl]
    | ok b =>
      rw [hr2] at run2
      obtain ⟨z1', z2', z3', z4'⟩ := oC vt _ u.2 b hv hrq2 hr2
      obtain ⟨g2, υ, V2, T2', u1, u2, u3, u4, u5, u6, u7, u8, u9, u10, u11⟩ := run2
      rw [u1, Option.bind_some] at hgo
      dsimp only at hgo
      rw [if_neg (i_ne1 (a := g2) (by omega))] at hgo
      have f8 := FK_tr f6 u9 (by omega) e6 (Nat.le_refl _)
      have b8 : BK L ents tx vt υ b.2 V2 T2' := BK_go hb f8 u5 u2 u8 (by omega) (by omega) (by omega) (by omega) z4'
      have hL := (W34 hw).2
      obtain ⟨r, ω, j1, j2⟩ := k_join2 (p := p) (n := vt.length) (c := 44) (BK_R hw b8) (by rw [ctx_len]; exact Nat.le_refl _) (by omega) (by omega) (by omega) (HT_pr hL _ _ _ _ _ x1) (kK_fm u9.1 (kK_fm kk2 e10 e11) e11) (show g + ln u.1 ≤ T2' by omega) (HT_pr hL _ _ _ _ _ z1') u10 u11
      exact Join_T f8 (by omega) (by omega) (by omega) (by omega) u8 (by omega) (by rw [hgo]; exact j1) j2
/-- a function -/
theorem KC_lam (hw : WL L ents tx) {rC : RC} {K d : Nat} (oC : okC L tx rC) (hC : KC L ents tx rC K) (hd : 2 * K ≤ d) {vt : List Rq} {rq : Rq} {p V T a : Nat} {σ : CS} (hb : BK L ents tx vt σ p V T) (hrq : rqOK L vt rq) (ht : tyK σ V T rq.1 rq.2 a) (hp : p < tx.length) (hK : 2 * (33 - p) ≤ K + 2) (hh : hdr rq.1 = 80) (hn : vt.length < 10) : RnT (f_Reader_readFunction (d + 1) (i32 a) (i32 vt.length) σ) vt σ p V T ((rC (vt ++ [(fstT rq.1, rq.2)]) (sndT rq.1, rq.2 ++ [nm vt.length]) (p + 1)).bind fun a => jn (un 92 a.1) p a.2) := by
  have hl := hw.2.2.2.1
  have hv := hb.1
  have hv10 := hv.1
  obtain ⟨d1, d2, d3, d4, d5, d6, d7, d8⟩ := hb.2.2.1
  have b1 := BK_next hb hp
  have f7 := next_F σ (p + 1) V T vt.length
  obtain ⟨Γ, w1, w2, w3, w4, w5⟩ := id hrq
  have ew := hdr_SP (W34 hw).1 w1 (Or.inr rfl) hh
  have hrq1 := rq_fst (W34 hw).1 (Or.inr rfl) hh hrq
  have hv' := vt_snoc hv hrq1 hn
  have hrq2 : rqOK L (vt ++ [(fstT rq.1, rq.2)]) (sndT rq.1, rq.2 ++ [nm vt.length]) := by
    refine rq_snd (W34 hw).1 (Or.inr rfl) hh (rq_snoc hrq) ?_
    rw [ctx_snoc]
    exact EV_nm (ctx_len vt) hn
  have hm : rq.2.length < 10 := by
    obtain ⟨_, _, _, _, hl', _⟩ := hrq2
    simp at hl'
    omega
  have t0 := tyK_kp f7.1 (FK_fx f7) (Nat.le_refl V) (Nat.le_refl T) ht
  rw [ew] at t0
  have hgo : f_Reader_readFunction (d + 1) (i32 a) (i32 vt.length) σ = (f_Values_firstType (i32 a) (sI σ 43 7 (i32 (p + 1)))).bind fun q1 => (f_Reader_bind q1.1 (i32 vt.length) q1.2).bind fun q2 => (f_Values_secondType (i32 a) q2.1 q2.2).bind fun q3 => (f_Reader_checkTerm d q3.1 (i32 vt.length + 1) q3.2).bind fun q4 => (if q4.1 = (-1) then some (-1, q4.2) else f_Reader_join 92 q4.1 (-1) (i32 p) q4.2) := by
    show F_Reader_readFunction (G_Reader d).1 (G_Reader d).2.1 (G_Reader d).2.2.1 (G_Reader d).2.2.2.1 (G_Reader d).2.2.2.2.1 (G_Reader d).2.2.2.2.2.1 (G_Reader d).2.2.2.2.2.2.1 (G_Reader d).2.2.2.2.2.2.2.1 (G_Reader d).2.2.2.2.2.2.2.2.1 (G_Reader d).2.2.2.2.2.2.2.2.2 _ _ _ = _
    unfold F_Reader_readFunction B_Reader_readFunction_69
    rw [d6, show i32 p + 1 = i32 (p + 1) from by rw [z1, z_add]]
    simp only [obid]
    rfl
  have hR1 := BK_R hw b1
  obtain ⟨l, x, y1, y2⟩ := k_firstTypeK (Or.inr rfl) hR1.2.2.1 d3 (by omega) t0
  rw [y1, Option.bind_some] at hgo
  dsimp only at hgo
  have cM := mkn_ch (A := AV) (sI σ 43 7 (i32 (p + 1))) V 10 l x (fun _ h => h)
  have kM := mkn_kp (sI σ 43 7 (i32 (p + 1))) V 10 l x T
  have fM : FK (sI σ 43 7 (i32 (p + 1))) (mkn (sI σ 43 7 (i32 (p + 1))) V 10 l x) V T vt.length := FK_AV kM cM
  have b2 : BK L ents tx vt (mkn (sI σ 43 7 (i32 (p + 1))) V 10 l x) (p + 1) (V + 1) T := BK_go b1 fM (by rw [cM.2.1 34 (by decide)]; exact hR1.2.1) (mkn_V _ _ _ _ _) (by rw [cM.2.1 43 (by decide)]; exact sI_at _ _ _ _) (by omega) (by omega) (Nat.le_refl _) (by omega) (by omega)
  have f2 := FK_tr f7 fM (Nat.le_refl _) (Nat.le_refl _) (Nat.le_refl _)
  have t2 := tyK_kp kM (cK_fx cM n36V) (show V ≤ V + 1 by omega) (Nat.le_refl T) t0
  generalize mkn (sI σ 43 7 (i32 (p + 1))) V 10 l x = σ2 at hgo b2 f2 t2 y2
  obtain ⟨σ3, x1, x2, x3, x4⟩ := k_bind (rq := (fstT rq.1, rq.2)) b2.2.2.1 y2 hn (by omega) (by omega)
  rw [x1, Option.bind_some] at hgo
  dsimp only at hgo
  have t3 := tyK_kp x3.1 (FK_fx x3) (show V + 1 ≤ V + 1 + 2 by omega) (Nat.le_refl T) t2
  obtain ⟨r9, l9, y3, y4⟩ := k_secondTypeK (Or.inr rfl) x4.1 (by omega) x4.2.1 (by omega) (by omega) t3 x2 hm
  rw [y3, Option.bind_some] at hgo
  dsimp only at hgo
  have cM1 := mkn_ch (A := AV) σ3 (V + 1 + 2) 9 (i32 (V + 1)) r9 (fun _ h => h)
  have kM1 := mkn_kp σ3 (V + 1 + 2) 9 (i32 (V + 1)) r9 T
  have cM2 := mkn_ch (A := AV) (mkn σ3 (V + 1 + 2) 9 (i32 (V + 1)) r9) (V + 1 + 2 + 1) 10 l9 (i32 (V + 1 + 2)) (fun _ h => h)
  have kM2 := mkn_kp (mkn σ3 (V + 1 + 2) 9 (i32 (V + 1)) r9) (V + 1 + 2 + 1) 10 l9 (i32 (V + 1 + 2)) T
  have kk2 := kK_tr kM1 kM2 (by omega) (Nat.le_refl _)
  have cc2 := cK_tr cM1 cM2
  have vv2 : (mkn (mkn σ3 (V + 1 + 2) 9 (i32 (V + 1)) r9) (V + 1 + 2 + 1) 10 l9 (i32 (V + 1 + 2))).1 38 4 = i32 (V + 5) := mkn_V _ _ _ _ _
  generalize mkn (mkn σ3 (V + 1 + 2) 9 (i32 (V + 1)) r9) (V + 1 + 2 + 1) 10 l9 (i32 (V + 1 + 2)) = σ4 at hgo y4 kk2 cc2 vv2
  have f4 : FK σ3 σ4 (V + 1 + 2) T (vt ++ [(fstT rq.1, rq.2)]).length := FK_AV kk2 cc2
  have b3 : BK L ents tx (vt ++ [(fstT rq.1, rq.2)]) σ3 (p + 1) (V + 1 + 2) T := ⟨hv', RK_go b2.2.1 x3.1 x3.2.1 (Nat.le_refl _), x4, by omega⟩
  have b4 : BK L ents tx (vt ++ [(fstT rq.1, rq.2)]) σ4 (p + 1) (V + 5) T := BK_go b3 f4 (by rw [cc2.2.1 34 (by decide)]; exact x4.1) vv2 (by rw [cc2.2.1 43 (by decide)]; exact x4.2.2.2.2.2.1) (by omega) (by omega) (Nat.le_refl _) (by omega) (by omega)
  have f5 : FK σ σ4 V T vt.length := FK_tr (FK_tr f2 x3 (show V ≤ V + 1 by omega) (Nat.le_refl _) (Nat.le_refl _)) (⟨f4.1, f4.2.1, fun k hk => f4.2.2.1 k (by simp; omega), fun k hk => f4.2.2.2 k (by simp; omega)⟩ : FK σ3 σ4 (V + 1 + 2) T vt.length) (by omega) (Nat.le_refl _) (Nat.le_refl _)
  have en : i32 vt.length + 1 = i32 (vt ++ [(fstT rq.1, rq.2)]).length := by rw [z1, z_add]; simp
  rw [en] at hgo
  have run := hC d hd _ (sndT rq.1, rq.2 ++ [nm vt.length]) (p + 1) (V + 5) T (V + 1 + 2 + 1) σ4 b4 hrq2 y4 (by omega)
  cases hr : rC (vt ++ [(fstT rq.1, rq.2)]) (sndT rq.1, rq.2 ++ [nm vt.length]) (p + 1) with
  | error e =>
    rw [hr] at run
    obtain ⟨he, τ, e1, e2, e3⟩ := run
    refine ⟨he, τ, ?_, e2, cK_tr f5.2.1 e3⟩
    rw [hgo, e1, Option.bind_some]
    dsimp only
    rw [if_pos rfl]
  | ok b =>
    rw [hr] at run
    obtain ⟨z1', z2', z3', z4'⟩ := oC _ _ (p + 1) b hv' hrq2 hr
    obtain ⟨g2, υ, V2, T2', u1, u2, u3, u4, u5, u6, u7, u8, u9, u10, u11⟩ := run
    rw [u1, Option.bind_some] at hgo
    dsimp only at hgo
    rw [if_neg (i_ne1 (a := g2) (by omega))] at hgo
    have u9' : FK σ4 υ (V + 5) T vt.length := ⟨u9.1, u9.2.1, fun k hk => u9.2.2.1 k (by simp; omega), fun k hk => u9.2.2.2 k (by simp; omega)⟩
    have f8 := FK_tr f5 u9' (by omega) (Nat.le_refl _) (Nat.le_refl _)
    have b8 : BK L ents tx vt υ b.2 V2 T2' := BK_go hb f8 u5 u2 u8 (by omega) (by omega) (by omega) (by omega) z4'
    obtain ⟨r, ω, j1, j2⟩ := k_join1 (p := p) (n := vt.length) (c := 92) (BK_R hw b8) (by rw [ctx_len]; exact Nat.le_refl _) (by omega) (by omega) (by omega) (HT_pr (W34 hw).2 _ _ _ _ _ z1') u10 u11
    exact Join_T f8 (by omega) (by omega) (by omega) (by omega) u8 (by omega) (by rw [hgo]; exact j1) j2
/-- what is given: every kind of it -/
theorem KC_s (hw : WL L ents tx) {rC : RC} {rI : RN} {K : Nat} (oC : okC L tx rC) (oI : okI L tx rI) (hC : KC L ents tx rC K) (hI : KI L ents tx rI K) : KC L ents tx (spC tx rC rI) (K + 1) := by
  intro d hd vt rq p V T a σ hb hrq ht hK
  obtain ⟨d, rfl⟩ : ∃ k, d = k + 1 + 1 := ⟨d - 2, by omega⟩
  have hl := hw.2.2.2.1
  obtain ⟨hv, hs, hd', hp⟩ := id hb
  have hv10 := hv.1
  obtain ⟨d1, d2, d3, d4, d5, d6, d7, d8⟩ := id hd'
  obtain ⟨hfo, hlt⟩ := k_formOfK d1 (by omega) d2 (by omega) ht
  have bad : ∀ {f : Option (Int32 × CS)}, f = f_Reader_refuse (i32 p) σ → RnT f vt σ p V T (.error p) := fun h => rn_err (σ1 := σ) (by omega) (cK_rf _ _) (by rw [h]; rfl)
  have inf : f_Reader_checkTerm (d + 1 + 1) (i32 a) (i32 vt.length) σ = ((f_Reader_inferTerm d (i32 vt.length) σ).bind fun q7 => (if q7.1 = (-1) then some ((-1), q7.2) else rqK (i32 a) (i32 vt.length) (i32 p) q7.1 q7.2)) → RnT (f_Reader_checkTerm (d + 1 + 1) (i32 a) (i32 vt.length) σ) vt σ p V T ((rI vt p).bind fun a => cif (isReq a.1 rq vt.length) (.ok (a.2.1, a.2.2)) (.error p)) := by
    intro hgo
    have run := hI d (by omega) vt p V T σ hb hK
    cases hr : rI vt p with
    | error e =>
      rw [hr] at run
      obtain ⟨he, τ, e1, e2, e3⟩ := run
      refine ⟨he, τ, ?_, e2, e3⟩
      rw [hgo, e1, Option.bind_some]
      dsimp only
      rw [if_pos rfl]
    | ok y =>
      rw [hr] at run
      obtain ⟨w1, w2, w3, w4, w5, w6⟩ := oI vt p y hv hr
      obtain ⟨g, h, τ, T1', e1, e2, e3, e4, e5, e6, e7, e8, e9, e10, e11, e12⟩ := run
      have b2 : BK L ents tx vt τ y.2.2 V T1' := BK_go hb e7 e3 e2 e6 (Nat.le_refl _) (by omega) e4 (by omega) w6
      obtain ⟨Γ, v1, v2, v3, v4, v5⟩ := hrq
      obtain ⟨υ, r1, r2, r3, r4, r5, r6, r7⟩ := k_isRequired hw.1 (n := vt.length) (i32 p) (i32 g) v1 v2 (ctx_len vt) v3 v4 v5 (BK_R hw b2) (by omega) (by omega) (tyK_kp e7.1 (FK_fx e7) (Nat.le_refl _) e4 ht) w1 (BK_fx hw b2) e10 e11 e12
      rw [e1, Option.bind_some] at hgo
      dsimp only at hgo
      rw [if_neg (i_ne1 (a := g) (by omega)), r1] at hgo
      show RnT _ vt σ p V T (cif (isReq y.1 rq vt.length) (.ok (y.2.1, y.2.2)) (.error p))
      have f2 := FK_tr e7 (FK_AS (n := vt.length) r2 r3 r4) (Nat.le_refl _) e4 (Nat.le_refl _)
      by_cases hq : isReq y.1 rq vt.length
      · rw [cif_pos hq]
        rw [cif_pos (show fits (nft rq.1 rq.2 vt.length) vt.length ∧ enc (nft rq.1 rq.2 vt.length) = enc y.1 from hq)] at hgo
        exact ⟨g, υ, V, T1', hgo, r5, Nat.le_refl _, by show V + 27 ≤ V + 27 * (y.2.2 - p); omega, r6, e4, e5, by rw [r7]; exact e6, f2, kK_fm r2 e8 e9, e9⟩
      · rw [cif_neg hq]
        rw [cif_neg (show ¬ (fits (nft rq.1 rq.2 vt.length) vt.length ∧ enc (nft rq.1 rq.2 vt.length) = enc y.1) from hq)] at hgo
        exact rn_err (σ1 := υ) (by omega) f2.2.1 (by rw [hgo]; rfl)
  unfold spC
  by_cases hpl : p < tx.length
  · have h256 := byt_256 hw hpl
    have hgo := check_go (d := d) (n := vt.length) hfo (k_peek hs d6 hl hpl) d6
    by_cases c1 : byt tx p = 42
    · rw [if_pos c1]
      rw [c1, if_pos (show i32 42 = 42 from rfl)] at hgo
      by_cases hh : hdr rq.1 = 49
      · rw [if_pos hh]
        rw [hh, if_pos (show i32 49 = 49 from rfl)] at hgo
        have b1 := BK_next hb hpl
        have f7 := next_F σ (p + 1) V T vt.length
        obtain ⟨r, τ, j1, j2⟩ := k_join0 (p := p) (n := vt.length) (c := 42) (BK_R hw b1) (by rw [ctx_len]; exact Nat.le_refl _) (by omega) (by omega) (by omega)
        have := Join_T (vt := vt) (f := f_Reader_checkTerm (d + 1 + 1) (i32 a) (i32 vt.length) σ) (q := p + 1) f7 (Nat.le_refl _) (by omega) (Nat.le_refl _) (by omega) (sI_at _ _ _ _) (by omega) (by rw [hgo]; exact j1) j2
        rw [show jn (.leaf 42) p (p + 1) = .ok (.leaf 42, p + 1) from cif_pos (by rw [ln_leaf (by omega)]; omega) _ _] at this
        exact this
      · rw [if_neg hh]
        rw [if_neg (show ¬ (i32 (hdr rq.1) = 49) from c_eq (b := 49) hh (by omega) (by omega))] at hgo
        exact bad hgo
    rw [if_neg c1]
    rw [if_neg (show ¬ (i32 (byt tx p) = 42) from c_eq (b := 42) c1 (by omega) (by omega))] at hgo
    by_cases c2 : byt tx p = 44
    · rw [if_pos c2]
      rw [c2, if_pos (show i32 44 = 44 from rfl)] at hgo
      by_cases hh : hdr rq.1 = 83
      · rw [if_pos hh]
        rw [hh, if_pos (show i32 83 = 83 from rfl)] at hgo
        rw [hgo]
        exact KC_pair hw oC hC (by omega) hb hrq ht hpl (by omega) hh
      · rw [if_neg hh]
        rw [if_neg (show ¬ (i32 (hdr rq.1) = 83) from c_eq (b := 83) hh (by omega) (by omega))] at hgo
        exact bad hgo
    rw [if_neg c2]
    rw [if_neg (show ¬ (i32 (byt tx p) = 44) from c_eq (b := 44) c2 (by omega) (by omega))] at hgo
    by_cases c3 : byt tx p = 92
    · rw [if_pos c3]
      rw [c3, if_pos (show i32 92 = 92 from rfl)] at hgo
      by_cases hh : hdr rq.1 = 80
      · rw [hh, if_pos (show i32 80 = 80 from rfl)] at hgo
        by_cases hn : vt.length < 10
        · rw [if_pos ⟨hh, hn⟩]
          rw [if_neg (show ¬ ((10 : Int32) ≤ i32 vt.length) from by rw [show (10 : Int32) = i32 10 from rfl, z_le (by omega) (by omega)]; omega)] at hgo
          rw [hgo]
          exact KC_lam hw oC hC (by omega) hb hrq ht hpl (by omega) hh hn
        · rw [if_neg (fun h => hn h.2)]
          rw [if_pos (show (10 : Int32) ≤ i32 vt.length from by rw [show (10 : Int32) = i32 10 from rfl, z_le (by omega) (by omega)]; omega)] at hgo
          exact bad hgo
      · rw [if_neg (fun h => hh h.1)]
        rw [if_neg (show ¬ (i32 (hdr rq.1) = 80) from c_eq (b := 80) hh (by omega) (by omega))] at hgo
        exact bad hgo
    rw [if_neg c3]
    rw [if_neg (show ¬ (i32 (byt tx p) = 92) from c_eq (b := 92) c3 (by omega) (by omega))] at hgo
    exact inf hgo
  · have h300 := byt_end (tx := tx) (p := p) (by omega)
    have hgo := check_go (d := d) (n := vt.length) hfo (k_peek0 hs d6 hl (by omega) (by omega)) d6
    rw [if_neg (show ¬ ((-1 : Int32) = 42) from by decide), if_neg (show ¬ ((-1 : Int32) = 44) from by decide), if_neg (show ¬ ((-1 : Int32) = 92) from by decide)] at hgo
    rw [h300, if_neg (by omega), if_neg (by omega), if_neg (by omega)]
    exact inf hgo
/-- all readers of the class -/
theorem KRD (hw : WL L ents tx) : ∀ K, KT L ents tx (RD L ents tx K).1 K ∧ KC L ents tx (RD L ents tx K).2.1 K ∧ KI L ents tx (RD L ents tx K).2.2 K := by
  intro K
  induction K with
  | zero =>
    refine ⟨fun d hd vt p V T σ hb hK => ?_, fun d hd vt rq p V T a σ hb hr ht hK => ?_, fun d hd vt p V T σ hb hK => ?_⟩
    · have := hb.2.2.2
      have := hw.2.2.2.1
      omega
    · have := hb.2.2.2
      have := hw.2.2.2.1
      omega
    · have := hb.2.2.2
      have := hw.2.2.2.1
      omega
  | succ K ih =>
    obtain ⟨hT, hC, hI⟩ := ih
    obtain ⟨oT, oC, oI⟩ := okRD (tx := tx) hw.1 hw.2.1 hw.2.2.1 K
    exact ⟨KT_s hw oT oC hT hC, KC_s hw oC oI hC hI, KI_s hw oT oC oI hT hC hI⟩
end KRD5
