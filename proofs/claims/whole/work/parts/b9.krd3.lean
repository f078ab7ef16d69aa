section KRD3
variable {L : Lw} {ents : List (Tr × Tr)} {tx : List Nat}
/-- an application -/
theorem K_app (hw : WL L ents tx) {rC : RC} {rI : RN} {K d : Nat} (oC : okC L tx rC) (oI : okI L tx rI) (hC : KC L ents tx rC K) (hI : KI L ents tx rI K) (hd : 2 * K ≤ d) {vt : List Rq} {p V T : Nat} {σ : CS} (hb : BK L ents tx vt σ p V T) (hp : p < tx.length) (hK : 2 * (33 - p) ≤ K + 2) : InO L ents tx (f_Reader_readApplied (d + 1) (i32 vt.length) σ) vt.length σ p V T ((rI vt (p + 1)).bind fun a => if hdr a.1 = 80 then (rC vt (fstT a.1, idr vt.length) a.2.2).bind fun b => stl (nft (sndT a.1) (idr vt.length ++ [evD b.1 (idr vt.length)]) vt.length) (qs (shp (sndT a.1)) (gvD (evD a.2.1 (idr vt.length)) (evD b.1 (idr vt.length))) vt.length) vt.length p b.2 else .error (p + 1)) := by
  have hl := hw.2.2.2.1
  have hL := (W34 hw).2
  have hv := hb.1
  have hv10 := hv.1
  obtain ⟨d1, d2, d3, d4, d5, d6, d7, d8⟩ := hb.2.2.1
  have b1 := BK_next hb hp
  have f7 := next_F σ (p + 1) V T vt.length
  have h437 : (sI σ 43 7 (i32 (p + 1))).1 43 7 = i32 (p + 1) := sI_at _ _ _ _
  have run := hI d hd vt (p + 1) V T _ b1 (by omega)
  have hgo : f_Reader_readApplied (d + 1) (i32 vt.length) σ = (f_Reader_inferTerm d (i32 vt.length) (sI σ 43 7 (i32 (p + 1)))).bind fun q1 => (if q1.1 = (-1) then some (0, q1.2) else (f_Reader_scope (i32 vt.length) q1.2).bind fun q2 => (f_Values_typeAt (q1.2.1 43 9) q2.1 q2.2).bind fun q3 => (f_Values_formOf q3.1 q3.2).bind fun q4 => (if q4.1 = 80 then (f_Values_firstType q3.1 q4.2).bind fun q5 => (f_Reader_checkTerm d q5.1 (i32 vt.length) q5.2).bind fun q6 => (if q6.1 = (-1) then some (0, q6.2) else (f_Reader_scope (i32 vt.length) q6.2).bind fun q7 => (f_Values_evaluate 220 q6.1 q7.1 104 q7.2).bind fun q8 => (f_Reader_scope (i32 vt.length) q8.2).bind fun q9 => (f_Values_evaluate 220 q1.1 q9.1 104 q9.2).bind fun q10 => (f_Values_secondType q3.1 q8.1 q10.2).bind fun q11 => (f_Values_apply 220 q10.1 q8.1 104 q11.2).bind fun q12 => some (1, haS q11.1 q12.1 q12.2)) else some (0, sI q4.2 43 8 (i32 (p + 1))))) := by
    show F_Reader_readApplied (G_Reader d).1 (G_Reader d).2.1 (G_Reader d).2.2.1 (G_Reader d).2.2.2.1 (G_Reader d).2.2.2.2.1 (G_Reader d).2.2.2.2.2.1 (G_Reader d).2.2.2.2.2.2.1 (G_Reader d).2.2.2.2.2.2.2.1 (G_Reader d).2.2.2.2.2.2.2.2.1 (G_Reader d).2.2.2.2.2.2.2.2.2 _ _ = _
    unfold F_Reader_readApplied
    rw [d6, show i32 p + 1 = i32 (p + 1) from by rw [z1, z_add], h437]
    simp only [has_go, fail_go]
    rfl
  cases hr : rI vt (p + 1) with
  | error e =>
    rw [hr] at run
    obtain ⟨he, τ, e1, e2, e3⟩ := run
    refine In_err he f7.2.1 (τ := τ) ?_ e2 e3
    rw [hgo, e1, Option.bind_some]
    dsimp only
    rw [if_pos rfl]
  | ok a =>
    rw [hr] at run
    obtain ⟨w1, w2, w3, w4, w5, w6⟩ := oI vt (p + 1) a hv hr
    obtain ⟨g, h, τ, T1', e1, e2, e3, e4, e5, e6, e7, e8, e9, e10, e11, e12⟩ := run
    have b2 : BK L ents tx vt τ a.2.2 V T1' := BK_go b1 e7 e3 e2 e6 (Nat.le_refl _) (by omega) e4 (by omega) w6
    obtain ⟨e, s1, s2⟩ := b2.2.2.1.2.2.2.2.2.2.1 vt.length (Nat.le_refl _)
    have prT := WT_pr (W34 hw) (BK_fx hw b2) _ _ w1
    obtain ⟨t1, t2⟩ := k_typeNode (ρ := idr vt.length) e2 d3 (by omega) e11 e12 prT s2
    have cM := mkn_ch (A := AV) τ V 10 (i32 h) (i32 e) (fun _ h => h)
    have kM := mkn_kp τ V 10 (i32 h) (i32 e) T1'
    have fM : FK τ (mkn τ V 10 (i32 h) (i32 e)) V T1' vt.length := FK_AV kM cM
    have hRM := RdP_AV (V' := V + 1) (BK_R hw b2) kM cM (mkn_V _ _ _ _ _) (by omega) (by omega)
    have bM : BK L ents tx vt (mkn τ V 10 (i32 h) (i32 e)) a.2.2 (V + 1) T1' := BK_go b2 fM hRM.2.1 hRM.2.2.1 (by rw [cM.2.1 43 (by decide)]; exact e6) (by omega) (by omega) (Nat.le_refl _) (by omega) w6
    have f1 := FK_tr (FK_tr f7 e7 (Nat.le_refl _) (Nat.le_refl _) (Nat.le_refl _)) fM (Nat.le_refl _) e4 (Nat.le_refl _)
    have e8M := kK_fm kM e8 e9
    have hfo := k_formOfK hRM.2.1 (by omega) hRM.2.2.1 (by omega) t2
    have hgo2 : f_Reader_readApplied (d + 1) (i32 vt.length) σ = (if i32 (hdr a.1) = 80 then (f_Values_firstType (i32 V) (mkn τ V 10 (i32 h) (i32 e))).bind fun q5 => (f_Reader_checkTerm d q5.1 (i32 vt.length) q5.2).bind fun q6 => (if q6.1 = (-1) then some (0, q6.2) else (f_Reader_scope (i32 vt.length) q6.2).bind fun q7 => (f_Values_evaluate 220 q6.1 q7.1 104 q7.2).bind fun q8 => (f_Reader_scope (i32 vt.length) q8.2).bind fun q9 => (f_Values_evaluate 220 (i32 g) q9.1 104 q9.2).bind fun q10 => (f_Values_secondType (i32 V) q8.1 q10.2).bind fun q11 => (f_Values_apply 220 q10.1 q8.1 104 q11.2).bind fun q12 => some (1, haS q11.1 q12.1 q12.2)) else some (0, sI (mkn τ V 10 (i32 h) (i32 e)) 43 8 (i32 (p + 1)))) := by
      rw [hgo, e1, Option.bind_some]
      dsimp only
      rw [if_neg (i_ne1 (a := g) (by omega)), k_scope hv10, s1, Option.bind_some]
      dsimp only
      rw [e10, t1, Option.bind_some]
      dsimp only
      rw [hfo.1, Option.bind_some]
    generalize mkn τ V 10 (i32 h) (i32 e) = σ2 at hgo2 t2 hRM f1 e8M bM
    show InO L ents tx _ vt.length σ p V T (if hdr a.1 = 80 then _ else _)
    have hlt := hfo.2
    by_cases hh : hdr a.1 = 80
    · rw [if_pos hh]
      rw [hh, if_pos (show i32 80 = 80 from rfl)] at hgo2
      have rq0 := rq_id hv10 w1 w3
      have rq1 := rq_fst (W34 hw).1 (Or.inr rfl) hh rq0
      have ew := hdr_SP (W34 hw).1 w1 (Or.inr rfl) hh
      have esh := shp_SP (Or.inr rfl) ew
      have hSn : vt.length < 10 := by
        have := w3.2
        rw [ew] at this
        exact ((dp_SP (Or.inr rfl)).mp this).2.1
      have t2' := t2
      rw [ew] at t2'
      obtain ⟨l, x, y1, y2⟩ := k_firstTypeK (Or.inr rfl) hRM.2.2.1 (by omega) (by omega) t2'
      rw [y1, Option.bind_some] at hgo2
      dsimp only at hgo2
      have cN := mkn_ch (A := AV) σ2 (V + 1) 10 l x (fun _ h => h)
      have kN := mkn_kp σ2 (V + 1) 10 l x T1'
      have fN : FK σ2 (mkn σ2 (V + 1) 10 l x) (V + 1) T1' vt.length := FK_AV kN cN
      have b3 : BK L ents tx vt (mkn σ2 (V + 1) 10 l x) a.2.2 (V + 2) T1' := BK_go bM fN (by rw [cN.2.1 34 (by decide)]; exact bM.2.2.1.1) (mkn_V _ _ _ _ _) (by rw [cN.2.1 43 (by decide)]; exact bM.2.2.1.2.2.2.2.2.1) (by omega) (by omega) (Nat.le_refl _) (by omega) w6
      have t3 := tyK_kp kN (cK_fx cN n36V) (show V + 1 ≤ V + 2 by omega) (Nat.le_refl _) t2'
      have f3 := FK_tr f1 fN (by omega) e4 (Nat.le_refl _)
      have e8N := kK_fm kN e8M e9
      generalize mkn σ2 (V + 1) 10 l x = σ3 at hgo2 b3 t3 f3 y2 e8N
      have run2 := hC d hd vt (fstT a.1, idr vt.length) a.2.2 (V + 2) T1' (V + 1) σ3 b3 rq1 y2 (by omega)
      show InO L ents tx _ vt.length σ p V T ((rC vt (fstT a.1, idr vt.length) a.2.2).bind fun b => stl _ _ vt.length p b.2)
      cases hr2 : rC vt (fstT a.1, idr vt.length) a.2.2 with
      | error e' =>
        rw [hr2] at run2
        obtain ⟨he, υ, g1, g2, g3⟩ := run2
        refine In_err he f3.2.1 (τ := υ) ?_ g2 g3
        rw [hgo2, g1, Option.bind_some]
        dsimp only
        rw [if_pos rfl]
      | ok b =>
        rw [hr2] at run2
        obtain ⟨x1, x2, x3, x4⟩ := oC vt _ a.2.2 b hv rq1 hr2
        obtain ⟨g2, υ, V2, T2', u1, u2, u3, u4, u5, u6, u7, u8, u9, u10, u11⟩ := run2
        have b4 : BK L ents tx vt υ b.2 V2 T2' := BK_go b3 u9 u5 u2 u8 u3 (by omega) u6 (by omega) x4
        have hR4 := BK_R hw b4
        obtain ⟨e', s1', s2'⟩ := b4.2.2.1.2.2.2.2.2.2.1 vt.length (Nat.le_refl _)
        have f4 := FK_tr f3 u9 (by omega) e4 (Nat.le_refl _)
        have t4 := tyK_kp u9.1 (FK_fx u9) u3 u6 t3
        have e84 := kK_fm u9.1 e8N e9
        rw [u1, Option.bind_some] at hgo2
        dsimp only at hgo2
        rw [if_neg (i_ne1 (a := g2) (by omega)), k_scope hv10, s1', Option.bind_some] at hgo2
        dsimp only at hgo2
        obtain ⟨v1, τ5, V5, k1, k2, k3, k4⟩ := k_evF hw hv hR4 (by omega) x1 x2 u10 u11 s2' (by omega)
        rw [k1, Option.bind_some] at hgo2
        dsimp only at hgo2
        have o45 : τ5.1 45 vt.length = i32 e' := by rw [k2.2.2.2.2.2.1 45 (by decide)]; exact s1'
        rw [k_scope hv10, o45, Option.bind_some] at hgo2
        dsimp only at hgo2
        have hV5 := k2.2.1
        have hR5 := RdP_AV hR4 k2.2.2.2.1 k2.2.2.2.2 k2.1 hV5 (by omega)
        obtain ⟨v2, τ6, V6, m1, m2, m3, m4⟩ := k_evF hw hv hR5 (by omega) w2 w4 (kK_fm k2.2.2.2.1 e84 (by omega)) (show g + ln a.2.1 ≤ T2' by omega) (EvR_rp k2 s2') (by omega)
        rw [m1, Option.bind_some] at hgo2
        dsimp only at hgo2
        have hV6 := m2.2.1
        have hR6 := RdP_AV hR5 m2.2.2.2.1 m2.2.2.2.2 m2.1 hV6 (by omega)
        rw [esh] at m4
        have hclo := RV_fun m4
        have hdx : dta (shp (fstT a.1)) := by
          obtain ⟨_, _, _, _, _, hd', _⟩ := hclo
          exact hd'
        have hrx6 : rpK τ6 V6 T2' false (evD b.1 (idr vt.length)) v1 := EvR_rp m2 k2.2.2.1
        have kk := kK_tr k2.2.2.2.1 m2.2.2.2.1 hV5 (Nat.le_refl _)
        have cc := cK_tr k2.2.2.2.2 m2.2.2.2.2
        obtain ⟨r9, l9, y3, y4⟩ := k_secondTypeK (Or.inr rfl) hR6.2.1 (by omega) m2.1 (by omega) (by omega) (tyK_kp kk (cK_fx cc n36V) (show V2 ≤ V6 by omega) (Nat.le_refl _) t4) hrx6 (by rw [idr_len]; exact hSn)
        rw [y3, Option.bind_some] at hgo2
        dsimp only at hgo2
        have cM1 := mkn_ch (A := AV) τ6 V6 9 (i32 v1) r9 (fun _ h => h)
        have kM1 := mkn_kp τ6 V6 9 (i32 v1) r9 T2'
        have cM2 := mkn_ch (A := AV) (mkn τ6 V6 9 (i32 v1) r9) (V6 + 1) 10 l9 (i32 V6) (fun _ h => h)
        have kM2 := mkn_kp (mkn τ6 V6 9 (i32 v1) r9) (V6 + 1) 10 l9 (i32 V6) T2'
        have kk2 := kK_tr kM1 kM2 (by omega) (Nat.le_refl _)
        have cc2 := cK_tr cM1 cM2
        have vv2 : (mkn (mkn τ6 V6 9 (i32 v1) r9) (V6 + 1) 10 l9 (i32 V6)).1 38 4 = i32 (V6 + 2) := mkn_V _ _ _ _ _
        have hR8 := RdP_AV (V' := V6 + 2) hR6 kk2 cc2 vv2 (by omega) (by omega)
        have hm8 := rK_kp kk2 (cK_fx cc2 n36V) (show V6 ≤ V6 + 2 by omega) (Nat.le_refl _) _ _ _ m2.2.2.1
        have hx8 := rK_kp kk2 (cK_fx cc2 n36V) (show V6 ≤ V6 + 2 by omega) (Nat.le_refl _) _ _ _ hrx6
        generalize mkn (mkn τ6 V6 9 (i32 v1) r9) (V6 + 1) 10 l9 (i32 V6) = τ8 at hgo2 y4 kk2 cc2 vv2 hR8 hm8 hx8
        have hE8 : EvP τ8 (V6 + 2) T2' L.2.length := ⟨hR8.2.1, by omega, hR8.1.2.1, hR8.2.2.1, hR8.2.2.2.1⟩
        obtain ⟨h49, v3, τ7, V7, n1, n2, n3⟩ := k_gives (d := 219) (n := 104) hL hclo (RV_EF _ _ hdx k4) hm8 hx8 hE8 (by omega) (by omega) (by omega) (by omega)
        rw [apply220, show (104 : Int32) = i32 104 from rfl, n1, Option.bind_some] at hgo2
        dsimp only at hgo2
        have hV7 := n2.2.1
        have hR7 := RdP_AV hR8 n2.2.2.2.1 n2.2.2.2.2 n2.1 hV7 (by omega)
        have y5 := tyK_kp n2.2.2.2.1 (cK_fx n2.2.2.2.2 n36V) hV7 (Nat.le_refl _) y4
        obtain ⟨Γ, z1, z2', z3, z4', z5'⟩ := rq_snd (W34 hw).1 (Or.inr rfl) hh rq0 (RV_EV _ _ k4)
        have hRV := clo_gv hclo (RV_EF _ _ hdx k4)
        obtain ⟨r, ω, q1, q2⟩ := k_settle hw.1 (p := p) z1 z2' (ctx_len vt) z3 z4' z5' (Wr_val hL _ _ (ctx vt) vt.length hRV (ctx_len vt)) (rK_P _) d3 (show V ≤ V7 by omega) hR7 (by omega) (by omega) y5 n2.2.2.1
        have c9 := cK_tr cc (cK_tr cc2 n2.2.2.2.2)
        have k9 := kK_tr kk (kK_tr kk2 n2.2.2.2.1 (by omega) (Nat.le_refl _)) (show V2 ≤ V6 by omega) (Nat.le_refl _)
        exact Set_In (vt := vt) (FK_tr f4 (FK_AV k9 c9) (by omega) (by omega) (Nat.le_refl _)) (by omega) (by rw [c9.2.1 43 (by decide)]; exact u8) (by omega) (by omega) hgo2 q1 q2
    · rw [if_neg hh]
      rw [if_neg (show ¬ (i32 (hdr a.1) = 80) from c_eq (b := 80) hh (by omega) (by omega))] at hgo2
      exact In_err (by omega) f1.2.1 (τ := sI σ2 43 8 (i32 (p + 1))) hgo2 (sI_at _ _ _ _) (FK_43 σ2 8 (i32 (p + 1)) 0 0 0 (by omega)).2.1
/-- what is found: every kind of it -/
theorem KI_s (hw : WL L ents tx) {rT : RT} {rC : RC} {rI : RN} {K : Nat} (oT : okT L tx rT) (oC : okC L tx rC) (oI : okI L tx rI) (hT : KT L ents tx rT K) (hC : KC L ents tx rC K) (hI : KI L ents tx rI K) : KI L ents tx (spI L ents tx rT rC rI) (K + 1) := by
  intro d hd vt p V T σ hb hK
  obtain ⟨d, rfl⟩ : ∃ k, d = k + 1 + 1 := ⟨d - 2, by omega⟩
  have hl := hw.2.2.2.1
  obtain ⟨hv, hs, hd', hp⟩ := id hb
  obtain ⟨d1, d2, d3, d4, d5, d6, d7, d8⟩ := id hd'
  unfold spI
  by_cases hpl : p < tx.length
  · have h256 := byt_256 hw hpl
    have hgo := infer_go (d := d + 1) (n := vt.length) (k_peek hs d6 hl hpl) d6 d2
    by_cases c1 : byt tx p = 35
    · rw [c1, if_pos (show i32 35 = 35 from rfl)] at hgo
      rw [if_pos c1, hgo]
      exact inf_wrap (k_readEntry hw hv hs hd' hpl)
    rw [if_neg (show ¬ (i32 (byt tx p) = 35) from c_eq (b := 35) c1 (by omega) (by omega))] at hgo
    rw [if_neg c1]
    by_cases c3 : byt tx p = 58
    · rw [c3, if_neg (show ¬ (i32 58 = 46) from by decide), if_pos (show i32 58 = 58 from rfl)] at hgo
      rw [if_pos c3, hgo]
      exact inf_wrap (K_typed hw oT oC hT hC (by omega) hb hpl (by omega))
    rw [if_neg c3]
    by_cases c2 : byt tx p = 46
    · rw [c2, if_pos (show i32 46 = 46 from rfl)] at hgo
      rw [if_pos c2, hgo]
      exact inf_wrap (K_app hw oC oI hC hI (by omega) hb hpl (by omega))
    rw [if_neg c2]
    rw [if_neg (show ¬ (i32 (byt tx p) = 46) from c_eq (b := 46) c2 (by omega) (by omega)), if_neg (show ¬ (i32 (byt tx p) = 58) from c_eq (b := 58) c3 (by omega) (by omega))] at hgo
    by_cases c4 : byt tx p = 60
    · rw [c4, if_pos (show i32 60 = 60 from rfl)] at hgo
      rw [if_pos c4, hgo]
      have := inf_wrap (K_take (d := d) hw oI hI (by omega) hb hpl (by omega) (k := 60) ⟨Or.inl rfl, c4⟩)
      simp only [if_pos (show (60 : Nat) = 60 from rfl)] at this
      exact this
    rw [if_neg c4]
    rw [if_neg (show ¬ (i32 (byt tx p) = 60) from c_eq (b := 60) c4 (by omega) (by omega))] at hgo
    by_cases c5 : byt tx p = 62
    · rw [c5, if_pos (show i32 62 = 62 from rfl)] at hgo
      rw [if_pos c5, hgo]
      have := inf_wrap (K_take (d := d) hw oI hI (by omega) hb hpl (by omega) (k := 62) ⟨Or.inr rfl, c5⟩)
      simp only [if_neg (show ¬ ((62 : Nat) = 60) by decide)] at this
      exact this
    rw [if_neg c5]
    rw [if_neg (show ¬ (i32 (byt tx p) = 62) from c_eq (b := 62) c5 (by omega) (by omega))] at hgo
    rw [hgo]
    exact inf_wrap (k_readName hw hv hs hd' hp (fun c hc => by rcases hc with rfl | rfl | rfl | rfl | rfl <;> assumption))
  · have h300 := byt_end (tx := tx) (p := p) (by omega)
    have hgo := infer_go (d := d + 1) (n := vt.length) (k_peek0 hs d6 hl (by omega) (by omega)) d6 d2
    rw [if_neg (show ¬ ((-1 : Int32) = 35) from by decide), if_neg (show ¬ ((-1 : Int32) = 46) from by decide), if_neg (show ¬ ((-1 : Int32) = 58) from by decide), if_neg (show ¬ ((-1 : Int32) = 60) from by decide), if_neg (show ¬ ((-1 : Int32) = 62) from by decide)] at hgo
    rw [hgo, if_neg (by omega), if_neg (by omega), if_neg (by omega), if_neg (by omega), if_neg (by omega)]
    exact inf_wrap (k_readName hw hv hs hd' hp (fun c hc => by omega))
end KRD3
