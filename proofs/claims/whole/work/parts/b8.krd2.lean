section KRD2
variable {L : Lw} {ents : List (Tr × Tr)} {tx : List Nat}
/-- inferring ends: type and term are written, the nodes are given back -/
theorem inf_wrap {vt : List Rq} {σ : CS} {p V T : Nat} {f : Option (Int32 × CS)} {r : Except Nat (Tr × Tr × Nat)} (h : InO L ents tx f vt.length σ p V T r) : RnI (f.bind fun q => tlK (i32 vt.length) (i32 p) (i32 V) q.1 q.2) vt σ p V T r := h
theorem infer_go {d : Nat} {σ : CS} {n V p : Nat} {c : Int32} (hpk : f_Reader_peek σ = some (c, σ)) (h7 : σ.1 43 7 = i32 p) (hV : σ.1 38 4 = i32 V) : f_Reader_inferTerm (d + 1) (i32 n) σ = (if c = 35 then f_Reader_readEntry σ else if c = 46 then f_Reader_readApplied d (i32 n) σ else if c = 58 then f_Reader_readAnnotated d (i32 n) σ else if c = 60 then f_Reader_readComponent d (i32 n) σ else if c = 62 then f_Reader_readComponent d (i32 n) σ else f_Reader_readName (i32 n) σ).bind fun q => tlK (i32 n) (i32 p) (i32 V) q.1 q.2 := by
  show F_Reader_inferTerm (G_Reader d).1 (G_Reader d).2.1 (G_Reader d).2.2.1 (G_Reader d).2.2.2.1 (G_Reader d).2.2.2.2.1 (G_Reader d).2.2.2.2.2.1 (G_Reader d).2.2.2.2.2.2.1 (G_Reader d).2.2.2.2.2.2.2.1 (G_Reader d).2.2.2.2.2.2.2.2.1 (G_Reader d).2.2.2.2.2.2.2.2.2 _ _ = _
  unfold F_Reader_inferTerm B_Reader_inferTerm_114 B_Reader_inferTerm_201 tlK
  rw [hpk, Option.bind_some]
  dsimp only
  rw [h7, hV]
  simp only [obid]
  by_cases h1 : c = 35
  · rw [if_pos h1, if_pos h1]
  rw [if_neg h1, if_neg h1]
  by_cases h2 : c = 46
  · rw [if_pos h2, if_pos h2]; rfl
  rw [if_neg h2, if_neg h2]
  by_cases h3 : c = 58
  · rw [if_pos h3, if_pos h3]; rfl
  rw [if_neg h3, if_neg h3]
  by_cases h4 : c = 60
  · rw [if_pos h4, if_pos h4]; rfl
  rw [if_neg h4, if_neg h4]
  by_cases h5 : c = 62
  · rw [if_pos h5, if_pos h5]; rfl
  rw [if_neg h5, if_neg h5]
theorem In_err {σ σ1 τ : CS} {n p V T e : Nat} {f : Option (Int32 × CS)} (he : e ≤ 40) (hf : chK AK σ σ1) (h : f = some (0, τ)) (h8 : τ.1 43 8 = i32 e) (hc : chK AK σ1 τ) : InO L ents tx f n σ p V T (.error e) := In_bad he h h8 (cK_tr hf hc)
/-- a form without functions named, evaluated -/
theorem k_evF (hw : WL L ents tx) {vt : List Rq} {σ : CS} {V T g e : Nat} {u s : Tr} (hv : vtOK L vt) (hR : RdP L (ctx vt) σ V T) (hT : T ≤ 3600) (hu : HT L u (ctx vt) true s) (hf : fits u vt.length) (hm : fm (σ.1 35) u g) (hg : g + ln u ≤ T) (he : rpK σ V T true (eL (idr vt.length)) e) (hb : V + 50 ≤ 3072) : ∃ v τ V', f_Values_evaluate 220 (i32 g) (i32 e) 104 σ = some (i32 v, τ) ∧ EvR σ τ V V' T (evD u (idr vt.length)) v ∧ V' + wv (evD u (idr vt.length)) ≤ V + 50 ∧ RV L (ctx vt) s (evD u (idr vt.length)) := by
  have hL := (W34 hw).2
  have lu : ln u ≤ 50 := hf.1
  have hE : EvP σ V T L.2.length := ⟨hR.2.1, hT, hR.1.2.1, hR.2.2.1, hR.2.2.2.1⟩
  have hen := enE_ctx (L := L) hv.1
  obtain ⟨v, τ, V', r1, r2, r3, r4⟩ := k_evD hL u (ctx vt) true s hu 220 104 g V T e (idr vt.length) σ (HT_pr hL _ _ _ _ _ hu) hm hg hE hen (by rw [idr_len]; exact hf.2) he (enE_wv hen) (by omega) lu (by omega) (by omega) (by omega)
  refine ⟨v, τ, V', ?_, r2, by omega, (T1 _ _ _ _ _ hu hen).2.1 rfl⟩
  rw [eval220]
  exact r1
theorem RV_pair {N : List Tr} {x y v : Tr} (h : RV L N (.branch 83 x y) v) : RV L N x (fstV v) ∧ RV L N y (sndV v) := by
  rcases h with ⟨_, a, b, rfl, h3, h4⟩ | h
  · exact ⟨by simpa [fstV] using h3, by simpa [sndV] using h4⟩
  · exact absurd h.1 (by decide)
theorem RV_fun {N : List Tr} {x y v : Tr} (h : RV L N (.branch 80 x y) v) : clo L N v x y := by
  rcases h with ⟨h, _⟩ | h
  · exact absurd h (by decide)
  · exact h.2
theorem RdP_AV {N : List Tr} {σ τ : CS} {V T V' : Nat} (h : RdP L N σ V T) (hk : kpK σ τ V T) (hc : chK AV σ τ) (hV : τ.1 38 4 = i32 V') (h1 : V ≤ V') (h2 : V' ≤ 3072) : RdP L N τ V' T := RdP_go h hk (cVK hc) (fun k _ => by rw [hc.2.1 42 (by decide)]) (by rw [hc.2.1 34 (by decide)]; exact h.2.1) (Nat.le_refl _) hV h1 h2
/-- an annotation -/
theorem K_typed (hw : WL L ents tx) {rT : RT} {rC : RC} {K d : Nat} (oT : okT L tx rT) (oC : okC L tx rC) (hT : KT L ents tx rT K) (hC : KC L ents tx rC K) (hd : 2 * K ≤ d) {vt : List Rq} {p V T : Nat} {σ : CS} (hb : BK L ents tx vt σ p V T) (hp : p < tx.length) (hK : 2 * (33 - p) ≤ K + 2) : InO L ents tx (f_Reader_readAnnotated (d + 1) (i32 vt.length) σ) vt.length σ p V T ((rT vt (p + 1)).bind fun a => (rC vt (a.1, idr vt.length) a.2).bind fun b => .ok (a.1, b.1, b.2)) := by
  have hl := hw.2.2.2.1
  have hL := (W34 hw).2
  have hv := hb.1
  have hv10 := hv.1
  have hd' := hb.2.2.1
  obtain ⟨d1, d2, d3, d4, d5, d6, d7, d8⟩ := hd'
  have b1 := BK_next hb hp
  have f7 := next_F σ (p + 1) V T vt.length
  have run := hT d hd vt (p + 1) V T _ b1 (by omega)
  have hgo : f_Reader_readAnnotated (d + 1) (i32 vt.length) σ = (f_Reader_readType d (i32 vt.length) (sI σ 43 7 (i32 (p + 1)))).bind fun q1 => (if q1.1 = (-1) then some (0, q1.2) else (f_Reader_scope (i32 vt.length) q1.2).bind fun q2 => (f_Values_typeAt q1.1 q2.1 q2.2).bind fun q3 => (f_Reader_checkTerm d q3.1 (i32 vt.length) q3.2).bind fun q4 => (if q4.1 = (-1) then some (0, q4.2) else (f_Reader_scope (i32 vt.length) q4.2).bind fun q5 => (f_Values_evaluate 220 q4.1 q5.1 104 q5.2).bind fun q6 => some (1, haS q3.1 q6.1 q6.2))) := by
    show F_Reader_readAnnotated (G_Reader d).1 (G_Reader d).2.1 (G_Reader d).2.2.1 (G_Reader d).2.2.2.1 (G_Reader d).2.2.2.2.1 (G_Reader d).2.2.2.2.2.1 (G_Reader d).2.2.2.2.2.2.1 (G_Reader d).2.2.2.2.2.2.2.1 (G_Reader d).2.2.2.2.2.2.2.2.1 (G_Reader d).2.2.2.2.2.2.2.2.2 _ _ = _
    unfold F_Reader_readAnnotated
    rw [d6, show i32 p + 1 = i32 (p + 1) from by rw [z1, z_add]]
    simp only [has_go]
    rfl
  cases hr : rT vt (p + 1) with
  | error e =>
    rw [hr] at run
    obtain ⟨he, τ, e1, e2, e3⟩ := run
    refine In_err he f7.2.1 (τ := τ) ?_ e2 e3
    rw [hgo, e1, Option.bind_some]
    dsimp only
    rw [if_pos rfl]
  | ok a =>
    rw [hr] at run
    obtain ⟨w1, w2, w3, w4⟩ := oT vt (p + 1) a hv hr
    obtain ⟨g, τ, V1, T1, e1, e2, e3, e4, e5, e6, e7, e8, e9, e10, e11⟩ := run
    have b2 : BK L ents tx vt τ a.2 V1 T1 := BK_go b1 e9 e5 e2 e8 e3 (by omega) e6 (by omega) w4
    obtain ⟨e, s1, s2⟩ := b2.2.2.1.2.2.2.2.2.2.1 vt.length (Nat.le_refl _)
    obtain ⟨t1, t2⟩ := k_typeNode (ρ := idr vt.length) e2 (by omega) (by omega) e10 e11 (WT_pr (W34 hw) (BK_fx hw b2) _ _ w1) s2
    have cM := mkn_ch (A := AV) τ V1 10 (i32 g) (i32 e) (fun _ h => h)
    have kM := mkn_kp τ V1 10 (i32 g) (i32 e) T1
    have fM : FK τ (mkn τ V1 10 (i32 g) (i32 e)) V1 T1 vt.length := FK_AV kM cM
    have b3 : BK L ents tx vt (mkn τ V1 10 (i32 g) (i32 e)) a.2 (V1 + 1) T1 := BK_go b2 fM (by rw [cM.2.1 34 (by decide)]; exact e5) (mkn_V _ _ _ _ _) (by rw [cM.2.1 43 (by decide)]; exact e8) (by omega) (by omega) (Nat.le_refl _) (by omega) w4
    have hgo2 : f_Reader_readAnnotated (d + 1) (i32 vt.length) σ = (f_Reader_checkTerm d (i32 V1) (i32 vt.length) (mkn τ V1 10 (i32 g) (i32 e))).bind fun q4 => (if q4.1 = (-1) then some (0, q4.2) else (f_Reader_scope (i32 vt.length) q4.2).bind fun q5 => (f_Values_evaluate 220 q4.1 q5.1 104 q5.2).bind fun q6 => some (1, haS (i32 V1) q6.1 q6.2)) := by
      rw [hgo, e1, Option.bind_some]
      dsimp only
      rw [if_neg (i_ne1 (a := g) (by omega)), k_scope hv10, s1, Option.bind_some]
      dsimp only
      rw [t1, Option.bind_some]
    have fA := FK_tr (FK_tr f7 e9 (Nat.le_refl _) (Nat.le_refl _) (Nat.le_refl _)) fM e3 e6 (Nat.le_refl _)
    have run2 := hC d hd vt (a.1, idr vt.length) a.2 (V1 + 1) T1 V1 _ b3 (rq_id hv10 w1 w2) t2 (by omega)
    generalize mkn τ V1 10 (i32 g) (i32 e) = σ3 at hgo2 b3 t2 fA run2
    show InO L ents tx _ vt.length σ p V T ((rC vt (a.1, idr vt.length) a.2).bind fun b => .ok (a.1, b.1, b.2))
    cases hr2 : rC vt (a.1, idr vt.length) a.2 with
    | error e' =>
      rw [hr2] at run2
      obtain ⟨he, υ, g1, g2, g3⟩ := run2
      refine In_err he fA.2.1 (τ := υ) ?_ g2 g3
      rw [hgo2, g1, Option.bind_some]
      dsimp only
      rw [if_pos rfl]
    | ok b =>
      rw [hr2] at run2
      obtain ⟨x1, x2, x3, x4⟩ := oC vt _ a.2 b hv (rq_id hv10 w1 w2) hr2
      obtain ⟨g2, υ, V2, T2, u1, u2, u3, u4, u5, u6, u7, u8, u9, u10, u11⟩ := run2
      have b4 : BK L ents tx vt υ b.2 V2 T2 := BK_go b3 u9 u5 u2 u8 u3 (by omega) u6 (by omega) x4
      have hR4 := BK_R hw b4
      obtain ⟨e', s1', s2'⟩ := b4.2.2.1.2.2.2.2.2.2.1 vt.length (Nat.le_refl _)
      have f4 := FK_tr fA u9 (by omega) (by omega) (Nat.le_refl _)
      have t4 := tyK_kp u9.1 (FK_fx u9) u3 u6 t2
      rw [u1, Option.bind_some] at hgo2
      dsimp only at hgo2
      rw [if_neg (i_ne1 (a := g2) (by omega)), k_scope hv10, s1', Option.bind_some] at hgo2
      dsimp only at hgo2
      obtain ⟨v1, τ5, V5, k1, k2, k3, k4⟩ := k_evF hw hv hR4 (by omega) x1 x2 u10 u11 s2' (by omega)
      rw [k1, Option.bind_some] at hgo2
      dsimp only at hgo2
      have hV5 := k2.2.1
      have hR5 := RdP_AV hR4 k2.2.2.2.1 k2.2.2.2.2 k2.1 hV5 (by omega)
      have t5 := tyK_kp k2.2.2.2.1 (cK_fx k2.2.2.2.2 n36V) hV5 (Nat.le_refl _) t4
      obtain ⟨r, ω, q1, q2⟩ := k_settle hw.1 (p := p) (ρ := idr vt.length) w1 (enV_ctx hv10) (ctx_len vt) (by rw [idr_len]; exact w2.2) (by rw [idr_len]; exact hv10) w2.1 (Wr_val hL _ _ (ctx vt) vt.length k4 (ctx_len vt)) (rK_P _) d3 (show V ≤ V5 by omega) hR5 (by omega) (by omega) t5 k2.2.2.1
      have fin := Set_In (L := L) (ents := ents) (tx := tx) (vt := vt) (q := b.2) (FK_tr f4 (FK_AV k2.2.2.2.1 k2.2.2.2.2) (by omega) (by omega) (Nat.le_refl _)) (by omega) (by rw [k2.2.2.2.2.2.1 43 (by decide)]; exact u8) (by omega) (by omega) hgo2 q1 q2
      have y1 : nft a.1 (idr vt.length) vt.length = a.1 := by
        have h := nft_id a.1 (ctx vt) w1 (by rw [ctx_len]; exact w2.2)
        rw [ctx_len] at h
        exact h
      have y2 : qs (shp a.1) (evD b.1 (idr vt.length)) vt.length = b.1 := qs_id b.1 (ctx vt) (shp a.1) vt.length (ctx_len vt) x1
      rw [y1, y2, show stl a.1 b.1 vt.length p b.2 = .ok (a.1, b.1, b.2) from cif_pos ⟨w2, x2⟩ _ _] at fin
      exact fin
/-- a component -/
theorem K_take (hw : WL L ents tx) {rI : RN} {K d : Nat} (oI : okI L tx rI) (hI : KI L ents tx rI K) (hd : 2 * K ≤ d) {vt : List Rq} {p V T k : Nat} {σ : CS} (hb : BK L ents tx vt σ p V T) (hp : p < tx.length) (hK : 2 * (33 - p) ≤ K + 2) (hk : (k = 60 ∨ k = 62) ∧ byt tx p = k) : InO L ents tx (f_Reader_readComponent (d + 1) (i32 vt.length) σ) vt.length σ p V T ((rI vt (p + 1)).bind fun a => if hdr a.1 = 83 then stl (if k = 60 then nft (fstT a.1) (idr vt.length) vt.length else nft (sndT a.1) (idr vt.length ++ [fstV (evD a.2.1 (idr vt.length))]) vt.length) (if k = 60 then qs (shp (fstT a.1)) (fstV (evD a.2.1 (idr vt.length))) vt.length else qs (shp (sndT a.1)) (sndV (evD a.2.1 (idr vt.length))) vt.length) vt.length p a.2.2 else .error (p + 1)) := by
  have hl := hw.2.2.2.1
  have hL := (W34 hw).2
  have hv := hb.1
  have hv10 := hv.1
  obtain ⟨d1, d2, d3, d4, d5, d6, d7, d8⟩ := hb.2.2.1
  have b1 := BK_next hb hp
  have f7 := next_F σ (p + 1) V T vt.length
  have h437 : (sI σ 43 7 (i32 (p + 1))).1 43 7 = i32 (p + 1) := sI_at _ _ _ _
  have run := hI d hd vt (p + 1) V T _ b1 (by omega)
  have hgo : f_Reader_readComponent (d + 1) (i32 vt.length) σ = (f_Reader_inferTerm d (i32 vt.length) (sI σ 43 7 (i32 (p + 1)))).bind fun q1 => (if q1.1 = (-1) then some (0, q1.2) else (f_Reader_scope (i32 vt.length) q1.2).bind fun q2 => (f_Values_typeAt (q1.2.1 43 9) q2.1 q2.2).bind fun q3 => (f_Values_formOf q3.1 q3.2).bind fun q4 => (if q4.1 = 83 then (f_Reader_scope (i32 vt.length) q4.2).bind fun q5 => (f_Values_evaluate 220 q1.1 q5.1 104 q5.2).bind fun q6 => (f_Values_firstOf q6.1 q6.2).bind fun q7 => (if k = 62 then (f_Values_secondType q3.1 q7.1 q7.2).bind fun q8 => (f_Values_secondOf q6.1 q8.2).bind fun q9 => some (1, haS q8.1 q9.1 q9.2) else (f_Values_firstType q3.1 q7.2).bind fun q11 => some (1, haS q11.1 q7.1 q11.2)) else some (0, sI q4.2 43 8 (i32 (p + 1))))) := by
    show F_Reader_readComponent (G_Reader d).1 (G_Reader d).2.1 (G_Reader d).2.2.1 (G_Reader d).2.2.2.1 (G_Reader d).2.2.2.2.1 (G_Reader d).2.2.2.2.2.1 (G_Reader d).2.2.2.2.2.2.1 (G_Reader d).2.2.2.2.2.2.2.1 (G_Reader d).2.2.2.2.2.2.2.2.1 (G_Reader d).2.2.2.2.2.2.2.2.2 _ _ = _
    unfold F_Reader_readComponent B_Reader_readComponent_14
    rw [k_peek hb.2.1 d6 hl hp, Option.bind_some]
    dsimp only
    rw [d6, show i32 p + 1 = i32 (p + 1) from by rw [z1, z_add], h437, hk.2]
    simp only [has_go, fail_go]
    rcases hk.1 with rfl | rfl
    · rw [if_pos (show i32 60 = 60 from rfl)]
      simp only [if_neg (show ¬ ((1 : Int32) = 0) from by decide), if_neg (show ¬ (60 = 62) by decide)]
      rfl
    · rw [if_neg (show ¬ (i32 62 = 60) from by decide)]
      simp only [if_pos (show (0 : Int32) = 0 from rfl), if_pos (show (62 : Nat) = 62 from rfl)]
      rfl
  cases hr : rI vt (p + 1) with
  | error e =>
    rw [hr] at run
    obtain ⟨he, τ, e1, e2, e3⟩ := run
    refine In_err he f7.2.1 (τ := τ) ?_ e2 e3
    rw [hgo, e1, Option.bind_some]
    dsimp only
    rw [if_pos rfl]
  | ok a =>
    rw [hr] at run
    obtain ⟨w1, w2, w3, w4, w5, w6⟩ := oI vt (p + 1) a hv hr
    obtain ⟨g, h, τ, T1, e1, e2, e3, e4, e5, e6, e7, e8, e9, e10, e11, e12⟩ := run
    have b2 : BK L ents tx vt τ a.2.2 V T1 := BK_go b1 e7 e3 e2 e6 (Nat.le_refl _) (by omega) e4 (by omega) w6
    obtain ⟨e, s1, s2⟩ := b2.2.2.1.2.2.2.2.2.2.1 vt.length (Nat.le_refl _)
    have prT := WT_pr (W34 hw) (BK_fx hw b2) _ _ w1
    obtain ⟨t1, t2⟩ := k_typeNode (ρ := idr vt.length) e2 d3 (by omega) e11 e12 prT s2
    have cM := mkn_ch (A := AV) τ V 10 (i32 h) (i32 e) (fun _ h => h)
    have kM := mkn_kp τ V 10 (i32 h) (i32 e) T1
    have fM : FK τ (mkn τ V 10 (i32 h) (i32 e)) V T1 vt.length := FK_AV kM cM
    have hRM := RdP_AV (V' := V + 1) (BK_R hw b2) kM cM (mkn_V _ _ _ _ _) (by omega) (by omega)
    have f1 := FK_tr (FK_tr f7 e7 (Nat.le_refl _) (Nat.le_refl _) (Nat.le_refl _)) fM (Nat.le_refl _) e4 (Nat.le_refl _)
    have s2M := mk_rp 10 (i32 h) (i32 e) s2
    have e8M := kK_fm kM e8 e9
    have o45 : (mkn τ V 10 (i32 h) (i32 e)).1 45 vt.length = i32 e := by rw [cM.2.1 45 (by decide)]; exact s1
    have o43 : (mkn τ V 10 (i32 h) (i32 e)).1 43 7 = i32 a.2.2 := by rw [cM.2.1 43 (by decide)]; exact e6
    have hfo := k_formOfK hRM.2.1 (by omega) hRM.2.2.1 (by omega) t2
    have hgo2 : f_Reader_readComponent (d + 1) (i32 vt.length) σ = (if i32 (hdr a.1) = 83 then (f_Values_evaluate 220 (i32 g) (i32 e) 104 (mkn τ V 10 (i32 h) (i32 e))).bind fun q6 => (f_Values_firstOf q6.1 q6.2).bind fun q7 => (if k = 62 then (f_Values_secondType (i32 V) q7.1 q7.2).bind fun q8 => (f_Values_secondOf q6.1 q8.2).bind fun q9 => some (1, haS q8.1 q9.1 q9.2) else (f_Values_firstType (i32 V) q7.2).bind fun q11 => some (1, haS q11.1 q7.1 q11.2)) else some (0, sI (mkn τ V 10 (i32 h) (i32 e)) 43 8 (i32 (p + 1)))) := by
      rw [hgo, e1, Option.bind_some]
      dsimp only
      rw [if_neg (i_ne1 (a := g) (by omega)), k_scope hv10, s1, Option.bind_some]
      dsimp only
      rw [e10, t1, Option.bind_some]
      dsimp only
      rw [hfo.1, Option.bind_some]
      dsimp only
      rw [k_scope hv10, o45, Option.bind_some]
    generalize mkn τ V 10 (i32 h) (i32 e) = σ2 at hgo2 t2 hRM f1 s2M e8M o43
    show InO L ents tx _ vt.length σ p V T (if hdr a.1 = 83 then _ else _)
    have hlt := hfo.2
    by_cases hh : hdr a.1 = 83
    · rw [if_pos hh]
      rw [hh, if_pos (show i32 83 = 83 from rfl)] at hgo2
      have rq0 := rq_id hv10 w1 w3
      have rq1 := rq_fst (W34 hw).1 (Or.inl rfl) hh rq0
      have ew := hdr_SP (W34 hw).1 w1 (Or.inl rfl) hh
      have esh := shp_SP (Or.inl rfl) ew
      have hSn : vt.length < 10 := by
        have := w3.2
        rw [ew] at this
        exact ((dp_SP (Or.inl rfl)).mp this).2.1
      obtain ⟨v, τ3, V3, k1, k2, k3, k4⟩ := k_evF hw hv hRM (by omega) w2 w4 e8M e9 s2M (by omega)
      rw [esh] at k4
      obtain ⟨r1, r2⟩ := RV_pair k4
      rw [k1, Option.bind_some] at hgo2
      dsimp only at hgo2
      have hV3 := k2.2.1
      obtain ⟨v4, τ4, V4, m1, m2, m3, ⟨m4, m5⟩, m6, m7, m8, _⟩ := k_first k2.2.2.1 k2.1 (by omega) (by omega)
      rw [m1, Option.bind_some] at hgo2
      dsimp only at hgo2
      have kk := kK_tr k2.2.2.2.1 m7 hV3 (Nat.le_refl _)
      have cc := cK_tr k2.2.2.2.2 m8
      have fx4 := cK_fx cc n36V
      have hR4 := RdP_AV hRM kk cc m2 (by omega) (by omega)
      have t4 := tyK_kp kk fx4 (show V + 1 ≤ V4 by omega) (Nat.le_refl _) t2
      rw [ew] at t4
      have f4 := FK_tr f1 (FK_AV kk cc) (show V ≤ V + 1 by omega) e4 (Nat.le_refl _)
      have o43' : τ4.1 43 7 = i32 a.2.2 := by rw [cc.2.1 43 (by decide)]; exact o43
      rcases hk.1 with rfl | rfl
      · rw [if_neg (show ¬ (60 = 62) by decide)] at hgo2
        rw [if_pos rfl, if_pos rfl]
        obtain ⟨l, x, y1, y2⟩ := k_firstTypeK (Or.inl rfl) m2 (by omega) (by omega) t4
        rw [y1, Option.bind_some] at hgo2
        dsimp only at hgo2
        have cN := mkn_ch (A := AV) τ4 V4 10 l x (fun _ h => h)
        have kN := mkn_kp τ4 V4 10 l x T1
        have hR5 := RdP_AV (V' := V4 + 1) hR4 kN cN (mkn_V _ _ _ _ _) (by omega) (by omega)
        obtain ⟨Γ, v1, v2, v3, v4', v5⟩ := rq1
        obtain ⟨r, ω, z1', z2'⟩ := k_settle hw.1 (p := p) v1 v2 (ctx_len vt) v3 v4' v5 (Wr_val hL _ _ (ctx vt) vt.length r1 (ctx_len vt)) (rK_P _) d3 (show V ≤ V4 + 1 by omega) hR5 (by omega) (by omega) y2 (mk_rp _ _ _ m6)
        exact Set_In (vt := vt) (FK_tr f4 (FK_AV kN cN) (by omega) (by omega) (Nat.le_refl _)) e4 (by rw [cN.2.1 43 (by decide)]; exact o43') (by omega) (by omega) hgo2 z1' z2'
      · rw [if_pos rfl] at hgo2
        rw [if_neg (show ¬ (62 = 60) by decide), if_neg (show ¬ (62 = 60) by decide)]
        have rq2 := rq_snd (W34 hw).1 (Or.inl rfl) hh rq0 (RV_EV _ _ r1)
        obtain ⟨x, l, y1, y2⟩ := k_secondTypeK (Or.inl rfl) hR4.2.1 (by omega) m2 (by omega) (by omega) t4 m6 (by rw [idr_len]; exact hSn)
        rw [y1, Option.bind_some] at hgo2
        dsimp only at hgo2
        have cM1 := mkn_ch (A := AV) τ4 V4 9 (i32 v4) x (fun _ h => h)
        have kM1 := mkn_kp τ4 V4 9 (i32 v4) x T1
        have cM2 := mkn_ch (A := AV) (mkn τ4 V4 9 (i32 v4) x) (V4 + 1) 10 l (i32 V4) (fun _ h => h)
        have kM2 := mkn_kp (mkn τ4 V4 9 (i32 v4) x) (V4 + 1) 10 l (i32 V4) T1
        have kk2 := kK_tr kM1 kM2 (by omega) (Nat.le_refl _)
        have cc2 := cK_tr cM1 cM2
        have vv2 : (mkn (mkn τ4 V4 9 (i32 v4) x) (V4 + 1) 10 l (i32 V4)).1 38 4 = i32 (V4 + 2) := mkn_V _ _ _ _ _
        have hR5 := RdP_AV (V' := V4 + 2) hR4 kk2 cc2 vv2 (by omega) (by omega)
        have hr3 := rK_kp m7 (cK_fx m8 n36V) m3 (Nat.le_refl _) _ _ _ k2.2.2.1
        have hr5 := rK_kp kk2 (cK_fx cc2 n36V) (show V4 ≤ V4 + 2 by omega) (Nat.le_refl _) _ _ _ hr3
        generalize mkn (mkn τ4 V4 9 (i32 v4) x) (V4 + 1) 10 l (i32 V4) = τ5 at hgo2 y2 kk2 cc2 vv2 hR5 hr5
        obtain ⟨v6, τ6, V6, q1, q2, q3, ⟨q4, q5⟩, q6, q7, q8, _⟩ := k_second hr5 vv2 (by omega) (by omega)
        rw [q1, Option.bind_some] at hgo2
        dsimp only at hgo2
        have hR6 := RdP_AV hR5 q7 q8 q2 q3 (by omega)
        obtain ⟨Γ, v1, v2, v3, v4', v5⟩ := rq2
        have wvb : wv (sndV (evD a.2.1 (idr vt.length))) ≤ 60 := by omega
        obtain ⟨r, ω, z1', z2'⟩ := k_settle hw.1 (p := p) v1 v2 (ctx_len vt) v3 v4' v5 (Wr_val hL _ _ (ctx vt) vt.length r2 (ctx_len vt)) (rK_P _) d3 (show V ≤ V6 by omega) hR6 (by omega) (by omega) (tyK_kp q7 (cK_fx q8 n36V) q3 (Nat.le_refl _) y2) q6
        have c56 := cK_tr cc2 q8
        exact Set_In (vt := vt) (FK_tr f4 (FK_AV (kK_tr kk2 q7 (by omega) (Nat.le_refl _)) c56) (by omega) (by omega) (Nat.le_refl _)) e4 (by rw [c56.2.1 43 (by decide)]; exact o43') (by omega) (by omega) hgo2 z1' z2'
    · rw [if_neg hh]
      rw [if_neg (show ¬ (i32 (hdr a.1) = 83) from c_eq (b := 83) hh (by omega) (by omega))] at hgo2
      exact In_err (by omega) f1.2.1 (τ := sI σ2 43 8 (i32 (p + 1))) hgo2 (sI_at _ _ _ _) (FK_43 σ2 8 (i32 (p + 1)) 0 0 0 (by omega)).2.1
end KRD2
