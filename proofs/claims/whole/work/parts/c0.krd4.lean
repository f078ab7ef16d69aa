section KRD4
variable {L : Lw} {ents : List (Tr × Tr)} {tx : List Nat}
theorem k_isFamily {σ : CS} {c m : Nat} (hc : c < 1000) (hm : m ≤ 3) (h3 : σ.1 34 3 = i32 m) : f_Signs_isFamily (i32 c) σ = some (if 65 ≤ c ∧ c - 65 < m then i32 1 else i32 0, σ) := by
  unfold f_Signs_isFamily B_Signs_isFamily_21 B_Signs_isFamily_22
  by_cases h : 65 ≤ c
  · rw [if_neg (show ¬ (i32 c < 65) from by rw [show (65 : Int32) = i32 65 from rfl, z_lt (by omega) (by omega)]; omega), h3, show i32 c - 65 = i32 (c - 65) from by rw [z65, z_sub h]]
    by_cases h2 : c - 65 < m
    · rw [if_neg (show ¬ (i32 m ≤ i32 (c - 65)) from by rw [z_le (by omega) (by omega)]; omega), if_pos (show 65 ≤ c ∧ c - 65 < m from ⟨h, h2⟩)]
      rfl
    · rw [if_pos (show i32 m ≤ i32 (c - 65) from by rw [z_le (by omega) (by omega)]; omega), if_neg (show ¬ (65 ≤ c ∧ c - 65 < m) by omega)]
      rfl
  · rw [if_pos (show i32 c < 65 from by rw [show (65 : Int32) = i32 65 from rfl, z_lt (by omega) (by omega)]; omega), if_neg (show ¬ (65 ≤ c ∧ c - 65 < m) by omega)]
    rfl
section GO
variable {d n p c : Nat} {σ : CS}
theorem type_SP (hpk : f_Reader_peek σ = some (i32 c, σ)) (h7 : σ.1 43 7 = i32 p) (hc : c = 83 ∨ c = 80) (hn : n < 10) : f_Reader_readType (d + 1) (i32 n) σ = f_Reader_readBinder d (i32 c) (i32 p) (i32 n) (sI σ 43 7 (i32 (p + 1))) := by
  show F_Reader_readType (G_Reader d).1 (G_Reader d).2.1 (G_Reader d).2.2.1 (G_Reader d).2.2.2.1 (G_Reader d).2.2.2.2.1 (G_Reader d).2.2.2.2.2.1 (G_Reader d).2.2.2.2.2.2.1 (G_Reader d).2.2.2.2.2.2.2.1 (G_Reader d).2.2.2.2.2.2.2.2.1 (G_Reader d).2.2.2.2.2.2.2.2.2 _ _ = _
  unfold F_Reader_readType B_Reader_readType_17 B_Reader_readType_28 B_Reader_readType_59
  rw [hpk, Option.bind_some]
  dsimp only
  have hn' : ¬ ((10 : Int32) ≤ i32 n) := by rw [show (10 : Int32) = i32 10 from rfl, z_le (by omega) (by omega)]; omega
  rw [h7, show i32 p + 1 = i32 (p + 1) from by rw [z1, z_add], obid]
  rcases hc with rfl | rfl
  · rw [if_pos (show i32 83 = 83 from rfl), if_neg hn', if_neg (show ¬ (i32 83 = 49) from by decide), if_neg (show ¬ ((1 : Int32) = 0) from by decide), if_neg (show ¬ ((1 : Int32) = 0) from by decide)]
    rfl
  · rw [if_neg (show ¬ (i32 80 = 83) from by decide), if_pos (show i32 80 = 80 from rfl), if_neg hn', if_neg (show ¬ (i32 80 = 49) from by decide), if_neg (show ¬ ((1 : Int32) = 0) from by decide), if_neg (show ¬ ((1 : Int32) = 0) from by decide)]
    rfl
theorem type_59 {m : Nat} (hpk : f_Reader_peek σ = some (i32 c, σ)) (h7 : σ.1 43 7 = i32 p) (hm : m ≤ 3) (h3 : σ.1 34 3 = i32 m) (hc : c = 49 ∨ (65 ≤ c ∧ c - 65 < m)) : f_Reader_readType (d + 1) (i32 n) σ = (f_Signs_indexTypeOf (i32 c) (sI σ 43 7 (i32 (p + 1)))).bind fun q1 => (if q1.1 = (-1) then f_Reader_join (i32 c) (-1) (-1) (i32 p) q1.2 else (f_Values_typeAt q1.1 0 q1.2).bind fun q2 => (f_Reader_checkTerm d q2.1 (i32 n) q2.2).bind fun q3 => (if q3.1 = (-1) then some (-1, q3.2) else f_Reader_join (i32 c) q3.1 (-1) (i32 p) q3.2)) := by
  show F_Reader_readType (G_Reader d).1 (G_Reader d).2.1 (G_Reader d).2.2.1 (G_Reader d).2.2.2.1 (G_Reader d).2.2.2.2.1 (G_Reader d).2.2.2.2.2.1 (G_Reader d).2.2.2.2.2.2.1 (G_Reader d).2.2.2.2.2.2.2.1 (G_Reader d).2.2.2.2.2.2.2.2.1 (G_Reader d).2.2.2.2.2.2.2.2.2 _ _ = _
  unfold F_Reader_readType B_Reader_readType_27 B_Reader_readType_28 B_Reader_readType_59 B_Reader_readType_151
  rw [hpk, Option.bind_some]
  dsimp only
  rw [if_neg (show ¬ (i32 c = 83) from c_eq (b := 83) (by omega) (by omega) (by omega)), if_neg (show ¬ (i32 c = 80) from c_eq (b := 80) (by omega) (by omega) (by omega)), h7, show i32 p + 1 = i32 (p + 1) from by rw [z1, z_add]]
  simp only [obid]
  by_cases h49 : c = 49
  · subst h49
    rw [if_pos (show i32 49 = 49 from rfl), if_pos trivial]
    rfl
  · rw [if_neg (show ¬ (i32 c = 49) from c_eq (b := 49) h49 (by omega) (by omega)), if_pos trivial, k_isFamily (by omega) hm h3, if_pos (hc.resolve_left h49), Option.bind_some]
    dsimp only
    rw [if_neg (show ¬ (i32 1 = 0) from by decide), if_pos trivial, h7, show i32 p + 1 = i32 (p + 1) from by rw [z1, z_add]]
    rfl
theorem type_bad {m : Nat} {x : Int32} (hpk : f_Reader_peek σ = some (x, σ)) (h7 : σ.1 43 7 = i32 p) (hf : f_Signs_isFamily x σ = some (0, σ)) (h49 : x ≠ 49) (h83 : x = 83 ∨ x = 80 → n = 10) : f_Reader_readType (d + 1) (i32 n) σ = some (-1, sI σ 43 8 (i32 p)) := by
  show F_Reader_readType (G_Reader d).1 (G_Reader d).2.1 (G_Reader d).2.2.1 (G_Reader d).2.2.2.1 (G_Reader d).2.2.2.2.1 (G_Reader d).2.2.2.2.2.1 (G_Reader d).2.2.2.2.2.2.1 (G_Reader d).2.2.2.2.2.2.2.1 (G_Reader d).2.2.2.2.2.2.2.2.1 (G_Reader d).2.2.2.2.2.2.2.2.2 _ _ = _
  unfold F_Reader_readType B_Reader_readType_17 B_Reader_readType_27 B_Reader_readType_28
  rw [hpk, Option.bind_some]
  dsimp only
  have h10 : n = 10 → (10 : Int32) ≤ i32 n := fun h => by subst h; decide
  have e28 : (if x = 49 then B_Reader_readType_59 (G_Reader d).1 (G_Reader d).2.1 (G_Reader d).2.2.1 (G_Reader d).2.2.2.1 (G_Reader d).2.2.2.2.1 (G_Reader d).2.2.2.2.2.1 (G_Reader d).2.2.2.2.2.2.1 (G_Reader d).2.2.2.2.2.2.2.1 (G_Reader d).2.2.2.2.2.2.2.2.1 (G_Reader d).2.2.2.2.2.2.2.2.2 (i32 n) x 0 σ else (if (0 : Int32) = 0 then (f_Signs_isFamily x σ).bind fun q1 => (if q1.1 = 0 then (f_Reader_refuse (q1.2.1 43 7) q1.2).bind fun q2 => some (q2.1, q2.2) else B_Reader_readType_59 (G_Reader d).1 (G_Reader d).2.1 (G_Reader d).2.2.1 (G_Reader d).2.2.2.1 (G_Reader d).2.2.2.2.1 (G_Reader d).2.2.2.2.2.1 (G_Reader d).2.2.2.2.2.2.1 (G_Reader d).2.2.2.2.2.2.2.1 (G_Reader d).2.2.2.2.2.2.2.2.1 (G_Reader d).2.2.2.2.2.2.2.2.2 (i32 n) x 0 q1.2) else B_Reader_readType_59 (G_Reader d).1 (G_Reader d).2.1 (G_Reader d).2.2.1 (G_Reader d).2.2.2.1 (G_Reader d).2.2.2.2.1 (G_Reader d).2.2.2.2.2.1 (G_Reader d).2.2.2.2.2.2.1 (G_Reader d).2.2.2.2.2.2.2.1 (G_Reader d).2.2.2.2.2.2.2.2.1 (G_Reader d).2.2.2.2.2.2.2.2.2 (i32 n) x 0 σ)) = some (-1, sI σ 43 8 (i32 p)) := by
    rw [if_neg h49, if_pos rfl, hf, Option.bind_some]
    dsimp only
    rw [if_pos rfl, h7]
    rfl
  by_cases h1 : x = 83
  · rw [if_pos h1, if_pos (h10 (h83 (Or.inl h1)))]
    exact e28
  · rw [if_neg h1]
    by_cases h2 : x = 80
    · rw [if_pos h2, if_pos (h10 (h83 (Or.inr h2)))]
      exact e28
    · rw [if_neg h2]
      exact e28
end GO
/-- a type of pairs or functions -/
theorem KT_SP (hw : WL L ents tx) {rT : RT} {K d : Nat} (oT : okT L tx rT) (hT : KT L ents tx rT K) (hd : 2 * K ≤ d) {vt : List Rq} {p V T c : Nat} {σ : CS} (hb : BK L ents tx vt σ p V T) (hp : p < tx.length) (hK : 2 * (33 - p) ≤ K + 2) (hc : c = 83 ∨ c = 80) (hn : vt.length < 10) : RnT (f_Reader_readBinder (d + 1) (i32 c) (i32 p) (i32 vt.length) (sI σ 43 7 (i32 (p + 1)))) vt σ p V T ((rT vt (p + 1)).bind fun a => cif (c = 80 ∧ 80 ∈ enc a.1) (.error (p + 1)) ((rT (vt ++ [(a.1, idr vt.length)]) a.2).bind fun b => jn (.branch c a.1 b.1) p b.2)) := by
  have hl := hw.2.2.2.1
  have hv := hb.1
  have hv10 := hv.1
  obtain ⟨d1, d2, d3, d4, d5, d6, d7, d8⟩ := hb.2.2.1
  have b1 := BK_next hb hp
  have f7 := next_F σ (p + 1) V T vt.length
  have h437 : (sI σ 43 7 (i32 (p + 1))).1 43 7 = i32 (p + 1) := sI_at _ _ _ _
  have run := hT d hd vt (p + 1) V T _ b1 (by omega)
  have hgo : f_Reader_readBinder (d + 1) (i32 c) (i32 p) (i32 vt.length) (sI σ 43 7 (i32 (p + 1))) = (f_Reader_readType d (i32 vt.length) (sI σ 43 7 (i32 (p + 1)))).bind fun q1 => (if q1.1 = (-1) then some ((-1), q1.2) else (if i32 c = 80 then (f_Signs_isData q1.1 q1.2).bind fun q2 => (if q2.1 = 0 then f_Reader_refuse (i32 (p + 1)) q2.2 else (f_Reader_scope (i32 vt.length) q2.2).bind fun q1' => (f_Values_typeAt q1.1 q1'.1 q1'.2).bind fun q2 => (f_Reader_bind q2.1 (i32 vt.length) q2.2).bind fun q3 => (f_Reader_readType d (i32 vt.length + 1) q3.2).bind fun q4 => (if q4.1 = (-1) then some (-1, q4.2) else f_Reader_join (i32 c) q1.1 q4.1 (i32 p) q4.2)) else (f_Reader_scope (i32 vt.length) q1.2).bind fun q1' => (f_Values_typeAt q1.1 q1'.1 q1'.2).bind fun q2 => (f_Reader_bind q2.1 (i32 vt.length) q2.2).bind fun q3 => (f_Reader_readType d (i32 vt.length + 1) q3.2).bind fun q4 => (if q4.1 = (-1) then some (-1, q4.2) else f_Reader_join (i32 c) q1.1 q4.1 (i32 p) q4.2))) := by
    show F_Reader_readBinder (G_Reader d).1 (G_Reader d).2.1 (G_Reader d).2.2.1 (G_Reader d).2.2.2.1 (G_Reader d).2.2.2.2.1 (G_Reader d).2.2.2.2.2.1 (G_Reader d).2.2.2.2.2.2.1 (G_Reader d).2.2.2.2.2.2.2.1 (G_Reader d).2.2.2.2.2.2.2.2.1 (G_Reader d).2.2.2.2.2.2.2.2.2 _ _ _ _ = _
    unfold F_Reader_readBinder B_Reader_readBinder_46 B_Reader_readBinder_95
    rw [h437]
    simp only [obid]
    rfl
  cases hr : rT vt (p + 1) with
  | error e =>
    rw [hr] at run
    obtain ⟨he, τ, e1, e2, e3⟩ := run
    refine ⟨he, τ, ?_, e2, cK_tr f7.2.1 e3⟩
    rw [hgo, e1, Option.bind_some]
    dsimp only
    rw [if_pos rfl]
  | ok a =>
    rw [hr] at run
    obtain ⟨w1, w2, w3, w4⟩ := oT vt (p + 1) a hv hr
    obtain ⟨g, τ, V1, T1, e1, e2, e3, e4, e5, e6, e7, e8, e9, e10, e11⟩ := run
    have b2 : BK L ents tx vt τ a.2 V1 T1 := BK_go b1 e9 e5 e2 e8 e3 (by omega) e6 (by omega) w4
    have prT := WT_pr (W34 hw) (BK_fx hw b2) _ _ w1
    have f1 := FK_tr f7 e9 (Nat.le_refl _) (Nat.le_refl _) (Nat.le_refl _)
    rw [e1, Option.bind_some] at hgo
    dsimp only at hgo
    rw [if_neg (i_ne1 (a := g) (by omega))] at hgo
    show RnT _ vt σ p V T (cif (c = 80 ∧ 80 ∈ enc a.1) (.error (p + 1)) ((rT (vt ++ [(a.1, idr vt.length)]) a.2).bind fun b => jn (.branch c a.1 b.1) p b.2))
    by_cases hdat : c = 80 ∧ 80 ∈ enc a.1
    · rw [cif_pos hdat]
      refine rn_err (σ1 := τ) (by omega) f1.2.1 ?_
      rw [hgo, hdat.1, if_pos (show i32 80 = 80 from rfl), k_isData e5 (by omega) prT e10 e11, if_pos hdat.2, Option.bind_some]
      dsimp only
      rw [if_pos (show i32 0 = 0 from rfl)]
      rfl
    · rw [cif_neg hdat]
      obtain ⟨e, s1, s2⟩ := b2.2.2.1.2.2.2.2.2.2.1 vt.length (Nat.le_refl _)
      obtain ⟨t1, t2⟩ := k_typeNode (ρ := idr vt.length) e2 (by omega) (by omega) e10 e11 prT s2
      have cM := mkn_ch (A := AV) τ V1 10 (i32 g) (i32 e) (fun _ h => h)
      have kM := mkn_kp τ V1 10 (i32 g) (i32 e) T1
      have fM : FK τ (mkn τ V1 10 (i32 g) (i32 e)) V1 T1 vt.length := FK_AV kM cM
      have hgo2 : f_Reader_readBinder (d + 1) (i32 c) (i32 p) (i32 vt.length) (sI σ 43 7 (i32 (p + 1))) = (f_Reader_bind (i32 V1) (i32 vt.length) (mkn τ V1 10 (i32 g) (i32 e))).bind fun q3 => (f_Reader_readType d (i32 vt.length + 1) q3.2).bind fun q4 => (if q4.1 = (-1) then some (-1, q4.2) else f_Reader_join (i32 c) (i32 g) q4.1 (i32 p) q4.2) := by
        have key : ((f_Reader_scope (i32 vt.length) τ).bind fun q1' => (f_Values_typeAt (i32 g) q1'.1 q1'.2).bind fun q2 => (f_Reader_bind q2.1 (i32 vt.length) q2.2).bind fun q3 => (f_Reader_readType d (i32 vt.length + 1) q3.2).bind fun q4 => (if q4.1 = (-1) then some (-1, q4.2) else f_Reader_join (i32 c) (i32 g) q4.1 (i32 p) q4.2)) = (f_Reader_bind (i32 V1) (i32 vt.length) (mkn τ V1 10 (i32 g) (i32 e))).bind fun q3 => (f_Reader_readType d (i32 vt.length + 1) q3.2).bind fun q4 => (if q4.1 = (-1) then some (-1, q4.2) else f_Reader_join (i32 c) (i32 g) q4.1 (i32 p) q4.2) := by
          rw [k_scope hv10, s1, Option.bind_some]
          dsimp only
          rw [t1, Option.bind_some]
        rw [hgo]
        by_cases h80 : c = 80
        · rw [h80, if_pos (show i32 80 = 80 from rfl), k_isData e5 (by omega) prT e10 e11, if_neg (fun h => hdat ⟨h80, h⟩), Option.bind_some]
          dsimp only
          rw [if_neg (show ¬ (i32 1 = 0) from by decide)]
          rw [h80] at key
          exact key
        · rw [if_neg (show ¬ (i32 c = 80) from c_eq (b := 80) h80 (by omega) (by omega))]
          exact key
      have bM : BK L ents tx vt (mkn τ V1 10 (i32 g) (i32 e)) a.2 (V1 + 1) T1 := BK_go b2 fM (by rw [cM.2.1 34 (by decide)]; exact e5) (mkn_V _ _ _ _ _) (by rw [cM.2.1 43 (by decide)]; exact e8) (by omega) (by omega) (Nat.le_refl _) (by omega) w4
      have f2 := FK_tr f1 fM e3 e6 (Nat.le_refl _)
      have e10M := kK_fm kM e10 e11
      generalize mkn τ V1 10 (i32 g) (i32 e) = σ2 at hgo2 bM f2 t2 e10M
      obtain ⟨σ3, x1, x2, x3, x4⟩ := k_bind (rq := (a.1, idr vt.length)) bM.2.2.1 t2 hn (by omega) (by omega)
      rw [x1, Option.bind_some] at hgo2
      dsimp only at hgo2
      have hv' := vt_snoc hv (rq_id hv10 w1 w2) hn
      have b3 : BK L ents tx (vt ++ [(a.1, idr vt.length)]) σ3 a.2 (V1 + 1 + 2) T1 := ⟨hv', RK_go bM.2.1 x3.1 x3.2.1 (Nat.le_refl _), x4, w4⟩
      have f3 := FK_tr f2 x3 (show V ≤ V1 + 1 by omega) e6 (Nat.le_refl _)
      have run2 := hT d hd _ a.2 (V1 + 1 + 2) T1 σ3 b3 (by omega)
      have en : i32 vt.length + 1 = i32 (vt ++ [(a.1, idr vt.length)]).length := by rw [z1, z_add]; simp
      rw [en] at hgo2
      cases hr2 : rT (vt ++ [(a.1, idr vt.length)]) a.2 with
      | error e' =>
        rw [hr2] at run2
        obtain ⟨he, υ, g1, g2, g3⟩ := run2
        refine ⟨he, υ, ?_, g2, cK_tr f3.2.1 g3⟩
        rw [hgo2, g1, Option.bind_some]
        dsimp only
        rw [if_pos rfl]
      | ok b =>
        rw [hr2] at run2
        obtain ⟨y1, y2, y3, y4⟩ := oT _ a.2 b hv' hr2
        obtain ⟨g2, υ, V2, T2, u1, u2, u3, u4, u5, u6, u7, u8, u9, u10, u11⟩ := run2
        rw [u1, Option.bind_some] at hgo2
        dsimp only at hgo2
        rw [if_neg (i_ne1 (a := g2) (by omega))] at hgo2
        have f9 : FK σ3 υ (V1 + 1 + 2) T1 vt.length := ⟨u9.1, u9.2.1, fun k hk => u9.2.2.1 k (by simp; omega), fun k hk => u9.2.2.2 k (by simp; omega)⟩
        have f4 := FK_tr f3 f9 (show V ≤ V1 + 1 + 2 by omega) e6 (Nat.le_refl _)
        have b4 : BK L ents tx vt υ b.2 V2 T2 := BK_go hb f4 u5 u2 u8 (by omega) (by omega) (by omega) (by omega) y4
        have prA := WT_pr (W34 hw) (BK_fx hw b4) _ _ w1
        have prB := WT_pr (W34 hw) (BK_fx hw b4) _ _ y1
        obtain ⟨r, ω, j1, j2⟩ := k_join2 (p := p) (n := vt.length) (c := c) (BK_R hw b4) (by rw [ctx_len]; exact Nat.le_refl _) (by omega) (by omega) (by omega) prA (kK_fm f9.1 (kK_fm x3.1 e10M e11) e11) (show g + ln a.1 ≤ T2 by omega) prB u10 u11
        exact Join_T f4 (by omega) (by omega) (by omega) (by omega) u8 (by omega) (by rw [hgo2]; exact j1) j2
/-- a type: every kind of it -/
theorem KT_s (hw : WL L ents tx) {rT : RT} {rC : RC} {K : Nat} (oT : okT L tx rT) (oC : okC L tx rC) (hT : KT L ents tx rT K) (hC : KC L ents tx rC K) : KT L ents tx (spT L tx rT rC) (K + 1) := by
  intro d hd vt p V T σ hb hK
  obtain ⟨d, rfl⟩ : ∃ k, d = k + 1 + 1 := ⟨d - 2, by omega⟩
  have hl := hw.2.2.2.1
  have hl3 := (W34 hw).1
  obtain ⟨hv, hs, hd', hp⟩ := id hb
  have hv10 := hv.1
  obtain ⟨d1, d2, d3, d4, d5, d6, d7, d8⟩ := id hd'
  unfold spT
  by_cases hpl : p < tx.length
  · have h256 := byt_256 hw hpl
    have hpk := k_peek hs d6 hl hpl
    have b1 := BK_next hb hpl
    have f7 := next_F σ (p + 1) V T vt.length
    by_cases h1 : (byt tx p = 83 ∨ byt tx p = 80) ∧ vt.length < 10
    · rw [if_pos h1, type_SP hpk d6 h1.1 h1.2]
      exact KT_SP hw oT hT (by omega) hb hpl (by omega) h1.1 h1.2
    rw [if_neg h1]
    have leaf : ∀ c, byt tx p = c → (c = 49 ∨ (65 ≤ c ∧ L.1[c - 65]? = some none)) → RnT (f_Reader_readType (d + 1 + 1) (i32 vt.length) σ) vt σ p V T (.ok (.leaf c, p + 1)) := by
      intro c hc hc'
      rw [hc] at hpk h256
      have hcl : c = 49 ∨ (65 ≤ c ∧ c - 65 < L.1.length) := by
        rcases hc' with h | ⟨h2, h3⟩
        · exact Or.inl h
        · exact Or.inr ⟨h2, (List.getElem?_eq_some_iff.mp h3).1⟩
      have hgo := type_59 (d := d + 1) (n := vt.length) hpk d6 hl3 hs.1.1 hcl
      rw [k_indexNo hl3 b1.2.1.1 (by omega) (by
        rcases hc' with h | ⟨h2, h3⟩
        · exact Or.inl (by omega)
        · exact Or.inr h3), Option.bind_some] at hgo
      dsimp only at hgo
      rw [if_pos rfl] at hgo
      obtain ⟨r, τ, j1, j2⟩ := k_join0 (p := p) (n := vt.length) (c := c) (BK_R hw b1) (by rw [ctx_len]; exact Nat.le_refl _) (by omega) (by omega) (by omega)
      have := Join_T (vt := vt) (f := f_Reader_readType (d + 1 + 1) (i32 vt.length) σ) (q := p + 1) f7 (Nat.le_refl _) (by omega) (Nat.le_refl _) (by omega) (sI_at _ _ _ _) (by omega) (by rw [hgo]; exact j1) j2
      rw [show jn (.leaf c) p (p + 1) = .ok (.leaf c, p + 1) from cif_pos (by rw [ln_leaf (by omega)]; omega) _ _] at this
      exact this
    by_cases h2 : byt tx p = 49
    · rw [if_pos h2]
      exact leaf 49 h2 (Or.inl rfl)
    rw [if_neg h2]
    by_cases h3 : 65 ≤ byt tx p ∧ byt tx p - 65 < L.1.length
    · rw [if_pos h3]
      cases hj : L.1[byt tx p - 65]? with
      | none =>
        have := List.getElem?_eq_none_iff.mp hj
        omega
      | some x =>
        cases x with
        | none => exact leaf _ rfl (Or.inr ⟨h3.1, hj⟩)
        | some I =>
          show RnT _ vt σ p V T ((rC vt (I, []) (p + 1)).bind fun t => jn (un (byt tx p) t.1) p t.2)
          have hgo := type_59 (d := d + 1) (n := vt.length) hpk d6 hl3 hs.1.1 (Or.inr h3)
          have h65 := h3.1
          generalize byt tx p = c at hgo h65 hj h256
          obtain ⟨q, i1, i2, i3, i4⟩ := k_indexYes hl3 b1.2.1.1 h65 hj
          obtain ⟨v1, v2, v3⟩ := hw.1.2.2.1 _ I hj
          have hclt := (List.getElem?_eq_some_iff.mp hj).1
          rw [i1, Option.bind_some] at hgo
          dsimp only at hgo
          rw [if_neg (i_ne1 (a := q) (by omega))] at hgo
          have hR1 := BK_R hw b1
          obtain ⟨t1, t2⟩ := k_typeNode (ρ := []) (e := 0) hR1.2.2.1 d3 (by omega) i2 i3 i4 rfl
          rw [show (0 : Int32) = i32 0 from rfl, t1, Option.bind_some] at hgo
          dsimp only at hgo
          have cM := mkn_ch (A := AV) (sI σ 43 7 (i32 (p + 1))) V 10 (i32 q) (i32 0) (fun _ h => h)
          have kM := mkn_kp (sI σ 43 7 (i32 (p + 1))) V 10 (i32 q) (i32 0) T
          have fM : FK (sI σ 43 7 (i32 (p + 1))) (mkn (sI σ 43 7 (i32 (p + 1))) V 10 (i32 q) (i32 0)) V T vt.length := FK_AV kM cM
          have b2 : BK L ents tx vt (mkn (sI σ 43 7 (i32 (p + 1))) V 10 (i32 q) (i32 0)) (p + 1) (V + 1) T := BK_go b1 fM (by rw [cM.2.1 34 (by decide)]; exact hR1.2.1) (mkn_V _ _ _ _ _) (by rw [cM.2.1 43 (by decide)]; exact sI_at _ _ _ _) (by omega) (by omega) (Nat.le_refl _) (by omega) (by omega)
          have f2 := FK_tr f7 fM (Nat.le_refl _) (Nat.le_refl _) (Nat.le_refl _)
          have rqI : rqOK L vt (I, []) := ⟨[], v1, enV_nil _ _, v3.2, Nat.zero_le _, v3.1⟩
          generalize mkn (sI σ 43 7 (i32 (p + 1))) V 10 (i32 q) (i32 0) = σ2 at hgo b2 f2 t2
          have run := hC (d + 1) (by omega) vt (I, []) (p + 1) (V + 1) T V σ2 b2 rqI t2 (by omega)
          cases hr : rC vt (I, []) (p + 1) with
          | error e =>
            rw [hr] at run
            obtain ⟨he, τ, e1, e2, e3⟩ := run
            refine ⟨he, τ, ?_, e2, cK_tr f2.2.1 e3⟩
            rw [hgo, e1, Option.bind_some]
            dsimp only
            rw [if_pos rfl]
          | ok b =>
            rw [hr] at run
            obtain ⟨y1, y2, y3, y4⟩ := oC vt _ (p + 1) b hv rqI hr
            obtain ⟨g2, υ, V2, T2, u1, u2, u3, u4, u5, u6, u7, u8, u9, u10, u11⟩ := run
            rw [u1, Option.bind_some] at hgo
            dsimp only at hgo
            rw [if_neg (i_ne1 (a := g2) (by omega))] at hgo
            have f4 := FK_tr f2 u9 (show V ≤ V + 1 by omega) (Nat.le_refl _) (Nat.le_refl _)
            have b4 : BK L ents tx vt υ b.2 V2 T2 := BK_go hb f4 u5 u2 u8 (by omega) (by omega) (by omega) (by omega) y4
            obtain ⟨r, ω, j1, j2⟩ := k_join1 (p := p) (n := vt.length) (c := c) (BK_R hw b4) (by rw [ctx_len]; exact Nat.le_refl _) (by omega) (by omega) (by omega) (HT_pr (W34 hw).2 _ _ _ _ _ y1) u10 u11
            exact Join_T f4 (by omega) (by omega) (by omega) (by omega) u8 (by omega) (by rw [hgo]; exact j1) j2
    rw [if_neg h3]
    refine rn_err (σ1 := σ) (by omega) (cK_rf _ _) ?_
    refine type_bad (m := 0) hpk d6 ?_ (c_eq (b := 49) h2 (by omega) (by omega)) (fun h => ?_)
    · rw [k_isFamily (by omega) hl3 hs.1.1, if_neg h3]
      rfl
    · have : byt tx p = 83 ∨ byt tx p = 80 := by
        rcases h with h | h
        · by_cases h' : byt tx p = 83
          · exact Or.inl h'
          · exact absurd h (c_eq (b := 83) h' (by omega) (by omega))
        · by_cases h' : byt tx p = 80
          · exact Or.inr h'
          · exact absurd h (c_eq (b := 80) h' (by omega) (by omega))
      have h' : ¬ vt.length < 10 := fun h' => h1 ⟨this, h'⟩
      omega
  · have h300 := byt_end (tx := tx) (p := p) (by omega)
    rw [h300, if_neg (by omega), if_neg (by omega), if_neg (by omega)]
    exact rn_err (σ1 := σ) (by omega) (cK_rf _ _) (type_bad (m := 0) (k_peek0 hs d6 hl (by omega) (by omega)) d6 rfl (by decide) (fun h => by
      rcases h with h | h
      · exact absurd h (by decide)
      · exact absurd h (by decide)))
end KRD4
