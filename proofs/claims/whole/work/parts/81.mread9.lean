section MREAD9
variable {L : Lw} {ents : List (Tr × Tr)} {tx : List Nat}
/-- a function's form -/
theorem lam_form {f A B : Tr} {Γ : List Tr} (h : HT L f Γ true (.branch 80 A B)) : ∃ body, f = un 92 body ∧ dta A ∧ HT L body (Γ ++ [A]) true B := by
  cases f with
  | leaf c =>
    simp only [HT] at h
    rcases h with ⟨_, _, h⟩ | ⟨h, _⟩
    · cases h
    · obtain ⟨f, h, _⟩ := h (by trivial); cases h
  | branch c a b =>
    simp only [HT] at h
    rcases h with ⟨_, _, x, y, h, _⟩ | ⟨_, h2, h3, x, y, h4, h5, h6⟩ | ⟨h, _⟩
    · cases h
    · subst h2 h3
      injection h4 with _ e1 e2
      subst e1 e2
      exact ⟨a, rfl, h5, h6⟩
    · obtain ⟨f, h, _⟩ := h (by trivial); cases h
theorem pair_form {f A B : Tr} {Γ : List Tr} (h : HT L f Γ true (.branch 83 A B)) : ∃ a b, f = .branch 44 a b ∧ HT L a Γ true A ∧ HT L b Γ true B := by
  cases f with
  | leaf c =>
    simp only [HT] at h
    rcases h with ⟨_, _, h⟩ | ⟨h, _⟩
    · cases h
    · obtain ⟨f, h, _⟩ := h (by trivial); cases h
  | branch c a b =>
    simp only [HT] at h
    rcases h with ⟨_, h2, x, y, h3, h4, h5⟩ | ⟨_, _, _, x, y, h, _⟩ | ⟨h, _⟩
    · subst h2
      injection h3 with _ e1 e2
      subst e1 e2
      exact ⟨a, b, rfl, h4, h5⟩
    · cases h
    · obtain ⟨f, h, _⟩ := h (by trivial); cases h
theorem wv_idr (n : Nat) : ∀ u ∈ idr n, wv u = 0 := by
  intro u hu
  simp only [idr, List.mem_map] at hu
  obtain ⟨k, _, rfl⟩ := hu
  rfl
/-- valueOf: what a form in the names in force stands for -/
theorem m_valueOf (hw : WL L ents tx) {σ : MS} {V E T n h : Nat} {vt : List Rq} {u s : Tr} (hs : RS L ents tx σ) (hv : vtOK L vt) (hn : vt.length = n) (hu : HT L u (ctx vt) true s) (hfit : fits u n) (hm : fm (σ.2.1 1) u h) (hT : h + ln u ≤ T) (hT2 : T ≤ 9400) (h19 : σ.1 19 = i32 V) (h46 : σ.1 46 = i32 n) (b2 : E ≤ 42) (b3 : V + 100 ≤ 2400) (b4 : 20 ≤ V) (b6 : 1 ≤ E) : ∃ v τ V1, f_valueOf (i32 h) σ = some (i32 v, τ) ∧ τ.1 19 = i32 V1 ∧ V ≤ V1 ∧ V1 + wv (evD u (idr n)) ≤ V + 50 ∧ rpM τ V1 E T false (evD u (idr n)) v ∧ kp σ τ V E T ∧ ch [19, 24] [12, 13] σ τ := by
  have hl : ln u ≤ 50 := hfit.1
  have hpr := HT_pr (W34 hw).2 (fxM σ) _ _ _ _ hu
  have hv10 := hv.1
  have hd : dp u (idr n).length := by rw [idr_len]; exact hfit.2
  obtain ⟨v, τ, V1, u1, u2, u3, u4, u5, u6, u7, u8⟩ := m_worksData (ρ := idr n) (e := 0) (W34 hw).2 hu hpr hm hT hT2 (by rw [idr_len, ctx_len]; exact hn.symm) hd (rp_id hs b4 b6 n (by omega)) (by omega) (wv_idr n) h19 (by omega) hl
  rw [idr_len] at u1
  refine ⟨v, τ, V1, ?_, u2, u3, by omega, u5, u6, u7⟩
  unfold f_valueOf
  rw [h46, show (0 : Int32) = i32 0 from rfl, u1, Option.bind_some]
/-- a function is given something: type and term of what comes -/
theorem m_handsGiven (hw : WL L ents tx) {σ : MS} {V E T n P h gf gF : Nat} {vt : List Rq} {u f A B : Tr} (hs : RS L ents tx σ) (hv : vtOK L vt) (hn : vt.length = n) (hP : P < 40) (h1 : σ.1 1 = i32 T) (h19 : σ.1 19 = i32 V) (h21 : σ.1 21 = i32 E) (h46 : σ.1 46 = i32 n) (h54 : σ.1 54 = i32 h) (h44 : σ.1 44 = i32 (P + 1)) (h30 : σ.2.1 30 P = i32 gf) (h31 : σ.2.1 31 P = i32 gF)
    (hF : WT L (.branch 80 A B) (ctx vt)) (hFf : fits (.branch 80 A B) n) (hFm : fm (σ.2.1 1) (.branch 80 A B) gF) (hFT : gF + ln (.branch 80 A B) ≤ T)
    (hf : HT L f (ctx vt) true (.branch 80 (shp A) (shp B))) (hff : fits f n) (hfm : fm (σ.2.1 1) f gf) (hfT : gf + ln f ≤ T)
    (hu : HT L u (ctx vt) true (shp A)) (huf : fits u n) (hum : fm (σ.2.1 1) u h) (huT : h + ln u ≤ T)
    (b1 : T + 200 ≤ 9400) (b2 : E ≤ 40) (b3 : V + 1400 ≤ 2400) (b4 : 20 ≤ V) (b6 : 1 ≤ E) (bT : 1734 ≤ T) :
    ∃ r3 r5 κ T1 g3 g5, f_handsGiven (i32 P) σ = (f_endsFound (σ.2.1 24 P) r3 r5 (setF (agn κ P) 44 (i32 P))).bind (fun q => some (0, q.2)) ∧ kp σ κ V E T ∧ ch FY AF σ κ ∧ κ.1 19 = i32 V ∧ κ.1 21 = i32 E ∧ κ.1 1 = i32 T1 ∧ T ≤ T1 ∧ T1 ≤ T + 100 ∧ plc κ T1 (nft B (idr n ++ [evD u (idr n)]) n) n r3 g3 ∧ plc κ T1 (qs (shp B) (gvD (evD f (idr n)) (evD u (idr n))) n) n r5 g5 ∧ 1734 ≤ g5 := by
  have hv10 := hv.1
  have hnn : (ctx vt).length = n := by rw [ctx_len]; exact hn
  obtain ⟨_, wA, wB⟩ := WT_SP hF (Or.inr rfl)
  obtain ⟨dA, dn, dB⟩ := (dp_SP (Or.inr rfl)).mp hFf.2
  obtain ⟨body, rfl, hdA, hbody⟩ := lam_form hf
  have hFl : ln (.branch 80 A B) ≤ 50 := hFf.1
  have hfl : ln (un 92 body) ≤ 50 := hff.1
  have lF : ln (.branch 80 A B) = 1 + ln A + ln B := ln_br _ _ _
  have lf : ln (un 92 body) = 1 + ln body := by rw [un, ln_br, ln_0]; rfl
  have hprF := WT_pr (W34 hw) (RS_fx hs) _ _ hF
  have hprA := WT_pr (W34 hw) (RS_fx hs) _ _ wA
  -- the value that is given
  obtain ⟨v, τ, V1, t1, t2, t3, t4, t5, t6, t7⟩ := m_valueOf hw hs hv hn hu huf hum huT (by omega) h19 h46 (show E ≤ 42 by omega) (by omega) b4 b6
  have hval := (T1 _ _ _ _ _ hu (enE_id (L := L) (N := ctx vt) (by omega))).2.1 rfl
  rw [hnn] at hval
  have hx := RV_HT _ _ hdA hval
  have hw0 : wv (evD u (idr n)) = 0 := wv_HT _ _ _ _ hx (fun _ => hdA)
  have e46 : τ.1 46 = i32 n := by rw [t7.1 46 (by simp)]; exact h46
  have e21 : τ.1 21 = i32 E := by rw [t7.1 21 (by simp)]; exact h21
  have hs1 := RS_kp hw hs t6 b4 b6 bT (ch_mo t7 (by simp [FR]) (by simp [AR]))
  -- the row
  obtain ⟨ω, w1, w2, w3, w4, w5, _⟩ := m_with (e := 0) (lv := n) (q := v) (ρ := idr n) (rp_kp (kp_rf τ V1 E T) (Nat.le_refl _) (Nat.le_refl _) (Nat.le_refl _) _ _ _ (rp_kp t6 t3 (Nat.le_refl _) (Nat.le_refl _) _ _ _ (rp_id hs b4 b6 n (by omega)))) (idr_len n) dn t5 e21 (by omega)
  have o46 : ω.1 46 = i32 n := by rw [w5.1 46 (by simp)]; exact e46
  have o19 : ω.1 19 = i32 V1 := by rw [w5.1 19 (by simp)]; exact t2
  have o1 : ω.1 1 = i32 T := by rw [w5.1 1 (by simp), t7.1 1 (by simp)]; exact h1
  have kω : kp σ ω V E T := kp_tr t6 w4 t3 (Nat.le_refl _) (Nat.le_refl _)
  have hs2 := RS_kp hw hs1 (kp_le w4 (Nat.le_refl _) (Nat.le_refl _) (Nat.le_refl _)) (by omega) b6 bT (ch_mo w5 (by simp [FR]) (by simp [AR]))
  -- the type behind
  have hb : f_behind (i32 gF + 1) ω = some (i32 (gF + 1 + ln A), ω) := by
    rw [show i32 gF + 1 = i32 (gF + 1) from by rw [z1, z_add]]
    exact m_behind (by rw [kp_fx kω]; exact hprA) (kp_fm kω hFm.2.1 (by omega)) (by omega)
  have en : enV L (ctx vt) (idr n ++ [evD u (idr n)]) (ctx vt ++ [shp A]) := by
    have e1 := enV_id (L := L) (N := ctx vt) (by omega)
    rw [hnn] at e1
    exact enV_snoc e1 (RV_EV _ _ hval)
  have hprB := WT_pr (W34 hw) (RS_fx hs2) _ _ wB
  obtain ⟨r3, κ3, y1, y2, y3, y4, y5, y6⟩ := m_typeBy (names := n) (base := n + 1) (e := E) (W34 hw).2 wB en hnn (by omega) (by simp [idr_len]) (by simpa using dB) (by omega) hprB (kp_fm kω hFm.2.2 (by omega)) (by omega) (by omega) o1 o19 w2 w3 (by omega) (by omega) (by omega) (by omega) (RS_nm hs2)
  have k46 : κ3.1 46 = i32 n := by rw [y3.1 46 (by simp [FY])]; exact o46
  -- the top behind the type
  obtain ⟨T2, hT2, hT2a, hT2b, plT⟩ : ∃ T2, κ3.1 1 = i32 T2 ∧ T ≤ T2 ∧ T2 ≤ T + 50 ∧ plc κ3 T2 (nft B (idr n ++ [evD u (idr n)]) n) n r3 T := by
    rcases y6 with ⟨a, b, c, d⟩ | ⟨a, b, c⟩
    · have : ln (nft B (idr n ++ [evD u (idr n)]) n) ≤ 50 := a.1
      exact ⟨_, c, by omega, by omega, Or.inl ⟨a, b, d, Nat.le_refl _⟩⟩
    · exact ⟨T, c, Nat.le_refl _, by omega, Or.inr ⟨a, b⟩⟩
  have hs3 := RS_kp hw hs2 y2 (by omega) (by omega) bT (cFR (cFE (cYA y3)))
  -- the term
  have hpb := HT_pr (W34 hw).2 (fxM κ3) _ _ _ _ hbody
  have kκ : kp σ κ3 V E T := kp_tr kω (kp_le y2 (Nat.le_refl _) (Nat.le_refl _) (Nat.le_refl _)) t3 (by omega) (Nat.le_refl _)
  have dbody : dp body (n + 1) := by
    have := hff.2
    simp only [un, dp, if_true] at this
    exact this.2
  obtain ⟨v4, κ4, V4, x1, x2, x3, x4, x5, x6, x7, _⟩ := m_worksData (T := T2) (E := E + 1) (e := E) (ρ := idr n ++ [evD u (idr n)]) (W34 hw).2 hbody hpb (kp_fm kκ hfm.2.1 (by omega)) (by omega) (by omega) (by simp [idr_len, hnn]) (by simpa [idr_len] using dbody) (rp_kp y2 (Nat.le_refl _) (Nat.le_refl _) hT2a _ _ _ w3) (by omega) (by
    intro w hw'
    simp only [List.mem_append, List.mem_singleton] at hw'
    rcases hw' with hw' | rfl
    · exact wv_idr n w hw'
    · exact hw0) y4 (by omega) (by omega)
  have hlen : (idr n ++ [evD u (idr n)]).length = n + 1 := by simp [idr_len]
  rw [hlen] at x1
  have hgv : gvD (evD (un 92 body) (idr n)) (evD u (idr n)) = evD body (idr n ++ [evD u (idr n)]) := by simp [un, evD, gvD, dL_eL]
  have hRV : RV L (ctx vt) (shp B) (evD body (idr n ++ [evD u (idr n)])) := by
    have e1 := enE_id (L := L) (N := ctx vt) (by omega)
    rw [hnn] at e1
    exact (T1 _ _ _ _ _ hbody (enE_snoc e1 (RV_EF _ _ hdA hval))).2.1 rfl
  have q46 : κ4.1 46 = i32 n := by rw [x7.1 46 (by simp)]; exact k46
  have q1 : κ4.1 1 = i32 T2 := by rw [x7.1 1 (by simp)]; exact hT2
  have q21 : κ4.1 21 = i32 (E + 1) := by rw [x7.1 21 (by simp)]; exact y5
  have cω : ch FY AF σ ω := ch_tr (ch_mo t7 (by simp [FY]) (by simp [AF])) (ch_mo w5 (by simp [FY]) (by simp [AF]))
  have c4 : ch FY AY κ3 κ4 := ch_mo x7 (by simp [FY]) (by simp [AY])
  obtain ⟨r5, κ5, s1, s2, s3, s4, s5, s6⟩ := m_toldValue (lev := n) (σ0 := κ3) (V := V) (E := E) (T := T2) (W34 hw).2 hRV hnn (by omega) q1 x2 q21 x5 (kp_le x6 (by omega) (by omega) (Nat.le_refl _)) (by omega) (by omega) (by omega) (by omega) (by omega) b4 (RS_nm hs3) c4
  rw [← hgv] at s6
  -- all together
  have kκ5 : kp σ (setF (setF κ5 19 (i32 V)) 21 (i32 E)) V E T := kp_tr kκ (kp_tr (kp_le s2 (Nat.le_refl _) (Nat.le_refl _) hT2a) (kp_tr (kp_setF _ 19 _ V E T) (kp_setF _ 21 _ V E T) (Nat.le_refl _) (Nat.le_refl _) (Nat.le_refl _)) (Nat.le_refl _) (Nat.le_refl _) (Nat.le_refl _)) (Nat.le_refl _) (Nat.le_refl _) (Nat.le_refl _)
  have cκ5 : ch FY AF σ (setF (setF κ5 19 (i32 V)) 21 (i32 E)) := ch_tr cω (ch_tr (cYA y3) (ch_tr (cYA s3) (ch_tr (ch_setF _ _ (by simp [FY])) (ch_setF _ _ (by simp [FY])))))
  have plT' : ∀ T3, T2 ≤ T3 → plc (setF (setF κ5 19 (i32 V)) 21 (i32 E)) T3 (nft B (idr n ++ [evD u (idr n)]) n) n r3 T := by
    intro T3 hT3
    rcases plT with ⟨a, b, c, d⟩ | ⟨a, b⟩
    · exact Or.inl ⟨a, b, kp_fm s2 c d, by omega⟩
    · exact Or.inr ⟨a, b⟩
  have main : ∀ T3, T2 ≤ T3 → T3 ≤ T2 + 50 → κ5.1 1 = i32 T3 → plc κ5 T3 (qs (shp B) (gvD (evD (un 92 body) (idr n)) (evD u (idr n))) n) n r5 T2 → ∃ r3 r5 κ T1 g3 g5, f_handsGiven (i32 P) σ = (f_endsFound (σ.2.1 24 P) r3 r5 (setF (agn κ P) 44 (i32 P))).bind (fun q => some (0, q.2)) ∧ kp σ κ V E T ∧ ch FY AF σ κ ∧ κ.1 19 = i32 V ∧ κ.1 21 = i32 E ∧ κ.1 1 = i32 T1 ∧ T ≤ T1 ∧ T1 ≤ T + 100 ∧ plc κ T1 (nft B (idr n ++ [evD u (idr n)]) n) n r3 g3 ∧ plc κ T1 (qs (shp B) (gvD (evD (un 92 body) (idr n)) (evD u (idr n))) n) n r5 g5 ∧ 1734 ≤ g5 := by
    intro T3 a1 a2 a3 a4
    refine ⟨r3, r5, setF (setF κ5 19 (i32 V)) 21 (i32 E), T3, T, T2, ?_, kκ5, cκ5, by rw [setF_ne _ _ (by decide)]; exact setF_eq _ _ _, setF_eq _ _ _, by rw [setF_ne _ _ (by decide), setF_ne _ _ (by decide)]; exact a3, by omega, by omega, plT' T3 a1, a4, by omega⟩
    have c30 : ix (i32 P) (aln 30) = true := c_ix (show P < 40 from hP) (by omega)
    have c31 : ix (i32 P) (aln 31) = true := c30
    have c24 : ix (i32 P) (aln 24) = true := c30
    have a44 : (agn (setF (setF κ5 19 (i32 V)) 21 (i32 E)) P).1 44 = i32 (P + 1) := by
      rw [agn_o _ _ (by omega), cκ5.1 44 (by simp [FY])]; exact h44
    have a24 : (setF (agn (setF (setF κ5 19 (i32 V)) 21 (i32 E)) P) 44 (i32 P)).2.1 24 P = σ.2.1 24 P := by
      show (setF (setF κ5 19 (i32 V)) 21 (i32 E)).2.1 24 P = _
      rw [cκ5.2 24 (by simp [AF])]
    unfold f_handsGiven B_handsGiven_57
    rw [if_pos c30, if_pos c31, h54, t1, Option.bind_some, z_nn (show P < 2147483648 by omega), h30, h31, h19, h21]
    dsimp only
    rw [e46, if_neg (show ¬ ((10 : Int32) ≤ i32 n) from by rw [show (10 : Int32) = i32 10 from rfl, z_le (by omega) (by omega)]; omega), show (0 : Int32) = i32 0 from rfl, w1, Option.bind_some]
    dsimp only
    rw [hb, Option.bind_some]
    dsimp only
    rw [o46, show i32 n + 1 = i32 (n + 1) from by rw [z1, z_add], y1, Option.bind_some]
    dsimp only
    rw [k46, show i32 n + 1 = i32 (n + 1) from by rw [z1, z_add], show i32 gf + 1 = i32 (gf + 1) from by rw [z1, z_add], x1, Option.bind_some]
    dsimp only
    rw [q46, s1, Option.bind_some]
    dsimp only
    rw [m_again hP, Option.bind_some]
    dsimp only
    rw [if_pos c24, a44, z_sub1, a24]
  rcases s6 with ⟨a, b, c, d⟩ | ⟨a, b, c⟩
  · have : ln (qs (shp B) (gvD (evD (un 92 body) (idr n)) (evD u (idr n))) n) ≤ 50 := a.1
    exact main _ (by omega) (by omega) c (Or.inl ⟨a, b, d, Nat.le_refl _⟩)
  · exact main T2 (Nat.le_refl _) (by omega) c (Or.inr ⟨a, b⟩)
end MREAD9
