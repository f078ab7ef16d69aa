section MREAD24
variable {L : Lw} {ents : List (Tr × Tr)} {tx : List Nat}
theorem m_rd53 {σ : MS} {p c : Nat} (hc : c < 256) (h56 : σ.1 56 = i32 p) (h : ¬ ((c = 83 ∨ c = 80) ∧ ∃ n, n < 10 ∧ σ.1 46 = i32 n)) (hn : ∃ n, n ≤ 10 ∧ σ.1 46 = i32 n) : f_readsType (i32 c) σ = B_readsType_53 (i32 c) (i32 p) σ := by
  obtain ⟨n, hn, h46⟩ := hn
  unfold f_readsType B_readsType_17
  rw [h56]
  by_cases h1 : c = 83
  · subst h1
    rw [if_pos (show i32 83 = 83 from rfl), h46, if_pos]
    rw [show (10 : Int32) = i32 10 from rfl, z_le (by omega) (by omega)]
    by_cases h10 : n < 10
    · exact absurd ⟨Or.inl rfl, n, h10, h46⟩ h
    · omega
  rw [if_neg (show ¬ (i32 c = 83) from c_eq (b := 83) h1 (by omega) (by omega))]
  by_cases h2 : c = 80
  · subst h2
    rw [if_pos (show i32 80 = 80 from rfl), h46, if_pos]
    rw [show (10 : Int32) = i32 10 from rfl, z_le (by omega) (by omega)]
    by_cases h10 : n < 10
    · exact absurd ⟨Or.inr rfl, n, h10, h46⟩ h
    · omega
  rw [if_neg (show ¬ (i32 c = 80) from c_eq (b := 80) h2 (by omega) (by omega))]
/-- what can't stand where a type is due -/
theorem m_rdBad {σ : MS} {p c m : Nat} (hc : c < 256) (h57 : σ.1 57 = -9) (h4 : σ.1 4 = i32 m) (hm : m ≤ 3) (h49 : c ≠ 49) (h65 : ¬ (65 ≤ c ∧ c - 65 < m)) : B_readsType_53 (i32 c) (i32 p) σ = some (0, setF σ 57 (i32 p)) := by
  have e76 : B_readsType_76 (i32 c) (i32 p) 0 σ = some (0, setF σ 57 (i32 p)) := by
    unfold B_readsType_76
    rw [if_neg (show ¬ (i32 c = 49) from c_eq (b := 49) h49 (by omega) (by omega)), if_pos rfl, m_fails _ h57, Option.bind_some]
  unfold B_readsType_53 B_readsType_75
  rw [m_isFamily c (by omega), Option.bind_some]
  dsimp only
  by_cases h : 65 ≤ c ∧ c ≤ 67
  · rw [if_pos h, if_neg (show ¬ ((1 : Int32) = 0) from by decide), h4, show i32 c - 65 = i32 (c - 65) from by rw [z65, z_sub h.1], if_pos (show i32 m ≤ i32 (c - 65) from by rw [z_le (by omega) (by omega)]; omega)]
    exact e76
  · rw [if_neg h, if_pos rfl]
    exact e76
/-- a type of one sign -/
theorem m_rdLeaf {σ : MS} {p c m T : Nat} (h56 : σ.1 56 = i32 p) (h1 : σ.1 1 = i32 T) (hT : T < 9400) (h4 : σ.1 4 = i32 m) (hm : m ≤ 3) (hc : c = 49 ∨ (65 ≤ c ∧ c - 65 < m ∧ fxM σ (c - 65) = false)) : B_readsType_53 (i32 c) (i32 p) σ = (f_endsType (i32 p) (i32 T) (pt (setF σ 56 (i32 (p + 1))) T (i32 c))).bind fun q => some (0, q.2) := by
  have e1 : (setF σ 56 (i32 (p + 1))).1 1 = i32 T := by rw [setF_ne _ _ (by decide)]; exact h1
  have e157 : B_readsType_157 (i32 c) (i32 p) (setF σ 56 ((σ.1 56) + 1)) = (f_endsType (i32 p) (i32 T) (pt (setF σ 56 (i32 (p + 1))) T (i32 c))).bind fun q => some (0, q.2) := by
    unfold B_readsType_157
    rw [h56, show i32 p + 1 = i32 (p + 1) from by rw [z1, z_add], m_puts _ e1 hT, Option.bind_some, e1]
  unfold B_readsType_53 B_readsType_75
  rcases hc with rfl | ⟨hc1, hc2, hc3⟩
  · rw [m_isFamily 49 (by omega), Option.bind_some]
    dsimp only
    rw [if_neg (show ¬ (65 ≤ 49 ∧ 49 ≤ 67) by omega), if_pos rfl]
    unfold B_readsType_76 B_readsType_93
    rw [if_pos (show i32 49 = 49 from rfl), if_pos rfl]
    exact e157
  · rw [m_isFamily c (by omega), Option.bind_some]
    dsimp only
    rw [if_pos (show 65 ≤ c ∧ c ≤ 67 by omega), if_neg (show ¬ ((1 : Int32) = 0) from by decide), h4, show i32 c - 65 = i32 (c - 65) from by rw [z65, z_sub hc1], if_neg (show ¬ (i32 m ≤ i32 (c - 65)) from by rw [z_le (by omega) (by omega)]; omega)]
    unfold B_readsType_76 B_readsType_93
    rw [if_neg (show ¬ (i32 c = 49) from c_eq (b := 49) (by omega) (by omega) (by omega)), if_neg (show ¬ ((1 : Int32) = 0) from by decide), if_neg (show ¬ ((1 : Int32) = 0) from by decide), show i32 c - 65 = i32 (c - 65) from by rw [z65, z_sub hc1], if_pos (c_ix (show c - 65 < aln 3 by show c - 65 < 3; omega) (by omega)), z_nn (by omega), if_pos]
    · exact e157
    · unfold fxM at hc3
      have : (σ.2.1 3 (c - 65) == 0) = true := by simpa using hc3
      exact eq_of_beq this
/-- an indexed family begins -/
theorem m_rdFam {σ : MS} {p c m P la : Nat} (h44 : σ.1 44 = i32 P) (hP : P < 40) (h56 : σ.1 56 = i32 p) (h4 : σ.1 4 = i32 m) (hm : m ≤ 3) (h7 : σ.1 7 = i32 la) (hc1 : 65 ≤ c) (hc2 : c - 65 < m) (hc3 : fxM σ (c - 65) = true) : B_readsType_53 (i32 c) (i32 p) σ = some (0, setA (due (bgn (setF σ 56 (i32 (p + 1))) P (i32 0) (i32 p)) 3 (i32 (la + 51 * (c - 65))) 0 0) 30 P (i32 c)) := by
  have ec : i32 c - 65 = i32 (c - 65) := by rw [z65, z_sub hc1]
  have c30 : ix (i32 P) (aln 30) = true := c_ix (show P < 40 from hP) (by omega)
  have e7 : (setA (bgn (setF σ 56 (i32 (p + 1))) P (i32 0) (i32 p)) 30 P (i32 c)).1 7 = i32 la := by
    rw [setA_n, bgn_o _ _ _ _ (by decide), setF_ne _ _ (by decide)]; exact h7
  unfold B_readsType_53 B_readsType_75
  rw [m_isFamily c (by omega), Option.bind_some]
  dsimp only
  rw [if_pos (show 65 ≤ c ∧ c ≤ 67 by omega), if_neg (show ¬ ((1 : Int32) = 0) from by decide), h4, ec, if_neg (show ¬ (i32 m ≤ i32 (c - 65)) from by rw [z_le (by omega) (by omega)]; omega)]
  unfold B_readsType_76 B_readsType_93
  rw [if_neg (show ¬ (i32 c = 49) from c_eq (b := 49) (by omega) (by omega) (by omega)), if_neg (show ¬ ((1 : Int32) = 0) from by decide), if_neg (show ¬ ((1 : Int32) = 0) from by decide), ec, if_pos (c_ix (show c - 65 < aln 3 by show c - 65 < 3; omega) (by omega)), z_nn (show c - 65 < 2147483648 by omega), if_neg]
  · rw [h56, show i32 p + 1 = i32 (p + 1) from by rw [z1, z_add], show (0 : Int32) = i32 0 from rfl, m_begins (P := P) (i32 0) (i32 p) (by rw [setF_ne _ _ (by decide)]; exact h44) hP, Option.bind_some]
    dsimp only
    rw [bgn_44, z_sub1, if_pos c30, z_nn (show P < 2147483648 by omega), e7, show (51 : Int32) * i32 (c - 65) = i32 (51 * (c - 65)) from by rw [show (51 : Int32) = i32 51 from rfl, z_mul], z_add, m_dueTerm, Option.bind_some]
    rfl
  · intro h0
    unfold fxM at hc3
    have h0' : σ.2.1 3 (c - 65) = 0 := h0
    rw [h0'] at hc3
    simp at hc3
theorem Beg_30 (hw : WL L ents tx) {vt : List Rq} {σ : MS} {p V E T P F d Q : Nat} (x : Int32) (hb : Beg L ents tx vt σ p V E T P F d) : Beg L ents tx vt (setA σ 30 Q x) p V E T P F d := by
  obtain ⟨hv, hs, ⟨d1, d19, d21, d46, d56, d57, dV, dE, dT, dT2, dV0, dE0, dn⟩, h44, hP, hpl, h45, h52, hF⟩ := hb
  have g : GR σ (setA σ 30 Q x) V E T 0 := GR_A _ _ (Or.inr ⟨by decide, by decide, Nat.zero_le _⟩) V E T
  refine ⟨hv, RS_kp hw hs g.1 dV0 dE0 dT g.2.1, ⟨d1, d19, d21, d46, d56, d57, dV, dE, dT, dT2, dV0, dE0, fun k rq hk => ?_⟩, h44, hP, hpl, h45, h52, hF⟩
  rw [setA_ne _ _ (Or.inl (by decide))]
  exact nt_kp (dn k rq hk) g.1 (Nat.le_refl _)
/-- a type of one sign ends -/
theorem CT_leaf (hw : WL L ents tx) {vt : List Rq} {p V E T P F c : Nat} {σ : MS} (hb : Beg L ents tx vt σ p V E T P F 1) (hc : byt tx p = c) (hc' : c = 49 ∨ (65 ≤ c ∧ c - 65 < L.1.length ∧ fxL L (c - 65) = false)) : RunC L ents tx vt σ p V E T P F 1 (.ok (.leaf c, p + 1)) := by
  have hb' := hb
  obtain ⟨hv, hs, hd, h44, hP, hpl, h45, h52, hF⟩ := hb
  have hv10 := hv.1
  have hl := hw.2.2.2.1
  have hl3 := (W34 hw).1
  have hp : p < tx.length := byt_lt (by omega)
  obtain ⟨d1, d19, d21, d46, d56, d57, dV, dE, dT, dT2, dV0, dE0, dn⟩ := hd
  have h4 : σ.1 4 = i32 L.1.length := hs.2.2.1
  obtain ⟨G, rfl⟩ : ∃ G, F = G + 1 := ⟨F - 1, by omega⟩
  have step := rd_type hw hb' hp
  rw [hc, m_rd53 (by omega) d56 (by omega) ⟨_, hv10, d46⟩, m_rdLeaf d56 d1 (by omega) h4 hl3 (by
    rcases hc' with h | ⟨h1, h2, h3⟩
    · exact Or.inl h
    · exact Or.inr ⟨h1, h2, by rw [RS_fx hs _ h2]; exact h3⟩), bind_run] at step
  have gκ : GR σ (pt (setF σ 56 (i32 (p + 1))) T (i32 c)) V E T P := GR_tr (GR_F σ _ (by simp [FR]) V E T P) (pt_GR _ _ _ V E P) (Nat.le_refl _) (Nat.le_refl _) (Nat.le_refl _) (Nat.le_refl _)
  have o : ∀ k, k ≠ 1 → k ≠ 56 → (pt (setF σ 56 (i32 (p + 1))) T (i32 c)).1 k = σ.1 k := fun k a b => by rw [pt_ne _ _ _ a, setF_ne _ _ b]
  have k56 : (pt (setF σ 56 (i32 (p + 1))) T (i32 c)).1 56 = i32 (p + 1) := by rw [pt_ne _ _ _ (by decide)]; exact setF_eq _ _ _
  have k1 := pt_1 (setF σ 56 (i32 (p + 1))) T (i32 c)
  have kT := pt_at (setF σ 56 (i32 (p + 1))) T (i32 c)
  have k32 : (pt (setF σ 56 (i32 (p + 1))) T (i32 c)).2.1 32 = σ.2.1 32 := pt_arr _ _ _ (by decide)
  generalize pt (setF σ 56 (i32 (p + 1))) T (i32 c) = κ at step gκ o k56 k1 kT k32
  have hsκ := RS_kp hw hs gκ.1 dV0 dE0 dT gκ.2.1
  have l1 : ln (.leaf c) = 1 := ln_leaf (by omega)
  have := jnRun (vt := vt) (t := .leaf c) (k := 1) (q := p + 1) (F := G) (V1 := V) (E1 := E) (T1 := T + 1) hw step (Or.inl ⟨rfl, rfl⟩) (by omega) (by omega) (by omega) (by omega) gκ hsκ (by rw [o 44 (by decide) (by decide)]; exact h44) ⟨k1, by rw [o 19 (by decide) (by decide)]; exact d19, by rw [o 21 (by decide) (by decide)]; exact d21, by rw [o 46 (by decide) (by decide)]; exact d46, k56, by rw [o 57 (by decide) (by decide)]; exact d57, by omega, by omega, by omega, by omega, dV0, dE0, fun k rq hk => by rw [k32]; exact nt_kp (dn k rq hk) gκ.1 (by omega)⟩ (by omega) (by omega) (by omega) (by omega) (by omega) (by omega) (show c ≠ 0 ∧ c < 128 ∧ ar (fxM κ) c = 0 from ⟨by omega, by omega, ar0 (by omega) (fun h1 h2 => by
    rcases hc' with h | ⟨_, h3, h4⟩
    · omega
    · rw [RS_fx hsκ _ h3]; exact h4)⟩) (fun _ => kT) (by rw [l1]; omega) dT
  rw [show jn (.leaf c) p (p + 1) = .ok (.leaf c, p + 1) from cif_pos (by rw [l1]; omega) _ _] at this
  exact this
/-- an indexed family -/
theorem CT_fam (hw : WL L ents tx) {rC : RC} {K : Nat} (oC : okC L tx rC) (hC : CC L ents tx rC K) {vt : List Rq} {p V E T P F c : Nat} {I : Tr} {σ : MS} (hb : Beg L ents tx vt σ p V E T P F 1) (hK : 2 * (33 - p) ≤ K + 2) (hc : byt tx p = c) (hc1 : 65 ≤ c) (hI : L.1[c - 65]? = some (some I)) : RunC L ents tx vt σ p V E T P F 1 ((rC vt (I, []) (p + 1)).bind fun t => jn (un c t.1) p t.2) := by
  have hb' := hb
  obtain ⟨hv, hs, hd, h44, hP, hpl, h45, h52, hF⟩ := hb
  have hv10 := hv.1
  have hl := hw.2.2.2.1
  have hl3 := (W34 hw).1
  have hcl := (List.getElem?_eq_some_iff.mp hI).1
  have hp : p < tx.length := byt_lt (by omega)
  obtain ⟨d1, d19, d21, d46, d56, d57, dV, dE, dT, dT2, dV0, dE0, dn⟩ := hd
  have h4 : σ.1 4 = i32 L.1.length := hs.2.2.1
  obtain ⟨la, h7, hla, hfI, hfT⟩ := hs.2.2.2.2.1
  obtain ⟨i1, i2, i3⟩ := hw.1.2.2.1 _ I hI
  have fxc : fxL L (c - 65) = true := by unfold fxL; rw [hI]; rfl
  obtain ⟨G, rfl⟩ : ∃ G, F = G + 1 := ⟨F - 1, by omega⟩
  have step := rd_type hw hb' hp
  rw [hc, m_rd53 (by omega) d56 (by omega) ⟨_, hv10, d46⟩, m_rdFam h44 (by omega) d56 h4 hl3 h7 hc1 hcl (by rw [RS_fx hs _ hcl]; exact fxc), Option.bind_some] at step
  dsimp only at step
  obtain ⟨bc0, g10, p10⟩ := beg_child (s := i32 0) (d' := 0) hw hb' hp (Or.inr ⟨rfl, 3, i32 (la + 51 * (c - 65)), 0, 0, rfl⟩)
  have dp := due_p (bgn (setF σ 56 (i32 (p + 1))) P (i32 0) (i32 p)) 3 (i32 (la + 51 * (c - 65))) 0 0
  generalize due (bgn (setF σ 56 (i32 (p + 1))) P (i32 0) (i32 p)) 3 (i32 (la + 51 * (c - 65))) 0 0 = τ0 at bc0 g10 p10 step dp
  have bc := Beg_30 (Q := P) hw (i32 c) bc0
  have g1 : GR σ (setA τ0 30 P (i32 c)) V E T P := GR_tr g10 (GR_A _ _ (Or.inr ⟨by decide, by decide, Nat.le_refl _⟩) V E T) (Nat.le_refl _) (Nat.le_refl _) (Nat.le_refl _) (Nat.le_refl _)
  have p1 : prt (setA τ0 30 P (i32 c)) P (i32 0) (i32 p) (i32 vt.length) (σ.1 47) (σ.1 48) (σ.1 49) (σ.1 50) := by
    obtain ⟨x1, x2, x3, x4, x5, x6, x7⟩ := p10
    exact ⟨by rw [setA_ne _ _ (Or.inl (by decide))]; exact x1, by rw [setA_ne _ _ (Or.inl (by decide))]; exact x2, by rw [setA_ne _ _ (Or.inl (by decide))]; exact x3, by rw [setA_ne _ _ (Or.inl (by decide))]; exact x4, by rw [setA_ne _ _ (Or.inl (by decide))]; exact x5, by rw [setA_ne _ _ (Or.inl (by decide))]; exact x6, by rw [setA_ne _ _ (Or.inl (by decide))]; exact x7⟩
  have a30 : (setA τ0 30 P (i32 c)).2.1 30 P = i32 c := setA_at _ _ _ _
  have rqI : rqOK L vt (I, []) := ⟨[], i1, enV_nil _ _, i3.2, Nat.zero_le _, i3.1⟩
  have lI : ln I ≤ 50 := i3.1
  have hN : Need L (setA τ0 30 P (i32 c)) V E T vt 3 (I, []) := Or.inr ⟨rfl, dp.2.1, rqI, la + 51 * (c - 65), 0, dp.2.2.1, dp.2.2.2.1, dp.2.2.2.2, kp_fm g1.1 (hfI _ I hI) (by show la + 51 * (c - 65) + ln I ≤ T; omega), by show la + 51 * (c - 65) + ln I ≤ T; omega, rp_id bc.2.1 dV0 dE0 0 (by omega)⟩
  generalize setA τ0 30 P (i32 c) = τ1 at bc g1 p1 step a30 hN
  have run := hC vt (I, []) (p + 1) V E T (P + 1) G τ1 bc hN (by omega)
  cases hr : rC vt (I, []) (p + 1) with
  | error e' =>
    rw [hr] at run
    exact RunE_lift step g1.1 g1.2.1 (Nat.le_refl _) (Nat.le_refl _) (Nat.le_refl _) run
  | ok b =>
    rw [hr] at run
    obtain ⟨y1, y2, y3, y4⟩ := oC vt _ (p + 1) b hv rqI hr
    obtain ⟨F2, υ, V3, E2, T2', u1, u2, ⟨u3, u4, u5, u6, u7, u8, u9, u10, u11, u12, u13, u14⟩, h, u15, u16, u17⟩ := run
    obtain ⟨j1, j19, j21, j46, j56, j57, jV, jE, jT, jT2, jV0, jE0, jn'⟩ := u4
    obtain ⟨G2, rfl⟩ : ∃ G2, F2 = G2 + 1 := ⟨F2 - 1, by omega⟩
    have pυ := prt_fr p1 u11.2.2
    have v30 : υ.2.1 30 P = i32 c := by rw [u11.2.2 30 (by decide) (by decide) P (Nat.lt_succ_self P)]; exact a30
    have step3 := rw_term (F := G2) j57 u12 (by omega) u13
    rw [m_hM0 (by omega) u12 pυ.1, v30, u15, show υ.2.1 24 P = i32 p from pυ.2.1] at step3
    have g2υ : GR τ1 υ V E T P := ⟨u11.1, u11.2.1, fun j h1 h2 i hi => u11.2.2 j h1 h2 i (by omega)⟩
    have gυ : GR σ υ V E T P := GR_tr g1 g2υ (Nat.le_refl _) (Nat.le_refl _) (Nat.le_refl _) (Nat.le_refl _)
    obtain ⟨p46, p47, p48, p49, p50⟩ := agn_p pυ
    have gκ : GR υ (setF (agn υ P) 44 (i32 P)) V3 E2 T2' P := GR_tr (agn_GR _ _ V3 E2 T2' P) (GR_F _ _ (by simp [FR]) V3 E2 T2' P) (Nat.le_refl _) (Nat.le_refl _) (Nat.le_refl _) (Nat.le_refl _)
    have o : ∀ k, k ≠ 44 → (k < 46 ∨ 50 < k) → (setF (agn υ P) 44 (i32 P)).1 k = υ.1 k := fun k a b => by rw [setF_ne _ _ a, agn_o _ _ b]
    have k44 : (setF (agn υ P) 44 (i32 P)).1 44 = i32 P := setF_eq _ _ _
    have k46 : (setF (agn υ P) 44 (i32 P)).1 46 = i32 vt.length := by rw [setF_ne _ _ (by decide)]; exact p46
    have k2 : (setF (agn υ P) 44 (i32 P)).2 = υ.2 := rfl
    generalize setF (agn υ P) 44 (i32 P) = κ at step3 gκ o k44 k46 k2
    have hsκ := RS_kp hw u3 gκ.1 jV0 jE0 jT gκ.2.1
    have fB : fm (κ.2.1 1) b.1 h := kp_fm gκ.1 u16 u17
    have prB := HT_pr (W34 hw).2 (fxM κ) _ _ _ _ y1
    have lB : ln b.1 ≤ 50 := y2.1
    obtain ⟨κ', e1, e2, e3, e4, e5⟩ := m_joined1 (s := c) V3 E2 (by rw [o 1 (by decide) (by omega)]; exact j1) prB fB u17 (by omega)
    rw [e1, Option.bind_some, bind_run] at step3
    have gκ' : GR κ κ' V3 E2 T2' P := ch1_GR e2 e3
    have lj := ln_br c b.1 (.leaf 0)
    rw [ln_0] at lj
    have oκ : ∀ k, k ≠ 1 → κ'.1 k = κ.1 k := fun k hk => e3.1 k (by simp; omega)
    have gf : GR σ κ' V E T P := GR_tr gυ (GR_tr gκ gκ' (Nat.le_refl _) (Nat.le_refl _) (Nat.le_refl _) (Nat.le_refl _)) (by omega) (by omega) (by omega) (Nat.le_refl _)
    have hsκ' := RS_kp hw hsκ gκ'.1 jV0 jE0 jT gκ'.2.1
    refine jnRun (g := T2') (V1 := V3) (E1 := E2) (T1 := T2' + ln (un c b.1)) (F := G2) (f := f_endsType (i32 p) (i32 T2') κ') hw (step.trans (u2.trans step3)) (Or.inl ⟨rfl, rfl⟩) (by omega) (by omega) (by omega) (by omega) gf hsκ' (by rw [oκ 44 (by decide)]; exact k44) ⟨e4, by rw [oκ 19 (by decide), o 19 (by decide) (by omega)]; exact j19, by rw [oκ 21 (by decide), o 21 (by decide) (by omega)]; exact j21, by rw [oκ 46 (by decide)]; exact k46, by rw [oκ 56 (by decide), o 56 (by decide) (by omega)]; exact j56, by rw [oκ 57 (by decide), o 57 (by decide) (by omega)]; exact j57, jV, jE, by omega, by show T2' + ln (.branch c b.1 (.leaf 0)) ≤ _; omega, jV0, jE0, fun k rq' hk => ?_⟩ (by omega) (by omega) (by omega) (by omega) (by omega) (by show T2' + ln (.branch c b.1 (.leaf 0)) ≤ _; omega) ⟨by omega, by omega, Or.inr ⟨?_, HT_pr (W34 hw).2 (fxM κ') _ _ _ _ y1, rfl⟩⟩ e5 (Nat.le_refl _) jT
    · rw [e3.2 32 (by simp), k2]
      exact nt_kp (jn' k rq' hk) (kp_tr gκ.1 gκ'.1 (Nat.le_refl _) (Nat.le_refl _) (Nat.le_refl _)) (by omega)
    · unfold ar
      rw [if_neg (by omega), if_neg (by omega), if_pos ⟨hc1, by omega, by rw [RS_fx hsκ' _ hcl]; exact fxc⟩]
/-- a type: every kind of it -/
theorem CT_s (hw : WL L ents tx) {rT : RT} {rC : RC} {K : Nat} (oT : okT L tx rT) (oC : okC L tx rC) (hT : CT L ents tx rT K) (hC : CC L ents tx rC K) : CT L ents tx (spT L tx rT rC) (K + 1) := by
  intro vt p V E T P F σ hb hK
  have hb' := hb
  obtain ⟨hv, hs, hd, h44, hP, hpl, h45, h52, hF⟩ := hb
  have hv10 := hv.1
  have hl := hw.2.2.2.1
  have hl3 := (W34 hw).1
  unfold spT
  by_cases h1 : (byt tx p = 83 ∨ byt tx p = 80) ∧ vt.length < 10
  · rw [if_pos h1]
    rcases h1.1 with h2 | h2
    · rw [h2]
      exact CT_SP hw oT hT hb' (by omega) (Or.inl ⟨rfl, rfl⟩) h2 h1.2
    · rw [h2]
      exact CT_SP hw oT hT hb' (by omega) (Or.inr ⟨rfl, rfl⟩) h2 h1.2
  rw [if_neg h1]
  by_cases h2 : byt tx p = 49
  · rw [if_pos h2]
    exact CT_leaf hw hb' h2 (Or.inl rfl)
  rw [if_neg h2]
  by_cases h3 : 65 ≤ byt tx p ∧ byt tx p - 65 < L.1.length
  · rw [if_pos h3]
    cases hj : L.1[byt tx p - 65]? with
    | none =>
      have := List.getElem?_eq_none_iff.mp hj
      omega
    | some x =>
      cases x with
      | none =>
        exact CT_leaf hw hb' rfl (Or.inr ⟨h3.1, h3.2, by unfold fxL; rw [hj]; rfl⟩)
      | some I =>
        exact CT_fam hw oC hC hb' (by omega) rfl h3.1 hj
  rw [if_neg h3]
  obtain ⟨G, rfl⟩ : ∃ G, F = G + 1 := ⟨F - 1, by omega⟩
  by_cases hp : p < tx.length
  · obtain ⟨d1, d19, d21, d46, d56, d57, dd⟩ := hd
    have h256 := byt_256 hw hp
    refine E1 (τ := setF σ 57 (i32 p)) (by omega) (by omega) ?_ (setF_eq _ _ _) (kp_setF _ _ _ _ _ _) (ch_setF _ _ (by simp [FR]))
    rw [rd_type hw hb' hp, m_rd53 h256 d56 (fun h => h1 ⟨h.1, by
      obtain ⟨n, hn, e⟩ := h.2
      rw [d46] at e
      have := (z_eq (a := vt.length) (b := n) (by omega) (by omega)) ▸ e
      omega⟩) ⟨_, hv10, d46⟩, m_rdBad h256 d57 hs.2.2.1 hl3 h2 h3, Option.bind_some]
  · exact rd_end hw hb' (by omega)
/-- all readers -/
theorem CRD (hw : WL L ents tx) : ∀ K, CT L ents tx (RD L ents tx K).1 K ∧ CC L ents tx (RD L ents tx K).2.1 K ∧ CI L ents tx (RD L ents tx K).2.2 K := by
  intro K
  induction K with
  | zero =>
    refine ⟨fun vt p V E T P F σ hb hK => ?_, fun vt rq p V E T P F σ hb hN hK => ?_, fun vt rq nd p V E T P F σ hb hN h3 hK => ?_⟩
    · have := hb.2.2.2.2.2.1
      have := hw.2.2.2.1
      omega
    · have := hb.2.2.2.2.2.1
      have := hw.2.2.2.1
      omega
    · have := hb.2.2.2.2.2.1
      have := hw.2.2.2.1
      omega
  | succ K ih =>
    obtain ⟨hT, hC, hI⟩ := ih
    obtain ⟨oT, oC, oI⟩ := okRD (tx := tx) hw.1 hw.2.1 hw.2.2.1 K
    exact ⟨CT_s hw oT oC hT hC, CC_s hw oC hC hI, CI_s hw oT oC oI hT hC hI⟩
end MREAD24
