section MTOLD
theorem TR_bin {B c lev : Nat} {a b ta tb : Tr} (hc : c = 46 ∨ c = 44) (iha : TAll B a ta lev) (ihb : TAll B b tb lev) : TAll B (.branch c a b) (.branch c ta tb) lev := by
  intro σ T V E F n q hp h1 h2 hr
  have hp' := hp
  have hwv : wv (.branch c a b) = wv a + wv b := by rw [wv, if_neg (by omega)]
  rw [hwv] at hp hp' ⊢
  obtain ⟨p1, p2, p3, p4, p5, p6, p7, p8, p9, p10, p11, p12, p13, p14⟩ := hp
  have hq := rp_V hr
  have hq2 : q < 2400 := by omega
  have key : ∃ s p r, σ.2.2 q = pk s p r 0 ∧ p < 2400 ∧ r < 2400 ∧ rpM σ V E T false a p ∧ rpM σ V E T false b r ∧ ((s = 2 ∧ c = 46) ∨ (s = 5 ∧ c = 44)) := by
    rcases rp_pk hr (by omega) (by omega) (by omega) with ⟨h, p, r, g⟩ | ⟨h, p, r, g⟩ | ⟨h, _⟩ | ⟨h, _⟩ | ⟨h, _⟩
    · exact ⟨2, p, r, g.1, g.2.1, g.2.2.1, g.2.2.2.1, g.2.2.2.2, Or.inl ⟨rfl, h⟩⟩
    · exact ⟨5, p, r, g.1, g.2.1, g.2.2.1, g.2.2.2.1, g.2.2.2.2, Or.inr ⟨rfl, h⟩⟩
    · omega
    · omega
    · omega
  obtain ⟨s, p, r, g1, g2, g2', g3, g3', g4⟩ := key
  have hln : ln (.branch c ta tb) = 1 + ln ta + ln tb := ln_br _ _ _
  have hdp : dp (.branch c ta tb) lev ↔ dp ta lev ∧ dp tb lev := by rcases hc with rfl | rfl <;> simp [dp]
  obtain ⟨e1, e2, e3⟩ := T_sign (c := c) hp' h1 h2 hq2 g1 (by omega) (by omega) (by omega) (by omega)
  rw [TRun, hln, hdp]
  by_cases hT : T = B + 50
  · exact ⟨fun h => by omega, fun _ => e3 hT⟩
  obtain ⟨G, rfl⟩ : ∃ G, F = G + 1 := ⟨F - 1, by omega⟩
  have h270 : (sgn σ T c B).1 27 = i32 0 := by rw [sgn_27, bg0 (by omega)]
  have step := tells_bin (F := G) (B := B) (by omega) p1 h1 h2 hq2 g1 (by omega) (by omega) (by omega) (by omega) e1 rfl e2 rfl h270
  generalize hσ1 : psh (psh (sgn σ T c B) n r lev) (n + 1) p lev = σ1 at step
  have kk : kp σ σ1 V E T := by
    rw [← hσ1]
    exact kp_tr (sgn_kp _ _ _ _ _ _) (kp_tr (psh_kp _ _ _ _ _ _ _) (psh_kp _ _ _ _ _ _ _) (Nat.le_refl _) (Nat.le_refl _) (Nat.le_refl _)) (Nat.le_refl _) (Nat.le_refl _) (Nat.le_refl _)
  have cc : ch FT AT σ σ1 := by
    rw [← hσ1]
    exact ch_tr (sgn_ch _ _ _ _) (ch_tr (psh_ch _ _ _ _) (psh_ch _ _ _ _))
  have f27 : σ1.1 27 = i32 0 := by rw [← hσ1]; exact h270
  have f1 : σ1.1 1 = i32 (T + 1) := by rw [← hσ1]; exact sgn_T σ T c B
  have f19 : σ1.1 19 = i32 V := by rw [← hσ1, psh_1, psh_1, sgn_1 _ _ _ _ (by decide) (by decide)]; exact p3
  have f21 : σ1.1 21 = i32 E := by rw [← hσ1, psh_1, psh_1, sgn_1 _ _ _ _ (by decide) (by decide)]; exact p4
  have fT : σ1.2.1 1 T = i32 c := by rw [← hσ1]; exact sgn_at σ T c B
  have f16 : σ1.2.1 16 (n + 1) = i32 p := by rw [← hσ1]; exact psh_16 _ _ _ _
  have f17 : σ1.2.1 17 (n + 1) = i32 lev := by rw [← hσ1]; exact psh_17 _ _ _ _
  have g16 : σ1.2.1 16 n = i32 r ∧ σ1.2.1 17 n = i32 lev := by
    rw [← hσ1, (psh_lt _ _ _ (Nat.lt_succ_self n)).1, (psh_lt _ _ _ (Nat.lt_succ_self n)).2]
    exact ⟨psh_16 _ _ _ _, psh_17 _ _ _ _⟩
  have glt : ∀ i, i < n → σ1.2.1 16 i = σ.2.1 16 i ∧ σ1.2.1 17 i = σ.2.1 17 i := by
    intro i hi
    rw [← hσ1, (psh_lt _ _ _ (show i < n + 1 by omega)).1, (psh_lt _ _ _ (show i < n + 1 by omega)).2, (psh_lt _ _ _ hi).1, (psh_lt _ _ _ hi).2, sgn_arr _ _ _ _ (by decide), sgn_arr _ _ _ _ (by decide)]
    exact ⟨rfl, rfl⟩
  have nms : ∀ k, k < 20 → σ1.2.2 k = pk 0 k 0 0 := fun k hk => by rw [kk.1 k (by omega)]; exact p14 k hk
  have run := iha σ1 (T + 1) V E G (n + 1) p ⟨f27, f1, f19, f21, by omega, by omega, p7, by omega, by omega, by omega, by omega, p12, p13, nms⟩ f16 f17 (rp_kp kk (Nat.le_refl _) (Nat.le_refl _) (by omega) _ _ _ g3)
  by_cases hfa : T + 1 + ln ta ≤ B + 50 ∧ dp ta lev
  · obtain ⟨F', τ, r1, r2, V', E', r3, r4, r5, r6, r7, r8, r9, r10, r11, r12, r13, r14⟩ := run.1 hfa
    have kτ : kp σ τ V E T := kp_tr kk (kp_le r12 (Nat.le_refl _) (Nat.le_refl _) (by omega)) (Nat.le_refl _) (Nat.le_refl _) (Nat.le_refl _)
    have cτ : ch FT AT σ τ := ch_tr cc r13
    have run2 := ihb τ (T + 1 + ln ta) V' E' F' n r ⟨r3, r4, r6, r7, by omega, by omega, p7, by omega, by omega, by omega, by omega, p12, by omega, fun k hk => by rw [kτ.1 k (by omega)]; exact p14 k hk⟩ (by rw [(r14 n (Nat.lt_succ_self n)).1]; exact g16.1) (by rw [(r14 n (Nat.lt_succ_self n)).2]; exact g16.2) (rp_kp kτ r8 r10 (by omega) _ _ _ g3')
    constructor
    · rintro ⟨hf, hd⟩
      obtain ⟨F2, υ, s1, s2, V2, E2, s3, s4, s5, s6, s7, s8, s9, s10, s11, s12, s13, s14⟩ := run2.1 ⟨by omega, hd.2⟩
      refine ⟨F2, υ, by omega, by rw [step, r2, s2], V2, E2, s3, by rw [s4, hln]; congr 1; omega, ⟨?_, kp_fm s12 r5 (by omega), ?_⟩, s6, s7, by omega, by omega, by omega, by rw [hln]; omega, kp_tr kτ (kp_le s12 (Nat.le_refl _) (Nat.le_refl _) (by omega)) r8 r10 (Nat.le_refl _), ch_tr cτ s13, fun i hi => ?_⟩
      · rw [s12.2.2.1 T (by omega), r12.2.2.1 T (by omega)]; exact fT
      · exact s5
      · rw [(s14 i hi).1, (s14 i hi).2, (r14 i (by omega)).1, (r14 i (by omega)).2]; exact glt i hi
    · intro hf
      obtain ⟨υ, s1, s2⟩ := run2.2 (fun h => hf ⟨by omega, hfa.2, h.2⟩)
      exact ⟨υ, by rw [step, r2, s1], TBig_of kτ cτ s2 r8 r10 (by omega)⟩
  · constructor
    · rintro ⟨hf, hd⟩
      exact absurd ⟨by omega, hd.1⟩ hfa
    · intro hf
      obtain ⟨τ, r1, r2⟩ := run.2 hfa
      exact ⟨τ, by rw [step, r1], TBig_of kk cc r2 (Nat.le_refl _) (Nat.le_refl _) (by omega)⟩
/-- data, and what is left -/
theorem TN {L : Lw} {B : Nat} : ∀ (v : Tr) (N : List Tr) (m : Bool) (s : Tr) (lev : Nat), HT L v N m s → (m = true → dta s) → TAll B v v lev := by
  intro v
  induction v with
  | leaf c =>
    intro N m s lev h _
    refine TR_leaf ?_
    simp only [HT] at h
    rcases h with ⟨_, h, _⟩ | ⟨_, h⟩
    · omega
    · unfold hdS at h
      split at h
      · omega
      · split at h
        · omega
        · simp at h
  | branch c a b iha ihb =>
    intro N m s lev h hd
    simp only [HT] at h
    rcases h with ⟨h1, h2, x, y, h3, h4, h5⟩ | ⟨h1, h2, h3, x, y, h4, h5, h6⟩ | ⟨h0, ⟨h1, x, h2, h3, h4⟩ | ⟨h1, h2, y, h3⟩ | ⟨h1, h2, x, h3⟩⟩
    · have hd' := hd h1
      rw [h3] at hd'
      exact TR_bin (Or.inr h2) (iha _ _ _ _ h4 (fun _ => hd'.2.1)) (ihb _ _ _ _ h5 (fun _ => hd'.2.2))
    · rw [h4] at hd
      exact absurd (hd h1).1 (by decide)
    · exact TR_bin (Or.inl h1) (iha _ _ _ _ h3 (fun h => by simp at h)) (ihb _ _ _ _ h4 (fun _ => h2))
    · subst h2; exact TR_un (Or.inl h1) (iha _ _ _ _ h3 (fun h => by simp at h))
    · subst h2; exact TR_un (Or.inr h1) (iha _ _ _ _ h3 (fun h => by simp at h))
theorem TR_fun {L : Lw} (hL : L.2.length ≤ 4) {N : List Tr} {B lev : Nat} {v x y t : Tr} (hc : clo L N v x y) (ih : lev < 10 → TAll B (gvD v (nm lev)) t (lev + 1)) : TAll B v (un 92 t) lev := by
  intro σ T V E F n q hp h1 h2 hr
  have hp' := hp
  obtain ⟨p1, p2, p3, p4, p5, p6, p7, p8, p9, p10, p11, p12, p13, p14⟩ := hp
  have hq := rp_V hr
  have hq2 : q < 2400 := by omega
  have key : ∃ p e l, σ.2.2 q = pk 7 p e l ∧ p < 9400 ∧ e < 120 ∧ l < 10 := by
    obtain ⟨b, ρ, Γ, heq, _⟩ := hc
    subst heq
    rcases rp_pk hr (by omega) (by omega) (by omega) with ⟨h, _⟩ | ⟨h, _⟩ | ⟨h, _⟩ | ⟨h, _⟩ | ⟨_, p, e, l, g⟩
    · simp at h
    · simp at h
    · simp at h
    · simp at h
    · exact ⟨p, e, l, g.1, g.2.1, g.2.2.1, g.2.2.2.1⟩
  obtain ⟨p, e, l, g1, g2, g3, g4⟩ := key
  have hln : ln (un 92 t) = 1 + ln t := by rw [un, ln_br, ln_0]; rfl
  have hdp : dp (un 92 t) lev ↔ lev < 10 ∧ dp t (lev + 1) := by simp [un, dp]
  have e1 := m_signF hq2 g1 (by omega) (by omega) (by omega) p2 (by omega) p1 (show lev < 100 by omega)
  rw [TRun, hln, hdp]
  obtain ⟨G, rfl⟩ : ∃ G, F = (G + 1) + 1 := ⟨F - 2, by omega⟩
  by_cases hlev : lev < 10
  · rw [if_pos hlev, setF_id σ p1] at e1
    have e2 : f_checks (i32 B) (pt σ T (i32 92)) = some (0, sgn σ T 92 B) := m_checks0 (by rw [pt_ne _ _ _ (by decide)]; exact p1) (pt_1 _ _ _) (by omega) (by omega)
    by_cases hT : T = B + 50
    · refine ⟨fun h => by omega, fun _ => ?_⟩
      have h27 : (sgn σ T 92 B).1 27 = i32 1 := by rw [sgn_27, bg1 (by omega)]
      refine ⟨sgn σ T 92 B, ?_, h27, sgn_kp _ _ _ _ _ _, sgn_ch _ _ _ _⟩
      rw [tells_over (by omega) p1 h1 h2 hq2 g1 (by omega) (by omega) (by omega) (by omega) e1 rfl e2 rfl h27, tells_big _ _ h27]
    · have h270 : (sgn σ T 92 B).1 27 = i32 0 := by rw [sgn_27, bg0 (by omega)]
      have f19 : (sgn σ T 92 B).1 19 = i32 V := by rw [sgn_1 _ _ _ _ (by decide) (by decide)]; exact p3
      have f21 : (sgn σ T 92 B).1 21 = i32 E := by rw [sgn_1 _ _ _ _ (by decide) (by decide)]; exact p4
      have ks := sgn_kp σ T 92 B V E
      have hnm : rpM (sgn σ T 92 B) V E T false (nm lev) lev := ⟨by omega, Or.inl ⟨by omega, by omega, by rw [ks.1 lev (by omega), p14 lev (by omega)]; congr 1; omega⟩⟩
      obtain ⟨hw, w, ω, V1, k1, k2, k3, k4, k5, k6, k7, k8⟩ := m_gives1 (T := T) hL hc (show wv (nm lev) = 0 from rfl) (rp_kp ks (Nat.le_refl _) (Nat.le_refl _) (Nat.le_refl _) _ _ _ hr) hnm f19 p11 f21 (by omega) (by omega)
      have step := tells_fun (F := G + 1) (B := B) (by omega) p1 h1 h2 hq2 g1 (by omega) (by omega) (by omega) (by omega) e1 rfl e2 rfl h270 k1
      generalize hσ1 : psh ω n w (lev + 1) = σ1 at step
      have kω : kp σ ω V E T := kp_tr ks k7 (Nat.le_refl _) (Nat.le_refl _) (Nat.le_refl _)
      have kk : kp σ σ1 V E T := by
        rw [← hσ1]
        exact kp_tr kω (psh_kp _ _ _ _ _ _ _) (Nat.le_refl _) (Nat.le_refl _) (Nat.le_refl _)
      have cω : ch FT AT σ ω := ch_tr (sgn_ch _ _ _ _) (ch_mo k8 (by simp [FT]) (by simp [AT]))
      have cc : ch FT AT σ σ1 := by
        rw [← hσ1]
        exact ch_tr cω (psh_ch _ _ _ _)
      have ω1 : ω.2.1 1 = (sgn σ T 92 B).2.1 1 := k8.2 1 (by simp)
      have f27 : σ1.1 27 = i32 0 := by rw [← hσ1, psh_1, k8.1 27 (by simp)]; exact h270
      have f1 : σ1.1 1 = i32 (T + 1) := by rw [← hσ1, psh_1, k8.1 1 (by simp)]; exact sgn_T _ _ _ _
      have fT : σ1.2.1 1 T = i32 92 := by
        rw [← hσ1]
        show ω.2.1 1 T = _
        rw [ω1]; exact sgn_at _ _ _ _
      have glt : ∀ i, i < n → σ1.2.1 16 i = σ.2.1 16 i ∧ σ1.2.1 17 i = σ.2.1 17 i := by
        intro i hi
        rw [← hσ1, (psh_lt _ _ _ hi).1, (psh_lt _ _ _ hi).2, k8.2 16 (by simp), k8.2 17 (by simp), sgn_arr _ _ _ _ (by decide), sgn_arr _ _ _ _ (by decide)]
        exact ⟨rfl, rfl⟩
      have nms : ∀ k, k < 20 → σ1.2.2 k = pk 0 k 0 0 := fun k hk => by rw [kk.1 k (by omega)]; exact p14 k hk
      have krep : rpM σ1 V1 (E + 1) (T + 1) false (gvD v (nm lev)) w := by
        rw [← hσ1]
        exact rp_kp (psh_kp ω n w (lev + 1) V1 (E + 1) T) (Nat.le_refl _) (Nat.le_refl _) (by omega) _ _ _ k6
      have run := ih hlev σ1 (T + 1) V1 (E + 1) (G + 1) n w ⟨f27, f1, by rw [← hσ1]; exact k2, by rw [← hσ1]; exact k3, by omega, by omega, p7, by omega, by omega, by omega, by omega, by omega, by omega, nms⟩ (by rw [← hσ1]; exact psh_16 _ _ _ _) (by rw [← hσ1]; exact psh_17 _ _ _ _) krep
      constructor
      · rintro ⟨hf, _, hd⟩
        obtain ⟨F', τ, r1, r2, V', E', r3, r4, r5, r6, r7, r8, r9, r10, r11, r12, r13, r14⟩ := run.1 ⟨by omega, hd⟩
        refine ⟨F', τ, by omega, by rw [step, r2], V', E', r3, by rw [r4, hln]; congr 1; omega, ⟨?_, r5, fun h => absurd rfl h⟩, r6, r7, by omega, by omega, by omega, by rw [hln]; omega, kp_tr kk (kp_le r12 k4 (by omega) (by omega)) (Nat.le_refl _) (Nat.le_refl _) (Nat.le_refl _), ch_tr cc r13, fun i hi => ?_⟩
        · rw [r12.2.2.1 T (by omega)]; exact fT
        · rw [(r14 i hi).1, (r14 i hi).2]; exact glt i hi
      · intro hf
        obtain ⟨τ, r1, r2⟩ := run.2 (fun h => hf ⟨by omega, hlev, h.2⟩)
        exact ⟨τ, by rw [step, r1], TBig_of kk cc r2 k4 (by omega) (by omega)⟩
  · rw [if_neg hlev] at e1
    refine ⟨fun h => absurd h.2.1 hlev, fun _ => ?_⟩
    have e27 : (pt (setF σ 27 (i32 1)) T (i32 92)).1 27 = i32 1 := by rw [pt_ne _ _ _ (by decide)]; simp [setF, upd]
    have e2 := m_checks1 (i32 B) e27
    refine ⟨_, ?_, e27, kp_tr (kp_setF σ 27 _ V E T) (pt_kp _ _ _ _ _) (Nat.le_refl _) (Nat.le_refl _) (Nat.le_refl _), ch_tr (ch_setF σ _ (by simp [FT])) (pt_ch _ _ _ (by simp [FT]) (by simp [AT]))⟩
    rw [tells_over (by omega) p1 h1 h2 hq2 g1 (by omega) (by omega) (by omega) (by omega) e1 rfl e2 rfl e27, tells_big _ _ e27]
/-- long values -/
theorem TR {L : Lw} (hL : L.2.length ≤ 4) {B : Nat} : ∀ (s v : Tr) (N : List Tr) (lev : Nat), N.length = lev → RV L N s v → TAll B v (qs s v lev) lev := by
  intro s
  induction s with
  | leaf f =>
    intro v N lev _ h
    exact TN v N true _ lev (RV_HT (.leaf f) v trivial h) (fun _ => trivial)
  | branch s x y ihx ihy =>
    intro v N lev hN h
    rcases h with ⟨h1, a, b, h2, h3, h4⟩ | ⟨h1, h2⟩
    · subst h1 h2
      have : qs (.branch 83 x y) (.branch 44 a b) lev = .branch 44 (qs x a lev) (qs y b lev) := by simp [qs, fstV, sndV]
      rw [this]
      exact TR_bin (Or.inr rfl) (ihx _ _ _ hN h3) (ihy _ _ _ hN h4)
    · subst h1
      have : qs (.branch 80 x y) v lev = un 92 (qs y (gvD v (nm lev)) (lev + 1)) := by simp [qs]
      rw [this]
      exact TR_fun hL h2 (fun hlev => ihy _ (N ++ [x]) _ (by simp [hN]) (clo_gv (clo_wk [x] h2) (HT_EF (HT_nm hN hlev))))
end MTOLD
