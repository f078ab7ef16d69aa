section MTELLS
def FT : List Nat := [1, 19, 21, 24, 27]
def AT : List Nat := [1, 11, 12, 13, 16, 17]
def TPre (σ : MS) (B T V E F n W lev : Nat) : Prop := σ.1 27 = i32 0 ∧ σ.1 1 = i32 T ∧ σ.1 19 = i32 V ∧ σ.1 21 = i32 E ∧ B ≤ T ∧ T ≤ B + 50 ∧ B + 60 ≤ 9400 ∧ 60 ≤ F + (T - B) ∧ n ≤ T - B ∧ E + 52 ≤ 120 + (T - B) ∧ V + W ≤ 2400 ∧ lev ≤ 10 ∧ 20 ≤ V ∧ ∀ k, k < 20 → σ.2.2 k = pk 0 k 0 0
def TOk (σ τ : MS) (T V E n W : Nat) (t : Tr) : Prop := ∃ V' E', τ.1 27 = i32 0 ∧ τ.1 1 = i32 (T + ln t) ∧ fm (τ.2.1 1) t T ∧ τ.1 19 = i32 V' ∧ τ.1 21 = i32 E' ∧ V ≤ V' ∧ V' ≤ V + W ∧ E ≤ E' ∧ E' ≤ E + ln t ∧ kp σ τ V E T ∧ ch FT AT σ τ ∧ ∀ i, i < n → τ.2.1 16 i = σ.2.1 16 i ∧ τ.2.1 17 i = σ.2.1 17 i
def TBig (σ τ : MS) (V E T : Nat) : Prop := τ.1 27 = i32 1 ∧ kp σ τ V E T ∧ ch FT AT σ τ
def TRun (σ : MS) (B T V E F n W lev : Nat) (t : Tr) : Prop :=
  (T + ln t ≤ B + 50 ∧ dp t lev → ∃ F' τ, F ≤ F' + ln t ∧ L_tells_17 F (i32 B) (i32 (n + 1)) σ = L_tells_17 F' (i32 B) (i32 n) τ ∧ TOk σ τ T V E n W t)
  ∧ (¬ (T + ln t ≤ B + 50 ∧ dp t lev) → ∃ τ, L_tells_17 F (i32 B) (i32 (n + 1)) σ = some (0, τ) ∧ TBig σ τ V E T)
def TAll (B : Nat) (v t : Tr) (lev : Nat) : Prop := ∀ (σ : MS) (T V E F n q : Nat), TPre σ B T V E F n (wv v) lev → σ.2.1 16 n = i32 q → σ.2.1 17 n = i32 lev → rpM σ V E T false v q → TRun σ B T V E F n (wv v) lev t
/-- a sign put and looked at -/
def sgn (σ : MS) (T c B : Nat) : MS := setF (pt σ T (i32 c)) 27 (bg (T + 1 - B))
theorem sgn_1 (σ : MS) (T c B : Nat) {k : Nat} (h : k ≠ 1) (h2 : k ≠ 27) : (sgn σ T c B).1 k = σ.1 k := by
  simp only [sgn, setF, upd]
  rw [if_neg h2]
  exact pt_ne σ T _ h
theorem sgn_T (σ : MS) (T c B : Nat) : (sgn σ T c B).1 1 = i32 (T + 1) := by
  simp only [sgn, setF, upd]
  rw [if_neg (by decide)]
  exact pt_1 σ T _
theorem sgn_27 (σ : MS) (T c B : Nat) : (sgn σ T c B).1 27 = bg (T + 1 - B) := by simp [sgn, setF, upd]
theorem sgn_kp (σ : MS) (T c B V E : Nat) : kp σ (sgn σ T c B) V E T := kp_tr (pt_kp σ T (i32 c) V E) (kp_setF _ _ _ V E T) (Nat.le_refl _) (Nat.le_refl _) (Nat.le_refl _)
theorem sgn_ch (σ : MS) (T c B : Nat) : ch FT AT σ (sgn σ T c B) := ch_tr (pt_ch σ T _ (by simp [FT]) (by simp [AT])) (ch_setF _ _ (by simp [FT]))
theorem sgn_at (σ : MS) (T c B : Nat) : (sgn σ T c B).2.1 1 T = i32 c := pt_at σ T _
theorem sgn_arr (σ : MS) (T c B : Nat) {j : Nat} (h : j ≠ 1) : (sgn σ T c B).2.1 j = σ.2.1 j := pt_arr σ T _ h
theorem bg0 {x : Nat} (h : x ≤ 50) : bg x = i32 0 := by unfold bg; rw [if_pos h]
theorem bg1 {x : Nat} (h : ¬ x ≤ 50) : bg x = i32 1 := by unfold bg; rw [if_neg h]
theorem psh_kp (σ : MS) (n v lev V E T : Nat) : kp σ (psh σ n v lev) V E T := kp_tr (kp_setA σ n _ V E T (by decide) (by decide) (by decide)) (kp_setA _ n _ V E T (by decide) (by decide) (by decide)) (Nat.le_refl _) (Nat.le_refl _) (Nat.le_refl _)
theorem psh_ch (σ : MS) (n v lev : Nat) : ch FT AT σ (psh σ n v lev) := ch_tr (ch_setA σ _ (by simp [AT])) (ch_setA _ _ (by simp [AT]))
theorem psh_16 (σ : MS) (n v lev : Nat) : (psh σ n v lev).2.1 16 n = i32 v := by
  unfold psh
  rw [setA_ne _ _ (Or.inl (by decide)), setA_at]
theorem psh_17 (σ : MS) (n v lev : Nat) : (psh σ n v lev).2.1 17 n = i32 lev := by
  unfold psh
  rw [setA_at]
theorem psh_lt (σ : MS) {n i : Nat} (v lev : Nat) (h : i < n) : (psh σ n v lev).2.1 16 i = σ.2.1 16 i ∧ (psh σ n v lev).2.1 17 i = σ.2.1 17 i := by
  unfold psh
  rw [setA_ne _ _ (Or.inl (by decide)), setA_ne _ _ (Or.inr (by omega)), setA_ne _ _ (Or.inr (by omega)), setA_ne _ _ (Or.inl (by decide))]
  exact ⟨rfl, rfl⟩
/-- of a value that stands: its long, and the sign that it is told by -/
theorem rp_pk {σ : MS} {V E T q : Nat} {c : Nat} {a b : Tr} (h : rpM σ V E T false (.branch c a b) q) (hV : V ≤ 2400) (hE : E ≤ 120) (hT : T ≤ 9400) : (c = 46 ∧ ∃ p r, σ.2.2 q = pk 2 p r 0 ∧ p < 2400 ∧ r < 2400 ∧ rpM σ V E T false a p ∧ rpM σ V E T false b r) ∨ (c = 44 ∧ ∃ p r, σ.2.2 q = pk 5 p r 0 ∧ p < 2400 ∧ r < 2400 ∧ rpM σ V E T false a p ∧ rpM σ V E T false b r) ∨ (c = 60 ∧ b = .leaf 0 ∧ ∃ p, σ.2.2 q = pk 3 p 0 0 ∧ p < 2400 ∧ rpM σ V E T false a p) ∨ (c = 62 ∧ b = .leaf 0 ∧ ∃ p, σ.2.2 q = pk 4 p 0 0 ∧ p < 2400 ∧ rpM σ V E T false a p) ∨ (c = 92 ∧ ∃ p e l, σ.2.2 q = pk 7 p e l ∧ p < 9400 ∧ e < 120 ∧ l < 10 ∧ ln a ≤ 49) := by
  rcases h.2 with ⟨h1, p, r, h2, h3, h4⟩ | ⟨h1, p, r, h2, h3, h4⟩ | ⟨h1, hb, p, h2, h3⟩ | ⟨h1, hb, p, h2, h3⟩ | ⟨h1, p, e, h2, h3, h4, h5, h6, h7, h7', h8⟩
  · exact Or.inl ⟨h1, p, r, h2, by have := rp_V h3; omega, by have := rp_V h4; omega, h3, h4⟩
  · exact Or.inr (Or.inl ⟨h1, p, r, h2, by have := rp_V h3; omega, by have := rp_V h4; omega, h3, h4⟩)
  · exact Or.inr (Or.inr (Or.inl ⟨h1, hb, p, h2, by have := rp_V h3; omega, h3⟩))
  · exact Or.inr (Or.inr (Or.inr (Or.inl ⟨h1, hb, p, h2, by have := rp_V h3; omega, h3⟩)))
  · exact Or.inr (Or.inr (Or.inr (Or.inr ⟨h1, p, e, _, h2, by have := pr_pos h4; omega, by have := rp_E _ _ h8; omega, h7, h6⟩)))
theorem TBig_of {σ τ υ : MS} {V E T V' E' T' : Nat} (k : kp σ τ V E T) (c : ch FT AT σ τ) (h : TBig τ υ V' E' T') (hV : V ≤ V') (hE : E ≤ E') (hT : T ≤ T') : TBig σ υ V E T := ⟨h.1, kp_tr k h.2.1 hV hE hT, ch_tr c h.2.2⟩
/-- the sign of a value is told, whichever -/
theorem T_sign {B T V E F n W lev q s a b l c : Nat} {σ : MS} (hp : TPre σ B T V E F n W lev) (h1 : σ.2.1 16 n = i32 q) (h2 : σ.2.1 17 n = i32 lev) (hq : q < 2400) (h : σ.2.2 q = pk s a b l) (ha : a < 65536) (hb : b < 65536) (hl : l < 65536) (hs : (s = 0 ∧ a < 10 ∧ c = 48 + a) ∨ (s = 1 ∧ c = a) ∨ (s = 2 ∧ c = 46) ∨ (s = 3 ∧ c = 60) ∨ (s = 4 ∧ c = 62) ∨ (s = 5 ∧ c = 44) ∨ (s = 6 ∧ c = 42)) : f_tellsSign (i32 q) (i32 lev) σ = some (0, pt σ T (i32 c)) ∧ f_checks (i32 B) (pt σ T (i32 c)) = some (0, sgn σ T c B) ∧ (T = B + 50 → ∃ τ, L_tells_17 F (i32 B) (i32 (n + 1)) σ = some (0, τ) ∧ TBig σ τ V E T) := by
  obtain ⟨p1, p2, p3, p4, p5, p6, p7, p8, p9, p10, p11, p12, p13, p14⟩ := hp
  have e1 := m_sign (lev := lev) hq h ha hb hl p2 (by omega) p1 hs
  have e2 : f_checks (i32 B) (pt σ T (i32 c)) = some (0, sgn σ T c B) := m_checks0 (by rw [pt_ne _ _ _ (by decide)]; exact p1) (pt_1 _ _ _) (by omega) (by omega)
  refine ⟨e1, e2, fun hbig => ?_⟩
  obtain ⟨G, rfl⟩ : ∃ G, F = (G + 1) + 1 := ⟨F - 2, by omega⟩
  have h27 : (sgn σ T c B).1 27 = i32 1 := by rw [sgn_27, bg1 (by omega)]
  refine ⟨sgn σ T c B, ?_, h27, sgn_kp _ _ _ _ _ _, sgn_ch _ _ _ _⟩
  rw [tells_over (by omega) p1 h1 h2 hq h (by omega) ha hb hl e1 rfl e2 rfl h27, tells_big _ _ h27]
theorem TR_leaf {B c lev : Nat} (hcc : c < 58 ∨ 97 ≤ c) : TAll B (.leaf c) (.leaf c) lev := by
  intro σ T V E F n q hp h1 h2 hr
  have hp' := hp
  obtain ⟨p1, p2, p3, p4, p5, p6, p7, p8, p9, p10, p11, p12, p13, p14⟩ := hp
  have hq := rp_V hr
  have key : ∃ s a, σ.2.2 q = pk s a 0 0 ∧ a < 65536 ∧ ((s = 0 ∧ a < 10 ∧ c = 48 + a) ∨ (s = 1 ∧ c = a) ∨ (s = 6 ∧ c = 42)) := by
    rcases hr.2 with ⟨g1, g2, g3⟩ | ⟨g1, g2, g3⟩ | ⟨g1, g3⟩
    · exact ⟨0, c - 48, g3, by omega, Or.inl ⟨rfl, by omega, by omega⟩⟩
    · exact ⟨1, c, g3, by omega, Or.inr (Or.inl ⟨rfl, rfl⟩)⟩
    · exact ⟨6, 0, g3, by omega, Or.inr (Or.inr ⟨rfl, g1⟩)⟩
  obtain ⟨s, a, g1, g2, g3⟩ := key
  have hc0 : c ≠ 0 := by rcases hr.2 with ⟨g1, g2, g3⟩ | ⟨g1, g2, g3⟩ | ⟨g1, g3⟩ <;> omega
  have hln : ln (.leaf c) = 1 := ln_leaf hc0
  obtain ⟨e1, e2, e3⟩ := T_sign (c := c) hp' h1 h2 (by omega) g1 g2 (by omega) (by omega) (by omega)
  obtain ⟨G, rfl⟩ : ∃ G, F = G + 1 := ⟨F - 1, by omega⟩
  constructor
  · rintro ⟨hf, _⟩
    rw [hln] at hf
    refine ⟨G, sgn σ T c B, by omega, tells_leaf (by omega) p1 h1 h2 (by omega) g1 (by omega) g2 (by omega) (by omega) e1 rfl e2 rfl (by rw [sgn_27, bg0 (by omega)]), V, E, by rw [sgn_27, bg0 (by omega)], by rw [hln]; exact sgn_T _ _ _ _, fun _ => sgn_at _ _ _ _, by rw [sgn_1 _ _ _ _ (by decide) (by decide)]; exact p3, by rw [sgn_1 _ _ _ _ (by decide) (by decide)]; exact p4, Nat.le_refl _, by omega, Nat.le_refl _, by omega, sgn_kp _ _ _ _ _ _, sgn_ch _ _ _ _, fun i _ => ⟨by rw [sgn_arr _ _ _ _ (by decide)], by rw [sgn_arr _ _ _ _ (by decide)]⟩⟩
  · intro hf
    exact e3 (by
      have : ¬ (T + 1 ≤ B + 50) := fun h => hf ⟨by rw [hln]; exact h, trivial⟩
      omega)
theorem TR_un {B c lev : Nat} {a ta : Tr} (hc : c = 60 ∨ c = 62) (ih : TAll B a ta lev) : TAll B (un c a) (un c ta) lev := by
  intro σ T V E F n q hp h1 h2 hr
  have hp' := hp
  have hwv : wv (un c a) = wv a := by rw [un, wv, if_neg (by omega)]; rfl
  rw [hwv] at hp hp' ⊢
  obtain ⟨p1, p2, p3, p4, p5, p6, p7, p8, p9, p10, p11, p12, p13, p14⟩ := hp
  have hq := rp_V hr
  have key : ∃ s p, σ.2.2 q = pk s p 0 0 ∧ p < 2400 ∧ rpM σ V E T false a p ∧ ((s = 3 ∧ c = 60) ∨ (s = 4 ∧ c = 62)) := by
    rcases rp_pk hr (by omega) (by omega) (by omega) with ⟨h, _⟩ | ⟨h, _⟩ | ⟨h, _, p, g1, g2, g3⟩ | ⟨h, _, p, g1, g2, g3⟩ | ⟨h, _⟩
    · omega
    · omega
    · exact ⟨3, p, g1, g2, g3, Or.inl ⟨rfl, h⟩⟩
    · exact ⟨4, p, g1, g2, g3, Or.inr ⟨rfl, h⟩⟩
    · omega
  obtain ⟨s, p, g1, g2, g3, g4⟩ := key
  have hln : ln (un c ta) = 1 + ln ta := by rw [un, ln_br, ln_0]; rfl
  have hdp : dp (un c ta) lev ↔ dp ta lev := by rcases hc with rfl | rfl <;> simp [un, dp]
  obtain ⟨e1, e2, e3⟩ := T_sign (c := c) hp' h1 h2 (by omega) g1 (by omega) (by omega) (by omega) (by omega)
  rw [TRun, hln, hdp]
  by_cases hT : T = B + 50
  · exact ⟨fun h => by omega, fun _ => e3 hT⟩
  obtain ⟨G, rfl⟩ : ∃ G, F = G + 1 := ⟨F - 1, by omega⟩
  have h270 : (sgn σ T c B).1 27 = i32 0 := by rw [sgn_27, bg0 (by omega)]
  have step := tells_un (F := G) (B := B) (by omega) p1 h1 h2 (by omega) g1 (by omega) (by omega) (by omega) (by omega) e1 rfl e2 rfl h270
  have kk : kp σ (psh (sgn σ T c B) n p lev) V E T := kp_tr (sgn_kp _ _ _ _ _ _) (psh_kp _ _ _ _ _ _ _) (Nat.le_refl _) (Nat.le_refl _) (Nat.le_refl _)
  have cc : ch FT AT σ (psh (sgn σ T c B) n p lev) := ch_tr (sgn_ch _ _ _ _) (psh_ch _ _ _ _)
  have run := ih (psh (sgn σ T c B) n p lev) (T + 1) V E G n p ⟨by rw [psh_1]; exact h270, by rw [psh_1]; exact sgn_T _ _ _ _, by rw [psh_1, sgn_1 _ _ _ _ (by decide) (by decide)]; exact p3, by rw [psh_1, sgn_1 _ _ _ _ (by decide) (by decide)]; exact p4, by omega, by omega, p7, by omega, by omega, by omega, p11, p12, p13, p14⟩ (psh_16 _ _ _ _) (psh_17 _ _ _ _) (rp_kp kk (Nat.le_refl _) (Nat.le_refl _) (by omega) _ _ _ g3)
  constructor
  · rintro ⟨hf, hd⟩
    obtain ⟨F', τ, r1, r2, V', E', r3, r4, r5, r6, r7, r8, r9, r10, r11, r12, r13, r14⟩ := run.1 ⟨by omega, hd⟩
    refine ⟨F', τ, by omega, by rw [step, r2], V', E', r3, by rw [r4, hln]; congr 1; omega, ⟨?_, r5, fun h => absurd rfl h⟩, r6, r7, r8, r9, r10, by rw [hln]; omega, kp_tr kk (kp_le r12 (Nat.le_refl _) (Nat.le_refl _) (by omega)) (Nat.le_refl _) (Nat.le_refl _) (Nat.le_refl _), ch_tr cc r13, fun i hi => ?_⟩
    · rw [r12.2.2.1 T (by omega)]
      show (psh (sgn σ T c B) n p lev).2.1 1 T = _
      rw [show (psh (sgn σ T c B) n p lev).2.1 1 = (sgn σ T c B).2.1 1 from rfl]
      exact sgn_at _ _ _ _
    · rw [(r14 i hi).1, (r14 i hi).2, (psh_lt _ _ _ hi).1, (psh_lt _ _ _ hi).2, sgn_arr _ _ _ _ (by decide), sgn_arr _ _ _ _ (by decide)]
      exact ⟨rfl, rfl⟩
  · intro hf
    obtain ⟨τ, r1, r2⟩ := run.2 (fun h => hf ⟨by omega, h.2⟩)
    exact ⟨τ, by rw [step, r1], TBig_of kk cc r2 (Nat.le_refl _) (Nat.le_refl _) (by omega)⟩
end MTELLS
