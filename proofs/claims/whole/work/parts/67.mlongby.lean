section MLONGBY
def AL : List Nat := [1, 11, 12, 13, 16, 17, 19, 20, 21, 22]
def LPre (σ : MS) (B T V E F m n w : Nat) : Prop := σ.1 27 = i32 0 ∧ σ.1 1 = i32 T ∧ σ.1 19 = i32 V ∧ σ.1 21 = i32 E ∧ B ≤ T ∧ T ≤ B + 50 ∧ B + 60 ≤ 9400 ∧ 60 + w ≤ F ∧ m ≤ T - B ∧ E ≤ 68 + (T - B) ∧ V + 4 * w ≤ 2400 ∧ n ≤ 10 ∧ 20 ≤ V ∧ ∀ k, k < 20 → σ.2.2 k = pk 0 k 0 0
def LOk (σ τ : MS) (T V E m w : Nat) (t : Tr) : Prop := ∃ V' E', τ.1 27 = i32 0 ∧ τ.1 1 = i32 (T + ln t) ∧ fm (τ.2.1 1) t T ∧ τ.1 19 = i32 V' ∧ τ.1 21 = i32 E' ∧ V ≤ V' ∧ V' ≤ V + 4 * w ∧ E ≤ E' ∧ E' ≤ E + ln t ∧ kp σ τ V E T ∧ ch FY AL σ τ ∧ ∀ i, i < m → τ.2.1 21 i = σ.2.1 21 i ∧ τ.2.1 22 i = σ.2.1 22 i
theorem lnx_big {F : Nat} (x4 x5 x6 p v n : Int32) {σ : MS} (m : Nat) (h : σ.1 27 = i32 1) : lnx (F + 1) x4 x5 x6 p v n σ m = B_longBy_290 x4 x5 x6 σ := by
  cases m with
  | zero => exact lo_end _ _ _ _ _ _ _ _
  | succ m => exact lo_big _ _ _ _ _ _ _ _ h
theorem cTL {a b : MS} (h : ch FT AT a b) : ch FY AL a b := ch_mo h (by simp [FT, FY]) (by simp only [AT, AL]; intro k hk; simp at hk ⊢; omega)
/-- of a family: the value itself is told -/
theorem m_lof {L : Lw} {B p m F T V E v n c : Nat} (x4 x5 : Int32) {w t s : Tr} {N : List Tr} (hw : HT L w N false s) {σ : MS} (hp : pr (fxM σ) t) (hf : fm (σ.2.1 1) t p) (hg : σ.2.1 1 p = i32 c) (hc : c < 128) (h83 : c ≠ 83) (h80 : c ≠ 80) (h49 : c ≠ 49) (hpB : p + ln t ≤ B) (hY : LPre σ B T V E F m n (ln t)) (hr : rpM σ V E T false w v) :
    (T + ln w ≤ B + 50 ∧ dp w n → ∃ F' τ v' n', F ≤ F' + ln t ∧ L_longBy_38 F x4 x5 (i32 B) (i32 p) (i32 v) (i32 n) (i32 m) (i32 0) σ = lnx F' x4 x5 (i32 B) (i32 (p + ln t)) v' n' τ m ∧ LOk σ τ T V E m (ln t) w)
    ∧ (¬ (T + ln w ≤ B + 50 ∧ dp w n) → ∃ τ, L_longBy_38 F x4 x5 (i32 B) (i32 p) (i32 v) (i32 n) (i32 m) (i32 0) σ = B_longBy_290 x4 x5 (i32 B) τ ∧ τ.1 27 = i32 1 ∧ kp σ τ V E T ∧ ch FY AL σ τ) := by
  obtain ⟨y1, y2, y3, y4, y5, y6, y7, y8, y9, y10, y11, y12, y13, y14⟩ := hY
  have hlt := pr_pos hp
  have hw0 : wv w = 0 := wv_HT _ _ _ _ hw (fun h => by simp at h)
  have tl := m_tells (B := B) (T := T) (E := E) (q := v) (TN (lev := n) _ _ _ _ hw (fun h => by simp at h)) (TPre_of (W := wv w) y1 y2 y3 y4 y5 y6 y7 (by omega) (by omega) (by omega) (by omega) y12 y13 y14) hr
  obtain ⟨G, rfl⟩ : ∃ G, F = (G + 1) + 1 := ⟨F - 2, by omega⟩
  constructor
  · intro hfit
    obtain ⟨τ, r1, V', E', r3, r4, r5, r6, r7, r8, r9, r10, r11, r12, r13, r14⟩ := tl.1 hfit
    clear tl
    have hck : f_checks (i32 B) τ = some (0, τ) := by
      rw [m_checks0 r3 r4 (by omega) (by omega), bg0 (by omega), setF_id τ r3]
    refine ⟨G + 1, τ, i32 v, i32 n, by omega, lo_f x4 x5 (by omega) (by omega) y1 hg hc h83 h80 h49 r1 (by rw [kp_fx r12]; exact hp) (kp_fm r12 hf (by omega)) (by omega) hck ⟨rfl, rfl⟩, V', E', r3, r4, r5, r6, r7, r8, by omega, r10, r11, r12, cTL r13, fun i _ => ⟨by rw [r13.2 21 (by simp [AT])], by rw [r13.2 22 (by simp [AT])]⟩⟩
  · intro hfit
    obtain ⟨τ, r1, r2, r3, r4⟩ := tl.2 hfit
    clear tl
    refine ⟨τ, ?_, r2, r3, cTL r4⟩
    rw [lo_f x4 x5 (by omega) (by omega) y1 hg hc h83 h80 h49 r1 (by rw [kp_fx r3]; exact hp) (kp_fm r3 hf (by omega)) (by omega) (m_checks1 _ r2) ⟨rfl, rfl⟩, lnx_big _ _ _ _ _ _ _ r2]
theorem m_lo {L : Lw} {B : Nat} (x4 x5 : Int32) : ∀ (T' : Tr) (Γ : List Tr), WT L T' Γ → ∀ (w : Tr) (N : List Tr) (n : Nat), HT L w N false (shp T') → N.length = n → ∀ (p m F T V E v : Nat) (σ : MS), pr (fxM σ) T' → fm (σ.2.1 1) T' p → p + ln T' ≤ B → ln T' ≤ 50 → LPre σ B T V E F m n (ln T') → rpM σ V E T false w v →
    (T + ln (et (shp T') w n) ≤ B + 50 ∧ dp (et (shp T') w n) n → ∃ F' τ v' n', F ≤ F' + ln T' ∧ L_longBy_38 F x4 x5 (i32 B) (i32 p) (i32 v) (i32 n) (i32 m) (i32 0) σ = lnx F' x4 x5 (i32 B) (i32 (p + ln T')) v' n' τ m ∧ LOk σ τ T V E m (ln T') (et (shp T') w n))
    ∧ (¬ (T + ln (et (shp T') w n) ≤ B + 50 ∧ dp (et (shp T') w n) n) → ∃ τ, L_longBy_38 F x4 x5 (i32 B) (i32 p) (i32 v) (i32 n) (i32 m) (i32 0) σ = B_longBy_290 x4 x5 (i32 B) τ ∧ τ.1 27 = i32 1 ∧ kp σ τ V E T ∧ ch FY AL σ τ) := by
  intro T'
  induction T' with
  | leaf c =>
    intro Γ hW w N n hw hN p m F T V E v σ hp hf hpB hln hY hr
    by_cases h49 : c = 49
    · subst h49
      obtain ⟨y1, y2, y3, y4, y5, y6, y7, y8, y9, y10, y11, y12, y13, y14⟩ := hY
      have hl1 : ln (.leaf 49) = 1 := ln_leaf (by decide)
      have hl2 : ln (.leaf 42) = 1 := ln_leaf (by decide)
      rw [hl1] at y8 y11 hpB ⊢
      obtain ⟨G, rfl⟩ : ∃ G, F = (G + 1) + 1 := ⟨F - 2, by omega⟩
      have ee : et (shp (.leaf 49)) w n = .leaf 42 := by simp [shp, et]
      rw [ee, hl2]
      have step := lo_1 (F := G + 1) (v := v) (n := n) x4 x5 (by omega) (show m < 60 by omega) y1 y2 (by omega) y5 (by omega) (hf (by decide)) hp
      constructor
      · rintro ⟨h, _⟩
        refine ⟨G + 1, sgn σ T 42 B, i32 v, i32 n, by omega, step, V, E, by rw [sgn_27, bg0 (by omega)], by rw [hl2]; exact sgn_T σ T 42 B, fun _ => sgn_at σ T 42 B, by rw [sgn_1 _ _ _ _ (by decide) (by decide)]; exact y3, by rw [sgn_1 _ _ _ _ (by decide) (by decide)]; exact y4, Nat.le_refl _, by omega, Nat.le_refl _, by omega, sgn_kp _ _ _ _ _ _, cTL (sgn_ch _ _ _ _), fun i _ => ⟨by rw [sgn_arr _ _ _ _ (by decide)], by rw [sgn_arr _ _ _ _ (by decide)]⟩⟩
      · intro h
        have h27 : (sgn σ T 42 B).1 27 = i32 1 := by rw [sgn_27, bg1 (fun h2 => h ⟨by omega, trivial⟩)]
        exact ⟨sgn σ T 42 B, by rw [step, lnx_big _ _ _ _ _ _ _ h27], h27, sgn_kp _ _ _ _ _ _, cTL (sgn_ch _ _ _ _)⟩
    · have h83 : c ≠ 83 := fun e => absurd (show 2 = 0 from by rw [e] at hp; exact hp.2.2) (by decide)
      have h80 : c ≠ 80 := fun e => absurd (show 2 = 0 from by rw [e] at hp; exact hp.2.2) (by decide)
      have ee : et (shp (.leaf c)) w n = w := by simp [shp, et, h49]
      rw [ee]
      exact m_lof x4 x5 hw hp hf (hf hp.1) hp.2.1 h83 h80 h49 hpB hY hr
  | branch c a b iha ihb =>
    intro Γ hW w N n hw hN p m F T V E v σ hp hf hpB hln hY hr
    have hf1 := hf.1
    by_cases hs : c = 83 ∨ c = 80
    · obtain ⟨hda, hWa, hWb⟩ := WT_SP hW hs
      have har : ar (fxM σ) c = 2 := by rcases hs with rfl | rfl <;> rfl
      have hpab : pr (fxM σ) a ∧ pr (fxM σ) b := by
        rcases hp.2.2 with h | h
        · exact h.2
        · rw [har] at h; exact absurd h.1 (by decide)
      have hla := pr_pos hpab.1
      have hlb := pr_pos hpab.2
      have hvV := rp_V hr
      rw [shp, if_pos hs] at hw ⊢
      obtain ⟨y1, y2, y3, y4, y5, y6, y7, y8, y9, y10, y11, y12, y13, y14⟩ := hY
      rw [ln_br] at y8 y11 hpB hln ⊢
      obtain ⟨G, rfl⟩ : ∃ G, F = (G + 1) + 1 := ⟨F - 2, by omega⟩
      rcases hs with rfl | rfl
      · -- pairs
        obtain ⟨σ1, step, f27, f1, f19, f21, fV, fV1, fT, a21, a22, alt, kk, cc⟩ := lo_S (F := G + 1) (n := n) x4 x5 (by omega) (show m < 60 by omega) y1 y2 (by omega) y5 hf1 y3 (by omega) (show v < 2400 by omega)
        have kk := kk E
        have cc : ch FY AL σ σ1 := ch_mo cc (by simp [FY]) (by simp [AL])
        have ee : et (.branch 83 (shp a) (shp b)) w n = .branch 44 (et (shp a) (un 60 w) n) (et (shp b) (un 62 w) n) := by rw [et, if_pos rfl]
        rw [ee, ln_br]
        by_cases h50 : T + 1 - B ≤ 50
        · rw [bg0 h50] at f27
          have nmk : ∀ k, k < 20 → σ1.2.2 k = pk 0 k 0 0 := fun k hk => by rw [kk.1 k (by omega)]; exact y14 k hk
          have rw1 : rpM σ1 (V + 2) E (T + 1) false w v := rp_kp kk (by omega) (Nat.le_refl _) (by omega) _ _ _ hr
          have r60 : rpM σ1 (V + 2) E (T + 1) false (un 60 w) (V + 1) := ⟨by omega, Or.inr (Or.inr (Or.inl ⟨rfl, rfl, v, fV1, rw1⟩))⟩
          have r62 : rpM σ1 (V + 2) E (T + 1) false (un 62 w) V := ⟨by omega, Or.inr (Or.inr (Or.inr (Or.inl ⟨rfl, rfl, v, fV, rw1⟩)))⟩
          have run := iha Γ hWa (un 60 w) N n (HT_fst hw) hN (p + 1) (m + 1) (G + 1) (T + 1) (V + 2) E (V + 1) σ1 (by rw [kp_fx kk]; exact hpab.1) (kp_fm kk hf.2.1 (by omega)) (by omega) (by omega) ⟨f27, f1, f19, by rw [f21]; exact y4, by omega, by omega, y7, by omega, by omega, by omega, by omega, y12, by omega, nmk⟩ r60
          by_cases hfa : T + 1 + ln (et (shp a) (un 60 w) n) ≤ B + 50 ∧ dp (et (shp a) (un 60 w) n) n
          · obtain ⟨F', τ, v', n', r1, r2, V', E', r3, r4, r5, r6, r7, r8, r9, r10, r11, r12, r13, r14⟩ := run.1 hfa
            clear run
            have t21 : τ.2.1 21 m = i32 V := by rw [(r14 m (Nat.lt_succ_self m)).1]; exact a21
            have t22 : τ.2.1 22 m = i32 n := by rw [(r14 m (Nat.lt_succ_self m)).2]; exact a22
            rw [lnx, t21, t22] at r2
            have kτ : kp σ τ V E T := kp_tr kk (kp_le r12 (by omega) (Nat.le_refl _) (by omega)) (Nat.le_refl _) (Nat.le_refl _) (Nat.le_refl _)
            have cτ : ch FY AL σ τ := ch_tr cc r13
            have run2 := ihb (Γ ++ [shp a]) hWb (un 62 w) N n (HT_snd hw) hN (p + 1 + ln a) m F' (T + 1 + ln (et (shp a) (un 60 w) n)) V' E' V τ (by rw [kp_fx kτ]; exact hpab.2) (kp_fm kτ hf.2.2 (by omega)) (by omega) (by omega) ⟨r3, r4, r6, r7, by omega, by omega, y7, by omega, by omega, by omega, by omega, y12, by omega, fun k hk => by rw [kτ.1 k (by omega)]; exact y14 k hk⟩ (rp_kp r12 r8 r10 (by omega) _ _ _ r62)
            constructor
            · rintro ⟨hfit, hd⟩
              have hd' : dp (et (shp a) (un 60 w) n) n ∧ dp (et (shp b) (un 62 w) n) n := by simpa [dp] using hd
              obtain ⟨F2, υ, v2, n2, s1, s2, V2, E2, s3, s4, s5, s6, s7, s8, s9, s10, s11, s12, s13, s14⟩ := run2.1 ⟨by omega, hd'.2⟩
              clear run2
              refine ⟨F2, υ, v2, n2, by omega, by rw [step, r2, s2, show p + 1 + ln a + ln b = p + (1 + ln a + ln b) by omega], V2, E2, s3, by rw [s4, ln_br]; congr 1; omega, ⟨?_, kp_fm s12 r5 (by omega), s5⟩, s6, s7, by omega, by omega, by omega, by rw [ln_br]; omega, kp_tr kτ (kp_le s12 (Nat.le_refl _) (Nat.le_refl _) (by omega)) (by omega) r10 (Nat.le_refl _), ch_tr cτ s13, fun i hi => ?_⟩
              · rw [s12.2.2.1 T (by omega), r12.2.2.1 T (by omega)]; exact fT
              · rw [(s14 i hi).1, (s14 i hi).2, (r14 i (by omega)).1, (r14 i (by omega)).2]; exact alt i hi
            · intro hfit
              obtain ⟨υ, s1, s2, s3, s4⟩ := run2.2 (fun h => hfit ⟨by omega, by simp only [dp]; exact ⟨hfa.2, h.2⟩⟩)
              exact ⟨υ, by rw [step, r2, s1], s2, kp_tr kτ (kp_le s3 (Nat.le_refl _) (Nat.le_refl _) (by omega)) (by omega) r10 (Nat.le_refl _), ch_tr cτ s4⟩
          · constructor
            · rintro ⟨hfit, hd⟩
              have hd' : dp (et (shp a) (un 60 w) n) n ∧ dp (et (shp b) (un 62 w) n) n := by simpa [dp] using hd
              clear run
              exact absurd ⟨by omega, hd'.1⟩ hfa
            · intro _
              obtain ⟨τ, r1, r2, r3, r4⟩ := run.2 hfa
              exact ⟨τ, by rw [step, r1], r2, kp_tr kk (kp_le r3 (by omega) (Nat.le_refl _) (by omega)) (Nat.le_refl _) (Nat.le_refl _) (Nat.le_refl _), ch_tr cc r4⟩
        · rw [bg1 h50] at f27
          constructor
          · rintro ⟨hfit, _⟩; omega
          · intro _
            exact ⟨σ1, by rw [step, lo_big _ _ _ _ _ _ _ _ f27], f27, kk, cc⟩
      · -- functions
        have hda := hda rfl
        have ee : et (.branch 80 (shp a) (shp b)) w n = un 92 (et (shp b) (.branch 46 w (et (shp a) (nm n) (n + 1))) (n + 1)) := by rw [et, if_neg (by decide)]
        rw [ee, show ln (un 92 (et (shp b) (.branch 46 w (et (shp a) (nm n) (n + 1))) (n + 1))) = 1 + ln (et (shp b) (.branch 46 w (et (shp a) (nm n) (n + 1))) (n + 1)) by rw [un, ln_br, ln_0]; rfl]
        have hdp : dp (un 92 (et (shp b) (.branch 46 w (et (shp a) (nm n) (n + 1))) (n + 1))) n ↔ n < 10 ∧ dp (et (shp b) (.branch 46 w (et (shp a) (nm n) (n + 1))) (n + 1)) (n + 1) := by simp [un, dp]
        rw [hdp]
        generalize hσ0 : pt (setF σ 27 (if n < 10 then i32 0 else i32 1)) T (i32 92) = σ0
        have k0 : kp σ σ0 V E T := by
          rw [← hσ0]
          exact kp_tr (kp_setF σ 27 _ V E T) (pt_kp _ _ _ _ _) (Nat.le_refl _) (Nat.le_refl _) (Nat.le_refl _)
        have c0 : ch FY AL σ σ0 := by
          rw [← hσ0]
          exact ch_tr (ch_setF σ _ (by simp [FY])) (pt_ch _ _ _ (by simp [FY]) (by simp [AL]))
        have g27 : σ0.1 27 = (if n < 10 then i32 0 else i32 1) := by
          rw [← hσ0, pt_ne _ _ _ (by decide)]
          simp only [setF, upd, if_true]
        have g1 : σ0.1 1 = i32 (T + 1) := by rw [← hσ0]; exact pt_1 _ _ _
        have g19 : σ0.1 19 = i32 V := by
          rw [← hσ0, pt_ne _ _ _ (by decide)]
          simp only [setF, upd]; rw [if_neg (by decide)]; exact y3
        have g21 : σ0.1 21 = i32 E := by
          rw [← hσ0, pt_ne _ _ _ (by decide)]
          simp only [setF, upd]; rw [if_neg (by decide)]; exact y4
        have gT : σ0.2.1 1 T = i32 92 := by rw [← hσ0]; exact pt_at _ _ _
        have g2x : σ0.2.1 21 = σ.2.1 21 ∧ σ0.2.1 22 = σ.2.1 22 := by
          rw [← hσ0, pt_arr _ _ _ (by decide), pt_arr _ _ _ (by decide)]
          exact ⟨rfl, rfl⟩
        have rn : rpM σ0 V E T false (nm n) n := ⟨by omega, Or.inl ⟨by omega, by omega, by rw [k0.1 n (by omega), y14 n (by omega)]; congr 1; omega⟩⟩
        obtain ⟨q, τ, V1, s1, s2, s3, s4, s5, s6, s7⟩ := m_spread hWa hda (n + 1) rn (by rw [kp_fx k0]; exact hpab.1) (kp_fm k0 hf.2.1 (by omega)) (by omega) (by omega) g19 (by omega) (by omega)
        have hqV := rp_V s5
        have kτ : kp σ τ V E T := kp_tr k0 s6 (Nat.le_refl _) (Nat.le_refl _) (Nat.le_refl _)
        have cτ : ch FY AL σ τ := ch_tr c0 (ch_mo s7 (by simp [FY]) (by simp [AL]))
        generalize hτ1 : lay τ V1 (pk 2 v q 0) = τ1
        have kl : kp τ τ1 V1 E T := by rw [← hτ1]; exact lay_kp _ _ _ _ _
        have k1 : kp σ τ1 V E T := kp_tr kτ kl s3 (Nat.le_refl _) (Nat.le_refl _)
        have c1 : ch FY AL σ τ1 := by rw [← hτ1]; exact ch_tr cτ (lay_ch _ _ _ _ (by simp [FY]))
        have l1 : τ1.1 1 = i32 (T + 1) := by
          rw [← hτ1, (lay_ch (F := [19]) [] τ V1 _ (by simp)).1 1 (by simp), s7.1 1 (by simp)]; exact g1
        have l27 : τ1.1 27 = (if n < 10 then i32 0 else i32 1) := by
          rw [← hτ1, (lay_ch (F := [19]) [] τ V1 _ (by simp)).1 27 (by simp), s7.1 27 (by simp)]; exact g27
        have l19 : τ1.1 19 = i32 (V1 + 1) := by rw [← hτ1]; exact lay_19 _ _ _
        have l21 : τ1.1 21 = i32 E := by
          rw [← hτ1, (lay_ch (F := [19]) [] τ V1 _ (by simp)).1 21 (by simp), s7.1 21 (by simp)]; exact g21
        have lV : τ1.2.2 V1 = pk 2 v q 0 := by rw [← hτ1]; exact lay_V _ _ _
        have lT : τ1.2.1 1 T = i32 92 := by
          rw [← hτ1]
          show τ.2.1 1 T = _
          rw [s7.2 1 (by simp)]; exact gT
        have l2x : τ1.2.1 21 = σ.2.1 21 ∧ τ1.2.1 22 = σ.2.1 22 := by
          rw [← hτ1]
          show τ.2.1 21 = _ ∧ τ.2.1 22 = _
          rw [s7.2 21 (by simp), s7.2 22 (by simp)]; exact g2x
        have hck : ∃ υ, f_checks (i32 B) τ1 = some (0, υ) ∧ υ = setF τ1 27 (if n < 10 then bg (T + 1 - B) else i32 1) := by
          by_cases h10 : n < 10
          · rw [if_pos h10] at l27 ⊢
            exact ⟨_, m_checks0 l27 l1 (by omega) (by omega), rfl⟩
          · rw [if_neg h10] at l27 ⊢
            exact ⟨_, m_checks1 _ l27, (setF_id _ l27).symm⟩
        obtain ⟨υ, hck, hυ⟩ := hck
        have step := lo_P (F := G + 1) (m := m) (B := B) x4 x5 (by omega) y1 y2 (by omega) hf1 y12 (by rw [hσ0]; exact s1) s2 (by omega) (show v < 2400 by omega) (by omega) (t := a) (by rw [kp_fx kτ]; exact hpab.1) (kp_fm kτ hf.2.1 (by omega)) (by omega) (by rw [hτ1]; exact hck)
        have kυ : kp σ υ V E T := by rw [hυ]; exact kp_tr k1 (kp_setF _ 27 _ V E T) (Nat.le_refl _) (Nat.le_refl _) (Nat.le_refl _)
        have kυ1 : kp τ1 υ (V1 + 1) E (T + 1) := by rw [hυ]; exact kp_setF _ 27 _ _ _ _
        have cυ : ch FY AL σ υ := by rw [hυ]; exact ch_tr c1 (ch_setF _ _ (by simp [FY]))
        have uo : ∀ k, k ≠ 27 → υ.1 k = τ1.1 k := fun k hk => by rw [hυ]; simp only [setF, upd]; rw [if_neg hk]
        have u27 : υ.1 27 = (if n < 10 then bg (T + 1 - B) else i32 1) := by rw [hυ]; simp only [setF, upd, if_true]
        have u2 : υ.2 = τ1.2 := by rw [hυ]; rfl
        by_cases hok : n < 10 ∧ T + 1 - B ≤ 50
        · rw [if_pos hok.1, bg0 hok.2] at u27
          have rapp : rpM υ (V1 + 1) E (T + 1) false (.branch 46 w (et (shp a) (nm n) (n + 1))) V1 := by
            refine rp_kp kυ1 (Nat.le_refl _) (Nat.le_refl _) (Nat.le_refl _) _ _ _ ⟨by omega, Or.inl ⟨rfl, v, q, lV, ?_, ?_⟩⟩
            · exact rp_kp k1 (by omega) (Nat.le_refl _) (by omega) _ _ _ hr
            · exact rp_kp kl (by omega) (Nat.le_refl _) (by omega) _ _ _ s5
          have run := ihb (Γ ++ [shp a]) hWb (.branch 46 w (et (shp a) (nm n) (n + 1))) (N ++ [shp a]) (n + 1) (HT_app (HT_wk _ _ _ _ hw (fun h => by simp at h)) hda (et_dta _ _ _ _ hda (HT_nm hN hok.1))) (by simp [hN]) (p + 1 + ln a) m (G + 1) (T + 1) (V1 + 1) E V1 υ (by rw [kp_fx kυ]; exact hpab.2) (kp_fm kυ hf.2.2 (by omega)) (by omega) (by omega) ⟨u27, by rw [uo 1 (by decide)]; exact l1, by rw [uo 19 (by decide)]; exact l19, by rw [uo 21 (by decide)]; exact l21, by omega, by omega, y7, by omega, by omega, by omega, by omega, by omega, by omega, fun k hk => by rw [kυ.1 k (by omega)]; exact y14 k hk⟩ rapp
          constructor
          · rintro ⟨hfit, _, hd⟩
            obtain ⟨F', ω, v', n', r1, r2, V', E', r3, r4, r5, r6, r7, r8, r9, r10, r11, r12, r13, r14⟩ := run.1 ⟨by omega, hd⟩
            clear run
            refine ⟨F', ω, v', n', by omega, by rw [step, r2, show p + 1 + ln a + ln b = p + (1 + ln a + ln b) by omega], V', E', r3, by rw [r4]; congr 1; rw [un, ln_br, ln_0]; omega, ⟨?_, r5, fun h => absurd rfl h⟩, r6, r7, by omega, by omega, by omega, by rw [un, ln_br, ln_0]; omega, kp_tr kυ (kp_le r12 (by omega) (Nat.le_refl _) (by omega)) (Nat.le_refl _) (Nat.le_refl _) (Nat.le_refl _), ch_tr cυ r13, fun i hi => ?_⟩
            · rw [r12.2.2.1 T (by omega), u2]; exact lT
            · rw [(r14 i hi).1, (r14 i hi).2, u2, l2x.1, l2x.2]; exact ⟨rfl, rfl⟩
          · intro hfit
            obtain ⟨ω, r1, r2, r3, r4⟩ := run.2 (fun h => hfit ⟨by omega, hok.1, h.2⟩)
            exact ⟨ω, by rw [step, r1], r2, kp_tr kυ (kp_le r3 (by omega) (Nat.le_refl _) (by omega)) (Nat.le_refl _) (Nat.le_refl _) (Nat.le_refl _), ch_tr cυ r4⟩
        · have u1 : υ.1 27 = i32 1 := by
            rw [u27]
            by_cases h10 : n < 10
            · rw [if_pos h10, bg1 (fun h => hok ⟨h10, h⟩)]
            · rw [if_neg h10]
          constructor
          · rintro ⟨hfit, h10, _⟩
            exact absurd ⟨h10, by omega⟩ hok
          · intro _
            exact ⟨υ, by rw [step, lo_big _ _ _ _ _ _ _ _ u1], u1, kυ, cυ⟩
    · simp only [WT] at hW
      rcases hW with ⟨h1, _⟩ | ⟨h1, h2, h3, _⟩
      · exact absurd (h1.imp_right And.left) hs
      have ee : et (shp (.branch c a b)) w n = w := by rw [shp, if_neg hs, et, if_neg (by omega)]
      rw [ee]
      exact m_lof x4 x5 hw hp hf hf1 hp.2.1 (by omega) (by omega) (by omega) hpB hY hr
/-- longBy: a name's long form, of a type in normal form -/
theorem m_longBy {L : Lw} {T' : Tr} {Γ : List Tr} (hW : WT L T' Γ) {w : Tr} {N : List Tr} {n : Nat} (hw : HT L w N false (shp T')) (hN : N.length = n) (hn : n ≤ 10) {p T V E v : Nat} {σ : MS} (hp : pr (fxM σ) T') (hf : fm (σ.2.1 1) T' p) (hpT : p + ln T' ≤ T) (hl : ln T' ≤ 50) (h1 : σ.1 1 = i32 T) (h19 : σ.1 19 = i32 V) (h21 : σ.1 21 = i32 E) (hr : rpM σ V E T false w v) (b1 : T + 60 ≤ 9400) (b2 : E ≤ 68) (b3 : V + 200 ≤ 2400) (b4 : 20 ≤ V) (b5 : ∀ k, k < 20 → σ.2.2 k = pk 0 k 0 0) : ∃ r υ, f_longBy (i32 v) (i32 p) (i32 n) σ = some (r, υ) ∧ TRes σ υ FY AL T V E (et (shp T') w n) n r := by
  have k0 := kp_setF σ 27 (i32 0) V E T
  have run := m_lo (B := T) (i32 V) (i32 E) T' Γ hW w N n hw hN p 0 10000 T V E v (setF σ 27 (i32 0)) hp hf hpT hl ⟨by simp [setF, upd], by simp only [setF, upd]; exact h1, by simp only [setF, upd]; exact h19, by simp only [setF, upd]; exact h21, Nat.le_refl _, by omega, b1, by omega, by omega, by omega, by omega, hn, b4, b5⟩ (rp_kp k0 (Nat.le_refl _) (Nat.le_refl _) (Nat.le_refl _) _ _ _ hr)
  have c0 : ch FY AL σ (setF σ 27 (i32 0)) := ch_setF σ _ (by simp [FY])
  unfold f_longBy
  rw [h19, h21, h1, show setF σ 27 0 = setF σ 27 (i32 0) from rfl, show (0 : Int32) = i32 0 from rfl]
  by_cases hfit : T + ln (et (shp T') w n) ≤ T + 50 ∧ dp (et (shp T') w n) n
  · obtain ⟨F', τ, v', n', r1, r2, V', E', r3, r4, r5, r6, r7, r8, r9, r10, r11, r12, r13, r14⟩ := run.1 hfit
    clear run
    obtain ⟨G, rfl⟩ : ∃ G, F' = G + 1 := ⟨F' - 1, by omega⟩
    obtain ⟨κ, s1, s2⟩ := told_ok (V' := V') (E' := E') (t := et (shp T') w n) (lev := n) (kp_tr k0 r12 (Nat.le_refl _) (Nat.le_refl _) (Nat.le_refl _)) (ch_tr c0 r13) ⟨by have := hfit.1; unfold ln at this; omega, hfit.2⟩ r4 r5 r3 (by simp [FY]) (by simp [FY])
    refine ⟨_, κ, ?_, s2⟩
    rw [r2, lnx, lo_end, B_longBy_290, s1, Option.bind_some]
  · obtain ⟨τ, r1, r2, r3, r4⟩ := run.2 hfit
    clear run
    obtain ⟨κ, s1, s2⟩ := told_big (t := et (shp T') w n) (lev := n) (kp_tr k0 r3 (Nat.le_refl _) (Nat.le_refl _) (Nat.le_refl _)) (ch_tr c0 r4) (fun h => hfit ⟨by have := h.1; unfold ln; omega, h.2⟩) r2 (by simp [FY]) (by simp [FY]) (by simp [FY])
    refine ⟨_, κ, ?_, s2⟩
    rw [r1, B_longBy_290, s1, Option.bind_some]
end MLONGBY
