section KTERM
/-- a name stands for its long form -/
def alt (σ : CS) (V : Nat) (u : Tr) (v : Nat) : Prop := ∃ k x, k < 10 ∧ dta x ∧ u = et x (nm k) 0 ∧ 1 ≤ v ∧ v < V ∧ σ.1 39 v = i32 1 ∧ σ.1 40 v = i32 k
def rpA (u : Tr) (σ : CS) (V T v : Nat) : Prop := rpK σ V T false u v ∨ alt σ V u v
theorem et_d : ∀ (x w : Tr) (n m : Nat), dta x → et x w n = et x w m := by
  intro x
  induction x with
  | leaf f => intro w n m _; rfl
  | branch s a b iha ihb =>
    intro w n m h
    obtain ⟨h1, h2, h3⟩ := h
    subst h1
    simp only [et, if_true]
    rw [iha _ n m h2, ihb _ n m h3]
/-- names and their components -/
def cn : Tr → Prop
  | .leaf c => 48 ≤ c ∧ c < 58
  | .branch s a b => (s = 60 ∨ s = 62) ∧ b = .leaf 0 ∧ cn a
theorem cn_un {w : Tr} (h : cn w) : cn (un 60 w) ∧ cn (un 62 w) := ⟨⟨Or.inl rfl, rfl, h⟩, ⟨Or.inr rfl, rfl, h⟩⟩
theorem cn_fst {w : Tr} (h : cn w) : fstV w = un 60 w ∧ sndV w = un 62 w := by
  cases w with
  | leaf c => exact ⟨rfl, rfl⟩
  | branch s a b =>
    have h1 := h.1
    have : s ≠ 44 := by omega
    simp [fstV, sndV, this]
theorem cn_fam {L : Lw} {N : List Tr} {w x : Tr} (h : cn w) (hw : HT L w N true x) : fam x := by
  cases w with
  | leaf c =>
    have h1 := h.1
    have h2 := h.2
    simp only [HT] at hw
    rcases hw with ⟨_, e, _⟩ | ⟨e, _⟩
    · omega
    · exact e (by trivial)
  | branch s a b =>
    have h1 := h.1
    simp only [HT] at hw
    rcases hw with ⟨_, e, _⟩ | ⟨_, e, _⟩ | ⟨e, _⟩
    · omega
    · omega
    · exact e (by trivial)
theorem HT_et {L : Lw} {N : List Tr} : ∀ (x' x w : Tr), cn w → dta x' → dta x → HT L (et x' w 0) N true x → et x w 0 = et x' w 0 := by
  intro x'
  induction x' with
  | leaf f' =>
    intro x w hc _ hd h
    simp only [et] at h ⊢
    by_cases hf : f' = 49
    · rw [if_pos hf] at h ⊢
      simp only [HT] at h
      rcases h with ⟨_, _, e⟩ | ⟨_, e⟩
      · subst e; rfl
      · unfold hdS at e
        simp at e
    · rw [if_neg hf] at h ⊢
      obtain ⟨g, rfl, hg⟩ := cn_fam hc h
      simp only [et]
      rw [if_neg hg]
  | branch s a b iha ihb =>
    intro x w hc hd' hd h
    obtain ⟨h1, h2, h3⟩ := hd'
    subst h1
    simp only [et, if_true] at h ⊢
    simp only [HT] at h
    rcases h with ⟨_, _, x1, x2, e, g1, g2⟩ | ⟨_, e, _⟩ | ⟨_, ⟨e, _⟩ | ⟨e, _⟩ | ⟨e, _⟩⟩
    · subst e
      obtain ⟨_, d1, d2⟩ := hd
      simp only [et, if_true]
      rw [iha x1 _ (cn_un hc).1 h2 d1 g1, ihb x2 _ (cn_un hc).2 h3 d2 g2]
    · omega
    · omega
    · omega
    · omega
theorem PLft_cn {L : Lw} (hL : L.2.length ≤ 4) : ∀ (w : Tr), cn w → PLft L w := by
  intro w
  induction w with
  | leaf c => intro _; exact PLft_leaf hL c
  | branch s a b iha ihb =>
    intro h
    obtain ⟨h1, h2, h3⟩ := h
    subst h2
    rcases h1 with rfl | rfl
    · exact PLft_fst (iha h3)
    · exact PLft_snd (iha h3)
/-- a name of data, by a data type -/
theorem Wr_alt {L : Lw} (hL : L.2.length ≤ 4) {N : List Tr} {n : Nat} (hN : N.length = n) : ∀ (x w : Tr), dta x → cn w → HT L (et x w 0) N true x → Wr L N x n (fun σ V T v => rpK σ V T false w v) (et x w 0) 0 := by
  intro x
  induction x with
  | leaf f =>
    intro w _ hc h
    by_cases hf : f = 49
    · subst hf; exact Wr_star _
    · simp only [et] at h ⊢
      rw [if_neg hf] at h ⊢
      exact Wr_fam hN hf (PLft_cn hL w hc) (HT_down h ⟨f, rfl, hf⟩)
  | branch s a b iha ihb =>
    intro w hd hc h
    obtain ⟨h1, h2, h3⟩ := hd
    subst h1
    simp only [et, if_true] at h ⊢
    simp only [HT] at h
    rcases h with ⟨_, _, x1, x2, e, g1, g2⟩ | ⟨_, e, _⟩ | ⟨_, ⟨e, _⟩ | ⟨e, _⟩ | ⟨e, _⟩⟩
    · injection e with _ e1 e2
      subst e1 e2
      obtain ⟨c1, c2⟩ := cn_un hc
      obtain ⟨f1, f2⟩ := cn_fst hc
      exact Wr_pair (w1 := 0) (w2 := 0) (by rw [f1]; exact iha _ h2 c1 g1) (by rw [f2]; exact ihb _ h3 c2 g2) (Nat.le_refl _) hN
    · omega
    · omega
    · omega
    · omega
/-- data is written by its type -/
def PTrm (L : Lw) (u : Tr) : Prop := ∀ (N : List Tr) (x : Tr) (n : Nat), HT L u N true x → dta x → N.length = n → Wr L N x n (rpA u) u 0
theorem PTrm_of {L : Lw} (hL : L.2.length ≤ 4) {u : Tr} (hl : PLft L u) (h44 : ∀ a b, u = .branch 44 a b → PTrm L a ∧ PTrm L b) : PTrm L u := by
  intro N x n h hd hN
  have hr : Wr L N x n (fun σ V T v => rpK σ V T false u v) u 0 := by
    cases x with
    | leaf f =>
      by_cases hf : f = 49
      · subst hf
        have : u = .leaf 42 := by
          cases u with
          | leaf c =>
            simp only [HT] at h
            rcases h with ⟨_, e, _⟩ | ⟨e, _⟩
            · rw [e]
            · obtain ⟨g, e2, hg⟩ := e (by trivial)
              injection e2 with e2
              exact absurd e2.symm hg
          | branch c a b =>
            simp only [HT] at h
            rcases h with ⟨_, _, x1, x2, e, _⟩ | ⟨_, _, _, x1, x2, e, _⟩ | ⟨e, _⟩
            · cases e
            · cases e
            · obtain ⟨g, e2, hg⟩ := e (by trivial)
              injection e2 with e2
              exact absurd e2.symm hg
        subst this
        exact Wr_star _
      · exact Wr_fam hN hf hl (HT_down h ⟨f, rfl, hf⟩)
    | branch s x1 x2 =>
      obtain ⟨h1, h2, h3⟩ := hd
      subst h1
      cases u with
      | leaf c =>
        simp only [HT] at h
        rcases h with ⟨_, _, e⟩ | ⟨e, _⟩
        · cases e
        · obtain ⟨g, e2, hg⟩ := e (by trivial)
          cases e2
      | branch c a b =>
        simp only [HT] at h
        rcases h with ⟨_, e0, y1, y2, e, g1, g2⟩ | ⟨_, _, _, y1, y2, e, _⟩ | ⟨e, _⟩
        · subst e0
          injection e with _ e1 e2
          subst e1 e2
          obtain ⟨p1, p2⟩ := h44 a b rfl
          have q1 := p1 N x1 n g1 h2 hN
          have q2 := p2 N x2 n g2 h3 hN
          refine Wr_pair (w1 := 0) (w2 := 0) ?_ ?_ (Nat.le_refl _) hN
          · rw [show fstV (.branch 44 a b) = a by simp [fstV]]
            exact Wr_P q1 (fun _ _ _ _ h => Or.inl h)
          · rw [show sndV (.branch 44 a b) = b by simp [sndV]]
            exact Wr_P q2 (fun _ _ _ _ h => Or.inl h)
        · injection e with e1 _ _
          exact absurd e1 (by decide)
        · obtain ⟨g, e2, hg⟩ := e (by trivial)
          cases e2
  intro d V T B a v σ hW hb hdd ht hP
  rcases hP with hP | ⟨k, x', k1, k2, k3, k4, k5, k6, k7⟩
  · exact hr d V T B a v σ hW hb hdd ht hP
  · subst k3
    have hc : cn (nm k) := ⟨by omega, by omega⟩
    have e := HT_et x' x (nm k) hc k2 hd h
    rw [← e] at h ⊢
    exact Wr_alt hL hN x (nm k) hd hc h d V T B a v σ hW hb hdd ht ⟨k4, k5, Or.inl ⟨by omega, by omega, k6, by rw [show 48 + k - 48 = k by omega]; exact k7⟩⟩
/-- what is left, given something -/
theorem PLft_app {L : Lw} {a b : Tr} (ha : PLft L a) (hb : PTrm L b) : PLft L (.branch 46 a b) := by
  intro N s d n V T B v σ h hN hW hbn hd hr
  obtain ⟨g0, g1, g2⟩ := id hr
  have hW' := hW
  obtain ⟨w1, w2, w3, w4, w5, w6, w7, w8, w9, w10, w11, w12⟩ := hW
  obtain ⟨d, rfl⟩ : ∃ k, d = k + 1 + 1 := ⟨d - 2, by omega⟩
  obtain ⟨x, hx, hf, hu⟩ : ∃ x, dta x ∧ HT L a N false (.branch 80 x s) ∧ HT L b N true x := by
    simp only [HT] at h
    rcases h with ⟨h, _⟩ | ⟨h, _⟩ | ⟨_, ⟨_, x, h⟩ | ⟨h, _⟩ | ⟨h, _⟩⟩
    · simp at h
    · simp at h
    · exact ⟨x, h⟩
    · simp at h
    · simp at h
  obtain ⟨hk, p, q, h40, h41, hp, hq⟩ : σ.1 39 v = i32 3 ∧ ∃ p q, σ.1 40 v = i32 p ∧ σ.1 41 v = i32 q ∧ rpK σ V T false a p ∧ rpA b σ V T q := by
    rcases g2 with ⟨_, k1, p, q, k2, k3, k4, k5⟩ | ⟨a, _⟩ | ⟨a, _⟩ | ⟨a, _⟩ | ⟨a, _⟩
    · exact ⟨k1, p, q, k2, k3, k4, k5⟩
    · omega
    · omega
    · omega
    · omega
  have hgo := left_go (d := d + 1) (i32 n) w10 w6 g0 g1 w8 hk
  rw [if_neg (show ¬ (i32 3 = 1) from by decide), if_neg (show ¬ (i32 3 = 2) from by decide), if_pos (show i32 3 = 3 from rfl), h40] at hgo
  have hl := ln_br 46 a b
  rw [hl]
  have dpb : dp b n := dp_HT _ _ _ _ n hu (fun _ => hx)
  by_cases hT : T < B + 50
  · rw [show (46 : Int32) = i32 46 from rfl, k_put1 hW' (by omega) (by omega) hT, Option.bind_some] at hgo
    dsimp only at hgo
    have hP := WP_pw hW' hT 46
    have hf0 := pw_WF σ T 46 V n
    have hpw := rK_kp hf0.1 (WF_fx hf0) (Nat.le_refl V) (show T ≤ T + 1 by omega) _ _ _ hp
    have rpA_kp : ∀ {σ τ : CS} {V T V' T' v : Nat}, kpK σ τ V T → fxK τ = fxK σ → V ≤ V' → T ≤ T' → rpA b σ V T v → rpA b τ V' T' v := by
      intro σ τ V T V' T' v hk hfx hV hT hr
      rcases hr with hr | ⟨k, x', k1, k2, k3, k4, k5, k6, k7⟩
      · exact Or.inl (rK_kp hk hfx hV hT _ _ _ hr)
      · obtain ⟨e1, e2, _⟩ := hk.1 v k5
        exact Or.inr ⟨k, x', k1, k2, k3, k4, by omega, by rw [e1]; exact k6, by rw [e2]; exact k7⟩
    have hqw := rpA_kp hf0.1 (WF_fx hf0) (Nat.le_refl V) (show T ≤ T + 1 by omega) hq
    have run := ha N (.branch 80 x s) (d + 1) n V (T + 1) B p (pw σ T 46) hf hN hP (by omega) (by omega) hpw
    by_cases hT1 : T + 1 + ln a ≤ B + 50
    · obtain ⟨r, τ, V1, r1, ⟨r2, r3, r4, r5, r6, r7, r8⟩, r9⟩ := run.1 hT1
      rw [r1, Option.bind_some] at hgo
      dsimp only at hgo
      have e41 : τ.1 41 v = i32 q := by rw [(r8.1.1 v g1).2.2, (hf0.1.1 v g1).2.2]; exact h41
      rw [k_rightOf r2 g0 (by omega) (by omega), e41, Option.bind_some] at hgo
      dsimp only at hgo
      obtain ⟨l, x1, e1, e2⟩ := k_firstType r2 (by omega) (by omega) r9
      rw [e1, Option.bind_some] at hgo
      dsimp only at hgo
      have cM := mkn_ch (A := AV) τ V1 10 l x1 (fun _ h => h)
      have kM := mkn_kp τ V1 10 l x1 (T + 1 + ln a)
      have hf1 : WF τ (mkn τ V1 10 l x1) V1 (T + 1 + ln a) n := WF_AV kM cM
      have hP0 := WP_go hP r8 (by omega) r5 (by omega) hT1 r2 r3 (by omega) r7
      have hP1 : WP L N (mkn τ V1 10 l x1) (V1 + 1) (T + 1 + ln a) B := WP_go hP0 hf1 (by omega) (by rw [cM.2.1 34 (by decide)]; exact r5) (Nat.le_refl _) hT1 (mkn_V _ _ _ _ _) (by omega) (by omega) (by rw [cM.2.1 44 (by decide)]; exact r7)
      have h01 := WF_tr (WF_tr hf0 r8 (Nat.le_refl _) (by omega) (Nat.le_refl _)) hf1 (by omega) (by omega) (Nat.le_refl _)
      have hqm := rpA_kp hf1.1 (WF_fx hf1) (show V1 ≤ V1 + 1 by omega) (Nat.le_refl _) (rpA_kp r8.1 (WF_fx r8) r3 (show T + 1 ≤ T + 1 + ln a by omega) hqw)
      have htm := tyS_kp hf1.1 (WF_fx hf1) (show V1 ≤ V1 + 1 by omega) (Nat.le_refl _) r9
      have hfa : fm ((mkn τ V1 10 l x1).1 35) a (T + 1) := by rw [cM.2.1 35 (by decide)]; exact r6
      have hT0 : (mkn τ V1 10 l x1).1 35 T = i32 46 := by
        rw [cM.2.1 35 (by decide), r8.1.2 T (by omega)]; exact pw_35 _ _ _
      generalize mkn τ V1 10 l x1 = τ1 at hgo e2 hP1 h01 hqm htm hfa hT0
      have run2 := hb N x n hu hx hN (d + 1) (V1 + 1) (T + 1 + ln a) B V1 q τ1 hP1 (by omega) (by omega) e2 hqm
      by_cases hT2 : T + 1 + ln a + ln b ≤ B + 50
      · refine ⟨fun _ => ?_, fun h => absurd (by omega) h⟩
        obtain ⟨υ, V2, q1, ⟨q2, q3, q4, q5, q6, q7, q8⟩⟩ := run2.1 ⟨hT2, dpb⟩
        rw [q1, Option.bind_some] at hgo
        dsimp only at hgo
        have htu := tyS_kp q8.1 (WF_fx q8) q3 (show T + 1 + ln a ≤ T + 1 + ln a + ln b by omega) htm
        obtain ⟨l1, x2, l2, s1, _, _, s4⟩ := k_secondType (i32 q) q5 (by omega) q2 (by omega) (by omega) htu
        rw [s1] at hgo
        have cM1 := mkn_ch (A := AV) υ V2 9 (i32 q) x2 (fun _ h => h)
        have kM1 := mkn_kp υ V2 9 (i32 q) x2 (T + 1 + ln a + ln b)
        have cM2 := mkn_ch (A := AV) (mkn υ V2 9 (i32 q) x2) (V2 + 1) 10 l2 (i32 V2) (fun _ h => h)
        have kM2 := mkn_kp (mkn υ V2 9 (i32 q) x2) (V2 + 1) 10 l2 (i32 V2) (T + 1 + ln a + ln b)
        have kk2 := kK_tr kM1 kM2 (by omega) (Nat.le_refl _)
        have cc2 := cK_tr cM1 cM2
        have hf4 : WF υ (mkn (mkn υ V2 9 (i32 q) x2) (V2 + 1) 10 l2 (i32 V2)) V2 (T + 1 + ln a + ln b) n := WF_AV kk2 cc2
        refine ⟨V2 + 1, _, V2 + 2, hgo, ⟨mkn_V _ _ _ _ _, by omega, by omega, by rw [cc2.2.1 34 (by decide), q5, hl]; congr 1; omega, ⟨?_, ?_, ?_⟩, by rw [cc2.2.1 44 (by decide)]; exact q7, WF_tr (WF_tr h01 q8 (by omega) (by omega) (Nat.le_refl _)) hf4 (by omega) (by omega) (Nat.le_refl _)⟩, ?_⟩
        · rw [cc2.2.1 35 (by decide), q8.1.2 T (by omega)]; exact hT0
        · rw [cc2.2.1 35 (by decide)]; exact kK_fm q8.1 hfa (by omega)
        · rw [cc2.2.1 35 (by decide)]; exact q6
        · rw [show T + (1 + ln a + ln b) = T + 1 + ln a + ln b by omega]; exact s4
      · refine ⟨fun h => absurd h (by omega), fun _ => ?_⟩
        obtain ⟨υ, q1, q2⟩ := run2.2 (fun h => hT2 h.1)
        rw [q1, Option.bind_some] at hgo
        dsimp only at hgo
        obtain ⟨V2, u1, u2, u3, T2, s1, s2⟩ := WBig_V q2 (by omega) (by omega)
        obtain ⟨z, ω, e3, e4⟩ := k_secondTypeT u1 u2 u3 s1 (by omega) (i32 r) (i32 q)
        exact ⟨z, ω, by rw [hgo, e3], WBig_tr h01 (by omega) (by omega) (Nat.le_refl _) (by omega) (Big_step q2 (by omega) u1 u3 e4)⟩
    · refine ⟨fun h => absurd h (by omega), fun _ => ?_⟩
      obtain ⟨r, τ, r1, r2⟩ := run.2 hT1
      rw [r1, Option.bind_some] at hgo
      dsimp only at hgo
      obtain ⟨z, ez⟩ := k_rightT (i32 v) τ
      rw [ez, Option.bind_some] at hgo
      dsimp only at hgo
      obtain ⟨V1, v1, v2, v3, T1, t1, t2⟩ := WBig_V r2 w7 (by omega)
      obtain ⟨y, υ, e1, e2⟩ := k_firstTypeT v1 v2 v3 r
      rw [e1, Option.bind_some] at hgo
      dsimp only at hgo
      have B2 := Big_step r2 (by omega) v1 v3 e2
      rw [term_big _ _ _ (tl_ne B2), Option.bind_some] at hgo
      dsimp only at hgo
      obtain ⟨V2, u1, u2, u3, T2, s1, s2⟩ := WBig_V B2 w7 (by omega)
      obtain ⟨y2, ω, e3, e4⟩ := k_secondTypeT u1 u2 u3 s1 (by omega) r z
      exact ⟨y2, ω, by rw [hgo, e3], WBig_tr hf0 (Nat.le_refl _) (by omega) (Nat.le_refl _) (by omega) (Big_step B2 (by omega) u1 u3 e4)⟩
  · refine ⟨fun h => absurd h (by omega), fun _ => ?_⟩
    rw [k_put0 _ hW' (by omega), Option.bind_some] at hgo
    dsimp only at hgo
    have hB := tl_Big hW' n
    rw [left_big _ _ (tl_ne hB), Option.bind_some] at hgo
    dsimp only at hgo
    obtain ⟨z, ez⟩ := k_rightT (i32 v) (sI σ 44 3 1)
    rw [ez, Option.bind_some] at hgo
    dsimp only at hgo
    have hV' : (sI σ 44 3 1).1 38 4 = i32 V := by rw [sI_ne _ _ (Or.inl (by decide))]; exact w6
    obtain ⟨y, τ, e1, e2⟩ := k_firstTypeT hV' w7 w8 0
    rw [e1, Option.bind_some] at hgo
    dsimp only at hgo
    have B2 := Big_step hB (by omega) hV' w8 e2
    rw [term_big _ _ _ (tl_ne B2), Option.bind_some] at hgo
    dsimp only at hgo
    obtain ⟨V2, u1, u2, u3, T2, s1, s2⟩ := WBig_V B2 w7 (by omega)
    obtain ⟨y2, ω, e3, e4⟩ := k_secondTypeT u1 u2 u3 s1 (by omega) 0 z
    exact ⟨y2, ω, by rw [hgo, e3], WBig_c (Big_step B2 (by omega) u1 u3 e4) (by omega)⟩
/-- what is left, and data, are written as they are -/
theorem k_AB {L : Lw} (hL : L.2.length ≤ 4) : ∀ (t : Tr), PLft L t ∧ PTrm L t := by
  intro t
  induction t with
  | leaf c =>
    have h := PLft_leaf hL c
    exact ⟨h, PTrm_of hL h (fun a b e => by cases e)⟩
  | branch c a b iha ihb =>
    have h : PLft L (.branch c a b) := by
      by_cases h1 : c = 46
      · subst h1; exact PLft_app iha.1 ihb.2
      by_cases h2 : c = 60 ∧ b = .leaf 0
      · obtain ⟨rfl, rfl⟩ := h2; exact PLft_fst iha.1
      by_cases h3 : c = 62 ∧ b = .leaf 0
      · obtain ⟨rfl, rfl⟩ := h3; exact PLft_snd iha.1
      intro N s d n V T B v σ h
      exfalso
      simp only [HT] at h
      rcases h with ⟨h, _⟩ | ⟨h, _⟩ | ⟨_, ⟨h, _⟩ | ⟨h, h', _⟩ | ⟨h, h', _⟩⟩
      · simp at h
      · simp at h
      · exact h1 h
      · exact h2 ⟨h, h'⟩
      · exact h3 ⟨h, h'⟩
    refine ⟨h, PTrm_of hL h (fun a' b' e => ?_)⟩
    injection e with _ e1 e2
    subst e1 e2
    exact ⟨iha.2, ihb.2⟩
end KTERM
