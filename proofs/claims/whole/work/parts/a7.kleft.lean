section KLEFT
/-- what is left is written, and the type of it is answered -/
def PLft (L : Lw) (w : Tr) : Prop := ∀ (N : List Tr) (s : Tr) (d n V T B v : Nat) (σ : CS), HT L w N false s → N.length = n → WP L N σ V T B → V + 5 * (51 - (T - B)) ≤ 3072 → 2 * (51 - (T - B)) ≤ d → rpK σ V T false w v →
  (T + ln w ≤ B + 50 → ∃ r τ V', (G_Writer d).2.2 (i32 v) (i32 n) σ = some (i32 r, τ) ∧ WOk σ τ V T (5 * ln w) n w V' ∧ tyS τ V' (T + ln w) s r) ∧ (¬ (T + ln w ≤ B + 50) → ∃ r τ, (G_Writer d).2.2 (i32 v) (i32 n) σ = some (r, τ) ∧ WBig σ τ V T B (5 * (51 - (T - B))) n)
/-- a value is written by its type -/
def Wr (L : Lw) (N : List Tr) (s : Tr) (n : Nat) (P : CS → Nat → Nat → Nat → Prop) (t : Tr) (w : Nat) : Prop := ∀ (d V T B a v : Nat) (σ : CS), WP L N σ V T B → V + w + 5 * (51 - (T - B)) ≤ 3072 → 2 * (51 - (T - B)) + 1 ≤ d → tyS σ V T s a → P σ V T v →
  (T + ln t ≤ B + 50 ∧ dp t n → ∃ τ V', (G_Writer d).2.1 (i32 a) (i32 v) (i32 n) σ = some (0, τ) ∧ WOk σ τ V T (w + 5 * ln t) n t V') ∧ (¬ (T + ln t ≤ B + 50 ∧ dp t n) → ∃ τ, (G_Writer d).2.1 (i32 a) (i32 v) (i32 n) σ = some (0, τ) ∧ WBig σ τ V T B (w + 5 * (51 - (T - B))) n)
theorem left_go {d v k V : Nat} {σ : CS} (x2 : Int32) (h0 : σ.1 44 3 = i32 0) (hV : σ.1 38 4 = i32 V) (h1 : 1 ≤ v) (hv : v < V) (hV2 : V ≤ 3072) (hk : σ.1 39 v = i32 k) : (G_Writer (d + 1)).2.2 (i32 v) x2 σ = (if i32 k = 1 then (f_Writer_put (48 + σ.1 40 v) σ).bind fun q3 => f_Values_typeOfVariable (σ.1 40 v) q3.2 else if i32 k = 2 then (f_Writer_put (σ.1 40 v) σ).bind fun q5 => f_Values_typeOfConstant (σ.1 40 v) q5.2 else if i32 k = 3 then (f_Writer_put 46 σ).bind fun q7 => ((G_Writer d).2.2 (σ.1 40 v) x2 q7.2).bind fun q8 => (f_Values_rightOf (i32 v) q8.2).bind fun q9 => (f_Values_firstType q8.1 q9.2).bind fun q10 => ((G_Writer d).2.1 q10.1 q9.1 x2 q10.2).bind fun q11 => f_Values_secondType q8.1 q9.1 q11.2 else if i32 k = 4 then (f_Writer_put 60 σ).bind fun q13 => ((G_Writer d).2.2 (σ.1 40 v) x2 q13.2).bind fun q14 => f_Values_firstType q14.1 q14.2 else if i32 k = 5 then (f_Writer_put 62 σ).bind fun q16 => ((G_Writer d).2.2 (σ.1 40 v) x2 q16.2).bind fun q17 => (f_Values_firstOf (σ.1 40 v) q17.2).bind fun q18 => f_Values_secondType q17.1 q18.1 q18.2 else some (0, sI σ 44 3 1)) := by
  show F_Writer_putLeft (G_Writer d).1 (G_Writer d).2.1 (G_Writer d).2.2 _ _ _ = _
  unfold F_Writer_putLeft
  rw [if_pos (show σ.1 44 3 = 0 from h0), k_leftOf hV h1 hv hV2, Option.bind_some]
  dsimp only
  rw [k_kindOf hV h1 hv hV2, Option.bind_some]
  dsimp only
  rw [hk]
  simp only [obid]
theorem WBig_V {σ τ : CS} {V T B c n : Nat} (h : WBig σ τ V T B c n) (h1 : 1 ≤ V) (hc : V + c ≤ 3072) : ∃ V', τ.1 38 4 = i32 V' ∧ 1 ≤ V' ∧ V' ≤ 3072 ∧ ∃ T', τ.1 34 1 = i32 T' ∧ T' ≤ B + 50 := by
  obtain ⟨V', T', a1, a2, a3, a4, a5, a6, a7⟩ := h
  exact ⟨V', a1, by omega, by omega, T', a4, a6⟩
theorem V_uq {σ : CS} {j k V V' : Nat} (h : σ.1 j k = i32 V) (h' : σ.1 j k = i32 V') (a : V ≤ 3072) (b : V' ≤ 3072) : V' = V := by
  rw [h] at h'
  have hb := z_eq (a := V) (b := V') (by omega) (by omega)
  exact (hb ▸ h').symm
/-- after it is too large: nodes that nobody reads -/
theorem Big_step {σ τ υ : CS} {V T B c n d V1 : Nat} (h : WBig σ τ V T B c n) (hc : V + c ≤ 3072) (hV1 : τ.1 38 4 = i32 V1) (hV12 : V1 ≤ 3072) (hj : JK τ υ V1 d) : WBig σ υ V T B (c + d) n := by
  obtain ⟨V2, T2, a1, a2, a3, a4, a5, a6, a7, a8⟩ := h
  have e1 := V_uq hV1 a1 hV12 (by omega)
  subst e1
  obtain ⟨V3, b1, b2, b3, b4, b5, b6⟩ := hj
  exact ⟨V3, T2, b1, by omega, by omega, by rw [b6.2.1 34 (by decide)]; exact a4, a5, a6, by rw [b6.2.1 44 (by decide)]; exact a7, WF_tr a8 (WF_AV (n := n) (b5 T) b6) a2 (Nat.le_refl _) (Nat.le_refl _)⟩
/-- a name or a constant -/
theorem PLft_leaf {L : Lw} (hL : L.2.length ≤ 4) (c : Nat) : PLft L (.leaf c) := by
  intro N s d n V T B v σ h hN hW hb hd hr
  obtain ⟨g0, g1, g2⟩ := id hr
  have hW' := hW
  obtain ⟨w1, w2, w3, w4, w5, w6, w7, w8, w9, w10, w11, w12⟩ := hW
  obtain ⟨d, rfl⟩ : ∃ k, d = k + 1 := ⟨d - 1, by omega⟩
  have hdS' : hdS L N c = some s := by
    simp only [HT] at h
    rcases h with ⟨h, _⟩ | ⟨_, h⟩
    · simp at h
    · exact h
  unfold hdS at hdS'
  split at hdS'
  · rename_i hc
    have hlt := (List.getElem?_eq_some_iff.mp hdS').1
    have hk : σ.1 39 v = i32 1 ∧ σ.1 40 v = i32 (c - 48) := by
      rcases g2 with ⟨_, _, a, b⟩ | ⟨a, b, _⟩ | ⟨a, _⟩
      · exact ⟨a, b⟩
      · omega
      · omega
    have hgo := left_go (d := d) (i32 n) w10 w6 g0 g1 w8 hk.1
    rw [if_pos (show i32 1 = 1 from rfl), hk.2, show (48 : Int32) + i32 (c - 48) = i32 c from by rw [z48, z_add]; congr 1; omega] at hgo
    rw [ln_leaf (by omega)]
    obtain ⟨q, q1, q2⟩ := w12 _ _ hdS'
    constructor
    · intro hT
      rw [k_put1 hW' (by omega) (by omega) (by omega), Option.bind_some] at hgo
      dsimp only at hgo
      rw [k_typeOfVar (by omega), pw_row _ _ _ (by decide) (by decide), q1] at hgo
      have hf := pw_WF σ T c V n
      refine ⟨q, _, V, hgo, ⟨by rw [pw_row _ _ _ (by decide) (by decide)]; exact w6, Nat.le_refl _, by omega, by rw [pw_341, ln_leaf (by omega)], fun _ => pw_35 _ _ _, by rw [pw_row _ _ _ (by decide) (by decide)]; exact w10, hf⟩, tyS_kp hf.1 (WF_fx hf) (Nat.le_refl _) (by omega) q2⟩
    · intro hT
      rw [k_put0 _ hW' (by omega), Option.bind_some] at hgo
      dsimp only at hgo
      rw [k_typeOfVar (by omega)] at hgo
      exact ⟨_, _, hgo, WBig_c (tl_Big hW' n) (by omega)⟩
  · split at hdS'
    · rename_i hc1 hc2
      cases hA : L.2[c - 97]? with
      | none => rw [hA] at hdS'; simp at hdS'
      | some A =>
        rw [hA] at hdS'
        simp at hdS'
        have hlt := (List.getElem?_eq_some_iff.mp hA).1
        have hk : σ.1 39 v = i32 2 ∧ σ.1 40 v = i32 c := by
          rcases g2 with ⟨a, b, _⟩ | ⟨_, _, a, b⟩ | ⟨a, _⟩
          · omega
          · exact ⟨a, b⟩
          · omega
        have hgo := left_go (d := d) (i32 n) w10 w6 g0 g1 w8 hk.1
        rw [if_neg (show ¬ (i32 2 = 1) from by decide), if_pos (show i32 2 = 2 from rfl), hk.2] at hgo
        rw [ln_leaf (by omega)]
        constructor
        · intro hT
          rw [k_put1 hW' (by omega) (by omega) (by omega), Option.bind_some] at hgo
          dsimp only at hgo
          have hf := pw_WF σ T c V n
          have hP := WP_pw hW' (by omega) c
          obtain ⟨l, e1, e2⟩ := k_typeOfConst hL hP.1 hc2 hA hP.2.2.2.2.2.1 w7 (by omega)
          rw [e1] at hgo
          have cM := mkn_ch (A := AV) (pw σ T c) V 10 l 0 (fun _ h => h)
          have kM := mkn_kp (pw σ T c) V 10 l 0 T
          refine ⟨V, _, V + 1, hgo, ⟨mkn_V _ _ _ _ _, by omega, by omega, by rw [cM.2.1 34 (by decide), pw_341, ln_leaf (by omega)], fun _ => by rw [cM.2.1 35 (by decide)]; exact pw_35 _ _ _, by rw [cM.2.1 44 (by decide), pw_row _ _ _ (by decide) (by decide)]; exact w10, WF_tr hf (WF_AV (n := n) kM cM) (Nat.le_refl _) (Nat.le_refl _) (Nat.le_refl _)⟩, by rw [← hdS']; exact e2⟩
        · intro hT
          rw [k_put0 _ hW' (by omega), Option.bind_some] at hgo
          dsimp only at hgo
          have hB := tl_Big hW' n
          have hV' : (sI σ 44 3 1).1 38 4 = i32 V := by rw [sI_ne _ _ (Or.inl (by decide))]; exact w6
          obtain ⟨y, τ, e1, e2⟩ := k_typeOfConstT (i32 c) hV' w7 w8
          exact ⟨y, τ, by rw [hgo, e1], WBig_c (Big_step hB (by omega) hV' w8 e2) (by omega)⟩
    · simp at hdS'
/-- a component of what is left -/
theorem PLft_fst {L : Lw} {a : Tr} (ha : PLft L a) : PLft L (.branch 60 a (.leaf 0)) := by
  intro N s d n V T B v σ h hN hW hb hd hr
  obtain ⟨g0, g1, g2⟩ := id hr
  have hW' := hW
  obtain ⟨w1, w2, w3, w4, w5, w6, w7, w8, w9, w10, w11, w12⟩ := hW
  obtain ⟨d, rfl⟩ : ∃ k, d = k + 1 + 1 := ⟨d - 2, by omega⟩
  obtain ⟨y, hy⟩ : ∃ y, HT L a N false (.branch 83 s y) := by
    simp only [HT] at h
    rcases h with ⟨h, _⟩ | ⟨h, _⟩ | ⟨_, ⟨h, _⟩ | ⟨_, _, y, h⟩ | ⟨h, _⟩⟩
    · simp at h
    · simp at h
    · simp at h
    · exact ⟨y, h⟩
    · simp at h
  obtain ⟨hk, p, h40, hp⟩ : σ.1 39 v = i32 4 ∧ ∃ p, σ.1 40 v = i32 p ∧ rpK σ V T false a p := by
    rcases g2 with ⟨a, _⟩ | ⟨a, _⟩ | ⟨_, _, a, b⟩ | ⟨a, _⟩ | ⟨a, _⟩
    · omega
    · omega
    · exact ⟨a, b⟩
    · omega
    · omega
  have hgo := left_go (d := d + 1) (i32 n) w10 w6 g0 g1 w8 hk
  rw [if_neg (show ¬ (i32 4 = 1) from by decide), if_neg (show ¬ (i32 4 = 2) from by decide), if_neg (show ¬ (i32 4 = 3) from by decide), if_pos (show i32 4 = 4 from rfl), h40] at hgo
  have hl : ln (.branch 60 a (.leaf 0)) = 1 + ln a := by rw [ln_br, ln_0, Nat.add_zero]
  rw [hl]
  by_cases hT : T < B + 50
  · rw [show (60 : Int32) = i32 60 from rfl, k_put1 hW' (by omega) (by omega) hT, Option.bind_some] at hgo
    dsimp only at hgo
    have hP := WP_pw hW' hT 60
    have hf := pw_WF σ T 60 V n
    have hpw := rK_kp hf.1 (WF_fx hf) (Nat.le_refl V) (show T ≤ T + 1 by omega) _ _ _ hp
    have run := ha N (.branch 83 s y) (d + 1) n V (T + 1) B p (pw σ T 60) hy hN hP (by omega) (by omega) hpw
    constructor
    · intro hT2
      obtain ⟨r, τ, V1, r1, ⟨r2, r3, r4, r5, r6, r7, r8⟩, r9⟩ := run.1 (by omega)
      rw [r1, Option.bind_some] at hgo
      dsimp only at hgo
      obtain ⟨l, x, e1, e2⟩ := k_firstType r2 (by omega) (by omega) r9
      rw [e1] at hgo
      have cM := mkn_ch (A := AV) τ V1 10 l x (fun _ h => h)
      have kM := mkn_kp τ V1 10 l x (T + (1 + ln a))
      have hff := WF_tr hf r8 (Nat.le_refl _) (by omega) (Nat.le_refl _)
      refine ⟨V1, _, V1 + 1, hgo, ⟨mkn_V _ _ _ _ _, by omega, by omega, by rw [cM.2.1 34 (by decide), r5, hl]; congr 1; omega, ⟨?_, ?_, fun h => absurd rfl h⟩, by rw [cM.2.1 44 (by decide)]; exact r7, WF_tr hff (WF_AV (n := n) kM cM) (by omega) (by omega) (Nat.le_refl _)⟩, ?_⟩
      · rw [cM.2.1 35 (by decide), r8.1.2 T (by omega)]; exact pw_35 _ _ _
      · rw [cM.2.1 35 (by decide)]; exact r6
      · rw [show T + (1 + ln a) = T + 1 + ln a by omega]; exact e2
    · intro hT2
      obtain ⟨r, τ, r1, r2⟩ := run.2 (by omega)
      rw [r1, Option.bind_some] at hgo
      dsimp only at hgo
      obtain ⟨V1, v1, v2, v3, T1, t1, t2⟩ := WBig_V r2 w7 (by omega)
      obtain ⟨y, υ, e1, e2⟩ := k_firstTypeT v1 v2 v3 r
      refine ⟨y, υ, by rw [hgo, e1], WBig_tr (c1 := 5 * (51 - (T + 1 - B)) + 1) hf (Nat.le_refl _) (by omega) (Nat.le_refl _) (by omega) (Big_step r2 (by omega) v1 v3 e2)⟩
  · refine ⟨fun h => absurd h (by omega), fun _ => ?_⟩
    rw [k_put0 _ hW' (by omega), Option.bind_some] at hgo
    dsimp only at hgo
    have hB := tl_Big hW' n
    rw [left_big _ _ (tl_ne hB), Option.bind_some] at hgo
    dsimp only at hgo
    have hV' : (sI σ 44 3 1).1 38 4 = i32 V := by rw [sI_ne _ _ (Or.inl (by decide))]; exact w6
    obtain ⟨y, τ, e1, e2⟩ := k_firstTypeT hV' w7 w8 0
    exact ⟨y, τ, by rw [hgo, e1], WBig_c (Big_step hB (by omega) hV' w8 e2) (by omega)⟩
theorem PLft_snd {L : Lw} {a : Tr} (ha : PLft L a) : PLft L (.branch 62 a (.leaf 0)) := by
  intro N s d n V T B v σ h hN hW hb hd hr
  obtain ⟨g0, g1, g2⟩ := id hr
  have hW' := hW
  obtain ⟨w1, w2, w3, w4, w5, w6, w7, w8, w9, w10, w11, w12⟩ := hW
  obtain ⟨d, rfl⟩ : ∃ k, d = k + 1 + 1 := ⟨d - 2, by omega⟩
  obtain ⟨y, hy⟩ : ∃ y, HT L a N false (.branch 83 y s) := by
    simp only [HT] at h
    rcases h with ⟨h, _⟩ | ⟨h, _⟩ | ⟨_, ⟨h, _⟩ | ⟨h, _⟩ | ⟨_, _, y, h⟩⟩
    · simp at h
    · simp at h
    · simp at h
    · simp at h
    · exact ⟨y, h⟩
  obtain ⟨hk, p, h40, hp⟩ : σ.1 39 v = i32 5 ∧ ∃ p, σ.1 40 v = i32 p ∧ rpK σ V T false a p := by
    rcases g2 with ⟨a, _⟩ | ⟨a, _⟩ | ⟨a, _⟩ | ⟨_, _, a, b⟩ | ⟨a, _⟩
    · omega
    · omega
    · omega
    · exact ⟨a, b⟩
    · omega
  have hgo := left_go (d := d + 1) (i32 n) w10 w6 g0 g1 w8 hk
  rw [if_neg (show ¬ (i32 5 = 1) from by decide), if_neg (show ¬ (i32 5 = 2) from by decide), if_neg (show ¬ (i32 5 = 3) from by decide), if_neg (show ¬ (i32 5 = 4) from by decide), if_pos (show i32 5 = 5 from rfl), h40] at hgo
  have hl : ln (.branch 62 a (.leaf 0)) = 1 + ln a := by rw [ln_br, ln_0, Nat.add_zero]
  rw [hl]
  by_cases hT : T < B + 50
  · rw [show (62 : Int32) = i32 62 from rfl, k_put1 hW' (by omega) (by omega) hT, Option.bind_some] at hgo
    dsimp only at hgo
    have hP := WP_pw hW' hT 62
    have hf := pw_WF σ T 62 V n
    have hpw := rK_kp hf.1 (WF_fx hf) (Nat.le_refl V) (show T ≤ T + 1 by omega) _ _ _ hp
    have run := ha N (.branch 83 y s) (d + 1) n V (T + 1) B p (pw σ T 62) hy hN hP (by omega) (by omega) hpw
    constructor
    · intro hT2
      obtain ⟨r, τ, V1, r1, ⟨r2, r3, r4, r5, r6, r7, r8⟩, r9⟩ := run.1 (by omega)
      rw [r1, Option.bind_some] at hgo
      dsimp only at hgo
      have hpa := rK_kp r8.1 (WF_fx r8) r3 (show T + 1 ≤ T + 1 + ln a by omega) _ _ _ hpw
      obtain ⟨v', τ2, V2, f1, f2, f3, ⟨f4, _⟩, f5, f6, f7, f8⟩ := k_first hpa r2 (by omega) (by omega)
      rw [f1, Option.bind_some] at hgo
      dsimp only at hgo
      obtain ⟨l, x, l', e1, e2, e3, e4⟩ := k_secondType (i32 v') (T := T + 1 + ln a) (by rw [f7.2.1 34 (by decide)]; exact r5) (by omega) f2 (by omega) (by omega) (tyS_kp f6 (cK_fx f7 n36V) f3 (Nat.le_refl _) r9)
      rw [e1] at hgo
      have cM := mkn_ch (A := AV) τ2 V2 9 (i32 v') x (fun _ h => h)
      have kM := mkn_kp τ2 V2 9 (i32 v') x (T + (1 + ln a))
      have cM2 := mkn_ch (A := AV) (mkn τ2 V2 9 (i32 v') x) (V2 + 1) 10 l' (i32 V2) (fun _ h => h)
      have kM2 := mkn_kp (mkn τ2 V2 9 (i32 v') x) (V2 + 1) 10 l' (i32 V2) (T + (1 + ln a))
      have c3 := cK_tr f7 (cK_tr cM cM2)
      have hff := WF_tr hf r8 (Nat.le_refl _) (by omega) (Nat.le_refl _)
      have hf3 : WF τ (mkn (mkn τ2 V2 9 (i32 v') x) (V2 + 1) 10 l' (i32 V2)) V1 (T + (1 + ln a)) n := WF_AV (kK_tr (by rw [show T + (1 + ln a) = T + 1 + ln a by omega]; exact f6) (kK_tr kM kM2 (by omega) (Nat.le_refl _)) f3 (Nat.le_refl _)) c3
      refine ⟨V2 + 1, _, V2 + 2, hgo, ⟨mkn_V _ _ _ _ _, by omega, by omega, by rw [c3.2.1 34 (by decide), r5, hl]; congr 1; omega, ⟨?_, ?_, fun h => absurd rfl h⟩, by rw [c3.2.1 44 (by decide)]; exact r7, WF_tr hff hf3 (by omega) (by omega) (Nat.le_refl _)⟩, ?_⟩
      · rw [c3.2.1 35 (by decide), r8.1.2 T (by omega)]; exact pw_35 _ _ _
      · rw [c3.2.1 35 (by decide)]; exact r6
      · rw [show T + (1 + ln a) = T + 1 + ln a by omega]; exact e4
    · intro hT2
      obtain ⟨r, τ, r1, r2⟩ := run.2 (by omega)
      rw [r1, Option.bind_some] at hgo
      dsimp only at hgo
      obtain ⟨V1, v1, v2, v3, T1, t1, t2⟩ := WBig_V r2 w7 (by omega)
      obtain ⟨y, υ, e1, e2⟩ := k_firstOfT v1 v2 v3 (i32 p)
      rw [e1, Option.bind_some] at hgo
      dsimp only at hgo
      have B2 := Big_step r2 (by omega) v1 v3 e2
      obtain ⟨V2, u1, u2, u3, T2, s1, s2⟩ := WBig_V B2 w7 (by omega)
      obtain ⟨z, ω, e3, e4⟩ := k_secondTypeT u1 u2 u3 s1 (by omega) r y
      exact ⟨z, ω, by rw [hgo, e3], WBig_tr (c1 := 5 * (51 - (T + 1 - B)) + 1 + 2) hf (Nat.le_refl _) (by omega) (Nat.le_refl _) (by omega) (Big_step B2 (by omega) u1 u3 e4)⟩
  · refine ⟨fun h => absurd h (by omega), fun _ => ?_⟩
    rw [k_put0 _ hW' (by omega), Option.bind_some] at hgo
    dsimp only at hgo
    have hB := tl_Big hW' n
    rw [left_big _ _ (tl_ne hB), Option.bind_some] at hgo
    dsimp only at hgo
    have hV' : (sI σ 44 3 1).1 38 4 = i32 V := by rw [sI_ne _ _ (Or.inl (by decide))]; exact w6
    obtain ⟨y, τ, e1, e2⟩ := k_firstOfT hV' w7 w8 (i32 p)
    rw [e1, Option.bind_some] at hgo
    dsimp only at hgo
    have B2 := Big_step hB (by omega) hV' w8 e2
    obtain ⟨V2, u1, u2, u3, T2, s1, s2⟩ := WBig_V B2 w7 (by omega)
    obtain ⟨z, ω, e3, e4⟩ := k_secondTypeT u1 u2 u3 s1 (by omega) 0 y
    exact ⟨z, ω, by rw [hgo, e3], WBig_c (Big_step B2 (by omega) u1 u3 e4) (by omega)⟩
end KLEFT
