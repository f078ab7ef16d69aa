section KJOIN
variable {L : Lw} {N : List Tr}
theorem k_putBig {σ τ : CS} {V T B c n : Nat} (x : Int32) (h : WBig σ τ V T B c n) : ∃ υ, f_Writer_put x τ = some (0, υ) ∧ WBig σ υ V T B c n := by
  have h3 := tl_ne h
  have g := WBig_44 h
  have g3 := tl_ne g
  unfold f_Writer_put B_Writer_put_21 B_Writer_put_26 B_Writer_put_49
  by_cases h1 : 50 ≤ τ.1 34 1 - τ.1 44 2
  · rw [if_pos h1, if_neg g3]
    exact ⟨_, rfl, g⟩
  · rw [if_neg h1]
    by_cases h2 : x = 0
    · rw [if_pos h2, if_neg g3]
      exact ⟨_, rfl, g⟩
    · rw [if_neg h2, if_neg h3]
      exact ⟨_, rfl, h⟩
theorem copy_big {σ : CS} {V T B c n e : Nat} (he : e < 100000) : ∀ (d F i : Nat) (τ : CS), i + d = e → d < F → WBig σ τ V T B c n → ∃ υ, L_Writer_putCopy_17 F (i32 e) (i32 i) τ = some (0, υ) ∧ WBig σ υ V T B c n := by
  intro d
  induction d with
  | zero =>
    intro F i τ hi hF h
    obtain ⟨G, rfl⟩ : ∃ G, F = G + 1 := ⟨F - 1, by omega⟩
    exact ⟨τ, by rw [L_Writer_putCopy_17, if_pos (show i32 e ≤ i32 i from by rw [z_le (by omega) (by omega)]; omega)], h⟩
  | succ d ih =>
    intro F i τ hi hF h
    obtain ⟨G, rfl⟩ : ∃ G, F = G + 1 := ⟨F - 1, by omega⟩
    obtain ⟨y, e1, _⟩ := k_atT (i32 i) τ
    obtain ⟨υ, e2, h2⟩ := k_putBig y h
    obtain ⟨ω, e3, h3⟩ := ih G (i + 1) υ (by omega) (by omega) h2
    refine ⟨ω, ?_, h3⟩
    rw [L_Writer_putCopy_17, if_neg (show ¬ (i32 e ≤ i32 i) from by rw [z_le (by omega) (by omega)]; omega), e1, Option.bind_some]
    dsimp only
    rw [e2, Option.bind_some]
    dsimp only
    rw [show i32 i + 1 = i32 (i + 1) from by rw [z1, z_add]]
    exact e3
theorem copy_go {t : Tr} {a V T B n : Nat} (ht : ∀ x ∈ enc t, x < 128) (h0 : ∀ x ∈ enc t, x ≠ 0) (ha : a + ln t ≤ T) (hN : N.length ≤ n) : ∀ (d F k : Nat) (σ : CS), k + d = ln t → d < F → WP L N σ V (T + k) B → fm (σ.1 35) t a → (∀ j, j < k → σ.1 35 (T + j) = i32 ((enc t).getD j 0)) →
    (T + ln t ≤ B + 50 → ∃ τ, L_Writer_putCopy_17 F (i32 (a + ln t)) (i32 (a + k)) σ = some (0, τ) ∧ WP L N τ V (T + ln t) B ∧ (∀ j, j < ln t → τ.1 35 (T + j) = i32 ((enc t).getD j 0)) ∧ WF σ τ V T n) ∧ (¬ (T + ln t ≤ B + 50) → ∃ τ, L_Writer_putCopy_17 F (i32 (a + ln t)) (i32 (a + k)) σ = some (0, τ) ∧ WBig σ τ V T B 0 n) := by
  intro d
  induction d with
  | zero =>
    intro F k σ hk hF hW hf hj
    obtain ⟨G, rfl⟩ : ∃ G, F = G + 1 := ⟨F - 1, by omega⟩
    obtain rfl : k = ln t := by omega
    have hB := hW.2.2.2.1
    have hb2 := hW.2.2.2.2.1
    refine ⟨fun _ => ⟨σ, ?_, hW, hj, WF_rf _ _ _ _⟩, fun h => absurd hB h⟩
    rw [L_Writer_putCopy_17, if_pos (show i32 (a + ln t) ≤ i32 (a + ln t) from by rw [z_le (by omega) (by omega)]; exact Nat.le_refl _)]
  | succ d ih =>
    intro F k σ hk hF hW hf hj
    obtain ⟨G, rfl⟩ : ∃ G, F = G + 1 := ⟨F - 1, by omega⟩
    have hW' := hW
    obtain ⟨w1, w2, w3, w4, w5, w6, w7, w8, w9, w10, w11, w12⟩ := hW
    have hkl : k < (enc t).length := by unfold ln at hk; omega
    have hmem : (enc t).getD k 0 ∈ enc t := by
      rw [List.getD_eq_getElem?_getD, List.getElem?_eq_getElem hkl]
      exact List.getElem_mem hkl
    have h128 := ht _ hmem
    have hne := h0 _ hmem
    have hstep : ∀ (y : Int32) (τ : CS), f_Writer_put (i32 ((enc t).getD k 0)) σ = some (y, τ) → L_Writer_putCopy_17 (G + 1) (i32 (a + ln t)) (i32 (a + k)) σ = L_Writer_putCopy_17 G (i32 (a + ln t)) (i32 (a + (k + 1))) τ := fun y τ he => by
      rw [L_Writer_putCopy_17, if_neg (show ¬ (i32 (a + ln t) ≤ i32 (a + k)) from by rw [z_le (by omega) (by omega)]; omega), k_at w2 (by omega) (by omega), Option.bind_some]
      dsimp only
      rw [(fm_iff t a).mp hf k (by omega), he, Option.bind_some]
      dsimp only
      rw [show i32 (a + k) + 1 = i32 (a + (k + 1)) from by rw [z1, z_add, Nat.add_assoc]]
    by_cases hT : T + k < B + 50
    · have e1 := k_put1 hW' (by omega) hne hT
      rw [hstep _ _ e1]
      have fW : WF σ (pw σ (T + k) ((enc t).getD k 0)) V T n := by
        have := pw_WF σ (T + k) ((enc t).getD k 0) V n
        exact ⟨kK_le this.1 (Nat.le_refl _) (by omega), this.2.1, this.2.2.1, this.2.2.2⟩
      have run := ih G (k + 1) (pw σ (T + k) ((enc t).getD k 0)) (by omega) (by omega) (WP_pw hW' hT _) (kK_fm fW.1 hf ha) (fun j hj' => by
        by_cases hjk : j = k
        · rw [hjk]; exact pw_35 _ _ _
        · rw [(pw_kp σ (T + k) ((enc t).getD k 0) V).2 (T + j) (by omega)]
          exact hj j (by omega))
      refine ⟨fun h => ?_, fun h => ?_⟩
      · obtain ⟨τ, r1, r2, r3, r4⟩ := run.1 h
        exact ⟨τ, r1, r2, r3, WF_tr fW r4 (Nat.le_refl _) (Nat.le_refl _) (Nat.le_refl _)⟩
      · obtain ⟨τ, r1, r2⟩ := run.2 h
        exact ⟨τ, r1, WBig_tr fW (Nat.le_refl _) (Nat.le_refl _) (Nat.le_refl _) (Nat.le_refl _) r2⟩
    · refine ⟨fun h => absurd h (by omega), fun _ => ?_⟩
      have e1 := k_put0 (i32 ((enc t).getD k 0)) hW' (by omega)
      rw [hstep _ _ e1]
      have hB : WBig σ (sI σ 44 3 1) V T B 0 n := by
        obtain ⟨V', T', a1, a2, a3, a4, a5, a6, a7, a8⟩ := tl_Big hW' n
        exact ⟨V', T', a1, a2, a3, a4, by omega, a6, a7, ⟨kK_le a8.1 (Nat.le_refl _) (by omega), a8.2⟩⟩
      exact copy_big (by omega) d G (a + (k + 1)) _ (by omega) (by omega) hB
theorem pr_ne0 {f : Nat → Bool} : ∀ (t : Tr), pr f t → ∀ x ∈ enc t, x ≠ 0 := by
  intro t
  induction t with
  | leaf s =>
    intro h x hx
    unfold enc at hx
    rw [if_neg h.1] at hx
    simp at hx
    rw [hx]; exact h.1
  | branch s a b iha ihb =>
    intro h x hx
    unfold enc at hx
    simp only [List.mem_cons, List.mem_append] at hx
    rcases hx with rfl | hx | hx
    · exact h.1
    · rcases h.2.2 with ⟨_, ha, _⟩ | ⟨_, ha, _⟩
      · exact iha ha x hx
      · exact iha ha x hx
    · rcases h.2.2 with ⟨_, _, hb⟩ | ⟨_, _, hb⟩
      · exact ihb hb x hx
      · subst hb; simp [enc] at hx
/-- a form is copied to what is written -/
theorem k_putCopy {σ : CS} {t : Tr} {a V T B n : Nat} (hN : N.length ≤ n) (hW : WP L N σ V T B) (hp : pr (fxK σ) t) (hf : fm (σ.1 35) t a) (ha : a + ln t ≤ T) : (T + ln t ≤ B + 50 → ∃ τ, f_Writer_putCopy (i32 a) σ = some (0, τ) ∧ WP L N τ V (T + ln t) B ∧ fm (τ.1 35) t T ∧ WF σ τ V T n) ∧ (¬ (T + ln t ≤ B + 50) → ∃ τ, f_Writer_putCopy (i32 a) σ = some (0, τ) ∧ WBig σ τ V T B 0 n) := by
  have hW' := hW
  obtain ⟨w1, w2, w3, w4, w5, w6⟩ := hW
  have run := copy_go (L := L) (N := N) (n := n) (pr_lt t hp) (pr_ne0 t hp) ha hN (ln t) 10000 0 σ (by omega) (by omega) hW' hf (fun j hj => absurd hj (by omega))
  have e : f_Writer_putCopy (i32 a) σ = L_Writer_putCopy_17 10000 (i32 (a + ln t)) (i32 (a + 0)) σ := by
    unfold f_Writer_putCopy
    rw [if_neg (i_ne1 (a := a) (by omega)), k_behind w2 (by omega) hp hf ha, Option.bind_some]
    rfl
  rw [e]
  refine ⟨fun h => ?_, run.2⟩
  obtain ⟨τ, r1, r2, r3, r4⟩ := run.1 h
  exact ⟨τ, r1, r2, (fm_iff t T).mpr r3, r4⟩
theorem k_putCopyBig {σ τ : CS} {t : Tr} {a V T B c n : Nat} (hB : B + 50 ≤ 3600) (h : WBig σ τ V T B c n) (hp : pr (fxK σ) t) (hf : fm (σ.1 35) t a) (ha : a + ln t ≤ T) : ∃ υ, f_Writer_putCopy (i32 a) τ = some (0, υ) ∧ WBig σ υ V T B c n := by
  have h' := h
  obtain ⟨V', T', a1, a2, a3, a4, a5, a6, a7, a8⟩ := h
  have e := k_behind a4 (by omega) (by rw [WF_fx a8]; exact hp) (kK_fm a8.1 hf ha) (show a + ln t ≤ T' by omega)
  obtain ⟨υ, e1, e2⟩ := copy_big (e := a + ln t) (by omega) (ln t) 10000 a τ rfl (by omega) h'
  refine ⟨υ, ?_, e2⟩
  unfold f_Writer_putCopy
  rw [if_neg (i_ne1 (a := a) (by omega)), e, Option.bind_some]
  exact e1
theorem putCopy_no (σ : CS) : f_Writer_putCopy (-1) σ = some (0, σ) := by
  unfold f_Writer_putCopy
  rw [if_pos rfl]
/-- what putting together answers -/
def JoinO (σ τ : CS) (V T p n : Nat) (t : Tr) (r : Int32) : Prop := kpK σ τ V T ∧ chK AS σ τ ∧ (∀ k, k < n → τ.1 42 k = σ.1 42 k) ∧ τ.1 43 7 = σ.1 43 7 ∧ τ.1 38 4 = i32 V ∧ ∃ T', τ.1 34 1 = i32 T' ∧ T ≤ T' ∧ T' ≤ T + 50 ∧ ((ln t ≤ 50 ∧ r = i32 T ∧ fm (τ.1 35) t T ∧ T' = T + ln t) ∨ (¬ (ln t ≤ 50) ∧ r = -1 ∧ τ.1 43 8 = i32 p))
/-- the end of putting together -/
theorem join_fin {σ τ : CS} {V T p n c : Nat} {t : Tr} {x2 x3 : Int32} (hR : RdP L N σ V T) (hT : T + 50 ≤ 3600)
    (hgo : f_Writer_join (i32 c) x2 x3 σ = (f_Writer_written τ).bind fun q5 => some (q5.1, q5.2)) (h : (ln t ≤ 50 ∧ WP L N τ V (T + ln t) T ∧ fm (τ.1 35) t T ∧ WF (bgW σ T) τ V T n) ∨ (¬ (ln t ≤ 50) ∧ WBig (bgW σ T) τ V T T 0 n)) : ∃ r τ', f_Reader_join (i32 c) x2 x3 (i32 p) σ = some (r, τ') ∧ JoinO σ τ' V T p n t r := by
  have hk := bgW_kp σ T V T
  have hc := bgW_ch σ T
  unfold f_Reader_join
  rw [hgo, obid]
  rcases h with ⟨h1, h2, h3, h4⟩ | ⟨h1, h2⟩
  · have ew : f_Writer_written τ = some (i32 T, τ) := by
      unfold f_Writer_written B_Writer_written_15
      rw [if_pos (show τ.1 44 3 = 0 from h2.2.2.2.2.2.2.2.2.2.1), h2.2.2.2.2.2.2.2.2.1]
    rw [ew, Option.bind_some]
    dsimp only
    rw [if_neg (i_ne1 (a := T) (by omega))]
    exact ⟨i32 T, τ, rfl, kK_tr hk h4.1 (Nat.le_refl _) (Nat.le_refl _), cWS (cK_tr hc h4.2.1), fun k hk' => by rw [h4.2.2.2 k hk']; exact bgW_ne _ _ _ (by decide), by rw [h4.2.1.2.1 43 (by decide)]; exact bgW_ne _ _ _ (by decide), h2.2.2.2.2.2.1, T + ln t, h2.2.1, by omega, by omega, Or.inl ⟨h1, rfl, h3, rfl⟩⟩
  · have h3 := tl_ne h2
    have ew : f_Writer_written τ = some (-1, τ) := by
      unfold f_Writer_written B_Writer_written_15
      rw [if_neg h3]
    rw [ew, Option.bind_some]
    dsimp only
    rw [if_pos rfl]
    obtain ⟨V', T', a1, a2, a3, a4, a5, a6, a7, a8⟩ := h2
    obtain rfl : V' = V := by omega
    have c8 : chK AS τ (sI τ 43 8 (i32 p)) := cK_sI τ _ (by decide) (by omega) (by omega)
    exact ⟨-1, sI τ 43 8 (i32 p), rfl, kK_tr (kK_tr hk a8.1 (Nat.le_refl _) (Nat.le_refl _)) (c43_kp τ 8 (i32 p) V' T) (Nat.le_refl _) (Nat.le_refl _), cK_tr (cWS (cK_tr hc a8.2.1)) c8, fun k hk' => by rw [sI_ne _ _ (Or.inl (by decide)), a8.2.2.2 k hk']; exact bgW_ne _ _ _ (by decide), by rw [sI_ne _ _ (Or.inr (by decide)), a8.2.1.2.1 43 (by decide)]; exact bgW_ne _ _ _ (by decide), by rw [sI_ne _ _ (Or.inl (by decide))]; exact a1, T', by rw [sI_ne _ _ (Or.inl (by decide))]; exact a4, a5, a6, Or.inr ⟨h1, rfl, sI_at _ _ _ _⟩⟩
/-- a sign alone -/
theorem k_join0 {σ : CS} {V T p n c : Nat} (hR : RdP L N σ V T) (hN : N.length ≤ n) (hT : T + 50 ≤ 3600) (hc : c ≠ 0) (hc2 : c < 128) : ∃ r τ, f_Reader_join (i32 c) (-1) (-1) (i32 p) σ = some (r, τ) ∧ JoinO σ τ V T p n (.leaf c) r := by
  have hP := WP_begin hR hT
  have hPw := WP_pw hP (by omega) c
  have l1 : ln (.leaf c) = 1 := ln_leaf hc
  refine join_fin (τ := pw (bgW σ T) T c) hR hT ?_ (Or.inl ⟨by rw [l1]; omega, by rw [l1]; exact hPw, fun _ => pw_35 _ _ _, pw_WF _ _ _ _ _⟩)
  unfold f_Writer_join
  rw [k_wbegin hR.2.1, Option.bind_some]
  dsimp only
  rw [k_put1 hP (by omega) hc (by omega), Option.bind_some]
  dsimp only
  rw [putCopy_no, Option.bind_some]
  dsimp only
  rw [putCopy_no, Option.bind_some]
/-- a sign and a part -/
theorem k_join1 {σ : CS} {V T p n c a : Nat} {A : Tr} (hR : RdP L N σ V T) (hN : N.length ≤ n) (hT : T + 50 ≤ 3600) (hc : c ≠ 0) (hc2 : c < 128) (pA : pr (fxK σ) A) (fA : fm (σ.1 35) A a) (bA : a + ln A ≤ T) : ∃ r τ, f_Reader_join (i32 c) (i32 a) (-1) (i32 p) σ = some (r, τ) ∧ JoinO σ τ V T p n (un c A) r := by
  have hP := WP_begin hR hT
  have hPw := WP_pw hP (by omega) c
  have hk := bgW_kp σ T V T
  have f0 := pw_WF (bgW σ T) T c V n
  have k0 := kK_tr hk f0.1 (Nat.le_refl _) (Nat.le_refl _)
  have fx0 : fxK (pw (bgW σ T) T c) = fxK σ := by rw [WF_fx f0, cK_fx (bgW_ch σ T) n36W]
  have l1 : ln (un c A) = 1 + ln A := by
    show ln (.branch c A (.leaf 0)) = _
    rw [ln_br, ln_0, Nat.add_zero]
  have run := k_putCopy (n := n) hN hPw (by rw [fx0]; exact pA) (kK_fm k0 fA bA) (show a + ln A ≤ T + 1 by omega)
  have hg0 : ∀ τ, f_Writer_putCopy (i32 a) (pw (bgW σ T) T c) = some (0, τ) → f_Writer_join (i32 c) (i32 a) (-1) σ = (f_Writer_written τ).bind fun q5 => some (q5.1, q5.2) := fun τ he => by
    unfold f_Writer_join
    rw [k_wbegin hR.2.1, Option.bind_some]
    dsimp only
    rw [k_put1 hP (by omega) hc (by omega), Option.bind_some]
    dsimp only
    rw [he, Option.bind_some]
    dsimp only
    rw [putCopy_no, Option.bind_some]
  by_cases h : T + 1 + ln A ≤ T + 50
  · obtain ⟨τ, r1, r2, r3, r4⟩ := run.1 h
    refine join_fin hR hT (hg0 τ r1) (Or.inl ⟨by omega, by rw [l1, show T + (1 + ln A) = T + 1 + ln A by omega]; exact r2, ⟨?_, r3, fun h => absurd rfl h⟩, WF_tr f0 r4 (Nat.le_refl _) (by omega) (Nat.le_refl _)⟩)
    rw [r4.1.2 T (by omega)]
    exact pw_35 _ _ _
  · obtain ⟨τ, r1, r2⟩ := run.2 h
    exact join_fin hR hT (hg0 τ r1) (Or.inr ⟨by omega, WBig_tr f0 (Nat.le_refl _) (by omega) (Nat.le_refl _) (Nat.le_refl _) r2⟩)
/-- a sign and two parts -/
theorem k_join2 {σ : CS} {V T p n c a b : Nat} {A B : Tr} (hR : RdP L N σ V T) (hN : N.length ≤ n) (hT : T + 50 ≤ 3600) (hc : c ≠ 0) (hc2 : c < 128) (pA : pr (fxK σ) A) (fA : fm (σ.1 35) A a) (bA : a + ln A ≤ T) (pB : pr (fxK σ) B) (fB : fm (σ.1 35) B b) (bB : b + ln B ≤ T) : ∃ r τ, f_Reader_join (i32 c) (i32 a) (i32 b) (i32 p) σ = some (r, τ) ∧ JoinO σ τ V T p n (.branch c A B) r := by
  have hP := WP_begin hR hT
  have hPw := WP_pw hP (by omega) c
  have hk := bgW_kp σ T V T
  have f0 := pw_WF (bgW σ T) T c V n
  have k0 := kK_tr hk f0.1 (Nat.le_refl _) (Nat.le_refl _)
  have fx0 : fxK (pw (bgW σ T) T c) = fxK σ := by rw [WF_fx f0, cK_fx (bgW_ch σ T) n36W]
  have l1 := ln_br c A B
  have pA0 : pr (fxK (pw (bgW σ T) T c)) A := by rw [fx0]; exact pA
  have pB0 : pr (fxK (pw (bgW σ T) T c)) B := by rw [fx0]; exact pB
  have run := k_putCopy (n := n) hN hPw pA0 (kK_fm k0 fA bA) (show a + ln A ≤ T + 1 by omega)
  have hg0 : ∀ τ υ, f_Writer_putCopy (i32 a) (pw (bgW σ T) T c) = some (0, τ) → f_Writer_putCopy (i32 b) τ = some (0, υ) → f_Writer_join (i32 c) (i32 a) (i32 b) σ = (f_Writer_written υ).bind fun q5 => some (q5.1, q5.2) := fun τ υ he he2 => by
    unfold f_Writer_join
    rw [k_wbegin hR.2.1, Option.bind_some]
    dsimp only
    rw [k_put1 hP (by omega) hc (by omega), Option.bind_some]
    dsimp only
    rw [he, Option.bind_some]
    dsimp only
    rw [he2, Option.bind_some]
  by_cases h : T + 1 + ln A ≤ T + 50
  · obtain ⟨τ, r1, r2, r3, r4⟩ := run.1 h
    have f1 := WF_tr f0 r4 (Nat.le_refl _) (by omega) (Nat.le_refl _)
    have k1 := kK_tr hk f1.1 (Nat.le_refl _) (Nat.le_refl _)
    have run2 := k_putCopy (n := n) hN r2 (by rw [WF_fx r4]; exact pB0) (kK_fm k1 fB bB) (show b + ln B ≤ T + 1 + ln A by omega)
    by_cases h2 : T + 1 + ln A + ln B ≤ T + 50
    · obtain ⟨υ, s1, s2, s3, s4⟩ := run2.1 h2
      refine join_fin hR hT (hg0 τ υ r1 s1) (Or.inl ⟨by omega, by rw [l1, show T + (1 + ln A + ln B) = T + 1 + ln A + ln B by omega]; exact s2, ⟨?_, kK_fm s4.1 r3 (Nat.le_refl _), s3⟩, WF_tr f1 s4 (Nat.le_refl _) (by omega) (Nat.le_refl _)⟩)
      rw [s4.1.2 T (by omega), r4.1.2 T (by omega)]
      exact pw_35 _ _ _
    · obtain ⟨υ, s1, s2⟩ := run2.2 h2
      exact join_fin hR hT (hg0 τ υ r1 s1) (Or.inr ⟨by omega, WBig_tr f1 (Nat.le_refl _) (by omega) (Nat.le_refl _) (Nat.le_refl _) s2⟩)
  · obtain ⟨τ, r1, r2⟩ := run.2 h
    have B1 := WBig_tr f0 (Nat.le_refl _) (by omega) (Nat.le_refl _) (Nat.le_refl _) r2
    obtain ⟨υ, s1, s2⟩ := k_putCopyBig hT B1 (by rw [cK_fx (bgW_ch σ T) n36W]; exact pB) (kK_fm hk fB bB) bB
    exact join_fin hR hT (hg0 τ υ r1 s1) (Or.inr ⟨by omega, s2⟩)
/-- is a type data -/
theorem k_isData_l {σ : CS} {t : Tr} {p T : Nat} (hT : σ.1 34 1 = i32 T) (hT2 : T ≤ 3600) (ht : ∀ x ∈ enc t, x < 128) (hf : fm (σ.1 35) t p) (hl : p + ln t ≤ T) : ∀ (d F k : Nat), k + d = ln t → d < F → 80 ∉ (enc t).take k → L_Signs_isData_8 F (i32 (p + ln t)) (i32 (p + k)) σ = some (if 80 ∈ enc t then i32 0 else i32 1, σ) := by
  intro d
  induction d with
  | zero =>
    intro F k hk hF hn
    obtain ⟨G, rfl⟩ : ∃ G, F = G + 1 := ⟨F - 1, by omega⟩
    rw [show (enc t).take k = enc t from List.take_of_length_le (by unfold ln at hk; omega)] at hn
    rw [L_Signs_isData_8, if_pos (show i32 (p + ln t) ≤ i32 (p + k) from by rw [z_le (by omega) (by omega)]; omega), if_neg hn]
    rfl
  | succ d ih =>
    intro F k hk hF hn
    obtain ⟨G, rfl⟩ : ∃ G, F = G + 1 := ⟨F - 1, by omega⟩
    have hkl : k < (enc t).length := by unfold ln at hk; omega
    have et : (enc t).take (k + 1) = (enc t).take k ++ [(enc t).getD k 0] := by
      rw [List.take_succ, List.getElem?_eq_getElem hkl, List.getD_eq_getElem?_getD, List.getElem?_eq_getElem hkl]
      rfl
    have h128 := gD_lt ht k
    rw [L_Signs_isData_8, if_neg (show ¬ (i32 (p + ln t) ≤ i32 (p + k)) from by rw [z_le (by omega) (by omega)]; omega), k_at hT (by omega) hT2, Option.bind_some]
    dsimp only
    rw [(fm_iff t p).mp hf k (by omega)]
    by_cases h80 : (enc t).getD k 0 = 80
    · rw [if_pos (show i32 ((enc t).getD k 0) = 80 from by rw [h80]; rfl), if_pos]
      · rfl
      · rw [← h80, List.getD_eq_getElem?_getD, List.getElem?_eq_getElem hkl]
        exact List.getElem_mem hkl
    · rw [if_neg (show ¬ (i32 ((enc t).getD k 0) = 80) from c_eq (b := 80) h80 (by omega) (by omega)), show i32 (p + k) + 1 = i32 (p + (k + 1)) from by rw [z1, z_add, Nat.add_assoc]]
      refine ih G (k + 1) (by omega) (by omega) ?_
      rw [et, List.mem_append]
      rintro (h' | h')
      · exact hn h'
      · exact h80 (List.mem_singleton.mp h').symm
theorem k_isData {σ : CS} {t : Tr} {p T : Nat} (hT : σ.1 34 1 = i32 T) (hT2 : T ≤ 3600) (hp : pr (fxK σ) t) (hf : fm (σ.1 35) t p) (hl : p + ln t ≤ T) : f_Signs_isData (i32 p) σ = some (if 80 ∈ enc t then i32 0 else i32 1, σ) := by
  unfold f_Signs_isData
  rw [k_behind hT hT2 hp hf hl, Option.bind_some]
  exact k_isData_l hT hT2 (pr_lt t hp) hf hl (ln t) 10000 0 (by omega) (by omega) (by simp)
end KJOIN
