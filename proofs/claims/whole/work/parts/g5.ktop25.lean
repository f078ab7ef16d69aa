section KTOP25
/-- so many laws were kept -/
def DD (τ : CS) (t : Nat) (L : Lw) (i j : Nat) : Prop := okc τ t 3 = true ∧ τ.1 t 2 = i32 i ∧ τ.1 t 3 = i32 j ∧ rfv τ t 0 = some (t + 1) ∧ okc τ (t + 1) 16 = true ∧ lnC τ (t + 1) = 3 ∧ rfv τ t 1 = some (t + 2) ∧ okc τ (t + 2) 16 = true ∧ lnC τ (t + 2) = 4 ∧ (∀ k, k < i → L.1[k]? = some none → rfv τ (t + 1) k = none) ∧ (∀ (k : Nat) (I : Tr), k < i → L.1[k]? = some (some I) → ∃ c, rfv τ (t + 1) k = some c ∧ formK τ c I) ∧ ∀ (k : Nat) (T : Tr), k < j → L.2[k]? = some T → ∃ c, rfv τ (t + 2) k = some c ∧ formK τ c T
theorem DD_law {τ : CS} {t : Nat} {L : Lw} (h : DD τ t L L.1.length L.2.length) : lawK τ t L := by
  obtain ⟨h1, h2, h3, h4, h5, h6, h7, h8, h9, h10, h11, h12⟩ := h
  exact ⟨h1, h2, h3, t + 1, t + 2, h4, h5, h6, h7, h8, h9, fun k hk => h10 k (List.getElem?_eq_some_iff.mp hk).1 hk, fun k I hk => h11 k I (List.getElem?_eq_some_iff.mp hk).1 hk, fun k T hk => h12 k T (List.getElem?_eq_some_iff.mp hk).1 hk⟩
theorem DD_H {τ υ : CS} {t i j : Nat} {L : Lw} (h : DD τ t L i j) (g : GH τ υ) : DD υ t L i j := by
  obtain ⟨h1, h2, h3, h4, h5, h6, h7, h8, h9, h10, h11, h12⟩ := h
  refine ⟨GH_okc g h1, by rw [GH_I g h1]; exact h2, by rw [GH_I g h1]; exact h3, by rw [GH_rfv g h1]; exact h4, GH_okc g h5, by rw [GH_lnC g h5]; exact h6, by rw [GH_rfv g h1]; exact h7, GH_okc g h8, by rw [GH_lnC g h8]; exact h9, fun k hk hI => by rw [GH_rfv g h5]; exact h10 k hk hI, fun k I hk hI => ?_, fun k T hk hI => ?_⟩
  · obtain ⟨c, c1, c2⟩ := h11 k I hk hI
    exact ⟨c, by rw [GH_rfv g h5]; exact c1, formK_H c2 g⟩
  · obtain ⟨c, c1, c2⟩ := h12 k T hk hI
    exact ⟨c, by rw [GH_rfv g h8]; exact c1, formK_H c2 g⟩
theorem okc_ne {σ : CS} {a b K M : Nat} (h : okc σ a K = true) (g : okc σ b M = true) (hn : K ≠ M) : a ≠ b := by
  rintro rfl
  exact hn ((okc_k h).symm.trans (okc_k g))
/-- a form stays when a row of forms and a number of laws are written -/
theorem formK_w {τ υ : CS} {t a c : Nat} {I : Tr} (h : formK τ c I) (e : υ.2.2 = τ.2.2) (e1 : ∀ j, j ≠ t → υ.1 j = τ.1 j) (e2 : ∀ j, j ≠ a → υ.2.1 j = τ.2.1 j) (ht : okc τ t 3 = true) (ha : okc τ a 16 = true) : formK υ c I := by
  obtain ⟨a1, r, a2, a3, a4, a5, a6⟩ := h
  exact ⟨by rw [okc_22 e]; exact a1, r, by rw [rfv_hi (e2 c (okc_ne a1 ha (by decide)))]; exact a2, a3, by rw [okc_22 e]; exact a4, by rw [lnC_22 e]; exact a5, fun k hk => by rw [e1 r (okc_ne a4 ht (by decide))]; exact a6 k hk⟩
theorem rfv_49 {σ : CS} {j : Nat} (h : 49 ≤ j) (k : Nat) : rfv σ j k = σ.2.1 j k := by
  unfold rfv
  rw [srf_ge h, if_pos rfl]
theorem d_fam {σ τ : CS} {t i : Nat} {L : Lw} {x : Option Nat} (g : GH σ τ) (ht : 49 + ndC σ ≤ t) (h : DD τ t L i 0) (hi : i < 3) (hx : (L.1[i]? = some none ∧ x = none) ∨ ∃ I c, L.1[i]? = some (some I) ∧ x = some c ∧ formK τ c I) : ∃ υ, f_Laws_addFamily t x τ = some (0, υ) ∧ GH σ υ ∧ ndC υ = ndC τ ∧ DD υ t L (i + 1) 0 := by
  obtain ⟨h1, h2, h3, h4, h5, h6, h7, h8, h9, h10, h11, h12⟩ := h
  unfold f_Laws_addFamily B_Laws_addFamily_28
  have hox : okr τ x 1 = true := by
    rcases hx with ⟨_, rfl⟩ | ⟨I, c, _, rfl, hf⟩
    · rfl
    · exact hf.1
  have e3 : (sR τ (t + 1) i x).1 t 2 = i32 i := h2
  rw [if_pos h1, h2, if_neg (show ¬ ((3 : Int32) ≤ i32 i) by rw [z3, z_le (by omega) (by omega)]; omega), if_pos h1, if_pos h1, h4, Option.bind_some, if_pos h5, h6, if_pos (c_ix (show i < 3 from hi) (by omega)), if_pos hox, z_nn (by omega), if_pos (show okc (sR τ (t + 1) i x) t 3 = true from h1), if_pos (show okc (sR τ (t + 1) i x) t 3 = true from h1), e3, show i32 i + 1 = i32 (i + 1) by rw [z1, z_add]]
  have u0 : (sI (sR τ (t + 1) i x) t 2 (i32 (i + 1))).2.2 = τ.2.2 := rfl
  have u1 : ∀ j, j ≠ t → (sI (sR τ (t + 1) i x) t 2 (i32 (i + 1))).1 j = τ.1 j := fun j hj => sI_row _ _ hj
  have u2 : ∀ j, j ≠ t + 1 → (sI (sR τ (t + 1) i x) t 2 (i32 (i + 1))).2.1 j = τ.2.1 j := fun j hj => sR_row _ _ _ hj
  have u3 : (sI (sR τ (t + 1) i x) t 2 (i32 (i + 1))).1 t 2 = i32 (i + 1) := sI_at _ _ _ _
  have u4 : (sI (sR τ (t + 1) i x) t 2 (i32 (i + 1))).1 t 3 = τ.1 t 3 := by rw [sI_ne _ _ (Or.inr (by decide))]; rfl
  have u5 : ∀ k, (sI (sR τ (t + 1) i x) t 2 (i32 (i + 1))).2.1 (t + 1) k = if k = i then x else τ.2.1 (t + 1) k := fun k => by
    show (sR τ (t + 1) i x).2.1 (t + 1) k = _
    by_cases hk : k = i
    · rw [hk, sR_at, if_pos rfl]
    · rw [sR_ne _ _ (Or.inr hk), if_neg hk]
  refine ⟨sI (sR τ (t + 1) i x) t 2 (i32 (i + 1)), rfl, GH_sI (GH_sR g (by omega) _ _) ht _ _, rfl, ?_⟩
  generalize sI (sR τ (t + 1) i x) t 2 (i32 (i + 1)) = υ at u0 u1 u2 u3 u4 u5
  have fw : ∀ {c : Nat} {I : Tr}, formK τ c I → formK υ c I := fun hf => formK_w hf u0 u1 u2 h1 h5
  refine ⟨by rw [okc_22 u0]; exact h1, u3, by rw [u4]; exact h3, by rw [rfv_hi (u2 t (by omega))]; exact h4, by rw [okc_22 u0]; exact h5, by rw [lnC_22 u0]; exact h6, by rw [rfv_hi (u2 t (by omega))]; exact h7, by rw [okc_22 u0]; exact h8, by rw [lnC_22 u0]; exact h9, fun k hk hI => ?_, fun k I hk hI => ?_, fun k T hk => absurd hk (Nat.not_lt_zero _)⟩
  · rw [rfv_49 (by omega), u5]
    by_cases hki : k = i
    · subst hki
      rw [if_pos rfl]
      rcases hx with ⟨_, e⟩ | ⟨I, c, e, _⟩
      · exact e
      · rw [hI] at e; injection e with e; cases e
    · rw [if_neg hki, ← rfv_49 (σ := τ) (show 49 ≤ t + 1 by omega)]
      exact h10 k (by omega) hI
  · rw [rfv_49 (by omega), u5]
    by_cases hki : k = i
    · subst hki
      rw [if_pos rfl]
      rcases hx with ⟨e, _⟩ | ⟨J, c, e, e2, e3⟩
      · rw [hI] at e; injection e with e; cases e
      · rw [hI] at e
        injection e with e
        injection e with e
        subst e
        exact ⟨c, e2, fw e3⟩
    · rw [if_neg hki, ← rfv_49 (σ := τ) (show 49 ≤ t + 1 by omega)]
      obtain ⟨c, c1, c2⟩ := h11 k I (by omega) hI
      exact ⟨c, c1, fw c2⟩
theorem d_con {σ τ : CS} {t n i c : Nat} {L : Lw} {A : Tr} (g : GH σ τ) (ht : 49 + ndC σ ≤ t) (h : DD τ t L n i) (hi : i < 4) (hA : L.2[i]? = some A) (hf : formK τ c A) : ∃ υ, f_Laws_addConstant t (some c) τ = some (0, υ) ∧ GH σ υ ∧ ndC υ = ndC τ ∧ DD υ t L n (i + 1) := by
  obtain ⟨h1, h2, h3, h4, h5, h6, h7, h8, h9, h10, h11, h12⟩ := h
  unfold f_Laws_addConstant B_Laws_addConstant_28
  have e3 : (sR τ (t + 2) i (some c)).1 t 3 = i32 i := h3
  rw [if_pos h1, h3, if_neg (show ¬ ((4 : Int32) ≤ i32 i) by rw [z4, z_le (by omega) (by omega)]; omega), if_pos h1, if_pos h1, h7, Option.bind_some, if_pos h8, h9, if_pos (c_ix (show i < 4 from hi) (by omega)), if_pos (show okr τ (some c) 1 = true from hf.1), z_nn (by omega), if_pos (show okc (sR τ (t + 2) i (some c)) t 3 = true from h1), if_pos (show okc (sR τ (t + 2) i (some c)) t 3 = true from h1), e3, show i32 i + 1 = i32 (i + 1) by rw [z1, z_add]]
  have u0 : (sI (sR τ (t + 2) i (some c)) t 3 (i32 (i + 1))).2.2 = τ.2.2 := rfl
  have u1 : ∀ j, j ≠ t → (sI (sR τ (t + 2) i (some c)) t 3 (i32 (i + 1))).1 j = τ.1 j := fun j hj => sI_row _ _ hj
  have u2 : ∀ j, j ≠ t + 2 → (sI (sR τ (t + 2) i (some c)) t 3 (i32 (i + 1))).2.1 j = τ.2.1 j := fun j hj => sR_row _ _ _ hj
  have u3 : (sI (sR τ (t + 2) i (some c)) t 3 (i32 (i + 1))).1 t 3 = i32 (i + 1) := sI_at _ _ _ _
  have u4 : (sI (sR τ (t + 2) i (some c)) t 3 (i32 (i + 1))).1 t 2 = τ.1 t 2 := by rw [sI_ne _ _ (Or.inr (by decide))]; rfl
  have u5 : ∀ k, (sI (sR τ (t + 2) i (some c)) t 3 (i32 (i + 1))).2.1 (t + 2) k = if k = i then some c else τ.2.1 (t + 2) k := fun k => by
    show (sR τ (t + 2) i (some c)).2.1 (t + 2) k = _
    by_cases hk : k = i
    · rw [hk, sR_at, if_pos rfl]
    · rw [sR_ne _ _ (Or.inr hk), if_neg hk]
  refine ⟨sI (sR τ (t + 2) i (some c)) t 3 (i32 (i + 1)), rfl, GH_sI (GH_sR g (by omega) _ _) ht _ _, rfl, ?_⟩
  generalize sI (sR τ (t + 2) i (some c)) t 3 (i32 (i + 1)) = υ at u0 u1 u2 u3 u4 u5
  have fw : ∀ {c : Nat} {I : Tr}, formK τ c I → formK υ c I := fun hf => formK_w hf u0 u1 u2 h1 h8
  refine ⟨by rw [okc_22 u0]; exact h1, by rw [u4]; exact h2, u3, by rw [rfv_hi (u2 t (by omega))]; exact h4, by rw [okc_22 u0]; exact h5, by rw [lnC_22 u0]; exact h6, by rw [rfv_hi (u2 t (by omega))]; exact h7, by rw [okc_22 u0]; exact h8, by rw [lnC_22 u0]; exact h9, fun k hk hI => by rw [rfv_hi (u2 (t + 1) (by omega))]; exact h10 k hk hI, fun k I hk hI => ?_, fun k T hk hI => ?_⟩
  · obtain ⟨d, d1, d2⟩ := h11 k I hk hI
    exact ⟨d, by rw [rfv_hi (u2 (t + 1) (by omega))]; exact d1, fw d2⟩
  · rw [rfv_49 (by omega), u5]
    by_cases hki : k = i
    · subst hki
      rw [if_pos rfl]
      rw [hA] at hI
      injection hI with hI
      subst hI
      exact ⟨c, rfl, fw hf⟩
    · rw [if_neg hki, ← rfv_49 (σ := τ) (show 49 ≤ t + 2 by omega)]
      obtain ⟨d, d1, d2⟩ := h12 k T (by omega) hI
      exact ⟨d, d1, fw d2⟩
/-- a new object of laws -/
theorem k_lawsNew (σ : CS) : ∃ τ, f_Laws_init (49 + ndC σ) (nwC σ 3 0) = some (0, τ) ∧ GH σ τ ∧ ndC τ = ndC σ + 3 ∧ ∀ L, DD τ (49 + ndC σ) L 0 0 := by
  have g0 : GH σ (nwC σ 3 0) := GH_nw σ 3 0
  have o0 : okc (nwC σ 3 0) (49 + ndC σ) 3 = true := ok_new σ 3 0
  have d0 : ndC (nwC σ 3 0) = ndC σ + 1 := rfl
  have i0 : (nwC σ 3 0).1 (49 + ndC σ) = fun _ => 0 := nw_I σ 3 0
  generalize nwC σ 3 0 = σ1 at g0 o0 d0 i0
  unfold f_Laws_init
  have g1 : GH σ1 (nwC σ1 16 3) := GH_nw σ1 16 3
  have o1 := GH_okc g1 o0
  have p1 : okc (nwC σ1 16 3) (49 + ndC σ1) 16 = true := ok_new σ1 16 3
  have l1 : lnC (nwC σ1 16 3) (49 + ndC σ1) = 3 := nw_ln σ1 16 3
  have d1 : ndC (nwC σ1 16 3) = ndC σ1 + 1 := rfl
  have i1 : (nwC σ1 16 3).1 (49 + ndC σ) = fun _ => 0 := by rw [GH_I g1 o0]; exact i0
  rw [if_pos (show decide (49 ≤ 49 + ndC σ) = true from decide_eq_true (by omega)), if_pos o1, if_pos (show decide (49 ≤ 49 + ndC σ) = true from decide_eq_true (by omega))]
  generalize nwC σ1 16 3 = σ2 at g1 o1 p1 l1 d1 i1
  have g2 : GH σ (sR σ2 (49 + ndC σ) 0 (some (49 + ndC σ1))) := GH_sR (GH_tr g0 g1) (Nat.le_refl _) _ _
  have o2 : okc (sR σ2 (49 + ndC σ) 0 (some (49 + ndC σ1))) (49 + ndC σ) 3 = true := o1
  have p2 : okc (sR σ2 (49 + ndC σ) 0 (some (49 + ndC σ1))) (49 + ndC σ1) 16 = true := p1
  have l2 : lnC (sR σ2 (49 + ndC σ) 0 (some (49 + ndC σ1))) (49 + ndC σ1) = 3 := l1
  have d2 : ndC (sR σ2 (49 + ndC σ) 0 (some (49 + ndC σ1))) = ndC σ2 := rfl
  have i2 : (sR σ2 (49 + ndC σ) 0 (some (49 + ndC σ1))).1 (49 + ndC σ) = fun _ => 0 := i1
  have r2 : (sR σ2 (49 + ndC σ) 0 (some (49 + ndC σ1))).2.1 (49 + ndC σ) 0 = some (49 + ndC σ1) := sR_at _ _ _ _
  generalize sR σ2 (49 + ndC σ) 0 (some (49 + ndC σ1)) = σ3 at g2 o2 p2 l2 d2 i2 r2
  have g3 : GH σ3 (nwC σ3 16 4) := GH_nw σ3 16 4
  have o3 := GH_okc g3 o2
  have p3 := GH_okc g3 p2
  have l3 := (GH_lnC g3 p2).trans l2
  have d3 : ndC (nwC σ3 16 4) = ndC σ3 + 1 := rfl
  have i3 : (nwC σ3 16 4).1 (49 + ndC σ) = fun _ => 0 := by rw [GH_I g3 o2]; exact i2
  have r3 : (nwC σ3 16 4).2.1 (49 + ndC σ) 0 = some (49 + ndC σ1) := by rw [(g3.2 _ (okc_lt o2)).2.2.2]; exact r2
  have q3 : okc (nwC σ3 16 4) (49 + ndC σ3) 16 = true := ok_new σ3 16 4
  have m3 : lnC (nwC σ3 16 4) (49 + ndC σ3) = 4 := nw_ln σ3 16 4
  rw [if_pos o3]
  generalize nwC σ3 16 4 = σ4 at g3 o3 p3 l3 d3 i3 r3 q3 m3
  refine ⟨_, rfl, GH_sR (GH_tr g2 g3) (Nat.le_refl _) _ _, by show ndC σ4 = _; omega, fun L => ?_⟩
  have e1 : 49 + ndC σ1 = 49 + ndC σ + 1 := by omega
  have e2 : 49 + ndC σ3 = 49 + ndC σ + 2 := by omega
  rw [e1] at p3 l3 r3
  rw [e2] at q3 m3 ⊢
  refine ⟨o3, by show σ4.1 (49 + ndC σ) 2 = _; rw [i3]; rfl, by show σ4.1 (49 + ndC σ) 3 = _; rw [i3]; rfl, ?_, p3, l3, ?_, q3, m3, fun k hk => absurd hk (Nat.not_lt_zero _), fun k I hk => absurd hk (Nat.not_lt_zero _), fun k T hk => absurd hk (Nat.not_lt_zero _)⟩
  · rw [rfv_49 (by omega), sR_ne _ _ (Or.inr (by decide))]; exact r3
  · rw [rfv_49 (by omega), sR_at]
theorem d_con_l {σ : CS} {L : Lw} {T t n0 : Nat} (hL : lwOK L) (hl : lwP L σ T) (h34 : σ.1 34 1 = i32 T) (hT : T ≤ 3600) (ht : t = 49 + ndC σ) (hn0 : n0 = ndC σ) : ∀ (d F i : Nat) (τ : CS), GH σ τ → DD τ t L L.1.length i → i + d = L.2.length → d < F → ndC τ ≤ n0 + 9 + 2 * i → ∃ υ, L_Signs_declared_59 n0 F (some t) (i32 i) τ = some (some t, υ) ∧ GH σ υ ∧ lawK υ t L ∧ ndC υ ≤ n0 + 17 := by
  have l2 := hL.2.1
  obtain ⟨l3, l5, lI, lN, lA⟩ := hl
  intro d
  induction d with
  | zero =>
    intro F i τ g hd hi hF hn
    obtain ⟨F, rfl⟩ : ∃ F', F = F' + 1 := ⟨F - 1, by omega⟩
    obtain rfl : i = L.2.length := by omega
    rw [L_Signs_declared_59, (GH_lo g (j := 34) (by omega)).1, l5, if_pos (Int32.le_refl _)]
    unfold B_Signs_declared_92
    rw [if_pos (show decide (ndC τ ≤ n0 + 17) = true from decide_eq_true (by omega))]
    exact ⟨τ, rfl, g, DD_law hd, by omega⟩
  | succ d ih =>
    intro F i τ g hd hi hF hn
    obtain ⟨F, rfl⟩ : ∃ F', F = F' + 1 := ⟨F - 1, by omega⟩
    have hA : L.2[i]? = some L.2[i] := List.getElem?_eq_getElem (by omega)
    obtain ⟨q, q1, q2, q3, q4⟩ := lA i _ hA
    have h50 : ln L.2[i] ≤ 50 := (hL.2.2.2 i _ hA).2.1
    generalize L.2[i] = A at hA q2 q3 q4 h50
    obtain ⟨ρ, r1, r2, r3, r4⟩ := k_keptForm (σ := τ) (t := A) (p := q) (T := T) (by rw [(GH_lo g (j := 34) (by omega)).1]; exact h34) hT (by rw [GH_fx g]; exact q4) (by rw [(GH_lo g (j := 35) (by omega)).1]; exact q2) q3 h50
    have hd2 := DD_H hd r2
    have g2 := GH_tr g r2
    rw [L_Signs_declared_59, (GH_lo g (j := 34) (by omega)).1, l5, if_neg (show ¬ (i32 L.2.length ≤ i32 i) by rw [z_le (by omega) (by omega)]; omega), if_neg (show ¬ ((4 : Int32) ≤ i32 i) by rw [z4, z_le (by omega) (by omega)]; omega), if_pos (c_ix (show i < lS 37 from Nat.lt_of_lt_of_le (show i < 4 by omega) (Nat.le_refl _)) (by omega)), z_nn (by omega), (GH_lo g (j := 37) (by omega)).1, q1, r1, Option.bind_some]
    dsimp only
    rw [if_pos (show (ndC ρ == ndC τ + 2) = true from beq_iff_eq.mpr r3), if_pos (show decide (ndC τ + 2 ≤ n0 + 17) = true from decide_eq_true (by omega)), Option.bind_some, if_pos hd2.1, if_pos (show decide (ndC ρ ≤ n0 + 17) = true from decide_eq_true (by omega))]
    obtain ⟨υ, u1, u2, u3, u4⟩ := d_con g2 (by omega) hd2 (show i < 4 by omega) hA r4
    rw [u1, Option.bind_some]
    dsimp only
    rw [if_pos (show (ndC υ == ndC ρ) = true from beq_iff_eq.mpr u3), z1, z_add]
    exact ih F (i + 1) υ u2 u4 (by omega) (by omega) (by omega)
theorem d_fam_l {σ : CS} {L : Lw} {T t n0 : Nat} (hL : lwOK L) (hl : lwP L σ T) (h34 : σ.1 34 1 = i32 T) (hT : T ≤ 3600) (ht : t = 49 + ndC σ) (hn0 : n0 = ndC σ) : ∀ (d F i : Nat) (τ : CS), GH σ τ → DD τ t L i 0 → i + d = L.1.length → d < F → ndC τ ≤ n0 + 3 + 2 * i → ∃ υ, L_Signs_declared_10 n0 F (some t) (i32 i) τ = some (some t, υ) ∧ GH σ υ ∧ lawK υ t L ∧ ndC υ ≤ n0 + 17 := by
  have l1 := hL.1
  have l2 := hL.2.1
  obtain ⟨l3, l5, lI, lN, lA⟩ := id hl
  intro d
  induction d with
  | zero =>
    intro F i τ g hd hi hF hn
    obtain ⟨F, rfl⟩ : ∃ F', F = F' + 1 := ⟨F - 1, by omega⟩
    obtain rfl : i = L.1.length := by omega
    rw [L_Signs_declared_10, (GH_lo g (j := 34) (by omega)).1, l3, if_pos (Int32.le_refl _)]
    unfold B_Signs_declared_57
    exact d_con_l hL hl h34 hT ht hn0 L.2.length 10000 0 τ g hd (by omega) (Nat.lt_of_lt_of_le (show L.2.length < 10 by omega) (Nat.le_of_ble_eq_true rfl)) (by omega)
  | succ d ih =>
    intro F i τ g hd hi hF hn
    obtain ⟨F, rfl⟩ : ∃ F', F = F' + 1 := ⟨F - 1, by omega⟩
    have hI : L.1[i]? = some L.1[i] := List.getElem?_eq_getElem (by omega)
    generalize L.1[i] = o at hI
    rw [L_Signs_declared_10, (GH_lo g (j := 34) (by omega)).1, l3, if_neg (show ¬ (i32 L.1.length ≤ i32 i) by rw [z_le (by omega) (by omega)]; omega), if_neg (show ¬ ((3 : Int32) ≤ i32 i) by rw [z3, z_le (by omega) (by omega)]; omega), if_pos (c_ix (show i < lS 36 from Nat.lt_of_lt_of_le (show i < 3 by omega) (Nat.le_refl _)) (by omega)), z_nn (by omega), (GH_lo g (j := 36) (by omega)).1]
    cases o with
    | none =>
      rw [lN i hI, if_pos rfl]
      unfold B_Signs_declared_48
      rw [Option.bind_some, if_pos hd.1, if_pos (show decide (ndC τ ≤ n0 + 17) = true from decide_eq_true (by omega))]
      obtain ⟨υ, u1, u2, u3, u4⟩ := d_fam g (by omega) hd (show i < 3 by omega) (Or.inl ⟨hI, rfl⟩)
      rw [u1, Option.bind_some]
      dsimp only
      rw [if_pos (show (ndC υ == ndC τ) = true from beq_iff_eq.mpr u3), z1, z_add]
      exact ih F (i + 1) υ u2 u4 (by omega) (by omega) (by omega)
    | some I =>
      obtain ⟨q, q1, q2, q3, q4⟩ := lI i I hI
      have h50 : ln I ≤ 50 := (hL.2.2.1 i I hI).2.2.1
      obtain ⟨ρ, r1, r2, r3, r4⟩ := k_keptForm (σ := τ) (t := I) (p := q) (T := T) (by rw [(GH_lo g (j := 34) (by omega)).1]; exact h34) hT (by rw [GH_fx g]; exact q4) (by rw [(GH_lo g (j := 35) (by omega)).1]; exact q2) q3 h50
      have hd2 := DD_H hd r2
      have g2 := GH_tr g r2
      rw [q1, if_neg (i32_1 (by omega)), if_pos (c_ix (show i < lS 36 from Nat.lt_of_lt_of_le (show i < 3 by omega) (Nat.le_refl _)) (by omega)), r1, Option.bind_some]
      dsimp only
      rw [if_pos (show (ndC ρ == ndC τ + 2) = true from beq_iff_eq.mpr r3), if_pos (show decide (ndC τ + 2 ≤ n0 + 17) = true from decide_eq_true (by omega))]
      unfold B_Signs_declared_48
      rw [Option.bind_some, if_pos hd2.1, if_pos (show decide (ndC ρ ≤ n0 + 17) = true from decide_eq_true (by omega))]
      obtain ⟨υ, u1, u2, u3, u4⟩ := d_fam g2 (by omega) hd2 (show i < 3 by omega) (Or.inr ⟨I, _, hI, rfl, r4⟩)
      rw [u1, Option.bind_some]
      dsimp only
      rw [if_pos (show (ndC υ == ndC ρ) = true from beq_iff_eq.mpr u3), z1, z_add]
      exact ih F (i + 1) υ u2 u4 (by omega) (by omega) (by omega)
/-- what is declared is kept -/
theorem k_declared {σ : CS} {L : Lw} {T : Nat} (hL : lwOK L) (hl : lwP L σ T) (h34 : σ.1 34 1 = i32 T) (hT : T ≤ 3600) : ∃ τ, f_Signs_declared σ = some (some (49 + ndC σ), τ) ∧ GH σ τ ∧ lawK τ (49 + ndC σ) L ∧ ndC τ ≤ ndC σ + 17 := by
  have l1 := hL.1
  unfold f_Signs_declared g_Signs_declared
  obtain ⟨τ, t1, t2, t3, t4⟩ := k_lawsNew σ
  rw [t1, Option.bind_some]
  dsimp only
  rw [if_pos (show (ndC τ == ndC (nwC σ 3 0) + 2) = true from beq_iff_eq.mpr t3)]
  exact d_fam_l hL hl h34 hT rfl rfl L.1.length 10000 0 τ t2 (t4 L) (by omega) (Nat.lt_of_lt_of_le (show L.1.length < 10 by omega) (Nat.le_of_ble_eq_true rfl)) (by omega)
end KTOP25
